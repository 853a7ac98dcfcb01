section
-- ===== PART A: goes FIRST, ahead of the names: the tables' words, and 'selects' of the private methods out of them =====
/-- a private method of a class that the tables say can be made, by its rows of tables_1 -/
def lw_okq (q : MethodName × Nat) : Prop := (q.1.cls ≠ "java/lang/invoke/MethodHandle" ∧ q.1.cls ≠ "java/lang/invoke/VarHandle") ∧ Cond.instantiable q.1.cls q.2 ∈ tables_1 ∧ Cond.privateMethod q.1 ∈ tables_1 ∧ Cond.instanceMethod q.1 ∈ tables_1
theorem lw_p0 : lw_okq (⟨"LentCourage$Text", "readLetters", "()V"⟩, 6) := ⟨⟨by decide +kernel, by decide +kernel⟩, List.mem_of_getElem? (i := 25) (by decide +kernel), List.mem_of_getElem? (i := 388) (by decide +kernel), List.mem_of_getElem? (i := 389) (by decide +kernel)⟩
theorem lw_p1 : lw_okq (⟨"LentCourage$Text", "readNumber", "()V"⟩, 6) := ⟨⟨by decide +kernel, by decide +kernel⟩, List.mem_of_getElem? (i := 25) (by decide +kernel), List.mem_of_getElem? (i := 395) (by decide +kernel), List.mem_of_getElem? (i := 396) (by decide +kernel)⟩
theorem lw_p2 : lw_okq (⟨"LentCourage$PortReader", "readItem", "(LLentCourage$Text;LLentCourage$Port;)Z"⟩, 2) := ⟨⟨by decide +kernel, by decide +kernel⟩, List.mem_of_getElem? (i := 56) (by decide +kernel), List.mem_of_getElem? (i := 399) (by decide +kernel), List.mem_of_getElem? (i := 400) (by decide +kernel)⟩
theorem lw_p3 : lw_okq (⟨"LentCourage$PortReader", "readOne", "(LLentCourage$Text;LLentCourage$Port;)Z"⟩, 2) := ⟨⟨by decide +kernel, by decide +kernel⟩, List.mem_of_getElem? (i := 56) (by decide +kernel), List.mem_of_getElem? (i := 403) (by decide +kernel), List.mem_of_getElem? (i := 404) (by decide +kernel)⟩
theorem lw_p4 : lw_okq (⟨"LentCourage$PortReader", "readDeed", "(LLentCourage$Text;LLentCourage$Port;)Z"⟩, 2) := ⟨⟨by decide +kernel, by decide +kernel⟩, List.mem_of_getElem? (i := 56) (by decide +kernel), List.mem_of_getElem? (i := 413) (by decide +kernel), List.mem_of_getElem? (i := 414) (by decide +kernel)⟩
theorem lw_p5 : lw_okq (⟨"LentCourage$PortReader", "readOffice", "(LLentCourage$Text;LLentCourage$Port;)Z"⟩, 2) := ⟨⟨by decide +kernel, by decide +kernel⟩, List.mem_of_getElem? (i := 56) (by decide +kernel), List.mem_of_getElem? (i := 417) (by decide +kernel), List.mem_of_getElem? (i := 418) (by decide +kernel)⟩
theorem lw_p6 : lw_okq (⟨"LentCourage$PortReader", "readFree", "(LLentCourage$Text;LLentCourage$Port;)Z"⟩, 2) := ⟨⟨by decide +kernel, by decide +kernel⟩, List.mem_of_getElem? (i := 56) (by decide +kernel), List.mem_of_getElem? (i := 421) (by decide +kernel), List.mem_of_getElem? (i := 422) (by decide +kernel)⟩
theorem lw_p7 : lw_okq (⟨"LentCourage", "beginStep", "()V"⟩, 14) := ⟨⟨by decide +kernel, by decide +kernel⟩, List.mem_of_getElem? (i := 17) (by decide +kernel), List.mem_of_getElem? (i := 476) (by decide +kernel), List.mem_of_getElem? (i := 477) (by decide +kernel)⟩
theorem lw_p8 : lw_okq (⟨"LentCourage$Ledger", "loseOldest", "()V"⟩, 3) := ⟨⟨by decide +kernel, by decide +kernel⟩, List.mem_of_getElem? (i := 154) (by decide +kernel), List.mem_of_getElem? (i := 484) (by decide +kernel), List.mem_of_getElem? (i := 485) (by decide +kernel)⟩
theorem lw_p9 : lw_okq (⟨"LentCourage$Round", "tryRows", "(LLentCourage$Port;LLentCourage$Way;III)V"⟩, 5) := ⟨⟨by decide +kernel, by decide +kernel⟩, List.mem_of_getElem? (i := 257) (by decide +kernel), List.mem_of_getElem? (i := 579) (by decide +kernel), List.mem_of_getElem? (i := 580) (by decide +kernel)⟩
theorem lw_p10 : lw_okq (⟨"LentCourage$Round", "rememberRow", "(III)V"⟩, 5) := ⟨⟨by decide +kernel, by decide +kernel⟩, List.mem_of_getElem? (i := 257) (by decide +kernel), List.mem_of_getElem? (i := 583) (by decide +kernel), List.mem_of_getElem? (i := 584) (by decide +kernel)⟩
theorem lw_p11 : lw_okq (⟨"LentCourage$Round", "canBecomeBetter", "(LLentCourage$Port;LLentCourage$Way;II)Z"⟩, 5) := ⟨⟨by decide +kernel, by decide +kernel⟩, List.mem_of_getElem? (i := 257) (by decide +kernel), List.mem_of_getElem? (i := 588) (by decide +kernel), List.mem_of_getElem? (i := 589) (by decide +kernel)⟩
theorem lw_p12 : lw_okq (⟨"LentCourage$SpoonCount", "findFollower", "(LLentCourage$Port;II)Z"⟩, 2) := ⟨⟨by decide +kernel, by decide +kernel⟩, List.mem_of_getElem? (i := 283) (by decide +kernel), List.mem_of_getElem? (i := 616) (by decide +kernel), List.mem_of_getElem? (i := 617) (by decide +kernel)⟩
theorem lw_p13 : lw_okq (⟨"LentCourage$Odds", "countWays", "(II)V"⟩, 3) := ⟨⟨by decide +kernel, by decide +kernel⟩, List.mem_of_getElem? (i := 296) (by decide +kernel), List.mem_of_getElem? (i := 647) (by decide +kernel), List.mem_of_getElem? (i := 648) (by decide +kernel)⟩
theorem lw_p14 : lw_okq (⟨"LentCourage$Odds", "takeOut", "(II)V"⟩, 3) := ⟨⟨by decide +kernel, by decide +kernel⟩, List.mem_of_getElem? (i := 296) (by decide +kernel), List.mem_of_getElem? (i := 651) (by decide +kernel), List.mem_of_getElem? (i := 652) (by decide +kernel)⟩
theorem lw_p15 : lw_okq (⟨"LentCourage$Heard", "latestBy", "(I)I"⟩, 3) := ⟨⟨by decide +kernel, by decide +kernel⟩, List.mem_of_getElem? (i := 216) (by decide +kernel), List.mem_of_getElem? (i := 684) (by decide +kernel), List.mem_of_getElem? (i := 685) (by decide +kernel)⟩
def lw_privs_1 : List (MethodName × Nat) := [(⟨"LentCourage$Text", "readLetters", "()V"⟩, 6), (⟨"LentCourage$Text", "readNumber", "()V"⟩, 6), (⟨"LentCourage$PortReader", "readItem", "(LLentCourage$Text;LLentCourage$Port;)Z"⟩, 2), (⟨"LentCourage$PortReader", "readOne", "(LLentCourage$Text;LLentCourage$Port;)Z"⟩, 2), (⟨"LentCourage$PortReader", "readDeed", "(LLentCourage$Text;LLentCourage$Port;)Z"⟩, 2), (⟨"LentCourage$PortReader", "readOffice", "(LLentCourage$Text;LLentCourage$Port;)Z"⟩, 2), (⟨"LentCourage$PortReader", "readFree", "(LLentCourage$Text;LLentCourage$Port;)Z"⟩, 2), (⟨"LentCourage", "beginStep", "()V"⟩, 14), (⟨"LentCourage$Ledger", "loseOldest", "()V"⟩, 3), (⟨"LentCourage$Round", "tryRows", "(LLentCourage$Port;LLentCourage$Way;III)V"⟩, 5), (⟨"LentCourage$Round", "rememberRow", "(III)V"⟩, 5), (⟨"LentCourage$Round", "canBecomeBetter", "(LLentCourage$Port;LLentCourage$Way;II)Z"⟩, 5), (⟨"LentCourage$SpoonCount", "findFollower", "(LLentCourage$Port;II)Z"⟩, 2), (⟨"LentCourage$Odds", "countWays", "(II)V"⟩, 3), (⟨"LentCourage$Odds", "takeOut", "(II)V"⟩, 3), (⟨"LentCourage$Heard", "latestBy", "(I)I"⟩, 3)]
theorem lw_r1 : ∀ q ∈ lw_privs_1, lw_okq q := List.forall_mem_cons.mpr ⟨lw_p0, List.forall_mem_cons.mpr ⟨lw_p1, List.forall_mem_cons.mpr ⟨lw_p2, List.forall_mem_cons.mpr ⟨lw_p3, List.forall_mem_cons.mpr ⟨lw_p4, List.forall_mem_cons.mpr ⟨lw_p5, List.forall_mem_cons.mpr ⟨lw_p6, List.forall_mem_cons.mpr ⟨lw_p7, List.forall_mem_cons.mpr ⟨lw_p8, List.forall_mem_cons.mpr ⟨lw_p9, List.forall_mem_cons.mpr ⟨lw_p10, List.forall_mem_cons.mpr ⟨lw_p11, List.forall_mem_cons.mpr ⟨lw_p12, List.forall_mem_cons.mpr ⟨lw_p13, List.forall_mem_cons.mpr ⟨lw_p14, List.forall_mem_cons.mpr ⟨lw_p15, fun _ h => absurd h List.not_mem_nil⟩⟩⟩⟩⟩⟩⟩⟩⟩⟩⟩⟩⟩⟩⟩⟩
theorem lw_p16 : lw_okq (⟨"LentCourage$Heard", "earliestFrom", "(I)I"⟩, 3) := ⟨⟨by decide +kernel, by decide +kernel⟩, List.mem_of_getElem? (i := 216) (by decide +kernel), List.mem_of_getElem? (i := 688) (by decide +kernel), List.mem_of_getElem? (i := 689) (by decide +kernel)⟩
theorem lw_p17 : lw_okq (⟨"LentCourage$Heard", "whoDid", "(LLentCourage$Port;I)I"⟩, 3) := ⟨⟨by decide +kernel, by decide +kernel⟩, List.mem_of_getElem? (i := 216) (by decide +kernel), List.mem_of_getElem? (i := 692) (by decide +kernel), List.mem_of_getElem? (i := 693) (by decide +kernel)⟩
theorem lw_p18 : lw_okq (⟨"LentCourage$Heard", "isNear", "(LLentCourage$Port;III)Z"⟩, 3) := ⟨⟨by decide +kernel, by decide +kernel⟩, List.mem_of_getElem? (i := 216) (by decide +kernel), List.mem_of_getElem? (i := 696) (by decide +kernel), List.mem_of_getElem? (i := 697) (by decide +kernel)⟩
theorem lw_p19 : lw_okq (⟨"LentCourage", "markOfOne", "(I)I"⟩, 14) := ⟨⟨by decide +kernel, by decide +kernel⟩, List.mem_of_getElem? (i := 17) (by decide +kernel), List.mem_of_getElem? (i := 705) (by decide +kernel), List.mem_of_getElem? (i := 706) (by decide +kernel)⟩
theorem lw_p20 : lw_okq (⟨"LentCourage", "markOfFriend", "(I)I"⟩, 14) := ⟨⟨by decide +kernel, by decide +kernel⟩, List.mem_of_getElem? (i := 17) (by decide +kernel), List.mem_of_getElem? (i := 709) (by decide +kernel), List.mem_of_getElem? (i := 710) (by decide +kernel)⟩
theorem lw_p21 : lw_okq (⟨"LentCourage", "markOfThief", "(I)I"⟩, 14) := ⟨⟨by decide +kernel, by decide +kernel⟩, List.mem_of_getElem? (i := 17) (by decide +kernel), List.mem_of_getElem? (i := 714) (by decide +kernel), List.mem_of_getElem? (i := 715) (by decide +kernel)⟩
theorem lw_p22 : lw_okq (⟨"LentCourage", "markOfWidow", "(I)I"⟩, 14) := ⟨⟨by decide +kernel, by decide +kernel⟩, List.mem_of_getElem? (i := 17) (by decide +kernel), List.mem_of_getElem? (i := 719) (by decide +kernel), List.mem_of_getElem? (i := 720) (by decide +kernel)⟩
theorem lw_p23 : lw_okq (⟨"LentCourage", "markOfPilot", "(I)I"⟩, 14) := ⟨⟨by decide +kernel, by decide +kernel⟩, List.mem_of_getElem? (i := 17) (by decide +kernel), List.mem_of_getElem? (i := 724) (by decide +kernel), List.mem_of_getElem? (i := 725) (by decide +kernel)⟩
theorem lw_p24 : lw_okq (⟨"LentCourage", "markOfClerk", "(I)I"⟩, 14) := ⟨⟨by decide +kernel, by decide +kernel⟩, List.mem_of_getElem? (i := 17) (by decide +kernel), List.mem_of_getElem? (i := 729) (by decide +kernel), List.mem_of_getElem? (i := 730) (by decide +kernel)⟩
theorem lw_p25 : lw_okq (⟨"LentCourageModel", "reads", "()Z"⟩, 22) := ⟨⟨by decide +kernel, by decide +kernel⟩, List.mem_of_getElem? (i := 754) (by decide +kernel), List.mem_of_getElem? (i := 760) (by decide +kernel), List.mem_of_getElem? (i := 761) (by decide +kernel)⟩
theorem lw_p26 : lw_okq (⟨"LentCourageModel", "token", "()V"⟩, 22) := ⟨⟨by decide +kernel, by decide +kernel⟩, List.mem_of_getElem? (i := 754) (by decide +kernel), List.mem_of_getElem? (i := 764) (by decide +kernel), List.mem_of_getElem? (i := 765) (by decide +kernel)⟩
theorem lw_p27 : lw_okq (⟨"LentCourageModel", "letterAt", "(I)I"⟩, 22) := ⟨⟨by decide +kernel, by decide +kernel⟩, List.mem_of_getElem? (i := 754) (by decide +kernel), List.mem_of_getElem? (i := 768) (by decide +kernel), List.mem_of_getElem? (i := 769) (by decide +kernel)⟩
theorem lw_p28 : lw_okq (⟨"LentCourageModel", "readsItem", "()Z"⟩, 22) := ⟨⟨by decide +kernel, by decide +kernel⟩, List.mem_of_getElem? (i := 754) (by decide +kernel), List.mem_of_getElem? (i := 781) (by decide +kernel), List.mem_of_getElem? (i := 782) (by decide +kernel)⟩
theorem lw_p29 : lw_okq (⟨"LentCourageModel", "number", "(III)Z"⟩, 22) := ⟨⟨by decide +kernel, by decide +kernel⟩, List.mem_of_getElem? (i := 754) (by decide +kernel), List.mem_of_getElem? (i := 785) (by decide +kernel), List.mem_of_getElem? (i := 786) (by decide +kernel)⟩
theorem lw_p30 : lw_okq (⟨"LentCourageModel", "once", "(III)Z"⟩, 22) := ⟨⟨by decide +kernel, by decide +kernel⟩, List.mem_of_getElem? (i := 754) (by decide +kernel), List.mem_of_getElem? (i := 789) (by decide +kernel), List.mem_of_getElem? (i := 790) (by decide +kernel)⟩
theorem lw_p31 : lw_okq (⟨"LentCourageModel", "begins", "()V"⟩, 22) := ⟨⟨by decide +kernel, by decide +kernel⟩, List.mem_of_getElem? (i := 754) (by decide +kernel), List.mem_of_getElem? (i := 793) (by decide +kernel), List.mem_of_getElem? (i := 794) (by decide +kernel)⟩
def lw_privs_2 : List (MethodName × Nat) := [(⟨"LentCourage$Heard", "earliestFrom", "(I)I"⟩, 3), (⟨"LentCourage$Heard", "whoDid", "(LLentCourage$Port;I)I"⟩, 3), (⟨"LentCourage$Heard", "isNear", "(LLentCourage$Port;III)Z"⟩, 3), (⟨"LentCourage", "markOfOne", "(I)I"⟩, 14), (⟨"LentCourage", "markOfFriend", "(I)I"⟩, 14), (⟨"LentCourage", "markOfThief", "(I)I"⟩, 14), (⟨"LentCourage", "markOfWidow", "(I)I"⟩, 14), (⟨"LentCourage", "markOfPilot", "(I)I"⟩, 14), (⟨"LentCourage", "markOfClerk", "(I)I"⟩, 14), (⟨"LentCourageModel", "reads", "()Z"⟩, 22), (⟨"LentCourageModel", "token", "()V"⟩, 22), (⟨"LentCourageModel", "letterAt", "(I)I"⟩, 22), (⟨"LentCourageModel", "readsItem", "()Z"⟩, 22), (⟨"LentCourageModel", "number", "(III)Z"⟩, 22), (⟨"LentCourageModel", "once", "(III)Z"⟩, 22), (⟨"LentCourageModel", "begins", "()V"⟩, 22)]
theorem lw_r2 : ∀ q ∈ lw_privs_2, lw_okq q := List.forall_mem_cons.mpr ⟨lw_p16, List.forall_mem_cons.mpr ⟨lw_p17, List.forall_mem_cons.mpr ⟨lw_p18, List.forall_mem_cons.mpr ⟨lw_p19, List.forall_mem_cons.mpr ⟨lw_p20, List.forall_mem_cons.mpr ⟨lw_p21, List.forall_mem_cons.mpr ⟨lw_p22, List.forall_mem_cons.mpr ⟨lw_p23, List.forall_mem_cons.mpr ⟨lw_p24, List.forall_mem_cons.mpr ⟨lw_p25, List.forall_mem_cons.mpr ⟨lw_p26, List.forall_mem_cons.mpr ⟨lw_p27, List.forall_mem_cons.mpr ⟨lw_p28, List.forall_mem_cons.mpr ⟨lw_p29, List.forall_mem_cons.mpr ⟨lw_p30, List.forall_mem_cons.mpr ⟨lw_p31, fun _ h => absurd h List.not_mem_nil⟩⟩⟩⟩⟩⟩⟩⟩⟩⟩⟩⟩⟩⟩⟩⟩
theorem lw_p32 : lw_okq (⟨"LentCourageModel", "isOne", "(I)Z"⟩, 22) := ⟨⟨by decide +kernel, by decide +kernel⟩, List.mem_of_getElem? (i := 754) (by decide +kernel), List.mem_of_getElem? (i := 880) (by decide +kernel), List.mem_of_getElem? (i := 881) (by decide +kernel)⟩
theorem lw_p33 : lw_okq (⟨"LentCourageModel", "care", "(I)I"⟩, 22) := ⟨⟨by decide +kernel, by decide +kernel⟩, List.mem_of_getElem? (i := 754) (by decide +kernel), List.mem_of_getElem? (i := 884) (by decide +kernel), List.mem_of_getElem? (i := 885) (by decide +kernel)⟩
theorem lw_p34 : lw_okq (⟨"LentCourageModel", "isDeed", "(I)Z"⟩, 22) := ⟨⟨by decide +kernel, by decide +kernel⟩, List.mem_of_getElem? (i := 754) (by decide +kernel), List.mem_of_getElem? (i := 892) (by decide +kernel), List.mem_of_getElem? (i := 893) (by decide +kernel)⟩
theorem lw_p35 : lw_okq (⟨"LentCourageModel", "isDone", "(I)Z"⟩, 22) := ⟨⟨by decide +kernel, by decide +kernel⟩, List.mem_of_getElem? (i := 754) (by decide +kernel), List.mem_of_getElem? (i := 896) (by decide +kernel), List.mem_of_getElem? (i := 897) (by decide +kernel)⟩
theorem lw_p36 : lw_okq (⟨"LentCourageModel", "spoonAt", "()I"⟩, 22) := ⟨⟨by decide +kernel, by decide +kernel⟩, List.mem_of_getElem? (i := 754) (by decide +kernel), List.mem_of_getElem? (i := 907) (by decide +kernel), List.mem_of_getElem? (i := 908) (by decide +kernel)⟩
theorem lw_p37 : lw_okq (⟨"LentCourageModel", "isHeld", "()Z"⟩, 22) := ⟨⟨by decide +kernel, by decide +kernel⟩, List.mem_of_getElem? (i := 754) (by decide +kernel), List.mem_of_getElem? (i := 911) (by decide +kernel), List.mem_of_getElem? (i := 912) (by decide +kernel)⟩
theorem lw_p38 : lw_okq (⟨"LentCourageModel", "remembers", "()V"⟩, 22) := ⟨⟨by decide +kernel, by decide +kernel⟩, List.mem_of_getElem? (i := 754) (by decide +kernel), List.mem_of_getElem? (i := 915) (by decide +kernel), List.mem_of_getElem? (i := 916) (by decide +kernel)⟩
theorem lw_p39 : lw_okq (⟨"LentCourageModel", "gives", "()I"⟩, 22) := ⟨⟨by decide +kernel, by decide +kernel⟩, List.mem_of_getElem? (i := 754) (by decide +kernel), List.mem_of_getElem? (i := 919) (by decide +kernel), List.mem_of_getElem? (i := 920) (by decide +kernel)⟩
theorem lw_p40 : lw_okq (⟨"LentCourageModel", "worthDone", "()I"⟩, 22) := ⟨⟨by decide +kernel, by decide +kernel⟩, List.mem_of_getElem? (i := 754) (by decide +kernel), List.mem_of_getElem? (i := 942) (by decide +kernel), List.mem_of_getElem? (i := 943) (by decide +kernel)⟩
theorem lw_p41 : lw_okq (⟨"LentCourageModel", "rounds", "()V"⟩, 22) := ⟨⟨by decide +kernel, by decide +kernel⟩, List.mem_of_getElem? (i := 754) (by decide +kernel), List.mem_of_getElem? (i := 958) (by decide +kernel), List.mem_of_getElem? (i := 959) (by decide +kernel)⟩
theorem lw_p42 : lw_okq (⟨"LentCourageModel", "mayBe", "(II)Z"⟩, 22) := ⟨⟨by decide +kernel, by decide +kernel⟩, List.mem_of_getElem? (i := 754) (by decide +kernel), List.mem_of_getElem? (i := 962) (by decide +kernel), List.mem_of_getElem? (i := 963) (by decide +kernel)⟩
theorem lw_p43 : lw_okq (⟨"LentCourageModel", "wayOf", "(I)I"⟩, 22) := ⟨⟨by decide +kernel, by decide +kernel⟩, List.mem_of_getElem? (i := 754) (by decide +kernel), List.mem_of_getElem? (i := 966) (by decide +kernel), List.mem_of_getElem? (i := 967) (by decide +kernel)⟩
theorem lw_p44 : lw_okq (⟨"LentCourageModel", "worthOf", "(I)I"⟩, 22) := ⟨⟨by decide +kernel, by decide +kernel⟩, List.mem_of_getElem? (i := 754) (by decide +kernel), List.mem_of_getElem? (i := 970) (by decide +kernel), List.mem_of_getElem? (i := 971) (by decide +kernel)⟩
theorem lw_p45 : lw_okq (⟨"LentCourageModel", "comes", "(III)Z"⟩, 22) := ⟨⟨by decide +kernel, by decide +kernel⟩, List.mem_of_getElem? (i := 754) (by decide +kernel), List.mem_of_getElem? (i := 978) (by decide +kernel), List.mem_of_getElem? (i := 979) (by decide +kernel)⟩
def lw_privs_3 : List (MethodName × Nat) := [(⟨"LentCourageModel", "isOne", "(I)Z"⟩, 22), (⟨"LentCourageModel", "care", "(I)I"⟩, 22), (⟨"LentCourageModel", "isDeed", "(I)Z"⟩, 22), (⟨"LentCourageModel", "isDone", "(I)Z"⟩, 22), (⟨"LentCourageModel", "spoonAt", "()I"⟩, 22), (⟨"LentCourageModel", "isHeld", "()Z"⟩, 22), (⟨"LentCourageModel", "remembers", "()V"⟩, 22), (⟨"LentCourageModel", "gives", "()I"⟩, 22), (⟨"LentCourageModel", "worthDone", "()I"⟩, 22), (⟨"LentCourageModel", "rounds", "()V"⟩, 22), (⟨"LentCourageModel", "mayBe", "(II)Z"⟩, 22), (⟨"LentCourageModel", "wayOf", "(I)I"⟩, 22), (⟨"LentCourageModel", "worthOf", "(I)I"⟩, 22), (⟨"LentCourageModel", "comes", "(III)Z"⟩, 22)]
theorem lw_r3 : ∀ q ∈ lw_privs_3, lw_okq q := List.forall_mem_cons.mpr ⟨lw_p32, List.forall_mem_cons.mpr ⟨lw_p33, List.forall_mem_cons.mpr ⟨lw_p34, List.forall_mem_cons.mpr ⟨lw_p35, List.forall_mem_cons.mpr ⟨lw_p36, List.forall_mem_cons.mpr ⟨lw_p37, List.forall_mem_cons.mpr ⟨lw_p38, List.forall_mem_cons.mpr ⟨lw_p39, List.forall_mem_cons.mpr ⟨lw_p40, List.forall_mem_cons.mpr ⟨lw_p41, List.forall_mem_cons.mpr ⟨lw_p42, List.forall_mem_cons.mpr ⟨lw_p43, List.forall_mem_cons.mpr ⟨lw_p44, List.forall_mem_cons.mpr ⟨lw_p45, fun _ h => absurd h List.not_mem_nil⟩⟩⟩⟩⟩⟩⟩⟩⟩⟩⟩⟩⟩⟩
def lw_privs : List (MethodName × Nat) := lw_privs_1 ++ (lw_privs_2 ++ (lw_privs_3))
def lw_tbl : List Cond := k2_sels lw_privs ++ tables_1
theorem lw_privs_ok : ∀ q ∈ lw_privs, lw_okq q := by
  show ∀ q ∈ lw_privs_1 ++ (lw_privs_2 ++ (lw_privs_3)), lw_okq q
  exact List.forall_mem_append.mpr ⟨lw_r1, List.forall_mem_append.mpr ⟨lw_r2, lw_r3⟩⟩
-- ===== end of PART A; then your names; then what follows =====
end
section
/-! ===== BEGIN words of one list among another's, by their places ===== -/
theorem goodIn_r {big : List Cond} (ws : List Cond) (ps : List Nat) (hp : ws = ps.filterMap (fun i => big[i]?)) (h : ws.all goodWord = true) : GoodIn big ws := by
  intro w hw
  have h1 := List.all_eq_true.mp h w hw
  rw [hp] at hw
  obtain ⟨i, -, hi⟩ := List.mem_filterMap.mp hw
  have hm : w ∈ big := by first | exact List.mem_of_getElem? hi | exact List.getElem?_mem hi
  exact ⟨hm, good_of_word h1⟩
theorem goodIn_app {big a b : List Cond} (ha : GoodIn big a) (hb : GoodIn big b) : GoodIn big (a ++ b) := fun w h => (List.mem_append.mp h).elim (ha w) (hb w)
theorem goodIn_ca {big a b : List Cond} {c : Cond} (ha : GoodIn big (c :: a)) (hb : GoodIn big b) : GoodIn big (c :: (a ++ b)) := fun w h => (List.mem_cons.mp h).elim (fun e => ha w (List.mem_cons.mpr (Or.inl e))) (fun h => (List.mem_append.mp h).elim (fun h => ha w (List.mem_cons.mpr (Or.inr h))) (hb w))
theorem goodIn_sub {big ws : List Cond} (hm : ∀ w ∈ ws, w ∈ big) (h : ws.all goodWord = true) : GoodIn big ws := fun w hw => ⟨hm w hw, good_of_word (List.all_eq_true.mp h w hw)⟩
/-! ===== END ===== -/

/-! ===== BEGIN printed: names, fields, word lists, decode rows ===== -/
def RX0 : String := "LentCourage$Heard"
def TX0 : u_T := fun k => match k with
  | 0 => ("LentCourage$Heard", "size", "I", false)
  | 1 => ("LentCourage$Heard", "deed", "[I", true)
  | _ => ("LentCourage$Heard", "hour", "[I", true)
def tyX0 : Nat → FieldType := fun k => match k with
  | 0 => .int
  | 1 => .array .int
  | _ => .array .int
abbrev wsX00 : List Cond := u_ws RX0 TX0 3
theorem nmX0 : ∀ a, a < 3 → ∀ b, b < 3 → a ≠ b → (TX0 a).2.1 ≠ (TX0 b).2.1 := by decide +kernel
theorem tyX0_ok : ∀ k, k < 3 → parseFieldDescriptor (TX0 k).2.2.1 = some (tyX0 k) := by decide +kernel
abbrev cX0_init : ByteArray := prog_2_method_1_code
def yX0_init : MethodName := ⟨RX0, "<init>", "()V"⟩
abbrev cX0_insert : ByteArray := prog_2_method_2_code
def yX0_insert : MethodName := ⟨RX0, "insert", "(II)V"⟩
abbrev cX0_tooSoon : ByteArray := prog_2_method_3_code
def yX0_tooSoon : MethodName := ⟨RX0, "tooSoon", "(LLentCourage$Port;)I"⟩
abbrev cX0_possibleHolders : ByteArray := prog_2_method_4_code
def yX0_possibleHolders : MethodName := ⟨RX0, "possibleHolders", "(LLentCourage$Port;I)I"⟩
abbrev cX0_latestBy : ByteArray := prog_2_method_5_code
def yX0_latestBy : MethodName := ⟨RX0, "latestBy", "(I)I"⟩
abbrev cX0_earliestFrom : ByteArray := prog_2_method_6_code
def yX0_earliestFrom : MethodName := ⟨RX0, "earliestFrom", "(I)I"⟩
abbrev cX0_whoDid : ByteArray := prog_2_method_7_code
def yX0_whoDid : MethodName := ⟨RX0, "whoDid", "(LLentCourage$Port;I)I"⟩
abbrev cX0_isNear : ByteArray := prog_2_method_8_code
def yX0_isNear : MethodName := ⟨RX0, "isNear", "(LLentCourage$Port;III)Z"⟩
def RX1 : String := "LentCourage$Ledger"
def TX1 : u_T := fun k => match k with
  | 0 => ("LentCourage$Ledger", "present", "LLentCourage$Moment;", true)
  | 1 => ("LentCourage$Ledger", "past", "[LLentCourage$Moment;", true)
  | _ => ("LentCourage$Ledger", "steps", "I", false)
def tyX1 : Nat → FieldType := fun k => match k with
  | 0 => .object "LentCourage$Moment"
  | 1 => .array (.object "LentCourage$Moment")
  | _ => .int
abbrev wsX10 : List Cond := u_ws RX1 TX1 3
theorem nmX1 : ∀ a, a < 3 → ∀ b, b < 3 → a ≠ b → (TX1 a).2.1 ≠ (TX1 b).2.1 := by decide +kernel
theorem tyX1_ok : ∀ k, k < 3 → parseFieldDescriptor (TX1 k).2.2.1 = some (tyX1 k) := by decide +kernel
abbrev cX1_init : ByteArray := prog_3_method_1_code
def yX1_init : MethodName := ⟨RX1, "<init>", "()V"⟩
abbrev cX1_begin : ByteArray := prog_3_method_2_code
def yX1_begin : MethodName := ⟨RX1, "begin", "(LLentCourage$Port;)V"⟩
abbrev cX1_rememberStep : ByteArray := prog_3_method_3_code
def yX1_rememberStep : MethodName := ⟨RX1, "rememberStep", "()V"⟩
abbrev cX1_loseOldest : ByteArray := prog_3_method_4_code
def yX1_loseOldest : MethodName := ⟨RX1, "loseOldest", "()V"⟩
abbrev cX1_undoStep : ByteArray := prog_3_method_5_code
def yX1_undoStep : MethodName := ⟨RX1, "undoStep", "()V"⟩
abbrev cX1_copyFrom : ByteArray := prog_3_method_6_code
def yX1_copyFrom : MethodName := ⟨RX1, "copyFrom", "(LLentCourage$Ledger;)V"⟩
def RX2 : String := "LentCourage$Moment"
def TX2 : u_T := fun k => match k with
  | 0 => ("LentCourage$Moment", "hour", "I", false)
  | 1 => ("LentCourage$Moment", "holder", "I", false)
  | 2 => ("LentCourage$Moment", "since", "I", false)
  | 3 => ("LentCourage$Moment", "fresh", "Z", false)
  | 4 => ("LentCourage$Moment", "done", "I", false)
  | 5 => ("LentCourage$Moment", "at", "[I", true)
  | 6 => ("LentCourage$Moment", "lastHeld", "[I", true)
  | _ => ("LentCourage$Moment", "owed", "[I", true)
def tyX2 : Nat → FieldType := fun k => match k with
  | 0 => .int
  | 1 => .int
  | 2 => .int
  | 3 => .boolean
  | 4 => .int
  | 5 => .array .int
  | 6 => .array .int
  | _ => .array .int
abbrev wsX20 : List Cond := u_ws RX2 TX2 8
theorem nmX2 : ∀ a, a < 8 → ∀ b, b < 8 → a ≠ b → (TX2 a).2.1 ≠ (TX2 b).2.1 := by decide +kernel
theorem tyX2_ok : ∀ k, k < 8 → parseFieldDescriptor (TX2 k).2.2.1 = some (tyX2 k) := by decide +kernel
abbrev cX2_init : ByteArray := prog_4_method_1_code
def yX2_init : MethodName := ⟨RX2, "<init>", "()V"⟩
abbrev cX2_begin : ByteArray := prog_4_method_2_code
def yX2_begin : MethodName := ⟨RX2, "begin", "(LLentCourage$Port;)V"⟩
abbrev cX2_copyFrom : ByteArray := prog_4_method_3_code
def yX2_copyFrom : MethodName := ⟨RX2, "copyFrom", "(LLentCourage$Moment;)V"⟩
abbrev cX2_isHeld : ByteArray := prog_4_method_4_code
def yX2_isHeld : MethodName := ⟨RX2, "isHeld", "()Z"⟩
abbrev cX2_isDone : ByteArray := prog_4_method_5_code
def yX2_isDone : MethodName := ⟨RX2, "isDone", "(I)Z"⟩
abbrev cX2_spoonPlace : ByteArray := prog_4_method_6_code
def yX2_spoonPlace : MethodName := ⟨RX2, "spoonPlace", "(LLentCourage$Port;)I"⟩
abbrev cX2_careOf : ByteArray := prog_4_method_7_code
def yX2_careOf : MethodName := ⟨RX2, "careOf", "(I)I"⟩
abbrev cX2_heldFor : ByteArray := prog_4_method_8_code
def yX2_heldFor : MethodName := ⟨RX2, "heldFor", "()I"⟩
abbrev cX2_giveAway : ByteArray := prog_4_method_9_code
def yX2_giveAway : MethodName := ⟨RX2, "giveAway", "(I)I"⟩
abbrev cX2_receive : ByteArray := prog_4_method_10_code
def yX2_receive : MethodName := ⟨RX2, "receive", "(I)V"⟩
abbrev cX2_walkTo : ByteArray := prog_4_method_11_code
def yX2_walkTo : MethodName := ⟨RX2, "walkTo", "(II)V"⟩
abbrev cX2_canDo : ByteArray := prog_4_method_12_code
def yX2_canDo : MethodName := ⟨RX2, "canDo", "(LLentCourage$Port;I)Z"⟩
abbrev cX2_worthDone : ByteArray := prog_4_method_13_code
def yX2_worthDone : MethodName := ⟨RX2, "worthDone", "(LLentCourage$Port;)I"⟩
abbrev cX2_owedByAll : ByteArray := prog_4_method_14_code
def yX2_owedByAll : MethodName := ⟨RX2, "owedByAll", "()I"⟩
abbrev cX2_openDeeds : ByteArray := prog_4_method_15_code
def yX2_openDeeds : MethodName := ⟨RX2, "openDeeds", "(LLentCourage$Port;)I"⟩
def RX3 : String := "LentCourage$Odds"
def TX3 : u_T := fun k => match k with
  | 0 => ("LentCourage$Odds", "upper", "I", false)
  | 1 => ("LentCourage$Odds", "lower", "I", false)
  | _ => ("LentCourage$Odds", "ways", "[I", true)
def tyX3 : Nat → FieldType := fun k => match k with
  | 0 => .int
  | 1 => .int
  | _ => .array .int
abbrev wsX30 : List Cond := u_ws RX3 TX3 3
theorem nmX3 : ∀ a, a < 3 → ∀ b, b < 3 → a ≠ b → (TX3 a).2.1 ≠ (TX3 b).2.1 := by decide +kernel
theorem tyX3_ok : ∀ k, k < 3 → parseFieldDescriptor (TX3 k).2.2.1 = some (tyX3 k) := by decide +kernel
abbrev cX3_init : ByteArray := prog_5_method_1_code
def yX3_init : MethodName := ⟨RX3, "<init>", "()V"⟩
abbrev cX3_find : ByteArray := prog_5_method_2_code
def yX3_find : MethodName := ⟨RX3, "find", "(III)V"⟩
abbrev cX3_countWays : ByteArray := prog_5_method_3_code
def yX3_countWays : MethodName := ⟨RX3, "countWays", "(II)V"⟩
abbrev cX3_takeOut : ByteArray := prog_5_method_4_code
def yX3_takeOut : MethodName := ⟨RX3, "takeOut", "(II)V"⟩
def RX4 : String := "LentCourage$Port"
def TX4 : u_T := fun k => match k with
  | 0 => ("LentCourage$Port", "office", "I", false)
  | 1 => ("LentCourage$Port", "free", "I", false)
  | 2 => ("LentCourage$Port", "people", "I", false)
  | 3 => ("LentCourage$Port", "deeds", "I", false)
  | 4 => ("LentCourage$Port", "home", "[I", true)
  | 5 => ("LentCourage$Port", "who", "[I", true)
  | 6 => ("LentCourage$Port", "place", "[I", true)
  | 7 => ("LentCourage$Port", "from", "[I", true)
  | 8 => ("LentCourage$Port", "till", "[I", true)
  | _ => ("LentCourage$Port", "worth", "[I", true)
def tyX4 : Nat → FieldType := fun k => match k with
  | 0 => .int
  | 1 => .int
  | 2 => .int
  | 3 => .int
  | 4 => .array .int
  | 5 => .array .int
  | 6 => .array .int
  | 7 => .array .int
  | 8 => .array .int
  | _ => .array .int
abbrev wsX40 : List Cond := u_ws RX4 TX4 10
theorem nmX4 : ∀ a, a < 10 → ∀ b, b < 10 → a ≠ b → (TX4 a).2.1 ≠ (TX4 b).2.1 := by decide +kernel
theorem tyX4_ok : ∀ k, k < 10 → parseFieldDescriptor (TX4 k).2.2.1 = some (tyX4 k) := by decide +kernel
abbrev cX4_init : ByteArray := prog_6_method_1_code
def yX4_init : MethodName := ⟨RX4, "<init>", "()V"⟩
abbrev cX4_empty : ByteArray := prog_6_method_2_code
def yX4_empty : MethodName := ⟨RX4, "empty", "()V"⟩
abbrev cX4_hasOne : ByteArray := prog_6_method_3_code
def yX4_hasOne : MethodName := ⟨RX4, "hasOne", "(I)Z"⟩
abbrev cX4_hasDeed : ByteArray := prog_6_method_4_code
def yX4_hasDeed : MethodName := ⟨RX4, "hasDeed", "(I)Z"⟩
abbrev cX4_copyFrom : ByteArray := prog_6_method_5_code
def yX4_copyFrom : MethodName := ⟨RX4, "copyFrom", "(LLentCourage$Port;)V"⟩
def RX5 : String := "LentCourage$PortReader"
def TX5 : u_T := fun k => match k with
  | 0 => ("LentCourage$PortReader", "officeTold", "Z", false)
  | _ => ("LentCourage$PortReader", "freeTold", "Z", false)
def tyX5 : Nat → FieldType := fun k => match k with
  | 0 => .boolean
  | _ => .boolean
abbrev wsX50 : List Cond := u_ws RX5 TX5 2
theorem nmX5 : ∀ a, a < 2 → ∀ b, b < 2 → a ≠ b → (TX5 a).2.1 ≠ (TX5 b).2.1 := by decide +kernel
theorem tyX5_ok : ∀ k, k < 2 → parseFieldDescriptor (TX5 k).2.2.1 = some (tyX5 k) := by decide +kernel
abbrev cX5_init : ByteArray := prog_7_method_1_code
def yX5_init : MethodName := ⟨RX5, "<init>", "()V"⟩
abbrev cX5_read : ByteArray := prog_7_method_2_code
def yX5_read : MethodName := ⟨RX5, "read", "(LLentCourage$Text;LLentCourage$Port;)I"⟩
abbrev cX5_readItem : ByteArray := prog_7_method_3_code
def yX5_readItem : MethodName := ⟨RX5, "readItem", "(LLentCourage$Text;LLentCourage$Port;)Z"⟩
abbrev cX5_readOne : ByteArray := prog_7_method_4_code
def yX5_readOne : MethodName := ⟨RX5, "readOne", "(LLentCourage$Text;LLentCourage$Port;)Z"⟩
abbrev cX5_readDeed : ByteArray := prog_7_method_5_code
def yX5_readDeed : MethodName := ⟨RX5, "readDeed", "(LLentCourage$Text;LLentCourage$Port;)Z"⟩
abbrev cX5_readOffice : ByteArray := prog_7_method_6_code
def yX5_readOffice : MethodName := ⟨RX5, "readOffice", "(LLentCourage$Text;LLentCourage$Port;)Z"⟩
abbrev cX5_readFree : ByteArray := prog_7_method_7_code
def yX5_readFree : MethodName := ⟨RX5, "readFree", "(LLentCourage$Text;LLentCourage$Port;)Z"⟩
abbrev cX5_readNumber : ByteArray := prog_7_method_8_code
def yX5_readNumber : MethodName := ⟨RX5, "readNumber", "(LLentCourage$Text;II)Z"⟩
abbrev cX5_readStop : ByteArray := prog_7_method_9_code
def yX5_readStop : MethodName := ⟨RX5, "readStop", "(LLentCourage$Text;)Z"⟩
def RX6 : String := "LentCourage$Round"
def TX6 : u_T := fun k => match k with
  | 0 => ("LentCourage$Round", "row", "[I", true)
  | 1 => ("LentCourage$Round", "length", "I", false)
  | 2 => ("LentCourage$Round", "worth", "I", false)
  | 3 => ("LentCourage$Round", "hour", "I", false)
  | _ => ("LentCourage$Round", "tried", "[I", true)
def tyX6 : Nat → FieldType := fun k => match k with
  | 0 => .array .int
  | 1 => .int
  | 2 => .int
  | 3 => .int
  | _ => .array .int
abbrev wsX60 : List Cond := u_ws RX6 TX6 5
theorem nmX6 : ∀ a, a < 5 → ∀ b, b < 5 → a ≠ b → (TX6 a).2.1 ≠ (TX6 b).2.1 := by decide +kernel
theorem tyX6_ok : ∀ k, k < 5 → parseFieldDescriptor (TX6 k).2.2.1 = some (tyX6 k) := by decide +kernel
abbrev cX6_init : ByteArray := prog_8_method_1_code
def yX6_init : MethodName := ⟨RX6, "<init>", "()V"⟩
abbrev cX6_find : ByteArray := prog_8_method_2_code
def yX6_find : MethodName := ⟨RX6, "find", "(LLentCourage$Port;LLentCourage$Moment;LLentCourage$Way;)V"⟩
abbrev cX6_tryRows : ByteArray := prog_8_method_3_code
def yX6_tryRows : MethodName := ⟨RX6, "tryRows", "(LLentCourage$Port;LLentCourage$Way;III)V"⟩
abbrev cX6_rememberRow : ByteArray := prog_8_method_4_code
def yX6_rememberRow : MethodName := ⟨RX6, "rememberRow", "(III)V"⟩
abbrev cX6_canBecomeBetter : ByteArray := prog_8_method_5_code
def yX6_canBecomeBetter : MethodName := ⟨RX6, "canBecomeBetter", "(LLentCourage$Port;LLentCourage$Way;II)Z"⟩
def RX7 : String := "LentCourage$SpoonCount"
def TX7 : u_T := fun k => match k with
  | 0 => ("LentCourage$SpoonCount", "leader", "[I", true)
  | _ => ("LentCourage$SpoonCount", "seen", "I", false)
def tyX7 : Nat → FieldType := fun k => match k with
  | 0 => .array .int
  | _ => .int
abbrev wsX70 : List Cond := u_ws RX7 TX7 2
theorem nmX7 : ∀ a, a < 2 → ∀ b, b < 2 → a ≠ b → (TX7 a).2.1 ≠ (TX7 b).2.1 := by decide +kernel
theorem tyX7_ok : ∀ k, k < 2 → parseFieldDescriptor (TX7 k).2.2.1 = some (tyX7 k) := by decide +kernel
abbrev cX7_init : ByteArray := prog_9_method_1_code
def yX7_init : MethodName := ⟨RX7, "<init>", "()V"⟩
abbrev cX7_fewest : ByteArray := prog_9_method_2_code
def yX7_fewest : MethodName := ⟨RX7, "fewest", "(LLentCourage$Port;)I"⟩
abbrev cX7_findFollower : ByteArray := prog_9_method_3_code
def yX7_findFollower : MethodName := ⟨RX7, "findFollower", "(LLentCourage$Port;II)Z"⟩
abbrev cX7_canFollow : ByteArray := prog_9_method_4_code
def yX7_canFollow : MethodName := ⟨RX7, "canFollow", "(LLentCourage$Port;II)Z"⟩
abbrev cX7_canGo : ByteArray := prog_9_method_5_code
def yX7_canGo : MethodName := ⟨RX7, "canGo", "(LLentCourage$Port;III)Z"⟩
def RX8 : String := "LentCourage$Text"
def TX8 : u_T := fun k => match k with
  | 0 => ("LentCourage$Text", "bytes", "[I", true)
  | 1 => ("LentCourage$Text", "length", "I", false)
  | 2 => ("LentCourage$Text", "start", "I", false)
  | 3 => ("LentCourage$Text", "next", "I", false)
  | 4 => ("LentCourage$Text", "sort", "I", false)
  | _ => ("LentCourage$Text", "value", "I", false)
def tyX8 : Nat → FieldType := fun k => match k with
  | 0 => .array .int
  | 1 => .int
  | 2 => .int
  | 3 => .int
  | 4 => .int
  | _ => .int
abbrev wsX80 : List Cond := u_ws RX8 TX8 6
theorem nmX8 : ∀ a, a < 6 → ∀ b, b < 6 → a ≠ b → (TX8 a).2.1 ≠ (TX8 b).2.1 := by decide +kernel
theorem tyX8_ok : ∀ k, k < 6 → parseFieldDescriptor (TX8 k).2.2.1 = some (tyX8 k) := by decide +kernel
abbrev cX8_init : ByteArray := prog_10_method_1_code
def yX8_init : MethodName := ⟨RX8, "<init>", "()V"⟩
abbrev cX8_goToStart : ByteArray := prog_10_method_2_code
def yX8_goToStart : MethodName := ⟨RX8, "goToStart", "()V"⟩
abbrev cX8_readToken : ByteArray := prog_10_method_3_code
def yX8_readToken : MethodName := ⟨RX8, "readToken", "()V"⟩
abbrev cX8_readLetters : ByteArray := prog_10_method_4_code
def yX8_readLetters : MethodName := ⟨RX8, "readLetters", "()V"⟩
abbrev cX8_readNumber : ByteArray := prog_10_method_5_code
def yX8_readNumber : MethodName := ⟨RX8, "readNumber", "()V"⟩
abbrev cX8_isLetter : ByteArray := prog_10_method_6_code
def yX8_isLetter : MethodName := ⟨RX8, "isLetter", "(I)Z"⟩
abbrev cX8_isDigit : ByteArray := prog_10_method_7_code
def yX8_isDigit : MethodName := ⟨RX8, "isDigit", "(I)Z"⟩
def RX9 : String := "LentCourage$Way"
def TX9 : u_T := fun k => match k with
  | 0 => ("LentCourage$Way", "at", "[I", true)
  | 1 => ("LentCourage$Way", "spoon", "I", false)
  | 2 => ("LentCourage$Way", "hour", "I", false)
  | _ => ("LentCourage$Way", "ahead", "I", false)
def tyX9 : Nat → FieldType := fun k => match k with
  | 0 => .array .int
  | 1 => .int
  | 2 => .int
  | _ => .int
abbrev wsX90 : List Cond := u_ws RX9 TX9 4
theorem nmX9 : ∀ a, a < 4 → ∀ b, b < 4 → a ≠ b → (TX9 a).2.1 ≠ (TX9 b).2.1 := by decide +kernel
theorem tyX9_ok : ∀ k, k < 4 → parseFieldDescriptor (TX9 k).2.2.1 = some (tyX9 k) := by decide +kernel
abbrev cX9_init : ByteArray := prog_11_method_1_code
def yX9_init : MethodName := ⟨RX9, "<init>", "()V"⟩
abbrev cX9_begin : ByteArray := prog_11_method_2_code
def yX9_begin : MethodName := ⟨RX9, "begin", "(LLentCourage$Port;LLentCourage$Moment;)V"⟩
abbrev cX9_hourOfNext : ByteArray := prog_11_method_3_code
def yX9_hourOfNext : MethodName := ⟨RX9, "hourOfNext", "(LLentCourage$Port;I)I"⟩
abbrev cX9_add : ByteArray := prog_11_method_4_code
def yX9_add : MethodName := ⟨RX9, "add", "(LLentCourage$Port;II)V"⟩
def RX10 : String := "LentCourage"
def TX10 : u_T := fun k => match k with
  | 0 => ("LentCourage", "text", "LLentCourage$Text;", true)
  | 1 => ("LentCourage", "reader", "LLentCourage$PortReader;", true)
  | 2 => ("LentCourage", "port", "LLentCourage$Port;", true)
  | 3 => ("LentCourage", "draft", "LLentCourage$Port;", true)
  | 4 => ("LentCourage", "ledger", "LLentCourage$Ledger;", true)
  | 5 => ("LentCourage", "images", "[LLentCourage$Ledger;", true)
  | 6 => ("LentCourage", "imageKept", "[Z", true)
  | 7 => ("LentCourage", "heard", "LLentCourage$Heard;", true)
  | 8 => ("LentCourage", "way", "LLentCourage$Way;", true)
  | 9 => ("LentCourage", "best", "LLentCourage$Round;", true)
  | 10 => ("LentCourage", "spoonCount", "LLentCourage$SpoonCount;", true)
  | 11 => ("LentCourage", "chances", "LLentCourage$Odds;", true)
  | 12 => ("LentCourage", "traced", "J", false)
  | _ => ("LentCourage", "bestIsKnown", "Z", false)
def tyX10 : Nat → FieldType := fun k => match k with
  | 0 => .object "LentCourage$Text"
  | 1 => .object "LentCourage$PortReader"
  | 2 => .object "LentCourage$Port"
  | 3 => .object "LentCourage$Port"
  | 4 => .object "LentCourage$Ledger"
  | 5 => .array (.object "LentCourage$Ledger")
  | 6 => .array .boolean
  | 7 => .object "LentCourage$Heard"
  | 8 => .object "LentCourage$Way"
  | 9 => .object "LentCourage$Round"
  | 10 => .object "LentCourage$SpoonCount"
  | 11 => .object "LentCourage$Odds"
  | 12 => .long
  | _ => .boolean
abbrev wsX100 : List Cond := u_ws RX10 TX10 14
theorem nmX10 : ∀ a, a < 14 → ∀ b, b < 14 → a ≠ b → (TX10 a).2.1 ≠ (TX10 b).2.1 := by decide +kernel
theorem tyX10_ok : ∀ k, k < 14 → parseFieldDescriptor (TX10 k).2.2.1 = some (tyX10 k) := by decide +kernel
abbrev cX10_init : ByteArray := prog_1_method_1_code
def yX10_init : MethodName := ⟨RX10, "<init>", "()V"⟩
abbrev cX10_type : ByteArray := prog_1_method_2_code
def yX10_type : MethodName := ⟨RX10, "type", "(I)I"⟩
abbrev cX10_clear : ByteArray := prog_1_method_3_code
def yX10_clear : MethodName := ⟨RX10, "clear", "()I"⟩
abbrev cX10_port : ByteArray := prog_1_method_4_code
def yX10_port : MethodName := ⟨RX10, "port", "()I"⟩
abbrev cX10_one : ByteArray := prog_1_method_5_code
def yX10_one : MethodName := ⟨RX10, "one", "(II)I"⟩
abbrev cX10_deed : ByteArray := prog_1_method_6_code
def yX10_deed : MethodName := ⟨RX10, "deed", "(II)I"⟩
abbrev cX10_lends : ByteArray := prog_1_method_7_code
def yX10_lends : MethodName := ⟨RX10, "lends", "(I)I"⟩
abbrev cX10_brings : ByteArray := prog_1_method_8_code
def yX10_brings : MethodName := ⟨RX10, "brings", "()I"⟩
abbrev cX10_walks : ByteArray := prog_1_method_9_code
def yX10_walks : MethodName := ⟨RX10, "walks", "(I)I"⟩
abbrev cX10_keeps : ByteArray := prog_1_method_10_code
def yX10_keeps : MethodName := ⟨RX10, "keeps", "(I)I"⟩
abbrev cX10_does : ByteArray := prog_1_method_11_code
def yX10_does : MethodName := ⟨RX10, "does", "(I)I"⟩
abbrev cX10_undo : ByteArray := prog_1_method_12_code
def yX10_undo : MethodName := ⟨RX10, "undo", "()I"⟩
abbrev cX10_now : ByteArray := prog_1_method_13_code
def yX10_now : MethodName := ⟨RX10, "now", "(I)I"⟩
abbrev cX10_beginStep : ByteArray := prog_1_method_14_code
def yX10_beginStep : MethodName := ⟨RX10, "beginStep", "()V"⟩
abbrev cX10_round : ByteArray := prog_1_method_15_code
def yX10_round : MethodName := ⟨RX10, "round", "(I)I"⟩
abbrev cX10_spoons : ByteArray := prog_1_method_16_code
def yX10_spoons : MethodName := ⟨RX10, "spoons", "()I"⟩
abbrev cX10_drawn : ByteArray := prog_1_method_17_code
def yX10_drawn : MethodName := ⟨RX10, "drawn", "(II)I"⟩
abbrev cX10_odds : ByteArray := prog_1_method_18_code
def yX10_odds : MethodName := ⟨RX10, "odds", "(III)I"⟩
abbrev cX10_hears : ByteArray := prog_1_method_19_code
def yX10_hears : MethodName := ⟨RX10, "hears", "(II)I"⟩
abbrev cX10_forget : ByteArray := prog_1_method_20_code
def yX10_forget : MethodName := ⟨RX10, "forget", "()I"⟩
abbrev cX10_lies : ByteArray := prog_1_method_21_code
def yX10_lies : MethodName := ⟨RX10, "lies", "()I"⟩
abbrev cX10_had : ByteArray := prog_1_method_22_code
def yX10_had : MethodName := ⟨RX10, "had", "(I)I"⟩
abbrev cX10_mark : ByteArray := prog_1_method_23_code
def yX10_mark : MethodName := ⟨RX10, "mark", "(II)I"⟩
abbrev cX10_markOfOne : ByteArray := prog_1_method_24_code
def yX10_markOfOne : MethodName := ⟨RX10, "markOfOne", "(I)I"⟩
abbrev cX10_markOfFriend : ByteArray := prog_1_method_25_code
def yX10_markOfFriend : MethodName := ⟨RX10, "markOfFriend", "(I)I"⟩
abbrev cX10_markOfThief : ByteArray := prog_1_method_26_code
def yX10_markOfThief : MethodName := ⟨RX10, "markOfThief", "(I)I"⟩
abbrev cX10_markOfWidow : ByteArray := prog_1_method_27_code
def yX10_markOfWidow : MethodName := ⟨RX10, "markOfWidow", "(I)I"⟩
abbrev cX10_markOfPilot : ByteArray := prog_1_method_28_code
def yX10_markOfPilot : MethodName := ⟨RX10, "markOfPilot", "(I)I"⟩
abbrev cX10_markOfClerk : ByteArray := prog_1_method_29_code
def yX10_markOfClerk : MethodName := ⟨RX10, "markOfClerk", "(I)I"⟩
abbrev cX10_keep : ByteArray := prog_1_method_30_code
def yX10_keep : MethodName := ⟨RX10, "keep", "(I)I"⟩
abbrev cX10_back : ByteArray := prog_1_method_31_code
def yX10_back : MethodName := ⟨RX10, "back", "(I)I"⟩
abbrev cX10_count : ByteArray := prog_1_method_32_code
def yX10_count : MethodName := ⟨RX10, "count", "(I)I"⟩
abbrev cX10_trace : ByteArray := prog_1_method_33_code
def yX10_trace : MethodName := ⟨RX10, "trace", "()J"⟩
def RX11 : String := "LentCourageModel"
def TX11 : u_T := fun k => match k with
  | 0 => ("LentCourageModel", "trace", "J", false)
  | 1 => ("LentCourageModel", "text", "[I", true)
  | 2 => ("LentCourageModel", "typed", "I", false)
  | 3 => ("LentCourageModel", "told", "[I", true)
  | 4 => ("LentCourageModel", "draft", "[I", true)
  | 5 => ("LentCourageModel", "s", "[I", true)
  | 6 => ("LentCourageModel", "images", "[I", true)
  | 7 => ("LentCourageModel", "kept", "[Z", true)
  | 8 => ("LentCourageModel", "heard", "[I", true)
  | 9 => ("LentCourageModel", "hours", "[I", true)
  | 10 => ("LentCourageModel", "noted", "I", false)
  | 11 => ("LentCourageModel", "at", "I", false)
  | 12 => ("LentCourageModel", "sort", "I", false)
  | 13 => ("LentCourageModel", "start", "I", false)
  | 14 => ("LentCourageModel", "value", "I", false)
  | 15 => ("LentCourageModel", "row", "[I", true)
  | 16 => ("LentCourageModel", "best", "[I", true)
  | 17 => ("LentCourageModel", "bestMany", "I", false)
  | 18 => ("LentCourageModel", "bestWorth", "I", false)
  | 19 => ("LentCourageModel", "bestHour", "I", false)
  | 20 => ("LentCourageModel", "places", "[I", true)
  | _ => ("LentCourageModel", "pairs", "[I", true)
def tyX11 : Nat → FieldType := fun k => match k with
  | 0 => .long
  | 1 => .array .int
  | 2 => .int
  | 3 => .array .int
  | 4 => .array .int
  | 5 => .array .int
  | 6 => .array .int
  | 7 => .array .boolean
  | 8 => .array .int
  | 9 => .array .int
  | 10 => .int
  | 11 => .int
  | 12 => .int
  | 13 => .int
  | 14 => .int
  | 15 => .array .int
  | 16 => .array .int
  | 17 => .int
  | 18 => .int
  | 19 => .int
  | 20 => .array .int
  | _ => .array .int
abbrev wsX110 : List Cond := u_ws RX11 TX11 22
theorem nmX11 : ∀ a, a < 22 → ∀ b, b < 22 → a ≠ b → (TX11 a).2.1 ≠ (TX11 b).2.1 := by decide +kernel
theorem tyX11_ok : ∀ k, k < 22 → parseFieldDescriptor (TX11 k).2.2.1 = some (tyX11 k) := by decide +kernel
abbrev cX11_init : ByteArray := prog_13_method_1_code
def yX11_init : MethodName := ⟨RX11, "<init>", "()V"⟩
abbrev cX11_in : ByteArray := prog_13_method_3_code
def yX11_in : MethodName := ⟨RX11, "in", "(III)Z"⟩
abbrev cX11_has : ByteArray := prog_13_method_4_code
def yX11_has : MethodName := ⟨RX11, "has", "(II)Z"⟩
abbrev cX11_far : ByteArray := prog_13_method_5_code
def yX11_far : MethodName := ⟨RX11, "far", "(II)I"⟩
abbrev cX11_isOne : ByteArray := prog_13_method_6_code
def yX11_isOne : MethodName := ⟨RX11, "isOne", "(I)Z"⟩
abbrev cX11_isDeed : ByteArray := prog_13_method_7_code
def yX11_isDeed : MethodName := ⟨RX11, "isDeed", "(I)Z"⟩
abbrev cX11_type : ByteArray := prog_13_method_8_code
def yX11_type : MethodName := ⟨RX11, "type", "(I)I"⟩
abbrev cX11_clear : ByteArray := prog_13_method_9_code
def yX11_clear : MethodName := ⟨RX11, "clear", "()I"⟩
abbrev cX11_letterAt : ByteArray := prog_13_method_10_code
def yX11_letterAt : MethodName := ⟨RX11, "letterAt", "(I)I"⟩
abbrev cX11_isLetter : ByteArray := prog_13_method_11_code
def yX11_isLetter : MethodName := ⟨RX11, "isLetter", "(I)Z"⟩
abbrev cX11_isDigit : ByteArray := prog_13_method_12_code
def yX11_isDigit : MethodName := ⟨RX11, "isDigit", "(I)Z"⟩
abbrev cX11_token : ByteArray := prog_13_method_13_code
def yX11_token : MethodName := ⟨RX11, "token", "()V"⟩
abbrev cX11_number : ByteArray := prog_13_method_14_code
def yX11_number : MethodName := ⟨RX11, "number", "(III)Z"⟩
abbrev cX11_once : ByteArray := prog_13_method_15_code
def yX11_once : MethodName := ⟨RX11, "once", "(III)Z"⟩
abbrev cX11_readsItem : ByteArray := prog_13_method_16_code
def yX11_readsItem : MethodName := ⟨RX11, "readsItem", "()Z"⟩
abbrev cX11_reads : ByteArray := prog_13_method_17_code
def yX11_reads : MethodName := ⟨RX11, "reads", "()Z"⟩
abbrev cX11_begins : ByteArray := prog_13_method_18_code
def yX11_begins : MethodName := ⟨RX11, "begins", "()V"⟩
abbrev cX11_port : ByteArray := prog_13_method_19_code
def yX11_port : MethodName := ⟨RX11, "port", "()I"⟩
abbrev cX11_isHeld : ByteArray := prog_13_method_20_code
def yX11_isHeld : MethodName := ⟨RX11, "isHeld", "()Z"⟩
abbrev cX11_care : ByteArray := prog_13_method_21_code
def yX11_care : MethodName := ⟨RX11, "care", "(I)I"⟩
abbrev cX11_one : ByteArray := prog_13_method_22_code
def yX11_one : MethodName := ⟨RX11, "one", "(II)I"⟩
abbrev cX11_isDone : ByteArray := prog_13_method_23_code
def yX11_isDone : MethodName := ⟨RX11, "isDone", "(I)Z"⟩
abbrev cX11_deed : ByteArray := prog_13_method_24_code
def yX11_deed : MethodName := ⟨RX11, "deed", "(II)I"⟩
abbrev cX11_remembers : ByteArray := prog_13_method_25_code
def yX11_remembers : MethodName := ⟨RX11, "remembers", "()V"⟩
abbrev cX11_gives : ByteArray := prog_13_method_26_code
def yX11_gives : MethodName := ⟨RX11, "gives", "()I"⟩
abbrev cX11_spoonAt : ByteArray := prog_13_method_27_code
def yX11_spoonAt : MethodName := ⟨RX11, "spoonAt", "()I"⟩
abbrev cX11_lends : ByteArray := prog_13_method_28_code
def yX11_lends : MethodName := ⟨RX11, "lends", "(I)I"⟩
abbrev cX11_brings : ByteArray := prog_13_method_29_code
def yX11_brings : MethodName := ⟨RX11, "brings", "()I"⟩
abbrev cX11_walks : ByteArray := prog_13_method_30_code
def yX11_walks : MethodName := ⟨RX11, "walks", "(I)I"⟩
abbrev cX11_keeps : ByteArray := prog_13_method_31_code
def yX11_keeps : MethodName := ⟨RX11, "keeps", "(I)I"⟩
abbrev cX11_worthDone : ByteArray := prog_13_method_32_code
def yX11_worthDone : MethodName := ⟨RX11, "worthDone", "()I"⟩
abbrev cX11_does : ByteArray := prog_13_method_33_code
def yX11_does : MethodName := ⟨RX11, "does", "(I)I"⟩
abbrev cX11_undo : ByteArray := prog_13_method_34_code
def yX11_undo : MethodName := ⟨RX11, "undo", "()I"⟩
abbrev cX11_now : ByteArray := prog_13_method_35_code
def yX11_now : MethodName := ⟨RX11, "now", "(I)I"⟩
abbrev cX11_wayOf : ByteArray := prog_13_method_36_code
def yX11_wayOf : MethodName := ⟨RX11, "wayOf", "(I)I"⟩
abbrev cX11_mayBe : ByteArray := prog_13_method_37_code
def yX11_mayBe : MethodName := ⟨RX11, "mayBe", "(II)Z"⟩
abbrev cX11_worthOf : ByteArray := prog_13_method_38_code
def yX11_worthOf : MethodName := ⟨RX11, "worthOf", "(I)I"⟩
abbrev cX11_rounds : ByteArray := prog_13_method_39_code
def yX11_rounds : MethodName := ⟨RX11, "rounds", "()V"⟩
abbrev cX11_round : ByteArray := prog_13_method_40_code
def yX11_round : MethodName := ⟨RX11, "round", "(I)I"⟩
abbrev cX11_comes : ByteArray := prog_13_method_41_code
def yX11_comes : MethodName := ⟨RX11, "comes", "(III)Z"⟩
abbrev cX11_spoons : ByteArray := prog_13_method_42_code
def yX11_spoons : MethodName := ⟨RX11, "spoons", "()I"⟩
abbrev cX11_drawn : ByteArray := prog_13_method_43_code
def yX11_drawn : MethodName := ⟨RX11, "drawn", "(II)I"⟩
abbrev cX11_odds : ByteArray := prog_13_method_44_code
def yX11_odds : MethodName := ⟨RX11, "odds", "(III)I"⟩
abbrev cX11_hears : ByteArray := prog_13_method_45_code
def yX11_hears : MethodName := ⟨RX11, "hears", "(II)I"⟩
abbrev cX11_forget : ByteArray := prog_13_method_46_code
def yX11_forget : MethodName := ⟨RX11, "forget", "()I"⟩
abbrev cX11_lies : ByteArray := prog_13_method_47_code
def yX11_lies : MethodName := ⟨RX11, "lies", "()I"⟩
abbrev cX11_had : ByteArray := prog_13_method_48_code
def yX11_had : MethodName := ⟨RX11, "had", "(I)I"⟩
abbrev cX11_mark : ByteArray := prog_13_method_49_code
def yX11_mark : MethodName := ⟨RX11, "mark", "(II)I"⟩
abbrev cX11_keep : ByteArray := prog_13_method_50_code
def yX11_keep : MethodName := ⟨RX11, "keep", "(I)I"⟩
abbrev cX11_back : ByteArray := prog_13_method_51_code
def yX11_back : MethodName := ⟨RX11, "back", "(I)I"⟩
abbrev cX11_count : ByteArray := prog_13_method_52_code
def yX11_count : MethodName := ⟨RX11, "count", "(I)I"⟩
abbrev cX11_trace : ByteArray := prog_13_method_53_code
def yX11_trace : MethodName := ⟨RX11, "trace", "()J"⟩
def RJ6 : String := "java/lang/Integer"
def TJ6 : u_T := fun k => match k with
  | _ => ("", "", "", false)
def tyJ6 : Nat → FieldType := fun k => match k with
  | _ => .int
abbrev wsJ60 : List Cond := u_ws RJ6 TJ6 0
theorem nmJ6 : ∀ a, a < 0 → ∀ b, b < 0 → a ≠ b → (TJ6 a).2.1 ≠ (TJ6 b).2.1 := by decide +kernel
theorem tyJ6_ok : ∀ k, k < 0 → parseFieldDescriptor (TJ6 k).2.2.1 = some (tyJ6 k) := by decide +kernel
abbrev cJ6_bitCount_0f7a4 : ByteArray := prog_14_method_49_code
def yJ6_bitCount_0f7a4 : MethodName := ⟨RJ6, "bitCount", "(I)I"⟩
def RJ9 : String := "java/lang/Math"
def TJ9 : u_T := fun k => match k with
  | _ => ("", "", "", false)
def tyJ9 : Nat → FieldType := fun k => match k with
  | _ => .int
abbrev wsJ90 : List Cond := u_ws RJ9 TJ9 0
theorem nmJ9 : ∀ a, a < 0 → ∀ b, b < 0 → a ≠ b → (TJ9 a).2.1 ≠ (TJ9 b).2.1 := by decide +kernel
theorem tyJ9_ok : ∀ k, k < 0 → parseFieldDescriptor (TJ9 k).2.2.1 = some (tyJ9 k) := by decide +kernel
abbrev cJ9_abs_0f7a4 : ByteArray := prog_15_method_59_code
def yJ9_abs_0f7a4 : MethodName := ⟨RJ9, "abs", "(I)I"⟩
abbrev cJ9_max_7cf53 : ByteArray := prog_15_method_65_code
def yJ9_max_7cf53 : MethodName := ⟨RJ9, "max", "(II)I"⟩
abbrev cJ9_min_7cf53 : ByteArray := prog_15_method_69_code
def yJ9_min_7cf53 : MethodName := ⟨RJ9, "min", "(II)I"⟩
def RJ10 : String := "java/lang/System"
def TJ10 : u_T := fun k => match k with
  | _ => ("", "", "", false)
def tyJ10 : Nat → FieldType := fun k => match k with
  | _ => .int
abbrev wsJ100 : List Cond := u_ws RJ10 TJ10 0
theorem nmJ10 : ∀ a, a < 0 → ∀ b, b < 0 → a ≠ b → (TJ10 a).2.1 ≠ (TJ10 b).2.1 := by decide +kernel
theorem tyJ10_ok : ∀ k, k < 0 → parseFieldDescriptor (TJ10 k).2.2.1 = some (tyJ10 k) := by decide +kernel
def RL : String := "LentCourageLaw"
abbrev cL_law : ByteArray := code
def yL_law : MethodName := ⟨RL, "law", "([I)Z"⟩
def wsX0_init : List Cond := .code yX0_init cX0_init 1 none :: ([.methodLink RX0 3 objectInit, .instanceMethod objectInit, .code objectInit ⟨#[0xb1]⟩ 1 none, .arrayClass .int, .fieldLink RX0 9 "LentCourage$Heard" "deed" "[I", .fieldLink RX0 15 "LentCourage$Heard" "hour" "[I"] ++ wsX00)
def wsX0_insert : List Cond := .code yX0_insert cX0_insert 4 none :: ([.fieldLink RX0 18 "LentCourage$Heard" "size" "I", .fieldLink RX0 15 "LentCourage$Heard" "hour" "[I", .fieldLink RX0 9 "LentCourage$Heard" "deed" "[I"] ++ wsX00)
def wsX0_tooSoon : List Cond := .code yX0_tooSoon cX0_tooSoon 5 (some .int) :: ([.fieldLink RX0 18 "LentCourage$Heard" "size" "I", .fieldLink RX0 22 "LentCourage$Port" "place" "[I", .fieldLink RX0 9 "LentCourage$Heard" "deed" "[I", .methodLink RX0 27 Lib.Math.abs.name, .static Lib.Math.abs.name, .initialized "java/lang/Math", .code Lib.Math.abs.name Lib.Math.abs.code 1 (some .int), .fieldLink RX0 15 "LentCourage$Heard" "hour" "[I"] ++ wsX00 ++ wsX40)
def wsX0_latestBy : List Cond := .code yX0_latestBy cX0_latestBy 4 (some .int) :: ([.fieldLink RX0 18 "LentCourage$Heard" "size" "I", .fieldLink RX0 15 "LentCourage$Heard" "hour" "[I"] ++ wsX00)
def wsX0_earliestFrom : List Cond := .code yX0_earliestFrom cX0_earliestFrom 4 (some .int) :: ([.fieldLink RX0 18 "LentCourage$Heard" "size" "I", .fieldLink RX0 15 "LentCourage$Heard" "hour" "[I"] ++ wsX00)
def wsX0_whoDid : List Cond := .code yX0_whoDid cX0_whoDid 3 (some .int) :: ([.fieldLink RX0 53 "LentCourage$Port" "who" "[I", .fieldLink RX0 9 "LentCourage$Heard" "deed" "[I"] ++ wsX40 ++ wsX00)
def wsX0_isNear : List Cond := .code yX0_isNear cX0_isNear 5 (some .boolean) :: ([.fieldLink RX0 22 "LentCourage$Port" "place" "[I", .fieldLink RX0 9 "LentCourage$Heard" "deed" "[I", .methodLink RX0 27 Lib.Math.abs.name, .static Lib.Math.abs.name, .initialized "java/lang/Math", .code Lib.Math.abs.name Lib.Math.abs.code 1 (some .int), .fieldLink RX0 15 "LentCourage$Heard" "hour" "[I"] ++ wsX40 ++ wsX00)
def wsX0_possibleHolders_r1 : List Cond := [Cond.fieldLink RX0 43 "LentCourage$Port" "people" "I", Cond.fieldLink RX0 46 "LentCourage$Port" "home" "[I", Cond.methodLink RX0 33 yX0_latestBy, Cond.instanceMethod yX0_latestBy, Cond.selects RX0 yX0_latestBy yX0_latestBy, Cond.initialized RX0, Cond.code yX0_latestBy cX0_latestBy 4 (some .int), Cond.fieldLink RX0 18 "LentCourage$Heard" "size" "I", Cond.fieldLink RX0 15 "LentCourage$Heard" "hour" "[I", Cond.methodLink RX0 36 yX0_earliestFrom, Cond.instanceMethod yX0_earliestFrom, Cond.selects RX0 yX0_earliestFrom yX0_earliestFrom, Cond.code yX0_earliestFrom cX0_earliestFrom 4 (some .int), Cond.methodLink RX0 39 yX0_whoDid, Cond.instanceMethod yX0_whoDid, Cond.selects RX0 yX0_whoDid yX0_whoDid, Cond.code yX0_whoDid cX0_whoDid 3 (some .int), Cond.fieldLink RX0 53 "LentCourage$Port" "who" "[I", Cond.fieldLink RX0 9 "LentCourage$Heard" "deed" "[I", Cond.methodLink RX0 49 yX0_isNear, Cond.instanceMethod yX0_isNear, Cond.selects RX0 yX0_isNear yX0_isNear, Cond.code yX0_isNear cX0_isNear 5 (some .boolean), Cond.fieldLink RX0 22 "LentCourage$Port" "place" "[I"]
def wsX0_possibleHolders_r2 : List Cond := [Cond.methodLink RX0 27 Lib.Math.abs.name, Cond.static Lib.Math.abs.name, Cond.initialized "java/lang/Math", Cond.code Lib.Math.abs.name Lib.Math.abs.code 1 (some .int)]
def wsX0_possibleHolders : List Cond := .code yX0_possibleHolders cX0_possibleHolders 8 (some .int) :: ((wsX0_possibleHolders_r1 ++ wsX0_possibleHolders_r2) ++ wsX40 ++ wsX00)
def wsX2_init : List Cond := .code yX2_init cX2_init 1 none :: ([.methodLink RX2 3 objectInit, .instanceMethod objectInit, .code objectInit ⟨#[0xb1]⟩ 1 none, .fieldLink RX2 9 "LentCourage$Moment" "holder" "I", .arrayClass .int, .fieldLink RX2 15 "LentCourage$Moment" "at" "[I", .fieldLink RX2 19 "LentCourage$Moment" "lastHeld" "[I", .fieldLink RX2 22 "LentCourage$Moment" "owed" "[I"] ++ wsX20)
def wsX1_init : List Cond := .code yX1_init cX1_init 2 none :: ([.methodLink RX1 3 objectInit, .instanceMethod objectInit, .code objectInit ⟨#[0xb1]⟩ 1 none, .classLink RX1 9 RX2, .instantiable RX2 8, .initialized RX2, .fieldLink RX1 12 "LentCourage$Ledger" "present" "LLentCourage$Moment;", .fieldLink RX1 18 "LentCourage$Ledger" "past" "[LLentCourage$Moment;", .instanceMethod yX2_init, .code yX2_init cX2_init 1 none, .methodLink RX2 3 objectInit, .fieldLink RX2 9 "LentCourage$Moment" "holder" "I", .arrayClass .int, .fieldLink RX2 15 "LentCourage$Moment" "at" "[I", .fieldLink RX2 19 "LentCourage$Moment" "lastHeld" "[I", .fieldLink RX2 22 "LentCourage$Moment" "owed" "[I"] ++ wsX20 ++ wsX10)
def wsX2_begin : List Cond := .code yX2_begin cX2_begin 3 none :: ([.fieldLink RX2 25 "LentCourage$Moment" "hour" "I", .fieldLink RX2 9 "LentCourage$Moment" "holder" "I", .fieldLink RX2 28 "LentCourage$Moment" "since" "I", .fieldLink RX2 31 "LentCourage$Moment" "fresh" "Z", .fieldLink RX2 35 "LentCourage$Moment" "done" "I", .fieldLink RX2 15 "LentCourage$Moment" "at" "[I", .fieldLink RX2 38 "LentCourage$Port" "home" "[I", .fieldLink RX2 19 "LentCourage$Moment" "lastHeld" "[I", .fieldLink RX2 22 "LentCourage$Moment" "owed" "[I"] ++ wsX20 ++ wsX40)
def wsX1_begin : List Cond := .code yX1_begin cX1_begin 2 none :: ([.fieldLink RX1 12 "LentCourage$Ledger" "present" "LLentCourage$Moment;", .fieldLink RX1 26 "LentCourage$Ledger" "steps" "I", .methodLink RX1 22 yX2_begin, .instanceMethod yX2_begin, .selects RX2 yX2_begin yX2_begin, .initialized RX2, .code yX2_begin cX2_begin 3 none, .fieldLink RX2 25 "LentCourage$Moment" "hour" "I", .fieldLink RX2 9 "LentCourage$Moment" "holder" "I", .fieldLink RX2 28 "LentCourage$Moment" "since" "I", .fieldLink RX2 31 "LentCourage$Moment" "fresh" "Z", .fieldLink RX2 35 "LentCourage$Moment" "done" "I", .fieldLink RX2 15 "LentCourage$Moment" "at" "[I", .fieldLink RX2 38 "LentCourage$Port" "home" "[I", .fieldLink RX2 19 "LentCourage$Moment" "lastHeld" "[I", .fieldLink RX2 22 "LentCourage$Moment" "owed" "[I"] ++ wsX10 ++ wsX20 ++ wsX40)
def wsX1_loseOldest : List Cond := .code yX1_loseOldest cX1_loseOldest 3 none :: ([.fieldLink RX1 18 "LentCourage$Ledger" "past" "[LLentCourage$Moment;", .fieldLink RX1 26 "LentCourage$Ledger" "steps" "I"] ++ wsX10)
def wsX2_copyFrom : List Cond := .code yX2_copyFrom cX2_copyFrom 2 none :: ([.fieldLink RX2 25 "LentCourage$Moment" "hour" "I", .fieldLink RX2 9 "LentCourage$Moment" "holder" "I", .fieldLink RX2 28 "LentCourage$Moment" "since" "I", .fieldLink RX2 31 "LentCourage$Moment" "fresh" "Z", .fieldLink RX2 35 "LentCourage$Moment" "done" "I", .fieldLink RX2 15 "LentCourage$Moment" "at" "[I", .methodLink RX2 43 arraycopyName, .native arraycopyName, .static arraycopyName, .initialized "java/lang/System", .fieldLink RX2 19 "LentCourage$Moment" "lastHeld" "[I", .fieldLink RX2 22 "LentCourage$Moment" "owed" "[I"] ++ wsX20)
def wsX1_rememberStep_r1 : List Cond := [Cond.fieldLink RX1 26 "LentCourage$Ledger" "steps" "I", Cond.fieldLink RX1 18 "LentCourage$Ledger" "past" "[LLentCourage$Moment;", Cond.fieldLink RX1 12 "LentCourage$Ledger" "present" "LLentCourage$Moment;", Cond.methodLink RX1 30 yX1_loseOldest, Cond.instanceMethod yX1_loseOldest, Cond.selects RX1 yX1_loseOldest yX1_loseOldest, Cond.initialized RX1, Cond.code yX1_loseOldest cX1_loseOldest 3 none, Cond.methodLink RX1 33 yX2_copyFrom, Cond.instanceMethod yX2_copyFrom, Cond.selects RX2 yX2_copyFrom yX2_copyFrom, Cond.initialized RX2, Cond.code yX2_copyFrom cX2_copyFrom 2 none, Cond.fieldLink RX2 25 "LentCourage$Moment" "hour" "I", Cond.fieldLink RX2 9 "LentCourage$Moment" "holder" "I", Cond.fieldLink RX2 28 "LentCourage$Moment" "since" "I", Cond.fieldLink RX2 31 "LentCourage$Moment" "fresh" "Z", Cond.fieldLink RX2 35 "LentCourage$Moment" "done" "I", Cond.fieldLink RX2 15 "LentCourage$Moment" "at" "[I", Cond.methodLink RX2 43 arraycopyName, Cond.native arraycopyName, Cond.static arraycopyName, Cond.initialized "java/lang/System", Cond.fieldLink RX2 19 "LentCourage$Moment" "lastHeld" "[I"]
def wsX1_rememberStep_r2 : List Cond := [Cond.fieldLink RX2 22 "LentCourage$Moment" "owed" "[I"]
def wsX1_rememberStep : List Cond := .code yX1_rememberStep cX1_rememberStep 1 none :: ((wsX1_rememberStep_r1 ++ wsX1_rememberStep_r2) ++ wsX10 ++ wsX20)
def wsX1_undoStep : List Cond := .code yX1_undoStep cX1_undoStep 1 none :: ([.fieldLink RX1 26 "LentCourage$Ledger" "steps" "I", .fieldLink RX1 12 "LentCourage$Ledger" "present" "LLentCourage$Moment;", .fieldLink RX1 18 "LentCourage$Ledger" "past" "[LLentCourage$Moment;", .methodLink RX1 33 yX2_copyFrom, .instanceMethod yX2_copyFrom, .selects RX2 yX2_copyFrom yX2_copyFrom, .initialized RX2, .code yX2_copyFrom cX2_copyFrom 2 none, .fieldLink RX2 25 "LentCourage$Moment" "hour" "I", .fieldLink RX2 9 "LentCourage$Moment" "holder" "I", .fieldLink RX2 28 "LentCourage$Moment" "since" "I", .fieldLink RX2 31 "LentCourage$Moment" "fresh" "Z", .fieldLink RX2 35 "LentCourage$Moment" "done" "I", .fieldLink RX2 15 "LentCourage$Moment" "at" "[I", .methodLink RX2 43 arraycopyName, .native arraycopyName, .static arraycopyName, .initialized "java/lang/System", .fieldLink RX2 19 "LentCourage$Moment" "lastHeld" "[I", .fieldLink RX2 22 "LentCourage$Moment" "owed" "[I"] ++ wsX10 ++ wsX20)
def wsX1_copyFrom : List Cond := .code yX1_copyFrom cX1_copyFrom 3 none :: ([.fieldLink RX1 12 "LentCourage$Ledger" "present" "LLentCourage$Moment;", .fieldLink RX1 26 "LentCourage$Ledger" "steps" "I", .fieldLink RX1 18 "LentCourage$Ledger" "past" "[LLentCourage$Moment;", .methodLink RX1 33 yX2_copyFrom, .instanceMethod yX2_copyFrom, .selects RX2 yX2_copyFrom yX2_copyFrom, .initialized RX2, .code yX2_copyFrom cX2_copyFrom 2 none, .fieldLink RX2 25 "LentCourage$Moment" "hour" "I", .fieldLink RX2 9 "LentCourage$Moment" "holder" "I", .fieldLink RX2 28 "LentCourage$Moment" "since" "I", .fieldLink RX2 31 "LentCourage$Moment" "fresh" "Z", .fieldLink RX2 35 "LentCourage$Moment" "done" "I", .fieldLink RX2 15 "LentCourage$Moment" "at" "[I", .methodLink RX2 43 arraycopyName, .native arraycopyName, .static arraycopyName, .initialized "java/lang/System", .fieldLink RX2 19 "LentCourage$Moment" "lastHeld" "[I", .fieldLink RX2 22 "LentCourage$Moment" "owed" "[I"] ++ wsX10 ++ wsX20)
def wsX2_isHeld : List Cond := .code yX2_isHeld cX2_isHeld 1 (some .boolean) :: ([.fieldLink RX2 9 "LentCourage$Moment" "holder" "I"] ++ wsX20)
def wsX2_isDone : List Cond := .code yX2_isDone cX2_isDone 2 (some .boolean) :: ([.fieldLink RX2 35 "LentCourage$Moment" "done" "I"] ++ wsX20)
def wsX2_spoonPlace : List Cond := .code yX2_spoonPlace cX2_spoonPlace 2 (some .int) :: ([.fieldLink RX2 15 "LentCourage$Moment" "at" "[I", .fieldLink RX2 9 "LentCourage$Moment" "holder" "I", .fieldLink RX2 53 "LentCourage$Port" "office" "I", .methodLink RX2 49 yX2_isHeld, .instanceMethod yX2_isHeld, .selects RX2 yX2_isHeld yX2_isHeld, .initialized RX2, .code yX2_isHeld cX2_isHeld 1 (some .boolean)] ++ wsX20 ++ wsX40)
def wsX2_careOf : List Cond := .code yX2_careOf cX2_careOf 2 (some .int) :: ([.fieldLink RX2 9 "LentCourage$Moment" "holder" "I", .fieldLink RX2 25 "LentCourage$Moment" "hour" "I", .fieldLink RX2 19 "LentCourage$Moment" "lastHeld" "[I"] ++ wsX20)
def wsX2_heldFor : List Cond := .code yX2_heldFor cX2_heldFor 1 (some .int) :: ([.fieldLink RX2 25 "LentCourage$Moment" "hour" "I", .fieldLink RX2 28 "LentCourage$Moment" "since" "I", .methodLink RX2 49 yX2_isHeld, .instanceMethod yX2_isHeld, .selects RX2 yX2_isHeld yX2_isHeld, .initialized RX2, .code yX2_isHeld cX2_isHeld 1 (some .boolean), .fieldLink RX2 9 "LentCourage$Moment" "holder" "I"] ++ wsX20)
def wsX2_giveAway : List Cond := .code yX2_giveAway cX2_giveAway 4 (some .int) :: ([.fieldLink RX2 9 "LentCourage$Moment" "holder" "I", .methodLink RX2 60 Lib.Math.max.name, .static Lib.Math.max.name, .initialized "java/lang/Math", .code Lib.Math.max.name Lib.Math.max.code 2 (some .int), .fieldLink RX2 22 "LentCourage$Moment" "owed" "[I", .methodLink RX2 66 Lib.Math.min.name, .static Lib.Math.min.name, .code Lib.Math.min.name Lib.Math.min.code 2 (some .int), .fieldLink RX2 19 "LentCourage$Moment" "lastHeld" "[I", .fieldLink RX2 25 "LentCourage$Moment" "hour" "I", .fieldLink RX2 31 "LentCourage$Moment" "fresh" "Z", .methodLink RX2 56 yX2_heldFor, .instanceMethod yX2_heldFor, .selects RX2 yX2_heldFor yX2_heldFor, .initialized RX2, .code yX2_heldFor cX2_heldFor 1 (some .int), .fieldLink RX2 28 "LentCourage$Moment" "since" "I", .methodLink RX2 49 yX2_isHeld, .instanceMethod yX2_isHeld, .selects RX2 yX2_isHeld yX2_isHeld, .code yX2_isHeld cX2_isHeld 1 (some .boolean)] ++ wsX20)
def wsX2_receive : List Cond := .code yX2_receive cX2_receive 2 none :: ([.fieldLink RX2 9 "LentCourage$Moment" "holder" "I", .fieldLink RX2 25 "LentCourage$Moment" "hour" "I", .fieldLink RX2 28 "LentCourage$Moment" "since" "I", .fieldLink RX2 31 "LentCourage$Moment" "fresh" "Z"] ++ wsX20)
def wsX2_walkTo : List Cond := .code yX2_walkTo cX2_walkTo 3 none :: ([.fieldLink RX2 15 "LentCourage$Moment" "at" "[I", .fieldLink RX2 9 "LentCourage$Moment" "holder" "I", .fieldLink RX2 25 "LentCourage$Moment" "hour" "I", .methodLink RX2 49 yX2_isHeld, .instanceMethod yX2_isHeld, .selects RX2 yX2_isHeld yX2_isHeld, .initialized RX2, .code yX2_isHeld cX2_isHeld 1 (some .boolean)] ++ wsX20)
def wsX2_canDo : List Cond := .code yX2_canDo cX2_canDo 3 (some .boolean) :: ([.fieldLink RX2 31 "LentCourage$Moment" "fresh" "Z", .fieldLink RX2 69 "LentCourage$Port" "who" "[I", .fieldLink RX2 9 "LentCourage$Moment" "holder" "I", .fieldLink RX2 15 "LentCourage$Moment" "at" "[I", .fieldLink RX2 72 "LentCourage$Port" "place" "[I", .fieldLink RX2 25 "LentCourage$Moment" "hour" "I", .fieldLink RX2 79 "LentCourage$Port" "from" "[I", .fieldLink RX2 82 "LentCourage$Port" "till" "[I", .methodLink RX2 49 yX2_isHeld, .instanceMethod yX2_isHeld, .selects RX2 yX2_isHeld yX2_isHeld, .initialized RX2, .code yX2_isHeld cX2_isHeld 1 (some .boolean), .methodLink RX2 75 yX2_isDone, .instanceMethod yX2_isDone, .selects RX2 yX2_isDone yX2_isDone, .code yX2_isDone cX2_isDone 2 (some .boolean), .fieldLink RX2 35 "LentCourage$Moment" "done" "I"] ++ wsX20 ++ wsX40)
def wsX2_worthDone : List Cond := .code yX2_worthDone cX2_worthDone 4 (some .int) :: ([.fieldLink RX2 85 "LentCourage$Port" "deeds" "I", .fieldLink RX2 88 "LentCourage$Port" "worth" "[I", .methodLink RX2 75 yX2_isDone, .instanceMethod yX2_isDone, .selects RX2 yX2_isDone yX2_isDone, .initialized RX2, .code yX2_isDone cX2_isDone 2 (some .boolean), .fieldLink RX2 35 "LentCourage$Moment" "done" "I"] ++ wsX40 ++ wsX20)
def wsX2_owedByAll : List Cond := .code yX2_owedByAll cX2_owedByAll 3 (some .int) :: ([.fieldLink RX2 22 "LentCourage$Moment" "owed" "[I"] ++ wsX20)
def wsX2_openDeeds : List Cond := .code yX2_openDeeds cX2_openDeeds 2 (some .int) :: ([.fieldLink RX2 85 "LentCourage$Port" "deeds" "I", .fieldLink RX2 35 "LentCourage$Moment" "done" "I"] ++ wsX40 ++ wsX20)
def wsX3_init : List Cond := .code yX3_init cX3_init 1 none :: ([.methodLink RX3 3 objectInit, .instanceMethod objectInit, .code objectInit ⟨#[0xb1]⟩ 1 none, .arrayClass .int, .fieldLink RX3 9 "LentCourage$Odds" "ways" "[I"] ++ wsX30)
def wsX3_countWays : List Cond := .code yX3_countWays cX3_countWays 5 none :: ([.fieldLink RX3 9 "LentCourage$Odds" "ways" "[I"] ++ wsX30)
def wsX3_takeOut : List Cond := .code yX3_takeOut cX3_takeOut 4 none :: ([.fieldLink RX3 19 "LentCourage$Odds" "upper" "I", .fieldLink RX3 23 "LentCourage$Odds" "lower" "I"] ++ wsX30)
def wsX3_find : List Cond := .code yX3_find cX3_find 5 none :: ([.fieldLink RX3 19 "LentCourage$Odds" "upper" "I", .fieldLink RX3 9 "LentCourage$Odds" "ways" "[I", .fieldLink RX3 23 "LentCourage$Odds" "lower" "I", .methodLink RX3 15 yX3_countWays, .instanceMethod yX3_countWays, .selects RX3 yX3_countWays yX3_countWays, .initialized RX3, .code yX3_countWays cX3_countWays 5 none, .methodLink RX3 26 yX3_takeOut, .instanceMethod yX3_takeOut, .selects RX3 yX3_takeOut yX3_takeOut, .code yX3_takeOut cX3_takeOut 4 none] ++ wsX30)
def wsX4_init : List Cond := .code yX4_init cX4_init 1 none :: ([.methodLink RX4 3 objectInit, .instanceMethod objectInit, .code objectInit ⟨#[0xb1]⟩ 1 none, .fieldLink RX4 11 "LentCourage$Port" "office" "I", .fieldLink RX4 15 "LentCourage$Port" "free" "I", .arrayClass .int, .fieldLink RX4 18 "LentCourage$Port" "home" "[I", .fieldLink RX4 22 "LentCourage$Port" "who" "[I", .fieldLink RX4 25 "LentCourage$Port" "place" "[I", .fieldLink RX4 28 "LentCourage$Port" "from" "[I", .fieldLink RX4 31 "LentCourage$Port" "till" "[I", .fieldLink RX4 34 "LentCourage$Port" "worth" "[I"] ++ wsX40)
def wsX4_empty : List Cond := .code yX4_empty cX4_empty 1 none :: ([.fieldLink RX4 11 "LentCourage$Port" "office" "I", .fieldLink RX4 15 "LentCourage$Port" "free" "I", .fieldLink RX4 37 "LentCourage$Port" "people" "I", .fieldLink RX4 40 "LentCourage$Port" "deeds" "I"] ++ wsX40)
def wsX4_hasOne : List Cond := .code yX4_hasOne cX4_hasOne 2 (some .boolean) :: ([.fieldLink RX4 37 "LentCourage$Port" "people" "I"] ++ wsX40)
def wsX4_hasDeed : List Cond := .code yX4_hasDeed cX4_hasDeed 2 (some .boolean) :: ([.fieldLink RX4 40 "LentCourage$Port" "deeds" "I"] ++ wsX40)
def wsX4_copyFrom : List Cond := .code yX4_copyFrom cX4_copyFrom 2 none :: ([.fieldLink RX4 11 "LentCourage$Port" "office" "I", .fieldLink RX4 15 "LentCourage$Port" "free" "I", .fieldLink RX4 37 "LentCourage$Port" "people" "I", .fieldLink RX4 40 "LentCourage$Port" "deeds" "I", .fieldLink RX4 18 "LentCourage$Port" "home" "[I", .methodLink RX4 43 arraycopyName, .native arraycopyName, .static arraycopyName, .initialized "java/lang/System", .fieldLink RX4 22 "LentCourage$Port" "who" "[I", .fieldLink RX4 25 "LentCourage$Port" "place" "[I", .fieldLink RX4 28 "LentCourage$Port" "from" "[I", .fieldLink RX4 31 "LentCourage$Port" "till" "[I", .fieldLink RX4 34 "LentCourage$Port" "worth" "[I"] ++ wsX40)
def wsX5_init : List Cond := .code yX5_init cX5_init 1 none :: ([.methodLink RX5 3 objectInit, .instanceMethod objectInit, .code objectInit ⟨#[0xb1]⟩ 1 none])
def wsX8_goToStart : List Cond := .code yX8_goToStart cX8_goToStart 1 none :: ([.fieldLink RX8 15 "LentCourage$Text" "next" "I"] ++ wsX80)
def wsX8_isLetter : List Cond := .code yX8_isLetter cX8_isLetter 1 (some .boolean) :: ([])
def wsX8_readLetters : List Cond := .code yX8_readLetters cX8_readLetters 2 none :: ([.fieldLink RX8 9 "LentCourage$Text" "bytes" "[I", .fieldLink RX8 15 "LentCourage$Text" "next" "I", .fieldLink RX8 19 "LentCourage$Text" "length" "I", .fieldLink RX8 28 "LentCourage$Text" "sort" "I", .fieldLink RX8 22 "LentCourage$Text" "start" "I", .fieldLink RX8 25 "LentCourage$Text" "value" "I", .methodLink RX8 31 yX8_isLetter, .static yX8_isLetter, .initialized RX8, .code yX8_isLetter cX8_isLetter 1 (some .boolean)] ++ wsX80)
def wsX8_isDigit : List Cond := .code yX8_isDigit cX8_isDigit 1 (some .boolean) :: ([])
def wsX8_readNumber : List Cond := .code yX8_readNumber cX8_readNumber 3 none :: ([.fieldLink RX8 9 "LentCourage$Text" "bytes" "[I", .fieldLink RX8 15 "LentCourage$Text" "next" "I", .fieldLink RX8 19 "LentCourage$Text" "length" "I", .fieldLink RX8 25 "LentCourage$Text" "value" "I", .fieldLink RX8 22 "LentCourage$Text" "start" "I", .fieldLink RX8 28 "LentCourage$Text" "sort" "I", .methodLink RX8 38 yX8_isDigit, .static yX8_isDigit, .initialized RX8, .code yX8_isDigit cX8_isDigit 1 (some .boolean)] ++ wsX80)
def wsX8_readToken : List Cond := .code yX8_readToken cX8_readToken 1 none :: ([.fieldLink RX8 15 "LentCourage$Text" "next" "I", .fieldLink RX8 19 "LentCourage$Text" "length" "I", .fieldLink RX8 9 "LentCourage$Text" "bytes" "[I", .fieldLink RX8 22 "LentCourage$Text" "start" "I", .fieldLink RX8 25 "LentCourage$Text" "value" "I", .fieldLink RX8 28 "LentCourage$Text" "sort" "I", .methodLink RX8 31 yX8_isLetter, .static yX8_isLetter, .initialized RX8, .code yX8_isLetter cX8_isLetter 1 (some .boolean), .methodLink RX8 35 yX8_readLetters, .instanceMethod yX8_readLetters, .selects RX8 yX8_readLetters yX8_readLetters, .code yX8_readLetters cX8_readLetters 2 none, .methodLink RX8 38 yX8_isDigit, .static yX8_isDigit, .code yX8_isDigit cX8_isDigit 1 (some .boolean), .methodLink RX8 41 yX8_readNumber, .instanceMethod yX8_readNumber, .selects RX8 yX8_readNumber yX8_readNumber, .code yX8_readNumber cX8_readNumber 3 none] ++ wsX80)
def wsX5_readNumber_r1 : List Cond := [Cond.fieldLink RX5 31 "LentCourage$Text" "sort" "I", Cond.fieldLink RX5 42 "LentCourage$Text" "value" "I", Cond.methodLink RX5 28 yX8_readToken, Cond.instanceMethod yX8_readToken, Cond.selects RX8 yX8_readToken yX8_readToken, Cond.initialized RX8, Cond.code yX8_readToken cX8_readToken 1 none, Cond.fieldLink RX8 15 "LentCourage$Text" "next" "I", Cond.fieldLink RX8 19 "LentCourage$Text" "length" "I", Cond.fieldLink RX8 9 "LentCourage$Text" "bytes" "[I", Cond.fieldLink RX8 22 "LentCourage$Text" "start" "I", Cond.fieldLink RX8 25 "LentCourage$Text" "value" "I", Cond.fieldLink RX8 28 "LentCourage$Text" "sort" "I", Cond.methodLink RX8 31 yX8_isLetter, Cond.static yX8_isLetter, Cond.code yX8_isLetter cX8_isLetter 1 (some .boolean), Cond.methodLink RX8 35 yX8_readLetters, Cond.instanceMethod yX8_readLetters, Cond.selects RX8 yX8_readLetters yX8_readLetters, Cond.code yX8_readLetters cX8_readLetters 2 none, Cond.methodLink RX8 38 yX8_isDigit, Cond.static yX8_isDigit, Cond.code yX8_isDigit cX8_isDigit 1 (some .boolean), Cond.methodLink RX8 41 yX8_readNumber]
def wsX5_readNumber_r2 : List Cond := [Cond.instanceMethod yX8_readNumber, Cond.selects RX8 yX8_readNumber yX8_readNumber, Cond.code yX8_readNumber cX8_readNumber 3 none]
def wsX5_readNumber : List Cond := .code yX5_readNumber cX5_readNumber 3 (some .boolean) :: ((wsX5_readNumber_r1 ++ wsX5_readNumber_r2) ++ wsX80)
def wsX5_readStop_r1 : List Cond := [Cond.fieldLink RX5 31 "LentCourage$Text" "sort" "I", Cond.methodLink RX5 28 yX8_readToken, Cond.instanceMethod yX8_readToken, Cond.selects RX8 yX8_readToken yX8_readToken, Cond.initialized RX8, Cond.code yX8_readToken cX8_readToken 1 none, Cond.fieldLink RX8 15 "LentCourage$Text" "next" "I", Cond.fieldLink RX8 19 "LentCourage$Text" "length" "I", Cond.fieldLink RX8 9 "LentCourage$Text" "bytes" "[I", Cond.fieldLink RX8 22 "LentCourage$Text" "start" "I", Cond.fieldLink RX8 25 "LentCourage$Text" "value" "I", Cond.fieldLink RX8 28 "LentCourage$Text" "sort" "I", Cond.methodLink RX8 31 yX8_isLetter, Cond.static yX8_isLetter, Cond.code yX8_isLetter cX8_isLetter 1 (some .boolean), Cond.methodLink RX8 35 yX8_readLetters, Cond.instanceMethod yX8_readLetters, Cond.selects RX8 yX8_readLetters yX8_readLetters, Cond.code yX8_readLetters cX8_readLetters 2 none, Cond.methodLink RX8 38 yX8_isDigit, Cond.static yX8_isDigit, Cond.code yX8_isDigit cX8_isDigit 1 (some .boolean), Cond.methodLink RX8 41 yX8_readNumber, Cond.instanceMethod yX8_readNumber]
def wsX5_readStop_r2 : List Cond := [Cond.selects RX8 yX8_readNumber yX8_readNumber, Cond.code yX8_readNumber cX8_readNumber 3 none]
def wsX5_readStop : List Cond := .code yX5_readStop cX5_readStop 1 (some .boolean) :: ((wsX5_readStop_r1 ++ wsX5_readStop_r2) ++ wsX80)
def wsX5_readOne_r1 : List Cond := [Cond.fieldLink RX5 57 "LentCourage$Port" "people" "I", Cond.fieldLink RX5 64 "LentCourage$Port" "home" "[I", Cond.fieldLink RX5 42 "LentCourage$Text" "value" "I", Cond.methodLink RX5 60 yX5_readNumber, Cond.static yX5_readNumber, Cond.initialized RX5, Cond.code yX5_readNumber cX5_readNumber 3 (some .boolean), Cond.fieldLink RX5 31 "LentCourage$Text" "sort" "I", Cond.methodLink RX5 28 yX8_readToken, Cond.instanceMethod yX8_readToken, Cond.selects RX8 yX8_readToken yX8_readToken, Cond.initialized RX8, Cond.code yX8_readToken cX8_readToken 1 none, Cond.fieldLink RX8 15 "LentCourage$Text" "next" "I", Cond.fieldLink RX8 19 "LentCourage$Text" "length" "I", Cond.fieldLink RX8 9 "LentCourage$Text" "bytes" "[I", Cond.fieldLink RX8 22 "LentCourage$Text" "start" "I", Cond.fieldLink RX8 25 "LentCourage$Text" "value" "I", Cond.fieldLink RX8 28 "LentCourage$Text" "sort" "I", Cond.methodLink RX8 31 yX8_isLetter, Cond.static yX8_isLetter, Cond.code yX8_isLetter cX8_isLetter 1 (some .boolean), Cond.methodLink RX8 35 yX8_readLetters, Cond.instanceMethod yX8_readLetters]
def wsX5_readOne_r2 : List Cond := [Cond.selects RX8 yX8_readLetters yX8_readLetters, Cond.code yX8_readLetters cX8_readLetters 2 none, Cond.methodLink RX8 38 yX8_isDigit, Cond.static yX8_isDigit, Cond.code yX8_isDigit cX8_isDigit 1 (some .boolean), Cond.methodLink RX8 41 yX8_readNumber, Cond.instanceMethod yX8_readNumber, Cond.selects RX8 yX8_readNumber yX8_readNumber, Cond.code yX8_readNumber cX8_readNumber 3 none, Cond.methodLink RX5 68 yX5_readStop, Cond.static yX5_readStop, Cond.code yX5_readStop cX5_readStop 1 (some .boolean)]
def wsX5_readOne : List Cond := .code yX5_readOne cX5_readOne 3 (some .boolean) :: ((wsX5_readOne_r1 ++ wsX5_readOne_r2) ++ wsX40 ++ wsX80)
def wsX5_readDeed_r1 : List Cond := [Cond.fieldLink RX5 72 "LentCourage$Port" "deeds" "I", Cond.fieldLink RX5 57 "LentCourage$Port" "people" "I", Cond.fieldLink RX5 75 "LentCourage$Port" "who" "[I", Cond.fieldLink RX5 42 "LentCourage$Text" "value" "I", Cond.fieldLink RX5 78 "LentCourage$Port" "place" "[I", Cond.fieldLink RX5 81 "LentCourage$Port" "from" "[I", Cond.fieldLink RX5 84 "LentCourage$Port" "till" "[I", Cond.fieldLink RX5 87 "LentCourage$Port" "worth" "[I", Cond.methodLink RX5 60 yX5_readNumber, Cond.static yX5_readNumber, Cond.initialized RX5, Cond.code yX5_readNumber cX5_readNumber 3 (some .boolean), Cond.fieldLink RX5 31 "LentCourage$Text" "sort" "I", Cond.methodLink RX5 28 yX8_readToken, Cond.instanceMethod yX8_readToken, Cond.selects RX8 yX8_readToken yX8_readToken, Cond.initialized RX8, Cond.code yX8_readToken cX8_readToken 1 none, Cond.fieldLink RX8 15 "LentCourage$Text" "next" "I", Cond.fieldLink RX8 19 "LentCourage$Text" "length" "I", Cond.fieldLink RX8 9 "LentCourage$Text" "bytes" "[I", Cond.fieldLink RX8 22 "LentCourage$Text" "start" "I", Cond.fieldLink RX8 25 "LentCourage$Text" "value" "I", Cond.fieldLink RX8 28 "LentCourage$Text" "sort" "I"]
def wsX5_readDeed_r2 : List Cond := [Cond.methodLink RX8 31 yX8_isLetter, Cond.static yX8_isLetter, Cond.code yX8_isLetter cX8_isLetter 1 (some .boolean), Cond.methodLink RX8 35 yX8_readLetters, Cond.instanceMethod yX8_readLetters, Cond.selects RX8 yX8_readLetters yX8_readLetters, Cond.code yX8_readLetters cX8_readLetters 2 none, Cond.methodLink RX8 38 yX8_isDigit, Cond.static yX8_isDigit, Cond.code yX8_isDigit cX8_isDigit 1 (some .boolean), Cond.methodLink RX8 41 yX8_readNumber, Cond.instanceMethod yX8_readNumber, Cond.selects RX8 yX8_readNumber yX8_readNumber, Cond.code yX8_readNumber cX8_readNumber 3 none, Cond.methodLink RX5 68 yX5_readStop, Cond.static yX5_readStop, Cond.code yX5_readStop cX5_readStop 1 (some .boolean)]
def wsX5_readDeed : List Cond := .code yX5_readDeed cX5_readDeed 4 (some .boolean) :: ((wsX5_readDeed_r1 ++ wsX5_readDeed_r2) ++ wsX40 ++ wsX80)
def wsX5_readOffice_r1 : List Cond := [Cond.fieldLink RX5 19 "LentCourage$PortReader" "officeTold" "Z", Cond.fieldLink RX5 42 "LentCourage$Text" "value" "I", Cond.fieldLink RX5 90 "LentCourage$Port" "office" "I", Cond.methodLink RX5 60 yX5_readNumber, Cond.static yX5_readNumber, Cond.initialized RX5, Cond.code yX5_readNumber cX5_readNumber 3 (some .boolean), Cond.fieldLink RX5 31 "LentCourage$Text" "sort" "I", Cond.methodLink RX5 28 yX8_readToken, Cond.instanceMethod yX8_readToken, Cond.selects RX8 yX8_readToken yX8_readToken, Cond.initialized RX8, Cond.code yX8_readToken cX8_readToken 1 none, Cond.fieldLink RX8 15 "LentCourage$Text" "next" "I", Cond.fieldLink RX8 19 "LentCourage$Text" "length" "I", Cond.fieldLink RX8 9 "LentCourage$Text" "bytes" "[I", Cond.fieldLink RX8 22 "LentCourage$Text" "start" "I", Cond.fieldLink RX8 25 "LentCourage$Text" "value" "I", Cond.fieldLink RX8 28 "LentCourage$Text" "sort" "I", Cond.methodLink RX8 31 yX8_isLetter, Cond.static yX8_isLetter, Cond.code yX8_isLetter cX8_isLetter 1 (some .boolean), Cond.methodLink RX8 35 yX8_readLetters, Cond.instanceMethod yX8_readLetters]
def wsX5_readOffice_r2 : List Cond := [Cond.selects RX8 yX8_readLetters yX8_readLetters, Cond.code yX8_readLetters cX8_readLetters 2 none, Cond.methodLink RX8 38 yX8_isDigit, Cond.static yX8_isDigit, Cond.code yX8_isDigit cX8_isDigit 1 (some .boolean), Cond.methodLink RX8 41 yX8_readNumber, Cond.instanceMethod yX8_readNumber, Cond.selects RX8 yX8_readNumber yX8_readNumber, Cond.code yX8_readNumber cX8_readNumber 3 none, Cond.methodLink RX5 68 yX5_readStop, Cond.static yX5_readStop, Cond.code yX5_readStop cX5_readStop 1 (some .boolean)]
def wsX5_readOffice : List Cond := .code yX5_readOffice cX5_readOffice 3 (some .boolean) :: ((wsX5_readOffice_r1 ++ wsX5_readOffice_r2) ++ wsX50 ++ wsX80 ++ wsX40)
def wsX5_readFree_r1 : List Cond := [Cond.fieldLink RX5 25 "LentCourage$PortReader" "freeTold" "Z", Cond.fieldLink RX5 42 "LentCourage$Text" "value" "I", Cond.fieldLink RX5 93 "LentCourage$Port" "free" "I", Cond.methodLink RX5 60 yX5_readNumber, Cond.static yX5_readNumber, Cond.initialized RX5, Cond.code yX5_readNumber cX5_readNumber 3 (some .boolean), Cond.fieldLink RX5 31 "LentCourage$Text" "sort" "I", Cond.methodLink RX5 28 yX8_readToken, Cond.instanceMethod yX8_readToken, Cond.selects RX8 yX8_readToken yX8_readToken, Cond.initialized RX8, Cond.code yX8_readToken cX8_readToken 1 none, Cond.fieldLink RX8 15 "LentCourage$Text" "next" "I", Cond.fieldLink RX8 19 "LentCourage$Text" "length" "I", Cond.fieldLink RX8 9 "LentCourage$Text" "bytes" "[I", Cond.fieldLink RX8 22 "LentCourage$Text" "start" "I", Cond.fieldLink RX8 25 "LentCourage$Text" "value" "I", Cond.fieldLink RX8 28 "LentCourage$Text" "sort" "I", Cond.methodLink RX8 31 yX8_isLetter, Cond.static yX8_isLetter, Cond.code yX8_isLetter cX8_isLetter 1 (some .boolean), Cond.methodLink RX8 35 yX8_readLetters, Cond.instanceMethod yX8_readLetters]
def wsX5_readFree_r2 : List Cond := [Cond.selects RX8 yX8_readLetters yX8_readLetters, Cond.code yX8_readLetters cX8_readLetters 2 none, Cond.methodLink RX8 38 yX8_isDigit, Cond.static yX8_isDigit, Cond.code yX8_isDigit cX8_isDigit 1 (some .boolean), Cond.methodLink RX8 41 yX8_readNumber, Cond.instanceMethod yX8_readNumber, Cond.selects RX8 yX8_readNumber yX8_readNumber, Cond.code yX8_readNumber cX8_readNumber 3 none, Cond.methodLink RX5 68 yX5_readStop, Cond.static yX5_readStop, Cond.code yX5_readStop cX5_readStop 1 (some .boolean)]
def wsX5_readFree : List Cond := .code yX5_readFree cX5_readFree 3 (some .boolean) :: ((wsX5_readFree_r1 ++ wsX5_readFree_r2) ++ wsX50 ++ wsX80 ++ wsX40)
def wsX5_readItem_r1 : List Cond := [Cond.fieldLink RX5 31 "LentCourage$Text" "sort" "I", Cond.fieldLink RX5 42 "LentCourage$Text" "value" "I", Cond.methodLink RX5 45 yX5_readOne, Cond.instanceMethod yX5_readOne, Cond.selects RX5 yX5_readOne yX5_readOne, Cond.initialized RX5, Cond.code yX5_readOne cX5_readOne 3 (some .boolean), Cond.fieldLink RX5 57 "LentCourage$Port" "people" "I", Cond.fieldLink RX5 64 "LentCourage$Port" "home" "[I", Cond.methodLink RX5 60 yX5_readNumber, Cond.static yX5_readNumber, Cond.code yX5_readNumber cX5_readNumber 3 (some .boolean), Cond.methodLink RX5 28 yX8_readToken, Cond.instanceMethod yX8_readToken, Cond.selects RX8 yX8_readToken yX8_readToken, Cond.initialized RX8, Cond.code yX8_readToken cX8_readToken 1 none, Cond.fieldLink RX8 15 "LentCourage$Text" "next" "I", Cond.fieldLink RX8 19 "LentCourage$Text" "length" "I", Cond.fieldLink RX8 9 "LentCourage$Text" "bytes" "[I", Cond.fieldLink RX8 22 "LentCourage$Text" "start" "I", Cond.fieldLink RX8 25 "LentCourage$Text" "value" "I", Cond.fieldLink RX8 28 "LentCourage$Text" "sort" "I", Cond.methodLink RX8 31 yX8_isLetter]
def wsX5_readItem_r2 : List Cond := [Cond.static yX8_isLetter, Cond.code yX8_isLetter cX8_isLetter 1 (some .boolean), Cond.methodLink RX8 35 yX8_readLetters, Cond.instanceMethod yX8_readLetters, Cond.selects RX8 yX8_readLetters yX8_readLetters, Cond.code yX8_readLetters cX8_readLetters 2 none, Cond.methodLink RX8 38 yX8_isDigit, Cond.static yX8_isDigit, Cond.code yX8_isDigit cX8_isDigit 1 (some .boolean), Cond.methodLink RX8 41 yX8_readNumber, Cond.instanceMethod yX8_readNumber, Cond.selects RX8 yX8_readNumber yX8_readNumber, Cond.code yX8_readNumber cX8_readNumber 3 none, Cond.methodLink RX5 68 yX5_readStop, Cond.static yX5_readStop, Cond.code yX5_readStop cX5_readStop 1 (some .boolean), Cond.methodLink RX5 48 yX5_readDeed, Cond.instanceMethod yX5_readDeed, Cond.selects RX5 yX5_readDeed yX5_readDeed, Cond.code yX5_readDeed cX5_readDeed 4 (some .boolean), Cond.fieldLink RX5 72 "LentCourage$Port" "deeds" "I", Cond.fieldLink RX5 75 "LentCourage$Port" "who" "[I", Cond.fieldLink RX5 78 "LentCourage$Port" "place" "[I", Cond.fieldLink RX5 81 "LentCourage$Port" "from" "[I"]
def wsX5_readItem_r3 : List Cond := [Cond.fieldLink RX5 84 "LentCourage$Port" "till" "[I", Cond.fieldLink RX5 87 "LentCourage$Port" "worth" "[I", Cond.methodLink RX5 51 yX5_readOffice, Cond.instanceMethod yX5_readOffice, Cond.selects RX5 yX5_readOffice yX5_readOffice, Cond.code yX5_readOffice cX5_readOffice 3 (some .boolean), Cond.fieldLink RX5 19 "LentCourage$PortReader" "officeTold" "Z", Cond.fieldLink RX5 90 "LentCourage$Port" "office" "I", Cond.methodLink RX5 54 yX5_readFree, Cond.instanceMethod yX5_readFree, Cond.selects RX5 yX5_readFree yX5_readFree, Cond.code yX5_readFree cX5_readFree 3 (some .boolean), Cond.fieldLink RX5 25 "LentCourage$PortReader" "freeTold" "Z", Cond.fieldLink RX5 93 "LentCourage$Port" "free" "I"]
def wsX5_readItem : List Cond := .code yX5_readItem cX5_readItem 3 (some .boolean) :: ((wsX5_readItem_r1 ++ (wsX5_readItem_r2 ++ wsX5_readItem_r3)) ++ wsX80 ++ wsX40 ++ wsX50)
def wsX5_read_r1 : List Cond := [Cond.fieldLink RX5 19 "LentCourage$PortReader" "officeTold" "Z", Cond.fieldLink RX5 25 "LentCourage$PortReader" "freeTold" "Z", Cond.fieldLink RX5 31 "LentCourage$Text" "sort" "I", Cond.fieldLink RX5 39 "LentCourage$Text" "start" "I", Cond.methodLink RX5 9 yX8_goToStart, Cond.instanceMethod yX8_goToStart, Cond.selects RX8 yX8_goToStart yX8_goToStart, Cond.initialized RX8, Cond.code yX8_goToStart cX8_goToStart 1 none, Cond.fieldLink RX8 15 "LentCourage$Text" "next" "I", Cond.methodLink RX5 14 yX4_empty, Cond.instanceMethod yX4_empty, Cond.selects RX4 yX4_empty yX4_empty, Cond.initialized RX4, Cond.code yX4_empty cX4_empty 1 none, Cond.fieldLink RX4 11 "LentCourage$Port" "office" "I", Cond.fieldLink RX4 15 "LentCourage$Port" "free" "I", Cond.fieldLink RX4 37 "LentCourage$Port" "people" "I", Cond.fieldLink RX4 40 "LentCourage$Port" "deeds" "I", Cond.methodLink RX5 28 yX8_readToken, Cond.instanceMethod yX8_readToken, Cond.selects RX8 yX8_readToken yX8_readToken, Cond.code yX8_readToken cX8_readToken 1 none, Cond.fieldLink RX8 19 "LentCourage$Text" "length" "I"]
def wsX5_read_r2 : List Cond := [Cond.fieldLink RX8 9 "LentCourage$Text" "bytes" "[I", Cond.fieldLink RX8 22 "LentCourage$Text" "start" "I", Cond.fieldLink RX8 25 "LentCourage$Text" "value" "I", Cond.fieldLink RX8 28 "LentCourage$Text" "sort" "I", Cond.methodLink RX8 31 yX8_isLetter, Cond.static yX8_isLetter, Cond.code yX8_isLetter cX8_isLetter 1 (some .boolean), Cond.methodLink RX8 35 yX8_readLetters, Cond.instanceMethod yX8_readLetters, Cond.selects RX8 yX8_readLetters yX8_readLetters, Cond.code yX8_readLetters cX8_readLetters 2 none, Cond.methodLink RX8 38 yX8_isDigit, Cond.static yX8_isDigit, Cond.code yX8_isDigit cX8_isDigit 1 (some .boolean), Cond.methodLink RX8 41 yX8_readNumber, Cond.instanceMethod yX8_readNumber, Cond.selects RX8 yX8_readNumber yX8_readNumber, Cond.code yX8_readNumber cX8_readNumber 3 none, Cond.methodLink RX5 35 yX5_readItem, Cond.instanceMethod yX5_readItem, Cond.selects RX5 yX5_readItem yX5_readItem, Cond.initialized RX5, Cond.code yX5_readItem cX5_readItem 3 (some .boolean), Cond.fieldLink RX5 42 "LentCourage$Text" "value" "I"]
def wsX5_read_r3 : List Cond := [Cond.methodLink RX5 45 yX5_readOne, Cond.instanceMethod yX5_readOne, Cond.selects RX5 yX5_readOne yX5_readOne, Cond.code yX5_readOne cX5_readOne 3 (some .boolean), Cond.fieldLink RX5 57 "LentCourage$Port" "people" "I", Cond.fieldLink RX5 64 "LentCourage$Port" "home" "[I", Cond.methodLink RX5 60 yX5_readNumber, Cond.static yX5_readNumber, Cond.code yX5_readNumber cX5_readNumber 3 (some .boolean), Cond.methodLink RX5 68 yX5_readStop, Cond.static yX5_readStop, Cond.code yX5_readStop cX5_readStop 1 (some .boolean), Cond.methodLink RX5 48 yX5_readDeed, Cond.instanceMethod yX5_readDeed, Cond.selects RX5 yX5_readDeed yX5_readDeed, Cond.code yX5_readDeed cX5_readDeed 4 (some .boolean), Cond.fieldLink RX5 72 "LentCourage$Port" "deeds" "I", Cond.fieldLink RX5 75 "LentCourage$Port" "who" "[I", Cond.fieldLink RX5 78 "LentCourage$Port" "place" "[I", Cond.fieldLink RX5 81 "LentCourage$Port" "from" "[I", Cond.fieldLink RX5 84 "LentCourage$Port" "till" "[I", Cond.fieldLink RX5 87 "LentCourage$Port" "worth" "[I", Cond.methodLink RX5 51 yX5_readOffice, Cond.instanceMethod yX5_readOffice]
def wsX5_read_r4 : List Cond := [Cond.selects RX5 yX5_readOffice yX5_readOffice, Cond.code yX5_readOffice cX5_readOffice 3 (some .boolean), Cond.fieldLink RX5 90 "LentCourage$Port" "office" "I", Cond.methodLink RX5 54 yX5_readFree, Cond.instanceMethod yX5_readFree, Cond.selects RX5 yX5_readFree yX5_readFree, Cond.code yX5_readFree cX5_readFree 3 (some .boolean), Cond.fieldLink RX5 93 "LentCourage$Port" "free" "I"]
def wsX5_read : List Cond := .code yX5_read cX5_read 5 (some .int) :: ((wsX5_read_r1 ++ (wsX5_read_r2 ++ (wsX5_read_r3 ++ wsX5_read_r4))) ++ wsX50 ++ wsX80 ++ wsX40)
def wsX6_init : List Cond := .code yX6_init cX6_init 1 none :: ([.methodLink RX6 3 objectInit, .instanceMethod objectInit, .code objectInit ⟨#[0xb1]⟩ 1 none, .arrayClass .int, .fieldLink RX6 9 "LentCourage$Round" "row" "[I", .fieldLink RX6 15 "LentCourage$Round" "tried" "[I"] ++ wsX60)
def wsX9_begin : List Cond := .code yX9_begin cX9_begin 3 none :: ([.fieldLink RX9 15 "LentCourage$Moment" "at" "[I", .fieldLink RX9 9 "LentCourage$Way" "at" "[I", .methodLink RX9 18 arraycopyName, .native arraycopyName, .static arraycopyName, .initialized "java/lang/System", .fieldLink RX9 28 "LentCourage$Way" "spoon" "I", .fieldLink RX9 32 "LentCourage$Moment" "hour" "I", .fieldLink RX9 35 "LentCourage$Way" "hour" "I", .fieldLink RX9 36 "LentCourage$Moment" "fresh" "Z", .fieldLink RX9 40 "LentCourage$Moment" "holder" "I", .fieldLink RX9 43 "LentCourage$Way" "ahead" "I", .methodLink RX9 24 yX2_spoonPlace, .instanceMethod yX2_spoonPlace, .selects RX2 yX2_spoonPlace yX2_spoonPlace, .initialized RX2, .code yX2_spoonPlace cX2_spoonPlace 2 (some .int), .fieldLink RX2 15 "LentCourage$Moment" "at" "[I", .fieldLink RX2 9 "LentCourage$Moment" "holder" "I", .fieldLink RX2 53 "LentCourage$Port" "office" "I", .methodLink RX2 49 yX2_isHeld, .instanceMethod yX2_isHeld, .selects RX2 yX2_isHeld yX2_isHeld, .code yX2_isHeld cX2_isHeld 1 (some .boolean)] ++ wsX20 ++ wsX90 ++ wsX40)
def wsX6_rememberRow : List Cond := .code yX6_rememberRow cX6_rememberRow 4 none :: ([.fieldLink RX6 15 "LentCourage$Round" "tried" "[I", .fieldLink RX6 9 "LentCourage$Round" "row" "[I", .methodLink RX6 81 arraycopyName, .native arraycopyName, .static arraycopyName, .initialized "java/lang/System", .fieldLink RX6 18 "LentCourage$Round" "length" "I", .fieldLink RX6 22 "LentCourage$Round" "worth" "I", .fieldLink RX6 30 "LentCourage$Round" "hour" "I"] ++ wsX60)
def wsX6_canBecomeBetter : List Cond := .code yX6_canBecomeBetter cX6_canBecomeBetter 10 (some .boolean) :: ([.fieldLink RX6 45 "LentCourage$Way" "hour" "I", .fieldLink RX6 60 "LentCourage$Port" "deeds" "I", .fieldLink RX6 54 "LentCourage$Way" "spoon" "I", .fieldLink RX6 87 "LentCourage$Port" "place" "[I", .methodLink RX6 90 Lib.Math.abs.name, .static Lib.Math.abs.name, .initialized "java/lang/Math", .code Lib.Math.abs.name Lib.Math.abs.code 1 (some .int), .fieldLink RX6 96 "LentCourage$Port" "from" "[I", .methodLink RX6 99 Lib.Math.max.name, .static Lib.Math.max.name, .code Lib.Math.max.name Lib.Math.max.code 2 (some .int), .fieldLink RX6 103 "LentCourage$Port" "till" "[I", .fieldLink RX6 79 "LentCourage$Port" "worth" "[I", .fieldLink RX6 22 "LentCourage$Round" "worth" "I", .fieldLink RX6 30 "LentCourage$Round" "hour" "I"] ++ wsX90 ++ wsX40 ++ wsX60)
def wsX9_hourOfNext : List Cond := .code yX9_hourOfNext cX9_hourOfNext 6 (some .int) :: ([.fieldLink RX9 46 "LentCourage$Port" "who" "[I", .fieldLink RX9 43 "LentCourage$Way" "ahead" "I", .fieldLink RX9 35 "LentCourage$Way" "hour" "I", .fieldLink RX9 28 "LentCourage$Way" "spoon" "I", .fieldLink RX9 9 "LentCourage$Way" "at" "[I", .methodLink RX9 51 Lib.Math.abs.name, .static Lib.Math.abs.name, .initialized "java/lang/Math", .code Lib.Math.abs.name Lib.Math.abs.code 1 (some .int), .fieldLink RX9 57 "LentCourage$Port" "place" "[I", .fieldLink RX9 60 "LentCourage$Port" "from" "[I", .methodLink RX9 63 Lib.Math.max.name, .static Lib.Math.max.name, .code Lib.Math.max.name Lib.Math.max.code 2 (some .int), .fieldLink RX9 67 "LentCourage$Port" "till" "[I"] ++ wsX40 ++ wsX90)
def wsX9_add : List Cond := .code yX9_add cX9_add 5 none :: ([.fieldLink RX9 46 "LentCourage$Port" "who" "[I", .fieldLink RX9 9 "LentCourage$Way" "at" "[I", .fieldLink RX9 57 "LentCourage$Port" "place" "[I", .fieldLink RX9 28 "LentCourage$Way" "spoon" "I", .fieldLink RX9 35 "LentCourage$Way" "hour" "I", .fieldLink RX9 43 "LentCourage$Way" "ahead" "I"] ++ wsX40 ++ wsX90)
def wsX6_tryRows_r1 : List Cond := [Cond.fieldLink RX6 22 "LentCourage$Round" "worth" "I", Cond.fieldLink RX6 45 "LentCourage$Way" "hour" "I", Cond.fieldLink RX6 30 "LentCourage$Round" "hour" "I", Cond.fieldLink RX6 54 "LentCourage$Way" "spoon" "I", Cond.fieldLink RX6 57 "LentCourage$Way" "ahead" "I", Cond.fieldLink RX6 60 "LentCourage$Port" "deeds" "I", Cond.fieldLink RX6 69 "LentCourage$Port" "who" "[I", Cond.fieldLink RX6 72 "LentCourage$Way" "at" "[I", Cond.fieldLink RX6 15 "LentCourage$Round" "tried" "[I", Cond.fieldLink RX6 79 "LentCourage$Port" "worth" "[I", Cond.methodLink RX6 46 yX6_rememberRow, Cond.instanceMethod yX6_rememberRow, Cond.selects RX6 yX6_rememberRow yX6_rememberRow, Cond.initialized RX6, Cond.code yX6_rememberRow cX6_rememberRow 4 none, Cond.fieldLink RX6 9 "LentCourage$Round" "row" "[I", Cond.methodLink RX6 81 arraycopyName, Cond.native arraycopyName, Cond.static arraycopyName, Cond.initialized "java/lang/System", Cond.fieldLink RX6 18 "LentCourage$Round" "length" "I", Cond.methodLink RX6 50 yX6_canBecomeBetter, Cond.instanceMethod yX6_canBecomeBetter, Cond.selects RX6 yX6_canBecomeBetter yX6_canBecomeBetter]
def wsX6_tryRows_r2 : List Cond := [Cond.code yX6_canBecomeBetter cX6_canBecomeBetter 10 (some .boolean), Cond.fieldLink RX6 87 "LentCourage$Port" "place" "[I", Cond.methodLink RX6 90 Lib.Math.abs.name, Cond.static Lib.Math.abs.name, Cond.initialized "java/lang/Math", Cond.code Lib.Math.abs.name Lib.Math.abs.code 1 (some .int), Cond.fieldLink RX6 96 "LentCourage$Port" "from" "[I", Cond.methodLink RX6 99 Lib.Math.max.name, Cond.static Lib.Math.max.name, Cond.code Lib.Math.max.name Lib.Math.max.code 2 (some .int), Cond.fieldLink RX6 103 "LentCourage$Port" "till" "[I", Cond.methodLink RX6 65 yX9_hourOfNext, Cond.instanceMethod yX9_hourOfNext, Cond.selects RX9 yX9_hourOfNext yX9_hourOfNext, Cond.initialized RX9, Cond.code yX9_hourOfNext cX9_hourOfNext 6 (some .int), Cond.fieldLink RX9 46 "LentCourage$Port" "who" "[I", Cond.fieldLink RX9 43 "LentCourage$Way" "ahead" "I", Cond.fieldLink RX9 35 "LentCourage$Way" "hour" "I", Cond.fieldLink RX9 28 "LentCourage$Way" "spoon" "I", Cond.fieldLink RX9 9 "LentCourage$Way" "at" "[I", Cond.methodLink RX9 51 Lib.Math.abs.name, Cond.fieldLink RX9 57 "LentCourage$Port" "place" "[I", Cond.fieldLink RX9 60 "LentCourage$Port" "from" "[I"]
def wsX6_tryRows_r3 : List Cond := [Cond.methodLink RX9 63 Lib.Math.max.name, Cond.fieldLink RX9 67 "LentCourage$Port" "till" "[I", Cond.methodLink RX6 75 yX9_add, Cond.instanceMethod yX9_add, Cond.selects RX9 yX9_add yX9_add, Cond.code yX9_add cX9_add 5 none, Cond.methodLink RX6 41 yX6_tryRows, Cond.instanceMethod yX6_tryRows, Cond.selects RX6 yX6_tryRows yX6_tryRows]
def wsX6_tryRows : List Cond := .code yX6_tryRows cX6_tryRows 13 none :: ((wsX6_tryRows_r1 ++ (wsX6_tryRows_r2 ++ wsX6_tryRows_r3)) ++ wsX60 ++ wsX90 ++ wsX40)
def wsX6_find_r1 : List Cond := [Cond.fieldLink RX6 18 "LentCourage$Round" "length" "I", Cond.fieldLink RX6 22 "LentCourage$Round" "worth" "I", Cond.fieldLink RX6 25 "LentCourage$Moment" "hour" "I", Cond.fieldLink RX6 30 "LentCourage$Round" "hour" "I", Cond.methodLink RX6 31 yX9_begin, Cond.instanceMethod yX9_begin, Cond.selects RX9 yX9_begin yX9_begin, Cond.initialized RX9, Cond.code yX9_begin cX9_begin 3 none, Cond.fieldLink RX9 15 "LentCourage$Moment" "at" "[I", Cond.fieldLink RX9 9 "LentCourage$Way" "at" "[I", Cond.methodLink RX9 18 arraycopyName, Cond.native arraycopyName, Cond.static arraycopyName, Cond.initialized "java/lang/System", Cond.fieldLink RX9 28 "LentCourage$Way" "spoon" "I", Cond.fieldLink RX9 32 "LentCourage$Moment" "hour" "I", Cond.fieldLink RX9 35 "LentCourage$Way" "hour" "I", Cond.fieldLink RX9 36 "LentCourage$Moment" "fresh" "Z", Cond.fieldLink RX9 40 "LentCourage$Moment" "holder" "I", Cond.fieldLink RX9 43 "LentCourage$Way" "ahead" "I", Cond.methodLink RX9 24 yX2_spoonPlace, Cond.instanceMethod yX2_spoonPlace, Cond.selects RX2 yX2_spoonPlace yX2_spoonPlace]
def wsX6_find_r2 : List Cond := [Cond.initialized RX2, Cond.code yX2_spoonPlace cX2_spoonPlace 2 (some .int), Cond.fieldLink RX2 15 "LentCourage$Moment" "at" "[I", Cond.fieldLink RX2 9 "LentCourage$Moment" "holder" "I", Cond.fieldLink RX2 53 "LentCourage$Port" "office" "I", Cond.methodLink RX2 49 yX2_isHeld, Cond.instanceMethod yX2_isHeld, Cond.selects RX2 yX2_isHeld yX2_isHeld, Cond.code yX2_isHeld cX2_isHeld 1 (some .boolean), Cond.methodLink RX6 37 yX2_openDeeds, Cond.instanceMethod yX2_openDeeds, Cond.selects RX2 yX2_openDeeds yX2_openDeeds, Cond.code yX2_openDeeds cX2_openDeeds 2 (some .int), Cond.fieldLink RX2 85 "LentCourage$Port" "deeds" "I", Cond.fieldLink RX2 35 "LentCourage$Moment" "done" "I", Cond.methodLink RX6 41 yX6_tryRows, Cond.instanceMethod yX6_tryRows, Cond.selects RX6 yX6_tryRows yX6_tryRows, Cond.initialized RX6, Cond.code yX6_tryRows cX6_tryRows 13 none, Cond.fieldLink RX6 45 "LentCourage$Way" "hour" "I", Cond.fieldLink RX6 54 "LentCourage$Way" "spoon" "I", Cond.fieldLink RX6 57 "LentCourage$Way" "ahead" "I", Cond.fieldLink RX6 60 "LentCourage$Port" "deeds" "I"]
def wsX6_find_r3 : List Cond := [Cond.fieldLink RX6 69 "LentCourage$Port" "who" "[I", Cond.fieldLink RX6 72 "LentCourage$Way" "at" "[I", Cond.fieldLink RX6 15 "LentCourage$Round" "tried" "[I", Cond.fieldLink RX6 79 "LentCourage$Port" "worth" "[I", Cond.methodLink RX6 46 yX6_rememberRow, Cond.instanceMethod yX6_rememberRow, Cond.selects RX6 yX6_rememberRow yX6_rememberRow, Cond.code yX6_rememberRow cX6_rememberRow 4 none, Cond.fieldLink RX6 9 "LentCourage$Round" "row" "[I", Cond.methodLink RX6 81 arraycopyName, Cond.methodLink RX6 50 yX6_canBecomeBetter, Cond.instanceMethod yX6_canBecomeBetter, Cond.selects RX6 yX6_canBecomeBetter yX6_canBecomeBetter, Cond.code yX6_canBecomeBetter cX6_canBecomeBetter 10 (some .boolean), Cond.fieldLink RX6 87 "LentCourage$Port" "place" "[I", Cond.methodLink RX6 90 Lib.Math.abs.name, Cond.static Lib.Math.abs.name, Cond.initialized "java/lang/Math", Cond.code Lib.Math.abs.name Lib.Math.abs.code 1 (some .int), Cond.fieldLink RX6 96 "LentCourage$Port" "from" "[I", Cond.methodLink RX6 99 Lib.Math.max.name, Cond.static Lib.Math.max.name, Cond.code Lib.Math.max.name Lib.Math.max.code 2 (some .int), Cond.fieldLink RX6 103 "LentCourage$Port" "till" "[I"]
def wsX6_find_r4 : List Cond := [Cond.methodLink RX6 65 yX9_hourOfNext, Cond.instanceMethod yX9_hourOfNext, Cond.selects RX9 yX9_hourOfNext yX9_hourOfNext, Cond.code yX9_hourOfNext cX9_hourOfNext 6 (some .int), Cond.fieldLink RX9 46 "LentCourage$Port" "who" "[I", Cond.methodLink RX9 51 Lib.Math.abs.name, Cond.fieldLink RX9 57 "LentCourage$Port" "place" "[I", Cond.fieldLink RX9 60 "LentCourage$Port" "from" "[I", Cond.methodLink RX9 63 Lib.Math.max.name, Cond.fieldLink RX9 67 "LentCourage$Port" "till" "[I", Cond.methodLink RX6 75 yX9_add, Cond.instanceMethod yX9_add, Cond.selects RX9 yX9_add yX9_add, Cond.code yX9_add cX9_add 5 none]
def wsX6_find : List Cond := .code yX6_find cX6_find 4 none :: ((wsX6_find_r1 ++ (wsX6_find_r2 ++ (wsX6_find_r3 ++ wsX6_find_r4))) ++ wsX60 ++ wsX20 ++ wsX90 ++ wsX40)
def wsX7_init : List Cond := .code yX7_init cX7_init 1 none :: ([.methodLink RX7 3 objectInit, .instanceMethod objectInit, .code objectInit ⟨#[0xb1]⟩ 1 none, .arrayClass .int, .fieldLink RX7 9 "LentCourage$SpoonCount" "leader" "[I"] ++ wsX70)
def wsX7_canGo : List Cond := .code yX7_canGo cX7_canGo 5 (some .boolean) :: ([.fieldLink RX7 47 "LentCourage$Port" "home" "[I", .fieldLink RX7 41 "LentCourage$Port" "who" "[I", .methodLink RX7 50 Lib.Math.abs.name, .static Lib.Math.abs.name, .initialized "java/lang/Math", .code Lib.Math.abs.name Lib.Math.abs.code 1 (some .int), .fieldLink RX7 44 "LentCourage$Port" "place" "[I", .fieldLink RX7 38 "LentCourage$Port" "from" "[I"] ++ wsX40)
def wsX7_canFollow : List Cond := .code yX7_canFollow cX7_canFollow 5 (some .boolean) :: ([.fieldLink RX7 38 "LentCourage$Port" "from" "[I", .fieldLink RX7 41 "LentCourage$Port" "who" "[I", .fieldLink RX7 44 "LentCourage$Port" "place" "[I", .methodLink RX7 24 yX7_canGo, .static yX7_canGo, .initialized RX7, .code yX7_canGo cX7_canGo 5 (some .boolean), .fieldLink RX7 47 "LentCourage$Port" "home" "[I", .methodLink RX7 50 Lib.Math.abs.name, .static Lib.Math.abs.name, .initialized "java/lang/Math", .code Lib.Math.abs.name Lib.Math.abs.code 1 (some .int)] ++ wsX40)
def wsX7_findFollower : List Cond := .code yX7_findFollower cX7_findFollower 5 (some .boolean) :: ([.fieldLink RX7 15 "LentCourage$Port" "deeds" "I", .fieldLink RX7 28 "LentCourage$SpoonCount" "seen" "I", .fieldLink RX7 9 "LentCourage$SpoonCount" "leader" "[I", .methodLink RX7 35 yX7_canFollow, .static yX7_canFollow, .initialized RX7, .code yX7_canFollow cX7_canFollow 5 (some .boolean), .fieldLink RX7 38 "LentCourage$Port" "from" "[I", .fieldLink RX7 41 "LentCourage$Port" "who" "[I", .fieldLink RX7 44 "LentCourage$Port" "place" "[I", .methodLink RX7 24 yX7_canGo, .static yX7_canGo, .code yX7_canGo cX7_canGo 5 (some .boolean), .fieldLink RX7 47 "LentCourage$Port" "home" "[I", .methodLink RX7 50 Lib.Math.abs.name, .static Lib.Math.abs.name, .initialized "java/lang/Math", .code Lib.Math.abs.name Lib.Math.abs.code 1 (some .int), .methodLink RX7 31 yX7_findFollower, .instanceMethod yX7_findFollower, .selects RX7 yX7_findFollower yX7_findFollower] ++ wsX40 ++ wsX70)
def wsX7_fewest : List Cond := .code yX7_fewest cX7_fewest 4 (some .int) :: ([.fieldLink RX7 15 "LentCourage$Port" "deeds" "I", .fieldLink RX7 21 "LentCourage$Port" "office" "I", .fieldLink RX7 9 "LentCourage$SpoonCount" "leader" "[I", .fieldLink RX7 28 "LentCourage$SpoonCount" "seen" "I", .methodLink RX7 24 yX7_canGo, .static yX7_canGo, .initialized RX7, .code yX7_canGo cX7_canGo 5 (some .boolean), .fieldLink RX7 47 "LentCourage$Port" "home" "[I", .fieldLink RX7 41 "LentCourage$Port" "who" "[I", .methodLink RX7 50 Lib.Math.abs.name, .static Lib.Math.abs.name, .initialized "java/lang/Math", .code Lib.Math.abs.name Lib.Math.abs.code 1 (some .int), .fieldLink RX7 44 "LentCourage$Port" "place" "[I", .fieldLink RX7 38 "LentCourage$Port" "from" "[I", .methodLink RX7 31 yX7_findFollower, .instanceMethod yX7_findFollower, .selects RX7 yX7_findFollower yX7_findFollower, .code yX7_findFollower cX7_findFollower 5 (some .boolean), .methodLink RX7 35 yX7_canFollow, .static yX7_canFollow, .code yX7_canFollow cX7_canFollow 5 (some .boolean)] ++ wsX40 ++ wsX70)
def wsX8_init : List Cond := .code yX8_init cX8_init 1 none :: ([.methodLink RX8 3 objectInit, .instanceMethod objectInit, .code objectInit ⟨#[0xb1]⟩ 1 none, .arrayClass .int, .fieldLink RX8 9 "LentCourage$Text" "bytes" "[I"] ++ wsX80)
def wsX9_init : List Cond := .code yX9_init cX9_init 1 none :: ([.methodLink RX9 3 objectInit, .instanceMethod objectInit, .code objectInit ⟨#[0xb1]⟩ 1 none, .arrayClass .int, .fieldLink RX9 9 "LentCourage$Way" "at" "[I"] ++ wsX90)
def wsX10_init_r1 : List Cond := [Cond.methodLink RX10 1 objectInit, Cond.instanceMethod objectInit, Cond.code objectInit ⟨#[0xb1]⟩ 1 none, Cond.classLink RX10 7 RX8, Cond.instantiable RX8 6, Cond.initialized RX8, Cond.fieldLink RX10 10 "LentCourage" "text" "LLentCourage$Text;", Cond.classLink RX10 16 RX5, Cond.instantiable RX5 2, Cond.initialized RX5, Cond.fieldLink RX10 19 "LentCourage" "reader" "LLentCourage$PortReader;", Cond.classLink RX10 23 RX4, Cond.instantiable RX4 10, Cond.initialized RX4, Cond.fieldLink RX10 26 "LentCourage" "port" "LLentCourage$Port;", Cond.fieldLink RX10 30 "LentCourage" "draft" "LLentCourage$Port;", Cond.classLink RX10 33 RX1, Cond.instantiable RX1 3, Cond.initialized RX1, Cond.fieldLink RX10 36 "LentCourage" "ledger" "LLentCourage$Ledger;", Cond.fieldLink RX10 40 "LentCourage" "images" "[LLentCourage$Ledger;", Cond.arrayClass .boolean, Cond.fieldLink RX10 44 "LentCourage" "imageKept" "[Z", Cond.classLink RX10 48 RX0]
def wsX10_init_r2 : List Cond := [Cond.instantiable RX0 3, Cond.initialized RX0, Cond.fieldLink RX10 51 "LentCourage" "heard" "LLentCourage$Heard;", Cond.classLink RX10 55 RX9, Cond.instantiable RX9 4, Cond.initialized RX9, Cond.fieldLink RX10 58 "LentCourage" "way" "LLentCourage$Way;", Cond.classLink RX10 62 RX6, Cond.instantiable RX6 5, Cond.initialized RX6, Cond.fieldLink RX10 65 "LentCourage" "best" "LLentCourage$Round;", Cond.classLink RX10 69 RX7, Cond.instantiable RX7 2, Cond.initialized RX7, Cond.fieldLink RX10 72 "LentCourage" "spoonCount" "LLentCourage$SpoonCount;", Cond.classLink RX10 76 RX3, Cond.instantiable RX3 3, Cond.initialized RX3, Cond.fieldLink RX10 79 "LentCourage" "chances" "LLentCourage$Odds;", Cond.instanceMethod yX8_init, Cond.code yX8_init cX8_init 1 none, Cond.methodLink RX8 3 objectInit, Cond.arrayClass .int, Cond.fieldLink RX8 9 "LentCourage$Text" "bytes" "[I"]
def wsX10_init_r3 : List Cond := [Cond.instanceMethod yX5_init, Cond.code yX5_init cX5_init 1 none, Cond.methodLink RX5 3 objectInit, Cond.instanceMethod yX4_init, Cond.code yX4_init cX4_init 1 none, Cond.methodLink RX4 3 objectInit, Cond.fieldLink RX4 11 "LentCourage$Port" "office" "I", Cond.fieldLink RX4 15 "LentCourage$Port" "free" "I", Cond.fieldLink RX4 18 "LentCourage$Port" "home" "[I", Cond.fieldLink RX4 22 "LentCourage$Port" "who" "[I", Cond.fieldLink RX4 25 "LentCourage$Port" "place" "[I", Cond.fieldLink RX4 28 "LentCourage$Port" "from" "[I", Cond.fieldLink RX4 31 "LentCourage$Port" "till" "[I", Cond.fieldLink RX4 34 "LentCourage$Port" "worth" "[I", Cond.methodLink RX10 35 yX1_init, Cond.instanceMethod yX1_init, Cond.code yX1_init cX1_init 2 none, Cond.methodLink RX1 3 objectInit, Cond.classLink RX1 9 RX2, Cond.instantiable RX2 8, Cond.initialized RX2, Cond.fieldLink RX1 12 "LentCourage$Ledger" "present" "LLentCourage$Moment;", Cond.fieldLink RX1 18 "LentCourage$Ledger" "past" "[LLentCourage$Moment;", Cond.instanceMethod yX2_init]
def wsX10_init_r4 : List Cond := [Cond.code yX2_init cX2_init 1 none, Cond.methodLink RX2 3 objectInit, Cond.fieldLink RX2 9 "LentCourage$Moment" "holder" "I", Cond.fieldLink RX2 15 "LentCourage$Moment" "at" "[I", Cond.fieldLink RX2 19 "LentCourage$Moment" "lastHeld" "[I", Cond.fieldLink RX2 22 "LentCourage$Moment" "owed" "[I", Cond.instanceMethod yX0_init, Cond.code yX0_init cX0_init 1 none, Cond.methodLink RX0 3 objectInit, Cond.fieldLink RX0 9 "LentCourage$Heard" "deed" "[I", Cond.fieldLink RX0 15 "LentCourage$Heard" "hour" "[I", Cond.instanceMethod yX9_init, Cond.code yX9_init cX9_init 1 none, Cond.methodLink RX9 3 objectInit, Cond.fieldLink RX9 9 "LentCourage$Way" "at" "[I", Cond.instanceMethod yX6_init, Cond.code yX6_init cX6_init 1 none, Cond.methodLink RX6 3 objectInit, Cond.fieldLink RX6 9 "LentCourage$Round" "row" "[I", Cond.fieldLink RX6 15 "LentCourage$Round" "tried" "[I", Cond.instanceMethod yX7_init, Cond.code yX7_init cX7_init 1 none, Cond.methodLink RX7 3 objectInit, Cond.fieldLink RX7 9 "LentCourage$SpoonCount" "leader" "[I"]
def wsX10_init_r5 : List Cond := [Cond.instanceMethod yX3_init, Cond.code yX3_init cX3_init 1 none, Cond.methodLink RX3 3 objectInit, Cond.fieldLink RX3 9 "LentCourage$Odds" "ways" "[I"]
def wsX10_init : List Cond := .code yX10_init cX10_init 2 none :: ((wsX10_init_r1 ++ (wsX10_init_r2 ++ (wsX10_init_r3 ++ (wsX10_init_r4 ++ wsX10_init_r5)))) ++ wsX80 ++ wsX100 ++ wsX50 ++ wsX40 ++ wsX10 ++ wsX00 ++ wsX90 ++ wsX60 ++ wsX70 ++ wsX30 ++ wsX20)
def wsX10_type : List Cond := .code yX10_type cX10_type 2 (some .int) :: ([.fieldLink RX10 10 "LentCourage" "text" "LLentCourage$Text;", .fieldLink RX10 83 "LentCourage$Text" "length" "I", .fieldLink RX10 87 "LentCourage$Text" "bytes" "[I"] ++ wsX100 ++ wsX80)
def wsX10_clear : List Cond := .code yX10_clear cX10_clear 2 (some .int) :: ([.fieldLink RX10 10 "LentCourage" "text" "LLentCourage$Text;", .fieldLink RX10 83 "LentCourage$Text" "length" "I"] ++ wsX100 ++ wsX80)
def wsX10_port_r1 : List Cond := [Cond.fieldLink RX10 19 "LentCourage" "reader" "LLentCourage$PortReader;", Cond.fieldLink RX10 10 "LentCourage" "text" "LLentCourage$Text;", Cond.fieldLink RX10 30 "LentCourage" "draft" "LLentCourage$Port;", Cond.fieldLink RX10 83 "LentCourage$Text" "length" "I", Cond.fieldLink RX10 26 "LentCourage" "port" "LLentCourage$Port;", Cond.fieldLink RX10 36 "LentCourage" "ledger" "LLentCourage$Ledger;", Cond.fieldLink RX10 51 "LentCourage" "heard" "LLentCourage$Heard;", Cond.fieldLink RX10 102 "LentCourage$Heard" "size" "I", Cond.fieldLink RX10 44 "LentCourage" "imageKept" "[Z", Cond.fieldLink RX10 105 "LentCourage" "bestIsKnown" "Z", Cond.methodLink RX10 91 yX5_read, Cond.instanceMethod yX5_read, Cond.selects RX5 yX5_read yX5_read, Cond.initialized RX5, Cond.code yX5_read cX5_read 5 (some .int), Cond.fieldLink RX5 19 "LentCourage$PortReader" "officeTold" "Z", Cond.fieldLink RX5 25 "LentCourage$PortReader" "freeTold" "Z", Cond.fieldLink RX5 31 "LentCourage$Text" "sort" "I", Cond.fieldLink RX5 39 "LentCourage$Text" "start" "I", Cond.methodLink RX5 9 yX8_goToStart, Cond.instanceMethod yX8_goToStart, Cond.selects RX8 yX8_goToStart yX8_goToStart, Cond.initialized RX8, Cond.code yX8_goToStart cX8_goToStart 1 none]
def wsX10_port_r2 : List Cond := [Cond.fieldLink RX8 15 "LentCourage$Text" "next" "I", Cond.methodLink RX5 14 yX4_empty, Cond.instanceMethod yX4_empty, Cond.selects RX4 yX4_empty yX4_empty, Cond.initialized RX4, Cond.code yX4_empty cX4_empty 1 none, Cond.fieldLink RX4 11 "LentCourage$Port" "office" "I", Cond.fieldLink RX4 15 "LentCourage$Port" "free" "I", Cond.fieldLink RX4 37 "LentCourage$Port" "people" "I", Cond.fieldLink RX4 40 "LentCourage$Port" "deeds" "I", Cond.methodLink RX5 28 yX8_readToken, Cond.instanceMethod yX8_readToken, Cond.selects RX8 yX8_readToken yX8_readToken, Cond.code yX8_readToken cX8_readToken 1 none, Cond.fieldLink RX8 19 "LentCourage$Text" "length" "I", Cond.fieldLink RX8 9 "LentCourage$Text" "bytes" "[I", Cond.fieldLink RX8 22 "LentCourage$Text" "start" "I", Cond.fieldLink RX8 25 "LentCourage$Text" "value" "I", Cond.fieldLink RX8 28 "LentCourage$Text" "sort" "I", Cond.methodLink RX8 31 yX8_isLetter, Cond.static yX8_isLetter, Cond.code yX8_isLetter cX8_isLetter 1 (some .boolean), Cond.methodLink RX8 35 yX8_readLetters, Cond.instanceMethod yX8_readLetters]
def wsX10_port_r3 : List Cond := [Cond.selects RX8 yX8_readLetters yX8_readLetters, Cond.code yX8_readLetters cX8_readLetters 2 none, Cond.methodLink RX8 38 yX8_isDigit, Cond.static yX8_isDigit, Cond.code yX8_isDigit cX8_isDigit 1 (some .boolean), Cond.methodLink RX8 41 yX8_readNumber, Cond.instanceMethod yX8_readNumber, Cond.selects RX8 yX8_readNumber yX8_readNumber, Cond.code yX8_readNumber cX8_readNumber 3 none, Cond.methodLink RX5 35 yX5_readItem, Cond.instanceMethod yX5_readItem, Cond.selects RX5 yX5_readItem yX5_readItem, Cond.code yX5_readItem cX5_readItem 3 (some .boolean), Cond.fieldLink RX5 42 "LentCourage$Text" "value" "I", Cond.methodLink RX5 45 yX5_readOne, Cond.instanceMethod yX5_readOne, Cond.selects RX5 yX5_readOne yX5_readOne, Cond.code yX5_readOne cX5_readOne 3 (some .boolean), Cond.fieldLink RX5 57 "LentCourage$Port" "people" "I", Cond.fieldLink RX5 64 "LentCourage$Port" "home" "[I", Cond.methodLink RX5 60 yX5_readNumber, Cond.static yX5_readNumber, Cond.code yX5_readNumber cX5_readNumber 3 (some .boolean), Cond.methodLink RX5 68 yX5_readStop]
def wsX10_port_r4 : List Cond := [Cond.static yX5_readStop, Cond.code yX5_readStop cX5_readStop 1 (some .boolean), Cond.methodLink RX5 48 yX5_readDeed, Cond.instanceMethod yX5_readDeed, Cond.selects RX5 yX5_readDeed yX5_readDeed, Cond.code yX5_readDeed cX5_readDeed 4 (some .boolean), Cond.fieldLink RX5 72 "LentCourage$Port" "deeds" "I", Cond.fieldLink RX5 75 "LentCourage$Port" "who" "[I", Cond.fieldLink RX5 78 "LentCourage$Port" "place" "[I", Cond.fieldLink RX5 81 "LentCourage$Port" "from" "[I", Cond.fieldLink RX5 84 "LentCourage$Port" "till" "[I", Cond.fieldLink RX5 87 "LentCourage$Port" "worth" "[I", Cond.methodLink RX5 51 yX5_readOffice, Cond.instanceMethod yX5_readOffice, Cond.selects RX5 yX5_readOffice yX5_readOffice, Cond.code yX5_readOffice cX5_readOffice 3 (some .boolean), Cond.fieldLink RX5 90 "LentCourage$Port" "office" "I", Cond.methodLink RX5 54 yX5_readFree, Cond.instanceMethod yX5_readFree, Cond.selects RX5 yX5_readFree yX5_readFree, Cond.code yX5_readFree cX5_readFree 3 (some .boolean), Cond.fieldLink RX5 93 "LentCourage$Port" "free" "I", Cond.methodLink RX10 95 yX4_copyFrom, Cond.instanceMethod yX4_copyFrom]
def wsX10_port_r5 : List Cond := [Cond.selects RX4 yX4_copyFrom yX4_copyFrom, Cond.code yX4_copyFrom cX4_copyFrom 2 none, Cond.fieldLink RX4 18 "LentCourage$Port" "home" "[I", Cond.methodLink RX4 43 arraycopyName, Cond.native arraycopyName, Cond.static arraycopyName, Cond.initialized "java/lang/System", Cond.fieldLink RX4 22 "LentCourage$Port" "who" "[I", Cond.fieldLink RX4 25 "LentCourage$Port" "place" "[I", Cond.fieldLink RX4 28 "LentCourage$Port" "from" "[I", Cond.fieldLink RX4 31 "LentCourage$Port" "till" "[I", Cond.fieldLink RX4 34 "LentCourage$Port" "worth" "[I", Cond.methodLink RX10 99 yX1_begin, Cond.instanceMethod yX1_begin, Cond.selects RX1 yX1_begin yX1_begin, Cond.initialized RX1, Cond.code yX1_begin cX1_begin 2 none, Cond.fieldLink RX1 12 "LentCourage$Ledger" "present" "LLentCourage$Moment;", Cond.fieldLink RX1 26 "LentCourage$Ledger" "steps" "I", Cond.methodLink RX1 22 yX2_begin, Cond.instanceMethod yX2_begin, Cond.selects RX2 yX2_begin yX2_begin, Cond.initialized RX2, Cond.code yX2_begin cX2_begin 3 none]
def wsX10_port_r6 : List Cond := [Cond.fieldLink RX2 25 "LentCourage$Moment" "hour" "I", Cond.fieldLink RX2 9 "LentCourage$Moment" "holder" "I", Cond.fieldLink RX2 28 "LentCourage$Moment" "since" "I", Cond.fieldLink RX2 31 "LentCourage$Moment" "fresh" "Z", Cond.fieldLink RX2 35 "LentCourage$Moment" "done" "I", Cond.fieldLink RX2 15 "LentCourage$Moment" "at" "[I", Cond.fieldLink RX2 38 "LentCourage$Port" "home" "[I", Cond.fieldLink RX2 19 "LentCourage$Moment" "lastHeld" "[I", Cond.fieldLink RX2 22 "LentCourage$Moment" "owed" "[I"]
def wsX10_port : List Cond := .code yX10_port cX10_port 3 (some .int) :: ((wsX10_port_r1 ++ (wsX10_port_r2 ++ (wsX10_port_r3 ++ (wsX10_port_r4 ++ (wsX10_port_r5 ++ wsX10_port_r6))))) ++ wsX100 ++ wsX80 ++ wsX00 ++ wsX50 ++ wsX40 ++ wsX10 ++ wsX20)
def wsX10_one : List Cond := .code yX10_one cX10_one 4 (some .int) :: ([.fieldLink RX10 26 "LentCourage" "port" "LLentCourage$Port;", .fieldLink RX10 36 "LentCourage" "ledger" "LLentCourage$Ledger;", .fieldLink RX10 113 "LentCourage$Ledger" "present" "LLentCourage$Moment;", .fieldLink RX10 117 "LentCourage$Port" "home" "[I", .fieldLink RX10 120 "LentCourage$Moment" "at" "[I", .fieldLink RX10 125 "LentCourage$Moment" "owed" "[I", .methodLink RX10 109 yX4_hasOne, .instanceMethod yX4_hasOne, .selects RX4 yX4_hasOne yX4_hasOne, .initialized RX4, .code yX4_hasOne cX4_hasOne 2 (some .boolean), .fieldLink RX4 37 "LentCourage$Port" "people" "I", .methodLink RX10 128 yX2_careOf, .instanceMethod yX2_careOf, .selects RX2 yX2_careOf yX2_careOf, .initialized RX2, .code yX2_careOf cX2_careOf 2 (some .int), .fieldLink RX2 9 "LentCourage$Moment" "holder" "I", .fieldLink RX2 25 "LentCourage$Moment" "hour" "I", .fieldLink RX2 19 "LentCourage$Moment" "lastHeld" "[I"] ++ wsX100 ++ wsX10 ++ wsX40 ++ wsX20)
def wsX10_deed : List Cond := .code yX10_deed cX10_deed 3 (some .int) :: ([.fieldLink RX10 26 "LentCourage" "port" "LLentCourage$Port;", .fieldLink RX10 135 "LentCourage$Port" "who" "[I", .fieldLink RX10 138 "LentCourage$Port" "place" "[I", .fieldLink RX10 141 "LentCourage$Port" "from" "[I", .fieldLink RX10 144 "LentCourage$Port" "till" "[I", .fieldLink RX10 147 "LentCourage$Port" "worth" "[I", .fieldLink RX10 36 "LentCourage" "ledger" "LLentCourage$Ledger;", .fieldLink RX10 113 "LentCourage$Ledger" "present" "LLentCourage$Moment;", .methodLink RX10 132 yX4_hasDeed, .instanceMethod yX4_hasDeed, .selects RX4 yX4_hasDeed yX4_hasDeed, .initialized RX4, .code yX4_hasDeed cX4_hasDeed 2 (some .boolean), .fieldLink RX4 40 "LentCourage$Port" "deeds" "I", .methodLink RX10 150 yX2_isDone, .instanceMethod yX2_isDone, .selects RX2 yX2_isDone yX2_isDone, .initialized RX2, .code yX2_isDone cX2_isDone 2 (some .boolean), .fieldLink RX2 35 "LentCourage$Moment" "done" "I"] ++ wsX100 ++ wsX40 ++ wsX10 ++ wsX20)
def wsX10_beginStep_r1 : List Cond := [Cond.fieldLink RX10 36 "LentCourage" "ledger" "LLentCourage$Ledger;", Cond.fieldLink RX10 105 "LentCourage" "bestIsKnown" "Z", Cond.methodLink RX10 218 yX1_rememberStep, Cond.instanceMethod yX1_rememberStep, Cond.selects RX1 yX1_rememberStep yX1_rememberStep, Cond.initialized RX1, Cond.code yX1_rememberStep cX1_rememberStep 1 none, Cond.fieldLink RX1 26 "LentCourage$Ledger" "steps" "I", Cond.fieldLink RX1 18 "LentCourage$Ledger" "past" "[LLentCourage$Moment;", Cond.fieldLink RX1 12 "LentCourage$Ledger" "present" "LLentCourage$Moment;", Cond.methodLink RX1 30 yX1_loseOldest, Cond.instanceMethod yX1_loseOldest, Cond.selects RX1 yX1_loseOldest yX1_loseOldest, Cond.code yX1_loseOldest cX1_loseOldest 3 none, Cond.methodLink RX1 33 yX2_copyFrom, Cond.instanceMethod yX2_copyFrom, Cond.selects RX2 yX2_copyFrom yX2_copyFrom, Cond.initialized RX2, Cond.code yX2_copyFrom cX2_copyFrom 2 none, Cond.fieldLink RX2 25 "LentCourage$Moment" "hour" "I", Cond.fieldLink RX2 9 "LentCourage$Moment" "holder" "I", Cond.fieldLink RX2 28 "LentCourage$Moment" "since" "I", Cond.fieldLink RX2 31 "LentCourage$Moment" "fresh" "Z", Cond.fieldLink RX2 35 "LentCourage$Moment" "done" "I"]
def wsX10_beginStep_r2 : List Cond := [Cond.fieldLink RX2 15 "LentCourage$Moment" "at" "[I", Cond.methodLink RX2 43 arraycopyName, Cond.native arraycopyName, Cond.static arraycopyName, Cond.initialized "java/lang/System", Cond.fieldLink RX2 19 "LentCourage$Moment" "lastHeld" "[I", Cond.fieldLink RX2 22 "LentCourage$Moment" "owed" "[I"]
def wsX10_beginStep : List Cond := .code yX10_beginStep cX10_beginStep 1 none :: ((wsX10_beginStep_r1 ++ wsX10_beginStep_r2) ++ wsX100 ++ wsX10 ++ wsX20)
def wsX10_lends_r1 : List Cond := [Cond.fieldLink RX10 26 "LentCourage" "port" "LLentCourage$Port;", Cond.fieldLink RX10 36 "LentCourage" "ledger" "LLentCourage$Ledger;", Cond.fieldLink RX10 113 "LentCourage$Ledger" "present" "LLentCourage$Moment;", Cond.fieldLink RX10 153 "LentCourage$Moment" "holder" "I", Cond.fieldLink RX10 120 "LentCourage$Moment" "at" "[I", Cond.fieldLink RX10 163 "LentCourage$Port" "free" "I", Cond.methodLink RX10 109 yX4_hasOne, Cond.instanceMethod yX4_hasOne, Cond.selects RX4 yX4_hasOne yX4_hasOne, Cond.initialized RX4, Cond.code yX4_hasOne cX4_hasOne 2 (some .boolean), Cond.fieldLink RX4 37 "LentCourage$Port" "people" "I", Cond.methodLink RX10 156 yX2_spoonPlace, Cond.instanceMethod yX2_spoonPlace, Cond.selects RX2 yX2_spoonPlace yX2_spoonPlace, Cond.initialized RX2, Cond.code yX2_spoonPlace cX2_spoonPlace 2 (some .int), Cond.fieldLink RX2 15 "LentCourage$Moment" "at" "[I", Cond.fieldLink RX2 9 "LentCourage$Moment" "holder" "I", Cond.fieldLink RX2 53 "LentCourage$Port" "office" "I", Cond.methodLink RX2 49 yX2_isHeld, Cond.instanceMethod yX2_isHeld, Cond.selects RX2 yX2_isHeld yX2_isHeld, Cond.code yX2_isHeld cX2_isHeld 1 (some .boolean)]
def wsX10_lends_r2 : List Cond := [Cond.methodLink RX10 160 yX10_beginStep, Cond.instanceMethod yX10_beginStep, Cond.selects RX10 yX10_beginStep yX10_beginStep, Cond.initialized RX10, Cond.code yX10_beginStep cX10_beginStep 1 none, Cond.fieldLink RX10 105 "LentCourage" "bestIsKnown" "Z", Cond.methodLink RX10 218 yX1_rememberStep, Cond.instanceMethod yX1_rememberStep, Cond.selects RX1 yX1_rememberStep yX1_rememberStep, Cond.initialized RX1, Cond.code yX1_rememberStep cX1_rememberStep 1 none, Cond.fieldLink RX1 26 "LentCourage$Ledger" "steps" "I", Cond.fieldLink RX1 18 "LentCourage$Ledger" "past" "[LLentCourage$Moment;", Cond.fieldLink RX1 12 "LentCourage$Ledger" "present" "LLentCourage$Moment;", Cond.methodLink RX1 30 yX1_loseOldest, Cond.instanceMethod yX1_loseOldest, Cond.selects RX1 yX1_loseOldest yX1_loseOldest, Cond.code yX1_loseOldest cX1_loseOldest 3 none, Cond.methodLink RX1 33 yX2_copyFrom, Cond.instanceMethod yX2_copyFrom, Cond.selects RX2 yX2_copyFrom yX2_copyFrom, Cond.code yX2_copyFrom cX2_copyFrom 2 none, Cond.fieldLink RX2 25 "LentCourage$Moment" "hour" "I", Cond.fieldLink RX2 28 "LentCourage$Moment" "since" "I"]
def wsX10_lends_r3 : List Cond := [Cond.fieldLink RX2 31 "LentCourage$Moment" "fresh" "Z", Cond.fieldLink RX2 35 "LentCourage$Moment" "done" "I", Cond.methodLink RX2 43 arraycopyName, Cond.native arraycopyName, Cond.static arraycopyName, Cond.initialized "java/lang/System", Cond.fieldLink RX2 19 "LentCourage$Moment" "lastHeld" "[I", Cond.fieldLink RX2 22 "LentCourage$Moment" "owed" "[I", Cond.methodLink RX10 166 yX2_giveAway, Cond.instanceMethod yX2_giveAway, Cond.selects RX2 yX2_giveAway yX2_giveAway, Cond.code yX2_giveAway cX2_giveAway 4 (some .int), Cond.methodLink RX2 60 Lib.Math.max.name, Cond.static Lib.Math.max.name, Cond.initialized "java/lang/Math", Cond.code Lib.Math.max.name Lib.Math.max.code 2 (some .int), Cond.methodLink RX2 66 Lib.Math.min.name, Cond.static Lib.Math.min.name, Cond.code Lib.Math.min.name Lib.Math.min.code 2 (some .int), Cond.methodLink RX2 56 yX2_heldFor, Cond.instanceMethod yX2_heldFor, Cond.selects RX2 yX2_heldFor yX2_heldFor, Cond.code yX2_heldFor cX2_heldFor 1 (some .int), Cond.methodLink RX10 169 yX2_receive]
def wsX10_lends_r4 : List Cond := [Cond.instanceMethod yX2_receive, Cond.selects RX2 yX2_receive yX2_receive, Cond.code yX2_receive cX2_receive 2 none]
def wsX10_lends : List Cond := .code yX10_lends cX10_lends 4 (some .int) :: ((wsX10_lends_r1 ++ (wsX10_lends_r2 ++ (wsX10_lends_r3 ++ wsX10_lends_r4))) ++ wsX100 ++ wsX10 ++ wsX20 ++ wsX40)
def wsX10_brings_r1 : List Cond := [Cond.fieldLink RX10 36 "LentCourage" "ledger" "LLentCourage$Ledger;", Cond.fieldLink RX10 113 "LentCourage$Ledger" "present" "LLentCourage$Moment;", Cond.fieldLink RX10 26 "LentCourage" "port" "LLentCourage$Port;", Cond.fieldLink RX10 177 "LentCourage$Port" "office" "I", Cond.fieldLink RX10 163 "LentCourage$Port" "free" "I", Cond.methodLink RX10 173 yX2_isHeld, Cond.instanceMethod yX2_isHeld, Cond.selects RX2 yX2_isHeld yX2_isHeld, Cond.initialized RX2, Cond.code yX2_isHeld cX2_isHeld 1 (some .boolean), Cond.fieldLink RX2 9 "LentCourage$Moment" "holder" "I", Cond.methodLink RX10 156 yX2_spoonPlace, Cond.instanceMethod yX2_spoonPlace, Cond.selects RX2 yX2_spoonPlace yX2_spoonPlace, Cond.code yX2_spoonPlace cX2_spoonPlace 2 (some .int), Cond.fieldLink RX2 15 "LentCourage$Moment" "at" "[I", Cond.fieldLink RX2 53 "LentCourage$Port" "office" "I", Cond.methodLink RX2 49 yX2_isHeld, Cond.methodLink RX10 160 yX10_beginStep, Cond.instanceMethod yX10_beginStep, Cond.selects RX10 yX10_beginStep yX10_beginStep, Cond.initialized RX10, Cond.code yX10_beginStep cX10_beginStep 1 none, Cond.fieldLink RX10 105 "LentCourage" "bestIsKnown" "Z"]
def wsX10_brings_r2 : List Cond := [Cond.methodLink RX10 218 yX1_rememberStep, Cond.instanceMethod yX1_rememberStep, Cond.selects RX1 yX1_rememberStep yX1_rememberStep, Cond.initialized RX1, Cond.code yX1_rememberStep cX1_rememberStep 1 none, Cond.fieldLink RX1 26 "LentCourage$Ledger" "steps" "I", Cond.fieldLink RX1 18 "LentCourage$Ledger" "past" "[LLentCourage$Moment;", Cond.fieldLink RX1 12 "LentCourage$Ledger" "present" "LLentCourage$Moment;", Cond.methodLink RX1 30 yX1_loseOldest, Cond.instanceMethod yX1_loseOldest, Cond.selects RX1 yX1_loseOldest yX1_loseOldest, Cond.code yX1_loseOldest cX1_loseOldest 3 none, Cond.methodLink RX1 33 yX2_copyFrom, Cond.instanceMethod yX2_copyFrom, Cond.selects RX2 yX2_copyFrom yX2_copyFrom, Cond.code yX2_copyFrom cX2_copyFrom 2 none, Cond.fieldLink RX2 25 "LentCourage$Moment" "hour" "I", Cond.fieldLink RX2 28 "LentCourage$Moment" "since" "I", Cond.fieldLink RX2 31 "LentCourage$Moment" "fresh" "Z", Cond.fieldLink RX2 35 "LentCourage$Moment" "done" "I", Cond.methodLink RX2 43 arraycopyName, Cond.native arraycopyName, Cond.static arraycopyName, Cond.initialized "java/lang/System"]
def wsX10_brings_r3 : List Cond := [Cond.fieldLink RX2 19 "LentCourage$Moment" "lastHeld" "[I", Cond.fieldLink RX2 22 "LentCourage$Moment" "owed" "[I", Cond.methodLink RX10 166 yX2_giveAway, Cond.instanceMethod yX2_giveAway, Cond.selects RX2 yX2_giveAway yX2_giveAway, Cond.code yX2_giveAway cX2_giveAway 4 (some .int), Cond.methodLink RX2 60 Lib.Math.max.name, Cond.static Lib.Math.max.name, Cond.initialized "java/lang/Math", Cond.code Lib.Math.max.name Lib.Math.max.code 2 (some .int), Cond.methodLink RX2 66 Lib.Math.min.name, Cond.static Lib.Math.min.name, Cond.code Lib.Math.min.name Lib.Math.min.code 2 (some .int), Cond.methodLink RX2 56 yX2_heldFor, Cond.instanceMethod yX2_heldFor, Cond.selects RX2 yX2_heldFor yX2_heldFor, Cond.code yX2_heldFor cX2_heldFor 1 (some .int)]
def wsX10_brings : List Cond := .code yX10_brings cX10_brings 2 (some .int) :: ((wsX10_brings_r1 ++ (wsX10_brings_r2 ++ wsX10_brings_r3)) ++ wsX100 ++ wsX10 ++ wsX40 ++ wsX20)
def wsX10_walks_r1 : List Cond := [Cond.fieldLink RX10 36 "LentCourage" "ledger" "LLentCourage$Ledger;", Cond.fieldLink RX10 113 "LentCourage$Ledger" "present" "LLentCourage$Moment;", Cond.fieldLink RX10 26 "LentCourage" "port" "LLentCourage$Port;", Cond.methodLink RX10 180 Lib.Math.abs.name, Cond.static Lib.Math.abs.name, Cond.initialized "java/lang/Math", Cond.code Lib.Math.abs.name Lib.Math.abs.code 1 (some .int), Cond.fieldLink RX10 185 "LentCourage$Moment" "hour" "I", Cond.methodLink RX10 156 yX2_spoonPlace, Cond.instanceMethod yX2_spoonPlace, Cond.selects RX2 yX2_spoonPlace yX2_spoonPlace, Cond.initialized RX2, Cond.code yX2_spoonPlace cX2_spoonPlace 2 (some .int), Cond.fieldLink RX2 15 "LentCourage$Moment" "at" "[I", Cond.fieldLink RX2 9 "LentCourage$Moment" "holder" "I", Cond.fieldLink RX2 53 "LentCourage$Port" "office" "I", Cond.methodLink RX2 49 yX2_isHeld, Cond.instanceMethod yX2_isHeld, Cond.selects RX2 yX2_isHeld yX2_isHeld, Cond.code yX2_isHeld cX2_isHeld 1 (some .boolean), Cond.methodLink RX10 173 yX2_isHeld, Cond.methodLink RX10 160 yX10_beginStep, Cond.instanceMethod yX10_beginStep, Cond.selects RX10 yX10_beginStep yX10_beginStep]
def wsX10_walks_r2 : List Cond := [Cond.initialized RX10, Cond.code yX10_beginStep cX10_beginStep 1 none, Cond.fieldLink RX10 105 "LentCourage" "bestIsKnown" "Z", Cond.methodLink RX10 218 yX1_rememberStep, Cond.instanceMethod yX1_rememberStep, Cond.selects RX1 yX1_rememberStep yX1_rememberStep, Cond.initialized RX1, Cond.code yX1_rememberStep cX1_rememberStep 1 none, Cond.fieldLink RX1 26 "LentCourage$Ledger" "steps" "I", Cond.fieldLink RX1 18 "LentCourage$Ledger" "past" "[LLentCourage$Moment;", Cond.fieldLink RX1 12 "LentCourage$Ledger" "present" "LLentCourage$Moment;", Cond.methodLink RX1 30 yX1_loseOldest, Cond.instanceMethod yX1_loseOldest, Cond.selects RX1 yX1_loseOldest yX1_loseOldest, Cond.code yX1_loseOldest cX1_loseOldest 3 none, Cond.methodLink RX1 33 yX2_copyFrom, Cond.instanceMethod yX2_copyFrom, Cond.selects RX2 yX2_copyFrom yX2_copyFrom, Cond.code yX2_copyFrom cX2_copyFrom 2 none, Cond.fieldLink RX2 25 "LentCourage$Moment" "hour" "I", Cond.fieldLink RX2 28 "LentCourage$Moment" "since" "I", Cond.fieldLink RX2 31 "LentCourage$Moment" "fresh" "Z", Cond.fieldLink RX2 35 "LentCourage$Moment" "done" "I", Cond.methodLink RX2 43 arraycopyName]
def wsX10_walks_r3 : List Cond := [Cond.native arraycopyName, Cond.static arraycopyName, Cond.initialized "java/lang/System", Cond.fieldLink RX2 19 "LentCourage$Moment" "lastHeld" "[I", Cond.fieldLink RX2 22 "LentCourage$Moment" "owed" "[I", Cond.methodLink RX10 188 yX2_walkTo, Cond.instanceMethod yX2_walkTo, Cond.selects RX2 yX2_walkTo yX2_walkTo, Cond.code yX2_walkTo cX2_walkTo 3 none]
def wsX10_walks : List Cond := .code yX10_walks cX10_walks 4 (some .int) :: ((wsX10_walks_r1 ++ (wsX10_walks_r2 ++ wsX10_walks_r3)) ++ wsX100 ++ wsX10 ++ wsX20 ++ wsX40)
def wsX10_keeps_r1 : List Cond := [Cond.fieldLink RX10 36 "LentCourage" "ledger" "LLentCourage$Ledger;", Cond.fieldLink RX10 113 "LentCourage$Ledger" "present" "LLentCourage$Moment;", Cond.fieldLink RX10 185 "LentCourage$Moment" "hour" "I", Cond.methodLink RX10 173 yX2_isHeld, Cond.instanceMethod yX2_isHeld, Cond.selects RX2 yX2_isHeld yX2_isHeld, Cond.initialized RX2, Cond.code yX2_isHeld cX2_isHeld 1 (some .boolean), Cond.fieldLink RX2 9 "LentCourage$Moment" "holder" "I", Cond.methodLink RX10 160 yX10_beginStep, Cond.instanceMethod yX10_beginStep, Cond.selects RX10 yX10_beginStep yX10_beginStep, Cond.initialized RX10, Cond.code yX10_beginStep cX10_beginStep 1 none, Cond.fieldLink RX10 105 "LentCourage" "bestIsKnown" "Z", Cond.methodLink RX10 218 yX1_rememberStep, Cond.instanceMethod yX1_rememberStep, Cond.selects RX1 yX1_rememberStep yX1_rememberStep, Cond.initialized RX1, Cond.code yX1_rememberStep cX1_rememberStep 1 none, Cond.fieldLink RX1 26 "LentCourage$Ledger" "steps" "I", Cond.fieldLink RX1 18 "LentCourage$Ledger" "past" "[LLentCourage$Moment;", Cond.fieldLink RX1 12 "LentCourage$Ledger" "present" "LLentCourage$Moment;", Cond.methodLink RX1 30 yX1_loseOldest]
def wsX10_keeps_r2 : List Cond := [Cond.instanceMethod yX1_loseOldest, Cond.selects RX1 yX1_loseOldest yX1_loseOldest, Cond.code yX1_loseOldest cX1_loseOldest 3 none, Cond.methodLink RX1 33 yX2_copyFrom, Cond.instanceMethod yX2_copyFrom, Cond.selects RX2 yX2_copyFrom yX2_copyFrom, Cond.code yX2_copyFrom cX2_copyFrom 2 none, Cond.fieldLink RX2 25 "LentCourage$Moment" "hour" "I", Cond.fieldLink RX2 28 "LentCourage$Moment" "since" "I", Cond.fieldLink RX2 31 "LentCourage$Moment" "fresh" "Z", Cond.fieldLink RX2 35 "LentCourage$Moment" "done" "I", Cond.fieldLink RX2 15 "LentCourage$Moment" "at" "[I", Cond.methodLink RX2 43 arraycopyName, Cond.native arraycopyName, Cond.static arraycopyName, Cond.initialized "java/lang/System", Cond.fieldLink RX2 19 "LentCourage$Moment" "lastHeld" "[I", Cond.fieldLink RX2 22 "LentCourage$Moment" "owed" "[I"]
def wsX10_keeps : List Cond := .code yX10_keeps cX10_keeps 3 (some .int) :: ((wsX10_keeps_r1 ++ wsX10_keeps_r2) ++ wsX100 ++ wsX10 ++ wsX20)
def wsX10_does_r1 : List Cond := [Cond.fieldLink RX10 26 "LentCourage" "port" "LLentCourage$Port;", Cond.fieldLink RX10 36 "LentCourage" "ledger" "LLentCourage$Ledger;", Cond.fieldLink RX10 113 "LentCourage$Ledger" "present" "LLentCourage$Moment;", Cond.fieldLink RX10 196 "LentCourage$Moment" "done" "I", Cond.fieldLink RX10 199 "LentCourage$Moment" "fresh" "Z", Cond.methodLink RX10 132 yX4_hasDeed, Cond.instanceMethod yX4_hasDeed, Cond.selects RX4 yX4_hasDeed yX4_hasDeed, Cond.initialized RX4, Cond.code yX4_hasDeed cX4_hasDeed 2 (some .boolean), Cond.fieldLink RX4 40 "LentCourage$Port" "deeds" "I", Cond.methodLink RX10 192 yX2_canDo, Cond.instanceMethod yX2_canDo, Cond.selects RX2 yX2_canDo yX2_canDo, Cond.initialized RX2, Cond.code yX2_canDo cX2_canDo 3 (some .boolean), Cond.fieldLink RX2 31 "LentCourage$Moment" "fresh" "Z", Cond.fieldLink RX2 69 "LentCourage$Port" "who" "[I", Cond.fieldLink RX2 9 "LentCourage$Moment" "holder" "I", Cond.fieldLink RX2 15 "LentCourage$Moment" "at" "[I", Cond.fieldLink RX2 72 "LentCourage$Port" "place" "[I", Cond.fieldLink RX2 25 "LentCourage$Moment" "hour" "I", Cond.fieldLink RX2 79 "LentCourage$Port" "from" "[I", Cond.fieldLink RX2 82 "LentCourage$Port" "till" "[I"]
def wsX10_does_r2 : List Cond := [Cond.methodLink RX2 49 yX2_isHeld, Cond.instanceMethod yX2_isHeld, Cond.selects RX2 yX2_isHeld yX2_isHeld, Cond.code yX2_isHeld cX2_isHeld 1 (some .boolean), Cond.methodLink RX2 75 yX2_isDone, Cond.instanceMethod yX2_isDone, Cond.selects RX2 yX2_isDone yX2_isDone, Cond.code yX2_isDone cX2_isDone 2 (some .boolean), Cond.fieldLink RX2 35 "LentCourage$Moment" "done" "I", Cond.methodLink RX10 160 yX10_beginStep, Cond.instanceMethod yX10_beginStep, Cond.selects RX10 yX10_beginStep yX10_beginStep, Cond.initialized RX10, Cond.code yX10_beginStep cX10_beginStep 1 none, Cond.fieldLink RX10 105 "LentCourage" "bestIsKnown" "Z", Cond.methodLink RX10 218 yX1_rememberStep, Cond.instanceMethod yX1_rememberStep, Cond.selects RX1 yX1_rememberStep yX1_rememberStep, Cond.initialized RX1, Cond.code yX1_rememberStep cX1_rememberStep 1 none, Cond.fieldLink RX1 26 "LentCourage$Ledger" "steps" "I", Cond.fieldLink RX1 18 "LentCourage$Ledger" "past" "[LLentCourage$Moment;", Cond.fieldLink RX1 12 "LentCourage$Ledger" "present" "LLentCourage$Moment;", Cond.methodLink RX1 30 yX1_loseOldest]
def wsX10_does_r3 : List Cond := [Cond.instanceMethod yX1_loseOldest, Cond.selects RX1 yX1_loseOldest yX1_loseOldest, Cond.code yX1_loseOldest cX1_loseOldest 3 none, Cond.methodLink RX1 33 yX2_copyFrom, Cond.instanceMethod yX2_copyFrom, Cond.selects RX2 yX2_copyFrom yX2_copyFrom, Cond.code yX2_copyFrom cX2_copyFrom 2 none, Cond.fieldLink RX2 28 "LentCourage$Moment" "since" "I", Cond.methodLink RX2 43 arraycopyName, Cond.native arraycopyName, Cond.static arraycopyName, Cond.initialized "java/lang/System", Cond.fieldLink RX2 19 "LentCourage$Moment" "lastHeld" "[I", Cond.fieldLink RX2 22 "LentCourage$Moment" "owed" "[I", Cond.methodLink RX10 202 yX2_worthDone, Cond.instanceMethod yX2_worthDone, Cond.selects RX2 yX2_worthDone yX2_worthDone, Cond.code yX2_worthDone cX2_worthDone 4 (some .int), Cond.fieldLink RX2 85 "LentCourage$Port" "deeds" "I", Cond.fieldLink RX2 88 "LentCourage$Port" "worth" "[I"]
def wsX10_does : List Cond := .code yX10_does cX10_does 3 (some .int) :: ((wsX10_does_r1 ++ (wsX10_does_r2 ++ wsX10_does_r3)) ++ wsX100 ++ wsX10 ++ wsX20 ++ wsX40)
def wsX10_undo_r1 : List Cond := [Cond.fieldLink RX10 36 "LentCourage" "ledger" "LLentCourage$Ledger;", Cond.fieldLink RX10 205 "LentCourage$Ledger" "steps" "I", Cond.fieldLink RX10 105 "LentCourage" "bestIsKnown" "Z", Cond.methodLink RX10 208 yX1_undoStep, Cond.instanceMethod yX1_undoStep, Cond.selects RX1 yX1_undoStep yX1_undoStep, Cond.initialized RX1, Cond.code yX1_undoStep cX1_undoStep 1 none, Cond.fieldLink RX1 26 "LentCourage$Ledger" "steps" "I", Cond.fieldLink RX1 12 "LentCourage$Ledger" "present" "LLentCourage$Moment;", Cond.fieldLink RX1 18 "LentCourage$Ledger" "past" "[LLentCourage$Moment;", Cond.methodLink RX1 33 yX2_copyFrom, Cond.instanceMethod yX2_copyFrom, Cond.selects RX2 yX2_copyFrom yX2_copyFrom, Cond.initialized RX2, Cond.code yX2_copyFrom cX2_copyFrom 2 none, Cond.fieldLink RX2 25 "LentCourage$Moment" "hour" "I", Cond.fieldLink RX2 9 "LentCourage$Moment" "holder" "I", Cond.fieldLink RX2 28 "LentCourage$Moment" "since" "I", Cond.fieldLink RX2 31 "LentCourage$Moment" "fresh" "Z", Cond.fieldLink RX2 35 "LentCourage$Moment" "done" "I", Cond.fieldLink RX2 15 "LentCourage$Moment" "at" "[I", Cond.methodLink RX2 43 arraycopyName, Cond.native arraycopyName]
def wsX10_undo_r2 : List Cond := [Cond.static arraycopyName, Cond.initialized "java/lang/System", Cond.fieldLink RX2 19 "LentCourage$Moment" "lastHeld" "[I", Cond.fieldLink RX2 22 "LentCourage$Moment" "owed" "[I"]
def wsX10_undo : List Cond := .code yX10_undo cX10_undo 1 (some .int) :: ((wsX10_undo_r1 ++ wsX10_undo_r2) ++ wsX100 ++ wsX10 ++ wsX20)
def wsX10_now_r1 : List Cond := [Cond.fieldLink RX10 36 "LentCourage" "ledger" "LLentCourage$Ledger;", Cond.fieldLink RX10 113 "LentCourage$Ledger" "present" "LLentCourage$Moment;", Cond.fieldLink RX10 185 "LentCourage$Moment" "hour" "I", Cond.fieldLink RX10 153 "LentCourage$Moment" "holder" "I", Cond.fieldLink RX10 199 "LentCourage$Moment" "fresh" "Z", Cond.fieldLink RX10 196 "LentCourage$Moment" "done" "I", Cond.fieldLink RX10 26 "LentCourage" "port" "LLentCourage$Port;", Cond.methodLink RX10 211 yX2_heldFor, Cond.instanceMethod yX2_heldFor, Cond.selects RX2 yX2_heldFor yX2_heldFor, Cond.initialized RX2, Cond.code yX2_heldFor cX2_heldFor 1 (some .int), Cond.fieldLink RX2 25 "LentCourage$Moment" "hour" "I", Cond.fieldLink RX2 28 "LentCourage$Moment" "since" "I", Cond.methodLink RX2 49 yX2_isHeld, Cond.instanceMethod yX2_isHeld, Cond.selects RX2 yX2_isHeld yX2_isHeld, Cond.code yX2_isHeld cX2_isHeld 1 (some .boolean), Cond.fieldLink RX2 9 "LentCourage$Moment" "holder" "I", Cond.methodLink RX10 202 yX2_worthDone, Cond.instanceMethod yX2_worthDone, Cond.selects RX2 yX2_worthDone yX2_worthDone, Cond.code yX2_worthDone cX2_worthDone 4 (some .int), Cond.fieldLink RX2 85 "LentCourage$Port" "deeds" "I"]
def wsX10_now_r2 : List Cond := [Cond.fieldLink RX2 88 "LentCourage$Port" "worth" "[I", Cond.methodLink RX2 75 yX2_isDone, Cond.instanceMethod yX2_isDone, Cond.selects RX2 yX2_isDone yX2_isDone, Cond.code yX2_isDone cX2_isDone 2 (some .boolean), Cond.fieldLink RX2 35 "LentCourage$Moment" "done" "I", Cond.methodLink RX10 215 yX2_owedByAll, Cond.instanceMethod yX2_owedByAll, Cond.selects RX2 yX2_owedByAll yX2_owedByAll, Cond.code yX2_owedByAll cX2_owedByAll 3 (some .int), Cond.fieldLink RX2 22 "LentCourage$Moment" "owed" "[I"]
def wsX10_now : List Cond := .code yX10_now cX10_now 3 (some .int) :: ((wsX10_now_r1 ++ wsX10_now_r2) ++ wsX100 ++ wsX10 ++ wsX20 ++ wsX40)
def wsX10_round_r1 : List Cond := [Cond.fieldLink RX10 105 "LentCourage" "bestIsKnown" "Z", Cond.fieldLink RX10 65 "LentCourage" "best" "LLentCourage$Round;", Cond.fieldLink RX10 26 "LentCourage" "port" "LLentCourage$Port;", Cond.fieldLink RX10 36 "LentCourage" "ledger" "LLentCourage$Ledger;", Cond.fieldLink RX10 113 "LentCourage$Ledger" "present" "LLentCourage$Moment;", Cond.fieldLink RX10 58 "LentCourage" "way" "LLentCourage$Way;", Cond.fieldLink RX10 225 "LentCourage$Round" "worth" "I", Cond.fieldLink RX10 227 "LentCourage$Round" "hour" "I", Cond.fieldLink RX10 228 "LentCourage$Round" "length" "I", Cond.fieldLink RX10 229 "LentCourage$Round" "row" "[I", Cond.methodLink RX10 221 yX6_find, Cond.instanceMethod yX6_find, Cond.selects RX6 yX6_find yX6_find, Cond.initialized RX6, Cond.code yX6_find cX6_find 4 none, Cond.fieldLink RX6 18 "LentCourage$Round" "length" "I", Cond.fieldLink RX6 22 "LentCourage$Round" "worth" "I", Cond.fieldLink RX6 25 "LentCourage$Moment" "hour" "I", Cond.fieldLink RX6 30 "LentCourage$Round" "hour" "I", Cond.methodLink RX6 31 yX9_begin, Cond.instanceMethod yX9_begin, Cond.selects RX9 yX9_begin yX9_begin, Cond.initialized RX9, Cond.code yX9_begin cX9_begin 3 none]
def wsX10_round_r2 : List Cond := [Cond.fieldLink RX9 15 "LentCourage$Moment" "at" "[I", Cond.fieldLink RX9 9 "LentCourage$Way" "at" "[I", Cond.methodLink RX9 18 arraycopyName, Cond.native arraycopyName, Cond.static arraycopyName, Cond.initialized "java/lang/System", Cond.fieldLink RX9 28 "LentCourage$Way" "spoon" "I", Cond.fieldLink RX9 32 "LentCourage$Moment" "hour" "I", Cond.fieldLink RX9 35 "LentCourage$Way" "hour" "I", Cond.fieldLink RX9 36 "LentCourage$Moment" "fresh" "Z", Cond.fieldLink RX9 40 "LentCourage$Moment" "holder" "I", Cond.fieldLink RX9 43 "LentCourage$Way" "ahead" "I", Cond.methodLink RX9 24 yX2_spoonPlace, Cond.instanceMethod yX2_spoonPlace, Cond.selects RX2 yX2_spoonPlace yX2_spoonPlace, Cond.initialized RX2, Cond.code yX2_spoonPlace cX2_spoonPlace 2 (some .int), Cond.fieldLink RX2 15 "LentCourage$Moment" "at" "[I", Cond.fieldLink RX2 9 "LentCourage$Moment" "holder" "I", Cond.fieldLink RX2 53 "LentCourage$Port" "office" "I", Cond.methodLink RX2 49 yX2_isHeld, Cond.instanceMethod yX2_isHeld, Cond.selects RX2 yX2_isHeld yX2_isHeld, Cond.code yX2_isHeld cX2_isHeld 1 (some .boolean)]
def wsX10_round_r3 : List Cond := [Cond.methodLink RX6 37 yX2_openDeeds, Cond.instanceMethod yX2_openDeeds, Cond.selects RX2 yX2_openDeeds yX2_openDeeds, Cond.code yX2_openDeeds cX2_openDeeds 2 (some .int), Cond.fieldLink RX2 85 "LentCourage$Port" "deeds" "I", Cond.fieldLink RX2 35 "LentCourage$Moment" "done" "I", Cond.methodLink RX6 41 yX6_tryRows, Cond.instanceMethod yX6_tryRows, Cond.selects RX6 yX6_tryRows yX6_tryRows, Cond.code yX6_tryRows cX6_tryRows 13 none, Cond.fieldLink RX6 45 "LentCourage$Way" "hour" "I", Cond.fieldLink RX6 54 "LentCourage$Way" "spoon" "I", Cond.fieldLink RX6 57 "LentCourage$Way" "ahead" "I", Cond.fieldLink RX6 60 "LentCourage$Port" "deeds" "I", Cond.fieldLink RX6 69 "LentCourage$Port" "who" "[I", Cond.fieldLink RX6 72 "LentCourage$Way" "at" "[I", Cond.fieldLink RX6 15 "LentCourage$Round" "tried" "[I", Cond.fieldLink RX6 79 "LentCourage$Port" "worth" "[I", Cond.methodLink RX6 46 yX6_rememberRow, Cond.instanceMethod yX6_rememberRow, Cond.selects RX6 yX6_rememberRow yX6_rememberRow, Cond.code yX6_rememberRow cX6_rememberRow 4 none, Cond.fieldLink RX6 9 "LentCourage$Round" "row" "[I", Cond.methodLink RX6 81 arraycopyName]
def wsX10_round_r4 : List Cond := [Cond.methodLink RX6 50 yX6_canBecomeBetter, Cond.instanceMethod yX6_canBecomeBetter, Cond.selects RX6 yX6_canBecomeBetter yX6_canBecomeBetter, Cond.code yX6_canBecomeBetter cX6_canBecomeBetter 10 (some .boolean), Cond.fieldLink RX6 87 "LentCourage$Port" "place" "[I", Cond.methodLink RX6 90 Lib.Math.abs.name, Cond.static Lib.Math.abs.name, Cond.initialized "java/lang/Math", Cond.code Lib.Math.abs.name Lib.Math.abs.code 1 (some .int), Cond.fieldLink RX6 96 "LentCourage$Port" "from" "[I", Cond.methodLink RX6 99 Lib.Math.max.name, Cond.static Lib.Math.max.name, Cond.code Lib.Math.max.name Lib.Math.max.code 2 (some .int), Cond.fieldLink RX6 103 "LentCourage$Port" "till" "[I", Cond.methodLink RX6 65 yX9_hourOfNext, Cond.instanceMethod yX9_hourOfNext, Cond.selects RX9 yX9_hourOfNext yX9_hourOfNext, Cond.code yX9_hourOfNext cX9_hourOfNext 6 (some .int), Cond.fieldLink RX9 46 "LentCourage$Port" "who" "[I", Cond.methodLink RX9 51 Lib.Math.abs.name, Cond.fieldLink RX9 57 "LentCourage$Port" "place" "[I", Cond.fieldLink RX9 60 "LentCourage$Port" "from" "[I", Cond.methodLink RX9 63 Lib.Math.max.name, Cond.fieldLink RX9 67 "LentCourage$Port" "till" "[I"]
def wsX10_round_r5 : List Cond := [Cond.methodLink RX6 75 yX9_add, Cond.instanceMethod yX9_add, Cond.selects RX9 yX9_add yX9_add, Cond.code yX9_add cX9_add 5 none]
def wsX10_round : List Cond := .code yX10_round cX10_round 2 (some .int) :: ((wsX10_round_r1 ++ (wsX10_round_r2 ++ (wsX10_round_r3 ++ (wsX10_round_r4 ++ wsX10_round_r5)))) ++ wsX100 ++ wsX10 ++ wsX60 ++ wsX20 ++ wsX90 ++ wsX40)
def wsX10_spoons_r1 : List Cond := [Cond.fieldLink RX10 72 "LentCourage" "spoonCount" "LLentCourage$SpoonCount;", Cond.fieldLink RX10 26 "LentCourage" "port" "LLentCourage$Port;", Cond.methodLink RX10 232 yX7_fewest, Cond.instanceMethod yX7_fewest, Cond.selects RX7 yX7_fewest yX7_fewest, Cond.initialized RX7, Cond.code yX7_fewest cX7_fewest 4 (some .int), Cond.fieldLink RX7 15 "LentCourage$Port" "deeds" "I", Cond.fieldLink RX7 21 "LentCourage$Port" "office" "I", Cond.fieldLink RX7 9 "LentCourage$SpoonCount" "leader" "[I", Cond.fieldLink RX7 28 "LentCourage$SpoonCount" "seen" "I", Cond.methodLink RX7 24 yX7_canGo, Cond.static yX7_canGo, Cond.code yX7_canGo cX7_canGo 5 (some .boolean), Cond.fieldLink RX7 47 "LentCourage$Port" "home" "[I", Cond.fieldLink RX7 41 "LentCourage$Port" "who" "[I", Cond.methodLink RX7 50 Lib.Math.abs.name, Cond.static Lib.Math.abs.name, Cond.initialized "java/lang/Math", Cond.code Lib.Math.abs.name Lib.Math.abs.code 1 (some .int), Cond.fieldLink RX7 44 "LentCourage$Port" "place" "[I", Cond.fieldLink RX7 38 "LentCourage$Port" "from" "[I", Cond.methodLink RX7 31 yX7_findFollower, Cond.instanceMethod yX7_findFollower]
def wsX10_spoons_r2 : List Cond := [Cond.selects RX7 yX7_findFollower yX7_findFollower, Cond.code yX7_findFollower cX7_findFollower 5 (some .boolean), Cond.methodLink RX7 35 yX7_canFollow, Cond.static yX7_canFollow, Cond.code yX7_canFollow cX7_canFollow 5 (some .boolean)]
def wsX10_spoons : List Cond := .code yX10_spoons cX10_spoons 1 (some .int) :: ((wsX10_spoons_r1 ++ wsX10_spoons_r2) ++ wsX100 ++ wsX40 ++ wsX70)
def wsX10_drawn_r1 : List Cond := [Cond.constant RX10 235 (99999), Cond.fieldLink RX10 26 "LentCourage" "port" "LLentCourage$Port;", Cond.fieldLink RX10 236 "LentCourage$Port" "deeds" "I", Cond.fieldLink RX10 58 "LentCourage" "way" "LLentCourage$Way;", Cond.fieldLink RX10 36 "LentCourage" "ledger" "LLentCourage$Ledger;", Cond.fieldLink RX10 113 "LentCourage$Ledger" "present" "LLentCourage$Moment;", Cond.constant RX10 245 (65537), Cond.fieldLink RX10 147 "LentCourage$Port" "worth" "[I", Cond.methodLink RX10 239 yX9_begin, Cond.instanceMethod yX9_begin, Cond.selects RX9 yX9_begin yX9_begin, Cond.initialized RX9, Cond.code yX9_begin cX9_begin 3 none, Cond.fieldLink RX9 15 "LentCourage$Moment" "at" "[I", Cond.fieldLink RX9 9 "LentCourage$Way" "at" "[I", Cond.methodLink RX9 18 arraycopyName, Cond.native arraycopyName, Cond.static arraycopyName, Cond.initialized "java/lang/System", Cond.fieldLink RX9 28 "LentCourage$Way" "spoon" "I", Cond.fieldLink RX9 32 "LentCourage$Moment" "hour" "I", Cond.fieldLink RX9 35 "LentCourage$Way" "hour" "I", Cond.fieldLink RX9 36 "LentCourage$Moment" "fresh" "Z", Cond.fieldLink RX9 40 "LentCourage$Moment" "holder" "I"]
def wsX10_drawn_r2 : List Cond := [Cond.fieldLink RX9 43 "LentCourage$Way" "ahead" "I", Cond.methodLink RX9 24 yX2_spoonPlace, Cond.instanceMethod yX2_spoonPlace, Cond.selects RX2 yX2_spoonPlace yX2_spoonPlace, Cond.initialized RX2, Cond.code yX2_spoonPlace cX2_spoonPlace 2 (some .int), Cond.fieldLink RX2 15 "LentCourage$Moment" "at" "[I", Cond.fieldLink RX2 9 "LentCourage$Moment" "holder" "I", Cond.fieldLink RX2 53 "LentCourage$Port" "office" "I", Cond.methodLink RX2 49 yX2_isHeld, Cond.instanceMethod yX2_isHeld, Cond.selects RX2 yX2_isHeld yX2_isHeld, Cond.code yX2_isHeld cX2_isHeld 1 (some .boolean), Cond.methodLink RX10 242 yX2_openDeeds, Cond.instanceMethod yX2_openDeeds, Cond.selects RX2 yX2_openDeeds yX2_openDeeds, Cond.code yX2_openDeeds cX2_openDeeds 2 (some .int), Cond.fieldLink RX2 85 "LentCourage$Port" "deeds" "I", Cond.fieldLink RX2 35 "LentCourage$Moment" "done" "I", Cond.methodLink RX10 246 yX9_hourOfNext, Cond.instanceMethod yX9_hourOfNext, Cond.selects RX9 yX9_hourOfNext yX9_hourOfNext, Cond.code yX9_hourOfNext cX9_hourOfNext 6 (some .int), Cond.fieldLink RX9 46 "LentCourage$Port" "who" "[I"]
def wsX10_drawn_r3 : List Cond := [Cond.methodLink RX9 51 Lib.Math.abs.name, Cond.static Lib.Math.abs.name, Cond.initialized "java/lang/Math", Cond.code Lib.Math.abs.name Lib.Math.abs.code 1 (some .int), Cond.fieldLink RX9 57 "LentCourage$Port" "place" "[I", Cond.fieldLink RX9 60 "LentCourage$Port" "from" "[I", Cond.methodLink RX9 63 Lib.Math.max.name, Cond.static Lib.Math.max.name, Cond.code Lib.Math.max.name Lib.Math.max.code 2 (some .int), Cond.fieldLink RX9 67 "LentCourage$Port" "till" "[I", Cond.methodLink RX10 250 yX9_add, Cond.instanceMethod yX9_add, Cond.selects RX9 yX9_add yX9_add, Cond.code yX9_add cX9_add 5 none]
def wsX10_drawn : List Cond := .code yX10_drawn cX10_drawn 9 (some .int) :: ((wsX10_drawn_r1 ++ (wsX10_drawn_r2 ++ wsX10_drawn_r3)) ++ wsX100 ++ wsX40 ++ wsX10 ++ wsX20 ++ wsX90)
def wsJ6_bitCount_0f7a4 : List Cond := .code yJ6_bitCount_0f7a4 cJ6_bitCount_0f7a4 1 (some .int) :: ([.constant RJ6 265 (1431655765), .constant RJ6 266 (858993459), .constant RJ6 267 (252645135)])
def wsX10_odds_r1 : List Cond := [Cond.fieldLink RX10 36 "LentCourage" "ledger" "LLentCourage$Ledger;", Cond.fieldLink RX10 113 "LentCourage$Ledger" "present" "LLentCourage$Moment;", Cond.fieldLink RX10 26 "LentCourage" "port" "LLentCourage$Port;", Cond.fieldLink RX10 79 "LentCourage" "chances" "LLentCourage$Odds;", Cond.fieldLink RX10 262 "LentCourage$Odds" "upper" "I", Cond.fieldLink RX10 265 "LentCourage$Odds" "lower" "I", Cond.methodLink RX10 242 yX2_openDeeds, Cond.instanceMethod yX2_openDeeds, Cond.selects RX2 yX2_openDeeds yX2_openDeeds, Cond.initialized RX2, Cond.code yX2_openDeeds cX2_openDeeds 2 (some .int), Cond.fieldLink RX2 85 "LentCourage$Port" "deeds" "I", Cond.fieldLink RX2 35 "LentCourage$Moment" "done" "I", Cond.methodLink RX10 254 yJ6_bitCount_0f7a4, Cond.static yJ6_bitCount_0f7a4, Cond.initialized RJ6, Cond.code yJ6_bitCount_0f7a4 cJ6_bitCount_0f7a4 1 (some .int), Cond.constant RJ6 265 (1431655765), Cond.constant RJ6 266 (858993459), Cond.constant RJ6 267 (252645135), Cond.methodLink RX10 259 yX3_find, Cond.instanceMethod yX3_find, Cond.selects RX3 yX3_find yX3_find, Cond.initialized RX3]
def wsX10_odds_r2 : List Cond := [Cond.code yX3_find cX3_find 5 none, Cond.fieldLink RX3 19 "LentCourage$Odds" "upper" "I", Cond.fieldLink RX3 9 "LentCourage$Odds" "ways" "[I", Cond.fieldLink RX3 23 "LentCourage$Odds" "lower" "I", Cond.methodLink RX3 15 yX3_countWays, Cond.instanceMethod yX3_countWays, Cond.selects RX3 yX3_countWays yX3_countWays, Cond.code yX3_countWays cX3_countWays 5 none, Cond.methodLink RX3 26 yX3_takeOut, Cond.instanceMethod yX3_takeOut, Cond.selects RX3 yX3_takeOut yX3_takeOut, Cond.code yX3_takeOut cX3_takeOut 4 none]
def wsX10_odds : List Cond := .code yX10_odds cX10_odds 5 (some .int) :: ((wsX10_odds_r1 ++ wsX10_odds_r2) ++ wsX100 ++ wsX10 ++ wsX30 ++ wsX40 ++ wsX20)
def wsX10_hears : List Cond := .code yX10_hears cX10_hears 3 (some .int) :: ([.fieldLink RX10 26 "LentCourage" "port" "LLentCourage$Port;", .fieldLink RX10 51 "LentCourage" "heard" "LLentCourage$Heard;", .fieldLink RX10 102 "LentCourage$Heard" "size" "I", .methodLink RX10 132 yX4_hasDeed, .instanceMethod yX4_hasDeed, .selects RX4 yX4_hasDeed yX4_hasDeed, .initialized RX4, .code yX4_hasDeed cX4_hasDeed 2 (some .boolean), .fieldLink RX4 40 "LentCourage$Port" "deeds" "I", .methodLink RX10 268 yX0_insert, .instanceMethod yX0_insert, .selects RX0 yX0_insert yX0_insert, .initialized RX0, .code yX0_insert cX0_insert 4 none, .fieldLink RX0 18 "LentCourage$Heard" "size" "I", .fieldLink RX0 15 "LentCourage$Heard" "hour" "[I", .fieldLink RX0 9 "LentCourage$Heard" "deed" "[I"] ++ wsX100 ++ wsX00 ++ wsX40)
def wsX10_forget : List Cond := .code yX10_forget cX10_forget 2 (some .int) :: ([.fieldLink RX10 51 "LentCourage" "heard" "LLentCourage$Heard;", .fieldLink RX10 102 "LentCourage$Heard" "size" "I"] ++ wsX100 ++ wsX00)
def wsX10_lies : List Cond := .code yX10_lies cX10_lies 1 (some .int) :: ([.fieldLink RX10 51 "LentCourage" "heard" "LLentCourage$Heard;", .fieldLink RX10 26 "LentCourage" "port" "LLentCourage$Port;", .methodLink RX10 271 yX0_tooSoon, .instanceMethod yX0_tooSoon, .selects RX0 yX0_tooSoon yX0_tooSoon, .initialized RX0, .code yX0_tooSoon cX0_tooSoon 5 (some .int), .fieldLink RX0 18 "LentCourage$Heard" "size" "I", .fieldLink RX0 22 "LentCourage$Port" "place" "[I", .fieldLink RX0 9 "LentCourage$Heard" "deed" "[I", .methodLink RX0 27 Lib.Math.abs.name, .static Lib.Math.abs.name, .initialized "java/lang/Math", .code Lib.Math.abs.name Lib.Math.abs.code 1 (some .int), .fieldLink RX0 15 "LentCourage$Heard" "hour" "[I"] ++ wsX100 ++ wsX00 ++ wsX40)
def wsX10_had_r1 : List Cond := [Cond.fieldLink RX10 51 "LentCourage" "heard" "LLentCourage$Heard;", Cond.fieldLink RX10 26 "LentCourage" "port" "LLentCourage$Port;", Cond.methodLink RX10 274 yX0_possibleHolders, Cond.instanceMethod yX0_possibleHolders, Cond.selects RX0 yX0_possibleHolders yX0_possibleHolders, Cond.initialized RX0, Cond.code yX0_possibleHolders cX0_possibleHolders 8 (some .int), Cond.fieldLink RX0 43 "LentCourage$Port" "people" "I", Cond.fieldLink RX0 46 "LentCourage$Port" "home" "[I", Cond.methodLink RX0 33 yX0_latestBy, Cond.instanceMethod yX0_latestBy, Cond.selects RX0 yX0_latestBy yX0_latestBy, Cond.code yX0_latestBy cX0_latestBy 4 (some .int), Cond.fieldLink RX0 18 "LentCourage$Heard" "size" "I", Cond.fieldLink RX0 15 "LentCourage$Heard" "hour" "[I", Cond.methodLink RX0 36 yX0_earliestFrom, Cond.instanceMethod yX0_earliestFrom, Cond.selects RX0 yX0_earliestFrom yX0_earliestFrom, Cond.code yX0_earliestFrom cX0_earliestFrom 4 (some .int), Cond.methodLink RX0 39 yX0_whoDid, Cond.instanceMethod yX0_whoDid, Cond.selects RX0 yX0_whoDid yX0_whoDid, Cond.code yX0_whoDid cX0_whoDid 3 (some .int), Cond.fieldLink RX0 53 "LentCourage$Port" "who" "[I"]
def wsX10_had_r2 : List Cond := [Cond.fieldLink RX0 9 "LentCourage$Heard" "deed" "[I", Cond.methodLink RX0 49 yX0_isNear, Cond.instanceMethod yX0_isNear, Cond.selects RX0 yX0_isNear yX0_isNear, Cond.code yX0_isNear cX0_isNear 5 (some .boolean), Cond.fieldLink RX0 22 "LentCourage$Port" "place" "[I", Cond.methodLink RX0 27 Lib.Math.abs.name, Cond.static Lib.Math.abs.name, Cond.initialized "java/lang/Math", Cond.code Lib.Math.abs.name Lib.Math.abs.code 1 (some .int)]
def wsX10_had : List Cond := .code yX10_had cX10_had 2 (some .int) :: ((wsX10_had_r1 ++ wsX10_had_r2) ++ wsX100 ++ wsX40 ++ wsX00)
def wsX10_markOfOne : List Cond := .code yX10_markOfOne cX10_markOfOne 2 (some .int) :: ([.fieldLink RX10 296 "LentCourage" "traced" "J", .fieldLink RX10 36 "LentCourage" "ledger" "LLentCourage$Ledger;", .fieldLink RX10 113 "LentCourage$Ledger" "present" "LLentCourage$Moment;", .methodLink RX10 128 yX2_careOf, .instanceMethod yX2_careOf, .selects RX2 yX2_careOf yX2_careOf, .initialized RX2, .code yX2_careOf cX2_careOf 2 (some .int), .fieldLink RX2 9 "LentCourage$Moment" "holder" "I", .fieldLink RX2 25 "LentCourage$Moment" "hour" "I", .fieldLink RX2 19 "LentCourage$Moment" "lastHeld" "[I"] ++ wsX100 ++ wsX10 ++ wsX20)
def wsX10_markOfFriend : List Cond := .code yX10_markOfFriend cX10_markOfFriend 2 (some .int) :: ([.fieldLink RX10 296 "LentCourage" "traced" "J", .constantLong RX10 300 (10), .fieldLink RX10 36 "LentCourage" "ledger" "LLentCourage$Ledger;", .fieldLink RX10 113 "LentCourage$Ledger" "present" "LLentCourage$Moment;", .fieldLink RX10 125 "LentCourage$Moment" "owed" "[I", .methodLink RX10 278 yX10_markOfOne, .instanceMethod yX10_markOfOne, .selects RX10 yX10_markOfOne yX10_markOfOne, .initialized RX10, .code yX10_markOfOne cX10_markOfOne 2 (some .int), .methodLink RX10 128 yX2_careOf, .instanceMethod yX2_careOf, .selects RX2 yX2_careOf yX2_careOf, .initialized RX2, .code yX2_careOf cX2_careOf 2 (some .int), .fieldLink RX2 9 "LentCourage$Moment" "holder" "I", .fieldLink RX2 25 "LentCourage$Moment" "hour" "I", .fieldLink RX2 19 "LentCourage$Moment" "lastHeld" "[I"] ++ wsX100 ++ wsX10 ++ wsX20)
def wsX10_markOfThief : List Cond := .code yX10_markOfThief cX10_markOfThief 2 (some .int) :: ([.fieldLink RX10 296 "LentCourage" "traced" "J", .constantLong RX10 302 (100), .fieldLink RX10 36 "LentCourage" "ledger" "LLentCourage$Ledger;", .fieldLink RX10 113 "LentCourage$Ledger" "present" "LLentCourage$Moment;", .fieldLink RX10 120 "LentCourage$Moment" "at" "[I", .methodLink RX10 278 yX10_markOfOne, .instanceMethod yX10_markOfOne, .selects RX10 yX10_markOfOne yX10_markOfOne, .initialized RX10, .code yX10_markOfOne cX10_markOfOne 2 (some .int), .methodLink RX10 128 yX2_careOf, .instanceMethod yX2_careOf, .selects RX2 yX2_careOf yX2_careOf, .initialized RX2, .code yX2_careOf cX2_careOf 2 (some .int), .fieldLink RX2 9 "LentCourage$Moment" "holder" "I", .fieldLink RX2 25 "LentCourage$Moment" "hour" "I", .fieldLink RX2 19 "LentCourage$Moment" "lastHeld" "[I"] ++ wsX100 ++ wsX10 ++ wsX20)
def wsX10_markOfWidow : List Cond := .code yX10_markOfWidow cX10_markOfWidow 2 (some .int) :: ([.fieldLink RX10 296 "LentCourage" "traced" "J", .constantLong RX10 304 (1000), .methodLink RX10 281 yX10_markOfFriend, .instanceMethod yX10_markOfFriend, .selects RX10 yX10_markOfFriend yX10_markOfFriend, .initialized RX10, .code yX10_markOfFriend cX10_markOfFriend 2 (some .int), .constantLong RX10 300 (10), .fieldLink RX10 36 "LentCourage" "ledger" "LLentCourage$Ledger;", .fieldLink RX10 113 "LentCourage$Ledger" "present" "LLentCourage$Moment;", .fieldLink RX10 125 "LentCourage$Moment" "owed" "[I", .methodLink RX10 278 yX10_markOfOne, .instanceMethod yX10_markOfOne, .selects RX10 yX10_markOfOne yX10_markOfOne, .code yX10_markOfOne cX10_markOfOne 2 (some .int), .methodLink RX10 128 yX2_careOf, .instanceMethod yX2_careOf, .selects RX2 yX2_careOf yX2_careOf, .initialized RX2, .code yX2_careOf cX2_careOf 2 (some .int), .fieldLink RX2 9 "LentCourage$Moment" "holder" "I", .fieldLink RX2 25 "LentCourage$Moment" "hour" "I", .fieldLink RX2 19 "LentCourage$Moment" "lastHeld" "[I"] ++ wsX100 ++ wsX10 ++ wsX20)
def wsX10_markOfPilot : List Cond := .code yX10_markOfPilot cX10_markOfPilot 2 (some .int) :: ([.fieldLink RX10 296 "LentCourage" "traced" "J", .constantLong RX10 306 (10000), .methodLink RX10 284 yX10_markOfThief, .instanceMethod yX10_markOfThief, .selects RX10 yX10_markOfThief yX10_markOfThief, .initialized RX10, .code yX10_markOfThief cX10_markOfThief 2 (some .int), .constantLong RX10 302 (100), .fieldLink RX10 36 "LentCourage" "ledger" "LLentCourage$Ledger;", .fieldLink RX10 113 "LentCourage$Ledger" "present" "LLentCourage$Moment;", .fieldLink RX10 120 "LentCourage$Moment" "at" "[I", .methodLink RX10 278 yX10_markOfOne, .instanceMethod yX10_markOfOne, .selects RX10 yX10_markOfOne yX10_markOfOne, .code yX10_markOfOne cX10_markOfOne 2 (some .int), .methodLink RX10 128 yX2_careOf, .instanceMethod yX2_careOf, .selects RX2 yX2_careOf yX2_careOf, .initialized RX2, .code yX2_careOf cX2_careOf 2 (some .int), .fieldLink RX2 9 "LentCourage$Moment" "holder" "I", .fieldLink RX2 25 "LentCourage$Moment" "hour" "I", .fieldLink RX2 19 "LentCourage$Moment" "lastHeld" "[I"] ++ wsX100 ++ wsX10 ++ wsX20)
def wsX10_markOfClerk : List Cond := .code yX10_markOfClerk cX10_markOfClerk 2 (some .int) :: ([.fieldLink RX10 296 "LentCourage" "traced" "J", .constantLong RX10 308 (100000), .fieldLink RX10 36 "LentCourage" "ledger" "LLentCourage$Ledger;", .fieldLink RX10 113 "LentCourage$Ledger" "present" "LLentCourage$Moment;", .fieldLink RX10 185 "LentCourage$Moment" "hour" "I", .methodLink RX10 278 yX10_markOfOne, .instanceMethod yX10_markOfOne, .selects RX10 yX10_markOfOne yX10_markOfOne, .initialized RX10, .code yX10_markOfOne cX10_markOfOne 2 (some .int), .methodLink RX10 128 yX2_careOf, .instanceMethod yX2_careOf, .selects RX2 yX2_careOf yX2_careOf, .initialized RX2, .code yX2_careOf cX2_careOf 2 (some .int), .fieldLink RX2 9 "LentCourage$Moment" "holder" "I", .fieldLink RX2 25 "LentCourage$Moment" "hour" "I", .fieldLink RX2 19 "LentCourage$Moment" "lastHeld" "[I"] ++ wsX100 ++ wsX10 ++ wsX20)
def wsX10_mark_r1 : List Cond := [Cond.fieldLink RX10 26 "LentCourage" "port" "LLentCourage$Port;", Cond.constant RX10 277 (-1000000), Cond.methodLink RX10 109 yX4_hasOne, Cond.instanceMethod yX4_hasOne, Cond.selects RX4 yX4_hasOne yX4_hasOne, Cond.initialized RX4, Cond.code yX4_hasOne cX4_hasOne 2 (some .boolean), Cond.fieldLink RX4 37 "LentCourage$Port" "people" "I", Cond.methodLink RX10 278 yX10_markOfOne, Cond.instanceMethod yX10_markOfOne, Cond.selects RX10 yX10_markOfOne yX10_markOfOne, Cond.initialized RX10, Cond.code yX10_markOfOne cX10_markOfOne 2 (some .int), Cond.fieldLink RX10 296 "LentCourage" "traced" "J", Cond.fieldLink RX10 36 "LentCourage" "ledger" "LLentCourage$Ledger;", Cond.fieldLink RX10 113 "LentCourage$Ledger" "present" "LLentCourage$Moment;", Cond.methodLink RX10 128 yX2_careOf, Cond.instanceMethod yX2_careOf, Cond.selects RX2 yX2_careOf yX2_careOf, Cond.initialized RX2, Cond.code yX2_careOf cX2_careOf 2 (some .int), Cond.fieldLink RX2 9 "LentCourage$Moment" "holder" "I", Cond.fieldLink RX2 25 "LentCourage$Moment" "hour" "I", Cond.fieldLink RX2 19 "LentCourage$Moment" "lastHeld" "[I"]
def wsX10_mark_r2 : List Cond := [Cond.methodLink RX10 281 yX10_markOfFriend, Cond.instanceMethod yX10_markOfFriend, Cond.selects RX10 yX10_markOfFriend yX10_markOfFriend, Cond.code yX10_markOfFriend cX10_markOfFriend 2 (some .int), Cond.constantLong RX10 300 (10), Cond.fieldLink RX10 125 "LentCourage$Moment" "owed" "[I", Cond.methodLink RX10 284 yX10_markOfThief, Cond.instanceMethod yX10_markOfThief, Cond.selects RX10 yX10_markOfThief yX10_markOfThief, Cond.code yX10_markOfThief cX10_markOfThief 2 (some .int), Cond.constantLong RX10 302 (100), Cond.fieldLink RX10 120 "LentCourage$Moment" "at" "[I", Cond.methodLink RX10 287 yX10_markOfWidow, Cond.instanceMethod yX10_markOfWidow, Cond.selects RX10 yX10_markOfWidow yX10_markOfWidow, Cond.code yX10_markOfWidow cX10_markOfWidow 2 (some .int), Cond.constantLong RX10 304 (1000), Cond.methodLink RX10 290 yX10_markOfPilot, Cond.instanceMethod yX10_markOfPilot, Cond.selects RX10 yX10_markOfPilot yX10_markOfPilot, Cond.code yX10_markOfPilot cX10_markOfPilot 2 (some .int), Cond.constantLong RX10 306 (10000), Cond.methodLink RX10 293 yX10_markOfClerk, Cond.instanceMethod yX10_markOfClerk]
def wsX10_mark_r3 : List Cond := [Cond.selects RX10 yX10_markOfClerk yX10_markOfClerk, Cond.code yX10_markOfClerk cX10_markOfClerk 2 (some .int), Cond.constantLong RX10 308 (100000), Cond.fieldLink RX10 185 "LentCourage$Moment" "hour" "I"]
def wsX10_mark : List Cond := .code yX10_mark cX10_mark 3 (some .int) :: ((wsX10_mark_r1 ++ (wsX10_mark_r2 ++ wsX10_mark_r3)) ++ wsX100 ++ wsX40 ++ wsX10 ++ wsX20)
def wsX10_keep_r1 : List Cond := [Cond.fieldLink RX10 40 "LentCourage" "images" "[LLentCourage$Ledger;", Cond.fieldLink RX10 36 "LentCourage" "ledger" "LLentCourage$Ledger;", Cond.fieldLink RX10 44 "LentCourage" "imageKept" "[Z", Cond.fieldLink RX10 113 "LentCourage$Ledger" "present" "LLentCourage$Moment;", Cond.fieldLink RX10 185 "LentCourage$Moment" "hour" "I", Cond.methodLink RX10 310 yX1_copyFrom, Cond.instanceMethod yX1_copyFrom, Cond.selects RX1 yX1_copyFrom yX1_copyFrom, Cond.initialized RX1, Cond.code yX1_copyFrom cX1_copyFrom 3 none, Cond.fieldLink RX1 12 "LentCourage$Ledger" "present" "LLentCourage$Moment;", Cond.fieldLink RX1 26 "LentCourage$Ledger" "steps" "I", Cond.fieldLink RX1 18 "LentCourage$Ledger" "past" "[LLentCourage$Moment;", Cond.methodLink RX1 33 yX2_copyFrom, Cond.instanceMethod yX2_copyFrom, Cond.selects RX2 yX2_copyFrom yX2_copyFrom, Cond.initialized RX2, Cond.code yX2_copyFrom cX2_copyFrom 2 none, Cond.fieldLink RX2 25 "LentCourage$Moment" "hour" "I", Cond.fieldLink RX2 9 "LentCourage$Moment" "holder" "I", Cond.fieldLink RX2 28 "LentCourage$Moment" "since" "I", Cond.fieldLink RX2 31 "LentCourage$Moment" "fresh" "Z", Cond.fieldLink RX2 35 "LentCourage$Moment" "done" "I", Cond.fieldLink RX2 15 "LentCourage$Moment" "at" "[I"]
def wsX10_keep_r2 : List Cond := [Cond.methodLink RX2 43 arraycopyName, Cond.native arraycopyName, Cond.static arraycopyName, Cond.initialized "java/lang/System", Cond.fieldLink RX2 19 "LentCourage$Moment" "lastHeld" "[I", Cond.fieldLink RX2 22 "LentCourage$Moment" "owed" "[I"]
def wsX10_keep : List Cond := .code yX10_keep cX10_keep 2 (some .int) :: ((wsX10_keep_r1 ++ wsX10_keep_r2) ++ wsX100 ++ wsX10 ++ wsX20)
def wsX10_back_r1 : List Cond := [Cond.fieldLink RX10 44 "LentCourage" "imageKept" "[Z", Cond.fieldLink RX10 36 "LentCourage" "ledger" "LLentCourage$Ledger;", Cond.fieldLink RX10 40 "LentCourage" "images" "[LLentCourage$Ledger;", Cond.fieldLink RX10 105 "LentCourage" "bestIsKnown" "Z", Cond.fieldLink RX10 113 "LentCourage$Ledger" "present" "LLentCourage$Moment;", Cond.fieldLink RX10 185 "LentCourage$Moment" "hour" "I", Cond.methodLink RX10 310 yX1_copyFrom, Cond.instanceMethod yX1_copyFrom, Cond.selects RX1 yX1_copyFrom yX1_copyFrom, Cond.initialized RX1, Cond.code yX1_copyFrom cX1_copyFrom 3 none, Cond.fieldLink RX1 12 "LentCourage$Ledger" "present" "LLentCourage$Moment;", Cond.fieldLink RX1 26 "LentCourage$Ledger" "steps" "I", Cond.fieldLink RX1 18 "LentCourage$Ledger" "past" "[LLentCourage$Moment;", Cond.methodLink RX1 33 yX2_copyFrom, Cond.instanceMethod yX2_copyFrom, Cond.selects RX2 yX2_copyFrom yX2_copyFrom, Cond.initialized RX2, Cond.code yX2_copyFrom cX2_copyFrom 2 none, Cond.fieldLink RX2 25 "LentCourage$Moment" "hour" "I", Cond.fieldLink RX2 9 "LentCourage$Moment" "holder" "I", Cond.fieldLink RX2 28 "LentCourage$Moment" "since" "I", Cond.fieldLink RX2 31 "LentCourage$Moment" "fresh" "Z", Cond.fieldLink RX2 35 "LentCourage$Moment" "done" "I"]
def wsX10_back_r2 : List Cond := [Cond.fieldLink RX2 15 "LentCourage$Moment" "at" "[I", Cond.methodLink RX2 43 arraycopyName, Cond.native arraycopyName, Cond.static arraycopyName, Cond.initialized "java/lang/System", Cond.fieldLink RX2 19 "LentCourage$Moment" "lastHeld" "[I", Cond.fieldLink RX2 22 "LentCourage$Moment" "owed" "[I"]
def wsX10_back : List Cond := .code yX10_back cX10_back 2 (some .int) :: ((wsX10_back_r1 ++ wsX10_back_r2) ++ wsX100 ++ wsX10 ++ wsX20)
def wsX10_count : List Cond := .code yX10_count cX10_count 2 (some .int) :: ([.fieldLink RX10 26 "LentCourage" "port" "LLentCourage$Port;", .fieldLink RX10 313 "LentCourage$Port" "people" "I", .fieldLink RX10 236 "LentCourage$Port" "deeds" "I", .fieldLink RX10 177 "LentCourage$Port" "office" "I", .fieldLink RX10 163 "LentCourage$Port" "free" "I", .fieldLink RX10 51 "LentCourage" "heard" "LLentCourage$Heard;", .fieldLink RX10 102 "LentCourage$Heard" "size" "I", .fieldLink RX10 36 "LentCourage" "ledger" "LLentCourage$Ledger;", .fieldLink RX10 205 "LentCourage$Ledger" "steps" "I", .fieldLink RX10 10 "LentCourage" "text" "LLentCourage$Text;", .fieldLink RX10 83 "LentCourage$Text" "length" "I"] ++ wsX100 ++ wsX40 ++ wsX00 ++ wsX10 ++ wsX80)
def wsX10_trace : List Cond := .code yX10_trace cX10_trace 1 (some .long) :: ([.fieldLink RX10 296 "LentCourage" "traced" "J"] ++ wsX100)
def wsX11_letterAt : List Cond := .code yX11_letterAt cX11_letterAt 2 (some .int) :: ([.fieldLink RX11 58 "LentCourageModel" "typed" "I", .fieldLink RX11 7 "LentCourageModel" "text" "[I"] ++ wsX110)
def wsX11_in : List Cond := .code yX11_in cX11_in 3 (some .boolean) :: ([])
def wsX11_isLetter : List Cond := .code yX11_isLetter cX11_isLetter 1 (some .boolean) :: ([.methodLink RX11 54 yX11_in, .static yX11_in, .initialized RX11, .code yX11_in cX11_in 3 (some .boolean)])
def wsX11_isDigit : List Cond := .code yX11_isDigit cX11_isDigit 1 (some .boolean) :: ([.methodLink RX11 54 yX11_in, .static yX11_in, .initialized RX11, .code yX11_in cX11_in 3 (some .boolean)])
def wsX11_token : List Cond := .code yX11_token cX11_token 2 none :: ([.fieldLink RX11 62 "LentCourageModel" "at" "I", .fieldLink RX11 69 "LentCourageModel" "start" "I", .fieldLink RX11 79 "LentCourageModel" "sort" "I", .fieldLink RX11 82 "LentCourageModel" "value" "I", .fieldLink RX11 7 "LentCourageModel" "text" "[I", .methodLink RX11 65 yX11_letterAt, .instanceMethod yX11_letterAt, .selects RX11 yX11_letterAt yX11_letterAt, .initialized RX11, .code yX11_letterAt cX11_letterAt 2 (some .int), .fieldLink RX11 58 "LentCourageModel" "typed" "I", .methodLink RX11 72 yX11_isLetter, .static yX11_isLetter, .code yX11_isLetter cX11_isLetter 1 (some .boolean), .methodLink RX11 54 yX11_in, .static yX11_in, .code yX11_in cX11_in 3 (some .boolean), .methodLink RX11 76 yX11_isDigit, .static yX11_isDigit, .code yX11_isDigit cX11_isDigit 1 (some .boolean)] ++ wsX110)
def wsX11_number_r1 : List Cond := [Cond.fieldLink RX11 16 "LentCourageModel" "draft" "[I", Cond.fieldLink RX11 82 "LentCourageModel" "value" "I", Cond.fieldLink RX11 79 "LentCourageModel" "sort" "I", Cond.methodLink RX11 85 yX11_token, Cond.instanceMethod yX11_token, Cond.selects RX11 yX11_token yX11_token, Cond.initialized RX11, Cond.code yX11_token cX11_token 2 none, Cond.fieldLink RX11 62 "LentCourageModel" "at" "I", Cond.fieldLink RX11 69 "LentCourageModel" "start" "I", Cond.fieldLink RX11 7 "LentCourageModel" "text" "[I", Cond.methodLink RX11 65 yX11_letterAt, Cond.instanceMethod yX11_letterAt, Cond.selects RX11 yX11_letterAt yX11_letterAt, Cond.code yX11_letterAt cX11_letterAt 2 (some .int), Cond.fieldLink RX11 58 "LentCourageModel" "typed" "I", Cond.methodLink RX11 72 yX11_isLetter, Cond.static yX11_isLetter, Cond.code yX11_isLetter cX11_isLetter 1 (some .boolean), Cond.methodLink RX11 54 yX11_in, Cond.static yX11_in, Cond.code yX11_in cX11_in 3 (some .boolean), Cond.methodLink RX11 76 yX11_isDigit, Cond.static yX11_isDigit]
def wsX11_number_r2 : List Cond := [Cond.code yX11_isDigit cX11_isDigit 1 (some .boolean)]
def wsX11_number : List Cond := .code yX11_number cX11_number 4 (some .boolean) :: ((wsX11_number_r1 ++ wsX11_number_r2) ++ wsX110)
def wsX11_once_r1 : List Cond := [Cond.fieldLink RX11 16 "LentCourageModel" "draft" "[I", Cond.methodLink RX11 88 yX11_number, Cond.instanceMethod yX11_number, Cond.selects RX11 yX11_number yX11_number, Cond.initialized RX11, Cond.code yX11_number cX11_number 4 (some .boolean), Cond.fieldLink RX11 82 "LentCourageModel" "value" "I", Cond.fieldLink RX11 79 "LentCourageModel" "sort" "I", Cond.methodLink RX11 85 yX11_token, Cond.instanceMethod yX11_token, Cond.selects RX11 yX11_token yX11_token, Cond.code yX11_token cX11_token 2 none, Cond.fieldLink RX11 62 "LentCourageModel" "at" "I", Cond.fieldLink RX11 69 "LentCourageModel" "start" "I", Cond.fieldLink RX11 7 "LentCourageModel" "text" "[I", Cond.methodLink RX11 65 yX11_letterAt, Cond.instanceMethod yX11_letterAt, Cond.selects RX11 yX11_letterAt yX11_letterAt, Cond.code yX11_letterAt cX11_letterAt 2 (some .int), Cond.fieldLink RX11 58 "LentCourageModel" "typed" "I", Cond.methodLink RX11 72 yX11_isLetter, Cond.static yX11_isLetter, Cond.code yX11_isLetter cX11_isLetter 1 (some .boolean), Cond.methodLink RX11 54 yX11_in]
def wsX11_once_r2 : List Cond := [Cond.static yX11_in, Cond.code yX11_in cX11_in 3 (some .boolean), Cond.methodLink RX11 76 yX11_isDigit, Cond.static yX11_isDigit, Cond.code yX11_isDigit cX11_isDigit 1 (some .boolean)]
def wsX11_once : List Cond := .code yX11_once cX11_once 4 (some .boolean) :: ((wsX11_once_r1 ++ wsX11_once_r2) ++ wsX110)
def wsX11_readsItem_r1 : List Cond := [Cond.fieldLink RX11 79 "LentCourageModel" "sort" "I", Cond.fieldLink RX11 82 "LentCourageModel" "value" "I", Cond.fieldLink RX11 16 "LentCourageModel" "draft" "[I", Cond.methodLink RX11 88 yX11_number, Cond.instanceMethod yX11_number, Cond.selects RX11 yX11_number yX11_number, Cond.initialized RX11, Cond.code yX11_number cX11_number 4 (some .boolean), Cond.methodLink RX11 85 yX11_token, Cond.instanceMethod yX11_token, Cond.selects RX11 yX11_token yX11_token, Cond.code yX11_token cX11_token 2 none, Cond.fieldLink RX11 62 "LentCourageModel" "at" "I", Cond.fieldLink RX11 69 "LentCourageModel" "start" "I", Cond.fieldLink RX11 7 "LentCourageModel" "text" "[I", Cond.methodLink RX11 65 yX11_letterAt, Cond.instanceMethod yX11_letterAt, Cond.selects RX11 yX11_letterAt yX11_letterAt, Cond.code yX11_letterAt cX11_letterAt 2 (some .int), Cond.fieldLink RX11 58 "LentCourageModel" "typed" "I", Cond.methodLink RX11 72 yX11_isLetter, Cond.static yX11_isLetter, Cond.code yX11_isLetter cX11_isLetter 1 (some .boolean), Cond.methodLink RX11 54 yX11_in]
def wsX11_readsItem_r2 : List Cond := [Cond.static yX11_in, Cond.code yX11_in cX11_in 3 (some .boolean), Cond.methodLink RX11 76 yX11_isDigit, Cond.static yX11_isDigit, Cond.code yX11_isDigit cX11_isDigit 1 (some .boolean), Cond.methodLink RX11 91 yX11_once, Cond.instanceMethod yX11_once, Cond.selects RX11 yX11_once yX11_once, Cond.code yX11_once cX11_once 4 (some .boolean)]
def wsX11_readsItem : List Cond := .code yX11_readsItem cX11_readsItem 3 (some .boolean) :: ((wsX11_readsItem_r1 ++ wsX11_readsItem_r2) ++ wsX110)
def wsX11_reads_r1 : List Cond := [Cond.fieldLink RX11 16 "LentCourageModel" "draft" "[I", Cond.fieldLink RX11 62 "LentCourageModel" "at" "I", Cond.fieldLink RX11 79 "LentCourageModel" "sort" "I", Cond.methodLink RX11 85 yX11_token, Cond.instanceMethod yX11_token, Cond.selects RX11 yX11_token yX11_token, Cond.initialized RX11, Cond.code yX11_token cX11_token 2 none, Cond.fieldLink RX11 69 "LentCourageModel" "start" "I", Cond.fieldLink RX11 82 "LentCourageModel" "value" "I", Cond.fieldLink RX11 7 "LentCourageModel" "text" "[I", Cond.methodLink RX11 65 yX11_letterAt, Cond.instanceMethod yX11_letterAt, Cond.selects RX11 yX11_letterAt yX11_letterAt, Cond.code yX11_letterAt cX11_letterAt 2 (some .int), Cond.fieldLink RX11 58 "LentCourageModel" "typed" "I", Cond.methodLink RX11 72 yX11_isLetter, Cond.static yX11_isLetter, Cond.code yX11_isLetter cX11_isLetter 1 (some .boolean), Cond.methodLink RX11 54 yX11_in, Cond.static yX11_in, Cond.code yX11_in cX11_in 3 (some .boolean), Cond.methodLink RX11 76 yX11_isDigit, Cond.static yX11_isDigit]
def wsX11_reads_r2 : List Cond := [Cond.code yX11_isDigit cX11_isDigit 1 (some .boolean), Cond.methodLink RX11 94 yX11_readsItem, Cond.instanceMethod yX11_readsItem, Cond.selects RX11 yX11_readsItem yX11_readsItem, Cond.code yX11_readsItem cX11_readsItem 3 (some .boolean), Cond.methodLink RX11 88 yX11_number, Cond.instanceMethod yX11_number, Cond.selects RX11 yX11_number yX11_number, Cond.code yX11_number cX11_number 4 (some .boolean), Cond.methodLink RX11 91 yX11_once, Cond.instanceMethod yX11_once, Cond.selects RX11 yX11_once yX11_once, Cond.code yX11_once cX11_once 4 (some .boolean)]
def wsX11_reads : List Cond := .code yX11_reads cX11_reads 2 (some .boolean) :: ((wsX11_reads_r1 ++ wsX11_reads_r2) ++ wsX110)
def wsX11_begins : List Cond := .code yX11_begins cX11_begins 2 none :: ([.fieldLink RX11 13 "LentCourageModel" "told" "[I", .fieldLink RX11 16 "LentCourageModel" "draft" "[I", .fieldLink RX11 19 "LentCourageModel" "s" "[I", .fieldLink RX11 97 "LentCourageModel" "noted" "I", .fieldLink RX11 25 "LentCourageModel" "kept" "[Z", .methodLink RX11 54 yX11_in, .static yX11_in, .initialized RX11, .code yX11_in cX11_in 3 (some .boolean)] ++ wsX110)
def wsX11_init_r1 : List Cond := [Cond.methodLink RX11 1 objectInit, Cond.instanceMethod objectInit, Cond.code objectInit ⟨#[0xb1]⟩ 1 none, Cond.arrayClass .int, Cond.fieldLink RX11 7 "LentCourageModel" "text" "[I", Cond.fieldLink RX11 13 "LentCourageModel" "told" "[I", Cond.fieldLink RX11 16 "LentCourageModel" "draft" "[I", Cond.fieldLink RX11 19 "LentCourageModel" "s" "[I", Cond.fieldLink RX11 22 "LentCourageModel" "images" "[I", Cond.arrayClass .boolean, Cond.fieldLink RX11 25 "LentCourageModel" "kept" "[Z", Cond.fieldLink RX11 29 "LentCourageModel" "heard" "[I", Cond.fieldLink RX11 32 "LentCourageModel" "hours" "[I", Cond.fieldLink RX11 35 "LentCourageModel" "row" "[I", Cond.fieldLink RX11 38 "LentCourageModel" "best" "[I", Cond.fieldLink RX11 41 "LentCourageModel" "places" "[I", Cond.fieldLink RX11 44 "LentCourageModel" "pairs" "[I", Cond.methodLink RX11 47 yX11_reads, Cond.instanceMethod yX11_reads, Cond.selects RX11 yX11_reads yX11_reads, Cond.initialized RX11, Cond.code yX11_reads cX11_reads 2 (some .boolean), Cond.fieldLink RX11 62 "LentCourageModel" "at" "I", Cond.fieldLink RX11 79 "LentCourageModel" "sort" "I"]
def wsX11_init_r2 : List Cond := [Cond.methodLink RX11 85 yX11_token, Cond.instanceMethod yX11_token, Cond.selects RX11 yX11_token yX11_token, Cond.code yX11_token cX11_token 2 none, Cond.fieldLink RX11 69 "LentCourageModel" "start" "I", Cond.fieldLink RX11 82 "LentCourageModel" "value" "I", Cond.methodLink RX11 65 yX11_letterAt, Cond.instanceMethod yX11_letterAt, Cond.selects RX11 yX11_letterAt yX11_letterAt, Cond.code yX11_letterAt cX11_letterAt 2 (some .int), Cond.fieldLink RX11 58 "LentCourageModel" "typed" "I", Cond.methodLink RX11 72 yX11_isLetter, Cond.static yX11_isLetter, Cond.code yX11_isLetter cX11_isLetter 1 (some .boolean), Cond.methodLink RX11 54 yX11_in, Cond.static yX11_in, Cond.code yX11_in cX11_in 3 (some .boolean), Cond.methodLink RX11 76 yX11_isDigit, Cond.static yX11_isDigit, Cond.code yX11_isDigit cX11_isDigit 1 (some .boolean), Cond.methodLink RX11 94 yX11_readsItem, Cond.instanceMethod yX11_readsItem, Cond.selects RX11 yX11_readsItem yX11_readsItem, Cond.code yX11_readsItem cX11_readsItem 3 (some .boolean)]
def wsX11_init_r3 : List Cond := [Cond.methodLink RX11 88 yX11_number, Cond.instanceMethod yX11_number, Cond.selects RX11 yX11_number yX11_number, Cond.code yX11_number cX11_number 4 (some .boolean), Cond.methodLink RX11 91 yX11_once, Cond.instanceMethod yX11_once, Cond.selects RX11 yX11_once yX11_once, Cond.code yX11_once cX11_once 4 (some .boolean), Cond.methodLink RX11 51 yX11_begins, Cond.instanceMethod yX11_begins, Cond.selects RX11 yX11_begins yX11_begins, Cond.code yX11_begins cX11_begins 2 none, Cond.fieldLink RX11 97 "LentCourageModel" "noted" "I"]
def wsX11_init : List Cond := .code yX11_init cX11_init 1 none :: ((wsX11_init_r1 ++ (wsX11_init_r2 ++ wsX11_init_r3)) ++ wsX110)
def wsX11_has : List Cond := .code yX11_has cX11_has 2 (some .boolean) :: ([])
def wsX11_far : List Cond := .code yX11_far cX11_far 2 (some .int) :: ([])
def wsX11_isOne : List Cond := .code yX11_isOne cX11_isOne 2 (some .boolean) :: ([.fieldLink RX11 13 "LentCourageModel" "told" "[I", .methodLink RX11 54 yX11_in, .static yX11_in, .initialized RX11, .code yX11_in cX11_in 3 (some .boolean)] ++ wsX110)
def wsX11_isDeed : List Cond := .code yX11_isDeed cX11_isDeed 2 (some .boolean) :: ([.fieldLink RX11 13 "LentCourageModel" "told" "[I", .methodLink RX11 54 yX11_in, .static yX11_in, .initialized RX11, .code yX11_in cX11_in 3 (some .boolean)] ++ wsX110)
def wsX11_type : List Cond := .code yX11_type cX11_type 2 (some .int) :: ([.fieldLink RX11 58 "LentCourageModel" "typed" "I", .fieldLink RX11 7 "LentCourageModel" "text" "[I", .methodLink RX11 54 yX11_in, .static yX11_in, .initialized RX11, .code yX11_in cX11_in 3 (some .boolean)] ++ wsX110)
def wsX11_clear : List Cond := .code yX11_clear cX11_clear 2 (some .int) :: ([.fieldLink RX11 58 "LentCourageModel" "typed" "I"] ++ wsX110)
def wsX11_port_r1 : List Cond := [Cond.fieldLink RX11 69 "LentCourageModel" "start" "I", Cond.fieldLink RX11 58 "LentCourageModel" "typed" "I", Cond.fieldLink RX11 13 "LentCourageModel" "told" "[I", Cond.methodLink RX11 47 yX11_reads, Cond.instanceMethod yX11_reads, Cond.selects RX11 yX11_reads yX11_reads, Cond.initialized RX11, Cond.code yX11_reads cX11_reads 2 (some .boolean), Cond.fieldLink RX11 16 "LentCourageModel" "draft" "[I", Cond.fieldLink RX11 62 "LentCourageModel" "at" "I", Cond.fieldLink RX11 79 "LentCourageModel" "sort" "I", Cond.methodLink RX11 85 yX11_token, Cond.instanceMethod yX11_token, Cond.selects RX11 yX11_token yX11_token, Cond.code yX11_token cX11_token 2 none, Cond.fieldLink RX11 82 "LentCourageModel" "value" "I", Cond.fieldLink RX11 7 "LentCourageModel" "text" "[I", Cond.methodLink RX11 65 yX11_letterAt, Cond.instanceMethod yX11_letterAt, Cond.selects RX11 yX11_letterAt yX11_letterAt, Cond.code yX11_letterAt cX11_letterAt 2 (some .int), Cond.methodLink RX11 72 yX11_isLetter, Cond.static yX11_isLetter, Cond.code yX11_isLetter cX11_isLetter 1 (some .boolean)]
def wsX11_port_r2 : List Cond := [Cond.methodLink RX11 54 yX11_in, Cond.static yX11_in, Cond.code yX11_in cX11_in 3 (some .boolean), Cond.methodLink RX11 76 yX11_isDigit, Cond.static yX11_isDigit, Cond.code yX11_isDigit cX11_isDigit 1 (some .boolean), Cond.methodLink RX11 94 yX11_readsItem, Cond.instanceMethod yX11_readsItem, Cond.selects RX11 yX11_readsItem yX11_readsItem, Cond.code yX11_readsItem cX11_readsItem 3 (some .boolean), Cond.methodLink RX11 88 yX11_number, Cond.instanceMethod yX11_number, Cond.selects RX11 yX11_number yX11_number, Cond.code yX11_number cX11_number 4 (some .boolean), Cond.methodLink RX11 91 yX11_once, Cond.instanceMethod yX11_once, Cond.selects RX11 yX11_once yX11_once, Cond.code yX11_once cX11_once 4 (some .boolean), Cond.methodLink RX11 51 yX11_begins, Cond.instanceMethod yX11_begins, Cond.selects RX11 yX11_begins yX11_begins, Cond.code yX11_begins cX11_begins 2 none, Cond.fieldLink RX11 19 "LentCourageModel" "s" "[I", Cond.fieldLink RX11 97 "LentCourageModel" "noted" "I"]
def wsX11_port_r3 : List Cond := [Cond.fieldLink RX11 25 "LentCourageModel" "kept" "[Z"]
def wsX11_port : List Cond := .code yX11_port cX11_port 1 (some .int) :: ((wsX11_port_r1 ++ (wsX11_port_r2 ++ wsX11_port_r3)) ++ wsX110)
def wsX11_isHeld : List Cond := .code yX11_isHeld cX11_isHeld 1 (some .boolean) :: ([.fieldLink RX11 19 "LentCourageModel" "s" "[I"] ++ wsX110)
def wsX11_care : List Cond := .code yX11_care cX11_care 2 (some .int) :: ([.fieldLink RX11 19 "LentCourageModel" "s" "[I"] ++ wsX110)
def wsX11_one : List Cond := .code yX11_one cX11_one 3 (some .int) :: ([.fieldLink RX11 13 "LentCourageModel" "told" "[I", .fieldLink RX11 19 "LentCourageModel" "s" "[I", .methodLink RX11 100 yX11_isOne, .instanceMethod yX11_isOne, .selects RX11 yX11_isOne yX11_isOne, .initialized RX11, .code yX11_isOne cX11_isOne 2 (some .boolean), .methodLink RX11 54 yX11_in, .static yX11_in, .code yX11_in cX11_in 3 (some .boolean), .methodLink RX11 103 yX11_care, .instanceMethod yX11_care, .selects RX11 yX11_care yX11_care, .code yX11_care cX11_care 2 (some .int)] ++ wsX110)
def wsX11_isDone : List Cond := .code yX11_isDone cX11_isDone 2 (some .boolean) :: ([.fieldLink RX11 19 "LentCourageModel" "s" "[I", .methodLink RX11 106 yX11_has, .static yX11_has, .initialized RX11, .code yX11_has cX11_has 2 (some .boolean)] ++ wsX110)
def wsX11_deed : List Cond := .code yX11_deed cX11_deed 3 (some .int) :: ([.fieldLink RX11 13 "LentCourageModel" "told" "[I", .methodLink RX11 110 yX11_isDeed, .instanceMethod yX11_isDeed, .selects RX11 yX11_isDeed yX11_isDeed, .initialized RX11, .code yX11_isDeed cX11_isDeed 2 (some .boolean), .methodLink RX11 54 yX11_in, .static yX11_in, .code yX11_in cX11_in 3 (some .boolean), .methodLink RX11 113 yX11_isDone, .instanceMethod yX11_isDone, .selects RX11 yX11_isDone yX11_isDone, .code yX11_isDone cX11_isDone 2 (some .boolean), .fieldLink RX11 19 "LentCourageModel" "s" "[I", .methodLink RX11 106 yX11_has, .static yX11_has, .code yX11_has cX11_has 2 (some .boolean)] ++ wsX110)
def wsX11_remembers : List Cond := .code yX11_remembers cX11_remembers 3 none :: ([.fieldLink RX11 19 "LentCourageModel" "s" "[I"] ++ wsX110)
def wsX11_gives : List Cond := .code yX11_gives cX11_gives 4 (some .int) :: ([.fieldLink RX11 19 "LentCourageModel" "s" "[I", .fieldLink RX11 13 "LentCourageModel" "told" "[I", .methodLink RX11 116 yX11_isHeld, .instanceMethod yX11_isHeld, .selects RX11 yX11_isHeld yX11_isHeld, .initialized RX11, .code yX11_isHeld cX11_isHeld 1 (some .boolean)] ++ wsX110)
def wsX11_spoonAt : List Cond := .code yX11_spoonAt cX11_spoonAt 1 (some .int) :: ([.fieldLink RX11 19 "LentCourageModel" "s" "[I", .fieldLink RX11 13 "LentCourageModel" "told" "[I", .methodLink RX11 116 yX11_isHeld, .instanceMethod yX11_isHeld, .selects RX11 yX11_isHeld yX11_isHeld, .initialized RX11, .code yX11_isHeld cX11_isHeld 1 (some .boolean)] ++ wsX110)
def wsX11_lends_r1 : List Cond := [Cond.fieldLink RX11 19 "LentCourageModel" "s" "[I", Cond.methodLink RX11 100 yX11_isOne, Cond.instanceMethod yX11_isOne, Cond.selects RX11 yX11_isOne yX11_isOne, Cond.initialized RX11, Cond.code yX11_isOne cX11_isOne 2 (some .boolean), Cond.fieldLink RX11 13 "LentCourageModel" "told" "[I", Cond.methodLink RX11 54 yX11_in, Cond.static yX11_in, Cond.code yX11_in cX11_in 3 (some .boolean), Cond.methodLink RX11 119 yX11_spoonAt, Cond.instanceMethod yX11_spoonAt, Cond.selects RX11 yX11_spoonAt yX11_spoonAt, Cond.code yX11_spoonAt cX11_spoonAt 1 (some .int), Cond.methodLink RX11 116 yX11_isHeld, Cond.instanceMethod yX11_isHeld, Cond.selects RX11 yX11_isHeld yX11_isHeld, Cond.code yX11_isHeld cX11_isHeld 1 (some .boolean), Cond.methodLink RX11 123 yX11_remembers, Cond.instanceMethod yX11_remembers, Cond.selects RX11 yX11_remembers yX11_remembers, Cond.code yX11_remembers cX11_remembers 3 none, Cond.methodLink RX11 126 yX11_gives, Cond.instanceMethod yX11_gives]
def wsX11_lends_r2 : List Cond := [Cond.selects RX11 yX11_gives yX11_gives, Cond.code yX11_gives cX11_gives 4 (some .int)]
def wsX11_lends : List Cond := .code yX11_lends cX11_lends 3 (some .int) :: ((wsX11_lends_r1 ++ wsX11_lends_r2) ++ wsX110)
def wsX11_brings : List Cond := .code yX11_brings cX11_brings 2 (some .int) :: ([.fieldLink RX11 13 "LentCourageModel" "told" "[I", .fieldLink RX11 19 "LentCourageModel" "s" "[I", .methodLink RX11 116 yX11_isHeld, .instanceMethod yX11_isHeld, .selects RX11 yX11_isHeld yX11_isHeld, .initialized RX11, .code yX11_isHeld cX11_isHeld 1 (some .boolean), .methodLink RX11 119 yX11_spoonAt, .instanceMethod yX11_spoonAt, .selects RX11 yX11_spoonAt yX11_spoonAt, .code yX11_spoonAt cX11_spoonAt 1 (some .int), .methodLink RX11 123 yX11_remembers, .instanceMethod yX11_remembers, .selects RX11 yX11_remembers yX11_remembers, .code yX11_remembers cX11_remembers 3 none, .methodLink RX11 126 yX11_gives, .instanceMethod yX11_gives, .selects RX11 yX11_gives yX11_gives, .code yX11_gives cX11_gives 4 (some .int)] ++ wsX110)
def wsX11_walks : List Cond := .code yX11_walks cX11_walks 3 (some .int) :: ([.fieldLink RX11 19 "LentCourageModel" "s" "[I", .methodLink RX11 54 yX11_in, .static yX11_in, .initialized RX11, .code yX11_in cX11_in 3 (some .boolean), .methodLink RX11 119 yX11_spoonAt, .instanceMethod yX11_spoonAt, .selects RX11 yX11_spoonAt yX11_spoonAt, .code yX11_spoonAt cX11_spoonAt 1 (some .int), .fieldLink RX11 13 "LentCourageModel" "told" "[I", .methodLink RX11 116 yX11_isHeld, .instanceMethod yX11_isHeld, .selects RX11 yX11_isHeld yX11_isHeld, .code yX11_isHeld cX11_isHeld 1 (some .boolean), .methodLink RX11 129 yX11_far, .static yX11_far, .code yX11_far cX11_far 2 (some .int), .methodLink RX11 123 yX11_remembers, .instanceMethod yX11_remembers, .selects RX11 yX11_remembers yX11_remembers, .code yX11_remembers cX11_remembers 3 none] ++ wsX110)
def wsX11_keeps : List Cond := .code yX11_keeps cX11_keeps 2 (some .int) :: ([.fieldLink RX11 19 "LentCourageModel" "s" "[I", .methodLink RX11 54 yX11_in, .static yX11_in, .initialized RX11, .code yX11_in cX11_in 3 (some .boolean), .methodLink RX11 116 yX11_isHeld, .instanceMethod yX11_isHeld, .selects RX11 yX11_isHeld yX11_isHeld, .code yX11_isHeld cX11_isHeld 1 (some .boolean), .methodLink RX11 123 yX11_remembers, .instanceMethod yX11_remembers, .selects RX11 yX11_remembers yX11_remembers, .code yX11_remembers cX11_remembers 3 none] ++ wsX110)
def wsX11_worthDone : List Cond := .code yX11_worthDone cX11_worthDone 3 (some .int) :: ([.fieldLink RX11 13 "LentCourageModel" "told" "[I", .methodLink RX11 113 yX11_isDone, .instanceMethod yX11_isDone, .selects RX11 yX11_isDone yX11_isDone, .initialized RX11, .code yX11_isDone cX11_isDone 2 (some .boolean), .fieldLink RX11 19 "LentCourageModel" "s" "[I", .methodLink RX11 106 yX11_has, .static yX11_has, .code yX11_has cX11_has 2 (some .boolean)] ++ wsX110)
def wsX11_does_r1 : List Cond := [Cond.fieldLink RX11 19 "LentCourageModel" "s" "[I", Cond.fieldLink RX11 13 "LentCourageModel" "told" "[I", Cond.methodLink RX11 110 yX11_isDeed, Cond.instanceMethod yX11_isDeed, Cond.selects RX11 yX11_isDeed yX11_isDeed, Cond.initialized RX11, Cond.code yX11_isDeed cX11_isDeed 2 (some .boolean), Cond.methodLink RX11 54 yX11_in, Cond.static yX11_in, Cond.code yX11_in cX11_in 3 (some .boolean), Cond.methodLink RX11 116 yX11_isHeld, Cond.instanceMethod yX11_isHeld, Cond.selects RX11 yX11_isHeld yX11_isHeld, Cond.code yX11_isHeld cX11_isHeld 1 (some .boolean), Cond.methodLink RX11 119 yX11_spoonAt, Cond.instanceMethod yX11_spoonAt, Cond.selects RX11 yX11_spoonAt yX11_spoonAt, Cond.code yX11_spoonAt cX11_spoonAt 1 (some .int), Cond.methodLink RX11 113 yX11_isDone, Cond.instanceMethod yX11_isDone, Cond.selects RX11 yX11_isDone yX11_isDone, Cond.code yX11_isDone cX11_isDone 2 (some .boolean), Cond.methodLink RX11 106 yX11_has, Cond.static yX11_has]
def wsX11_does_r2 : List Cond := [Cond.code yX11_has cX11_has 2 (some .boolean), Cond.methodLink RX11 123 yX11_remembers, Cond.instanceMethod yX11_remembers, Cond.selects RX11 yX11_remembers yX11_remembers, Cond.code yX11_remembers cX11_remembers 3 none, Cond.methodLink RX11 133 yX11_worthDone, Cond.instanceMethod yX11_worthDone, Cond.selects RX11 yX11_worthDone yX11_worthDone, Cond.code yX11_worthDone cX11_worthDone 3 (some .int)]
def wsX11_does : List Cond := .code yX11_does cX11_does 2 (some .int) :: ((wsX11_does_r1 ++ wsX11_does_r2) ++ wsX110)
def wsX11_undo : List Cond := .code yX11_undo cX11_undo 3 (some .int) :: ([.fieldLink RX11 19 "LentCourageModel" "s" "[I"] ++ wsX110)
def wsX11_now : List Cond := .code yX11_now cX11_now 4 (some .int) :: ([.fieldLink RX11 19 "LentCourageModel" "s" "[I", .methodLink RX11 116 yX11_isHeld, .instanceMethod yX11_isHeld, .selects RX11 yX11_isHeld yX11_isHeld, .initialized RX11, .code yX11_isHeld cX11_isHeld 1 (some .boolean), .methodLink RX11 133 yX11_worthDone, .instanceMethod yX11_worthDone, .selects RX11 yX11_worthDone yX11_worthDone, .code yX11_worthDone cX11_worthDone 3 (some .int), .fieldLink RX11 13 "LentCourageModel" "told" "[I", .methodLink RX11 113 yX11_isDone, .instanceMethod yX11_isDone, .selects RX11 yX11_isDone yX11_isDone, .code yX11_isDone cX11_isDone 2 (some .boolean), .methodLink RX11 106 yX11_has, .static yX11_has, .code yX11_has cX11_has 2 (some .boolean)] ++ wsX110)
def wsX11_wayOf : List Cond := .code yX11_wayOf cX11_wayOf 9 (some .int) :: ([.fieldLink RX11 41 "LentCourageModel" "places" "[I", .fieldLink RX11 19 "LentCourageModel" "s" "[I", .fieldLink RX11 35 "LentCourageModel" "row" "[I", .fieldLink RX11 13 "LentCourageModel" "told" "[I", .methodLink RX11 119 yX11_spoonAt, .instanceMethod yX11_spoonAt, .selects RX11 yX11_spoonAt yX11_spoonAt, .initialized RX11, .code yX11_spoonAt cX11_spoonAt 1 (some .int), .methodLink RX11 116 yX11_isHeld, .instanceMethod yX11_isHeld, .selects RX11 yX11_isHeld yX11_isHeld, .code yX11_isHeld cX11_isHeld 1 (some .boolean), .methodLink RX11 129 yX11_far, .static yX11_far, .code yX11_far cX11_far 2 (some .int)] ++ wsX110)
def wsX11_mayBe_r1 : List Cond := [Cond.fieldLink RX11 35 "LentCourageModel" "row" "[I", Cond.methodLink RX11 113 yX11_isDone, Cond.instanceMethod yX11_isDone, Cond.selects RX11 yX11_isDone yX11_isDone, Cond.initialized RX11, Cond.code yX11_isDone cX11_isDone 2 (some .boolean), Cond.fieldLink RX11 19 "LentCourageModel" "s" "[I", Cond.methodLink RX11 106 yX11_has, Cond.static yX11_has, Cond.code yX11_has cX11_has 2 (some .boolean), Cond.methodLink RX11 136 yX11_wayOf, Cond.instanceMethod yX11_wayOf, Cond.selects RX11 yX11_wayOf yX11_wayOf, Cond.code yX11_wayOf cX11_wayOf 9 (some .int), Cond.fieldLink RX11 41 "LentCourageModel" "places" "[I", Cond.fieldLink RX11 13 "LentCourageModel" "told" "[I", Cond.methodLink RX11 119 yX11_spoonAt, Cond.instanceMethod yX11_spoonAt, Cond.selects RX11 yX11_spoonAt yX11_spoonAt, Cond.code yX11_spoonAt cX11_spoonAt 1 (some .int), Cond.methodLink RX11 116 yX11_isHeld, Cond.instanceMethod yX11_isHeld, Cond.selects RX11 yX11_isHeld yX11_isHeld, Cond.code yX11_isHeld cX11_isHeld 1 (some .boolean)]
def wsX11_mayBe_r2 : List Cond := [Cond.methodLink RX11 129 yX11_far, Cond.static yX11_far, Cond.code yX11_far cX11_far 2 (some .int)]
def wsX11_mayBe : List Cond := .code yX11_mayBe cX11_mayBe 5 (some .boolean) :: ((wsX11_mayBe_r1 ++ wsX11_mayBe_r2) ++ wsX110)
def wsX11_worthOf : List Cond := .code yX11_worthOf cX11_worthOf 4 (some .int) :: ([.fieldLink RX11 13 "LentCourageModel" "told" "[I", .fieldLink RX11 35 "LentCourageModel" "row" "[I"] ++ wsX110)
def wsX11_rounds_r1 : List Cond := [Cond.fieldLink RX11 139 "LentCourageModel" "bestMany" "I", Cond.fieldLink RX11 142 "LentCourageModel" "bestWorth" "I", Cond.fieldLink RX11 19 "LentCourageModel" "s" "[I", Cond.fieldLink RX11 145 "LentCourageModel" "bestHour" "I", Cond.fieldLink RX11 13 "LentCourageModel" "told" "[I", Cond.fieldLink RX11 38 "LentCourageModel" "best" "[I", Cond.fieldLink RX11 35 "LentCourageModel" "row" "[I", Cond.methodLink RX11 148 yX11_mayBe, Cond.instanceMethod yX11_mayBe, Cond.selects RX11 yX11_mayBe yX11_mayBe, Cond.initialized RX11, Cond.code yX11_mayBe cX11_mayBe 5 (some .boolean), Cond.methodLink RX11 113 yX11_isDone, Cond.instanceMethod yX11_isDone, Cond.selects RX11 yX11_isDone yX11_isDone, Cond.code yX11_isDone cX11_isDone 2 (some .boolean), Cond.methodLink RX11 106 yX11_has, Cond.static yX11_has, Cond.code yX11_has cX11_has 2 (some .boolean), Cond.methodLink RX11 136 yX11_wayOf, Cond.instanceMethod yX11_wayOf, Cond.selects RX11 yX11_wayOf yX11_wayOf, Cond.code yX11_wayOf cX11_wayOf 9 (some .int), Cond.fieldLink RX11 41 "LentCourageModel" "places" "[I"]
def wsX11_rounds_r2 : List Cond := [Cond.methodLink RX11 119 yX11_spoonAt, Cond.instanceMethod yX11_spoonAt, Cond.selects RX11 yX11_spoonAt yX11_spoonAt, Cond.code yX11_spoonAt cX11_spoonAt 1 (some .int), Cond.methodLink RX11 116 yX11_isHeld, Cond.instanceMethod yX11_isHeld, Cond.selects RX11 yX11_isHeld yX11_isHeld, Cond.code yX11_isHeld cX11_isHeld 1 (some .boolean), Cond.methodLink RX11 129 yX11_far, Cond.static yX11_far, Cond.code yX11_far cX11_far 2 (some .int), Cond.methodLink RX11 151 yX11_worthOf, Cond.instanceMethod yX11_worthOf, Cond.selects RX11 yX11_worthOf yX11_worthOf, Cond.code yX11_worthOf cX11_worthOf 4 (some .int)]
def wsX11_rounds : List Cond := .code yX11_rounds cX11_rounds 6 none :: ((wsX11_rounds_r1 ++ wsX11_rounds_r2) ++ wsX110)
def wsX11_round_r1 : List Cond := [Cond.fieldLink RX11 142 "LentCourageModel" "bestWorth" "I", Cond.fieldLink RX11 145 "LentCourageModel" "bestHour" "I", Cond.fieldLink RX11 139 "LentCourageModel" "bestMany" "I", Cond.fieldLink RX11 38 "LentCourageModel" "best" "[I", Cond.methodLink RX11 54 yX11_in, Cond.static yX11_in, Cond.initialized RX11, Cond.code yX11_in cX11_in 3 (some .boolean), Cond.methodLink RX11 154 yX11_rounds, Cond.instanceMethod yX11_rounds, Cond.selects RX11 yX11_rounds yX11_rounds, Cond.code yX11_rounds cX11_rounds 6 none, Cond.fieldLink RX11 19 "LentCourageModel" "s" "[I", Cond.fieldLink RX11 13 "LentCourageModel" "told" "[I", Cond.fieldLink RX11 35 "LentCourageModel" "row" "[I", Cond.methodLink RX11 148 yX11_mayBe, Cond.instanceMethod yX11_mayBe, Cond.selects RX11 yX11_mayBe yX11_mayBe, Cond.code yX11_mayBe cX11_mayBe 5 (some .boolean), Cond.methodLink RX11 113 yX11_isDone, Cond.instanceMethod yX11_isDone, Cond.selects RX11 yX11_isDone yX11_isDone, Cond.code yX11_isDone cX11_isDone 2 (some .boolean), Cond.methodLink RX11 106 yX11_has]
def wsX11_round_r2 : List Cond := [Cond.static yX11_has, Cond.code yX11_has cX11_has 2 (some .boolean), Cond.methodLink RX11 136 yX11_wayOf, Cond.instanceMethod yX11_wayOf, Cond.selects RX11 yX11_wayOf yX11_wayOf, Cond.code yX11_wayOf cX11_wayOf 9 (some .int), Cond.fieldLink RX11 41 "LentCourageModel" "places" "[I", Cond.methodLink RX11 119 yX11_spoonAt, Cond.instanceMethod yX11_spoonAt, Cond.selects RX11 yX11_spoonAt yX11_spoonAt, Cond.code yX11_spoonAt cX11_spoonAt 1 (some .int), Cond.methodLink RX11 116 yX11_isHeld, Cond.instanceMethod yX11_isHeld, Cond.selects RX11 yX11_isHeld yX11_isHeld, Cond.code yX11_isHeld cX11_isHeld 1 (some .boolean), Cond.methodLink RX11 129 yX11_far, Cond.static yX11_far, Cond.code yX11_far cX11_far 2 (some .int), Cond.methodLink RX11 151 yX11_worthOf, Cond.instanceMethod yX11_worthOf, Cond.selects RX11 yX11_worthOf yX11_worthOf, Cond.code yX11_worthOf cX11_worthOf 4 (some .int)]
def wsX11_round : List Cond := .code yX11_round cX11_round 2 (some .int) :: ((wsX11_round_r1 ++ wsX11_round_r2) ++ wsX110)
def wsX11_comes : List Cond := .code yX11_comes cX11_comes 5 (some .boolean) :: ([.fieldLink RX11 13 "LentCourageModel" "told" "[I", .methodLink RX11 129 yX11_far, .static yX11_far, .initialized RX11, .code yX11_far cX11_far 2 (some .int)] ++ wsX110)
def wsX11_spoons : List Cond := .code yX11_spoons cX11_spoons 8 (some .int) :: ([.fieldLink RX11 13 "LentCourageModel" "told" "[I", .fieldLink RX11 44 "LentCourageModel" "pairs" "[I", .methodLink RX11 157 yX11_comes, .instanceMethod yX11_comes, .selects RX11 yX11_comes yX11_comes, .initialized RX11, .code yX11_comes cX11_comes 5 (some .boolean), .methodLink RX11 129 yX11_far, .static yX11_far, .code yX11_far cX11_far 2 (some .int), .methodLink RX11 106 yX11_has, .static yX11_has, .code yX11_has cX11_has 2 (some .boolean)] ++ wsX110)
def wsX11_drawn_r1 : List Cond := [Cond.constant RX11 160 (99999), Cond.fieldLink RX11 13 "LentCourageModel" "told" "[I", Cond.constantLong RX11 161 (75), Cond.constantLong RX11 163 (74), Cond.constantLong RX11 165 (65537), Cond.methodLink RX11 54 yX11_in, Cond.static yX11_in, Cond.initialized RX11, Cond.code yX11_in cX11_in 3 (some .boolean), Cond.methodLink RX11 148 yX11_mayBe, Cond.instanceMethod yX11_mayBe, Cond.selects RX11 yX11_mayBe yX11_mayBe, Cond.code yX11_mayBe cX11_mayBe 5 (some .boolean), Cond.fieldLink RX11 35 "LentCourageModel" "row" "[I", Cond.methodLink RX11 113 yX11_isDone, Cond.instanceMethod yX11_isDone, Cond.selects RX11 yX11_isDone yX11_isDone, Cond.code yX11_isDone cX11_isDone 2 (some .boolean), Cond.fieldLink RX11 19 "LentCourageModel" "s" "[I", Cond.methodLink RX11 106 yX11_has, Cond.static yX11_has, Cond.code yX11_has cX11_has 2 (some .boolean), Cond.methodLink RX11 136 yX11_wayOf, Cond.instanceMethod yX11_wayOf]
def wsX11_drawn_r2 : List Cond := [Cond.selects RX11 yX11_wayOf yX11_wayOf, Cond.code yX11_wayOf cX11_wayOf 9 (some .int), Cond.fieldLink RX11 41 "LentCourageModel" "places" "[I", Cond.methodLink RX11 119 yX11_spoonAt, Cond.instanceMethod yX11_spoonAt, Cond.selects RX11 yX11_spoonAt yX11_spoonAt, Cond.code yX11_spoonAt cX11_spoonAt 1 (some .int), Cond.methodLink RX11 116 yX11_isHeld, Cond.instanceMethod yX11_isHeld, Cond.selects RX11 yX11_isHeld yX11_isHeld, Cond.code yX11_isHeld cX11_isHeld 1 (some .boolean), Cond.methodLink RX11 129 yX11_far, Cond.static yX11_far, Cond.code yX11_far cX11_far 2 (some .int), Cond.methodLink RX11 151 yX11_worthOf, Cond.instanceMethod yX11_worthOf, Cond.selects RX11 yX11_worthOf yX11_worthOf, Cond.code yX11_worthOf cX11_worthOf 4 (some .int)]
def wsX11_drawn : List Cond := .code yX11_drawn cX11_drawn 7 (some .int) :: ((wsX11_drawn_r1 ++ wsX11_drawn_r2) ++ wsX110)
def wsX11_odds : List Cond := .code yX11_odds cX11_odds 11 (some .int) :: ([.fieldLink RX11 13 "LentCourageModel" "told" "[I", .methodLink RX11 54 yX11_in, .static yX11_in, .initialized RX11, .code yX11_in cX11_in 3 (some .boolean), .methodLink RX11 113 yX11_isDone, .instanceMethod yX11_isDone, .selects RX11 yX11_isDone yX11_isDone, .code yX11_isDone cX11_isDone 2 (some .boolean), .fieldLink RX11 19 "LentCourageModel" "s" "[I", .methodLink RX11 106 yX11_has, .static yX11_has, .code yX11_has cX11_has 2 (some .boolean)] ++ wsX110)
def wsX11_hears : List Cond := .code yX11_hears cX11_hears 4 (some .int) :: ([.fieldLink RX11 97 "LentCourageModel" "noted" "I", .fieldLink RX11 32 "LentCourageModel" "hours" "[I", .fieldLink RX11 29 "LentCourageModel" "heard" "[I", .methodLink RX11 110 yX11_isDeed, .instanceMethod yX11_isDeed, .selects RX11 yX11_isDeed yX11_isDeed, .initialized RX11, .code yX11_isDeed cX11_isDeed 2 (some .boolean), .fieldLink RX11 13 "LentCourageModel" "told" "[I", .methodLink RX11 54 yX11_in, .static yX11_in, .code yX11_in cX11_in 3 (some .boolean)] ++ wsX110)
def wsX11_forget : List Cond := .code yX11_forget cX11_forget 2 (some .int) :: ([.fieldLink RX11 97 "LentCourageModel" "noted" "I"] ++ wsX110)
def wsX11_lies : List Cond := .code yX11_lies cX11_lies 3 (some .int) :: ([.fieldLink RX11 97 "LentCourageModel" "noted" "I", .fieldLink RX11 13 "LentCourageModel" "told" "[I", .fieldLink RX11 29 "LentCourageModel" "heard" "[I", .fieldLink RX11 32 "LentCourageModel" "hours" "[I", .methodLink RX11 129 yX11_far, .static yX11_far, .initialized RX11, .code yX11_far cX11_far 2 (some .int)] ++ wsX110)
def wsX11_had : List Cond := .code yX11_had cX11_had 8 (some .int) :: ([.fieldLink RX11 97 "LentCourageModel" "noted" "I", .fieldLink RX11 32 "LentCourageModel" "hours" "[I", .fieldLink RX11 13 "LentCourageModel" "told" "[I", .fieldLink RX11 29 "LentCourageModel" "heard" "[I", .methodLink RX11 54 yX11_in, .static yX11_in, .initialized RX11, .code yX11_in cX11_in 3 (some .boolean), .methodLink RX11 129 yX11_far, .static yX11_far, .code yX11_far cX11_far 2 (some .int)] ++ wsX110)
def wsX11_mark : List Cond := .code yX11_mark cX11_mark 6 (some .int) :: ([.constant RX11 167 (-1000000), .fieldLink RX11 168 "LentCourageModel" "trace" "J", .constantLong RX11 172 (11), .constantLong RX11 174 (101), .constantLong RX11 176 (1011), .constantLong RX11 178 (10101), .constantLong RX11 180 (100001), .fieldLink RX11 19 "LentCourageModel" "s" "[I", .methodLink RX11 54 yX11_in, .static yX11_in, .initialized RX11, .code yX11_in cX11_in 3 (some .boolean), .methodLink RX11 100 yX11_isOne, .instanceMethod yX11_isOne, .selects RX11 yX11_isOne yX11_isOne, .code yX11_isOne cX11_isOne 2 (some .boolean), .fieldLink RX11 13 "LentCourageModel" "told" "[I", .methodLink RX11 103 yX11_care, .instanceMethod yX11_care, .selects RX11 yX11_care yX11_care, .code yX11_care cX11_care 2 (some .int)] ++ wsX110)
def wsX11_keep : List Cond := .code yX11_keep cX11_keep 3 (some .int) :: ([.fieldLink RX11 22 "LentCourageModel" "images" "[I", .fieldLink RX11 19 "LentCourageModel" "s" "[I", .fieldLink RX11 25 "LentCourageModel" "kept" "[Z", .methodLink RX11 54 yX11_in, .static yX11_in, .initialized RX11, .code yX11_in cX11_in 3 (some .boolean)] ++ wsX110)
def wsX11_back : List Cond := .code yX11_back cX11_back 3 (some .int) :: ([.fieldLink RX11 25 "LentCourageModel" "kept" "[Z", .fieldLink RX11 19 "LentCourageModel" "s" "[I", .fieldLink RX11 22 "LentCourageModel" "images" "[I", .methodLink RX11 54 yX11_in, .static yX11_in, .initialized RX11, .code yX11_in cX11_in 3 (some .boolean)] ++ wsX110)
def wsX11_count : List Cond := .code yX11_count cX11_count 2 (some .int) :: ([.fieldLink RX11 13 "LentCourageModel" "told" "[I", .fieldLink RX11 97 "LentCourageModel" "noted" "I", .fieldLink RX11 19 "LentCourageModel" "s" "[I", .fieldLink RX11 58 "LentCourageModel" "typed" "I"] ++ wsX110)
def wsX11_trace : List Cond := .code yX11_trace cX11_trace 1 (some .long) :: ([.fieldLink RX11 168 "LentCourageModel" "trace" "J"] ++ wsX110)
def wsJ9_abs_0f7a4 : List Cond := .code yJ9_abs_0f7a4 cJ9_abs_0f7a4 1 (some .int) :: ([])
def wsJ9_max_7cf53 : List Cond := .code yJ9_max_7cf53 cJ9_max_7cf53 2 (some .int) :: ([])
def wsJ9_min_7cf53 : List Cond := .code yJ9_min_7cf53 cJ9_min_7cf53 2 (some .int) :: ([])
def wsL_law_r1 : List Cond := [Cond.classLink RL 7 RX10, Cond.instantiable RX10 14, Cond.initialized RX10, Cond.classLink RL 10 RX11, Cond.instantiable RX11 22, Cond.initialized RX11, Cond.methodLink RL 9 yX10_init, Cond.instanceMethod yX10_init, Cond.code yX10_init cX10_init 2 none, Cond.methodLink RX10 1 objectInit, Cond.instanceMethod objectInit, Cond.code objectInit ⟨#[0xb1]⟩ 1 none, Cond.classLink RX10 7 RX8, Cond.instantiable RX8 6, Cond.initialized RX8, Cond.fieldLink RX10 10 "LentCourage" "text" "LLentCourage$Text;", Cond.classLink RX10 16 RX5, Cond.instantiable RX5 2, Cond.initialized RX5, Cond.fieldLink RX10 19 "LentCourage" "reader" "LLentCourage$PortReader;", Cond.classLink RX10 23 RX4, Cond.instantiable RX4 10, Cond.initialized RX4, Cond.fieldLink RX10 26 "LentCourage" "port" "LLentCourage$Port;"]
def wsL_law_r2 : List Cond := [Cond.fieldLink RX10 30 "LentCourage" "draft" "LLentCourage$Port;", Cond.classLink RX10 33 RX1, Cond.instantiable RX1 3, Cond.initialized RX1, Cond.fieldLink RX10 36 "LentCourage" "ledger" "LLentCourage$Ledger;", Cond.fieldLink RX10 40 "LentCourage" "images" "[LLentCourage$Ledger;", Cond.arrayClass .boolean, Cond.fieldLink RX10 44 "LentCourage" "imageKept" "[Z", Cond.classLink RX10 48 RX0, Cond.instantiable RX0 3, Cond.initialized RX0, Cond.fieldLink RX10 51 "LentCourage" "heard" "LLentCourage$Heard;", Cond.classLink RX10 55 RX9, Cond.instantiable RX9 4, Cond.initialized RX9, Cond.fieldLink RX10 58 "LentCourage" "way" "LLentCourage$Way;", Cond.classLink RX10 62 RX6, Cond.instantiable RX6 5, Cond.initialized RX6, Cond.fieldLink RX10 65 "LentCourage" "best" "LLentCourage$Round;", Cond.classLink RX10 69 RX7, Cond.instantiable RX7 2, Cond.initialized RX7, Cond.fieldLink RX10 72 "LentCourage" "spoonCount" "LLentCourage$SpoonCount;"]
def wsL_law_r3 : List Cond := [Cond.classLink RX10 76 RX3, Cond.instantiable RX3 3, Cond.initialized RX3, Cond.fieldLink RX10 79 "LentCourage" "chances" "LLentCourage$Odds;", Cond.instanceMethod yX8_init, Cond.code yX8_init cX8_init 1 none, Cond.methodLink RX8 3 objectInit, Cond.arrayClass .int, Cond.fieldLink RX8 9 "LentCourage$Text" "bytes" "[I", Cond.instanceMethod yX5_init, Cond.code yX5_init cX5_init 1 none, Cond.methodLink RX5 3 objectInit, Cond.instanceMethod yX4_init, Cond.code yX4_init cX4_init 1 none, Cond.methodLink RX4 3 objectInit, Cond.fieldLink RX4 11 "LentCourage$Port" "office" "I", Cond.fieldLink RX4 15 "LentCourage$Port" "free" "I", Cond.fieldLink RX4 18 "LentCourage$Port" "home" "[I", Cond.fieldLink RX4 22 "LentCourage$Port" "who" "[I", Cond.fieldLink RX4 25 "LentCourage$Port" "place" "[I", Cond.fieldLink RX4 28 "LentCourage$Port" "from" "[I", Cond.fieldLink RX4 31 "LentCourage$Port" "till" "[I", Cond.fieldLink RX4 34 "LentCourage$Port" "worth" "[I", Cond.methodLink RX10 35 yX1_init]
def wsL_law_r4 : List Cond := [Cond.instanceMethod yX1_init, Cond.code yX1_init cX1_init 2 none, Cond.methodLink RX1 3 objectInit, Cond.classLink RX1 9 RX2, Cond.instantiable RX2 8, Cond.initialized RX2, Cond.fieldLink RX1 12 "LentCourage$Ledger" "present" "LLentCourage$Moment;", Cond.fieldLink RX1 18 "LentCourage$Ledger" "past" "[LLentCourage$Moment;", Cond.instanceMethod yX2_init, Cond.code yX2_init cX2_init 1 none, Cond.methodLink RX2 3 objectInit, Cond.fieldLink RX2 9 "LentCourage$Moment" "holder" "I", Cond.fieldLink RX2 15 "LentCourage$Moment" "at" "[I", Cond.fieldLink RX2 19 "LentCourage$Moment" "lastHeld" "[I", Cond.fieldLink RX2 22 "LentCourage$Moment" "owed" "[I", Cond.instanceMethod yX0_init, Cond.code yX0_init cX0_init 1 none, Cond.methodLink RX0 3 objectInit, Cond.fieldLink RX0 9 "LentCourage$Heard" "deed" "[I", Cond.fieldLink RX0 15 "LentCourage$Heard" "hour" "[I", Cond.instanceMethod yX9_init, Cond.code yX9_init cX9_init 1 none, Cond.methodLink RX9 3 objectInit, Cond.fieldLink RX9 9 "LentCourage$Way" "at" "[I"]
def wsL_law_r5 : List Cond := [Cond.instanceMethod yX6_init, Cond.code yX6_init cX6_init 1 none, Cond.methodLink RX6 3 objectInit, Cond.fieldLink RX6 9 "LentCourage$Round" "row" "[I", Cond.fieldLink RX6 15 "LentCourage$Round" "tried" "[I", Cond.instanceMethod yX7_init, Cond.code yX7_init cX7_init 1 none, Cond.methodLink RX7 3 objectInit, Cond.fieldLink RX7 9 "LentCourage$SpoonCount" "leader" "[I", Cond.instanceMethod yX3_init, Cond.code yX3_init cX3_init 1 none, Cond.methodLink RX3 3 objectInit, Cond.fieldLink RX3 9 "LentCourage$Odds" "ways" "[I", Cond.methodLink RL 12 yX11_init, Cond.instanceMethod yX11_init, Cond.code yX11_init cX11_init 1 none, Cond.methodLink RX11 1 objectInit, Cond.fieldLink RX11 7 "LentCourageModel" "text" "[I", Cond.fieldLink RX11 13 "LentCourageModel" "told" "[I", Cond.fieldLink RX11 16 "LentCourageModel" "draft" "[I", Cond.fieldLink RX11 19 "LentCourageModel" "s" "[I", Cond.fieldLink RX11 22 "LentCourageModel" "images" "[I", Cond.fieldLink RX11 25 "LentCourageModel" "kept" "[Z", Cond.fieldLink RX11 29 "LentCourageModel" "heard" "[I"]
def wsL_law_r6 : List Cond := [Cond.fieldLink RX11 32 "LentCourageModel" "hours" "[I", Cond.fieldLink RX11 35 "LentCourageModel" "row" "[I", Cond.fieldLink RX11 38 "LentCourageModel" "best" "[I", Cond.fieldLink RX11 41 "LentCourageModel" "places" "[I", Cond.fieldLink RX11 44 "LentCourageModel" "pairs" "[I", Cond.methodLink RX11 47 yX11_reads, Cond.instanceMethod yX11_reads, Cond.selects RX11 yX11_reads yX11_reads, Cond.code yX11_reads cX11_reads 2 (some .boolean), Cond.fieldLink RX11 62 "LentCourageModel" "at" "I", Cond.fieldLink RX11 79 "LentCourageModel" "sort" "I", Cond.methodLink RX11 85 yX11_token, Cond.instanceMethod yX11_token, Cond.selects RX11 yX11_token yX11_token, Cond.code yX11_token cX11_token 2 none, Cond.fieldLink RX11 69 "LentCourageModel" "start" "I", Cond.fieldLink RX11 82 "LentCourageModel" "value" "I", Cond.methodLink RX11 65 yX11_letterAt, Cond.instanceMethod yX11_letterAt, Cond.selects RX11 yX11_letterAt yX11_letterAt, Cond.code yX11_letterAt cX11_letterAt 2 (some .int), Cond.fieldLink RX11 58 "LentCourageModel" "typed" "I", Cond.methodLink RX11 72 yX11_isLetter, Cond.static yX11_isLetter]
def wsL_law_r7 : List Cond := [Cond.code yX11_isLetter cX11_isLetter 1 (some .boolean), Cond.methodLink RX11 54 yX11_in, Cond.static yX11_in, Cond.code yX11_in cX11_in 3 (some .boolean), Cond.methodLink RX11 76 yX11_isDigit, Cond.static yX11_isDigit, Cond.code yX11_isDigit cX11_isDigit 1 (some .boolean), Cond.methodLink RX11 94 yX11_readsItem, Cond.instanceMethod yX11_readsItem, Cond.selects RX11 yX11_readsItem yX11_readsItem, Cond.code yX11_readsItem cX11_readsItem 3 (some .boolean), Cond.methodLink RX11 88 yX11_number, Cond.instanceMethod yX11_number, Cond.selects RX11 yX11_number yX11_number, Cond.code yX11_number cX11_number 4 (some .boolean), Cond.methodLink RX11 91 yX11_once, Cond.instanceMethod yX11_once, Cond.selects RX11 yX11_once yX11_once, Cond.code yX11_once cX11_once 4 (some .boolean), Cond.methodLink RX11 51 yX11_begins, Cond.instanceMethod yX11_begins, Cond.selects RX11 yX11_begins yX11_begins, Cond.code yX11_begins cX11_begins 2 none, Cond.fieldLink RX11 97 "LentCourageModel" "noted" "I"]
def wsL_law_r8 : List Cond := [Cond.methodLink RL 13 yX10_type, Cond.instanceMethod yX10_type, Cond.selects RX10 yX10_type yX10_type, Cond.code yX10_type cX10_type 2 (some .int), Cond.fieldLink RX10 83 "LentCourage$Text" "length" "I", Cond.fieldLink RX10 87 "LentCourage$Text" "bytes" "[I", Cond.methodLink RL 17 yX11_type, Cond.instanceMethod yX11_type, Cond.selects RX11 yX11_type yX11_type, Cond.code yX11_type cX11_type 2 (some .int), Cond.methodLink RL 18 yX10_clear, Cond.instanceMethod yX10_clear, Cond.selects RX10 yX10_clear yX10_clear, Cond.code yX10_clear cX10_clear 2 (some .int), Cond.methodLink RL 22 yX11_clear, Cond.instanceMethod yX11_clear, Cond.selects RX11 yX11_clear yX11_clear, Cond.code yX11_clear cX11_clear 2 (some .int), Cond.methodLink RL 23 yX10_port, Cond.instanceMethod yX10_port, Cond.selects RX10 yX10_port yX10_port, Cond.code yX10_port cX10_port 3 (some .int), Cond.fieldLink RX10 102 "LentCourage$Heard" "size" "I", Cond.fieldLink RX10 105 "LentCourage" "bestIsKnown" "Z"]
def wsL_law_r9 : List Cond := [Cond.methodLink RX10 91 yX5_read, Cond.instanceMethod yX5_read, Cond.selects RX5 yX5_read yX5_read, Cond.code yX5_read cX5_read 5 (some .int), Cond.fieldLink RX5 19 "LentCourage$PortReader" "officeTold" "Z", Cond.fieldLink RX5 25 "LentCourage$PortReader" "freeTold" "Z", Cond.fieldLink RX5 31 "LentCourage$Text" "sort" "I", Cond.fieldLink RX5 39 "LentCourage$Text" "start" "I", Cond.methodLink RX5 9 yX8_goToStart, Cond.instanceMethod yX8_goToStart, Cond.selects RX8 yX8_goToStart yX8_goToStart, Cond.code yX8_goToStart cX8_goToStart 1 none, Cond.fieldLink RX8 15 "LentCourage$Text" "next" "I", Cond.methodLink RX5 14 yX4_empty, Cond.instanceMethod yX4_empty, Cond.selects RX4 yX4_empty yX4_empty, Cond.code yX4_empty cX4_empty 1 none, Cond.fieldLink RX4 37 "LentCourage$Port" "people" "I", Cond.fieldLink RX4 40 "LentCourage$Port" "deeds" "I", Cond.methodLink RX5 28 yX8_readToken, Cond.instanceMethod yX8_readToken, Cond.selects RX8 yX8_readToken yX8_readToken, Cond.code yX8_readToken cX8_readToken 1 none, Cond.fieldLink RX8 19 "LentCourage$Text" "length" "I"]
def wsL_law_r10 : List Cond := [Cond.fieldLink RX8 22 "LentCourage$Text" "start" "I", Cond.fieldLink RX8 25 "LentCourage$Text" "value" "I", Cond.fieldLink RX8 28 "LentCourage$Text" "sort" "I", Cond.methodLink RX8 31 yX8_isLetter, Cond.static yX8_isLetter, Cond.code yX8_isLetter cX8_isLetter 1 (some .boolean), Cond.methodLink RX8 35 yX8_readLetters, Cond.instanceMethod yX8_readLetters, Cond.selects RX8 yX8_readLetters yX8_readLetters, Cond.code yX8_readLetters cX8_readLetters 2 none, Cond.methodLink RX8 38 yX8_isDigit, Cond.static yX8_isDigit, Cond.code yX8_isDigit cX8_isDigit 1 (some .boolean), Cond.methodLink RX8 41 yX8_readNumber, Cond.instanceMethod yX8_readNumber, Cond.selects RX8 yX8_readNumber yX8_readNumber, Cond.code yX8_readNumber cX8_readNumber 3 none, Cond.methodLink RX5 35 yX5_readItem, Cond.instanceMethod yX5_readItem, Cond.selects RX5 yX5_readItem yX5_readItem, Cond.code yX5_readItem cX5_readItem 3 (some .boolean), Cond.fieldLink RX5 42 "LentCourage$Text" "value" "I", Cond.methodLink RX5 45 yX5_readOne, Cond.instanceMethod yX5_readOne]
def wsL_law_r11 : List Cond := [Cond.selects RX5 yX5_readOne yX5_readOne, Cond.code yX5_readOne cX5_readOne 3 (some .boolean), Cond.fieldLink RX5 57 "LentCourage$Port" "people" "I", Cond.fieldLink RX5 64 "LentCourage$Port" "home" "[I", Cond.methodLink RX5 60 yX5_readNumber, Cond.static yX5_readNumber, Cond.code yX5_readNumber cX5_readNumber 3 (some .boolean), Cond.methodLink RX5 68 yX5_readStop, Cond.static yX5_readStop, Cond.code yX5_readStop cX5_readStop 1 (some .boolean), Cond.methodLink RX5 48 yX5_readDeed, Cond.instanceMethod yX5_readDeed, Cond.selects RX5 yX5_readDeed yX5_readDeed, Cond.code yX5_readDeed cX5_readDeed 4 (some .boolean), Cond.fieldLink RX5 72 "LentCourage$Port" "deeds" "I", Cond.fieldLink RX5 75 "LentCourage$Port" "who" "[I", Cond.fieldLink RX5 78 "LentCourage$Port" "place" "[I", Cond.fieldLink RX5 81 "LentCourage$Port" "from" "[I", Cond.fieldLink RX5 84 "LentCourage$Port" "till" "[I", Cond.fieldLink RX5 87 "LentCourage$Port" "worth" "[I", Cond.methodLink RX5 51 yX5_readOffice, Cond.instanceMethod yX5_readOffice, Cond.selects RX5 yX5_readOffice yX5_readOffice, Cond.code yX5_readOffice cX5_readOffice 3 (some .boolean)]
def wsL_law_r12 : List Cond := [Cond.fieldLink RX5 90 "LentCourage$Port" "office" "I", Cond.methodLink RX5 54 yX5_readFree, Cond.instanceMethod yX5_readFree, Cond.selects RX5 yX5_readFree yX5_readFree, Cond.code yX5_readFree cX5_readFree 3 (some .boolean), Cond.fieldLink RX5 93 "LentCourage$Port" "free" "I", Cond.methodLink RX10 95 yX4_copyFrom, Cond.instanceMethod yX4_copyFrom, Cond.selects RX4 yX4_copyFrom yX4_copyFrom, Cond.code yX4_copyFrom cX4_copyFrom 2 none, Cond.methodLink RX4 43 arraycopyName, Cond.native arraycopyName, Cond.static arraycopyName, Cond.initialized "java/lang/System", Cond.methodLink RX10 99 yX1_begin, Cond.instanceMethod yX1_begin, Cond.selects RX1 yX1_begin yX1_begin, Cond.code yX1_begin cX1_begin 2 none, Cond.fieldLink RX1 26 "LentCourage$Ledger" "steps" "I", Cond.methodLink RX1 22 yX2_begin, Cond.instanceMethod yX2_begin, Cond.selects RX2 yX2_begin yX2_begin, Cond.code yX2_begin cX2_begin 3 none, Cond.fieldLink RX2 25 "LentCourage$Moment" "hour" "I"]
def wsL_law_r13 : List Cond := [Cond.fieldLink RX2 28 "LentCourage$Moment" "since" "I", Cond.fieldLink RX2 31 "LentCourage$Moment" "fresh" "Z", Cond.fieldLink RX2 35 "LentCourage$Moment" "done" "I", Cond.fieldLink RX2 38 "LentCourage$Port" "home" "[I", Cond.methodLink RL 26 yX11_port, Cond.instanceMethod yX11_port, Cond.selects RX11 yX11_port yX11_port, Cond.code yX11_port cX11_port 1 (some .int), Cond.methodLink RL 27 yX10_one, Cond.instanceMethod yX10_one, Cond.selects RX10 yX10_one yX10_one, Cond.code yX10_one cX10_one 4 (some .int), Cond.fieldLink RX10 113 "LentCourage$Ledger" "present" "LLentCourage$Moment;", Cond.fieldLink RX10 117 "LentCourage$Port" "home" "[I", Cond.fieldLink RX10 120 "LentCourage$Moment" "at" "[I", Cond.fieldLink RX10 125 "LentCourage$Moment" "owed" "[I", Cond.methodLink RX10 109 yX4_hasOne, Cond.instanceMethod yX4_hasOne, Cond.selects RX4 yX4_hasOne yX4_hasOne, Cond.code yX4_hasOne cX4_hasOne 2 (some .boolean), Cond.methodLink RX10 128 yX2_careOf, Cond.instanceMethod yX2_careOf, Cond.selects RX2 yX2_careOf yX2_careOf, Cond.code yX2_careOf cX2_careOf 2 (some .int)]
def wsL_law_r14 : List Cond := [Cond.methodLink RL 31 yX11_one, Cond.instanceMethod yX11_one, Cond.selects RX11 yX11_one yX11_one, Cond.code yX11_one cX11_one 3 (some .int), Cond.methodLink RX11 100 yX11_isOne, Cond.instanceMethod yX11_isOne, Cond.selects RX11 yX11_isOne yX11_isOne, Cond.code yX11_isOne cX11_isOne 2 (some .boolean), Cond.methodLink RX11 103 yX11_care, Cond.instanceMethod yX11_care, Cond.selects RX11 yX11_care yX11_care, Cond.code yX11_care cX11_care 2 (some .int), Cond.methodLink RL 32 yX10_deed, Cond.instanceMethod yX10_deed, Cond.selects RX10 yX10_deed yX10_deed, Cond.code yX10_deed cX10_deed 3 (some .int), Cond.fieldLink RX10 135 "LentCourage$Port" "who" "[I", Cond.fieldLink RX10 138 "LentCourage$Port" "place" "[I", Cond.fieldLink RX10 141 "LentCourage$Port" "from" "[I", Cond.fieldLink RX10 144 "LentCourage$Port" "till" "[I", Cond.fieldLink RX10 147 "LentCourage$Port" "worth" "[I", Cond.methodLink RX10 132 yX4_hasDeed, Cond.instanceMethod yX4_hasDeed, Cond.selects RX4 yX4_hasDeed yX4_hasDeed]
def wsL_law_r15 : List Cond := [Cond.code yX4_hasDeed cX4_hasDeed 2 (some .boolean), Cond.methodLink RX10 150 yX2_isDone, Cond.instanceMethod yX2_isDone, Cond.selects RX2 yX2_isDone yX2_isDone, Cond.code yX2_isDone cX2_isDone 2 (some .boolean), Cond.methodLink RL 35 yX11_deed, Cond.instanceMethod yX11_deed, Cond.selects RX11 yX11_deed yX11_deed, Cond.code yX11_deed cX11_deed 3 (some .int), Cond.methodLink RX11 110 yX11_isDeed, Cond.instanceMethod yX11_isDeed, Cond.selects RX11 yX11_isDeed yX11_isDeed, Cond.code yX11_isDeed cX11_isDeed 2 (some .boolean), Cond.methodLink RX11 113 yX11_isDone, Cond.instanceMethod yX11_isDone, Cond.selects RX11 yX11_isDone yX11_isDone, Cond.code yX11_isDone cX11_isDone 2 (some .boolean), Cond.methodLink RX11 106 yX11_has, Cond.static yX11_has, Cond.code yX11_has cX11_has 2 (some .boolean), Cond.methodLink RL 36 yX10_lends, Cond.instanceMethod yX10_lends, Cond.selects RX10 yX10_lends yX10_lends, Cond.code yX10_lends cX10_lends 4 (some .int)]
def wsL_law_r16 : List Cond := [Cond.fieldLink RX10 153 "LentCourage$Moment" "holder" "I", Cond.fieldLink RX10 163 "LentCourage$Port" "free" "I", Cond.methodLink RX10 156 yX2_spoonPlace, Cond.instanceMethod yX2_spoonPlace, Cond.selects RX2 yX2_spoonPlace yX2_spoonPlace, Cond.code yX2_spoonPlace cX2_spoonPlace 2 (some .int), Cond.fieldLink RX2 53 "LentCourage$Port" "office" "I", Cond.methodLink RX2 49 yX2_isHeld, Cond.instanceMethod yX2_isHeld, Cond.selects RX2 yX2_isHeld yX2_isHeld, Cond.code yX2_isHeld cX2_isHeld 1 (some .boolean), Cond.methodLink RX10 160 yX10_beginStep, Cond.instanceMethod yX10_beginStep, Cond.selects RX10 yX10_beginStep yX10_beginStep, Cond.code yX10_beginStep cX10_beginStep 1 none, Cond.methodLink RX10 218 yX1_rememberStep, Cond.instanceMethod yX1_rememberStep, Cond.selects RX1 yX1_rememberStep yX1_rememberStep, Cond.code yX1_rememberStep cX1_rememberStep 1 none, Cond.methodLink RX1 30 yX1_loseOldest, Cond.instanceMethod yX1_loseOldest, Cond.selects RX1 yX1_loseOldest yX1_loseOldest, Cond.code yX1_loseOldest cX1_loseOldest 3 none, Cond.methodLink RX1 33 yX2_copyFrom]
def wsL_law_r17 : List Cond := [Cond.instanceMethod yX2_copyFrom, Cond.selects RX2 yX2_copyFrom yX2_copyFrom, Cond.code yX2_copyFrom cX2_copyFrom 2 none, Cond.methodLink RX2 43 arraycopyName, Cond.methodLink RX10 166 yX2_giveAway, Cond.instanceMethod yX2_giveAway, Cond.selects RX2 yX2_giveAway yX2_giveAway, Cond.code yX2_giveAway cX2_giveAway 4 (some .int), Cond.methodLink RX2 60 Lib.Math.max.name, Cond.static Lib.Math.max.name, Cond.initialized "java/lang/Math", Cond.code Lib.Math.max.name Lib.Math.max.code 2 (some .int), Cond.methodLink RX2 66 Lib.Math.min.name, Cond.static Lib.Math.min.name, Cond.code Lib.Math.min.name Lib.Math.min.code 2 (some .int), Cond.methodLink RX2 56 yX2_heldFor, Cond.instanceMethod yX2_heldFor, Cond.selects RX2 yX2_heldFor yX2_heldFor, Cond.code yX2_heldFor cX2_heldFor 1 (some .int), Cond.methodLink RX10 169 yX2_receive, Cond.instanceMethod yX2_receive, Cond.selects RX2 yX2_receive yX2_receive, Cond.code yX2_receive cX2_receive 2 none, Cond.methodLink RL 39 yX11_lends]
def wsL_law_r18 : List Cond := [Cond.instanceMethod yX11_lends, Cond.selects RX11 yX11_lends yX11_lends, Cond.code yX11_lends cX11_lends 3 (some .int), Cond.methodLink RX11 119 yX11_spoonAt, Cond.instanceMethod yX11_spoonAt, Cond.selects RX11 yX11_spoonAt yX11_spoonAt, Cond.code yX11_spoonAt cX11_spoonAt 1 (some .int), Cond.methodLink RX11 116 yX11_isHeld, Cond.instanceMethod yX11_isHeld, Cond.selects RX11 yX11_isHeld yX11_isHeld, Cond.code yX11_isHeld cX11_isHeld 1 (some .boolean), Cond.methodLink RX11 123 yX11_remembers, Cond.instanceMethod yX11_remembers, Cond.selects RX11 yX11_remembers yX11_remembers, Cond.code yX11_remembers cX11_remembers 3 none, Cond.methodLink RX11 126 yX11_gives, Cond.instanceMethod yX11_gives, Cond.selects RX11 yX11_gives yX11_gives, Cond.code yX11_gives cX11_gives 4 (some .int), Cond.methodLink RL 40 yX10_brings, Cond.instanceMethod yX10_brings, Cond.selects RX10 yX10_brings yX10_brings, Cond.code yX10_brings cX10_brings 2 (some .int), Cond.fieldLink RX10 177 "LentCourage$Port" "office" "I"]
def wsL_law_r19 : List Cond := [Cond.methodLink RX10 173 yX2_isHeld, Cond.methodLink RL 43 yX11_brings, Cond.instanceMethod yX11_brings, Cond.selects RX11 yX11_brings yX11_brings, Cond.code yX11_brings cX11_brings 2 (some .int), Cond.methodLink RL 44 yX10_walks, Cond.instanceMethod yX10_walks, Cond.selects RX10 yX10_walks yX10_walks, Cond.code yX10_walks cX10_walks 4 (some .int), Cond.methodLink RX10 180 Lib.Math.abs.name, Cond.static Lib.Math.abs.name, Cond.code Lib.Math.abs.name Lib.Math.abs.code 1 (some .int), Cond.fieldLink RX10 185 "LentCourage$Moment" "hour" "I", Cond.methodLink RX10 188 yX2_walkTo, Cond.instanceMethod yX2_walkTo, Cond.selects RX2 yX2_walkTo yX2_walkTo, Cond.code yX2_walkTo cX2_walkTo 3 none, Cond.methodLink RL 47 yX11_walks, Cond.instanceMethod yX11_walks, Cond.selects RX11 yX11_walks yX11_walks, Cond.code yX11_walks cX11_walks 3 (some .int), Cond.methodLink RX11 129 yX11_far, Cond.static yX11_far, Cond.code yX11_far cX11_far 2 (some .int)]
def wsL_law_r20 : List Cond := [Cond.methodLink RL 48 yX10_keeps, Cond.instanceMethod yX10_keeps, Cond.selects RX10 yX10_keeps yX10_keeps, Cond.code yX10_keeps cX10_keeps 3 (some .int), Cond.methodLink RL 51 yX11_keeps, Cond.instanceMethod yX11_keeps, Cond.selects RX11 yX11_keeps yX11_keeps, Cond.code yX11_keeps cX11_keeps 2 (some .int), Cond.methodLink RL 52 yX10_does, Cond.instanceMethod yX10_does, Cond.selects RX10 yX10_does yX10_does, Cond.code yX10_does cX10_does 3 (some .int), Cond.fieldLink RX10 196 "LentCourage$Moment" "done" "I", Cond.fieldLink RX10 199 "LentCourage$Moment" "fresh" "Z", Cond.methodLink RX10 192 yX2_canDo, Cond.instanceMethod yX2_canDo, Cond.selects RX2 yX2_canDo yX2_canDo, Cond.code yX2_canDo cX2_canDo 3 (some .boolean), Cond.fieldLink RX2 69 "LentCourage$Port" "who" "[I", Cond.fieldLink RX2 72 "LentCourage$Port" "place" "[I", Cond.fieldLink RX2 79 "LentCourage$Port" "from" "[I", Cond.fieldLink RX2 82 "LentCourage$Port" "till" "[I", Cond.methodLink RX2 75 yX2_isDone, Cond.methodLink RX10 202 yX2_worthDone]
def wsL_law_r21 : List Cond := [Cond.instanceMethod yX2_worthDone, Cond.selects RX2 yX2_worthDone yX2_worthDone, Cond.code yX2_worthDone cX2_worthDone 4 (some .int), Cond.fieldLink RX2 85 "LentCourage$Port" "deeds" "I", Cond.fieldLink RX2 88 "LentCourage$Port" "worth" "[I", Cond.methodLink RL 55 yX11_does, Cond.instanceMethod yX11_does, Cond.selects RX11 yX11_does yX11_does, Cond.code yX11_does cX11_does 2 (some .int), Cond.methodLink RX11 133 yX11_worthDone, Cond.instanceMethod yX11_worthDone, Cond.selects RX11 yX11_worthDone yX11_worthDone, Cond.code yX11_worthDone cX11_worthDone 3 (some .int), Cond.methodLink RL 56 yX10_undo, Cond.instanceMethod yX10_undo, Cond.selects RX10 yX10_undo yX10_undo, Cond.code yX10_undo cX10_undo 1 (some .int), Cond.fieldLink RX10 205 "LentCourage$Ledger" "steps" "I", Cond.methodLink RX10 208 yX1_undoStep, Cond.instanceMethod yX1_undoStep, Cond.selects RX1 yX1_undoStep yX1_undoStep, Cond.code yX1_undoStep cX1_undoStep 1 none, Cond.methodLink RL 59 yX11_undo, Cond.instanceMethod yX11_undo]
def wsL_law_r22 : List Cond := [Cond.selects RX11 yX11_undo yX11_undo, Cond.code yX11_undo cX11_undo 3 (some .int), Cond.methodLink RL 60 yX10_now, Cond.instanceMethod yX10_now, Cond.selects RX10 yX10_now yX10_now, Cond.code yX10_now cX10_now 3 (some .int), Cond.methodLink RX10 211 yX2_heldFor, Cond.methodLink RX10 215 yX2_owedByAll, Cond.instanceMethod yX2_owedByAll, Cond.selects RX2 yX2_owedByAll yX2_owedByAll, Cond.code yX2_owedByAll cX2_owedByAll 3 (some .int), Cond.methodLink RL 63 yX11_now, Cond.instanceMethod yX11_now, Cond.selects RX11 yX11_now yX11_now, Cond.code yX11_now cX11_now 4 (some .int), Cond.methodLink RL 64 yX10_round, Cond.instanceMethod yX10_round, Cond.selects RX10 yX10_round yX10_round, Cond.code yX10_round cX10_round 2 (some .int), Cond.fieldLink RX10 225 "LentCourage$Round" "worth" "I", Cond.fieldLink RX10 227 "LentCourage$Round" "hour" "I", Cond.fieldLink RX10 228 "LentCourage$Round" "length" "I", Cond.fieldLink RX10 229 "LentCourage$Round" "row" "[I", Cond.methodLink RX10 221 yX6_find]
def wsL_law_r23 : List Cond := [Cond.instanceMethod yX6_find, Cond.selects RX6 yX6_find yX6_find, Cond.code yX6_find cX6_find 4 none, Cond.fieldLink RX6 18 "LentCourage$Round" "length" "I", Cond.fieldLink RX6 22 "LentCourage$Round" "worth" "I", Cond.fieldLink RX6 25 "LentCourage$Moment" "hour" "I", Cond.fieldLink RX6 30 "LentCourage$Round" "hour" "I", Cond.methodLink RX6 31 yX9_begin, Cond.instanceMethod yX9_begin, Cond.selects RX9 yX9_begin yX9_begin, Cond.code yX9_begin cX9_begin 3 none, Cond.fieldLink RX9 15 "LentCourage$Moment" "at" "[I", Cond.methodLink RX9 18 arraycopyName, Cond.fieldLink RX9 28 "LentCourage$Way" "spoon" "I", Cond.fieldLink RX9 32 "LentCourage$Moment" "hour" "I", Cond.fieldLink RX9 35 "LentCourage$Way" "hour" "I", Cond.fieldLink RX9 36 "LentCourage$Moment" "fresh" "Z", Cond.fieldLink RX9 40 "LentCourage$Moment" "holder" "I", Cond.fieldLink RX9 43 "LentCourage$Way" "ahead" "I", Cond.methodLink RX9 24 yX2_spoonPlace, Cond.methodLink RX6 37 yX2_openDeeds, Cond.instanceMethod yX2_openDeeds, Cond.selects RX2 yX2_openDeeds yX2_openDeeds, Cond.code yX2_openDeeds cX2_openDeeds 2 (some .int)]
def wsL_law_r24 : List Cond := [Cond.methodLink RX6 41 yX6_tryRows, Cond.instanceMethod yX6_tryRows, Cond.selects RX6 yX6_tryRows yX6_tryRows, Cond.code yX6_tryRows cX6_tryRows 13 none, Cond.fieldLink RX6 45 "LentCourage$Way" "hour" "I", Cond.fieldLink RX6 54 "LentCourage$Way" "spoon" "I", Cond.fieldLink RX6 57 "LentCourage$Way" "ahead" "I", Cond.fieldLink RX6 60 "LentCourage$Port" "deeds" "I", Cond.fieldLink RX6 69 "LentCourage$Port" "who" "[I", Cond.fieldLink RX6 72 "LentCourage$Way" "at" "[I", Cond.fieldLink RX6 79 "LentCourage$Port" "worth" "[I", Cond.methodLink RX6 46 yX6_rememberRow, Cond.instanceMethod yX6_rememberRow, Cond.selects RX6 yX6_rememberRow yX6_rememberRow, Cond.code yX6_rememberRow cX6_rememberRow 4 none, Cond.methodLink RX6 81 arraycopyName, Cond.methodLink RX6 50 yX6_canBecomeBetter, Cond.instanceMethod yX6_canBecomeBetter, Cond.selects RX6 yX6_canBecomeBetter yX6_canBecomeBetter, Cond.code yX6_canBecomeBetter cX6_canBecomeBetter 10 (some .boolean), Cond.fieldLink RX6 87 "LentCourage$Port" "place" "[I", Cond.methodLink RX6 90 Lib.Math.abs.name, Cond.fieldLink RX6 96 "LentCourage$Port" "from" "[I", Cond.methodLink RX6 99 Lib.Math.max.name]
def wsL_law_r25 : List Cond := [Cond.fieldLink RX6 103 "LentCourage$Port" "till" "[I", Cond.methodLink RX6 65 yX9_hourOfNext, Cond.instanceMethod yX9_hourOfNext, Cond.selects RX9 yX9_hourOfNext yX9_hourOfNext, Cond.code yX9_hourOfNext cX9_hourOfNext 6 (some .int), Cond.fieldLink RX9 46 "LentCourage$Port" "who" "[I", Cond.methodLink RX9 51 Lib.Math.abs.name, Cond.fieldLink RX9 57 "LentCourage$Port" "place" "[I", Cond.fieldLink RX9 60 "LentCourage$Port" "from" "[I", Cond.methodLink RX9 63 Lib.Math.max.name, Cond.fieldLink RX9 67 "LentCourage$Port" "till" "[I", Cond.methodLink RX6 75 yX9_add, Cond.instanceMethod yX9_add, Cond.selects RX9 yX9_add yX9_add, Cond.code yX9_add cX9_add 5 none, Cond.methodLink RL 67 yX11_round, Cond.instanceMethod yX11_round, Cond.selects RX11 yX11_round yX11_round, Cond.code yX11_round cX11_round 2 (some .int), Cond.fieldLink RX11 142 "LentCourageModel" "bestWorth" "I", Cond.fieldLink RX11 145 "LentCourageModel" "bestHour" "I", Cond.fieldLink RX11 139 "LentCourageModel" "bestMany" "I", Cond.methodLink RX11 154 yX11_rounds, Cond.instanceMethod yX11_rounds]
def wsL_law_r26 : List Cond := [Cond.selects RX11 yX11_rounds yX11_rounds, Cond.code yX11_rounds cX11_rounds 6 none, Cond.methodLink RX11 148 yX11_mayBe, Cond.instanceMethod yX11_mayBe, Cond.selects RX11 yX11_mayBe yX11_mayBe, Cond.code yX11_mayBe cX11_mayBe 5 (some .boolean), Cond.methodLink RX11 136 yX11_wayOf, Cond.instanceMethod yX11_wayOf, Cond.selects RX11 yX11_wayOf yX11_wayOf, Cond.code yX11_wayOf cX11_wayOf 9 (some .int), Cond.methodLink RX11 151 yX11_worthOf, Cond.instanceMethod yX11_worthOf, Cond.selects RX11 yX11_worthOf yX11_worthOf, Cond.code yX11_worthOf cX11_worthOf 4 (some .int), Cond.methodLink RL 68 yX10_spoons, Cond.instanceMethod yX10_spoons, Cond.selects RX10 yX10_spoons yX10_spoons, Cond.code yX10_spoons cX10_spoons 1 (some .int), Cond.methodLink RX10 232 yX7_fewest, Cond.instanceMethod yX7_fewest, Cond.selects RX7 yX7_fewest yX7_fewest, Cond.code yX7_fewest cX7_fewest 4 (some .int), Cond.fieldLink RX7 15 "LentCourage$Port" "deeds" "I", Cond.fieldLink RX7 21 "LentCourage$Port" "office" "I"]
def wsL_law_r27 : List Cond := [Cond.fieldLink RX7 28 "LentCourage$SpoonCount" "seen" "I", Cond.methodLink RX7 24 yX7_canGo, Cond.static yX7_canGo, Cond.code yX7_canGo cX7_canGo 5 (some .boolean), Cond.fieldLink RX7 47 "LentCourage$Port" "home" "[I", Cond.fieldLink RX7 41 "LentCourage$Port" "who" "[I", Cond.methodLink RX7 50 Lib.Math.abs.name, Cond.fieldLink RX7 44 "LentCourage$Port" "place" "[I", Cond.fieldLink RX7 38 "LentCourage$Port" "from" "[I", Cond.methodLink RX7 31 yX7_findFollower, Cond.instanceMethod yX7_findFollower, Cond.selects RX7 yX7_findFollower yX7_findFollower, Cond.code yX7_findFollower cX7_findFollower 5 (some .boolean), Cond.methodLink RX7 35 yX7_canFollow, Cond.static yX7_canFollow, Cond.code yX7_canFollow cX7_canFollow 5 (some .boolean), Cond.methodLink RL 71 yX11_spoons, Cond.instanceMethod yX11_spoons, Cond.selects RX11 yX11_spoons yX11_spoons, Cond.code yX11_spoons cX11_spoons 8 (some .int), Cond.methodLink RX11 157 yX11_comes, Cond.instanceMethod yX11_comes, Cond.selects RX11 yX11_comes yX11_comes, Cond.code yX11_comes cX11_comes 5 (some .boolean)]
def wsL_law_r28 : List Cond := [Cond.methodLink RL 72 yX10_drawn, Cond.instanceMethod yX10_drawn, Cond.selects RX10 yX10_drawn yX10_drawn, Cond.code yX10_drawn cX10_drawn 9 (some .int), Cond.constant RX10 235 (99999), Cond.fieldLink RX10 236 "LentCourage$Port" "deeds" "I", Cond.constant RX10 245 (65537), Cond.methodLink RX10 239 yX9_begin, Cond.methodLink RX10 242 yX2_openDeeds, Cond.methodLink RX10 246 yX9_hourOfNext, Cond.methodLink RX10 250 yX9_add, Cond.methodLink RL 75 yX11_drawn, Cond.instanceMethod yX11_drawn, Cond.selects RX11 yX11_drawn yX11_drawn, Cond.code yX11_drawn cX11_drawn 7 (some .int), Cond.constant RX11 160 (99999), Cond.constantLong RX11 161 (75), Cond.constantLong RX11 163 (74), Cond.constantLong RX11 165 (65537), Cond.methodLink RL 76 yX10_odds, Cond.instanceMethod yX10_odds, Cond.selects RX10 yX10_odds yX10_odds, Cond.code yX10_odds cX10_odds 5 (some .int), Cond.fieldLink RX10 262 "LentCourage$Odds" "upper" "I"]
def wsL_law_r29 : List Cond := [Cond.fieldLink RX10 265 "LentCourage$Odds" "lower" "I", Cond.methodLink RX10 254 yJ6_bitCount_0f7a4, Cond.static yJ6_bitCount_0f7a4, Cond.initialized RJ6, Cond.code yJ6_bitCount_0f7a4 cJ6_bitCount_0f7a4 1 (some .int), Cond.constant RJ6 265 (1431655765), Cond.constant RJ6 266 (858993459), Cond.constant RJ6 267 (252645135), Cond.methodLink RX10 259 yX3_find, Cond.instanceMethod yX3_find, Cond.selects RX3 yX3_find yX3_find, Cond.code yX3_find cX3_find 5 none, Cond.fieldLink RX3 19 "LentCourage$Odds" "upper" "I", Cond.fieldLink RX3 23 "LentCourage$Odds" "lower" "I", Cond.methodLink RX3 15 yX3_countWays, Cond.instanceMethod yX3_countWays, Cond.selects RX3 yX3_countWays yX3_countWays, Cond.code yX3_countWays cX3_countWays 5 none, Cond.methodLink RX3 26 yX3_takeOut, Cond.instanceMethod yX3_takeOut, Cond.selects RX3 yX3_takeOut yX3_takeOut, Cond.code yX3_takeOut cX3_takeOut 4 none, Cond.methodLink RL 80 yX11_odds, Cond.instanceMethod yX11_odds]
def wsL_law_r30 : List Cond := [Cond.selects RX11 yX11_odds yX11_odds, Cond.code yX11_odds cX11_odds 11 (some .int), Cond.methodLink RL 81 yX10_hears, Cond.instanceMethod yX10_hears, Cond.selects RX10 yX10_hears yX10_hears, Cond.code yX10_hears cX10_hears 3 (some .int), Cond.methodLink RX10 268 yX0_insert, Cond.instanceMethod yX0_insert, Cond.selects RX0 yX0_insert yX0_insert, Cond.code yX0_insert cX0_insert 4 none, Cond.fieldLink RX0 18 "LentCourage$Heard" "size" "I", Cond.methodLink RL 84 yX11_hears, Cond.instanceMethod yX11_hears, Cond.selects RX11 yX11_hears yX11_hears, Cond.code yX11_hears cX11_hears 4 (some .int), Cond.methodLink RL 85 yX10_forget, Cond.instanceMethod yX10_forget, Cond.selects RX10 yX10_forget yX10_forget, Cond.code yX10_forget cX10_forget 2 (some .int), Cond.methodLink RL 88 yX11_forget, Cond.instanceMethod yX11_forget, Cond.selects RX11 yX11_forget yX11_forget, Cond.code yX11_forget cX11_forget 2 (some .int), Cond.methodLink RL 89 yX10_lies]
def wsL_law_r31 : List Cond := [Cond.instanceMethod yX10_lies, Cond.selects RX10 yX10_lies yX10_lies, Cond.code yX10_lies cX10_lies 1 (some .int), Cond.methodLink RX10 271 yX0_tooSoon, Cond.instanceMethod yX0_tooSoon, Cond.selects RX0 yX0_tooSoon yX0_tooSoon, Cond.code yX0_tooSoon cX0_tooSoon 5 (some .int), Cond.fieldLink RX0 22 "LentCourage$Port" "place" "[I", Cond.methodLink RX0 27 Lib.Math.abs.name, Cond.methodLink RL 92 yX11_lies, Cond.instanceMethod yX11_lies, Cond.selects RX11 yX11_lies yX11_lies, Cond.code yX11_lies cX11_lies 3 (some .int), Cond.methodLink RL 93 yX10_had, Cond.instanceMethod yX10_had, Cond.selects RX10 yX10_had yX10_had, Cond.code yX10_had cX10_had 2 (some .int), Cond.methodLink RX10 274 yX0_possibleHolders, Cond.instanceMethod yX0_possibleHolders, Cond.selects RX0 yX0_possibleHolders yX0_possibleHolders, Cond.code yX0_possibleHolders cX0_possibleHolders 8 (some .int), Cond.fieldLink RX0 43 "LentCourage$Port" "people" "I", Cond.fieldLink RX0 46 "LentCourage$Port" "home" "[I", Cond.methodLink RX0 33 yX0_latestBy]
def wsL_law_r32 : List Cond := [Cond.instanceMethod yX0_latestBy, Cond.selects RX0 yX0_latestBy yX0_latestBy, Cond.code yX0_latestBy cX0_latestBy 4 (some .int), Cond.methodLink RX0 36 yX0_earliestFrom, Cond.instanceMethod yX0_earliestFrom, Cond.selects RX0 yX0_earliestFrom yX0_earliestFrom, Cond.code yX0_earliestFrom cX0_earliestFrom 4 (some .int), Cond.methodLink RX0 39 yX0_whoDid, Cond.instanceMethod yX0_whoDid, Cond.selects RX0 yX0_whoDid yX0_whoDid, Cond.code yX0_whoDid cX0_whoDid 3 (some .int), Cond.fieldLink RX0 53 "LentCourage$Port" "who" "[I", Cond.methodLink RX0 49 yX0_isNear, Cond.instanceMethod yX0_isNear, Cond.selects RX0 yX0_isNear yX0_isNear, Cond.code yX0_isNear cX0_isNear 5 (some .boolean), Cond.methodLink RL 96 yX11_had, Cond.instanceMethod yX11_had, Cond.selects RX11 yX11_had yX11_had, Cond.code yX11_had cX11_had 8 (some .int), Cond.methodLink RL 97 yX10_mark, Cond.instanceMethod yX10_mark, Cond.selects RX10 yX10_mark yX10_mark, Cond.code yX10_mark cX10_mark 3 (some .int)]
def wsL_law_r33 : List Cond := [Cond.constant RX10 277 (-1000000), Cond.methodLink RX10 278 yX10_markOfOne, Cond.instanceMethod yX10_markOfOne, Cond.selects RX10 yX10_markOfOne yX10_markOfOne, Cond.code yX10_markOfOne cX10_markOfOne 2 (some .int), Cond.fieldLink RX10 296 "LentCourage" "traced" "J", Cond.methodLink RX10 281 yX10_markOfFriend, Cond.instanceMethod yX10_markOfFriend, Cond.selects RX10 yX10_markOfFriend yX10_markOfFriend, Cond.code yX10_markOfFriend cX10_markOfFriend 2 (some .int), Cond.constantLong RX10 300 (10), Cond.methodLink RX10 284 yX10_markOfThief, Cond.instanceMethod yX10_markOfThief, Cond.selects RX10 yX10_markOfThief yX10_markOfThief, Cond.code yX10_markOfThief cX10_markOfThief 2 (some .int), Cond.constantLong RX10 302 (100), Cond.methodLink RX10 287 yX10_markOfWidow, Cond.instanceMethod yX10_markOfWidow, Cond.selects RX10 yX10_markOfWidow yX10_markOfWidow, Cond.code yX10_markOfWidow cX10_markOfWidow 2 (some .int), Cond.constantLong RX10 304 (1000), Cond.methodLink RX10 290 yX10_markOfPilot, Cond.instanceMethod yX10_markOfPilot, Cond.selects RX10 yX10_markOfPilot yX10_markOfPilot]
def wsL_law_r34 : List Cond := [Cond.code yX10_markOfPilot cX10_markOfPilot 2 (some .int), Cond.constantLong RX10 306 (10000), Cond.methodLink RX10 293 yX10_markOfClerk, Cond.instanceMethod yX10_markOfClerk, Cond.selects RX10 yX10_markOfClerk yX10_markOfClerk, Cond.code yX10_markOfClerk cX10_markOfClerk 2 (some .int), Cond.constantLong RX10 308 (100000), Cond.methodLink RL 100 yX11_mark, Cond.instanceMethod yX11_mark, Cond.selects RX11 yX11_mark yX11_mark, Cond.code yX11_mark cX11_mark 6 (some .int), Cond.constant RX11 167 (-1000000), Cond.fieldLink RX11 168 "LentCourageModel" "trace" "J", Cond.constantLong RX11 172 (11), Cond.constantLong RX11 174 (101), Cond.constantLong RX11 176 (1011), Cond.constantLong RX11 178 (10101), Cond.constantLong RX11 180 (100001), Cond.methodLink RL 101 yX10_keep, Cond.instanceMethod yX10_keep, Cond.selects RX10 yX10_keep yX10_keep, Cond.code yX10_keep cX10_keep 2 (some .int), Cond.methodLink RX10 310 yX1_copyFrom, Cond.instanceMethod yX1_copyFrom]
def wsL_law_r35 : List Cond := [Cond.selects RX1 yX1_copyFrom yX1_copyFrom, Cond.code yX1_copyFrom cX1_copyFrom 3 none, Cond.methodLink RL 104 yX11_keep, Cond.instanceMethod yX11_keep, Cond.selects RX11 yX11_keep yX11_keep, Cond.code yX11_keep cX11_keep 3 (some .int), Cond.methodLink RL 105 yX10_back, Cond.instanceMethod yX10_back, Cond.selects RX10 yX10_back yX10_back, Cond.code yX10_back cX10_back 2 (some .int), Cond.methodLink RL 108 yX11_back, Cond.instanceMethod yX11_back, Cond.selects RX11 yX11_back yX11_back, Cond.code yX11_back cX11_back 3 (some .int), Cond.methodLink RL 109 yX10_count, Cond.instanceMethod yX10_count, Cond.selects RX10 yX10_count yX10_count, Cond.code yX10_count cX10_count 2 (some .int), Cond.fieldLink RX10 313 "LentCourage$Port" "people" "I", Cond.methodLink RL 112 yX11_count, Cond.instanceMethod yX11_count, Cond.selects RX11 yX11_count yX11_count, Cond.code yX11_count cX11_count 2 (some .int), Cond.methodLink RL 113 yX10_trace]
def wsL_law_r36 : List Cond := [Cond.instanceMethod yX10_trace, Cond.selects RX10 yX10_trace yX10_trace, Cond.code yX10_trace cX10_trace 1 (some .long), Cond.methodLink RL 117 yX11_trace, Cond.instanceMethod yX11_trace, Cond.selects RX11 yX11_trace yX11_trace, Cond.code yX11_trace cX11_trace 1 (some .long)]
def wsL_law : List Cond := (wsL_law_r1 ++ (wsL_law_r2 ++ (wsL_law_r3 ++ (wsL_law_r4 ++ (wsL_law_r5 ++ (wsL_law_r6 ++ (wsL_law_r7 ++ (wsL_law_r8 ++ (wsL_law_r9 ++ (wsL_law_r10 ++ (wsL_law_r11 ++ (wsL_law_r12 ++ (wsL_law_r13 ++ (wsL_law_r14 ++ (wsL_law_r15 ++ (wsL_law_r16 ++ (wsL_law_r17 ++ (wsL_law_r18 ++ (wsL_law_r19 ++ (wsL_law_r20 ++ (wsL_law_r21 ++ (wsL_law_r22 ++ (wsL_law_r23 ++ (wsL_law_r24 ++ (wsL_law_r25 ++ (wsL_law_r26 ++ (wsL_law_r27 ++ (wsL_law_r28 ++ (wsL_law_r29 ++ (wsL_law_r30 ++ (wsL_law_r31 ++ (wsL_law_r32 ++ (wsL_law_r33 ++ (wsL_law_r34 ++ (wsL_law_r35 ++ wsL_law_r36))))))))))))))))))))))))))))))))))) ++ wsX100 ++ wsX110 ++ wsX80 ++ wsX50 ++ wsX40 ++ wsX10 ++ wsX00 ++ wsX90 ++ wsX60 ++ wsX70 ++ wsX30 ++ wsX20 ++ ([] : List Cond)
theorem inJ6 : ∀ w ∈ wsJ60, w ∈ lw_tbl := by decide +kernel
theorem inJ9 : ∀ w ∈ wsJ90, w ∈ lw_tbl := by decide +kernel
theorem inJ10 : ∀ w ∈ wsJ100, w ∈ lw_tbl := by decide +kernel
theorem dX0_init_0 : decode cX0_init 0 = .ok (.aload_n 0, 1) := by decide +kernel
theorem dX0_init_1 : decode cX0_init 1 = .ok (.invokespecial 3, 3) := by decide +kernel
theorem dX0_init_4 : decode cX0_init 4 = .ok (.aload_n 0, 1) := by decide +kernel
theorem dX0_init_5 : decode cX0_init 5 = .ok (.bipush 6, 2) := by decide +kernel
theorem dX0_init_7 : decode cX0_init 7 = .ok (.newarray .int, 2) := by decide +kernel
theorem dX0_init_9 : decode cX0_init 9 = .ok (.putfield 9, 3) := by decide +kernel
theorem dX0_init_12 : decode cX0_init 12 = .ok (.aload_n 0, 1) := by decide +kernel
theorem dX0_init_13 : decode cX0_init 13 = .ok (.bipush 6, 2) := by decide +kernel
theorem dX0_init_15 : decode cX0_init 15 = .ok (.newarray .int, 2) := by decide +kernel
theorem dX0_init_17 : decode cX0_init 17 = .ok (.putfield 15, 3) := by decide +kernel
theorem dX0_init_20 : decode cX0_init 20 = .ok (.return_, 1) := by decide +kernel
theorem dX0_insert_0 : decode cX0_insert 0 = .ok (.aload_n 0, 1) := by decide +kernel
theorem dX0_insert_1 : decode cX0_insert 1 = .ok (.getfield 18, 3) := by decide +kernel
theorem dX0_insert_4 : decode cX0_insert 4 = .ok (.bipush 6, 2) := by decide +kernel
theorem dX0_insert_6 : decode cX0_insert 6 = .ok (.if_icmp .lt 4, 3) := by decide +kernel
theorem dX0_insert_9 : decode cX0_insert 9 = .ok (.return_, 1) := by decide +kernel
theorem dX0_insert_10 : decode cX0_insert 10 = .ok (.aload_n 0, 1) := by decide +kernel
theorem dX0_insert_11 : decode cX0_insert 11 = .ok (.getfield 18, 3) := by decide +kernel
theorem dX0_insert_14 : decode cX0_insert 14 = .ok (.istore_n 3, 1) := by decide +kernel
theorem dX0_insert_15 : decode cX0_insert 15 = .ok (.iload_n 3, 1) := by decide +kernel
theorem dX0_insert_16 : decode cX0_insert 16 = .ok (.ifCond .le 49, 3) := by decide +kernel
theorem dX0_insert_19 : decode cX0_insert 19 = .ok (.aload_n 0, 1) := by decide +kernel
theorem dX0_insert_20 : decode cX0_insert 20 = .ok (.getfield 15, 3) := by decide +kernel
theorem dX0_insert_23 : decode cX0_insert 23 = .ok (.iload_n 3, 1) := by decide +kernel
theorem dX0_insert_24 : decode cX0_insert 24 = .ok (.iconst 1, 1) := by decide +kernel
theorem dX0_insert_25 : decode cX0_insert 25 = .ok (.isub, 1) := by decide +kernel
theorem dX0_insert_26 : decode cX0_insert 26 = .ok (.iaload, 1) := by decide +kernel
theorem dX0_insert_27 : decode cX0_insert 27 = .ok (.iload_n 2, 1) := by decide +kernel
theorem dX0_insert_28 : decode cX0_insert 28 = .ok (.if_icmp .le 37, 3) := by decide +kernel
theorem dX0_insert_31 : decode cX0_insert 31 = .ok (.aload_n 0, 1) := by decide +kernel
theorem dX0_insert_32 : decode cX0_insert 32 = .ok (.getfield 9, 3) := by decide +kernel
theorem dX0_insert_35 : decode cX0_insert 35 = .ok (.iload_n 3, 1) := by decide +kernel
theorem dX0_insert_36 : decode cX0_insert 36 = .ok (.aload_n 0, 1) := by decide +kernel
theorem dX0_insert_37 : decode cX0_insert 37 = .ok (.getfield 9, 3) := by decide +kernel
theorem dX0_insert_40 : decode cX0_insert 40 = .ok (.iload_n 3, 1) := by decide +kernel
theorem dX0_insert_41 : decode cX0_insert 41 = .ok (.iconst 1, 1) := by decide +kernel
theorem dX0_insert_42 : decode cX0_insert 42 = .ok (.isub, 1) := by decide +kernel
theorem dX0_insert_43 : decode cX0_insert 43 = .ok (.iaload, 1) := by decide +kernel
theorem dX0_insert_44 : decode cX0_insert 44 = .ok (.iastore, 1) := by decide +kernel
theorem dX0_insert_45 : decode cX0_insert 45 = .ok (.aload_n 0, 1) := by decide +kernel
theorem dX0_insert_46 : decode cX0_insert 46 = .ok (.getfield 15, 3) := by decide +kernel
theorem dX0_insert_49 : decode cX0_insert 49 = .ok (.iload_n 3, 1) := by decide +kernel
theorem dX0_insert_50 : decode cX0_insert 50 = .ok (.aload_n 0, 1) := by decide +kernel
theorem dX0_insert_51 : decode cX0_insert 51 = .ok (.getfield 15, 3) := by decide +kernel
theorem dX0_insert_54 : decode cX0_insert 54 = .ok (.iload_n 3, 1) := by decide +kernel
theorem dX0_insert_55 : decode cX0_insert 55 = .ok (.iconst 1, 1) := by decide +kernel
theorem dX0_insert_56 : decode cX0_insert 56 = .ok (.isub, 1) := by decide +kernel
theorem dX0_insert_57 : decode cX0_insert 57 = .ok (.iaload, 1) := by decide +kernel
theorem dX0_insert_58 : decode cX0_insert 58 = .ok (.iastore, 1) := by decide +kernel
theorem dX0_insert_59 : decode cX0_insert 59 = .ok (.iinc 3 (-1), 3) := by decide +kernel
theorem dX0_insert_62 : decode cX0_insert 62 = .ok (.goto (-47), 3) := by decide +kernel
theorem dX0_insert_65 : decode cX0_insert 65 = .ok (.aload_n 0, 1) := by decide +kernel
theorem dX0_insert_66 : decode cX0_insert 66 = .ok (.getfield 9, 3) := by decide +kernel
theorem dX0_insert_69 : decode cX0_insert 69 = .ok (.iload_n 3, 1) := by decide +kernel
theorem dX0_insert_70 : decode cX0_insert 70 = .ok (.iload_n 1, 1) := by decide +kernel
theorem dX0_insert_71 : decode cX0_insert 71 = .ok (.iastore, 1) := by decide +kernel
theorem dX0_insert_72 : decode cX0_insert 72 = .ok (.aload_n 0, 1) := by decide +kernel
theorem dX0_insert_73 : decode cX0_insert 73 = .ok (.getfield 15, 3) := by decide +kernel
theorem dX0_insert_76 : decode cX0_insert 76 = .ok (.iload_n 3, 1) := by decide +kernel
theorem dX0_insert_77 : decode cX0_insert 77 = .ok (.iload_n 2, 1) := by decide +kernel
theorem dX0_insert_78 : decode cX0_insert 78 = .ok (.iastore, 1) := by decide +kernel
theorem dX0_insert_79 : decode cX0_insert 79 = .ok (.aload_n 0, 1) := by decide +kernel
theorem dX0_insert_80 : decode cX0_insert 80 = .ok (.dup, 1) := by decide +kernel
theorem dX0_insert_81 : decode cX0_insert 81 = .ok (.getfield 18, 3) := by decide +kernel
theorem dX0_insert_84 : decode cX0_insert 84 = .ok (.iconst 1, 1) := by decide +kernel
theorem dX0_insert_85 : decode cX0_insert 85 = .ok (.iadd, 1) := by decide +kernel
theorem dX0_insert_86 : decode cX0_insert 86 = .ok (.putfield 18, 3) := by decide +kernel
theorem dX0_insert_89 : decode cX0_insert 89 = .ok (.return_, 1) := by decide +kernel
theorem dX0_tooSoon_0 : decode cX0_tooSoon 0 = .ok (.iconst 0, 1) := by decide +kernel
theorem dX0_tooSoon_1 : decode cX0_tooSoon 1 = .ok (.istore_n 2, 1) := by decide +kernel
theorem dX0_tooSoon_2 : decode cX0_tooSoon 2 = .ok (.iconst 1, 1) := by decide +kernel
theorem dX0_tooSoon_3 : decode cX0_tooSoon 3 = .ok (.istore_n 3, 1) := by decide +kernel
theorem dX0_tooSoon_4 : decode cX0_tooSoon 4 = .ok (.iload_n 3, 1) := by decide +kernel
theorem dX0_tooSoon_5 : decode cX0_tooSoon 5 = .ok (.aload_n 0, 1) := by decide +kernel
theorem dX0_tooSoon_6 : decode cX0_tooSoon 6 = .ok (.getfield 18, 3) := by decide +kernel
theorem dX0_tooSoon_9 : decode cX0_tooSoon 9 = .ok (.if_icmp .ge 62, 3) := by decide +kernel
theorem dX0_tooSoon_12 : decode cX0_tooSoon 12 = .ok (.aload_n 1, 1) := by decide +kernel
theorem dX0_tooSoon_13 : decode cX0_tooSoon 13 = .ok (.getfield 22, 3) := by decide +kernel
theorem dX0_tooSoon_16 : decode cX0_tooSoon 16 = .ok (.aload_n 0, 1) := by decide +kernel
theorem dX0_tooSoon_17 : decode cX0_tooSoon 17 = .ok (.getfield 9, 3) := by decide +kernel
theorem dX0_tooSoon_20 : decode cX0_tooSoon 20 = .ok (.iload_n 3, 1) := by decide +kernel
theorem dX0_tooSoon_21 : decode cX0_tooSoon 21 = .ok (.iaload, 1) := by decide +kernel
theorem dX0_tooSoon_22 : decode cX0_tooSoon 22 = .ok (.iaload, 1) := by decide +kernel
theorem dX0_tooSoon_23 : decode cX0_tooSoon 23 = .ok (.aload_n 1, 1) := by decide +kernel
theorem dX0_tooSoon_24 : decode cX0_tooSoon 24 = .ok (.getfield 22, 3) := by decide +kernel
theorem dX0_tooSoon_27 : decode cX0_tooSoon 27 = .ok (.aload_n 0, 1) := by decide +kernel
theorem dX0_tooSoon_28 : decode cX0_tooSoon 28 = .ok (.getfield 9, 3) := by decide +kernel
theorem dX0_tooSoon_31 : decode cX0_tooSoon 31 = .ok (.iload_n 3, 1) := by decide +kernel
theorem dX0_tooSoon_32 : decode cX0_tooSoon 32 = .ok (.iconst 1, 1) := by decide +kernel
theorem dX0_tooSoon_33 : decode cX0_tooSoon 33 = .ok (.isub, 1) := by decide +kernel
theorem dX0_tooSoon_34 : decode cX0_tooSoon 34 = .ok (.iaload, 1) := by decide +kernel
theorem dX0_tooSoon_35 : decode cX0_tooSoon 35 = .ok (.iaload, 1) := by decide +kernel
theorem dX0_tooSoon_36 : decode cX0_tooSoon 36 = .ok (.isub, 1) := by decide +kernel
theorem dX0_tooSoon_37 : decode cX0_tooSoon 37 = .ok (.invokestatic 27, 3) := by decide +kernel
theorem dX0_tooSoon_40 : decode cX0_tooSoon 40 = .ok (.istore 4, 2) := by decide +kernel
theorem dX0_tooSoon_42 : decode cX0_tooSoon 42 = .ok (.iload 4, 2) := by decide +kernel
theorem dX0_tooSoon_44 : decode cX0_tooSoon 44 = .ok (.aload_n 0, 1) := by decide +kernel
theorem dX0_tooSoon_45 : decode cX0_tooSoon 45 = .ok (.getfield 15, 3) := by decide +kernel
theorem dX0_tooSoon_48 : decode cX0_tooSoon 48 = .ok (.iload_n 3, 1) := by decide +kernel
theorem dX0_tooSoon_49 : decode cX0_tooSoon 49 = .ok (.iaload, 1) := by decide +kernel
theorem dX0_tooSoon_50 : decode cX0_tooSoon 50 = .ok (.aload_n 0, 1) := by decide +kernel
theorem dX0_tooSoon_51 : decode cX0_tooSoon 51 = .ok (.getfield 15, 3) := by decide +kernel
theorem dX0_tooSoon_54 : decode cX0_tooSoon 54 = .ok (.iload_n 3, 1) := by decide +kernel
theorem dX0_tooSoon_55 : decode cX0_tooSoon 55 = .ok (.iconst 1, 1) := by decide +kernel
theorem dX0_tooSoon_56 : decode cX0_tooSoon 56 = .ok (.isub, 1) := by decide +kernel
theorem dX0_tooSoon_57 : decode cX0_tooSoon 57 = .ok (.iaload, 1) := by decide +kernel
theorem dX0_tooSoon_58 : decode cX0_tooSoon 58 = .ok (.isub, 1) := by decide +kernel
theorem dX0_tooSoon_59 : decode cX0_tooSoon 59 = .ok (.if_icmp .le 6, 3) := by decide +kernel
theorem dX0_tooSoon_62 : decode cX0_tooSoon 62 = .ok (.iinc 2 1, 3) := by decide +kernel
theorem dX0_tooSoon_65 : decode cX0_tooSoon 65 = .ok (.iinc 3 1, 3) := by decide +kernel
theorem dX0_tooSoon_68 : decode cX0_tooSoon 68 = .ok (.goto (-64), 3) := by decide +kernel
theorem dX0_tooSoon_71 : decode cX0_tooSoon 71 = .ok (.iload_n 2, 1) := by decide +kernel
theorem dX0_tooSoon_72 : decode cX0_tooSoon 72 = .ok (.ireturn, 1) := by decide +kernel
set_option maxRecDepth 20000 in
theorem ggX0_possibleHolders_X0_latestBy : GoodIn wsX0_possibleHolders wsX0_latestBy := goodIn_r _ [7, 8, 9, 39, 40, 41] (by decide +kernel) (by decide +kernel)
set_option maxRecDepth 20000 in
theorem gX0_possibleHolders_X0_latestBy : GoodIn wsX0_possibleHolders (wsV RX0 33 RX0 yX0_latestBy wsX0_latestBy) := goodIn_app (goodIn_of _ (by decide +kernel)) ggX0_possibleHolders_X0_latestBy
set_option maxRecDepth 20000 in
theorem ggX0_possibleHolders_X0_earliestFrom : GoodIn wsX0_possibleHolders wsX0_earliestFrom := goodIn_r _ [13, 8, 9, 39, 40, 41] (by decide +kernel) (by decide +kernel)
set_option maxRecDepth 20000 in
theorem gX0_possibleHolders_X0_earliestFrom : GoodIn wsX0_possibleHolders (wsV RX0 36 RX0 yX0_earliestFrom wsX0_earliestFrom) := goodIn_app (goodIn_of _ (by decide +kernel)) ggX0_possibleHolders_X0_earliestFrom
set_option maxRecDepth 20000 in
theorem ggX0_possibleHolders_X0_whoDid : GoodIn wsX0_possibleHolders wsX0_whoDid := goodIn_r _ [17, 18, 19, 29, 30, 31, 32, 33, 34, 35, 36, 37, 38, 39, 40, 41] (by decide +kernel) (by decide +kernel)
set_option maxRecDepth 20000 in
theorem gX0_possibleHolders_X0_whoDid : GoodIn wsX0_possibleHolders (wsV RX0 39 RX0 yX0_whoDid wsX0_whoDid) := goodIn_app (goodIn_of _ (by decide +kernel)) ggX0_possibleHolders_X0_whoDid
set_option maxRecDepth 20000 in
theorem ggX0_possibleHolders_X0_isNear : GoodIn wsX0_possibleHolders wsX0_isNear := goodIn_r _ [23, 24, 19, 25, 26, 27, 28, 9, 29, 30, 31, 32, 33, 34, 35, 36, 37, 38, 39, 40, 41] (by decide +kernel) (by decide +kernel)
set_option maxRecDepth 20000 in
theorem gX0_possibleHolders_X0_isNear : GoodIn wsX0_possibleHolders (wsV RX0 49 RX0 yX0_isNear wsX0_isNear) := goodIn_app (goodIn_of _ (by decide +kernel)) ggX0_possibleHolders_X0_isNear
theorem dX0_possibleHolders_0 : decode cX0_possibleHolders 0 = .ok (.aload_n 0, 1) := by decide +kernel
theorem dX0_possibleHolders_1 : decode cX0_possibleHolders 1 = .ok (.iload_n 2, 1) := by decide +kernel
theorem dX0_possibleHolders_2 : decode cX0_possibleHolders 2 = .ok (.invokevirtual 33, 3) := by decide +kernel
theorem dX0_possibleHolders_5 : decode cX0_possibleHolders 5 = .ok (.istore_n 3, 1) := by decide +kernel
theorem dX0_possibleHolders_6 : decode cX0_possibleHolders 6 = .ok (.aload_n 0, 1) := by decide +kernel
theorem dX0_possibleHolders_7 : decode cX0_possibleHolders 7 = .ok (.iload_n 2, 1) := by decide +kernel
theorem dX0_possibleHolders_8 : decode cX0_possibleHolders 8 = .ok (.invokevirtual 36, 3) := by decide +kernel
theorem dX0_possibleHolders_11 : decode cX0_possibleHolders 11 = .ok (.istore 4, 2) := by decide +kernel
theorem dX0_possibleHolders_13 : decode cX0_possibleHolders 13 = .ok (.aload_n 0, 1) := by decide +kernel
theorem dX0_possibleHolders_14 : decode cX0_possibleHolders 14 = .ok (.aload_n 1, 1) := by decide +kernel
theorem dX0_possibleHolders_15 : decode cX0_possibleHolders 15 = .ok (.iload_n 3, 1) := by decide +kernel
theorem dX0_possibleHolders_16 : decode cX0_possibleHolders 16 = .ok (.invokevirtual 39, 3) := by decide +kernel
theorem dX0_possibleHolders_19 : decode cX0_possibleHolders 19 = .ok (.aload_n 0, 1) := by decide +kernel
theorem dX0_possibleHolders_20 : decode cX0_possibleHolders 20 = .ok (.aload_n 1, 1) := by decide +kernel
theorem dX0_possibleHolders_21 : decode cX0_possibleHolders 21 = .ok (.iload 4, 2) := by decide +kernel
theorem dX0_possibleHolders_23 : decode cX0_possibleHolders 23 = .ok (.invokevirtual 39, 3) := by decide +kernel
theorem dX0_possibleHolders_26 : decode cX0_possibleHolders 26 = .ok (.ior, 1) := by decide +kernel
theorem dX0_possibleHolders_27 : decode cX0_possibleHolders 27 = .ok (.istore 5, 2) := by decide +kernel
theorem dX0_possibleHolders_29 : decode cX0_possibleHolders 29 = .ok (.iconst 0, 1) := by decide +kernel
theorem dX0_possibleHolders_30 : decode cX0_possibleHolders 30 = .ok (.istore 6, 2) := by decide +kernel
theorem dX0_possibleHolders_32 : decode cX0_possibleHolders 32 = .ok (.iload 6, 2) := by decide +kernel
theorem dX0_possibleHolders_34 : decode cX0_possibleHolders 34 = .ok (.aload_n 1, 1) := by decide +kernel
theorem dX0_possibleHolders_35 : decode cX0_possibleHolders 35 = .ok (.getfield 43, 3) := by decide +kernel
theorem dX0_possibleHolders_38 : decode cX0_possibleHolders 38 = .ok (.if_icmp .ge 52, 3) := by decide +kernel
theorem dX0_possibleHolders_41 : decode cX0_possibleHolders 41 = .ok (.aload_n 1, 1) := by decide +kernel
theorem dX0_possibleHolders_42 : decode cX0_possibleHolders 42 = .ok (.getfield 46, 3) := by decide +kernel
theorem dX0_possibleHolders_45 : decode cX0_possibleHolders 45 = .ok (.iload 6, 2) := by decide +kernel
theorem dX0_possibleHolders_47 : decode cX0_possibleHolders 47 = .ok (.iaload, 1) := by decide +kernel
theorem dX0_possibleHolders_48 : decode cX0_possibleHolders 48 = .ok (.istore 7, 2) := by decide +kernel
theorem dX0_possibleHolders_50 : decode cX0_possibleHolders 50 = .ok (.aload_n 0, 1) := by decide +kernel
theorem dX0_possibleHolders_51 : decode cX0_possibleHolders 51 = .ok (.aload_n 1, 1) := by decide +kernel
theorem dX0_possibleHolders_52 : decode cX0_possibleHolders 52 = .ok (.iload_n 3, 1) := by decide +kernel
theorem dX0_possibleHolders_53 : decode cX0_possibleHolders 53 = .ok (.iload 7, 2) := by decide +kernel
theorem dX0_possibleHolders_55 : decode cX0_possibleHolders 55 = .ok (.iload_n 2, 1) := by decide +kernel
theorem dX0_possibleHolders_56 : decode cX0_possibleHolders 56 = .ok (.invokevirtual 49, 3) := by decide +kernel
theorem dX0_possibleHolders_59 : decode cX0_possibleHolders 59 = .ok (.ifCond .eq 25, 3) := by decide +kernel
theorem dX0_possibleHolders_62 : decode cX0_possibleHolders 62 = .ok (.aload_n 0, 1) := by decide +kernel
theorem dX0_possibleHolders_63 : decode cX0_possibleHolders 63 = .ok (.aload_n 1, 1) := by decide +kernel
theorem dX0_possibleHolders_64 : decode cX0_possibleHolders 64 = .ok (.iload 4, 2) := by decide +kernel
theorem dX0_possibleHolders_66 : decode cX0_possibleHolders 66 = .ok (.iload 7, 2) := by decide +kernel
theorem dX0_possibleHolders_68 : decode cX0_possibleHolders 68 = .ok (.iload_n 2, 1) := by decide +kernel
theorem dX0_possibleHolders_69 : decode cX0_possibleHolders 69 = .ok (.invokevirtual 49, 3) := by decide +kernel
theorem dX0_possibleHolders_72 : decode cX0_possibleHolders 72 = .ok (.ifCond .eq 12, 3) := by decide +kernel
theorem dX0_possibleHolders_75 : decode cX0_possibleHolders 75 = .ok (.iload 5, 2) := by decide +kernel
theorem dX0_possibleHolders_77 : decode cX0_possibleHolders 77 = .ok (.iconst 1, 1) := by decide +kernel
theorem dX0_possibleHolders_78 : decode cX0_possibleHolders 78 = .ok (.iload 6, 2) := by decide +kernel
theorem dX0_possibleHolders_80 : decode cX0_possibleHolders 80 = .ok (.ishl, 1) := by decide +kernel
theorem dX0_possibleHolders_81 : decode cX0_possibleHolders 81 = .ok (.ior, 1) := by decide +kernel
end
section
theorem dX0_possibleHolders_82 : decode cX0_possibleHolders 82 = .ok (.istore 5, 2) := by decide +kernel
theorem dX0_possibleHolders_84 : decode cX0_possibleHolders 84 = .ok (.iinc 6 1, 3) := by decide +kernel
theorem dX0_possibleHolders_87 : decode cX0_possibleHolders 87 = .ok (.goto (-55), 3) := by decide +kernel
theorem dX0_possibleHolders_90 : decode cX0_possibleHolders 90 = .ok (.iload 5, 2) := by decide +kernel
theorem dX0_possibleHolders_92 : decode cX0_possibleHolders 92 = .ok (.ireturn, 1) := by decide +kernel
theorem dX0_latestBy_0 : decode cX0_latestBy 0 = .ok (.bipush (-9), 2) := by decide +kernel
theorem dX0_latestBy_2 : decode cX0_latestBy 2 = .ok (.istore_n 2, 1) := by decide +kernel
theorem dX0_latestBy_3 : decode cX0_latestBy 3 = .ok (.iconst 0, 1) := by decide +kernel
theorem dX0_latestBy_4 : decode cX0_latestBy 4 = .ok (.istore_n 3, 1) := by decide +kernel
theorem dX0_latestBy_5 : decode cX0_latestBy 5 = .ok (.iload_n 3, 1) := by decide +kernel
theorem dX0_latestBy_6 : decode cX0_latestBy 6 = .ok (.aload_n 0, 1) := by decide +kernel
theorem dX0_latestBy_7 : decode cX0_latestBy 7 = .ok (.getfield 18, 3) := by decide +kernel
theorem dX0_latestBy_10 : decode cX0_latestBy 10 = .ok (.if_icmp .ge 21, 3) := by decide +kernel
theorem dX0_latestBy_13 : decode cX0_latestBy 13 = .ok (.aload_n 0, 1) := by decide +kernel
theorem dX0_latestBy_14 : decode cX0_latestBy 14 = .ok (.getfield 15, 3) := by decide +kernel
theorem dX0_latestBy_17 : decode cX0_latestBy 17 = .ok (.iload_n 3, 1) := by decide +kernel
theorem dX0_latestBy_18 : decode cX0_latestBy 18 = .ok (.iaload, 1) := by decide +kernel
theorem dX0_latestBy_19 : decode cX0_latestBy 19 = .ok (.iload_n 1, 1) := by decide +kernel
theorem dX0_latestBy_20 : decode cX0_latestBy 20 = .ok (.if_icmp .gt 11, 3) := by decide +kernel
theorem dX0_latestBy_23 : decode cX0_latestBy 23 = .ok (.iload_n 3, 1) := by decide +kernel
theorem dX0_latestBy_24 : decode cX0_latestBy 24 = .ok (.istore_n 2, 1) := by decide +kernel
theorem dX0_latestBy_25 : decode cX0_latestBy 25 = .ok (.iinc 3 1, 3) := by decide +kernel
theorem dX0_latestBy_28 : decode cX0_latestBy 28 = .ok (.goto (-23), 3) := by decide +kernel
theorem dX0_latestBy_31 : decode cX0_latestBy 31 = .ok (.iload_n 2, 1) := by decide +kernel
theorem dX0_latestBy_32 : decode cX0_latestBy 32 = .ok (.ireturn, 1) := by decide +kernel
theorem dX0_earliestFrom_0 : decode cX0_earliestFrom 0 = .ok (.bipush (-9), 2) := by decide +kernel
theorem dX0_earliestFrom_2 : decode cX0_earliestFrom 2 = .ok (.istore_n 2, 1) := by decide +kernel
theorem dX0_earliestFrom_3 : decode cX0_earliestFrom 3 = .ok (.aload_n 0, 1) := by decide +kernel
theorem dX0_earliestFrom_4 : decode cX0_earliestFrom 4 = .ok (.getfield 18, 3) := by decide +kernel
theorem dX0_earliestFrom_7 : decode cX0_earliestFrom 7 = .ok (.iconst 1, 1) := by decide +kernel
theorem dX0_earliestFrom_8 : decode cX0_earliestFrom 8 = .ok (.isub, 1) := by decide +kernel
theorem dX0_earliestFrom_9 : decode cX0_earliestFrom 9 = .ok (.istore_n 3, 1) := by decide +kernel
theorem dX0_earliestFrom_10 : decode cX0_earliestFrom 10 = .ok (.iload_n 3, 1) := by decide +kernel
theorem dX0_earliestFrom_11 : decode cX0_earliestFrom 11 = .ok (.ifCond .lt 21, 3) := by decide +kernel
theorem dX0_earliestFrom_14 : decode cX0_earliestFrom 14 = .ok (.aload_n 0, 1) := by decide +kernel
theorem dX0_earliestFrom_15 : decode cX0_earliestFrom 15 = .ok (.getfield 15, 3) := by decide +kernel
theorem dX0_earliestFrom_18 : decode cX0_earliestFrom 18 = .ok (.iload_n 3, 1) := by decide +kernel
theorem dX0_earliestFrom_19 : decode cX0_earliestFrom 19 = .ok (.iaload, 1) := by decide +kernel
theorem dX0_earliestFrom_20 : decode cX0_earliestFrom 20 = .ok (.iload_n 1, 1) := by decide +kernel
theorem dX0_earliestFrom_21 : decode cX0_earliestFrom 21 = .ok (.if_icmp .lt 11, 3) := by decide +kernel
theorem dX0_earliestFrom_24 : decode cX0_earliestFrom 24 = .ok (.iload_n 3, 1) := by decide +kernel
theorem dX0_earliestFrom_25 : decode cX0_earliestFrom 25 = .ok (.istore_n 2, 1) := by decide +kernel
theorem dX0_earliestFrom_26 : decode cX0_earliestFrom 26 = .ok (.iinc 3 (-1), 3) := by decide +kernel
theorem dX0_earliestFrom_29 : decode cX0_earliestFrom 29 = .ok (.goto (-19), 3) := by decide +kernel
theorem dX0_earliestFrom_32 : decode cX0_earliestFrom 32 = .ok (.iload_n 2, 1) := by decide +kernel
theorem dX0_earliestFrom_33 : decode cX0_earliestFrom 33 = .ok (.ireturn, 1) := by decide +kernel
theorem dX0_whoDid_0 : decode cX0_whoDid 0 = .ok (.iload_n 2, 1) := by decide +kernel
theorem dX0_whoDid_1 : decode cX0_whoDid 1 = .ok (.ifCond .ge 7, 3) := by decide +kernel
theorem dX0_whoDid_4 : decode cX0_whoDid 4 = .ok (.iconst 0, 1) := by decide +kernel
theorem dX0_whoDid_5 : decode cX0_whoDid 5 = .ok (.goto 16, 3) := by decide +kernel
theorem dX0_whoDid_8 : decode cX0_whoDid 8 = .ok (.iconst 1, 1) := by decide +kernel
theorem dX0_whoDid_9 : decode cX0_whoDid 9 = .ok (.aload_n 1, 1) := by decide +kernel
theorem dX0_whoDid_10 : decode cX0_whoDid 10 = .ok (.getfield 53, 3) := by decide +kernel
theorem dX0_whoDid_13 : decode cX0_whoDid 13 = .ok (.aload_n 0, 1) := by decide +kernel
theorem dX0_whoDid_14 : decode cX0_whoDid 14 = .ok (.getfield 9, 3) := by decide +kernel
theorem dX0_whoDid_17 : decode cX0_whoDid 17 = .ok (.iload_n 2, 1) := by decide +kernel
theorem dX0_whoDid_18 : decode cX0_whoDid 18 = .ok (.iaload, 1) := by decide +kernel
theorem dX0_whoDid_19 : decode cX0_whoDid 19 = .ok (.iaload, 1) := by decide +kernel
theorem dX0_whoDid_20 : decode cX0_whoDid 20 = .ok (.ishl, 1) := by decide +kernel
theorem dX0_whoDid_21 : decode cX0_whoDid 21 = .ok (.ireturn, 1) := by decide +kernel
theorem dX0_isNear_0 : decode cX0_isNear 0 = .ok (.iload_n 2, 1) := by decide +kernel
theorem dX0_isNear_1 : decode cX0_isNear 1 = .ok (.ifCond .lt 34, 3) := by decide +kernel
theorem dX0_isNear_4 : decode cX0_isNear 4 = .ok (.aload_n 1, 1) := by decide +kernel
theorem dX0_isNear_5 : decode cX0_isNear 5 = .ok (.getfield 22, 3) := by decide +kernel
theorem dX0_isNear_8 : decode cX0_isNear 8 = .ok (.aload_n 0, 1) := by decide +kernel
theorem dX0_isNear_9 : decode cX0_isNear 9 = .ok (.getfield 9, 3) := by decide +kernel
theorem dX0_isNear_12 : decode cX0_isNear 12 = .ok (.iload_n 2, 1) := by decide +kernel
theorem dX0_isNear_13 : decode cX0_isNear 13 = .ok (.iaload, 1) := by decide +kernel
theorem dX0_isNear_14 : decode cX0_isNear 14 = .ok (.iaload, 1) := by decide +kernel
theorem dX0_isNear_15 : decode cX0_isNear 15 = .ok (.iload_n 3, 1) := by decide +kernel
theorem dX0_isNear_16 : decode cX0_isNear 16 = .ok (.isub, 1) := by decide +kernel
theorem dX0_isNear_17 : decode cX0_isNear 17 = .ok (.invokestatic 27, 3) := by decide +kernel
theorem dX0_isNear_20 : decode cX0_isNear 20 = .ok (.aload_n 0, 1) := by decide +kernel
theorem dX0_isNear_21 : decode cX0_isNear 21 = .ok (.getfield 15, 3) := by decide +kernel
theorem dX0_isNear_24 : decode cX0_isNear 24 = .ok (.iload_n 2, 1) := by decide +kernel
theorem dX0_isNear_25 : decode cX0_isNear 25 = .ok (.iaload, 1) := by decide +kernel
theorem dX0_isNear_26 : decode cX0_isNear 26 = .ok (.iload 4, 2) := by decide +kernel
theorem dX0_isNear_28 : decode cX0_isNear 28 = .ok (.isub, 1) := by decide +kernel
theorem dX0_isNear_29 : decode cX0_isNear 29 = .ok (.invokestatic 27, 3) := by decide +kernel
theorem dX0_isNear_32 : decode cX0_isNear 32 = .ok (.if_icmp .gt 7, 3) := by decide +kernel
theorem dX0_isNear_35 : decode cX0_isNear 35 = .ok (.iconst 1, 1) := by decide +kernel
theorem dX0_isNear_36 : decode cX0_isNear 36 = .ok (.goto 4, 3) := by decide +kernel
theorem dX0_isNear_39 : decode cX0_isNear 39 = .ok (.iconst 0, 1) := by decide +kernel
theorem dX0_isNear_40 : decode cX0_isNear 40 = .ok (.ireturn, 1) := by decide +kernel
set_option maxRecDepth 20000 in
theorem ggX1_init_X2_init : GoodIn wsX1_init wsX2_init := goodIn_r _ [10, 11, 2, 3, 12, 13, 14, 15, 16, 17, 18, 19, 20, 21, 22, 23, 24] (by decide +kernel) (by decide +kernel)
set_option maxRecDepth 20000 in
theorem gX1_init_X2_init_n11 : GoodIn wsX1_init (wsX2_init) := ggX1_init_X2_init
theorem dX1_init_0 : decode cX1_init 0 = .ok (.aload_n 0, 1) := by decide +kernel
theorem dX1_init_1 : decode cX1_init 1 = .ok (.invokespecial 3, 3) := by decide +kernel
theorem dX1_init_4 : decode cX1_init 4 = .ok (.aload_n 0, 1) := by decide +kernel
theorem dX1_init_5 : decode cX1_init 5 = .ok (.new 9, 3) := by decide +kernel
theorem dX1_init_8 : decode cX1_init 8 = .ok (.dup, 1) := by decide +kernel
theorem dX1_init_9 : decode cX1_init 9 = .ok (.invokespecial 11, 3) := by decide +kernel
theorem dX1_init_12 : decode cX1_init 12 = .ok (.putfield 12, 3) := by decide +kernel
theorem dX1_init_15 : decode cX1_init 15 = .ok (.aload_n 0, 1) := by decide +kernel
theorem dX1_init_16 : decode cX1_init 16 = .ok (.bipush 10, 2) := by decide +kernel
theorem dX1_init_18 : decode cX1_init 18 = .ok (.anewarray 9, 3) := by decide +kernel
theorem dX1_init_21 : decode cX1_init 21 = .ok (.putfield 18, 3) := by decide +kernel
theorem dX1_init_24 : decode cX1_init 24 = .ok (.iconst 0, 1) := by decide +kernel
theorem dX1_init_25 : decode cX1_init 25 = .ok (.istore_n 1, 1) := by decide +kernel
theorem dX1_init_26 : decode cX1_init 26 = .ok (.iload_n 1, 1) := by decide +kernel
theorem dX1_init_27 : decode cX1_init 27 = .ok (.bipush 10, 2) := by decide +kernel
theorem dX1_init_29 : decode cX1_init 29 = .ok (.if_icmp .ge 22, 3) := by decide +kernel
theorem dX1_init_32 : decode cX1_init 32 = .ok (.aload_n 0, 1) := by decide +kernel
theorem dX1_init_33 : decode cX1_init 33 = .ok (.getfield 18, 3) := by decide +kernel
theorem dX1_init_36 : decode cX1_init 36 = .ok (.iload_n 1, 1) := by decide +kernel
theorem dX1_init_37 : decode cX1_init 37 = .ok (.new 9, 3) := by decide +kernel
theorem dX1_init_40 : decode cX1_init 40 = .ok (.dup, 1) := by decide +kernel
theorem dX1_init_41 : decode cX1_init 41 = .ok (.invokespecial 11, 3) := by decide +kernel
theorem dX1_init_44 : decode cX1_init 44 = .ok (.aastore, 1) := by decide +kernel
theorem dX1_init_45 : decode cX1_init 45 = .ok (.iinc 1 1, 3) := by decide +kernel
theorem dX1_init_48 : decode cX1_init 48 = .ok (.goto (-22), 3) := by decide +kernel
theorem dX1_init_51 : decode cX1_init 51 = .ok (.return_, 1) := by decide +kernel
set_option maxRecDepth 20000 in
theorem ggX1_begin_X2_begin : GoodIn wsX1_begin wsX2_begin := goodIn_r _ [7, 8, 9, 10, 11, 12, 13, 14, 15, 16, 20, 21, 22, 23, 24, 25, 26, 27, 28, 29, 30, 31, 32, 33, 34, 35, 36, 37] (by decide +kernel) (by decide +kernel)
set_option maxRecDepth 20000 in
theorem gX1_begin_X2_begin : GoodIn wsX1_begin (wsV RX1 22 RX2 yX2_begin wsX2_begin) := goodIn_app (goodIn_of _ (by decide +kernel)) ggX1_begin_X2_begin
theorem dX1_begin_0 : decode cX1_begin 0 = .ok (.aload_n 0, 1) := by decide +kernel
theorem dX1_begin_1 : decode cX1_begin 1 = .ok (.getfield 12, 3) := by decide +kernel
theorem dX1_begin_4 : decode cX1_begin 4 = .ok (.aload_n 1, 1) := by decide +kernel
theorem dX1_begin_5 : decode cX1_begin 5 = .ok (.invokevirtual 22, 3) := by decide +kernel
theorem dX1_begin_8 : decode cX1_begin 8 = .ok (.aload_n 0, 1) := by decide +kernel
theorem dX1_begin_9 : decode cX1_begin 9 = .ok (.iconst 0, 1) := by decide +kernel
theorem dX1_begin_10 : decode cX1_begin 10 = .ok (.putfield 26, 3) := by decide +kernel
theorem dX1_begin_13 : decode cX1_begin 13 = .ok (.return_, 1) := by decide +kernel
set_option maxRecDepth 20000 in
theorem ggX1_rememberStep_X1_loseOldest : GoodIn wsX1_rememberStep wsX1_loseOldest := goodIn_r _ [8, 2, 1, 26, 27, 28] (by decide +kernel) (by decide +kernel)
set_option maxRecDepth 20000 in
theorem gX1_rememberStep_X1_loseOldest : GoodIn wsX1_rememberStep (wsV RX1 30 RX1 yX1_loseOldest wsX1_loseOldest) := goodIn_app (goodIn_of _ (by decide +kernel)) ggX1_rememberStep_X1_loseOldest
set_option maxRecDepth 20000 in
theorem ggX1_rememberStep_X2_copyFrom : GoodIn wsX1_rememberStep wsX2_copyFrom := goodIn_r _ [13, 14, 15, 16, 17, 18, 19, 20, 21, 22, 23, 24, 25, 29, 30, 31, 32, 33, 34, 35, 36] (by decide +kernel) (by decide +kernel)
set_option maxRecDepth 20000 in
theorem gX1_rememberStep_X2_copyFrom : GoodIn wsX1_rememberStep (wsV RX1 33 RX2 yX2_copyFrom wsX2_copyFrom) := goodIn_app (goodIn_of _ (by decide +kernel)) ggX1_rememberStep_X2_copyFrom
theorem dX1_rememberStep_0 : decode cX1_rememberStep 0 = .ok (.aload_n 0, 1) := by decide +kernel
theorem dX1_rememberStep_1 : decode cX1_rememberStep 1 = .ok (.getfield 26, 3) := by decide +kernel
theorem dX1_rememberStep_4 : decode cX1_rememberStep 4 = .ok (.bipush 10, 2) := by decide +kernel
theorem dX1_rememberStep_6 : decode cX1_rememberStep 6 = .ok (.if_icmp .lt 7, 3) := by decide +kernel
theorem dX1_rememberStep_9 : decode cX1_rememberStep 9 = .ok (.aload_n 0, 1) := by decide +kernel
theorem dX1_rememberStep_10 : decode cX1_rememberStep 10 = .ok (.invokevirtual 30, 3) := by decide +kernel
theorem dX1_rememberStep_13 : decode cX1_rememberStep 13 = .ok (.aload_n 0, 1) := by decide +kernel
theorem dX1_rememberStep_14 : decode cX1_rememberStep 14 = .ok (.getfield 18, 3) := by decide +kernel
theorem dX1_rememberStep_17 : decode cX1_rememberStep 17 = .ok (.aload_n 0, 1) := by decide +kernel
theorem dX1_rememberStep_18 : decode cX1_rememberStep 18 = .ok (.getfield 26, 3) := by decide +kernel
theorem dX1_rememberStep_21 : decode cX1_rememberStep 21 = .ok (.aaload, 1) := by decide +kernel
theorem dX1_rememberStep_22 : decode cX1_rememberStep 22 = .ok (.aload_n 0, 1) := by decide +kernel
theorem dX1_rememberStep_23 : decode cX1_rememberStep 23 = .ok (.getfield 12, 3) := by decide +kernel
theorem dX1_rememberStep_26 : decode cX1_rememberStep 26 = .ok (.invokevirtual 33, 3) := by decide +kernel
theorem dX1_rememberStep_29 : decode cX1_rememberStep 29 = .ok (.aload_n 0, 1) := by decide +kernel
theorem dX1_rememberStep_30 : decode cX1_rememberStep 30 = .ok (.dup, 1) := by decide +kernel
theorem dX1_rememberStep_31 : decode cX1_rememberStep 31 = .ok (.getfield 26, 3) := by decide +kernel
theorem dX1_rememberStep_34 : decode cX1_rememberStep 34 = .ok (.iconst 1, 1) := by decide +kernel
theorem dX1_rememberStep_35 : decode cX1_rememberStep 35 = .ok (.iadd, 1) := by decide +kernel
theorem dX1_rememberStep_36 : decode cX1_rememberStep 36 = .ok (.putfield 26, 3) := by decide +kernel
theorem dX1_rememberStep_39 : decode cX1_rememberStep 39 = .ok (.return_, 1) := by decide +kernel
theorem dX1_loseOldest_0 : decode cX1_loseOldest 0 = .ok (.aload_n 0, 1) := by decide +kernel
theorem dX1_loseOldest_1 : decode cX1_loseOldest 1 = .ok (.getfield 18, 3) := by decide +kernel
theorem dX1_loseOldest_4 : decode cX1_loseOldest 4 = .ok (.iconst 0, 1) := by decide +kernel
theorem dX1_loseOldest_5 : decode cX1_loseOldest 5 = .ok (.aaload, 1) := by decide +kernel
theorem dX1_loseOldest_6 : decode cX1_loseOldest 6 = .ok (.astore_n 1, 1) := by decide +kernel
theorem dX1_loseOldest_7 : decode cX1_loseOldest 7 = .ok (.iconst 1, 1) := by decide +kernel
theorem dX1_loseOldest_8 : decode cX1_loseOldest 8 = .ok (.istore_n 2, 1) := by decide +kernel
theorem dX1_loseOldest_9 : decode cX1_loseOldest 9 = .ok (.iload_n 2, 1) := by decide +kernel
theorem dX1_loseOldest_10 : decode cX1_loseOldest 10 = .ok (.bipush 10, 2) := by decide +kernel
theorem dX1_loseOldest_12 : decode cX1_loseOldest 12 = .ok (.if_icmp .ge 23, 3) := by decide +kernel
theorem dX1_loseOldest_15 : decode cX1_loseOldest 15 = .ok (.aload_n 0, 1) := by decide +kernel
theorem dX1_loseOldest_16 : decode cX1_loseOldest 16 = .ok (.getfield 18, 3) := by decide +kernel
theorem dX1_loseOldest_19 : decode cX1_loseOldest 19 = .ok (.iload_n 2, 1) := by decide +kernel
theorem dX1_loseOldest_20 : decode cX1_loseOldest 20 = .ok (.iconst 1, 1) := by decide +kernel
theorem dX1_loseOldest_21 : decode cX1_loseOldest 21 = .ok (.isub, 1) := by decide +kernel
theorem dX1_loseOldest_22 : decode cX1_loseOldest 22 = .ok (.aload_n 0, 1) := by decide +kernel
theorem dX1_loseOldest_23 : decode cX1_loseOldest 23 = .ok (.getfield 18, 3) := by decide +kernel
theorem dX1_loseOldest_26 : decode cX1_loseOldest 26 = .ok (.iload_n 2, 1) := by decide +kernel
theorem dX1_loseOldest_27 : decode cX1_loseOldest 27 = .ok (.aaload, 1) := by decide +kernel
theorem dX1_loseOldest_28 : decode cX1_loseOldest 28 = .ok (.aastore, 1) := by decide +kernel
theorem dX1_loseOldest_29 : decode cX1_loseOldest 29 = .ok (.iinc 2 1, 3) := by decide +kernel
theorem dX1_loseOldest_32 : decode cX1_loseOldest 32 = .ok (.goto (-23), 3) := by decide +kernel
theorem dX1_loseOldest_35 : decode cX1_loseOldest 35 = .ok (.aload_n 0, 1) := by decide +kernel
theorem dX1_loseOldest_36 : decode cX1_loseOldest 36 = .ok (.getfield 18, 3) := by decide +kernel
theorem dX1_loseOldest_39 : decode cX1_loseOldest 39 = .ok (.bipush 9, 2) := by decide +kernel
theorem dX1_loseOldest_41 : decode cX1_loseOldest 41 = .ok (.aload_n 1, 1) := by decide +kernel
theorem dX1_loseOldest_42 : decode cX1_loseOldest 42 = .ok (.aastore, 1) := by decide +kernel
theorem dX1_loseOldest_43 : decode cX1_loseOldest 43 = .ok (.aload_n 0, 1) := by decide +kernel
theorem dX1_loseOldest_44 : decode cX1_loseOldest 44 = .ok (.bipush 9, 2) := by decide +kernel
theorem dX1_loseOldest_46 : decode cX1_loseOldest 46 = .ok (.putfield 26, 3) := by decide +kernel
theorem dX1_loseOldest_49 : decode cX1_loseOldest 49 = .ok (.return_, 1) := by decide +kernel
set_option maxRecDepth 20000 in
theorem ggX1_undoStep_X2_copyFrom : GoodIn wsX1_undoStep wsX2_copyFrom := goodIn_r _ [8, 9, 10, 11, 12, 13, 14, 15, 16, 17, 18, 19, 20, 24, 25, 26, 27, 28, 29, 30, 31] (by decide +kernel) (by decide +kernel)
set_option maxRecDepth 20000 in
theorem gX1_undoStep_X2_copyFrom : GoodIn wsX1_undoStep (wsV RX1 33 RX2 yX2_copyFrom wsX2_copyFrom) := goodIn_app (goodIn_of _ (by decide +kernel)) ggX1_undoStep_X2_copyFrom
theorem dX1_undoStep_0 : decode cX1_undoStep 0 = .ok (.aload_n 0, 1) := by decide +kernel
theorem dX1_undoStep_1 : decode cX1_undoStep 1 = .ok (.getfield 26, 3) := by decide +kernel
theorem dX1_undoStep_4 : decode cX1_undoStep 4 = .ok (.ifCond .le 29, 3) := by decide +kernel
theorem dX1_undoStep_7 : decode cX1_undoStep 7 = .ok (.aload_n 0, 1) := by decide +kernel
theorem dX1_undoStep_8 : decode cX1_undoStep 8 = .ok (.dup, 1) := by decide +kernel
theorem dX1_undoStep_9 : decode cX1_undoStep 9 = .ok (.getfield 26, 3) := by decide +kernel
theorem dX1_undoStep_12 : decode cX1_undoStep 12 = .ok (.iconst 1, 1) := by decide +kernel
theorem dX1_undoStep_13 : decode cX1_undoStep 13 = .ok (.isub, 1) := by decide +kernel
theorem dX1_undoStep_14 : decode cX1_undoStep 14 = .ok (.putfield 26, 3) := by decide +kernel
theorem dX1_undoStep_17 : decode cX1_undoStep 17 = .ok (.aload_n 0, 1) := by decide +kernel
theorem dX1_undoStep_18 : decode cX1_undoStep 18 = .ok (.getfield 12, 3) := by decide +kernel
theorem dX1_undoStep_21 : decode cX1_undoStep 21 = .ok (.aload_n 0, 1) := by decide +kernel
theorem dX1_undoStep_22 : decode cX1_undoStep 22 = .ok (.getfield 18, 3) := by decide +kernel
theorem dX1_undoStep_25 : decode cX1_undoStep 25 = .ok (.aload_n 0, 1) := by decide +kernel
theorem dX1_undoStep_26 : decode cX1_undoStep 26 = .ok (.getfield 26, 3) := by decide +kernel
theorem dX1_undoStep_29 : decode cX1_undoStep 29 = .ok (.aaload, 1) := by decide +kernel
theorem dX1_undoStep_30 : decode cX1_undoStep 30 = .ok (.invokevirtual 33, 3) := by decide +kernel
theorem dX1_undoStep_33 : decode cX1_undoStep 33 = .ok (.return_, 1) := by decide +kernel
set_option maxRecDepth 20000 in
theorem ggX1_copyFrom_X2_copyFrom : GoodIn wsX1_copyFrom wsX2_copyFrom := goodIn_r _ [8, 9, 10, 11, 12, 13, 14, 15, 16, 17, 18, 19, 20, 24, 25, 26, 27, 28, 29, 30, 31] (by decide +kernel) (by decide +kernel)
set_option maxRecDepth 20000 in
theorem gX1_copyFrom_X2_copyFrom : GoodIn wsX1_copyFrom (wsV RX1 33 RX2 yX2_copyFrom wsX2_copyFrom) := goodIn_app (goodIn_of _ (by decide +kernel)) ggX1_copyFrom_X2_copyFrom
theorem dX1_copyFrom_0 : decode cX1_copyFrom 0 = .ok (.aload_n 0, 1) := by decide +kernel
theorem dX1_copyFrom_1 : decode cX1_copyFrom 1 = .ok (.getfield 12, 3) := by decide +kernel
theorem dX1_copyFrom_4 : decode cX1_copyFrom 4 = .ok (.aload_n 1, 1) := by decide +kernel
theorem dX1_copyFrom_5 : decode cX1_copyFrom 5 = .ok (.getfield 12, 3) := by decide +kernel
theorem dX1_copyFrom_8 : decode cX1_copyFrom 8 = .ok (.invokevirtual 33, 3) := by decide +kernel
theorem dX1_copyFrom_11 : decode cX1_copyFrom 11 = .ok (.aload_n 0, 1) := by decide +kernel
theorem dX1_copyFrom_12 : decode cX1_copyFrom 12 = .ok (.aload_n 1, 1) := by decide +kernel
theorem dX1_copyFrom_13 : decode cX1_copyFrom 13 = .ok (.getfield 26, 3) := by decide +kernel
theorem dX1_copyFrom_16 : decode cX1_copyFrom 16 = .ok (.putfield 26, 3) := by decide +kernel
theorem dX1_copyFrom_19 : decode cX1_copyFrom 19 = .ok (.iconst 0, 1) := by decide +kernel
theorem dX1_copyFrom_20 : decode cX1_copyFrom 20 = .ok (.istore_n 2, 1) := by decide +kernel
theorem dX1_copyFrom_21 : decode cX1_copyFrom 21 = .ok (.iload_n 2, 1) := by decide +kernel
theorem dX1_copyFrom_22 : decode cX1_copyFrom 22 = .ok (.aload_n 0, 1) := by decide +kernel
theorem dX1_copyFrom_23 : decode cX1_copyFrom 23 = .ok (.getfield 26, 3) := by decide +kernel
theorem dX1_copyFrom_26 : decode cX1_copyFrom 26 = .ok (.if_icmp .ge 24, 3) := by decide +kernel
theorem dX1_copyFrom_29 : decode cX1_copyFrom 29 = .ok (.aload_n 0, 1) := by decide +kernel
theorem dX1_copyFrom_30 : decode cX1_copyFrom 30 = .ok (.getfield 18, 3) := by decide +kernel
theorem dX1_copyFrom_33 : decode cX1_copyFrom 33 = .ok (.iload_n 2, 1) := by decide +kernel
theorem dX1_copyFrom_34 : decode cX1_copyFrom 34 = .ok (.aaload, 1) := by decide +kernel
theorem dX1_copyFrom_35 : decode cX1_copyFrom 35 = .ok (.aload_n 1, 1) := by decide +kernel
theorem dX1_copyFrom_36 : decode cX1_copyFrom 36 = .ok (.getfield 18, 3) := by decide +kernel
theorem dX1_copyFrom_39 : decode cX1_copyFrom 39 = .ok (.iload_n 2, 1) := by decide +kernel
theorem dX1_copyFrom_40 : decode cX1_copyFrom 40 = .ok (.aaload, 1) := by decide +kernel
theorem dX1_copyFrom_41 : decode cX1_copyFrom 41 = .ok (.invokevirtual 33, 3) := by decide +kernel
theorem dX1_copyFrom_44 : decode cX1_copyFrom 44 = .ok (.iinc 2 1, 3) := by decide +kernel
theorem dX1_copyFrom_47 : decode cX1_copyFrom 47 = .ok (.goto (-26), 3) := by decide +kernel
theorem dX1_copyFrom_50 : decode cX1_copyFrom 50 = .ok (.return_, 1) := by decide +kernel
theorem dX2_init_0 : decode cX2_init 0 = .ok (.aload_n 0, 1) := by decide +kernel
theorem dX2_init_1 : decode cX2_init 1 = .ok (.invokespecial 3, 3) := by decide +kernel
theorem dX2_init_4 : decode cX2_init 4 = .ok (.aload_n 0, 1) := by decide +kernel
theorem dX2_init_5 : decode cX2_init 5 = .ok (.bipush (-9), 2) := by decide +kernel
theorem dX2_init_7 : decode cX2_init 7 = .ok (.putfield 9, 3) := by decide +kernel
theorem dX2_init_10 : decode cX2_init 10 = .ok (.aload_n 0, 1) := by decide +kernel
theorem dX2_init_11 : decode cX2_init 11 = .ok (.bipush 6, 2) := by decide +kernel
theorem dX2_init_13 : decode cX2_init 13 = .ok (.newarray .int, 2) := by decide +kernel
theorem dX2_init_15 : decode cX2_init 15 = .ok (.putfield 15, 3) := by decide +kernel
theorem dX2_init_18 : decode cX2_init 18 = .ok (.aload_n 0, 1) := by decide +kernel
theorem dX2_init_19 : decode cX2_init 19 = .ok (.bipush 6, 2) := by decide +kernel
theorem dX2_init_21 : decode cX2_init 21 = .ok (.newarray .int, 2) := by decide +kernel
theorem dX2_init_23 : decode cX2_init 23 = .ok (.putfield 19, 3) := by decide +kernel
theorem dX2_init_26 : decode cX2_init 26 = .ok (.aload_n 0, 1) := by decide +kernel
theorem dX2_init_27 : decode cX2_init 27 = .ok (.bipush 6, 2) := by decide +kernel
theorem dX2_init_29 : decode cX2_init 29 = .ok (.newarray .int, 2) := by decide +kernel
theorem dX2_init_31 : decode cX2_init 31 = .ok (.putfield 22, 3) := by decide +kernel
theorem dX2_init_34 : decode cX2_init 34 = .ok (.return_, 1) := by decide +kernel
theorem dX2_begin_0 : decode cX2_begin 0 = .ok (.aload_n 0, 1) := by decide +kernel
theorem dX2_begin_1 : decode cX2_begin 1 = .ok (.iconst 0, 1) := by decide +kernel
theorem dX2_begin_2 : decode cX2_begin 2 = .ok (.putfield 25, 3) := by decide +kernel
theorem dX2_begin_5 : decode cX2_begin 5 = .ok (.aload_n 0, 1) := by decide +kernel
theorem dX2_begin_6 : decode cX2_begin 6 = .ok (.bipush (-9), 2) := by decide +kernel
theorem dX2_begin_8 : decode cX2_begin 8 = .ok (.putfield 9, 3) := by decide +kernel
theorem dX2_begin_11 : decode cX2_begin 11 = .ok (.aload_n 0, 1) := by decide +kernel
theorem dX2_begin_12 : decode cX2_begin 12 = .ok (.iconst 0, 1) := by decide +kernel
theorem dX2_begin_13 : decode cX2_begin 13 = .ok (.putfield 28, 3) := by decide +kernel
theorem dX2_begin_16 : decode cX2_begin 16 = .ok (.aload_n 0, 1) := by decide +kernel
theorem dX2_begin_17 : decode cX2_begin 17 = .ok (.iconst 0, 1) := by decide +kernel
theorem dX2_begin_18 : decode cX2_begin 18 = .ok (.putfield 31, 3) := by decide +kernel
theorem dX2_begin_21 : decode cX2_begin 21 = .ok (.aload_n 0, 1) := by decide +kernel
theorem dX2_begin_22 : decode cX2_begin 22 = .ok (.iconst 0, 1) := by decide +kernel
theorem dX2_begin_23 : decode cX2_begin 23 = .ok (.putfield 35, 3) := by decide +kernel
theorem dX2_begin_26 : decode cX2_begin 26 = .ok (.iconst 0, 1) := by decide +kernel
theorem dX2_begin_27 : decode cX2_begin 27 = .ok (.istore_n 2, 1) := by decide +kernel
theorem dX2_begin_28 : decode cX2_begin 28 = .ok (.iload_n 2, 1) := by decide +kernel
theorem dX2_begin_29 : decode cX2_begin 29 = .ok (.bipush 6, 2) := by decide +kernel
theorem dX2_begin_31 : decode cX2_begin 31 = .ok (.if_icmp .ge 35, 3) := by decide +kernel
theorem dX2_begin_34 : decode cX2_begin 34 = .ok (.aload_n 0, 1) := by decide +kernel
theorem dX2_begin_35 : decode cX2_begin 35 = .ok (.getfield 15, 3) := by decide +kernel
theorem dX2_begin_38 : decode cX2_begin 38 = .ok (.iload_n 2, 1) := by decide +kernel
theorem dX2_begin_39 : decode cX2_begin 39 = .ok (.aload_n 1, 1) := by decide +kernel
theorem dX2_begin_40 : decode cX2_begin 40 = .ok (.getfield 38, 3) := by decide +kernel
theorem dX2_begin_43 : decode cX2_begin 43 = .ok (.iload_n 2, 1) := by decide +kernel
theorem dX2_begin_44 : decode cX2_begin 44 = .ok (.iaload, 1) := by decide +kernel
theorem dX2_begin_45 : decode cX2_begin 45 = .ok (.iastore, 1) := by decide +kernel
theorem dX2_begin_46 : decode cX2_begin 46 = .ok (.aload_n 0, 1) := by decide +kernel
theorem dX2_begin_47 : decode cX2_begin 47 = .ok (.getfield 19, 3) := by decide +kernel
theorem dX2_begin_50 : decode cX2_begin 50 = .ok (.iload_n 2, 1) := by decide +kernel
theorem dX2_begin_51 : decode cX2_begin 51 = .ok (.iconst 0, 1) := by decide +kernel
theorem dX2_begin_52 : decode cX2_begin 52 = .ok (.iastore, 1) := by decide +kernel
theorem dX2_begin_53 : decode cX2_begin 53 = .ok (.aload_n 0, 1) := by decide +kernel
theorem dX2_begin_54 : decode cX2_begin 54 = .ok (.getfield 22, 3) := by decide +kernel
theorem dX2_begin_57 : decode cX2_begin 57 = .ok (.iload_n 2, 1) := by decide +kernel
theorem dX2_begin_58 : decode cX2_begin 58 = .ok (.iconst 0, 1) := by decide +kernel
theorem dX2_begin_59 : decode cX2_begin 59 = .ok (.iastore, 1) := by decide +kernel
theorem dX2_begin_60 : decode cX2_begin 60 = .ok (.iinc 2 1, 3) := by decide +kernel
theorem dX2_begin_63 : decode cX2_begin 63 = .ok (.goto (-35), 3) := by decide +kernel
theorem dX2_begin_66 : decode cX2_begin 66 = .ok (.return_, 1) := by decide +kernel
theorem dX2_copyFrom_0 : decode cX2_copyFrom 0 = .ok (.aload_n 0, 1) := by decide +kernel
theorem dX2_copyFrom_1 : decode cX2_copyFrom 1 = .ok (.aload_n 1, 1) := by decide +kernel
theorem dX2_copyFrom_2 : decode cX2_copyFrom 2 = .ok (.getfield 25, 3) := by decide +kernel
theorem dX2_copyFrom_5 : decode cX2_copyFrom 5 = .ok (.putfield 25, 3) := by decide +kernel
theorem dX2_copyFrom_8 : decode cX2_copyFrom 8 = .ok (.aload_n 0, 1) := by decide +kernel
theorem dX2_copyFrom_9 : decode cX2_copyFrom 9 = .ok (.aload_n 1, 1) := by decide +kernel
theorem dX2_copyFrom_10 : decode cX2_copyFrom 10 = .ok (.getfield 9, 3) := by decide +kernel
theorem dX2_copyFrom_13 : decode cX2_copyFrom 13 = .ok (.putfield 9, 3) := by decide +kernel
theorem dX2_copyFrom_16 : decode cX2_copyFrom 16 = .ok (.aload_n 0, 1) := by decide +kernel
theorem dX2_copyFrom_17 : decode cX2_copyFrom 17 = .ok (.aload_n 1, 1) := by decide +kernel
theorem dX2_copyFrom_18 : decode cX2_copyFrom 18 = .ok (.getfield 28, 3) := by decide +kernel
theorem dX2_copyFrom_21 : decode cX2_copyFrom 21 = .ok (.putfield 28, 3) := by decide +kernel
theorem dX2_copyFrom_24 : decode cX2_copyFrom 24 = .ok (.aload_n 0, 1) := by decide +kernel
theorem dX2_copyFrom_25 : decode cX2_copyFrom 25 = .ok (.aload_n 1, 1) := by decide +kernel
theorem dX2_copyFrom_26 : decode cX2_copyFrom 26 = .ok (.getfield 31, 3) := by decide +kernel
theorem dX2_copyFrom_29 : decode cX2_copyFrom 29 = .ok (.putfield 31, 3) := by decide +kernel
theorem dX2_copyFrom_32 : decode cX2_copyFrom 32 = .ok (.aload_n 0, 1) := by decide +kernel
theorem dX2_copyFrom_33 : decode cX2_copyFrom 33 = .ok (.aload_n 1, 1) := by decide +kernel
theorem dX2_copyFrom_34 : decode cX2_copyFrom 34 = .ok (.getfield 35, 3) := by decide +kernel
theorem dX2_copyFrom_37 : decode cX2_copyFrom 37 = .ok (.putfield 35, 3) := by decide +kernel
theorem dX2_copyFrom_40 : decode cX2_copyFrom 40 = .ok (.aload_n 1, 1) := by decide +kernel
theorem dX2_copyFrom_41 : decode cX2_copyFrom 41 = .ok (.getfield 15, 3) := by decide +kernel
theorem dX2_copyFrom_44 : decode cX2_copyFrom 44 = .ok (.iconst 0, 1) := by decide +kernel
theorem dX2_copyFrom_45 : decode cX2_copyFrom 45 = .ok (.aload_n 0, 1) := by decide +kernel
theorem dX2_copyFrom_46 : decode cX2_copyFrom 46 = .ok (.getfield 15, 3) := by decide +kernel
theorem dX2_copyFrom_49 : decode cX2_copyFrom 49 = .ok (.iconst 0, 1) := by decide +kernel
theorem dX2_copyFrom_50 : decode cX2_copyFrom 50 = .ok (.bipush 6, 2) := by decide +kernel
theorem dX2_copyFrom_52 : decode cX2_copyFrom 52 = .ok (.invokestatic 43, 3) := by decide +kernel
theorem dX2_copyFrom_55 : decode cX2_copyFrom 55 = .ok (.aload_n 1, 1) := by decide +kernel
theorem dX2_copyFrom_56 : decode cX2_copyFrom 56 = .ok (.getfield 19, 3) := by decide +kernel
theorem dX2_copyFrom_59 : decode cX2_copyFrom 59 = .ok (.iconst 0, 1) := by decide +kernel
theorem dX2_copyFrom_60 : decode cX2_copyFrom 60 = .ok (.aload_n 0, 1) := by decide +kernel
theorem dX2_copyFrom_61 : decode cX2_copyFrom 61 = .ok (.getfield 19, 3) := by decide +kernel
theorem dX2_copyFrom_64 : decode cX2_copyFrom 64 = .ok (.iconst 0, 1) := by decide +kernel
theorem dX2_copyFrom_65 : decode cX2_copyFrom 65 = .ok (.bipush 6, 2) := by decide +kernel
theorem dX2_copyFrom_67 : decode cX2_copyFrom 67 = .ok (.invokestatic 43, 3) := by decide +kernel
theorem dX2_copyFrom_70 : decode cX2_copyFrom 70 = .ok (.aload_n 1, 1) := by decide +kernel
theorem dX2_copyFrom_71 : decode cX2_copyFrom 71 = .ok (.getfield 22, 3) := by decide +kernel
theorem dX2_copyFrom_74 : decode cX2_copyFrom 74 = .ok (.iconst 0, 1) := by decide +kernel
theorem dX2_copyFrom_75 : decode cX2_copyFrom 75 = .ok (.aload_n 0, 1) := by decide +kernel
theorem dX2_copyFrom_76 : decode cX2_copyFrom 76 = .ok (.getfield 22, 3) := by decide +kernel
theorem dX2_copyFrom_79 : decode cX2_copyFrom 79 = .ok (.iconst 0, 1) := by decide +kernel
theorem dX2_copyFrom_80 : decode cX2_copyFrom 80 = .ok (.bipush 6, 2) := by decide +kernel
theorem dX2_copyFrom_82 : decode cX2_copyFrom 82 = .ok (.invokestatic 43, 3) := by decide +kernel
theorem dX2_copyFrom_85 : decode cX2_copyFrom 85 = .ok (.return_, 1) := by decide +kernel
theorem dX2_isHeld_0 : decode cX2_isHeld 0 = .ok (.aload_n 0, 1) := by decide +kernel
theorem dX2_isHeld_1 : decode cX2_isHeld 1 = .ok (.getfield 9, 3) := by decide +kernel
theorem dX2_isHeld_4 : decode cX2_isHeld 4 = .ok (.ifCond .lt 7, 3) := by decide +kernel
theorem dX2_isHeld_7 : decode cX2_isHeld 7 = .ok (.iconst 1, 1) := by decide +kernel
theorem dX2_isHeld_8 : decode cX2_isHeld 8 = .ok (.goto 4, 3) := by decide +kernel
theorem dX2_isHeld_11 : decode cX2_isHeld 11 = .ok (.iconst 0, 1) := by decide +kernel
theorem dX2_isHeld_12 : decode cX2_isHeld 12 = .ok (.ireturn, 1) := by decide +kernel
theorem dX2_isDone_0 : decode cX2_isDone 0 = .ok (.aload_n 0, 1) := by decide +kernel
theorem dX2_isDone_1 : decode cX2_isDone 1 = .ok (.getfield 35, 3) := by decide +kernel
theorem dX2_isDone_4 : decode cX2_isDone 4 = .ok (.iload_n 1, 1) := by decide +kernel
theorem dX2_isDone_5 : decode cX2_isDone 5 = .ok (.ishr, 1) := by decide +kernel
theorem dX2_isDone_6 : decode cX2_isDone 6 = .ok (.iconst 1, 1) := by decide +kernel
theorem dX2_isDone_7 : decode cX2_isDone 7 = .ok (.iand, 1) := by decide +kernel
theorem dX2_isDone_8 : decode cX2_isDone 8 = .ok (.iconst 1, 1) := by decide +kernel
theorem dX2_isDone_9 : decode cX2_isDone 9 = .ok (.if_icmp .ne 7, 3) := by decide +kernel
theorem dX2_isDone_12 : decode cX2_isDone 12 = .ok (.iconst 1, 1) := by decide +kernel
theorem dX2_isDone_13 : decode cX2_isDone 13 = .ok (.goto 4, 3) := by decide +kernel
theorem dX2_isDone_16 : decode cX2_isDone 16 = .ok (.iconst 0, 1) := by decide +kernel
theorem dX2_isDone_17 : decode cX2_isDone 17 = .ok (.ireturn, 1) := by decide +kernel
set_option maxRecDepth 20000 in
theorem ggX2_spoonPlace_X2_isHeld : GoodIn wsX2_spoonPlace wsX2_isHeld := goodIn_r _ [8, 2, 9, 10, 11, 12, 13, 14, 15, 16] (by decide +kernel) (by decide +kernel)
set_option maxRecDepth 20000 in
theorem gX2_spoonPlace_X2_isHeld : GoodIn wsX2_spoonPlace (wsV RX2 49 RX2 yX2_isHeld wsX2_isHeld) := goodIn_app (goodIn_of _ (by decide +kernel)) ggX2_spoonPlace_X2_isHeld
theorem dX2_spoonPlace_0 : decode cX2_spoonPlace 0 = .ok (.aload_n 0, 1) := by decide +kernel
theorem dX2_spoonPlace_1 : decode cX2_spoonPlace 1 = .ok (.invokevirtual 49, 3) := by decide +kernel
theorem dX2_spoonPlace_4 : decode cX2_spoonPlace 4 = .ok (.ifCond .eq 15, 3) := by decide +kernel
theorem dX2_spoonPlace_7 : decode cX2_spoonPlace 7 = .ok (.aload_n 0, 1) := by decide +kernel
theorem dX2_spoonPlace_8 : decode cX2_spoonPlace 8 = .ok (.getfield 15, 3) := by decide +kernel
theorem dX2_spoonPlace_11 : decode cX2_spoonPlace 11 = .ok (.aload_n 0, 1) := by decide +kernel
theorem dX2_spoonPlace_12 : decode cX2_spoonPlace 12 = .ok (.getfield 9, 3) := by decide +kernel
theorem dX2_spoonPlace_15 : decode cX2_spoonPlace 15 = .ok (.iaload, 1) := by decide +kernel
theorem dX2_spoonPlace_16 : decode cX2_spoonPlace 16 = .ok (.goto 7, 3) := by decide +kernel
theorem dX2_spoonPlace_19 : decode cX2_spoonPlace 19 = .ok (.aload_n 1, 1) := by decide +kernel
theorem dX2_spoonPlace_20 : decode cX2_spoonPlace 20 = .ok (.getfield 53, 3) := by decide +kernel
theorem dX2_spoonPlace_23 : decode cX2_spoonPlace 23 = .ok (.ireturn, 1) := by decide +kernel
theorem dX2_careOf_0 : decode cX2_careOf 0 = .ok (.iload_n 1, 1) := by decide +kernel
theorem dX2_careOf_1 : decode cX2_careOf 1 = .ok (.aload_n 0, 1) := by decide +kernel
theorem dX2_careOf_2 : decode cX2_careOf 2 = .ok (.getfield 9, 3) := by decide +kernel
theorem dX2_careOf_5 : decode cX2_careOf 5 = .ok (.if_icmp .ne 7, 3) := by decide +kernel
theorem dX2_careOf_8 : decode cX2_careOf 8 = .ok (.iconst 0, 1) := by decide +kernel
theorem dX2_careOf_9 : decode cX2_careOf 9 = .ok (.goto 14, 3) := by decide +kernel
theorem dX2_careOf_12 : decode cX2_careOf 12 = .ok (.aload_n 0, 1) := by decide +kernel
theorem dX2_careOf_13 : decode cX2_careOf 13 = .ok (.getfield 25, 3) := by decide +kernel
theorem dX2_careOf_16 : decode cX2_careOf 16 = .ok (.aload_n 0, 1) := by decide +kernel
theorem dX2_careOf_17 : decode cX2_careOf 17 = .ok (.getfield 19, 3) := by decide +kernel
theorem dX2_careOf_20 : decode cX2_careOf 20 = .ok (.iload_n 1, 1) := by decide +kernel
theorem dX2_careOf_21 : decode cX2_careOf 21 = .ok (.iaload, 1) := by decide +kernel
theorem dX2_careOf_22 : decode cX2_careOf 22 = .ok (.isub, 1) := by decide +kernel
theorem dX2_careOf_23 : decode cX2_careOf 23 = .ok (.ireturn, 1) := by decide +kernel
set_option maxRecDepth 20000 in
theorem ggX2_heldFor_X2_isHeld : GoodIn wsX2_heldFor wsX2_isHeld := goodIn_r _ [7, 8, 9, 10, 11, 12, 13, 14, 15, 16] (by decide +kernel) (by decide +kernel)
set_option maxRecDepth 20000 in
theorem gX2_heldFor_X2_isHeld : GoodIn wsX2_heldFor (wsV RX2 49 RX2 yX2_isHeld wsX2_isHeld) := goodIn_app (goodIn_of _ (by decide +kernel)) ggX2_heldFor_X2_isHeld
theorem dX2_heldFor_0 : decode cX2_heldFor 0 = .ok (.aload_n 0, 1) := by decide +kernel
theorem dX2_heldFor_1 : decode cX2_heldFor 1 = .ok (.invokevirtual 49, 3) := by decide +kernel
theorem dX2_heldFor_4 : decode cX2_heldFor 4 = .ok (.ifCond .eq 15, 3) := by decide +kernel
theorem dX2_heldFor_7 : decode cX2_heldFor 7 = .ok (.aload_n 0, 1) := by decide +kernel
theorem dX2_heldFor_8 : decode cX2_heldFor 8 = .ok (.getfield 25, 3) := by decide +kernel
theorem dX2_heldFor_11 : decode cX2_heldFor 11 = .ok (.aload_n 0, 1) := by decide +kernel
theorem dX2_heldFor_12 : decode cX2_heldFor 12 = .ok (.getfield 28, 3) := by decide +kernel
theorem dX2_heldFor_15 : decode cX2_heldFor 15 = .ok (.isub, 1) := by decide +kernel
theorem dX2_heldFor_16 : decode cX2_heldFor 16 = .ok (.goto 4, 3) := by decide +kernel
theorem dX2_heldFor_19 : decode cX2_heldFor 19 = .ok (.iconst 0, 1) := by decide +kernel
theorem dX2_heldFor_20 : decode cX2_heldFor 20 = .ok (.ireturn, 1) := by decide +kernel
set_option maxRecDepth 20000 in
theorem ggX2_giveAway_X2_heldFor : GoodIn wsX2_giveAway wsX2_heldFor := goodIn_r _ [17, 11, 18, 19, 20, 21, 16, 22, 1, 23, 24, 25, 26, 27, 28, 29, 30] (by decide +kernel) (by decide +kernel)
set_option maxRecDepth 20000 in
theorem gX2_giveAway_X2_heldFor : GoodIn wsX2_giveAway (wsV RX2 56 RX2 yX2_heldFor wsX2_heldFor) := goodIn_app (goodIn_of _ (by decide +kernel)) ggX2_giveAway_X2_heldFor
theorem dX2_giveAway_0 : decode cX2_giveAway 0 = .ok (.aload_n 0, 1) := by decide +kernel
theorem dX2_giveAway_1 : decode cX2_giveAway 1 = .ok (.getfield 9, 3) := by decide +kernel
theorem dX2_giveAway_4 : decode cX2_giveAway 4 = .ok (.istore_n 2, 1) := by decide +kernel
theorem dX2_giveAway_5 : decode cX2_giveAway 5 = .ok (.iload_n 2, 1) := by decide +kernel
theorem dX2_giveAway_6 : decode cX2_giveAway 6 = .ok (.ifCond .ge 5, 3) := by decide +kernel
theorem dX2_giveAway_9 : decode cX2_giveAway 9 = .ok (.iconst 0, 1) := by decide +kernel
theorem dX2_giveAway_10 : decode cX2_giveAway 10 = .ok (.ireturn, 1) := by decide +kernel
theorem dX2_giveAway_11 : decode cX2_giveAway 11 = .ok (.iconst 0, 1) := by decide +kernel
theorem dX2_giveAway_12 : decode cX2_giveAway 12 = .ok (.aload_n 0, 1) := by decide +kernel
theorem dX2_giveAway_13 : decode cX2_giveAway 13 = .ok (.invokevirtual 56, 3) := by decide +kernel
theorem dX2_giveAway_16 : decode cX2_giveAway 16 = .ok (.iload_n 1, 1) := by decide +kernel
theorem dX2_giveAway_17 : decode cX2_giveAway 17 = .ok (.isub, 1) := by decide +kernel
theorem dX2_giveAway_18 : decode cX2_giveAway 18 = .ok (.invokestatic 60, 3) := by decide +kernel
theorem dX2_giveAway_21 : decode cX2_giveAway 21 = .ok (.istore_n 3, 1) := by decide +kernel
theorem dX2_giveAway_22 : decode cX2_giveAway 22 = .ok (.aload_n 0, 1) := by decide +kernel
theorem dX2_giveAway_23 : decode cX2_giveAway 23 = .ok (.getfield 22, 3) := by decide +kernel
theorem dX2_giveAway_26 : decode cX2_giveAway 26 = .ok (.iload_n 2, 1) := by decide +kernel
theorem dX2_giveAway_27 : decode cX2_giveAway 27 = .ok (.sipush 999, 3) := by decide +kernel
theorem dX2_giveAway_30 : decode cX2_giveAway 30 = .ok (.aload_n 0, 1) := by decide +kernel
theorem dX2_giveAway_31 : decode cX2_giveAway 31 = .ok (.getfield 22, 3) := by decide +kernel
theorem dX2_giveAway_34 : decode cX2_giveAway 34 = .ok (.iload_n 2, 1) := by decide +kernel
theorem dX2_giveAway_35 : decode cX2_giveAway 35 = .ok (.iaload, 1) := by decide +kernel
theorem dX2_giveAway_36 : decode cX2_giveAway 36 = .ok (.iload_n 3, 1) := by decide +kernel
theorem dX2_giveAway_37 : decode cX2_giveAway 37 = .ok (.iadd, 1) := by decide +kernel
theorem dX2_giveAway_38 : decode cX2_giveAway 38 = .ok (.invokestatic 66, 3) := by decide +kernel
theorem dX2_giveAway_41 : decode cX2_giveAway 41 = .ok (.iastore, 1) := by decide +kernel
theorem dX2_giveAway_42 : decode cX2_giveAway 42 = .ok (.aload_n 0, 1) := by decide +kernel
theorem dX2_giveAway_43 : decode cX2_giveAway 43 = .ok (.getfield 19, 3) := by decide +kernel
theorem dX2_giveAway_46 : decode cX2_giveAway 46 = .ok (.iload_n 2, 1) := by decide +kernel
theorem dX2_giveAway_47 : decode cX2_giveAway 47 = .ok (.aload_n 0, 1) := by decide +kernel
theorem dX2_giveAway_48 : decode cX2_giveAway 48 = .ok (.getfield 25, 3) := by decide +kernel
theorem dX2_giveAway_51 : decode cX2_giveAway 51 = .ok (.iastore, 1) := by decide +kernel
theorem dX2_giveAway_52 : decode cX2_giveAway 52 = .ok (.aload_n 0, 1) := by decide +kernel
theorem dX2_giveAway_53 : decode cX2_giveAway 53 = .ok (.bipush (-9), 2) := by decide +kernel
theorem dX2_giveAway_55 : decode cX2_giveAway 55 = .ok (.putfield 9, 3) := by decide +kernel
theorem dX2_giveAway_58 : decode cX2_giveAway 58 = .ok (.aload_n 0, 1) := by decide +kernel
theorem dX2_giveAway_59 : decode cX2_giveAway 59 = .ok (.iconst 0, 1) := by decide +kernel
theorem dX2_giveAway_60 : decode cX2_giveAway 60 = .ok (.putfield 31, 3) := by decide +kernel
theorem dX2_giveAway_63 : decode cX2_giveAway 63 = .ok (.aload_n 0, 1) := by decide +kernel
theorem dX2_giveAway_64 : decode cX2_giveAway 64 = .ok (.getfield 22, 3) := by decide +kernel
theorem dX2_giveAway_67 : decode cX2_giveAway 67 = .ok (.iload_n 2, 1) := by decide +kernel
theorem dX2_giveAway_68 : decode cX2_giveAway 68 = .ok (.iaload, 1) := by decide +kernel
theorem dX2_giveAway_69 : decode cX2_giveAway 69 = .ok (.ireturn, 1) := by decide +kernel
theorem dX2_receive_0 : decode cX2_receive 0 = .ok (.aload_n 0, 1) := by decide +kernel
theorem dX2_receive_1 : decode cX2_receive 1 = .ok (.iload_n 1, 1) := by decide +kernel
theorem dX2_receive_2 : decode cX2_receive 2 = .ok (.putfield 9, 3) := by decide +kernel
theorem dX2_receive_5 : decode cX2_receive 5 = .ok (.aload_n 0, 1) := by decide +kernel
theorem dX2_receive_6 : decode cX2_receive 6 = .ok (.aload_n 0, 1) := by decide +kernel
theorem dX2_receive_7 : decode cX2_receive 7 = .ok (.getfield 25, 3) := by decide +kernel
theorem dX2_receive_10 : decode cX2_receive 10 = .ok (.putfield 28, 3) := by decide +kernel
theorem dX2_receive_13 : decode cX2_receive 13 = .ok (.aload_n 0, 1) := by decide +kernel
theorem dX2_receive_14 : decode cX2_receive 14 = .ok (.iconst 1, 1) := by decide +kernel
theorem dX2_receive_15 : decode cX2_receive 15 = .ok (.putfield 31, 3) := by decide +kernel
theorem dX2_receive_18 : decode cX2_receive 18 = .ok (.return_, 1) := by decide +kernel
set_option maxRecDepth 20000 in
theorem ggX2_walkTo_X2_isHeld : GoodIn wsX2_walkTo wsX2_isHeld := goodIn_r _ [8, 2, 9, 10, 11, 12, 13, 14, 15, 16] (by decide +kernel) (by decide +kernel)
set_option maxRecDepth 20000 in
theorem gX2_walkTo_X2_isHeld : GoodIn wsX2_walkTo (wsV RX2 49 RX2 yX2_isHeld wsX2_isHeld) := goodIn_app (goodIn_of _ (by decide +kernel)) ggX2_walkTo_X2_isHeld
theorem dX2_walkTo_0 : decode cX2_walkTo 0 = .ok (.aload_n 0, 1) := by decide +kernel
theorem dX2_walkTo_1 : decode cX2_walkTo 1 = .ok (.invokevirtual 49, 3) := by decide +kernel
theorem dX2_walkTo_4 : decode cX2_walkTo 4 = .ok (.ifCond .eq 23, 3) := by decide +kernel
theorem dX2_walkTo_7 : decode cX2_walkTo 7 = .ok (.aload_n 0, 1) := by decide +kernel
theorem dX2_walkTo_8 : decode cX2_walkTo 8 = .ok (.getfield 15, 3) := by decide +kernel
theorem dX2_walkTo_11 : decode cX2_walkTo 11 = .ok (.aload_n 0, 1) := by decide +kernel
theorem dX2_walkTo_12 : decode cX2_walkTo 12 = .ok (.getfield 9, 3) := by decide +kernel
theorem dX2_walkTo_15 : decode cX2_walkTo 15 = .ok (.iload_n 1, 1) := by decide +kernel
theorem dX2_walkTo_16 : decode cX2_walkTo 16 = .ok (.iastore, 1) := by decide +kernel
theorem dX2_walkTo_17 : decode cX2_walkTo 17 = .ok (.aload_n 0, 1) := by decide +kernel
theorem dX2_walkTo_18 : decode cX2_walkTo 18 = .ok (.dup, 1) := by decide +kernel
theorem dX2_walkTo_19 : decode cX2_walkTo 19 = .ok (.getfield 25, 3) := by decide +kernel
theorem dX2_walkTo_22 : decode cX2_walkTo 22 = .ok (.iload_n 2, 1) := by decide +kernel
theorem dX2_walkTo_23 : decode cX2_walkTo 23 = .ok (.iadd, 1) := by decide +kernel
theorem dX2_walkTo_24 : decode cX2_walkTo 24 = .ok (.putfield 25, 3) := by decide +kernel
theorem dX2_walkTo_27 : decode cX2_walkTo 27 = .ok (.return_, 1) := by decide +kernel
set_option maxRecDepth 20000 in
theorem ggX2_canDo_X2_isHeld : GoodIn wsX2_canDo wsX2_isHeld := goodIn_r _ [13, 3, 19, 20, 21, 22, 23, 24, 25, 26] (by decide +kernel) (by decide +kernel)
set_option maxRecDepth 20000 in
theorem gX2_canDo_X2_isHeld : GoodIn wsX2_canDo (wsV RX2 49 RX2 yX2_isHeld wsX2_isHeld) := goodIn_app (goodIn_of _ (by decide +kernel)) ggX2_canDo_X2_isHeld
set_option maxRecDepth 20000 in
theorem ggX2_canDo_X2_isDone : GoodIn wsX2_canDo wsX2_isDone := goodIn_r _ [17, 18, 19, 20, 21, 22, 23, 24, 25, 26] (by decide +kernel) (by decide +kernel)
set_option maxRecDepth 20000 in
theorem gX2_canDo_X2_isDone : GoodIn wsX2_canDo (wsV RX2 75 RX2 yX2_isDone wsX2_isDone) := goodIn_app (goodIn_of _ (by decide +kernel)) ggX2_canDo_X2_isDone
theorem dX2_canDo_0 : decode cX2_canDo 0 = .ok (.aload_n 0, 1) := by decide +kernel
theorem dX2_canDo_1 : decode cX2_canDo 1 = .ok (.invokevirtual 49, 3) := by decide +kernel
theorem dX2_canDo_4 : decode cX2_canDo 4 = .ok (.ifCond .eq 79, 3) := by decide +kernel
theorem dX2_canDo_7 : decode cX2_canDo 7 = .ok (.aload_n 0, 1) := by decide +kernel
theorem dX2_canDo_8 : decode cX2_canDo 8 = .ok (.getfield 31, 3) := by decide +kernel
theorem dX2_canDo_11 : decode cX2_canDo 11 = .ok (.ifCond .eq 72, 3) := by decide +kernel
theorem dX2_canDo_14 : decode cX2_canDo 14 = .ok (.aload_n 1, 1) := by decide +kernel
theorem dX2_canDo_15 : decode cX2_canDo 15 = .ok (.getfield 69, 3) := by decide +kernel
theorem dX2_canDo_18 : decode cX2_canDo 18 = .ok (.iload_n 2, 1) := by decide +kernel
theorem dX2_canDo_19 : decode cX2_canDo 19 = .ok (.iaload, 1) := by decide +kernel
theorem dX2_canDo_20 : decode cX2_canDo 20 = .ok (.aload_n 0, 1) := by decide +kernel
theorem dX2_canDo_21 : decode cX2_canDo 21 = .ok (.getfield 9, 3) := by decide +kernel
theorem dX2_canDo_24 : decode cX2_canDo 24 = .ok (.if_icmp .ne 59, 3) := by decide +kernel
theorem dX2_canDo_27 : decode cX2_canDo 27 = .ok (.aload_n 0, 1) := by decide +kernel
theorem dX2_canDo_28 : decode cX2_canDo 28 = .ok (.getfield 15, 3) := by decide +kernel
theorem dX2_canDo_31 : decode cX2_canDo 31 = .ok (.aload_n 0, 1) := by decide +kernel
theorem dX2_canDo_32 : decode cX2_canDo 32 = .ok (.getfield 9, 3) := by decide +kernel
theorem dX2_canDo_35 : decode cX2_canDo 35 = .ok (.iaload, 1) := by decide +kernel
theorem dX2_canDo_36 : decode cX2_canDo 36 = .ok (.aload_n 1, 1) := by decide +kernel
theorem dX2_canDo_37 : decode cX2_canDo 37 = .ok (.getfield 72, 3) := by decide +kernel
theorem dX2_canDo_40 : decode cX2_canDo 40 = .ok (.iload_n 2, 1) := by decide +kernel
theorem dX2_canDo_41 : decode cX2_canDo 41 = .ok (.iaload, 1) := by decide +kernel
theorem dX2_canDo_42 : decode cX2_canDo 42 = .ok (.if_icmp .ne 41, 3) := by decide +kernel
theorem dX2_canDo_45 : decode cX2_canDo 45 = .ok (.aload_n 0, 1) := by decide +kernel
theorem dX2_canDo_46 : decode cX2_canDo 46 = .ok (.iload_n 2, 1) := by decide +kernel
theorem dX2_canDo_47 : decode cX2_canDo 47 = .ok (.invokevirtual 75, 3) := by decide +kernel
theorem dX2_canDo_50 : decode cX2_canDo 50 = .ok (.ifCond .ne 33, 3) := by decide +kernel
theorem dX2_canDo_53 : decode cX2_canDo 53 = .ok (.aload_n 0, 1) := by decide +kernel
theorem dX2_canDo_54 : decode cX2_canDo 54 = .ok (.getfield 25, 3) := by decide +kernel
theorem dX2_canDo_57 : decode cX2_canDo 57 = .ok (.aload_n 1, 1) := by decide +kernel
theorem dX2_canDo_58 : decode cX2_canDo 58 = .ok (.getfield 79, 3) := by decide +kernel
theorem dX2_canDo_61 : decode cX2_canDo 61 = .ok (.iload_n 2, 1) := by decide +kernel
theorem dX2_canDo_62 : decode cX2_canDo 62 = .ok (.iaload, 1) := by decide +kernel
theorem dX2_canDo_63 : decode cX2_canDo 63 = .ok (.if_icmp .lt 20, 3) := by decide +kernel
theorem dX2_canDo_66 : decode cX2_canDo 66 = .ok (.aload_n 0, 1) := by decide +kernel
theorem dX2_canDo_67 : decode cX2_canDo 67 = .ok (.getfield 25, 3) := by decide +kernel
theorem dX2_canDo_70 : decode cX2_canDo 70 = .ok (.aload_n 1, 1) := by decide +kernel
theorem dX2_canDo_71 : decode cX2_canDo 71 = .ok (.getfield 82, 3) := by decide +kernel
theorem dX2_canDo_74 : decode cX2_canDo 74 = .ok (.iload_n 2, 1) := by decide +kernel
theorem dX2_canDo_75 : decode cX2_canDo 75 = .ok (.iaload, 1) := by decide +kernel
theorem dX2_canDo_76 : decode cX2_canDo 76 = .ok (.if_icmp .gt 7, 3) := by decide +kernel
theorem dX2_canDo_79 : decode cX2_canDo 79 = .ok (.iconst 1, 1) := by decide +kernel
theorem dX2_canDo_80 : decode cX2_canDo 80 = .ok (.goto 4, 3) := by decide +kernel
theorem dX2_canDo_83 : decode cX2_canDo 83 = .ok (.iconst 0, 1) := by decide +kernel
theorem dX2_canDo_84 : decode cX2_canDo 84 = .ok (.ireturn, 1) := by decide +kernel
set_option maxRecDepth 20000 in
theorem ggX2_worthDone_X2_isDone : GoodIn wsX2_worthDone wsX2_isDone := goodIn_r _ [7, 8, 19, 20, 21, 22, 23, 24, 25, 26] (by decide +kernel) (by decide +kernel)
set_option maxRecDepth 20000 in
theorem gX2_worthDone_X2_isDone : GoodIn wsX2_worthDone (wsV RX2 75 RX2 yX2_isDone wsX2_isDone) := goodIn_app (goodIn_of _ (by decide +kernel)) ggX2_worthDone_X2_isDone
theorem dX2_worthDone_0 : decode cX2_worthDone 0 = .ok (.iconst 0, 1) := by decide +kernel
theorem dX2_worthDone_1 : decode cX2_worthDone 1 = .ok (.istore_n 2, 1) := by decide +kernel
theorem dX2_worthDone_2 : decode cX2_worthDone 2 = .ok (.iconst 0, 1) := by decide +kernel
theorem dX2_worthDone_3 : decode cX2_worthDone 3 = .ok (.istore_n 3, 1) := by decide +kernel
theorem dX2_worthDone_4 : decode cX2_worthDone 4 = .ok (.iload_n 3, 1) := by decide +kernel
theorem dX2_worthDone_5 : decode cX2_worthDone 5 = .ok (.aload_n 1, 1) := by decide +kernel
theorem dX2_worthDone_6 : decode cX2_worthDone 6 = .ok (.getfield 85, 3) := by decide +kernel
theorem dX2_worthDone_9 : decode cX2_worthDone 9 = .ok (.if_icmp .ge 26, 3) := by decide +kernel
theorem dX2_worthDone_12 : decode cX2_worthDone 12 = .ok (.aload_n 0, 1) := by decide +kernel
theorem dX2_worthDone_13 : decode cX2_worthDone 13 = .ok (.iload_n 3, 1) := by decide +kernel
theorem dX2_worthDone_14 : decode cX2_worthDone 14 = .ok (.invokevirtual 75, 3) := by decide +kernel
theorem dX2_worthDone_17 : decode cX2_worthDone 17 = .ok (.ifCond .eq 12, 3) := by decide +kernel
theorem dX2_worthDone_20 : decode cX2_worthDone 20 = .ok (.iload_n 2, 1) := by decide +kernel
theorem dX2_worthDone_21 : decode cX2_worthDone 21 = .ok (.aload_n 1, 1) := by decide +kernel
theorem dX2_worthDone_22 : decode cX2_worthDone 22 = .ok (.getfield 88, 3) := by decide +kernel
theorem dX2_worthDone_25 : decode cX2_worthDone 25 = .ok (.iload_n 3, 1) := by decide +kernel
theorem dX2_worthDone_26 : decode cX2_worthDone 26 = .ok (.iaload, 1) := by decide +kernel
theorem dX2_worthDone_27 : decode cX2_worthDone 27 = .ok (.iadd, 1) := by decide +kernel
theorem dX2_worthDone_28 : decode cX2_worthDone 28 = .ok (.istore_n 2, 1) := by decide +kernel
theorem dX2_worthDone_29 : decode cX2_worthDone 29 = .ok (.iinc 3 1, 3) := by decide +kernel
theorem dX2_worthDone_32 : decode cX2_worthDone 32 = .ok (.goto (-28), 3) := by decide +kernel
theorem dX2_worthDone_35 : decode cX2_worthDone 35 = .ok (.iload_n 2, 1) := by decide +kernel
theorem dX2_worthDone_36 : decode cX2_worthDone 36 = .ok (.ireturn, 1) := by decide +kernel
theorem dX2_owedByAll_0 : decode cX2_owedByAll 0 = .ok (.iconst 0, 1) := by decide +kernel
theorem dX2_owedByAll_1 : decode cX2_owedByAll 1 = .ok (.istore_n 1, 1) := by decide +kernel
theorem dX2_owedByAll_2 : decode cX2_owedByAll 2 = .ok (.iconst 0, 1) := by decide +kernel
theorem dX2_owedByAll_3 : decode cX2_owedByAll 3 = .ok (.istore_n 2, 1) := by decide +kernel
theorem dX2_owedByAll_4 : decode cX2_owedByAll 4 = .ok (.iload_n 2, 1) := by decide +kernel
theorem dX2_owedByAll_5 : decode cX2_owedByAll 5 = .ok (.bipush 6, 2) := by decide +kernel
theorem dX2_owedByAll_7 : decode cX2_owedByAll 7 = .ok (.if_icmp .ge 18, 3) := by decide +kernel
theorem dX2_owedByAll_10 : decode cX2_owedByAll 10 = .ok (.iload_n 1, 1) := by decide +kernel
theorem dX2_owedByAll_11 : decode cX2_owedByAll 11 = .ok (.aload_n 0, 1) := by decide +kernel
theorem dX2_owedByAll_12 : decode cX2_owedByAll 12 = .ok (.getfield 22, 3) := by decide +kernel
theorem dX2_owedByAll_15 : decode cX2_owedByAll 15 = .ok (.iload_n 2, 1) := by decide +kernel
theorem dX2_owedByAll_16 : decode cX2_owedByAll 16 = .ok (.iaload, 1) := by decide +kernel
theorem dX2_owedByAll_17 : decode cX2_owedByAll 17 = .ok (.iadd, 1) := by decide +kernel
theorem dX2_owedByAll_18 : decode cX2_owedByAll 18 = .ok (.istore_n 1, 1) := by decide +kernel
theorem dX2_owedByAll_19 : decode cX2_owedByAll 19 = .ok (.iinc 2 1, 3) := by decide +kernel
theorem dX2_owedByAll_22 : decode cX2_owedByAll 22 = .ok (.goto (-18), 3) := by decide +kernel
theorem dX2_owedByAll_25 : decode cX2_owedByAll 25 = .ok (.iload_n 1, 1) := by decide +kernel
theorem dX2_owedByAll_26 : decode cX2_owedByAll 26 = .ok (.ireturn, 1) := by decide +kernel
theorem dX2_openDeeds_0 : decode cX2_openDeeds 0 = .ok (.iconst 1, 1) := by decide +kernel
theorem dX2_openDeeds_1 : decode cX2_openDeeds 1 = .ok (.aload_n 1, 1) := by decide +kernel
theorem dX2_openDeeds_2 : decode cX2_openDeeds 2 = .ok (.getfield 85, 3) := by decide +kernel
theorem dX2_openDeeds_5 : decode cX2_openDeeds 5 = .ok (.ishl, 1) := by decide +kernel
theorem dX2_openDeeds_6 : decode cX2_openDeeds 6 = .ok (.iconst 1, 1) := by decide +kernel
theorem dX2_openDeeds_7 : decode cX2_openDeeds 7 = .ok (.isub, 1) := by decide +kernel
theorem dX2_openDeeds_8 : decode cX2_openDeeds 8 = .ok (.aload_n 0, 1) := by decide +kernel
theorem dX2_openDeeds_9 : decode cX2_openDeeds 9 = .ok (.getfield 35, 3) := by decide +kernel
theorem dX2_openDeeds_12 : decode cX2_openDeeds 12 = .ok (.iconst (-1), 1) := by decide +kernel
theorem dX2_openDeeds_13 : decode cX2_openDeeds 13 = .ok (.ixor, 1) := by decide +kernel
theorem dX2_openDeeds_14 : decode cX2_openDeeds 14 = .ok (.iand, 1) := by decide +kernel
theorem dX2_openDeeds_15 : decode cX2_openDeeds 15 = .ok (.ireturn, 1) := by decide +kernel
theorem dX3_init_0 : decode cX3_init 0 = .ok (.aload_n 0, 1) := by decide +kernel
theorem dX3_init_1 : decode cX3_init 1 = .ok (.invokespecial 3, 3) := by decide +kernel
theorem dX3_init_4 : decode cX3_init 4 = .ok (.aload_n 0, 1) := by decide +kernel
theorem dX3_init_5 : decode cX3_init 5 = .ok (.bipush 9, 2) := by decide +kernel
theorem dX3_init_7 : decode cX3_init 7 = .ok (.newarray .int, 2) := by decide +kernel
theorem dX3_init_9 : decode cX3_init 9 = .ok (.putfield 9, 3) := by decide +kernel
theorem dX3_init_12 : decode cX3_init 12 = .ok (.return_, 1) := by decide +kernel
set_option maxRecDepth 20000 in
theorem ggX3_find_X3_countWays : GoodIn wsX3_find wsX3_countWays := goodIn_r _ [8, 2, 13, 14, 15] (by decide +kernel) (by decide +kernel)
set_option maxRecDepth 20000 in
theorem gX3_find_X3_countWays : GoodIn wsX3_find (wsV RX3 15 RX3 yX3_countWays wsX3_countWays) := goodIn_app (goodIn_of _ (by decide +kernel)) ggX3_find_X3_countWays
set_option maxRecDepth 20000 in
theorem ggX3_find_X3_takeOut : GoodIn wsX3_find wsX3_takeOut := goodIn_r _ [12, 1, 3, 13, 14, 15] (by decide +kernel) (by decide +kernel)
set_option maxRecDepth 20000 in
theorem gX3_find_X3_takeOut : GoodIn wsX3_find (wsV RX3 26 RX3 yX3_takeOut wsX3_takeOut) := goodIn_app (goodIn_of _ (by decide +kernel)) ggX3_find_X3_takeOut
theorem dX3_find_0 : decode cX3_find 0 = .ok (.aload_n 0, 1) := by decide +kernel
theorem dX3_find_1 : decode cX3_find 1 = .ok (.iload_n 1, 1) := by decide +kernel
theorem dX3_find_2 : decode cX3_find 2 = .ok (.iload_n 2, 1) := by decide +kernel
theorem dX3_find_3 : decode cX3_find 3 = .ok (.invokevirtual 15, 3) := by decide +kernel
theorem dX3_find_6 : decode cX3_find 6 = .ok (.aload_n 0, 1) := by decide +kernel
theorem dX3_find_7 : decode cX3_find 7 = .ok (.iconst 0, 1) := by decide +kernel
theorem dX3_find_8 : decode cX3_find 8 = .ok (.putfield 19, 3) := by decide +kernel
theorem dX3_find_11 : decode cX3_find 11 = .ok (.iconst 0, 1) := by decide +kernel
theorem dX3_find_12 : decode cX3_find 12 = .ok (.istore 4, 2) := by decide +kernel
theorem dX3_find_14 : decode cX3_find 14 = .ok (.iload 4, 2) := by decide +kernel
theorem dX3_find_16 : decode cX3_find 16 = .ok (.iload_n 3, 1) := by decide +kernel
theorem dX3_find_17 : decode cX3_find 17 = .ok (.if_icmp .gt 31, 3) := by decide +kernel
theorem dX3_find_20 : decode cX3_find 20 = .ok (.iload 4, 2) := by decide +kernel
theorem dX3_find_22 : decode cX3_find 22 = .ok (.iload_n 1, 1) := by decide +kernel
theorem dX3_find_23 : decode cX3_find 23 = .ok (.if_icmp .gt 25, 3) := by decide +kernel
theorem dX3_find_26 : decode cX3_find 26 = .ok (.aload_n 0, 1) := by decide +kernel
theorem dX3_find_27 : decode cX3_find 27 = .ok (.dup, 1) := by decide +kernel
theorem dX3_find_28 : decode cX3_find 28 = .ok (.getfield 19, 3) := by decide +kernel
theorem dX3_find_31 : decode cX3_find 31 = .ok (.aload_n 0, 1) := by decide +kernel
theorem dX3_find_32 : decode cX3_find 32 = .ok (.getfield 9, 3) := by decide +kernel
theorem dX3_find_35 : decode cX3_find 35 = .ok (.iload 4, 2) := by decide +kernel
theorem dX3_find_37 : decode cX3_find 37 = .ok (.iaload, 1) := by decide +kernel
theorem dX3_find_38 : decode cX3_find 38 = .ok (.iadd, 1) := by decide +kernel
theorem dX3_find_39 : decode cX3_find 39 = .ok (.putfield 19, 3) := by decide +kernel
theorem dX3_find_42 : decode cX3_find 42 = .ok (.iinc 4 1, 3) := by decide +kernel
theorem dX3_find_45 : decode cX3_find 45 = .ok (.goto (-31), 3) := by decide +kernel
theorem dX3_find_48 : decode cX3_find 48 = .ok (.aload_n 0, 1) := by decide +kernel
theorem dX3_find_49 : decode cX3_find 49 = .ok (.iconst 1, 1) := by decide +kernel
theorem dX3_find_50 : decode cX3_find 50 = .ok (.putfield 23, 3) := by decide +kernel
theorem dX3_find_53 : decode cX3_find 53 = .ok (.iconst 0, 1) := by decide +kernel
theorem dX3_find_54 : decode cX3_find 54 = .ok (.istore 4, 2) := by decide +kernel
theorem dX3_find_56 : decode cX3_find 56 = .ok (.iload 4, 2) := by decide +kernel
theorem dX3_find_58 : decode cX3_find 58 = .ok (.iload_n 1, 1) := by decide +kernel
theorem dX3_find_59 : decode cX3_find 59 = .ok (.if_icmp .ge 20, 3) := by decide +kernel
theorem dX3_find_62 : decode cX3_find 62 = .ok (.aload_n 0, 1) := by decide +kernel
theorem dX3_find_63 : decode cX3_find 63 = .ok (.dup, 1) := by decide +kernel
theorem dX3_find_64 : decode cX3_find 64 = .ok (.getfield 23, 3) := by decide +kernel
theorem dX3_find_67 : decode cX3_find 67 = .ok (.bipush 10, 2) := by decide +kernel
theorem dX3_find_69 : decode cX3_find 69 = .ok (.imul, 1) := by decide +kernel
theorem dX3_find_70 : decode cX3_find 70 = .ok (.putfield 23, 3) := by decide +kernel
theorem dX3_find_73 : decode cX3_find 73 = .ok (.iinc 4 1, 3) := by decide +kernel
theorem dX3_find_76 : decode cX3_find 76 = .ok (.goto (-20), 3) := by decide +kernel
theorem dX3_find_79 : decode cX3_find 79 = .ok (.aload_n 0, 1) := by decide +kernel
theorem dX3_find_80 : decode cX3_find 80 = .ok (.iconst 2, 1) := by decide +kernel
theorem dX3_find_81 : decode cX3_find 81 = .ok (.iload_n 1, 1) := by decide +kernel
theorem dX3_find_82 : decode cX3_find 82 = .ok (.invokevirtual 26, 3) := by decide +kernel
theorem dX3_find_85 : decode cX3_find 85 = .ok (.aload_n 0, 1) := by decide +kernel
theorem dX3_find_86 : decode cX3_find 86 = .ok (.iconst 5, 1) := by decide +kernel
theorem dX3_find_87 : decode cX3_find 87 = .ok (.iload_n 1, 1) := by decide +kernel
theorem dX3_find_88 : decode cX3_find 88 = .ok (.invokevirtual 26, 3) := by decide +kernel
theorem dX3_find_91 : decode cX3_find 91 = .ok (.return_, 1) := by decide +kernel
theorem dX3_countWays_0 : decode cX3_countWays 0 = .ok (.aload_n 0, 1) := by decide +kernel
theorem dX3_countWays_1 : decode cX3_countWays 1 = .ok (.getfield 9, 3) := by decide +kernel
theorem dX3_countWays_4 : decode cX3_countWays 4 = .ok (.iconst 0, 1) := by decide +kernel
theorem dX3_countWays_5 : decode cX3_countWays 5 = .ok (.iconst 1, 1) := by decide +kernel
theorem dX3_countWays_6 : decode cX3_countWays 6 = .ok (.iastore, 1) := by decide +kernel
theorem dX3_countWays_7 : decode cX3_countWays 7 = .ok (.iconst 1, 1) := by decide +kernel
theorem dX3_countWays_8 : decode cX3_countWays 8 = .ok (.istore_n 3, 1) := by decide +kernel
theorem dX3_countWays_9 : decode cX3_countWays 9 = .ok (.iload_n 3, 1) := by decide +kernel
theorem dX3_countWays_10 : decode cX3_countWays 10 = .ok (.iload_n 1, 1) := by decide +kernel
theorem dX3_countWays_11 : decode cX3_countWays 11 = .ok (.if_icmp .gt 85, 3) := by decide +kernel
theorem dX3_countWays_14 : decode cX3_countWays 14 = .ok (.aload_n 0, 1) := by decide +kernel
theorem dX3_countWays_15 : decode cX3_countWays 15 = .ok (.getfield 9, 3) := by decide +kernel
theorem dX3_countWays_18 : decode cX3_countWays 18 = .ok (.iload_n 3, 1) := by decide +kernel
theorem dX3_countWays_19 : decode cX3_countWays 19 = .ok (.aload_n 0, 1) := by decide +kernel
theorem dX3_countWays_20 : decode cX3_countWays 20 = .ok (.getfield 9, 3) := by decide +kernel
theorem dX3_countWays_23 : decode cX3_countWays 23 = .ok (.iload_n 3, 1) := by decide +kernel
theorem dX3_countWays_24 : decode cX3_countWays 24 = .ok (.iconst 1, 1) := by decide +kernel
theorem dX3_countWays_25 : decode cX3_countWays 25 = .ok (.isub, 1) := by decide +kernel
theorem dX3_countWays_26 : decode cX3_countWays 26 = .ok (.iaload, 1) := by decide +kernel
theorem dX3_countWays_27 : decode cX3_countWays 27 = .ok (.iload_n 2, 1) := by decide +kernel
theorem dX3_countWays_28 : decode cX3_countWays 28 = .ok (.imul, 1) := by decide +kernel
theorem dX3_countWays_29 : decode cX3_countWays 29 = .ok (.iastore, 1) := by decide +kernel
theorem dX3_countWays_30 : decode cX3_countWays 30 = .ok (.iload_n 3, 1) := by decide +kernel
theorem dX3_countWays_31 : decode cX3_countWays 31 = .ok (.iconst 1, 1) := by decide +kernel
theorem dX3_countWays_32 : decode cX3_countWays 32 = .ok (.isub, 1) := by decide +kernel
theorem dX3_countWays_33 : decode cX3_countWays 33 = .ok (.istore 4, 2) := by decide +kernel
theorem dX3_countWays_35 : decode cX3_countWays 35 = .ok (.iload 4, 2) := by decide +kernel
theorem dX3_countWays_37 : decode cX3_countWays 37 = .ok (.ifCond .le 40, 3) := by decide +kernel
theorem dX3_countWays_40 : decode cX3_countWays 40 = .ok (.aload_n 0, 1) := by decide +kernel
theorem dX3_countWays_41 : decode cX3_countWays 41 = .ok (.getfield 9, 3) := by decide +kernel
theorem dX3_countWays_44 : decode cX3_countWays 44 = .ok (.iload 4, 2) := by decide +kernel
theorem dX3_countWays_46 : decode cX3_countWays 46 = .ok (.aload_n 0, 1) := by decide +kernel
theorem dX3_countWays_47 : decode cX3_countWays 47 = .ok (.getfield 9, 3) := by decide +kernel
theorem dX3_countWays_50 : decode cX3_countWays 50 = .ok (.iload 4, 2) := by decide +kernel
theorem dX3_countWays_52 : decode cX3_countWays 52 = .ok (.iaload, 1) := by decide +kernel
theorem dX3_countWays_53 : decode cX3_countWays 53 = .ok (.bipush 10, 2) := by decide +kernel
theorem dX3_countWays_55 : decode cX3_countWays 55 = .ok (.iload_n 2, 1) := by decide +kernel
theorem dX3_countWays_56 : decode cX3_countWays 56 = .ok (.isub, 1) := by decide +kernel
theorem dX3_countWays_57 : decode cX3_countWays 57 = .ok (.imul, 1) := by decide +kernel
theorem dX3_countWays_58 : decode cX3_countWays 58 = .ok (.aload_n 0, 1) := by decide +kernel
theorem dX3_countWays_59 : decode cX3_countWays 59 = .ok (.getfield 9, 3) := by decide +kernel
theorem dX3_countWays_62 : decode cX3_countWays 62 = .ok (.iload 4, 2) := by decide +kernel
theorem dX3_countWays_64 : decode cX3_countWays 64 = .ok (.iconst 1, 1) := by decide +kernel
theorem dX3_countWays_65 : decode cX3_countWays 65 = .ok (.isub, 1) := by decide +kernel
theorem dX3_countWays_66 : decode cX3_countWays 66 = .ok (.iaload, 1) := by decide +kernel
theorem dX3_countWays_67 : decode cX3_countWays 67 = .ok (.iload_n 2, 1) := by decide +kernel
theorem dX3_countWays_68 : decode cX3_countWays 68 = .ok (.imul, 1) := by decide +kernel
theorem dX3_countWays_69 : decode cX3_countWays 69 = .ok (.iadd, 1) := by decide +kernel
theorem dX3_countWays_70 : decode cX3_countWays 70 = .ok (.iastore, 1) := by decide +kernel
theorem dX3_countWays_71 : decode cX3_countWays 71 = .ok (.iinc 4 (-1), 3) := by decide +kernel
theorem dX3_countWays_74 : decode cX3_countWays 74 = .ok (.goto (-39), 3) := by decide +kernel
theorem dX3_countWays_77 : decode cX3_countWays 77 = .ok (.aload_n 0, 1) := by decide +kernel
theorem dX3_countWays_78 : decode cX3_countWays 78 = .ok (.getfield 9, 3) := by decide +kernel
theorem dX3_countWays_81 : decode cX3_countWays 81 = .ok (.iconst 0, 1) := by decide +kernel
theorem dX3_countWays_82 : decode cX3_countWays 82 = .ok (.dup2, 1) := by decide +kernel
theorem dX3_countWays_83 : decode cX3_countWays 83 = .ok (.iaload, 1) := by decide +kernel
theorem dX3_countWays_84 : decode cX3_countWays 84 = .ok (.bipush 10, 2) := by decide +kernel
theorem dX3_countWays_86 : decode cX3_countWays 86 = .ok (.iload_n 2, 1) := by decide +kernel
theorem dX3_countWays_87 : decode cX3_countWays 87 = .ok (.isub, 1) := by decide +kernel
theorem dX3_countWays_88 : decode cX3_countWays 88 = .ok (.imul, 1) := by decide +kernel
theorem dX3_countWays_89 : decode cX3_countWays 89 = .ok (.iastore, 1) := by decide +kernel
theorem dX3_countWays_90 : decode cX3_countWays 90 = .ok (.iinc 3 1, 3) := by decide +kernel
theorem dX3_countWays_93 : decode cX3_countWays 93 = .ok (.goto (-84), 3) := by decide +kernel
theorem dX3_countWays_96 : decode cX3_countWays 96 = .ok (.return_, 1) := by decide +kernel
theorem dX3_takeOut_0 : decode cX3_takeOut 0 = .ok (.iconst 0, 1) := by decide +kernel
theorem dX3_takeOut_1 : decode cX3_takeOut 1 = .ok (.istore_n 3, 1) := by decide +kernel
theorem dX3_takeOut_2 : decode cX3_takeOut 2 = .ok (.iload_n 3, 1) := by decide +kernel
theorem dX3_takeOut_3 : decode cX3_takeOut 3 = .ok (.iload_n 2, 1) := by decide +kernel
theorem dX3_takeOut_4 : decode cX3_takeOut 4 = .ok (.if_icmp .ge 42, 3) := by decide +kernel
theorem dX3_takeOut_7 : decode cX3_takeOut 7 = .ok (.iload_n 1, 1) := by decide +kernel
theorem dX3_takeOut_8 : decode cX3_takeOut 8 = .ok (.ifCond .le 38, 3) := by decide +kernel
theorem dX3_takeOut_11 : decode cX3_takeOut 11 = .ok (.aload_n 0, 1) := by decide +kernel
theorem dX3_takeOut_12 : decode cX3_takeOut 12 = .ok (.getfield 19, 3) := by decide +kernel
theorem dX3_takeOut_15 : decode cX3_takeOut 15 = .ok (.iload_n 1, 1) := by decide +kernel
theorem dX3_takeOut_16 : decode cX3_takeOut 16 = .ok (.irem, 1) := by decide +kernel
theorem dX3_takeOut_17 : decode cX3_takeOut 17 = .ok (.ifCond .ne 29, 3) := by decide +kernel
theorem dX3_takeOut_20 : decode cX3_takeOut 20 = .ok (.aload_n 0, 1) := by decide +kernel
theorem dX3_takeOut_21 : decode cX3_takeOut 21 = .ok (.dup, 1) := by decide +kernel
theorem dX3_takeOut_22 : decode cX3_takeOut 22 = .ok (.getfield 19, 3) := by decide +kernel
theorem dX3_takeOut_25 : decode cX3_takeOut 25 = .ok (.iload_n 1, 1) := by decide +kernel
theorem dX3_takeOut_26 : decode cX3_takeOut 26 = .ok (.idiv, 1) := by decide +kernel
theorem dX3_takeOut_27 : decode cX3_takeOut 27 = .ok (.putfield 19, 3) := by decide +kernel
theorem dX3_takeOut_30 : decode cX3_takeOut 30 = .ok (.aload_n 0, 1) := by decide +kernel
theorem dX3_takeOut_31 : decode cX3_takeOut 31 = .ok (.dup, 1) := by decide +kernel
theorem dX3_takeOut_32 : decode cX3_takeOut 32 = .ok (.getfield 23, 3) := by decide +kernel
theorem dX3_takeOut_35 : decode cX3_takeOut 35 = .ok (.iload_n 1, 1) := by decide +kernel
theorem dX3_takeOut_36 : decode cX3_takeOut 36 = .ok (.idiv, 1) := by decide +kernel
theorem dX3_takeOut_37 : decode cX3_takeOut 37 = .ok (.putfield 23, 3) := by decide +kernel
theorem dX3_takeOut_40 : decode cX3_takeOut 40 = .ok (.iinc 3 1, 3) := by decide +kernel
theorem dX3_takeOut_43 : decode cX3_takeOut 43 = .ok (.goto (-41), 3) := by decide +kernel
theorem dX3_takeOut_46 : decode cX3_takeOut 46 = .ok (.return_, 1) := by decide +kernel
theorem dX4_init_0 : decode cX4_init 0 = .ok (.aload_n 0, 1) := by decide +kernel
theorem dX4_init_1 : decode cX4_init 1 = .ok (.invokespecial 3, 3) := by decide +kernel
theorem dX4_init_4 : decode cX4_init 4 = .ok (.aload_n 0, 1) := by decide +kernel
theorem dX4_init_5 : decode cX4_init 5 = .ok (.bipush 15, 2) := by decide +kernel
theorem dX4_init_7 : decode cX4_init 7 = .ok (.putfield 11, 3) := by decide +kernel
theorem dX4_init_10 : decode cX4_init 10 = .ok (.aload_n 0, 1) := by decide +kernel
theorem dX4_init_11 : decode cX4_init 11 = .ok (.iconst 3, 1) := by decide +kernel
theorem dX4_init_12 : decode cX4_init 12 = .ok (.putfield 15, 3) := by decide +kernel
theorem dX4_init_15 : decode cX4_init 15 = .ok (.aload_n 0, 1) := by decide +kernel
theorem dX4_init_16 : decode cX4_init 16 = .ok (.bipush 6, 2) := by decide +kernel
theorem dX4_init_18 : decode cX4_init 18 = .ok (.newarray .int, 2) := by decide +kernel
theorem dX4_init_20 : decode cX4_init 20 = .ok (.putfield 18, 3) := by decide +kernel
theorem dX4_init_23 : decode cX4_init 23 = .ok (.aload_n 0, 1) := by decide +kernel
theorem dX4_init_24 : decode cX4_init 24 = .ok (.bipush 8, 2) := by decide +kernel
theorem dX4_init_26 : decode cX4_init 26 = .ok (.newarray .int, 2) := by decide +kernel
theorem dX4_init_28 : decode cX4_init 28 = .ok (.putfield 22, 3) := by decide +kernel
theorem dX4_init_31 : decode cX4_init 31 = .ok (.aload_n 0, 1) := by decide +kernel
theorem dX4_init_32 : decode cX4_init 32 = .ok (.bipush 8, 2) := by decide +kernel
theorem dX4_init_34 : decode cX4_init 34 = .ok (.newarray .int, 2) := by decide +kernel
theorem dX4_init_36 : decode cX4_init 36 = .ok (.putfield 25, 3) := by decide +kernel
theorem dX4_init_39 : decode cX4_init 39 = .ok (.aload_n 0, 1) := by decide +kernel
theorem dX4_init_40 : decode cX4_init 40 = .ok (.bipush 8, 2) := by decide +kernel
theorem dX4_init_42 : decode cX4_init 42 = .ok (.newarray .int, 2) := by decide +kernel
theorem dX4_init_44 : decode cX4_init 44 = .ok (.putfield 28, 3) := by decide +kernel
theorem dX4_init_47 : decode cX4_init 47 = .ok (.aload_n 0, 1) := by decide +kernel
theorem dX4_init_48 : decode cX4_init 48 = .ok (.bipush 8, 2) := by decide +kernel
theorem dX4_init_50 : decode cX4_init 50 = .ok (.newarray .int, 2) := by decide +kernel
theorem dX4_init_52 : decode cX4_init 52 = .ok (.putfield 31, 3) := by decide +kernel
theorem dX4_init_55 : decode cX4_init 55 = .ok (.aload_n 0, 1) := by decide +kernel
theorem dX4_init_56 : decode cX4_init 56 = .ok (.bipush 8, 2) := by decide +kernel
theorem dX4_init_58 : decode cX4_init 58 = .ok (.newarray .int, 2) := by decide +kernel
theorem dX4_init_60 : decode cX4_init 60 = .ok (.putfield 34, 3) := by decide +kernel
theorem dX4_init_63 : decode cX4_init 63 = .ok (.return_, 1) := by decide +kernel
theorem dX4_empty_0 : decode cX4_empty 0 = .ok (.aload_n 0, 1) := by decide +kernel
theorem dX4_empty_1 : decode cX4_empty 1 = .ok (.bipush 15, 2) := by decide +kernel
theorem dX4_empty_3 : decode cX4_empty 3 = .ok (.putfield 11, 3) := by decide +kernel
theorem dX4_empty_6 : decode cX4_empty 6 = .ok (.aload_n 0, 1) := by decide +kernel
theorem dX4_empty_7 : decode cX4_empty 7 = .ok (.iconst 3, 1) := by decide +kernel
theorem dX4_empty_8 : decode cX4_empty 8 = .ok (.putfield 15, 3) := by decide +kernel
theorem dX4_empty_11 : decode cX4_empty 11 = .ok (.aload_n 0, 1) := by decide +kernel
theorem dX4_empty_12 : decode cX4_empty 12 = .ok (.iconst 0, 1) := by decide +kernel
theorem dX4_empty_13 : decode cX4_empty 13 = .ok (.putfield 37, 3) := by decide +kernel
theorem dX4_empty_16 : decode cX4_empty 16 = .ok (.aload_n 0, 1) := by decide +kernel
theorem dX4_empty_17 : decode cX4_empty 17 = .ok (.iconst 0, 1) := by decide +kernel
theorem dX4_empty_18 : decode cX4_empty 18 = .ok (.putfield 40, 3) := by decide +kernel
theorem dX4_empty_21 : decode cX4_empty 21 = .ok (.return_, 1) := by decide +kernel
theorem dX4_hasOne_0 : decode cX4_hasOne 0 = .ok (.iload_n 1, 1) := by decide +kernel
theorem dX4_hasOne_1 : decode cX4_hasOne 1 = .ok (.ifCond .lt 15, 3) := by decide +kernel
theorem dX4_hasOne_4 : decode cX4_hasOne 4 = .ok (.iload_n 1, 1) := by decide +kernel
theorem dX4_hasOne_5 : decode cX4_hasOne 5 = .ok (.aload_n 0, 1) := by decide +kernel
theorem dX4_hasOne_6 : decode cX4_hasOne 6 = .ok (.getfield 37, 3) := by decide +kernel
theorem dX4_hasOne_9 : decode cX4_hasOne 9 = .ok (.if_icmp .ge 7, 3) := by decide +kernel
theorem dX4_hasOne_12 : decode cX4_hasOne 12 = .ok (.iconst 1, 1) := by decide +kernel
theorem dX4_hasOne_13 : decode cX4_hasOne 13 = .ok (.goto 4, 3) := by decide +kernel
theorem dX4_hasOne_16 : decode cX4_hasOne 16 = .ok (.iconst 0, 1) := by decide +kernel
theorem dX4_hasOne_17 : decode cX4_hasOne 17 = .ok (.ireturn, 1) := by decide +kernel
theorem dX4_hasDeed_0 : decode cX4_hasDeed 0 = .ok (.iload_n 1, 1) := by decide +kernel
theorem dX4_hasDeed_1 : decode cX4_hasDeed 1 = .ok (.ifCond .lt 15, 3) := by decide +kernel
theorem dX4_hasDeed_4 : decode cX4_hasDeed 4 = .ok (.iload_n 1, 1) := by decide +kernel
theorem dX4_hasDeed_5 : decode cX4_hasDeed 5 = .ok (.aload_n 0, 1) := by decide +kernel
theorem dX4_hasDeed_6 : decode cX4_hasDeed 6 = .ok (.getfield 40, 3) := by decide +kernel
theorem dX4_hasDeed_9 : decode cX4_hasDeed 9 = .ok (.if_icmp .ge 7, 3) := by decide +kernel
theorem dX4_hasDeed_12 : decode cX4_hasDeed 12 = .ok (.iconst 1, 1) := by decide +kernel
theorem dX4_hasDeed_13 : decode cX4_hasDeed 13 = .ok (.goto 4, 3) := by decide +kernel
theorem dX4_hasDeed_16 : decode cX4_hasDeed 16 = .ok (.iconst 0, 1) := by decide +kernel
theorem dX4_hasDeed_17 : decode cX4_hasDeed 17 = .ok (.ireturn, 1) := by decide +kernel
theorem dX4_copyFrom_0 : decode cX4_copyFrom 0 = .ok (.aload_n 0, 1) := by decide +kernel
theorem dX4_copyFrom_1 : decode cX4_copyFrom 1 = .ok (.aload_n 1, 1) := by decide +kernel
theorem dX4_copyFrom_2 : decode cX4_copyFrom 2 = .ok (.getfield 11, 3) := by decide +kernel
theorem dX4_copyFrom_5 : decode cX4_copyFrom 5 = .ok (.putfield 11, 3) := by decide +kernel
theorem dX4_copyFrom_8 : decode cX4_copyFrom 8 = .ok (.aload_n 0, 1) := by decide +kernel
theorem dX4_copyFrom_9 : decode cX4_copyFrom 9 = .ok (.aload_n 1, 1) := by decide +kernel
theorem dX4_copyFrom_10 : decode cX4_copyFrom 10 = .ok (.getfield 15, 3) := by decide +kernel
theorem dX4_copyFrom_13 : decode cX4_copyFrom 13 = .ok (.putfield 15, 3) := by decide +kernel
theorem dX4_copyFrom_16 : decode cX4_copyFrom 16 = .ok (.aload_n 0, 1) := by decide +kernel
theorem dX4_copyFrom_17 : decode cX4_copyFrom 17 = .ok (.aload_n 1, 1) := by decide +kernel
theorem dX4_copyFrom_18 : decode cX4_copyFrom 18 = .ok (.getfield 37, 3) := by decide +kernel
theorem dX4_copyFrom_21 : decode cX4_copyFrom 21 = .ok (.putfield 37, 3) := by decide +kernel
theorem dX4_copyFrom_24 : decode cX4_copyFrom 24 = .ok (.aload_n 0, 1) := by decide +kernel
theorem dX4_copyFrom_25 : decode cX4_copyFrom 25 = .ok (.aload_n 1, 1) := by decide +kernel
theorem dX4_copyFrom_26 : decode cX4_copyFrom 26 = .ok (.getfield 40, 3) := by decide +kernel
theorem dX4_copyFrom_29 : decode cX4_copyFrom 29 = .ok (.putfield 40, 3) := by decide +kernel
theorem dX4_copyFrom_32 : decode cX4_copyFrom 32 = .ok (.aload_n 1, 1) := by decide +kernel
theorem dX4_copyFrom_33 : decode cX4_copyFrom 33 = .ok (.getfield 18, 3) := by decide +kernel
theorem dX4_copyFrom_36 : decode cX4_copyFrom 36 = .ok (.iconst 0, 1) := by decide +kernel
theorem dX4_copyFrom_37 : decode cX4_copyFrom 37 = .ok (.aload_n 0, 1) := by decide +kernel
theorem dX4_copyFrom_38 : decode cX4_copyFrom 38 = .ok (.getfield 18, 3) := by decide +kernel
theorem dX4_copyFrom_41 : decode cX4_copyFrom 41 = .ok (.iconst 0, 1) := by decide +kernel
theorem dX4_copyFrom_42 : decode cX4_copyFrom 42 = .ok (.bipush 6, 2) := by decide +kernel
theorem dX4_copyFrom_44 : decode cX4_copyFrom 44 = .ok (.invokestatic 43, 3) := by decide +kernel
theorem dX4_copyFrom_47 : decode cX4_copyFrom 47 = .ok (.aload_n 1, 1) := by decide +kernel
theorem dX4_copyFrom_48 : decode cX4_copyFrom 48 = .ok (.getfield 22, 3) := by decide +kernel
theorem dX4_copyFrom_51 : decode cX4_copyFrom 51 = .ok (.iconst 0, 1) := by decide +kernel
theorem dX4_copyFrom_52 : decode cX4_copyFrom 52 = .ok (.aload_n 0, 1) := by decide +kernel
theorem dX4_copyFrom_53 : decode cX4_copyFrom 53 = .ok (.getfield 22, 3) := by decide +kernel
theorem dX4_copyFrom_56 : decode cX4_copyFrom 56 = .ok (.iconst 0, 1) := by decide +kernel
theorem dX4_copyFrom_57 : decode cX4_copyFrom 57 = .ok (.bipush 8, 2) := by decide +kernel
theorem dX4_copyFrom_59 : decode cX4_copyFrom 59 = .ok (.invokestatic 43, 3) := by decide +kernel
theorem dX4_copyFrom_62 : decode cX4_copyFrom 62 = .ok (.aload_n 1, 1) := by decide +kernel
theorem dX4_copyFrom_63 : decode cX4_copyFrom 63 = .ok (.getfield 25, 3) := by decide +kernel
theorem dX4_copyFrom_66 : decode cX4_copyFrom 66 = .ok (.iconst 0, 1) := by decide +kernel
theorem dX4_copyFrom_67 : decode cX4_copyFrom 67 = .ok (.aload_n 0, 1) := by decide +kernel
theorem dX4_copyFrom_68 : decode cX4_copyFrom 68 = .ok (.getfield 25, 3) := by decide +kernel
theorem dX4_copyFrom_71 : decode cX4_copyFrom 71 = .ok (.iconst 0, 1) := by decide +kernel
theorem dX4_copyFrom_72 : decode cX4_copyFrom 72 = .ok (.bipush 8, 2) := by decide +kernel
theorem dX4_copyFrom_74 : decode cX4_copyFrom 74 = .ok (.invokestatic 43, 3) := by decide +kernel
theorem dX4_copyFrom_77 : decode cX4_copyFrom 77 = .ok (.aload_n 1, 1) := by decide +kernel
theorem dX4_copyFrom_78 : decode cX4_copyFrom 78 = .ok (.getfield 28, 3) := by decide +kernel
theorem dX4_copyFrom_81 : decode cX4_copyFrom 81 = .ok (.iconst 0, 1) := by decide +kernel
theorem dX4_copyFrom_82 : decode cX4_copyFrom 82 = .ok (.aload_n 0, 1) := by decide +kernel
theorem dX4_copyFrom_83 : decode cX4_copyFrom 83 = .ok (.getfield 28, 3) := by decide +kernel
theorem dX4_copyFrom_86 : decode cX4_copyFrom 86 = .ok (.iconst 0, 1) := by decide +kernel
theorem dX4_copyFrom_87 : decode cX4_copyFrom 87 = .ok (.bipush 8, 2) := by decide +kernel
theorem dX4_copyFrom_89 : decode cX4_copyFrom 89 = .ok (.invokestatic 43, 3) := by decide +kernel
theorem dX4_copyFrom_92 : decode cX4_copyFrom 92 = .ok (.aload_n 1, 1) := by decide +kernel
theorem dX4_copyFrom_93 : decode cX4_copyFrom 93 = .ok (.getfield 31, 3) := by decide +kernel
theorem dX4_copyFrom_96 : decode cX4_copyFrom 96 = .ok (.iconst 0, 1) := by decide +kernel
theorem dX4_copyFrom_97 : decode cX4_copyFrom 97 = .ok (.aload_n 0, 1) := by decide +kernel
theorem dX4_copyFrom_98 : decode cX4_copyFrom 98 = .ok (.getfield 31, 3) := by decide +kernel
theorem dX4_copyFrom_101 : decode cX4_copyFrom 101 = .ok (.iconst 0, 1) := by decide +kernel
theorem dX4_copyFrom_102 : decode cX4_copyFrom 102 = .ok (.bipush 8, 2) := by decide +kernel
theorem dX4_copyFrom_104 : decode cX4_copyFrom 104 = .ok (.invokestatic 43, 3) := by decide +kernel
theorem dX4_copyFrom_107 : decode cX4_copyFrom 107 = .ok (.aload_n 1, 1) := by decide +kernel
theorem dX4_copyFrom_108 : decode cX4_copyFrom 108 = .ok (.getfield 34, 3) := by decide +kernel
theorem dX4_copyFrom_111 : decode cX4_copyFrom 111 = .ok (.iconst 0, 1) := by decide +kernel
theorem dX4_copyFrom_112 : decode cX4_copyFrom 112 = .ok (.aload_n 0, 1) := by decide +kernel
theorem dX4_copyFrom_113 : decode cX4_copyFrom 113 = .ok (.getfield 34, 3) := by decide +kernel
theorem dX4_copyFrom_116 : decode cX4_copyFrom 116 = .ok (.iconst 0, 1) := by decide +kernel
theorem dX4_copyFrom_117 : decode cX4_copyFrom 117 = .ok (.bipush 8, 2) := by decide +kernel
theorem dX4_copyFrom_119 : decode cX4_copyFrom 119 = .ok (.invokestatic 43, 3) := by decide +kernel
theorem dX4_copyFrom_122 : decode cX4_copyFrom 122 = .ok (.return_, 1) := by decide +kernel
theorem dX5_init_0 : decode cX5_init 0 = .ok (.aload_n 0, 1) := by decide +kernel
theorem dX5_init_1 : decode cX5_init 1 = .ok (.invokespecial 3, 3) := by decide +kernel
theorem dX5_init_4 : decode cX5_init 4 = .ok (.return_, 1) := by decide +kernel
set_option maxRecDepth 20000 in
theorem ggX5_read_X8_goToStart : GoodIn wsX5_read wsX8_goToStart := goodIn_r _ [9, 10, 83, 84, 85, 86, 87, 88] (by decide +kernel) (by decide +kernel)
set_option maxRecDepth 20000 in
theorem gX5_read_X8_goToStart : GoodIn wsX5_read (wsV RX5 9 RX8 yX8_goToStart wsX8_goToStart) := goodIn_app (goodIn_of _ (by decide +kernel)) ggX5_read_X8_goToStart
set_option maxRecDepth 20000 in
theorem ggX5_read_X4_empty : GoodIn wsX5_read wsX4_empty := goodIn_r _ [15, 16, 17, 18, 19, 89, 90, 91, 92, 93, 94, 95, 96, 97, 98] (by decide +kernel) (by decide +kernel)
set_option maxRecDepth 20000 in
theorem gX5_read_X4_empty : GoodIn wsX5_read (wsV RX5 14 RX4 yX4_empty wsX4_empty) := goodIn_app (goodIn_of _ (by decide +kernel)) ggX5_read_X4_empty
set_option maxRecDepth 20000 in
theorem ggX5_read_X8_readToken : GoodIn wsX5_read wsX8_readToken := goodIn_r _ [23, 10, 24, 25, 26, 27, 28, 29, 30, 8, 31, 32, 33, 34, 35, 36, 37, 38, 39, 40, 41, 42, 83, 84, 85, 86, 87, 88] (by decide +kernel) (by decide +kernel)
set_option maxRecDepth 20000 in
theorem gX5_read_X8_readToken : GoodIn wsX5_read (wsV RX5 28 RX8 yX8_readToken wsX8_readToken) := goodIn_app (goodIn_of _ (by decide +kernel)) ggX5_read_X8_readToken
set_option maxRecDepth 20000 in
theorem ggX5_read_X5_readItem : GoodIn wsX5_read wsX5_readItem := goodIn_r _ [47, 3, 48, 49, 50, 51, 46, 52, 53, 54, 55, 56, 57, 20, 21, 22, 8, 23, 10, 24, 25, 26, 27, 28, 29, 30, 31, 32, 33, 34, 35, 36, 37, 38, 39, 40, 41, 42, 58, 59, 60, 61, 62, 63, 64, 65, 66, 67, 68, 69, 70, 71, 72, 73, 74, 1, 75, 76, 77, 78, 79, 2, 80, 83, 84, 85, 86, 87, 88, 89, 90, 91, 92, 93, 94, 95, 96, 97, 98, 81, 82] (by decide +kernel) (by decide +kernel)
set_option maxRecDepth 20000 in
theorem gX5_read_X5_readItem : GoodIn wsX5_read (wsV RX5 35 RX5 yX5_readItem wsX5_readItem) := goodIn_app (goodIn_of _ (by decide +kernel)) ggX5_read_X5_readItem
theorem dX5_read_0 : decode cX5_read 0 = .ok (.aload_n 1, 1) := by decide +kernel
theorem dX5_read_1 : decode cX5_read 1 = .ok (.invokevirtual 9, 3) := by decide +kernel
theorem dX5_read_4 : decode cX5_read 4 = .ok (.aload_n 2, 1) := by decide +kernel
theorem dX5_read_5 : decode cX5_read 5 = .ok (.invokevirtual 14, 3) := by decide +kernel
theorem dX5_read_8 : decode cX5_read 8 = .ok (.aload_n 0, 1) := by decide +kernel
theorem dX5_read_9 : decode cX5_read 9 = .ok (.iconst 0, 1) := by decide +kernel
theorem dX5_read_10 : decode cX5_read 10 = .ok (.putfield 19, 3) := by decide +kernel
theorem dX5_read_13 : decode cX5_read 13 = .ok (.aload_n 0, 1) := by decide +kernel
theorem dX5_read_14 : decode cX5_read 14 = .ok (.iconst 0, 1) := by decide +kernel
theorem dX5_read_15 : decode cX5_read 15 = .ok (.putfield 25, 3) := by decide +kernel
theorem dX5_read_18 : decode cX5_read 18 = .ok (.iconst 0, 1) := by decide +kernel
theorem dX5_read_19 : decode cX5_read 19 = .ok (.istore_n 3, 1) := by decide +kernel
theorem dX5_read_20 : decode cX5_read 20 = .ok (.iconst 0, 1) := by decide +kernel
theorem dX5_read_21 : decode cX5_read 21 = .ok (.istore 4, 2) := by decide +kernel
theorem dX5_read_23 : decode cX5_read 23 = .ok (.iload 4, 2) := by decide +kernel
theorem dX5_read_25 : decode cX5_read 25 = .ok (.sipush 180, 3) := by decide +kernel
theorem dX5_read_28 : decode cX5_read 28 = .ok (.if_icmp .gt 43, 3) := by decide +kernel
theorem dX5_read_31 : decode cX5_read 31 = .ok (.aload_n 1, 1) := by decide +kernel
theorem dX5_read_32 : decode cX5_read 32 = .ok (.invokevirtual 28, 3) := by decide +kernel
theorem dX5_read_35 : decode cX5_read 35 = .ok (.aload_n 1, 1) := by decide +kernel
theorem dX5_read_36 : decode cX5_read 36 = .ok (.getfield 31, 3) := by decide +kernel
theorem dX5_read_39 : decode cX5_read 39 = .ok (.ifCond .ne 6, 3) := by decide +kernel
theorem dX5_read_42 : decode cX5_read 42 = .ok (.goto 29, 3) := by decide +kernel
theorem dX5_read_45 : decode cX5_read 45 = .ok (.aload_n 0, 1) := by decide +kernel
theorem dX5_read_46 : decode cX5_read 46 = .ok (.aload_n 1, 1) := by decide +kernel
theorem dX5_read_47 : decode cX5_read 47 = .ok (.aload_n 2, 1) := by decide +kernel
theorem dX5_read_48 : decode cX5_read 48 = .ok (.invokevirtual 35, 3) := by decide +kernel
theorem dX5_read_51 : decode cX5_read 51 = .ok (.ifCond .ne 11, 3) := by decide +kernel
theorem dX5_read_54 : decode cX5_read 54 = .ok (.bipush (-10), 2) := by decide +kernel
theorem dX5_read_56 : decode cX5_read 56 = .ok (.aload_n 1, 1) := by decide +kernel
theorem dX5_read_57 : decode cX5_read 57 = .ok (.getfield 39, 3) := by decide +kernel
theorem dX5_read_60 : decode cX5_read 60 = .ok (.isub, 1) := by decide +kernel
theorem dX5_read_61 : decode cX5_read 61 = .ok (.ireturn, 1) := by decide +kernel
theorem dX5_read_62 : decode cX5_read 62 = .ok (.iinc 3 1, 3) := by decide +kernel
theorem dX5_read_65 : decode cX5_read 65 = .ok (.iinc 4 1, 3) := by decide +kernel
theorem dX5_read_68 : decode cX5_read 68 = .ok (.goto (-45), 3) := by decide +kernel
theorem dX5_read_71 : decode cX5_read 71 = .ok (.iload_n 3, 1) := by decide +kernel
theorem dX5_read_72 : decode cX5_read 72 = .ok (.ireturn, 1) := by decide +kernel
set_option maxRecDepth 20000 in
theorem ggX5_readItem_X5_readOne : GoodIn wsX5_readItem wsX5_readOne := goodIn_r _ [7, 8, 9, 2, 10, 11, 6, 12, 1, 13, 14, 15, 16, 17, 18, 19, 20, 21, 22, 23, 24, 25, 26, 27, 28, 29, 30, 31, 32, 33, 34, 35, 36, 37, 38, 39, 40, 69, 70, 71, 72, 73, 74, 75, 76, 77, 78, 63, 64, 65, 66, 67, 68] (by decide +kernel) (by decide +kernel)
set_option maxRecDepth 20000 in
theorem gX5_readItem_X5_readOne : GoodIn wsX5_readItem (wsV RX5 45 RX5 yX5_readOne wsX5_readOne) := goodIn_app (goodIn_of _ (by decide +kernel)) ggX5_readItem_X5_readOne
set_option maxRecDepth 20000 in
theorem ggX5_readItem_X5_readDeed : GoodIn wsX5_readItem wsX5_readDeed := goodIn_r _ [44, 45, 8, 46, 2, 47, 48, 49, 50, 10, 11, 6, 12, 1, 13, 14, 15, 16, 17, 18, 19, 20, 21, 22, 23, 24, 25, 26, 27, 28, 29, 30, 31, 32, 33, 34, 35, 36, 37, 38, 39, 40, 69, 70, 71, 72, 73, 74, 75, 76, 77, 78, 63, 64, 65, 66, 67, 68] (by decide +kernel) (by decide +kernel)
set_option maxRecDepth 20000 in
theorem gX5_readItem_X5_readDeed : GoodIn wsX5_readItem (wsV RX5 48 RX5 yX5_readDeed wsX5_readDeed) := goodIn_app (goodIn_of _ (by decide +kernel)) ggX5_readItem_X5_readDeed
set_option maxRecDepth 20000 in
theorem ggX5_readItem_X5_readOffice : GoodIn wsX5_readItem wsX5_readOffice := goodIn_r _ [54, 55, 2, 56, 10, 11, 6, 12, 1, 13, 14, 15, 16, 17, 18, 19, 20, 21, 22, 23, 24, 25, 26, 27, 28, 29, 30, 31, 32, 33, 34, 35, 36, 37, 38, 39, 40, 79, 80, 63, 64, 65, 66, 67, 68, 69, 70, 71, 72, 73, 74, 75, 76, 77, 78] (by decide +kernel) (by decide +kernel)
set_option maxRecDepth 20000 in
theorem gX5_readItem_X5_readOffice : GoodIn wsX5_readItem (wsV RX5 51 RX5 yX5_readOffice wsX5_readOffice) := goodIn_app (goodIn_of _ (by decide +kernel)) ggX5_readItem_X5_readOffice
set_option maxRecDepth 20000 in
theorem ggX5_readItem_X5_readFree : GoodIn wsX5_readItem wsX5_readFree := goodIn_r _ [60, 61, 2, 62, 10, 11, 6, 12, 1, 13, 14, 15, 16, 17, 18, 19, 20, 21, 22, 23, 24, 25, 26, 27, 28, 29, 30, 31, 32, 33, 34, 35, 36, 37, 38, 39, 40, 79, 80, 63, 64, 65, 66, 67, 68, 69, 70, 71, 72, 73, 74, 75, 76, 77, 78] (by decide +kernel) (by decide +kernel)
set_option maxRecDepth 20000 in
theorem gX5_readItem_X5_readFree : GoodIn wsX5_readItem (wsV RX5 54 RX5 yX5_readFree wsX5_readFree) := goodIn_app (goodIn_of _ (by decide +kernel)) ggX5_readItem_X5_readFree
theorem dX5_readItem_0 : decode cX5_readItem 0 = .ok (.aload_n 1, 1) := by decide +kernel
theorem dX5_readItem_1 : decode cX5_readItem 1 = .ok (.getfield 31, 3) := by decide +kernel
theorem dX5_readItem_4 : decode cX5_readItem 4 = .ok (.iconst 1, 1) := by decide +kernel
theorem dX5_readItem_5 : decode cX5_readItem 5 = .ok (.if_icmp .eq 5, 3) := by decide +kernel
theorem dX5_readItem_8 : decode cX5_readItem 8 = .ok (.iconst 0, 1) := by decide +kernel
theorem dX5_readItem_9 : decode cX5_readItem 9 = .ok (.ireturn, 1) := by decide +kernel
theorem dX5_readItem_10 : decode cX5_readItem 10 = .ok (.aload_n 1, 1) := by decide +kernel
theorem dX5_readItem_11 : decode cX5_readItem 11 = .ok (.getfield 42, 3) := by decide +kernel
theorem dX5_readItem_14 : decode cX5_readItem 14 = .ok (.lookupswitch 70 #[(100, 49), (102, 63), (111, 56), (112, 42)], 42) := by decide +kernel
theorem dX5_readItem_56 : decode cX5_readItem 56 = .ok (.aload_n 0, 1) := by decide +kernel
theorem dX5_readItem_57 : decode cX5_readItem 57 = .ok (.aload_n 1, 1) := by decide +kernel
theorem dX5_readItem_58 : decode cX5_readItem 58 = .ok (.aload_n 2, 1) := by decide +kernel
theorem dX5_readItem_59 : decode cX5_readItem 59 = .ok (.invokevirtual 45, 3) := by decide +kernel
theorem dX5_readItem_62 : decode cX5_readItem 62 = .ok (.ireturn, 1) := by decide +kernel
theorem dX5_readItem_63 : decode cX5_readItem 63 = .ok (.aload_n 0, 1) := by decide +kernel
theorem dX5_readItem_64 : decode cX5_readItem 64 = .ok (.aload_n 1, 1) := by decide +kernel
theorem dX5_readItem_65 : decode cX5_readItem 65 = .ok (.aload_n 2, 1) := by decide +kernel
theorem dX5_readItem_66 : decode cX5_readItem 66 = .ok (.invokevirtual 48, 3) := by decide +kernel
theorem dX5_readItem_69 : decode cX5_readItem 69 = .ok (.ireturn, 1) := by decide +kernel
theorem dX5_readItem_70 : decode cX5_readItem 70 = .ok (.aload_n 0, 1) := by decide +kernel
theorem dX5_readItem_71 : decode cX5_readItem 71 = .ok (.aload_n 1, 1) := by decide +kernel
theorem dX5_readItem_72 : decode cX5_readItem 72 = .ok (.aload_n 2, 1) := by decide +kernel
theorem dX5_readItem_73 : decode cX5_readItem 73 = .ok (.invokevirtual 51, 3) := by decide +kernel
theorem dX5_readItem_76 : decode cX5_readItem 76 = .ok (.ireturn, 1) := by decide +kernel
theorem dX5_readItem_77 : decode cX5_readItem 77 = .ok (.aload_n 0, 1) := by decide +kernel
theorem dX5_readItem_78 : decode cX5_readItem 78 = .ok (.aload_n 1, 1) := by decide +kernel
theorem dX5_readItem_79 : decode cX5_readItem 79 = .ok (.aload_n 2, 1) := by decide +kernel
theorem dX5_readItem_80 : decode cX5_readItem 80 = .ok (.invokevirtual 54, 3) := by decide +kernel
theorem dX5_readItem_83 : decode cX5_readItem 83 = .ok (.ireturn, 1) := by decide +kernel
theorem dX5_readItem_84 : decode cX5_readItem 84 = .ok (.iconst 0, 1) := by decide +kernel
theorem dX5_readItem_85 : decode cX5_readItem 85 = .ok (.ireturn, 1) := by decide +kernel
set_option maxRecDepth 20000 in
theorem ggX5_readOne_X5_readNumber : GoodIn wsX5_readOne wsX5_readNumber := goodIn_r _ [7, 8, 3, 9, 10, 11, 12, 13, 14, 15, 16, 17, 18, 19, 20, 21, 22, 23, 24, 25, 26, 27, 28, 29, 30, 31, 32, 33, 47, 48, 49, 50, 51, 52] (by decide +kernel) (by decide +kernel)
set_option maxRecDepth 20000 in
theorem gX5_readOne_X5_readNumber : GoodIn wsX5_readOne (va_wsS RX5 60 yX5_readNumber wsX5_readNumber) := goodIn_app (goodIn_of _ (by decide +kernel)) ggX5_readOne_X5_readNumber
set_option maxRecDepth 20000 in
theorem ggX5_readOne_X5_readStop : GoodIn wsX5_readOne wsX5_readStop := goodIn_r _ [36, 8, 9, 10, 11, 12, 13, 14, 15, 16, 17, 18, 19, 20, 21, 22, 23, 24, 25, 26, 27, 28, 29, 30, 31, 32, 33, 47, 48, 49, 50, 51, 52] (by decide +kernel) (by decide +kernel)
set_option maxRecDepth 20000 in
theorem gX5_readOne_X5_readStop : GoodIn wsX5_readOne (va_wsS RX5 68 yX5_readStop wsX5_readStop) := goodIn_app (goodIn_of _ (by decide +kernel)) ggX5_readOne_X5_readStop
theorem dX5_readOne_0 : decode cX5_readOne 0 = .ok (.aload_n 2, 1) := by decide +kernel
theorem dX5_readOne_1 : decode cX5_readOne 1 = .ok (.getfield 57, 3) := by decide +kernel
theorem dX5_readOne_4 : decode cX5_readOne 4 = .ok (.bipush 6, 2) := by decide +kernel
theorem dX5_readOne_6 : decode cX5_readOne 6 = .ok (.if_icmp .ge 13, 3) := by decide +kernel
theorem dX5_readOne_9 : decode cX5_readOne 9 = .ok (.aload_n 1, 1) := by decide +kernel
theorem dX5_readOne_10 : decode cX5_readOne 10 = .ok (.iconst 0, 1) := by decide +kernel
theorem dX5_readOne_11 : decode cX5_readOne 11 = .ok (.bipush 30, 2) := by decide +kernel
theorem dX5_readOne_13 : decode cX5_readOne 13 = .ok (.invokestatic 60, 3) := by decide +kernel
theorem dX5_readOne_16 : decode cX5_readOne 16 = .ok (.ifCond .ne 5, 3) := by decide +kernel
theorem dX5_readOne_19 : decode cX5_readOne 19 = .ok (.iconst 0, 1) := by decide +kernel
theorem dX5_readOne_20 : decode cX5_readOne 20 = .ok (.ireturn, 1) := by decide +kernel
theorem dX5_readOne_21 : decode cX5_readOne 21 = .ok (.aload_n 2, 1) := by decide +kernel
theorem dX5_readOne_22 : decode cX5_readOne 22 = .ok (.getfield 64, 3) := by decide +kernel
theorem dX5_readOne_25 : decode cX5_readOne 25 = .ok (.aload_n 2, 1) := by decide +kernel
theorem dX5_readOne_26 : decode cX5_readOne 26 = .ok (.getfield 57, 3) := by decide +kernel
theorem dX5_readOne_29 : decode cX5_readOne 29 = .ok (.aload_n 1, 1) := by decide +kernel
theorem dX5_readOne_30 : decode cX5_readOne 30 = .ok (.getfield 42, 3) := by decide +kernel
theorem dX5_readOne_33 : decode cX5_readOne 33 = .ok (.iastore, 1) := by decide +kernel
theorem dX5_readOne_34 : decode cX5_readOne 34 = .ok (.aload_n 2, 1) := by decide +kernel
theorem dX5_readOne_35 : decode cX5_readOne 35 = .ok (.dup, 1) := by decide +kernel
theorem dX5_readOne_36 : decode cX5_readOne 36 = .ok (.getfield 57, 3) := by decide +kernel
theorem dX5_readOne_39 : decode cX5_readOne 39 = .ok (.iconst 1, 1) := by decide +kernel
theorem dX5_readOne_40 : decode cX5_readOne 40 = .ok (.iadd, 1) := by decide +kernel
theorem dX5_readOne_41 : decode cX5_readOne 41 = .ok (.putfield 57, 3) := by decide +kernel
theorem dX5_readOne_44 : decode cX5_readOne 44 = .ok (.aload_n 1, 1) := by decide +kernel
theorem dX5_readOne_45 : decode cX5_readOne 45 = .ok (.invokestatic 68, 3) := by decide +kernel
theorem dX5_readOne_48 : decode cX5_readOne 48 = .ok (.ireturn, 1) := by decide +kernel
set_option maxRecDepth 20000 in
theorem ggX5_readDeed_X5_readNumber : GoodIn wsX5_readDeed wsX5_readNumber := goodIn_r _ [12, 13, 4, 14, 15, 16, 17, 18, 19, 20, 21, 22, 23, 24, 25, 26, 27, 28, 29, 30, 31, 32, 33, 34, 35, 36, 37, 38, 52, 53, 54, 55, 56, 57] (by decide +kernel) (by decide +kernel)
set_option maxRecDepth 20000 in
theorem gX5_readDeed_X5_readNumber : GoodIn wsX5_readDeed (va_wsS RX5 60 yX5_readNumber wsX5_readNumber) := goodIn_app (goodIn_of _ (by decide +kernel)) ggX5_readDeed_X5_readNumber
set_option maxRecDepth 20000 in
theorem ggX5_readDeed_X5_readStop : GoodIn wsX5_readDeed wsX5_readStop := goodIn_r _ [41, 13, 14, 15, 16, 17, 18, 19, 20, 21, 22, 23, 24, 25, 26, 27, 28, 29, 30, 31, 32, 33, 34, 35, 36, 37, 38, 52, 53, 54, 55, 56, 57] (by decide +kernel) (by decide +kernel)
set_option maxRecDepth 20000 in
theorem gX5_readDeed_X5_readStop : GoodIn wsX5_readDeed (va_wsS RX5 68 yX5_readStop wsX5_readStop) := goodIn_app (goodIn_of _ (by decide +kernel)) ggX5_readDeed_X5_readStop
theorem dX5_readDeed_0 : decode cX5_readDeed 0 = .ok (.aload_n 2, 1) := by decide +kernel
theorem dX5_readDeed_1 : decode cX5_readDeed 1 = .ok (.getfield 72, 3) := by decide +kernel
theorem dX5_readDeed_4 : decode cX5_readDeed 4 = .ok (.istore_n 3, 1) := by decide +kernel
theorem dX5_readDeed_5 : decode cX5_readDeed 5 = .ok (.iload_n 3, 1) := by decide +kernel
theorem dX5_readDeed_6 : decode cX5_readDeed 6 = .ok (.bipush 8, 2) := by decide +kernel
theorem dX5_readDeed_8 : decode cX5_readDeed 8 = .ok (.if_icmp .ge 17, 3) := by decide +kernel
theorem dX5_readDeed_11 : decode cX5_readDeed 11 = .ok (.aload_n 1, 1) := by decide +kernel
theorem dX5_readDeed_12 : decode cX5_readDeed 12 = .ok (.iconst 0, 1) := by decide +kernel
theorem dX5_readDeed_13 : decode cX5_readDeed 13 = .ok (.aload_n 2, 1) := by decide +kernel
theorem dX5_readDeed_14 : decode cX5_readDeed 14 = .ok (.getfield 57, 3) := by decide +kernel
theorem dX5_readDeed_17 : decode cX5_readDeed 17 = .ok (.iconst 1, 1) := by decide +kernel
theorem dX5_readDeed_18 : decode cX5_readDeed 18 = .ok (.isub, 1) := by decide +kernel
theorem dX5_readDeed_19 : decode cX5_readDeed 19 = .ok (.invokestatic 60, 3) := by decide +kernel
theorem dX5_readDeed_22 : decode cX5_readDeed 22 = .ok (.ifCond .ne 5, 3) := by decide +kernel
theorem dX5_readDeed_25 : decode cX5_readDeed 25 = .ok (.iconst 0, 1) := by decide +kernel
theorem dX5_readDeed_26 : decode cX5_readDeed 26 = .ok (.ireturn, 1) := by decide +kernel
theorem dX5_readDeed_27 : decode cX5_readDeed 27 = .ok (.aload_n 2, 1) := by decide +kernel
theorem dX5_readDeed_28 : decode cX5_readDeed 28 = .ok (.getfield 75, 3) := by decide +kernel
theorem dX5_readDeed_31 : decode cX5_readDeed 31 = .ok (.iload_n 3, 1) := by decide +kernel
theorem dX5_readDeed_32 : decode cX5_readDeed 32 = .ok (.aload_n 1, 1) := by decide +kernel
theorem dX5_readDeed_33 : decode cX5_readDeed 33 = .ok (.getfield 42, 3) := by decide +kernel
theorem dX5_readDeed_36 : decode cX5_readDeed 36 = .ok (.iastore, 1) := by decide +kernel
theorem dX5_readDeed_37 : decode cX5_readDeed 37 = .ok (.aload_n 1, 1) := by decide +kernel
theorem dX5_readDeed_38 : decode cX5_readDeed 38 = .ok (.iconst 0, 1) := by decide +kernel
theorem dX5_readDeed_39 : decode cX5_readDeed 39 = .ok (.bipush 30, 2) := by decide +kernel
theorem dX5_readDeed_41 : decode cX5_readDeed 41 = .ok (.invokestatic 60, 3) := by decide +kernel
theorem dX5_readDeed_44 : decode cX5_readDeed 44 = .ok (.ifCond .ne 5, 3) := by decide +kernel
theorem dX5_readDeed_47 : decode cX5_readDeed 47 = .ok (.iconst 0, 1) := by decide +kernel
theorem dX5_readDeed_48 : decode cX5_readDeed 48 = .ok (.ireturn, 1) := by decide +kernel
theorem dX5_readDeed_49 : decode cX5_readDeed 49 = .ok (.aload_n 2, 1) := by decide +kernel
theorem dX5_readDeed_50 : decode cX5_readDeed 50 = .ok (.getfield 78, 3) := by decide +kernel
theorem dX5_readDeed_53 : decode cX5_readDeed 53 = .ok (.iload_n 3, 1) := by decide +kernel
theorem dX5_readDeed_54 : decode cX5_readDeed 54 = .ok (.aload_n 1, 1) := by decide +kernel
theorem dX5_readDeed_55 : decode cX5_readDeed 55 = .ok (.getfield 42, 3) := by decide +kernel
theorem dX5_readDeed_58 : decode cX5_readDeed 58 = .ok (.iastore, 1) := by decide +kernel
theorem dX5_readDeed_59 : decode cX5_readDeed 59 = .ok (.aload_n 1, 1) := by decide +kernel
theorem dX5_readDeed_60 : decode cX5_readDeed 60 = .ok (.iconst 0, 1) := by decide +kernel
theorem dX5_readDeed_61 : decode cX5_readDeed 61 = .ok (.bipush 99, 2) := by decide +kernel
theorem dX5_readDeed_63 : decode cX5_readDeed 63 = .ok (.invokestatic 60, 3) := by decide +kernel
theorem dX5_readDeed_66 : decode cX5_readDeed 66 = .ok (.ifCond .ne 5, 3) := by decide +kernel
theorem dX5_readDeed_69 : decode cX5_readDeed 69 = .ok (.iconst 0, 1) := by decide +kernel
theorem dX5_readDeed_70 : decode cX5_readDeed 70 = .ok (.ireturn, 1) := by decide +kernel
theorem dX5_readDeed_71 : decode cX5_readDeed 71 = .ok (.aload_n 2, 1) := by decide +kernel
theorem dX5_readDeed_72 : decode cX5_readDeed 72 = .ok (.getfield 81, 3) := by decide +kernel
theorem dX5_readDeed_75 : decode cX5_readDeed 75 = .ok (.iload_n 3, 1) := by decide +kernel
theorem dX5_readDeed_76 : decode cX5_readDeed 76 = .ok (.aload_n 1, 1) := by decide +kernel
theorem dX5_readDeed_77 : decode cX5_readDeed 77 = .ok (.getfield 42, 3) := by decide +kernel
theorem dX5_readDeed_80 : decode cX5_readDeed 80 = .ok (.iastore, 1) := by decide +kernel
theorem dX5_readDeed_81 : decode cX5_readDeed 81 = .ok (.aload_n 1, 1) := by decide +kernel
theorem dX5_readDeed_82 : decode cX5_readDeed 82 = .ok (.aload_n 2, 1) := by decide +kernel
theorem dX5_readDeed_83 : decode cX5_readDeed 83 = .ok (.getfield 81, 3) := by decide +kernel
theorem dX5_readDeed_86 : decode cX5_readDeed 86 = .ok (.iload_n 3, 1) := by decide +kernel
theorem dX5_readDeed_87 : decode cX5_readDeed 87 = .ok (.iaload, 1) := by decide +kernel
theorem dX5_readDeed_88 : decode cX5_readDeed 88 = .ok (.bipush 99, 2) := by decide +kernel
theorem dX5_readDeed_90 : decode cX5_readDeed 90 = .ok (.invokestatic 60, 3) := by decide +kernel
theorem dX5_readDeed_93 : decode cX5_readDeed 93 = .ok (.ifCond .ne 5, 3) := by decide +kernel
theorem dX5_readDeed_96 : decode cX5_readDeed 96 = .ok (.iconst 0, 1) := by decide +kernel
theorem dX5_readDeed_97 : decode cX5_readDeed 97 = .ok (.ireturn, 1) := by decide +kernel
theorem dX5_readDeed_98 : decode cX5_readDeed 98 = .ok (.aload_n 2, 1) := by decide +kernel
theorem dX5_readDeed_99 : decode cX5_readDeed 99 = .ok (.getfield 84, 3) := by decide +kernel
theorem dX5_readDeed_102 : decode cX5_readDeed 102 = .ok (.iload_n 3, 1) := by decide +kernel
theorem dX5_readDeed_103 : decode cX5_readDeed 103 = .ok (.aload_n 1, 1) := by decide +kernel
theorem dX5_readDeed_104 : decode cX5_readDeed 104 = .ok (.getfield 42, 3) := by decide +kernel
theorem dX5_readDeed_107 : decode cX5_readDeed 107 = .ok (.iastore, 1) := by decide +kernel
theorem dX5_readDeed_108 : decode cX5_readDeed 108 = .ok (.aload_n 1, 1) := by decide +kernel
theorem dX5_readDeed_109 : decode cX5_readDeed 109 = .ok (.iconst 1, 1) := by decide +kernel
theorem dX5_readDeed_110 : decode cX5_readDeed 110 = .ok (.bipush 20, 2) := by decide +kernel
theorem dX5_readDeed_112 : decode cX5_readDeed 112 = .ok (.invokestatic 60, 3) := by decide +kernel
theorem dX5_readDeed_115 : decode cX5_readDeed 115 = .ok (.ifCond .ne 5, 3) := by decide +kernel
theorem dX5_readDeed_118 : decode cX5_readDeed 118 = .ok (.iconst 0, 1) := by decide +kernel
end
section
theorem dX5_readDeed_119 : decode cX5_readDeed 119 = .ok (.ireturn, 1) := by decide +kernel
theorem dX5_readDeed_120 : decode cX5_readDeed 120 = .ok (.aload_n 2, 1) := by decide +kernel
theorem dX5_readDeed_121 : decode cX5_readDeed 121 = .ok (.getfield 87, 3) := by decide +kernel
theorem dX5_readDeed_124 : decode cX5_readDeed 124 = .ok (.iload_n 3, 1) := by decide +kernel
theorem dX5_readDeed_125 : decode cX5_readDeed 125 = .ok (.aload_n 1, 1) := by decide +kernel
theorem dX5_readDeed_126 : decode cX5_readDeed 126 = .ok (.getfield 42, 3) := by decide +kernel
theorem dX5_readDeed_129 : decode cX5_readDeed 129 = .ok (.iastore, 1) := by decide +kernel
theorem dX5_readDeed_130 : decode cX5_readDeed 130 = .ok (.aload_n 2, 1) := by decide +kernel
theorem dX5_readDeed_131 : decode cX5_readDeed 131 = .ok (.dup, 1) := by decide +kernel
theorem dX5_readDeed_132 : decode cX5_readDeed 132 = .ok (.getfield 72, 3) := by decide +kernel
theorem dX5_readDeed_135 : decode cX5_readDeed 135 = .ok (.iconst 1, 1) := by decide +kernel
theorem dX5_readDeed_136 : decode cX5_readDeed 136 = .ok (.iadd, 1) := by decide +kernel
theorem dX5_readDeed_137 : decode cX5_readDeed 137 = .ok (.putfield 72, 3) := by decide +kernel
theorem dX5_readDeed_140 : decode cX5_readDeed 140 = .ok (.aload_n 1, 1) := by decide +kernel
theorem dX5_readDeed_141 : decode cX5_readDeed 141 = .ok (.invokestatic 68, 3) := by decide +kernel
theorem dX5_readDeed_144 : decode cX5_readDeed 144 = .ok (.ireturn, 1) := by decide +kernel
set_option maxRecDepth 20000 in
theorem ggX5_readOffice_X5_readNumber : GoodIn wsX5_readOffice wsX5_readNumber := goodIn_r _ [7, 8, 2, 9, 10, 11, 12, 13, 14, 15, 16, 17, 18, 19, 20, 21, 22, 23, 24, 25, 26, 27, 28, 29, 30, 31, 32, 33, 39, 40, 41, 42, 43, 44] (by decide +kernel) (by decide +kernel)
set_option maxRecDepth 20000 in
theorem gX5_readOffice_X5_readNumber : GoodIn wsX5_readOffice (va_wsS RX5 60 yX5_readNumber wsX5_readNumber) := goodIn_app (goodIn_of _ (by decide +kernel)) ggX5_readOffice_X5_readNumber
set_option maxRecDepth 20000 in
theorem ggX5_readOffice_X5_readStop : GoodIn wsX5_readOffice wsX5_readStop := goodIn_r _ [36, 8, 9, 10, 11, 12, 13, 14, 15, 16, 17, 18, 19, 20, 21, 22, 23, 24, 25, 26, 27, 28, 29, 30, 31, 32, 33, 39, 40, 41, 42, 43, 44] (by decide +kernel) (by decide +kernel)
set_option maxRecDepth 20000 in
theorem gX5_readOffice_X5_readStop : GoodIn wsX5_readOffice (va_wsS RX5 68 yX5_readStop wsX5_readStop) := goodIn_app (goodIn_of _ (by decide +kernel)) ggX5_readOffice_X5_readStop
theorem dX5_readOffice_0 : decode cX5_readOffice 0 = .ok (.aload_n 0, 1) := by decide +kernel
theorem dX5_readOffice_1 : decode cX5_readOffice 1 = .ok (.getfield 19, 3) := by decide +kernel
theorem dX5_readOffice_4 : decode cX5_readOffice 4 = .ok (.ifCond .ne 13, 3) := by decide +kernel
theorem dX5_readOffice_7 : decode cX5_readOffice 7 = .ok (.aload_n 1, 1) := by decide +kernel
theorem dX5_readOffice_8 : decode cX5_readOffice 8 = .ok (.iconst 0, 1) := by decide +kernel
theorem dX5_readOffice_9 : decode cX5_readOffice 9 = .ok (.bipush 30, 2) := by decide +kernel
theorem dX5_readOffice_11 : decode cX5_readOffice 11 = .ok (.invokestatic 60, 3) := by decide +kernel
theorem dX5_readOffice_14 : decode cX5_readOffice 14 = .ok (.ifCond .ne 5, 3) := by decide +kernel
theorem dX5_readOffice_17 : decode cX5_readOffice 17 = .ok (.iconst 0, 1) := by decide +kernel
theorem dX5_readOffice_18 : decode cX5_readOffice 18 = .ok (.ireturn, 1) := by decide +kernel
theorem dX5_readOffice_19 : decode cX5_readOffice 19 = .ok (.aload_n 0, 1) := by decide +kernel
theorem dX5_readOffice_20 : decode cX5_readOffice 20 = .ok (.iconst 1, 1) := by decide +kernel
theorem dX5_readOffice_21 : decode cX5_readOffice 21 = .ok (.putfield 19, 3) := by decide +kernel
theorem dX5_readOffice_24 : decode cX5_readOffice 24 = .ok (.aload_n 2, 1) := by decide +kernel
theorem dX5_readOffice_25 : decode cX5_readOffice 25 = .ok (.aload_n 1, 1) := by decide +kernel
theorem dX5_readOffice_26 : decode cX5_readOffice 26 = .ok (.getfield 42, 3) := by decide +kernel
theorem dX5_readOffice_29 : decode cX5_readOffice 29 = .ok (.putfield 90, 3) := by decide +kernel
theorem dX5_readOffice_32 : decode cX5_readOffice 32 = .ok (.aload_n 1, 1) := by decide +kernel
theorem dX5_readOffice_33 : decode cX5_readOffice 33 = .ok (.invokestatic 68, 3) := by decide +kernel
theorem dX5_readOffice_36 : decode cX5_readOffice 36 = .ok (.ireturn, 1) := by decide +kernel
set_option maxRecDepth 20000 in
theorem ggX5_readFree_X5_readNumber : GoodIn wsX5_readFree wsX5_readNumber := goodIn_r _ [7, 8, 2, 9, 10, 11, 12, 13, 14, 15, 16, 17, 18, 19, 20, 21, 22, 23, 24, 25, 26, 27, 28, 29, 30, 31, 32, 33, 39, 40, 41, 42, 43, 44] (by decide +kernel) (by decide +kernel)
set_option maxRecDepth 20000 in
theorem gX5_readFree_X5_readNumber : GoodIn wsX5_readFree (va_wsS RX5 60 yX5_readNumber wsX5_readNumber) := goodIn_app (goodIn_of _ (by decide +kernel)) ggX5_readFree_X5_readNumber
set_option maxRecDepth 20000 in
theorem ggX5_readFree_X5_readStop : GoodIn wsX5_readFree wsX5_readStop := goodIn_r _ [36, 8, 9, 10, 11, 12, 13, 14, 15, 16, 17, 18, 19, 20, 21, 22, 23, 24, 25, 26, 27, 28, 29, 30, 31, 32, 33, 39, 40, 41, 42, 43, 44] (by decide +kernel) (by decide +kernel)
set_option maxRecDepth 20000 in
theorem gX5_readFree_X5_readStop : GoodIn wsX5_readFree (va_wsS RX5 68 yX5_readStop wsX5_readStop) := goodIn_app (goodIn_of _ (by decide +kernel)) ggX5_readFree_X5_readStop
theorem dX5_readFree_0 : decode cX5_readFree 0 = .ok (.aload_n 0, 1) := by decide +kernel
theorem dX5_readFree_1 : decode cX5_readFree 1 = .ok (.getfield 25, 3) := by decide +kernel
theorem dX5_readFree_4 : decode cX5_readFree 4 = .ok (.ifCond .ne 13, 3) := by decide +kernel
theorem dX5_readFree_7 : decode cX5_readFree 7 = .ok (.aload_n 1, 1) := by decide +kernel
theorem dX5_readFree_8 : decode cX5_readFree 8 = .ok (.iconst 0, 1) := by decide +kernel
theorem dX5_readFree_9 : decode cX5_readFree 9 = .ok (.bipush 9, 2) := by decide +kernel
theorem dX5_readFree_11 : decode cX5_readFree 11 = .ok (.invokestatic 60, 3) := by decide +kernel
theorem dX5_readFree_14 : decode cX5_readFree 14 = .ok (.ifCond .ne 5, 3) := by decide +kernel
theorem dX5_readFree_17 : decode cX5_readFree 17 = .ok (.iconst 0, 1) := by decide +kernel
theorem dX5_readFree_18 : decode cX5_readFree 18 = .ok (.ireturn, 1) := by decide +kernel
theorem dX5_readFree_19 : decode cX5_readFree 19 = .ok (.aload_n 0, 1) := by decide +kernel
theorem dX5_readFree_20 : decode cX5_readFree 20 = .ok (.iconst 1, 1) := by decide +kernel
theorem dX5_readFree_21 : decode cX5_readFree 21 = .ok (.putfield 25, 3) := by decide +kernel
theorem dX5_readFree_24 : decode cX5_readFree 24 = .ok (.aload_n 2, 1) := by decide +kernel
theorem dX5_readFree_25 : decode cX5_readFree 25 = .ok (.aload_n 1, 1) := by decide +kernel
theorem dX5_readFree_26 : decode cX5_readFree 26 = .ok (.getfield 42, 3) := by decide +kernel
theorem dX5_readFree_29 : decode cX5_readFree 29 = .ok (.putfield 93, 3) := by decide +kernel
theorem dX5_readFree_32 : decode cX5_readFree 32 = .ok (.aload_n 1, 1) := by decide +kernel
theorem dX5_readFree_33 : decode cX5_readFree 33 = .ok (.invokestatic 68, 3) := by decide +kernel
theorem dX5_readFree_36 : decode cX5_readFree 36 = .ok (.ireturn, 1) := by decide +kernel
set_option maxRecDepth 20000 in
theorem ggX5_readNumber_X8_readToken : GoodIn wsX5_readNumber wsX8_readToken := goodIn_r _ [7, 8, 9, 10, 11, 12, 13, 14, 15, 6, 16, 17, 18, 19, 20, 21, 22, 23, 24, 25, 26, 27, 28, 29, 30, 31, 32, 33] (by decide +kernel) (by decide +kernel)
set_option maxRecDepth 20000 in
theorem gX5_readNumber_X8_readToken : GoodIn wsX5_readNumber (wsV RX5 28 RX8 yX8_readToken wsX8_readToken) := goodIn_app (goodIn_of _ (by decide +kernel)) ggX5_readNumber_X8_readToken
theorem dX5_readNumber_0 : decode cX5_readNumber 0 = .ok (.aload_n 0, 1) := by decide +kernel
theorem dX5_readNumber_1 : decode cX5_readNumber 1 = .ok (.invokevirtual 28, 3) := by decide +kernel
theorem dX5_readNumber_4 : decode cX5_readNumber 4 = .ok (.aload_n 0, 1) := by decide +kernel
theorem dX5_readNumber_5 : decode cX5_readNumber 5 = .ok (.getfield 31, 3) := by decide +kernel
theorem dX5_readNumber_8 : decode cX5_readNumber 8 = .ok (.iconst 2, 1) := by decide +kernel
theorem dX5_readNumber_9 : decode cX5_readNumber 9 = .ok (.if_icmp .ne 23, 3) := by decide +kernel
theorem dX5_readNumber_12 : decode cX5_readNumber 12 = .ok (.aload_n 0, 1) := by decide +kernel
theorem dX5_readNumber_13 : decode cX5_readNumber 13 = .ok (.getfield 42, 3) := by decide +kernel
theorem dX5_readNumber_16 : decode cX5_readNumber 16 = .ok (.iload_n 1, 1) := by decide +kernel
theorem dX5_readNumber_17 : decode cX5_readNumber 17 = .ok (.if_icmp .lt 15, 3) := by decide +kernel
theorem dX5_readNumber_20 : decode cX5_readNumber 20 = .ok (.aload_n 0, 1) := by decide +kernel
theorem dX5_readNumber_21 : decode cX5_readNumber 21 = .ok (.getfield 42, 3) := by decide +kernel
theorem dX5_readNumber_24 : decode cX5_readNumber 24 = .ok (.iload_n 2, 1) := by decide +kernel
theorem dX5_readNumber_25 : decode cX5_readNumber 25 = .ok (.if_icmp .gt 7, 3) := by decide +kernel
theorem dX5_readNumber_28 : decode cX5_readNumber 28 = .ok (.iconst 1, 1) := by decide +kernel
theorem dX5_readNumber_29 : decode cX5_readNumber 29 = .ok (.goto 4, 3) := by decide +kernel
theorem dX5_readNumber_32 : decode cX5_readNumber 32 = .ok (.iconst 0, 1) := by decide +kernel
theorem dX5_readNumber_33 : decode cX5_readNumber 33 = .ok (.ireturn, 1) := by decide +kernel
set_option maxRecDepth 20000 in
theorem ggX5_readStop_X8_readToken : GoodIn wsX5_readStop wsX8_readToken := goodIn_r _ [6, 7, 8, 9, 10, 11, 12, 13, 14, 5, 15, 16, 17, 18, 19, 20, 21, 22, 23, 24, 25, 26, 27, 28, 29, 30, 31, 32] (by decide +kernel) (by decide +kernel)
set_option maxRecDepth 20000 in
theorem gX5_readStop_X8_readToken : GoodIn wsX5_readStop (wsV RX5 28 RX8 yX8_readToken wsX8_readToken) := goodIn_app (goodIn_of _ (by decide +kernel)) ggX5_readStop_X8_readToken
theorem dX5_readStop_0 : decode cX5_readStop 0 = .ok (.aload_n 0, 1) := by decide +kernel
theorem dX5_readStop_1 : decode cX5_readStop 1 = .ok (.invokevirtual 28, 3) := by decide +kernel
theorem dX5_readStop_4 : decode cX5_readStop 4 = .ok (.aload_n 0, 1) := by decide +kernel
theorem dX5_readStop_5 : decode cX5_readStop 5 = .ok (.getfield 31, 3) := by decide +kernel
theorem dX5_readStop_8 : decode cX5_readStop 8 = .ok (.iconst 3, 1) := by decide +kernel
theorem dX5_readStop_9 : decode cX5_readStop 9 = .ok (.if_icmp .ne 7, 3) := by decide +kernel
theorem dX5_readStop_12 : decode cX5_readStop 12 = .ok (.iconst 1, 1) := by decide +kernel
theorem dX5_readStop_13 : decode cX5_readStop 13 = .ok (.goto 4, 3) := by decide +kernel
theorem dX5_readStop_16 : decode cX5_readStop 16 = .ok (.iconst 0, 1) := by decide +kernel
theorem dX5_readStop_17 : decode cX5_readStop 17 = .ok (.ireturn, 1) := by decide +kernel
theorem dX6_init_0 : decode cX6_init 0 = .ok (.aload_n 0, 1) := by decide +kernel
theorem dX6_init_1 : decode cX6_init 1 = .ok (.invokespecial 3, 3) := by decide +kernel
theorem dX6_init_4 : decode cX6_init 4 = .ok (.aload_n 0, 1) := by decide +kernel
theorem dX6_init_5 : decode cX6_init 5 = .ok (.bipush 8, 2) := by decide +kernel
theorem dX6_init_7 : decode cX6_init 7 = .ok (.newarray .int, 2) := by decide +kernel
theorem dX6_init_9 : decode cX6_init 9 = .ok (.putfield 9, 3) := by decide +kernel
theorem dX6_init_12 : decode cX6_init 12 = .ok (.aload_n 0, 1) := by decide +kernel
theorem dX6_init_13 : decode cX6_init 13 = .ok (.bipush 8, 2) := by decide +kernel
theorem dX6_init_15 : decode cX6_init 15 = .ok (.newarray .int, 2) := by decide +kernel
theorem dX6_init_17 : decode cX6_init 17 = .ok (.putfield 15, 3) := by decide +kernel
theorem dX6_init_20 : decode cX6_init 20 = .ok (.return_, 1) := by decide +kernel
set_option maxRecDepth 20000 in
theorem ggX6_find_X9_begin : GoodIn wsX6_find wsX9_begin := goodIn_r _ [9, 10, 11, 12, 13, 14, 15, 16, 17, 18, 19, 20, 21, 22, 23, 24, 25, 26, 27, 28, 29, 30, 31, 32, 33, 92, 93, 94, 95, 96, 97, 98, 99, 100, 101, 102, 103, 104, 105, 106, 107, 108, 109, 110, 111, 112, 113] (by decide +kernel) (by decide +kernel)
set_option maxRecDepth 20000 in
theorem gX6_find_X9_begin : GoodIn wsX6_find (wsV RX6 31 RX9 yX9_begin wsX9_begin) := goodIn_app (goodIn_of _ (by decide +kernel)) ggX6_find_X9_begin
set_option maxRecDepth 20000 in
theorem ggX6_find_X2_openDeeds : GoodIn wsX6_find wsX2_openDeeds := goodIn_r _ [37, 38, 39, 104, 105, 106, 107, 108, 109, 110, 111, 112, 113, 92, 93, 94, 95, 96, 97, 98, 99] (by decide +kernel) (by decide +kernel)
set_option maxRecDepth 20000 in
theorem gX6_find_X2_openDeeds : GoodIn wsX6_find (wsV RX6 37 RX2 yX2_openDeeds wsX2_openDeeds) := goodIn_app (goodIn_of _ (by decide +kernel)) ggX6_find_X2_openDeeds
set_option maxRecDepth 20000 in
theorem ggX6_find_X6_tryRows : GoodIn wsX6_find wsX6_tryRows := goodIn_r _ [44, 2, 45, 4, 46, 47, 48, 49, 50, 51, 52, 53, 54, 55, 43, 56, 57, 58, 13, 14, 15, 1, 59, 60, 61, 62, 63, 64, 65, 66, 67, 68, 69, 70, 71, 72, 73, 74, 75, 8, 76, 77, 21, 18, 16, 11, 78, 79, 80, 81, 82, 83, 84, 85, 86, 40, 41, 42, 87, 88, 89, 90, 91, 100, 101, 102, 103, 104, 105, 106, 107, 108, 109, 110, 111, 112, 113] (by decide +kernel) (by decide +kernel)
set_option maxRecDepth 20000 in
theorem gX6_find_X6_tryRows : GoodIn wsX6_find (wsV RX6 41 RX6 yX6_tryRows wsX6_tryRows) := goodIn_app (goodIn_of _ (by decide +kernel)) ggX6_find_X6_tryRows
theorem dX6_find_0 : decode cX6_find 0 = .ok (.aload_n 0, 1) := by decide +kernel
theorem dX6_find_1 : decode cX6_find 1 = .ok (.iconst 0, 1) := by decide +kernel
theorem dX6_find_2 : decode cX6_find 2 = .ok (.putfield 18, 3) := by decide +kernel
theorem dX6_find_5 : decode cX6_find 5 = .ok (.aload_n 0, 1) := by decide +kernel
theorem dX6_find_6 : decode cX6_find 6 = .ok (.iconst 0, 1) := by decide +kernel
theorem dX6_find_7 : decode cX6_find 7 = .ok (.putfield 22, 3) := by decide +kernel
theorem dX6_find_10 : decode cX6_find 10 = .ok (.aload_n 0, 1) := by decide +kernel
theorem dX6_find_11 : decode cX6_find 11 = .ok (.aload_n 2, 1) := by decide +kernel
theorem dX6_find_12 : decode cX6_find 12 = .ok (.getfield 25, 3) := by decide +kernel
theorem dX6_find_15 : decode cX6_find 15 = .ok (.putfield 30, 3) := by decide +kernel
theorem dX6_find_18 : decode cX6_find 18 = .ok (.aload_n 3, 1) := by decide +kernel
theorem dX6_find_19 : decode cX6_find 19 = .ok (.aload_n 1, 1) := by decide +kernel
theorem dX6_find_20 : decode cX6_find 20 = .ok (.aload_n 2, 1) := by decide +kernel
theorem dX6_find_21 : decode cX6_find 21 = .ok (.invokevirtual 31, 3) := by decide +kernel
theorem dX6_find_24 : decode cX6_find 24 = .ok (.aload_n 0, 1) := by decide +kernel
theorem dX6_find_25 : decode cX6_find 25 = .ok (.aload_n 1, 1) := by decide +kernel
theorem dX6_find_26 : decode cX6_find 26 = .ok (.aload_n 3, 1) := by decide +kernel
theorem dX6_find_27 : decode cX6_find 27 = .ok (.iconst 0, 1) := by decide +kernel
theorem dX6_find_28 : decode cX6_find 28 = .ok (.aload_n 2, 1) := by decide +kernel
theorem dX6_find_29 : decode cX6_find 29 = .ok (.aload_n 1, 1) := by decide +kernel
theorem dX6_find_30 : decode cX6_find 30 = .ok (.invokevirtual 37, 3) := by decide +kernel
theorem dX6_find_33 : decode cX6_find 33 = .ok (.iconst 0, 1) := by decide +kernel
theorem dX6_find_34 : decode cX6_find 34 = .ok (.invokevirtual 41, 3) := by decide +kernel
theorem dX6_find_37 : decode cX6_find 37 = .ok (.return_, 1) := by decide +kernel
set_option maxRecDepth 20000 in
theorem ggX6_tryRows_X6_rememberRow : GoodIn wsX6_tryRows wsX6_rememberRow := goodIn_r _ [15, 9, 16, 17, 18, 19, 20, 21, 1, 3, 58, 59, 60, 61, 62] (by decide +kernel) (by decide +kernel)
set_option maxRecDepth 20000 in
theorem gX6_tryRows_X6_rememberRow : GoodIn wsX6_tryRows (wsV RX6 46 RX6 yX6_rememberRow wsX6_rememberRow) := goodIn_app (goodIn_of _ (by decide +kernel)) ggX6_tryRows_X6_rememberRow
set_option maxRecDepth 20000 in
theorem ggX6_tryRows_X6_canBecomeBetter : GoodIn wsX6_tryRows wsX6_canBecomeBetter := goodIn_r _ [25, 2, 6, 4, 26, 27, 28, 29, 30, 31, 32, 33, 34, 35, 10, 1, 3, 63, 64, 65, 66, 67, 68, 69, 70, 71, 72, 73, 74, 75, 76, 58, 59, 60, 61, 62] (by decide +kernel) (by decide +kernel)
set_option maxRecDepth 20000 in
theorem gX6_tryRows_X6_canBecomeBetter : GoodIn wsX6_tryRows (wsV RX6 50 RX6 yX6_canBecomeBetter wsX6_canBecomeBetter) := goodIn_app (goodIn_of _ (by decide +kernel)) ggX6_tryRows_X6_canBecomeBetter
set_option maxRecDepth 20000 in
theorem ggX6_tryRows_X9_hourOfNext : GoodIn wsX6_tryRows wsX9_hourOfNext := goodIn_r _ [40, 41, 42, 43, 44, 45, 46, 28, 29, 30, 47, 48, 49, 33, 34, 50, 67, 68, 69, 70, 71, 72, 73, 74, 75, 76, 63, 64, 65, 66] (by decide +kernel) (by decide +kernel)
set_option maxRecDepth 20000 in
theorem gX6_tryRows_X9_hourOfNext : GoodIn wsX6_tryRows (wsV RX6 65 RX9 yX9_hourOfNext wsX9_hourOfNext) := goodIn_app (goodIn_of _ (by decide +kernel)) ggX6_tryRows_X9_hourOfNext
set_option maxRecDepth 20000 in
theorem ggX6_tryRows_X9_add : GoodIn wsX6_tryRows wsX9_add := goodIn_r _ [54, 41, 45, 47, 44, 43, 42, 67, 68, 69, 70, 71, 72, 73, 74, 75, 76, 63, 64, 65, 66] (by decide +kernel) (by decide +kernel)
set_option maxRecDepth 20000 in
theorem gX6_tryRows_X9_add : GoodIn wsX6_tryRows (wsV RX6 75 RX9 yX9_add wsX9_add) := goodIn_app (goodIn_of _ (by decide +kernel)) ggX6_tryRows_X9_add
set_option maxRecDepth 20000 in
theorem ggX6_tryRows_X6_tryRows : GoodIn wsX6_tryRows wsX6_tryRows := goodIn_r _ [0, 1, 2, 3, 4, 5, 6, 7, 8, 9, 10, 11, 12, 13, 14, 15, 16, 17, 18, 19, 20, 21, 22, 23, 24, 25, 26, 27, 28, 29, 30, 31, 32, 33, 34, 35, 36, 37, 38, 39, 40, 41, 42, 43, 44, 45, 46, 47, 48, 49, 50, 51, 52, 53, 54, 55, 56, 57, 58, 59, 60, 61, 62, 63, 64, 65, 66, 67, 68, 69, 70, 71, 72, 73, 74, 75, 76] (by decide +kernel) (by decide +kernel)
set_option maxRecDepth 20000 in
theorem gX6_tryRows_X6_tryRows : GoodIn wsX6_tryRows (wsV RX6 41 RX6 yX6_tryRows wsX6_tryRows) := goodIn_app (goodIn_of _ (by decide +kernel)) ggX6_tryRows_X6_tryRows
theorem dX6_tryRows_0 : decode cX6_tryRows 0 = .ok (.iload 5, 2) := by decide +kernel
theorem dX6_tryRows_2 : decode cX6_tryRows 2 = .ok (.aload_n 0, 1) := by decide +kernel
theorem dX6_tryRows_3 : decode cX6_tryRows 3 = .ok (.getfield 22, 3) := by decide +kernel
theorem dX6_tryRows_6 : decode cX6_tryRows 6 = .ok (.if_icmp .gt 23, 3) := by decide +kernel
theorem dX6_tryRows_9 : decode cX6_tryRows 9 = .ok (.iload 5, 2) := by decide +kernel
theorem dX6_tryRows_11 : decode cX6_tryRows 11 = .ok (.aload_n 0, 1) := by decide +kernel
theorem dX6_tryRows_12 : decode cX6_tryRows 12 = .ok (.getfield 22, 3) := by decide +kernel
theorem dX6_tryRows_15 : decode cX6_tryRows 15 = .ok (.if_icmp .ne 25, 3) := by decide +kernel
theorem dX6_tryRows_18 : decode cX6_tryRows 18 = .ok (.aload_n 2, 1) := by decide +kernel
theorem dX6_tryRows_19 : decode cX6_tryRows 19 = .ok (.getfield 45, 3) := by decide +kernel
theorem dX6_tryRows_22 : decode cX6_tryRows 22 = .ok (.aload_n 0, 1) := by decide +kernel
theorem dX6_tryRows_23 : decode cX6_tryRows 23 = .ok (.getfield 30, 3) := by decide +kernel
theorem dX6_tryRows_26 : decode cX6_tryRows 26 = .ok (.if_icmp .ge 14, 3) := by decide +kernel
theorem dX6_tryRows_29 : decode cX6_tryRows 29 = .ok (.aload_n 0, 1) := by decide +kernel
theorem dX6_tryRows_30 : decode cX6_tryRows 30 = .ok (.iload_n 3, 1) := by decide +kernel
theorem dX6_tryRows_31 : decode cX6_tryRows 31 = .ok (.iload 5, 2) := by decide +kernel
theorem dX6_tryRows_33 : decode cX6_tryRows 33 = .ok (.aload_n 2, 1) := by decide +kernel
theorem dX6_tryRows_34 : decode cX6_tryRows 34 = .ok (.getfield 45, 3) := by decide +kernel
theorem dX6_tryRows_37 : decode cX6_tryRows 37 = .ok (.invokevirtual 46, 3) := by decide +kernel
theorem dX6_tryRows_40 : decode cX6_tryRows 40 = .ok (.iload_n 3, 1) := by decide +kernel
theorem dX6_tryRows_41 : decode cX6_tryRows 41 = .ok (.bipush 8, 2) := by decide +kernel
theorem dX6_tryRows_43 : decode cX6_tryRows 43 = .ok (.if_icmp .ge 16, 3) := by decide +kernel
theorem dX6_tryRows_46 : decode cX6_tryRows 46 = .ok (.aload_n 0, 1) := by decide +kernel
theorem dX6_tryRows_47 : decode cX6_tryRows 47 = .ok (.aload_n 1, 1) := by decide +kernel
theorem dX6_tryRows_48 : decode cX6_tryRows 48 = .ok (.aload_n 2, 1) := by decide +kernel
theorem dX6_tryRows_49 : decode cX6_tryRows 49 = .ok (.iload 4, 2) := by decide +kernel
theorem dX6_tryRows_51 : decode cX6_tryRows 51 = .ok (.iload 5, 2) := by decide +kernel
theorem dX6_tryRows_53 : decode cX6_tryRows 53 = .ok (.invokevirtual 50, 3) := by decide +kernel
theorem dX6_tryRows_56 : decode cX6_tryRows 56 = .ok (.ifCond .ne 4, 3) := by decide +kernel
theorem dX6_tryRows_59 : decode cX6_tryRows 59 = .ok (.return_, 1) := by decide +kernel
theorem dX6_tryRows_60 : decode cX6_tryRows 60 = .ok (.aload_n 2, 1) := by decide +kernel
theorem dX6_tryRows_61 : decode cX6_tryRows 61 = .ok (.getfield 54, 3) := by decide +kernel
theorem dX6_tryRows_64 : decode cX6_tryRows 64 = .ok (.istore 6, 2) := by decide +kernel
theorem dX6_tryRows_66 : decode cX6_tryRows 66 = .ok (.aload_n 2, 1) := by decide +kernel
theorem dX6_tryRows_67 : decode cX6_tryRows 67 = .ok (.getfield 45, 3) := by decide +kernel
theorem dX6_tryRows_70 : decode cX6_tryRows 70 = .ok (.istore 7, 2) := by decide +kernel
theorem dX6_tryRows_72 : decode cX6_tryRows 72 = .ok (.aload_n 2, 1) := by decide +kernel
theorem dX6_tryRows_73 : decode cX6_tryRows 73 = .ok (.getfield 57, 3) := by decide +kernel
theorem dX6_tryRows_76 : decode cX6_tryRows 76 = .ok (.istore 8, 2) := by decide +kernel
theorem dX6_tryRows_78 : decode cX6_tryRows 78 = .ok (.iconst 0, 1) := by decide +kernel
theorem dX6_tryRows_79 : decode cX6_tryRows 79 = .ok (.istore 9, 2) := by decide +kernel
theorem dX6_tryRows_81 : decode cX6_tryRows 81 = .ok (.iload 9, 2) := by decide +kernel
theorem dX6_tryRows_83 : decode cX6_tryRows 83 = .ok (.aload_n 1, 1) := by decide +kernel
theorem dX6_tryRows_84 : decode cX6_tryRows 84 = .ok (.getfield 60, 3) := by decide +kernel
theorem dX6_tryRows_87 : decode cX6_tryRows 87 = .ok (.if_icmp .ge 134, 3) := by decide +kernel
theorem dX6_tryRows_90 : decode cX6_tryRows 90 = .ok (.iload 4, 2) := by decide +kernel
theorem dX6_tryRows_92 : decode cX6_tryRows 92 = .ok (.iload 9, 2) := by decide +kernel
theorem dX6_tryRows_94 : decode cX6_tryRows 94 = .ok (.ishr, 1) := by decide +kernel
theorem dX6_tryRows_95 : decode cX6_tryRows 95 = .ok (.iconst 1, 1) := by decide +kernel
theorem dX6_tryRows_96 : decode cX6_tryRows 96 = .ok (.iand, 1) := by decide +kernel
theorem dX6_tryRows_97 : decode cX6_tryRows 97 = .ok (.iconst 1, 1) := by decide +kernel
theorem dX6_tryRows_98 : decode cX6_tryRows 98 = .ok (.if_icmp .ne 13, 3) := by decide +kernel
theorem dX6_tryRows_101 : decode cX6_tryRows 101 = .ok (.aload_n 2, 1) := by decide +kernel
theorem dX6_tryRows_102 : decode cX6_tryRows 102 = .ok (.aload_n 1, 1) := by decide +kernel
theorem dX6_tryRows_103 : decode cX6_tryRows 103 = .ok (.iload 9, 2) := by decide +kernel
theorem dX6_tryRows_105 : decode cX6_tryRows 105 = .ok (.invokevirtual 65, 3) := by decide +kernel
theorem dX6_tryRows_108 : decode cX6_tryRows 108 = .ok (.goto 5, 3) := by decide +kernel
theorem dX6_tryRows_111 : decode cX6_tryRows 111 = .ok (.bipush (-9), 2) := by decide +kernel
theorem dX6_tryRows_113 : decode cX6_tryRows 113 = .ok (.istore 10, 2) := by decide +kernel
theorem dX6_tryRows_115 : decode cX6_tryRows 115 = .ok (.iload 10, 2) := by decide +kernel
theorem dX6_tryRows_117 : decode cX6_tryRows 117 = .ok (.bipush (-9), 2) := by decide +kernel
theorem dX6_tryRows_119 : decode cX6_tryRows 119 = .ok (.if_icmp .ne 6, 3) := by decide +kernel
theorem dX6_tryRows_122 : decode cX6_tryRows 122 = .ok (.goto 93, 3) := by decide +kernel
theorem dX6_tryRows_125 : decode cX6_tryRows 125 = .ok (.aload_n 1, 1) := by decide +kernel
theorem dX6_tryRows_126 : decode cX6_tryRows 126 = .ok (.getfield 69, 3) := by decide +kernel
theorem dX6_tryRows_129 : decode cX6_tryRows 129 = .ok (.iload 9, 2) := by decide +kernel
theorem dX6_tryRows_131 : decode cX6_tryRows 131 = .ok (.iaload, 1) := by decide +kernel
theorem dX6_tryRows_132 : decode cX6_tryRows 132 = .ok (.istore 11, 2) := by decide +kernel
theorem dX6_tryRows_134 : decode cX6_tryRows 134 = .ok (.aload_n 2, 1) := by decide +kernel
theorem dX6_tryRows_135 : decode cX6_tryRows 135 = .ok (.getfield 72, 3) := by decide +kernel
theorem dX6_tryRows_138 : decode cX6_tryRows 138 = .ok (.iload 11, 2) := by decide +kernel
theorem dX6_tryRows_140 : decode cX6_tryRows 140 = .ok (.iaload, 1) := by decide +kernel
theorem dX6_tryRows_141 : decode cX6_tryRows 141 = .ok (.istore 12, 2) := by decide +kernel
theorem dX6_tryRows_143 : decode cX6_tryRows 143 = .ok (.aload_n 0, 1) := by decide +kernel
theorem dX6_tryRows_144 : decode cX6_tryRows 144 = .ok (.getfield 15, 3) := by decide +kernel
theorem dX6_tryRows_147 : decode cX6_tryRows 147 = .ok (.iload_n 3, 1) := by decide +kernel
theorem dX6_tryRows_148 : decode cX6_tryRows 148 = .ok (.iload 9, 2) := by decide +kernel
theorem dX6_tryRows_150 : decode cX6_tryRows 150 = .ok (.iastore, 1) := by decide +kernel
theorem dX6_tryRows_151 : decode cX6_tryRows 151 = .ok (.aload_n 2, 1) := by decide +kernel
theorem dX6_tryRows_152 : decode cX6_tryRows 152 = .ok (.aload_n 1, 1) := by decide +kernel
theorem dX6_tryRows_153 : decode cX6_tryRows 153 = .ok (.iload 9, 2) := by decide +kernel
theorem dX6_tryRows_155 : decode cX6_tryRows 155 = .ok (.iload 10, 2) := by decide +kernel
theorem dX6_tryRows_157 : decode cX6_tryRows 157 = .ok (.invokevirtual 75, 3) := by decide +kernel
theorem dX6_tryRows_160 : decode cX6_tryRows 160 = .ok (.aload_n 0, 1) := by decide +kernel
theorem dX6_tryRows_161 : decode cX6_tryRows 161 = .ok (.aload_n 1, 1) := by decide +kernel
theorem dX6_tryRows_162 : decode cX6_tryRows 162 = .ok (.aload_n 2, 1) := by decide +kernel
theorem dX6_tryRows_163 : decode cX6_tryRows 163 = .ok (.iload_n 3, 1) := by decide +kernel
theorem dX6_tryRows_164 : decode cX6_tryRows 164 = .ok (.iconst 1, 1) := by decide +kernel
theorem dX6_tryRows_165 : decode cX6_tryRows 165 = .ok (.iadd, 1) := by decide +kernel
theorem dX6_tryRows_166 : decode cX6_tryRows 166 = .ok (.iload 4, 2) := by decide +kernel
theorem dX6_tryRows_168 : decode cX6_tryRows 168 = .ok (.iconst 1, 1) := by decide +kernel
theorem dX6_tryRows_169 : decode cX6_tryRows 169 = .ok (.iload 9, 2) := by decide +kernel
theorem dX6_tryRows_171 : decode cX6_tryRows 171 = .ok (.ishl, 1) := by decide +kernel
theorem dX6_tryRows_172 : decode cX6_tryRows 172 = .ok (.iconst (-1), 1) := by decide +kernel
theorem dX6_tryRows_173 : decode cX6_tryRows 173 = .ok (.ixor, 1) := by decide +kernel
theorem dX6_tryRows_174 : decode cX6_tryRows 174 = .ok (.iand, 1) := by decide +kernel
theorem dX6_tryRows_175 : decode cX6_tryRows 175 = .ok (.iload 5, 2) := by decide +kernel
theorem dX6_tryRows_177 : decode cX6_tryRows 177 = .ok (.aload_n 1, 1) := by decide +kernel
theorem dX6_tryRows_178 : decode cX6_tryRows 178 = .ok (.getfield 79, 3) := by decide +kernel
theorem dX6_tryRows_181 : decode cX6_tryRows 181 = .ok (.iload 9, 2) := by decide +kernel
theorem dX6_tryRows_183 : decode cX6_tryRows 183 = .ok (.iaload, 1) := by decide +kernel
theorem dX6_tryRows_184 : decode cX6_tryRows 184 = .ok (.iadd, 1) := by decide +kernel
theorem dX6_tryRows_185 : decode cX6_tryRows 185 = .ok (.invokevirtual 41, 3) := by decide +kernel
theorem dX6_tryRows_188 : decode cX6_tryRows 188 = .ok (.aload_n 2, 1) := by decide +kernel
theorem dX6_tryRows_189 : decode cX6_tryRows 189 = .ok (.getfield 72, 3) := by decide +kernel
theorem dX6_tryRows_192 : decode cX6_tryRows 192 = .ok (.iload 11, 2) := by decide +kernel
theorem dX6_tryRows_194 : decode cX6_tryRows 194 = .ok (.iload 12, 2) := by decide +kernel
theorem dX6_tryRows_196 : decode cX6_tryRows 196 = .ok (.iastore, 1) := by decide +kernel
theorem dX6_tryRows_197 : decode cX6_tryRows 197 = .ok (.aload_n 2, 1) := by decide +kernel
theorem dX6_tryRows_198 : decode cX6_tryRows 198 = .ok (.iload 6, 2) := by decide +kernel
theorem dX6_tryRows_200 : decode cX6_tryRows 200 = .ok (.putfield 54, 3) := by decide +kernel
theorem dX6_tryRows_203 : decode cX6_tryRows 203 = .ok (.aload_n 2, 1) := by decide +kernel
theorem dX6_tryRows_204 : decode cX6_tryRows 204 = .ok (.iload 7, 2) := by decide +kernel
theorem dX6_tryRows_206 : decode cX6_tryRows 206 = .ok (.putfield 45, 3) := by decide +kernel
theorem dX6_tryRows_209 : decode cX6_tryRows 209 = .ok (.aload_n 2, 1) := by decide +kernel
theorem dX6_tryRows_210 : decode cX6_tryRows 210 = .ok (.iload 8, 2) := by decide +kernel
theorem dX6_tryRows_212 : decode cX6_tryRows 212 = .ok (.putfield 57, 3) := by decide +kernel
theorem dX6_tryRows_215 : decode cX6_tryRows 215 = .ok (.iinc 9 1, 3) := by decide +kernel
theorem dX6_tryRows_218 : decode cX6_tryRows 218 = .ok (.goto (-137), 3) := by decide +kernel
theorem dX6_tryRows_221 : decode cX6_tryRows 221 = .ok (.return_, 1) := by decide +kernel
theorem dX6_rememberRow_0 : decode cX6_rememberRow 0 = .ok (.aload_n 0, 1) := by decide +kernel
theorem dX6_rememberRow_1 : decode cX6_rememberRow 1 = .ok (.getfield 15, 3) := by decide +kernel
theorem dX6_rememberRow_4 : decode cX6_rememberRow 4 = .ok (.iconst 0, 1) := by decide +kernel
theorem dX6_rememberRow_5 : decode cX6_rememberRow 5 = .ok (.aload_n 0, 1) := by decide +kernel
theorem dX6_rememberRow_6 : decode cX6_rememberRow 6 = .ok (.getfield 9, 3) := by decide +kernel
theorem dX6_rememberRow_9 : decode cX6_rememberRow 9 = .ok (.iconst 0, 1) := by decide +kernel
theorem dX6_rememberRow_10 : decode cX6_rememberRow 10 = .ok (.iload_n 1, 1) := by decide +kernel
theorem dX6_rememberRow_11 : decode cX6_rememberRow 11 = .ok (.invokestatic 81, 3) := by decide +kernel
theorem dX6_rememberRow_14 : decode cX6_rememberRow 14 = .ok (.aload_n 0, 1) := by decide +kernel
theorem dX6_rememberRow_15 : decode cX6_rememberRow 15 = .ok (.iload_n 1, 1) := by decide +kernel
theorem dX6_rememberRow_16 : decode cX6_rememberRow 16 = .ok (.putfield 18, 3) := by decide +kernel
theorem dX6_rememberRow_19 : decode cX6_rememberRow 19 = .ok (.aload_n 0, 1) := by decide +kernel
theorem dX6_rememberRow_20 : decode cX6_rememberRow 20 = .ok (.iload_n 2, 1) := by decide +kernel
theorem dX6_rememberRow_21 : decode cX6_rememberRow 21 = .ok (.putfield 22, 3) := by decide +kernel
theorem dX6_rememberRow_24 : decode cX6_rememberRow 24 = .ok (.aload_n 0, 1) := by decide +kernel
theorem dX6_rememberRow_25 : decode cX6_rememberRow 25 = .ok (.iload_n 3, 1) := by decide +kernel
theorem dX6_rememberRow_26 : decode cX6_rememberRow 26 = .ok (.putfield 30, 3) := by decide +kernel
theorem dX6_rememberRow_29 : decode cX6_rememberRow 29 = .ok (.return_, 1) := by decide +kernel
theorem dX6_canBecomeBetter_0 : decode cX6_canBecomeBetter 0 = .ok (.iload 4, 2) := by decide +kernel
theorem dX6_canBecomeBetter_2 : decode cX6_canBecomeBetter 2 = .ok (.istore 5, 2) := by decide +kernel
theorem dX6_canBecomeBetter_4 : decode cX6_canBecomeBetter 4 = .ok (.aload_n 2, 1) := by decide +kernel
theorem dX6_canBecomeBetter_5 : decode cX6_canBecomeBetter 5 = .ok (.getfield 45, 3) := by decide +kernel
theorem dX6_canBecomeBetter_8 : decode cX6_canBecomeBetter 8 = .ok (.istore 6, 2) := by decide +kernel
theorem dX6_canBecomeBetter_10 : decode cX6_canBecomeBetter 10 = .ok (.iconst 0, 1) := by decide +kernel
theorem dX6_canBecomeBetter_11 : decode cX6_canBecomeBetter 11 = .ok (.istore 7, 2) := by decide +kernel
theorem dX6_canBecomeBetter_13 : decode cX6_canBecomeBetter 13 = .ok (.iload 7, 2) := by decide +kernel
theorem dX6_canBecomeBetter_15 : decode cX6_canBecomeBetter 15 = .ok (.aload_n 1, 1) := by decide +kernel
theorem dX6_canBecomeBetter_16 : decode cX6_canBecomeBetter 16 = .ok (.getfield 60, 3) := by decide +kernel
theorem dX6_canBecomeBetter_19 : decode cX6_canBecomeBetter 19 = .ok (.if_icmp .ge 90, 3) := by decide +kernel
theorem dX6_canBecomeBetter_22 : decode cX6_canBecomeBetter 22 = .ok (.iload_n 3, 1) := by decide +kernel
theorem dX6_canBecomeBetter_23 : decode cX6_canBecomeBetter 23 = .ok (.iload 7, 2) := by decide +kernel
theorem dX6_canBecomeBetter_25 : decode cX6_canBecomeBetter 25 = .ok (.ishr, 1) := by decide +kernel
theorem dX6_canBecomeBetter_26 : decode cX6_canBecomeBetter 26 = .ok (.iconst 1, 1) := by decide +kernel
theorem dX6_canBecomeBetter_27 : decode cX6_canBecomeBetter 27 = .ok (.iand, 1) := by decide +kernel
theorem dX6_canBecomeBetter_28 : decode cX6_canBecomeBetter 28 = .ok (.ifCond .ne 6, 3) := by decide +kernel
theorem dX6_canBecomeBetter_31 : decode cX6_canBecomeBetter 31 = .ok (.goto 72, 3) := by decide +kernel
theorem dX6_canBecomeBetter_34 : decode cX6_canBecomeBetter 34 = .ok (.aload_n 2, 1) := by decide +kernel
theorem dX6_canBecomeBetter_35 : decode cX6_canBecomeBetter 35 = .ok (.getfield 45, 3) := by decide +kernel
theorem dX6_canBecomeBetter_38 : decode cX6_canBecomeBetter 38 = .ok (.aload_n 2, 1) := by decide +kernel
theorem dX6_canBecomeBetter_39 : decode cX6_canBecomeBetter 39 = .ok (.getfield 54, 3) := by decide +kernel
theorem dX6_canBecomeBetter_42 : decode cX6_canBecomeBetter 42 = .ok (.aload_n 1, 1) := by decide +kernel
theorem dX6_canBecomeBetter_43 : decode cX6_canBecomeBetter 43 = .ok (.getfield 87, 3) := by decide +kernel
theorem dX6_canBecomeBetter_46 : decode cX6_canBecomeBetter 46 = .ok (.iload 7, 2) := by decide +kernel
theorem dX6_canBecomeBetter_48 : decode cX6_canBecomeBetter 48 = .ok (.iaload, 1) := by decide +kernel
theorem dX6_canBecomeBetter_49 : decode cX6_canBecomeBetter 49 = .ok (.isub, 1) := by decide +kernel
theorem dX6_canBecomeBetter_50 : decode cX6_canBecomeBetter 50 = .ok (.invokestatic 90, 3) := by decide +kernel
theorem dX6_canBecomeBetter_53 : decode cX6_canBecomeBetter 53 = .ok (.iadd, 1) := by decide +kernel
theorem dX6_canBecomeBetter_54 : decode cX6_canBecomeBetter 54 = .ok (.istore 8, 2) := by decide +kernel
theorem dX6_canBecomeBetter_56 : decode cX6_canBecomeBetter 56 = .ok (.iload 8, 2) := by decide +kernel
theorem dX6_canBecomeBetter_58 : decode cX6_canBecomeBetter 58 = .ok (.aload_n 1, 1) := by decide +kernel
theorem dX6_canBecomeBetter_59 : decode cX6_canBecomeBetter 59 = .ok (.getfield 96, 3) := by decide +kernel
theorem dX6_canBecomeBetter_62 : decode cX6_canBecomeBetter 62 = .ok (.iload 7, 2) := by decide +kernel
theorem dX6_canBecomeBetter_64 : decode cX6_canBecomeBetter 64 = .ok (.iaload, 1) := by decide +kernel
theorem dX6_canBecomeBetter_65 : decode cX6_canBecomeBetter 65 = .ok (.invokestatic 99, 3) := by decide +kernel
theorem dX6_canBecomeBetter_68 : decode cX6_canBecomeBetter 68 = .ok (.istore 9, 2) := by decide +kernel
theorem dX6_canBecomeBetter_70 : decode cX6_canBecomeBetter 70 = .ok (.iload 9, 2) := by decide +kernel
theorem dX6_canBecomeBetter_72 : decode cX6_canBecomeBetter 72 = .ok (.aload_n 1, 1) := by decide +kernel
theorem dX6_canBecomeBetter_73 : decode cX6_canBecomeBetter 73 = .ok (.getfield 103, 3) := by decide +kernel
theorem dX6_canBecomeBetter_76 : decode cX6_canBecomeBetter 76 = .ok (.iload 7, 2) := by decide +kernel
theorem dX6_canBecomeBetter_78 : decode cX6_canBecomeBetter 78 = .ok (.iaload, 1) := by decide +kernel
theorem dX6_canBecomeBetter_79 : decode cX6_canBecomeBetter 79 = .ok (.if_icmp .gt 24, 3) := by decide +kernel
theorem dX6_canBecomeBetter_82 : decode cX6_canBecomeBetter 82 = .ok (.iload 5, 2) := by decide +kernel
theorem dX6_canBecomeBetter_84 : decode cX6_canBecomeBetter 84 = .ok (.aload_n 1, 1) := by decide +kernel
theorem dX6_canBecomeBetter_85 : decode cX6_canBecomeBetter 85 = .ok (.getfield 79, 3) := by decide +kernel
theorem dX6_canBecomeBetter_88 : decode cX6_canBecomeBetter 88 = .ok (.iload 7, 2) := by decide +kernel
theorem dX6_canBecomeBetter_90 : decode cX6_canBecomeBetter 90 = .ok (.iaload, 1) := by decide +kernel
theorem dX6_canBecomeBetter_91 : decode cX6_canBecomeBetter 91 = .ok (.iadd, 1) := by decide +kernel
theorem dX6_canBecomeBetter_92 : decode cX6_canBecomeBetter 92 = .ok (.istore 5, 2) := by decide +kernel
theorem dX6_canBecomeBetter_94 : decode cX6_canBecomeBetter 94 = .ok (.iload 6, 2) := by decide +kernel
theorem dX6_canBecomeBetter_96 : decode cX6_canBecomeBetter 96 = .ok (.iload 9, 2) := by decide +kernel
theorem dX6_canBecomeBetter_98 : decode cX6_canBecomeBetter 98 = .ok (.invokestatic 99, 3) := by decide +kernel
theorem dX6_canBecomeBetter_101 : decode cX6_canBecomeBetter 101 = .ok (.istore 6, 2) := by decide +kernel
theorem dX6_canBecomeBetter_103 : decode cX6_canBecomeBetter 103 = .ok (.iinc 7 1, 3) := by decide +kernel
theorem dX6_canBecomeBetter_106 : decode cX6_canBecomeBetter 106 = .ok (.goto (-93), 3) := by decide +kernel
theorem dX6_canBecomeBetter_109 : decode cX6_canBecomeBetter 109 = .ok (.iload 5, 2) := by decide +kernel
theorem dX6_canBecomeBetter_111 : decode cX6_canBecomeBetter 111 = .ok (.aload_n 0, 1) := by decide +kernel
theorem dX6_canBecomeBetter_112 : decode cX6_canBecomeBetter 112 = .ok (.getfield 22, 3) := by decide +kernel
theorem dX6_canBecomeBetter_115 : decode cX6_canBecomeBetter 115 = .ok (.if_icmp .gt 21, 3) := by decide +kernel
theorem dX6_canBecomeBetter_118 : decode cX6_canBecomeBetter 118 = .ok (.iload 5, 2) := by decide +kernel
theorem dX6_canBecomeBetter_120 : decode cX6_canBecomeBetter 120 = .ok (.aload_n 0, 1) := by decide +kernel
theorem dX6_canBecomeBetter_121 : decode cX6_canBecomeBetter 121 = .ok (.getfield 22, 3) := by decide +kernel
theorem dX6_canBecomeBetter_124 : decode cX6_canBecomeBetter 124 = .ok (.if_icmp .ne 16, 3) := by decide +kernel
theorem dX6_canBecomeBetter_127 : decode cX6_canBecomeBetter 127 = .ok (.iload 6, 2) := by decide +kernel
theorem dX6_canBecomeBetter_129 : decode cX6_canBecomeBetter 129 = .ok (.aload_n 0, 1) := by decide +kernel
theorem dX6_canBecomeBetter_130 : decode cX6_canBecomeBetter 130 = .ok (.getfield 30, 3) := by decide +kernel
theorem dX6_canBecomeBetter_133 : decode cX6_canBecomeBetter 133 = .ok (.if_icmp .ge 7, 3) := by decide +kernel
theorem dX6_canBecomeBetter_136 : decode cX6_canBecomeBetter 136 = .ok (.iconst 1, 1) := by decide +kernel
theorem dX6_canBecomeBetter_137 : decode cX6_canBecomeBetter 137 = .ok (.goto 4, 3) := by decide +kernel
theorem dX6_canBecomeBetter_140 : decode cX6_canBecomeBetter 140 = .ok (.iconst 0, 1) := by decide +kernel
theorem dX6_canBecomeBetter_141 : decode cX6_canBecomeBetter 141 = .ok (.ireturn, 1) := by decide +kernel
theorem dX7_init_0 : decode cX7_init 0 = .ok (.aload_n 0, 1) := by decide +kernel
theorem dX7_init_1 : decode cX7_init 1 = .ok (.invokespecial 3, 3) := by decide +kernel
theorem dX7_init_4 : decode cX7_init 4 = .ok (.aload_n 0, 1) := by decide +kernel
theorem dX7_init_5 : decode cX7_init 5 = .ok (.bipush 8, 2) := by decide +kernel
theorem dX7_init_7 : decode cX7_init 7 = .ok (.newarray .int, 2) := by decide +kernel
theorem dX7_init_9 : decode cX7_init 9 = .ok (.putfield 9, 3) := by decide +kernel
theorem dX7_init_12 : decode cX7_init 12 = .ok (.return_, 1) := by decide +kernel
set_option maxRecDepth 20000 in
theorem ggX7_fewest_X7_canGo : GoodIn wsX7_fewest wsX7_canGo := goodIn_r _ [8, 9, 10, 11, 12, 13, 14, 15, 16, 24, 25, 26, 27, 28, 29, 30, 31, 32, 33] (by decide +kernel) (by decide +kernel)
set_option maxRecDepth 20000 in
theorem gX7_fewest_X7_canGo : GoodIn wsX7_fewest (va_wsS RX7 24 yX7_canGo wsX7_canGo) := goodIn_app (goodIn_of _ (by decide +kernel)) ggX7_fewest_X7_canGo
set_option maxRecDepth 20000 in
theorem ggX7_fewest_X7_findFollower : GoodIn wsX7_fewest wsX7_findFollower := goodIn_r _ [20, 1, 4, 3, 21, 22, 7, 23, 16, 10, 15, 5, 6, 8, 9, 11, 12, 13, 14, 17, 18, 19, 24, 25, 26, 27, 28, 29, 30, 31, 32, 33, 34, 35] (by decide +kernel) (by decide +kernel)
set_option maxRecDepth 20000 in
theorem gX7_fewest_X7_findFollower : GoodIn wsX7_fewest (wsV RX7 31 RX7 yX7_findFollower wsX7_findFollower) := goodIn_app (goodIn_of _ (by decide +kernel)) ggX7_fewest_X7_findFollower
theorem dX7_fewest_0 : decode cX7_fewest 0 = .ok (.iconst 0, 1) := by decide +kernel
theorem dX7_fewest_1 : decode cX7_fewest 1 = .ok (.istore_n 2, 1) := by decide +kernel
theorem dX7_fewest_2 : decode cX7_fewest 2 = .ok (.iload_n 2, 1) := by decide +kernel
theorem dX7_fewest_3 : decode cX7_fewest 3 = .ok (.aload_n 1, 1) := by decide +kernel
theorem dX7_fewest_4 : decode cX7_fewest 4 = .ok (.getfield 15, 3) := by decide +kernel
theorem dX7_fewest_7 : decode cX7_fewest 7 = .ok (.if_icmp .ge 33, 3) := by decide +kernel
theorem dX7_fewest_10 : decode cX7_fewest 10 = .ok (.aload_n 1, 1) := by decide +kernel
theorem dX7_fewest_11 : decode cX7_fewest 11 = .ok (.iconst 0, 1) := by decide +kernel
theorem dX7_fewest_12 : decode cX7_fewest 12 = .ok (.aload_n 1, 1) := by decide +kernel
theorem dX7_fewest_13 : decode cX7_fewest 13 = .ok (.getfield 21, 3) := by decide +kernel
theorem dX7_fewest_16 : decode cX7_fewest 16 = .ok (.iload_n 2, 1) := by decide +kernel
theorem dX7_fewest_17 : decode cX7_fewest 17 = .ok (.invokestatic 24, 3) := by decide +kernel
theorem dX7_fewest_20 : decode cX7_fewest 20 = .ok (.ifCond .ne 6, 3) := by decide +kernel
theorem dX7_fewest_23 : decode cX7_fewest 23 = .ok (.bipush (-9), 2) := by decide +kernel
theorem dX7_fewest_25 : decode cX7_fewest 25 = .ok (.ireturn, 1) := by decide +kernel
theorem dX7_fewest_26 : decode cX7_fewest 26 = .ok (.aload_n 0, 1) := by decide +kernel
theorem dX7_fewest_27 : decode cX7_fewest 27 = .ok (.getfield 9, 3) := by decide +kernel
theorem dX7_fewest_30 : decode cX7_fewest 30 = .ok (.iload_n 2, 1) := by decide +kernel
theorem dX7_fewest_31 : decode cX7_fewest 31 = .ok (.bipush (-9), 2) := by decide +kernel
theorem dX7_fewest_33 : decode cX7_fewest 33 = .ok (.iastore, 1) := by decide +kernel
theorem dX7_fewest_34 : decode cX7_fewest 34 = .ok (.iinc 2 1, 3) := by decide +kernel
theorem dX7_fewest_37 : decode cX7_fewest 37 = .ok (.goto (-35), 3) := by decide +kernel
theorem dX7_fewest_40 : decode cX7_fewest 40 = .ok (.aload_n 1, 1) := by decide +kernel
theorem dX7_fewest_41 : decode cX7_fewest 41 = .ok (.getfield 15, 3) := by decide +kernel
theorem dX7_fewest_44 : decode cX7_fewest 44 = .ok (.istore_n 2, 1) := by decide +kernel
theorem dX7_fewest_45 : decode cX7_fewest 45 = .ok (.iconst 0, 1) := by decide +kernel
theorem dX7_fewest_46 : decode cX7_fewest 46 = .ok (.istore_n 3, 1) := by decide +kernel
theorem dX7_fewest_47 : decode cX7_fewest 47 = .ok (.iload_n 3, 1) := by decide +kernel
theorem dX7_fewest_48 : decode cX7_fewest 48 = .ok (.aload_n 1, 1) := by decide +kernel
theorem dX7_fewest_49 : decode cX7_fewest 49 = .ok (.getfield 15, 3) := by decide +kernel
theorem dX7_fewest_52 : decode cX7_fewest 52 = .ok (.if_icmp .ge 27, 3) := by decide +kernel
theorem dX7_fewest_55 : decode cX7_fewest 55 = .ok (.aload_n 0, 1) := by decide +kernel
theorem dX7_fewest_56 : decode cX7_fewest 56 = .ok (.iconst 0, 1) := by decide +kernel
theorem dX7_fewest_57 : decode cX7_fewest 57 = .ok (.putfield 28, 3) := by decide +kernel
theorem dX7_fewest_60 : decode cX7_fewest 60 = .ok (.aload_n 0, 1) := by decide +kernel
theorem dX7_fewest_61 : decode cX7_fewest 61 = .ok (.aload_n 1, 1) := by decide +kernel
theorem dX7_fewest_62 : decode cX7_fewest 62 = .ok (.iload_n 3, 1) := by decide +kernel
theorem dX7_fewest_63 : decode cX7_fewest 63 = .ok (.iconst 0, 1) := by decide +kernel
theorem dX7_fewest_64 : decode cX7_fewest 64 = .ok (.invokevirtual 31, 3) := by decide +kernel
theorem dX7_fewest_67 : decode cX7_fewest 67 = .ok (.ifCond .eq 6, 3) := by decide +kernel
theorem dX7_fewest_70 : decode cX7_fewest 70 = .ok (.iinc 2 (-1), 3) := by decide +kernel
theorem dX7_fewest_73 : decode cX7_fewest 73 = .ok (.iinc 3 1, 3) := by decide +kernel
theorem dX7_fewest_76 : decode cX7_fewest 76 = .ok (.goto (-29), 3) := by decide +kernel
theorem dX7_fewest_79 : decode cX7_fewest 79 = .ok (.iload_n 2, 1) := by decide +kernel
theorem dX7_fewest_80 : decode cX7_fewest 80 = .ok (.ireturn, 1) := by decide +kernel
set_option maxRecDepth 20000 in
theorem ggX7_findFollower_X7_canFollow : GoodIn wsX7_findFollower wsX7_canFollow := goodIn_r _ [7, 8, 9, 10, 11, 12, 6, 13, 14, 15, 16, 17, 18, 22, 23, 24, 25, 26, 27, 28, 29, 30, 31] (by decide +kernel) (by decide +kernel)
set_option maxRecDepth 20000 in
theorem gX7_findFollower_X7_canFollow : GoodIn wsX7_findFollower (va_wsS RX7 35 yX7_canFollow wsX7_canFollow) := goodIn_app (goodIn_of _ (by decide +kernel)) ggX7_findFollower_X7_canFollow
set_option maxRecDepth 20000 in
theorem ggX7_findFollower_X7_findFollower : GoodIn wsX7_findFollower wsX7_findFollower := goodIn_r _ [0, 1, 2, 3, 4, 5, 6, 7, 8, 9, 10, 11, 12, 13, 14, 15, 16, 17, 18, 19, 20, 21, 22, 23, 24, 25, 26, 27, 28, 29, 30, 31, 32, 33] (by decide +kernel) (by decide +kernel)
set_option maxRecDepth 20000 in
theorem gX7_findFollower_X7_findFollower : GoodIn wsX7_findFollower (wsV RX7 31 RX7 yX7_findFollower wsX7_findFollower) := goodIn_app (goodIn_of _ (by decide +kernel)) ggX7_findFollower_X7_findFollower
theorem dX7_findFollower_0 : decode cX7_findFollower 0 = .ok (.iload_n 2, 1) := by decide +kernel
theorem dX7_findFollower_1 : decode cX7_findFollower 1 = .ok (.ifCond .lt 9, 3) := by decide +kernel
theorem dX7_findFollower_4 : decode cX7_findFollower 4 = .ok (.iload_n 3, 1) := by decide +kernel
theorem dX7_findFollower_5 : decode cX7_findFollower 5 = .ok (.bipush 8, 2) := by decide +kernel
theorem dX7_findFollower_7 : decode cX7_findFollower 7 = .ok (.if_icmp .le 5, 3) := by decide +kernel
theorem dX7_findFollower_10 : decode cX7_findFollower 10 = .ok (.iconst 0, 1) := by decide +kernel
theorem dX7_findFollower_11 : decode cX7_findFollower 11 = .ok (.ireturn, 1) := by decide +kernel
theorem dX7_findFollower_12 : decode cX7_findFollower 12 = .ok (.iconst 0, 1) := by decide +kernel
theorem dX7_findFollower_13 : decode cX7_findFollower 13 = .ok (.istore 4, 2) := by decide +kernel
theorem dX7_findFollower_15 : decode cX7_findFollower 15 = .ok (.iload 4, 2) := by decide +kernel
theorem dX7_findFollower_17 : decode cX7_findFollower 17 = .ok (.aload_n 1, 1) := by decide +kernel
theorem dX7_findFollower_18 : decode cX7_findFollower 18 = .ok (.getfield 15, 3) := by decide +kernel
theorem dX7_findFollower_21 : decode cX7_findFollower 21 = .ok (.if_icmp .ge 88, 3) := by decide +kernel
theorem dX7_findFollower_24 : decode cX7_findFollower 24 = .ok (.aload_n 0, 1) := by decide +kernel
theorem dX7_findFollower_25 : decode cX7_findFollower 25 = .ok (.getfield 28, 3) := by decide +kernel
theorem dX7_findFollower_28 : decode cX7_findFollower 28 = .ok (.iload 4, 2) := by decide +kernel
theorem dX7_findFollower_30 : decode cX7_findFollower 30 = .ok (.ishr, 1) := by decide +kernel
theorem dX7_findFollower_31 : decode cX7_findFollower 31 = .ok (.iconst 1, 1) := by decide +kernel
theorem dX7_findFollower_32 : decode cX7_findFollower 32 = .ok (.iand, 1) := by decide +kernel
theorem dX7_findFollower_33 : decode cX7_findFollower 33 = .ok (.iconst 1, 1) := by decide +kernel
theorem dX7_findFollower_34 : decode cX7_findFollower 34 = .ok (.if_icmp .eq 69, 3) := by decide +kernel
theorem dX7_findFollower_37 : decode cX7_findFollower 37 = .ok (.aload_n 1, 1) := by decide +kernel
theorem dX7_findFollower_38 : decode cX7_findFollower 38 = .ok (.iload_n 2, 1) := by decide +kernel
theorem dX7_findFollower_39 : decode cX7_findFollower 39 = .ok (.iload 4, 2) := by decide +kernel
theorem dX7_findFollower_41 : decode cX7_findFollower 41 = .ok (.invokestatic 35, 3) := by decide +kernel
theorem dX7_findFollower_44 : decode cX7_findFollower 44 = .ok (.ifCond .ne 6, 3) := by decide +kernel
theorem dX7_findFollower_47 : decode cX7_findFollower 47 = .ok (.goto 56, 3) := by decide +kernel
theorem dX7_findFollower_50 : decode cX7_findFollower 50 = .ok (.aload_n 0, 1) := by decide +kernel
theorem dX7_findFollower_51 : decode cX7_findFollower 51 = .ok (.dup, 1) := by decide +kernel
theorem dX7_findFollower_52 : decode cX7_findFollower 52 = .ok (.getfield 28, 3) := by decide +kernel
theorem dX7_findFollower_55 : decode cX7_findFollower 55 = .ok (.iconst 1, 1) := by decide +kernel
theorem dX7_findFollower_56 : decode cX7_findFollower 56 = .ok (.iload 4, 2) := by decide +kernel
theorem dX7_findFollower_58 : decode cX7_findFollower 58 = .ok (.ishl, 1) := by decide +kernel
theorem dX7_findFollower_59 : decode cX7_findFollower 59 = .ok (.ior, 1) := by decide +kernel
theorem dX7_findFollower_60 : decode cX7_findFollower 60 = .ok (.putfield 28, 3) := by decide +kernel
theorem dX7_findFollower_63 : decode cX7_findFollower 63 = .ok (.aload_n 0, 1) := by decide +kernel
theorem dX7_findFollower_64 : decode cX7_findFollower 64 = .ok (.getfield 9, 3) := by decide +kernel
theorem dX7_findFollower_67 : decode cX7_findFollower 67 = .ok (.iload 4, 2) := by decide +kernel
theorem dX7_findFollower_69 : decode cX7_findFollower 69 = .ok (.iaload, 1) := by decide +kernel
theorem dX7_findFollower_70 : decode cX7_findFollower 70 = .ok (.bipush (-9), 2) := by decide +kernel
theorem dX7_findFollower_72 : decode cX7_findFollower 72 = .ok (.if_icmp .eq 21, 3) := by decide +kernel
theorem dX7_findFollower_75 : decode cX7_findFollower 75 = .ok (.aload_n 0, 1) := by decide +kernel
theorem dX7_findFollower_76 : decode cX7_findFollower 76 = .ok (.aload_n 1, 1) := by decide +kernel
theorem dX7_findFollower_77 : decode cX7_findFollower 77 = .ok (.aload_n 0, 1) := by decide +kernel
theorem dX7_findFollower_78 : decode cX7_findFollower 78 = .ok (.getfield 9, 3) := by decide +kernel
theorem dX7_findFollower_81 : decode cX7_findFollower 81 = .ok (.iload 4, 2) := by decide +kernel
theorem dX7_findFollower_83 : decode cX7_findFollower 83 = .ok (.iaload, 1) := by decide +kernel
theorem dX7_findFollower_84 : decode cX7_findFollower 84 = .ok (.iload_n 3, 1) := by decide +kernel
theorem dX7_findFollower_85 : decode cX7_findFollower 85 = .ok (.iconst 1, 1) := by decide +kernel
theorem dX7_findFollower_86 : decode cX7_findFollower 86 = .ok (.iadd, 1) := by decide +kernel
theorem dX7_findFollower_87 : decode cX7_findFollower 87 = .ok (.invokevirtual 31, 3) := by decide +kernel
theorem dX7_findFollower_90 : decode cX7_findFollower 90 = .ok (.ifCond .eq 13, 3) := by decide +kernel
theorem dX7_findFollower_93 : decode cX7_findFollower 93 = .ok (.aload_n 0, 1) := by decide +kernel
theorem dX7_findFollower_94 : decode cX7_findFollower 94 = .ok (.getfield 9, 3) := by decide +kernel
theorem dX7_findFollower_97 : decode cX7_findFollower 97 = .ok (.iload 4, 2) := by decide +kernel
theorem dX7_findFollower_99 : decode cX7_findFollower 99 = .ok (.iload_n 2, 1) := by decide +kernel
theorem dX7_findFollower_100 : decode cX7_findFollower 100 = .ok (.iastore, 1) := by decide +kernel
theorem dX7_findFollower_101 : decode cX7_findFollower 101 = .ok (.iconst 1, 1) := by decide +kernel
theorem dX7_findFollower_102 : decode cX7_findFollower 102 = .ok (.ireturn, 1) := by decide +kernel
theorem dX7_findFollower_103 : decode cX7_findFollower 103 = .ok (.iinc 4 1, 3) := by decide +kernel
theorem dX7_findFollower_106 : decode cX7_findFollower 106 = .ok (.goto (-91), 3) := by decide +kernel
theorem dX7_findFollower_109 : decode cX7_findFollower 109 = .ok (.iconst 0, 1) := by decide +kernel
theorem dX7_findFollower_110 : decode cX7_findFollower 110 = .ok (.ireturn, 1) := by decide +kernel
set_option maxRecDepth 20000 in
theorem ggX7_canFollow_X7_canGo : GoodIn wsX7_canFollow wsX7_canGo := goodIn_r _ [7, 8, 2, 9, 10, 11, 12, 3, 1, 13, 14, 15, 16, 17, 18, 19, 20, 21, 22] (by decide +kernel) (by decide +kernel)
set_option maxRecDepth 20000 in
theorem gX7_canFollow_X7_canGo : GoodIn wsX7_canFollow (va_wsS RX7 24 yX7_canGo wsX7_canGo) := goodIn_app (goodIn_of _ (by decide +kernel)) ggX7_canFollow_X7_canGo
theorem dX7_canFollow_0 : decode cX7_canFollow 0 = .ok (.aload_n 0, 1) := by decide +kernel
theorem dX7_canFollow_1 : decode cX7_canFollow 1 = .ok (.getfield 38, 3) := by decide +kernel
theorem dX7_canFollow_4 : decode cX7_canFollow 4 = .ok (.iload_n 2, 1) := by decide +kernel
theorem dX7_canFollow_5 : decode cX7_canFollow 5 = .ok (.iaload, 1) := by decide +kernel
theorem dX7_canFollow_6 : decode cX7_canFollow 6 = .ok (.aload_n 0, 1) := by decide +kernel
theorem dX7_canFollow_7 : decode cX7_canFollow 7 = .ok (.getfield 38, 3) := by decide +kernel
theorem dX7_canFollow_10 : decode cX7_canFollow 10 = .ok (.iload_n 1, 1) := by decide +kernel
theorem dX7_canFollow_11 : decode cX7_canFollow 11 = .ok (.iaload, 1) := by decide +kernel
theorem dX7_canFollow_12 : decode cX7_canFollow 12 = .ok (.isub, 1) := by decide +kernel
theorem dX7_canFollow_13 : decode cX7_canFollow 13 = .ok (.istore_n 3, 1) := by decide +kernel
theorem dX7_canFollow_14 : decode cX7_canFollow 14 = .ok (.iload_n 3, 1) := by decide +kernel
theorem dX7_canFollow_15 : decode cX7_canFollow 15 = .ok (.ifCond .gt 12, 3) := by decide +kernel
theorem dX7_canFollow_18 : decode cX7_canFollow 18 = .ok (.iload_n 3, 1) := by decide +kernel
theorem dX7_canFollow_19 : decode cX7_canFollow 19 = .ok (.ifCond .ne 12, 3) := by decide +kernel
theorem dX7_canFollow_22 : decode cX7_canFollow 22 = .ok (.iload_n 2, 1) := by decide +kernel
theorem dX7_canFollow_23 : decode cX7_canFollow 23 = .ok (.iload_n 1, 1) := by decide +kernel
theorem dX7_canFollow_24 : decode cX7_canFollow 24 = .ok (.if_icmp .le 7, 3) := by decide +kernel
theorem dX7_canFollow_27 : decode cX7_canFollow 27 = .ok (.iconst 1, 1) := by decide +kernel
theorem dX7_canFollow_28 : decode cX7_canFollow 28 = .ok (.goto 4, 3) := by decide +kernel
theorem dX7_canFollow_31 : decode cX7_canFollow 31 = .ok (.iconst 0, 1) := by decide +kernel
theorem dX7_canFollow_32 : decode cX7_canFollow 32 = .ok (.istore 4, 2) := by decide +kernel
theorem dX7_canFollow_34 : decode cX7_canFollow 34 = .ok (.iload 4, 2) := by decide +kernel
theorem dX7_canFollow_36 : decode cX7_canFollow 36 = .ok (.ifCond .eq 42, 3) := by decide +kernel
theorem dX7_canFollow_39 : decode cX7_canFollow 39 = .ok (.aload_n 0, 1) := by decide +kernel
theorem dX7_canFollow_40 : decode cX7_canFollow 40 = .ok (.getfield 41, 3) := by decide +kernel
theorem dX7_canFollow_43 : decode cX7_canFollow 43 = .ok (.iload_n 2, 1) := by decide +kernel
theorem dX7_canFollow_44 : decode cX7_canFollow 44 = .ok (.iaload, 1) := by decide +kernel
theorem dX7_canFollow_45 : decode cX7_canFollow 45 = .ok (.aload_n 0, 1) := by decide +kernel
theorem dX7_canFollow_46 : decode cX7_canFollow 46 = .ok (.getfield 41, 3) := by decide +kernel
theorem dX7_canFollow_49 : decode cX7_canFollow 49 = .ok (.iload_n 1, 1) := by decide +kernel
theorem dX7_canFollow_50 : decode cX7_canFollow 50 = .ok (.iaload, 1) := by decide +kernel
theorem dX7_canFollow_51 : decode cX7_canFollow 51 = .ok (.if_icmp .eq 27, 3) := by decide +kernel
theorem dX7_canFollow_54 : decode cX7_canFollow 54 = .ok (.aload_n 0, 1) := by decide +kernel
theorem dX7_canFollow_55 : decode cX7_canFollow 55 = .ok (.aload_n 0, 1) := by decide +kernel
theorem dX7_canFollow_56 : decode cX7_canFollow 56 = .ok (.getfield 38, 3) := by decide +kernel
theorem dX7_canFollow_59 : decode cX7_canFollow 59 = .ok (.iload_n 1, 1) := by decide +kernel
theorem dX7_canFollow_60 : decode cX7_canFollow 60 = .ok (.iaload, 1) := by decide +kernel
theorem dX7_canFollow_61 : decode cX7_canFollow 61 = .ok (.aload_n 0, 1) := by decide +kernel
theorem dX7_canFollow_62 : decode cX7_canFollow 62 = .ok (.getfield 44, 3) := by decide +kernel
theorem dX7_canFollow_65 : decode cX7_canFollow 65 = .ok (.iload_n 1, 1) := by decide +kernel
theorem dX7_canFollow_66 : decode cX7_canFollow 66 = .ok (.iaload, 1) := by decide +kernel
theorem dX7_canFollow_67 : decode cX7_canFollow 67 = .ok (.iload_n 2, 1) := by decide +kernel
theorem dX7_canFollow_68 : decode cX7_canFollow 68 = .ok (.invokestatic 24, 3) := by decide +kernel
theorem dX7_canFollow_71 : decode cX7_canFollow 71 = .ok (.ifCond .eq 7, 3) := by decide +kernel
theorem dX7_canFollow_74 : decode cX7_canFollow 74 = .ok (.iconst 1, 1) := by decide +kernel
theorem dX7_canFollow_75 : decode cX7_canFollow 75 = .ok (.goto 4, 3) := by decide +kernel
theorem dX7_canFollow_78 : decode cX7_canFollow 78 = .ok (.iconst 0, 1) := by decide +kernel
theorem dX7_canFollow_79 : decode cX7_canFollow 79 = .ok (.ireturn, 1) := by decide +kernel
theorem dX7_canGo_0 : decode cX7_canGo 0 = .ok (.aload_n 0, 1) := by decide +kernel
theorem dX7_canGo_1 : decode cX7_canGo 1 = .ok (.getfield 47, 3) := by decide +kernel
theorem dX7_canGo_4 : decode cX7_canGo 4 = .ok (.aload_n 0, 1) := by decide +kernel
theorem dX7_canGo_5 : decode cX7_canGo 5 = .ok (.getfield 41, 3) := by decide +kernel
theorem dX7_canGo_8 : decode cX7_canGo 8 = .ok (.iload_n 3, 1) := by decide +kernel
theorem dX7_canGo_9 : decode cX7_canGo 9 = .ok (.iaload, 1) := by decide +kernel
theorem dX7_canGo_10 : decode cX7_canGo 10 = .ok (.iaload, 1) := by decide +kernel
theorem dX7_canGo_11 : decode cX7_canGo 11 = .ok (.istore 4, 2) := by decide +kernel
theorem dX7_canGo_13 : decode cX7_canGo 13 = .ok (.iload_n 1, 1) := by decide +kernel
theorem dX7_canGo_14 : decode cX7_canGo 14 = .ok (.iload_n 2, 1) := by decide +kernel
theorem dX7_canGo_15 : decode cX7_canGo 15 = .ok (.iload 4, 2) := by decide +kernel
theorem dX7_canGo_17 : decode cX7_canGo 17 = .ok (.isub, 1) := by decide +kernel
theorem dX7_canGo_18 : decode cX7_canGo 18 = .ok (.invokestatic 50, 3) := by decide +kernel
theorem dX7_canGo_21 : decode cX7_canGo 21 = .ok (.iadd, 1) := by decide +kernel
theorem dX7_canGo_22 : decode cX7_canGo 22 = .ok (.iload 4, 2) := by decide +kernel
theorem dX7_canGo_24 : decode cX7_canGo 24 = .ok (.aload_n 0, 1) := by decide +kernel
theorem dX7_canGo_25 : decode cX7_canGo 25 = .ok (.getfield 44, 3) := by decide +kernel
theorem dX7_canGo_28 : decode cX7_canGo 28 = .ok (.iload_n 3, 1) := by decide +kernel
theorem dX7_canGo_29 : decode cX7_canGo 29 = .ok (.iaload, 1) := by decide +kernel
theorem dX7_canGo_30 : decode cX7_canGo 30 = .ok (.isub, 1) := by decide +kernel
theorem dX7_canGo_31 : decode cX7_canGo 31 = .ok (.invokestatic 50, 3) := by decide +kernel
theorem dX7_canGo_34 : decode cX7_canGo 34 = .ok (.iadd, 1) := by decide +kernel
theorem dX7_canGo_35 : decode cX7_canGo 35 = .ok (.aload_n 0, 1) := by decide +kernel
theorem dX7_canGo_36 : decode cX7_canGo 36 = .ok (.getfield 38, 3) := by decide +kernel
theorem dX7_canGo_39 : decode cX7_canGo 39 = .ok (.iload_n 3, 1) := by decide +kernel
theorem dX7_canGo_40 : decode cX7_canGo 40 = .ok (.iaload, 1) := by decide +kernel
theorem dX7_canGo_41 : decode cX7_canGo 41 = .ok (.if_icmp .gt 7, 3) := by decide +kernel
theorem dX7_canGo_44 : decode cX7_canGo 44 = .ok (.iconst 1, 1) := by decide +kernel
theorem dX7_canGo_45 : decode cX7_canGo 45 = .ok (.goto 4, 3) := by decide +kernel
theorem dX7_canGo_48 : decode cX7_canGo 48 = .ok (.iconst 0, 1) := by decide +kernel
theorem dX7_canGo_49 : decode cX7_canGo 49 = .ok (.ireturn, 1) := by decide +kernel
theorem dX8_init_0 : decode cX8_init 0 = .ok (.aload_n 0, 1) := by decide +kernel
theorem dX8_init_1 : decode cX8_init 1 = .ok (.invokespecial 3, 3) := by decide +kernel
theorem dX8_init_4 : decode cX8_init 4 = .ok (.aload_n 0, 1) := by decide +kernel
theorem dX8_init_5 : decode cX8_init 5 = .ok (.sipush 180, 3) := by decide +kernel
theorem dX8_init_8 : decode cX8_init 8 = .ok (.newarray .int, 2) := by decide +kernel
theorem dX8_init_10 : decode cX8_init 10 = .ok (.putfield 9, 3) := by decide +kernel
theorem dX8_init_13 : decode cX8_init 13 = .ok (.return_, 1) := by decide +kernel
theorem dX8_goToStart_0 : decode cX8_goToStart 0 = .ok (.aload_n 0, 1) := by decide +kernel
theorem dX8_goToStart_1 : decode cX8_goToStart 1 = .ok (.iconst 0, 1) := by decide +kernel
theorem dX8_goToStart_2 : decode cX8_goToStart 2 = .ok (.putfield 15, 3) := by decide +kernel
theorem dX8_goToStart_5 : decode cX8_goToStart 5 = .ok (.return_, 1) := by decide +kernel
set_option maxRecDepth 20000 in
theorem ggX8_readToken_X8_isLetter : GoodIn wsX8_readToken wsX8_isLetter := goodIn_r _ [10] (by decide +kernel) (by decide +kernel)
set_option maxRecDepth 20000 in
theorem gX8_readToken_X8_isLetter : GoodIn wsX8_readToken (va_wsS RX8 31 yX8_isLetter wsX8_isLetter) := goodIn_app (goodIn_of _ (by decide +kernel)) ggX8_readToken_X8_isLetter
set_option maxRecDepth 20000 in
theorem ggX8_readToken_X8_readLetters : GoodIn wsX8_readToken wsX8_readLetters := goodIn_r _ [14, 3, 1, 2, 6, 4, 5, 7, 8, 9, 10, 22, 23, 24, 25, 26, 27] (by decide +kernel) (by decide +kernel)
set_option maxRecDepth 20000 in
theorem gX8_readToken_X8_readLetters : GoodIn wsX8_readToken (wsV RX8 35 RX8 yX8_readLetters wsX8_readLetters) := goodIn_app (goodIn_of _ (by decide +kernel)) ggX8_readToken_X8_readLetters
set_option maxRecDepth 20000 in
theorem ggX8_readToken_X8_isDigit : GoodIn wsX8_readToken wsX8_isDigit := goodIn_r _ [17] (by decide +kernel) (by decide +kernel)
set_option maxRecDepth 20000 in
theorem gX8_readToken_X8_isDigit : GoodIn wsX8_readToken (va_wsS RX8 38 yX8_isDigit wsX8_isDigit) := goodIn_app (goodIn_of _ (by decide +kernel)) ggX8_readToken_X8_isDigit
set_option maxRecDepth 20000 in
theorem ggX8_readToken_X8_readNumber : GoodIn wsX8_readToken wsX8_readNumber := goodIn_r _ [21, 3, 1, 2, 5, 4, 6, 15, 16, 9, 17, 22, 23, 24, 25, 26, 27] (by decide +kernel) (by decide +kernel)
set_option maxRecDepth 20000 in
theorem gX8_readToken_X8_readNumber : GoodIn wsX8_readToken (wsV RX8 41 RX8 yX8_readNumber wsX8_readNumber) := goodIn_app (goodIn_of _ (by decide +kernel)) ggX8_readToken_X8_readNumber
theorem dX8_readToken_0 : decode cX8_readToken 0 = .ok (.aload_n 0, 1) := by decide +kernel
theorem dX8_readToken_1 : decode cX8_readToken 1 = .ok (.getfield 15, 3) := by decide +kernel
theorem dX8_readToken_4 : decode cX8_readToken 4 = .ok (.aload_n 0, 1) := by decide +kernel
theorem dX8_readToken_5 : decode cX8_readToken 5 = .ok (.getfield 19, 3) := by decide +kernel
theorem dX8_readToken_8 : decode cX8_readToken 8 = .ok (.if_icmp .ge 30, 3) := by decide +kernel
theorem dX8_readToken_11 : decode cX8_readToken 11 = .ok (.aload_n 0, 1) := by decide +kernel
theorem dX8_readToken_12 : decode cX8_readToken 12 = .ok (.getfield 9, 3) := by decide +kernel
theorem dX8_readToken_15 : decode cX8_readToken 15 = .ok (.aload_n 0, 1) := by decide +kernel
theorem dX8_readToken_16 : decode cX8_readToken 16 = .ok (.getfield 15, 3) := by decide +kernel
theorem dX8_readToken_19 : decode cX8_readToken 19 = .ok (.iaload, 1) := by decide +kernel
theorem dX8_readToken_20 : decode cX8_readToken 20 = .ok (.bipush 32, 2) := by decide +kernel
theorem dX8_readToken_22 : decode cX8_readToken 22 = .ok (.if_icmp .ne 16, 3) := by decide +kernel
theorem dX8_readToken_25 : decode cX8_readToken 25 = .ok (.aload_n 0, 1) := by decide +kernel
theorem dX8_readToken_26 : decode cX8_readToken 26 = .ok (.dup, 1) := by decide +kernel
theorem dX8_readToken_27 : decode cX8_readToken 27 = .ok (.getfield 15, 3) := by decide +kernel
theorem dX8_readToken_30 : decode cX8_readToken 30 = .ok (.iconst 1, 1) := by decide +kernel
theorem dX8_readToken_31 : decode cX8_readToken 31 = .ok (.iadd, 1) := by decide +kernel
theorem dX8_readToken_32 : decode cX8_readToken 32 = .ok (.putfield 15, 3) := by decide +kernel
theorem dX8_readToken_35 : decode cX8_readToken 35 = .ok (.goto (-35), 3) := by decide +kernel
theorem dX8_readToken_38 : decode cX8_readToken 38 = .ok (.aload_n 0, 1) := by decide +kernel
theorem dX8_readToken_39 : decode cX8_readToken 39 = .ok (.aload_n 0, 1) := by decide +kernel
theorem dX8_readToken_40 : decode cX8_readToken 40 = .ok (.getfield 15, 3) := by decide +kernel
theorem dX8_readToken_43 : decode cX8_readToken 43 = .ok (.putfield 22, 3) := by decide +kernel
theorem dX8_readToken_46 : decode cX8_readToken 46 = .ok (.aload_n 0, 1) := by decide +kernel
theorem dX8_readToken_47 : decode cX8_readToken 47 = .ok (.iconst 0, 1) := by decide +kernel
theorem dX8_readToken_48 : decode cX8_readToken 48 = .ok (.putfield 25, 3) := by decide +kernel
theorem dX8_readToken_51 : decode cX8_readToken 51 = .ok (.aload_n 0, 1) := by decide +kernel
theorem dX8_readToken_52 : decode cX8_readToken 52 = .ok (.getfield 15, 3) := by decide +kernel
theorem dX8_readToken_55 : decode cX8_readToken 55 = .ok (.aload_n 0, 1) := by decide +kernel
theorem dX8_readToken_56 : decode cX8_readToken 56 = .ok (.getfield 19, 3) := by decide +kernel
theorem dX8_readToken_59 : decode cX8_readToken 59 = .ok (.if_icmp .lt 11, 3) := by decide +kernel
theorem dX8_readToken_62 : decode cX8_readToken 62 = .ok (.aload_n 0, 1) := by decide +kernel
theorem dX8_readToken_63 : decode cX8_readToken 63 = .ok (.iconst 0, 1) := by decide +kernel
theorem dX8_readToken_64 : decode cX8_readToken 64 = .ok (.putfield 28, 3) := by decide +kernel
theorem dX8_readToken_67 : decode cX8_readToken 67 = .ok (.goto 80, 3) := by decide +kernel
theorem dX8_readToken_70 : decode cX8_readToken 70 = .ok (.aload_n 0, 1) := by decide +kernel
theorem dX8_readToken_71 : decode cX8_readToken 71 = .ok (.getfield 9, 3) := by decide +kernel
theorem dX8_readToken_74 : decode cX8_readToken 74 = .ok (.aload_n 0, 1) := by decide +kernel
theorem dX8_readToken_75 : decode cX8_readToken 75 = .ok (.getfield 15, 3) := by decide +kernel
theorem dX8_readToken_78 : decode cX8_readToken 78 = .ok (.iaload, 1) := by decide +kernel
theorem dX8_readToken_79 : decode cX8_readToken 79 = .ok (.invokestatic 31, 3) := by decide +kernel
theorem dX8_readToken_82 : decode cX8_readToken 82 = .ok (.ifCond .eq 10, 3) := by decide +kernel
theorem dX8_readToken_85 : decode cX8_readToken 85 = .ok (.aload_n 0, 1) := by decide +kernel
theorem dX8_readToken_86 : decode cX8_readToken 86 = .ok (.invokevirtual 35, 3) := by decide +kernel
theorem dX8_readToken_89 : decode cX8_readToken 89 = .ok (.goto 58, 3) := by decide +kernel
theorem dX8_readToken_92 : decode cX8_readToken 92 = .ok (.aload_n 0, 1) := by decide +kernel
theorem dX8_readToken_93 : decode cX8_readToken 93 = .ok (.getfield 9, 3) := by decide +kernel
theorem dX8_readToken_96 : decode cX8_readToken 96 = .ok (.aload_n 0, 1) := by decide +kernel
theorem dX8_readToken_97 : decode cX8_readToken 97 = .ok (.getfield 15, 3) := by decide +kernel
theorem dX8_readToken_100 : decode cX8_readToken 100 = .ok (.iaload, 1) := by decide +kernel
theorem dX8_readToken_101 : decode cX8_readToken 101 = .ok (.invokestatic 38, 3) := by decide +kernel
theorem dX8_readToken_104 : decode cX8_readToken 104 = .ok (.ifCond .eq 10, 3) := by decide +kernel
theorem dX8_readToken_107 : decode cX8_readToken 107 = .ok (.aload_n 0, 1) := by decide +kernel
theorem dX8_readToken_108 : decode cX8_readToken 108 = .ok (.invokevirtual 41, 3) := by decide +kernel
theorem dX8_readToken_111 : decode cX8_readToken 111 = .ok (.goto 36, 3) := by decide +kernel
theorem dX8_readToken_114 : decode cX8_readToken 114 = .ok (.aload_n 0, 1) := by decide +kernel
theorem dX8_readToken_115 : decode cX8_readToken 115 = .ok (.aload_n 0, 1) := by decide +kernel
theorem dX8_readToken_116 : decode cX8_readToken 116 = .ok (.getfield 9, 3) := by decide +kernel
theorem dX8_readToken_119 : decode cX8_readToken 119 = .ok (.aload_n 0, 1) := by decide +kernel
theorem dX8_readToken_120 : decode cX8_readToken 120 = .ok (.getfield 15, 3) := by decide +kernel
theorem dX8_readToken_123 : decode cX8_readToken 123 = .ok (.iaload, 1) := by decide +kernel
theorem dX8_readToken_124 : decode cX8_readToken 124 = .ok (.bipush 59, 2) := by decide +kernel
theorem dX8_readToken_126 : decode cX8_readToken 126 = .ok (.if_icmp .ne 7, 3) := by decide +kernel
theorem dX8_readToken_129 : decode cX8_readToken 129 = .ok (.iconst 3, 1) := by decide +kernel
theorem dX8_readToken_130 : decode cX8_readToken 130 = .ok (.goto 4, 3) := by decide +kernel
theorem dX8_readToken_133 : decode cX8_readToken 133 = .ok (.iconst 4, 1) := by decide +kernel
theorem dX8_readToken_134 : decode cX8_readToken 134 = .ok (.putfield 28, 3) := by decide +kernel
theorem dX8_readToken_137 : decode cX8_readToken 137 = .ok (.aload_n 0, 1) := by decide +kernel
theorem dX8_readToken_138 : decode cX8_readToken 138 = .ok (.dup, 1) := by decide +kernel
theorem dX8_readToken_139 : decode cX8_readToken 139 = .ok (.getfield 15, 3) := by decide +kernel
theorem dX8_readToken_142 : decode cX8_readToken 142 = .ok (.iconst 1, 1) := by decide +kernel
theorem dX8_readToken_143 : decode cX8_readToken 143 = .ok (.iadd, 1) := by decide +kernel
theorem dX8_readToken_144 : decode cX8_readToken 144 = .ok (.putfield 15, 3) := by decide +kernel
theorem dX8_readToken_147 : decode cX8_readToken 147 = .ok (.return_, 1) := by decide +kernel
set_option maxRecDepth 20000 in
theorem ggX8_readLetters_X8_isLetter : GoodIn wsX8_readLetters wsX8_isLetter := goodIn_r _ [10] (by decide +kernel) (by decide +kernel)
set_option maxRecDepth 20000 in
theorem gX8_readLetters_X8_isLetter : GoodIn wsX8_readLetters (va_wsS RX8 31 yX8_isLetter wsX8_isLetter) := goodIn_app (goodIn_of _ (by decide +kernel)) ggX8_readLetters_X8_isLetter
theorem dX8_readLetters_0 : decode cX8_readLetters 0 = .ok (.aload_n 0, 1) := by decide +kernel
theorem dX8_readLetters_1 : decode cX8_readLetters 1 = .ok (.getfield 9, 3) := by decide +kernel
theorem dX8_readLetters_4 : decode cX8_readLetters 4 = .ok (.aload_n 0, 1) := by decide +kernel
theorem dX8_readLetters_5 : decode cX8_readLetters 5 = .ok (.getfield 15, 3) := by decide +kernel
theorem dX8_readLetters_8 : decode cX8_readLetters 8 = .ok (.iaload, 1) := by decide +kernel
theorem dX8_readLetters_9 : decode cX8_readLetters 9 = .ok (.istore_n 1, 1) := by decide +kernel
theorem dX8_readLetters_10 : decode cX8_readLetters 10 = .ok (.aload_n 0, 1) := by decide +kernel
theorem dX8_readLetters_11 : decode cX8_readLetters 11 = .ok (.getfield 15, 3) := by decide +kernel
theorem dX8_readLetters_14 : decode cX8_readLetters 14 = .ok (.aload_n 0, 1) := by decide +kernel
theorem dX8_readLetters_15 : decode cX8_readLetters 15 = .ok (.getfield 19, 3) := by decide +kernel
theorem dX8_readLetters_18 : decode cX8_readLetters 18 = .ok (.if_icmp .ge 31, 3) := by decide +kernel
theorem dX8_readLetters_21 : decode cX8_readLetters 21 = .ok (.aload_n 0, 1) := by decide +kernel
theorem dX8_readLetters_22 : decode cX8_readLetters 22 = .ok (.getfield 9, 3) := by decide +kernel
theorem dX8_readLetters_25 : decode cX8_readLetters 25 = .ok (.aload_n 0, 1) := by decide +kernel
theorem dX8_readLetters_26 : decode cX8_readLetters 26 = .ok (.getfield 15, 3) := by decide +kernel
theorem dX8_readLetters_29 : decode cX8_readLetters 29 = .ok (.iaload, 1) := by decide +kernel
theorem dX8_readLetters_30 : decode cX8_readLetters 30 = .ok (.invokestatic 31, 3) := by decide +kernel
theorem dX8_readLetters_33 : decode cX8_readLetters 33 = .ok (.ifCond .eq 16, 3) := by decide +kernel
theorem dX8_readLetters_36 : decode cX8_readLetters 36 = .ok (.aload_n 0, 1) := by decide +kernel
theorem dX8_readLetters_37 : decode cX8_readLetters 37 = .ok (.dup, 1) := by decide +kernel
theorem dX8_readLetters_38 : decode cX8_readLetters 38 = .ok (.getfield 15, 3) := by decide +kernel
theorem dX8_readLetters_41 : decode cX8_readLetters 41 = .ok (.iconst 1, 1) := by decide +kernel
theorem dX8_readLetters_42 : decode cX8_readLetters 42 = .ok (.iadd, 1) := by decide +kernel
theorem dX8_readLetters_43 : decode cX8_readLetters 43 = .ok (.putfield 15, 3) := by decide +kernel
theorem dX8_readLetters_46 : decode cX8_readLetters 46 = .ok (.goto (-36), 3) := by decide +kernel
theorem dX8_readLetters_49 : decode cX8_readLetters 49 = .ok (.aload_n 0, 1) := by decide +kernel
theorem dX8_readLetters_50 : decode cX8_readLetters 50 = .ok (.iconst 1, 1) := by decide +kernel
theorem dX8_readLetters_51 : decode cX8_readLetters 51 = .ok (.putfield 28, 3) := by decide +kernel
theorem dX8_readLetters_54 : decode cX8_readLetters 54 = .ok (.aload_n 0, 1) := by decide +kernel
theorem dX8_readLetters_55 : decode cX8_readLetters 55 = .ok (.aload_n 0, 1) := by decide +kernel
theorem dX8_readLetters_56 : decode cX8_readLetters 56 = .ok (.getfield 15, 3) := by decide +kernel
theorem dX8_readLetters_59 : decode cX8_readLetters 59 = .ok (.aload_n 0, 1) := by decide +kernel
theorem dX8_readLetters_60 : decode cX8_readLetters 60 = .ok (.getfield 22, 3) := by decide +kernel
theorem dX8_readLetters_63 : decode cX8_readLetters 63 = .ok (.isub, 1) := by decide +kernel
theorem dX8_readLetters_64 : decode cX8_readLetters 64 = .ok (.iconst 1, 1) := by decide +kernel
theorem dX8_readLetters_65 : decode cX8_readLetters 65 = .ok (.if_icmp .ne 7, 3) := by decide +kernel
theorem dX8_readLetters_68 : decode cX8_readLetters 68 = .ok (.iload_n 1, 1) := by decide +kernel
theorem dX8_readLetters_69 : decode cX8_readLetters 69 = .ok (.goto 4, 3) := by decide +kernel
theorem dX8_readLetters_72 : decode cX8_readLetters 72 = .ok (.iconst 0, 1) := by decide +kernel
theorem dX8_readLetters_73 : decode cX8_readLetters 73 = .ok (.putfield 25, 3) := by decide +kernel
theorem dX8_readLetters_76 : decode cX8_readLetters 76 = .ok (.return_, 1) := by decide +kernel
set_option maxRecDepth 20000 in
theorem ggX8_readNumber_X8_isDigit : GoodIn wsX8_readNumber wsX8_isDigit := goodIn_r _ [10] (by decide +kernel) (by decide +kernel)
set_option maxRecDepth 20000 in
theorem gX8_readNumber_X8_isDigit : GoodIn wsX8_readNumber (va_wsS RX8 38 yX8_isDigit wsX8_isDigit) := goodIn_app (goodIn_of _ (by decide +kernel)) ggX8_readNumber_X8_isDigit
theorem dX8_readNumber_0 : decode cX8_readNumber 0 = .ok (.aload_n 0, 1) := by decide +kernel
theorem dX8_readNumber_1 : decode cX8_readNumber 1 = .ok (.getfield 9, 3) := by decide +kernel
theorem dX8_readNumber_4 : decode cX8_readNumber 4 = .ok (.aload_n 0, 1) := by decide +kernel
theorem dX8_readNumber_5 : decode cX8_readNumber 5 = .ok (.getfield 15, 3) := by decide +kernel
theorem dX8_readNumber_8 : decode cX8_readNumber 8 = .ok (.iaload, 1) := by decide +kernel
theorem dX8_readNumber_9 : decode cX8_readNumber 9 = .ok (.bipush 48, 2) := by decide +kernel
theorem dX8_readNumber_11 : decode cX8_readNumber 11 = .ok (.if_icmp .ne 7, 3) := by decide +kernel
theorem dX8_readNumber_14 : decode cX8_readNumber 14 = .ok (.iconst 1, 1) := by decide +kernel
theorem dX8_readNumber_15 : decode cX8_readNumber 15 = .ok (.goto 4, 3) := by decide +kernel
theorem dX8_readNumber_18 : decode cX8_readNumber 18 = .ok (.iconst 0, 1) := by decide +kernel
theorem dX8_readNumber_19 : decode cX8_readNumber 19 = .ok (.istore_n 1, 1) := by decide +kernel
theorem dX8_readNumber_20 : decode cX8_readNumber 20 = .ok (.aload_n 0, 1) := by decide +kernel
theorem dX8_readNumber_21 : decode cX8_readNumber 21 = .ok (.getfield 15, 3) := by decide +kernel
theorem dX8_readNumber_24 : decode cX8_readNumber 24 = .ok (.aload_n 0, 1) := by decide +kernel
theorem dX8_readNumber_25 : decode cX8_readNumber 25 = .ok (.getfield 19, 3) := by decide +kernel
theorem dX8_readNumber_28 : decode cX8_readNumber 28 = .ok (.if_icmp .ge 64, 3) := by decide +kernel
theorem dX8_readNumber_31 : decode cX8_readNumber 31 = .ok (.aload_n 0, 1) := by decide +kernel
theorem dX8_readNumber_32 : decode cX8_readNumber 32 = .ok (.getfield 9, 3) := by decide +kernel
theorem dX8_readNumber_35 : decode cX8_readNumber 35 = .ok (.aload_n 0, 1) := by decide +kernel
theorem dX8_readNumber_36 : decode cX8_readNumber 36 = .ok (.getfield 15, 3) := by decide +kernel
theorem dX8_readNumber_39 : decode cX8_readNumber 39 = .ok (.iaload, 1) := by decide +kernel
theorem dX8_readNumber_40 : decode cX8_readNumber 40 = .ok (.invokestatic 38, 3) := by decide +kernel
theorem dX8_readNumber_43 : decode cX8_readNumber 43 = .ok (.ifCond .eq 49, 3) := by decide +kernel
theorem dX8_readNumber_46 : decode cX8_readNumber 46 = .ok (.aload_n 0, 1) := by decide +kernel
theorem dX8_readNumber_47 : decode cX8_readNumber 47 = .ok (.getfield 25, 3) := by decide +kernel
theorem dX8_readNumber_50 : decode cX8_readNumber 50 = .ok (.bipush 99, 2) := by decide +kernel
theorem dX8_readNumber_52 : decode cX8_readNumber 52 = .ok (.if_icmp .gt 27, 3) := by decide +kernel
theorem dX8_readNumber_55 : decode cX8_readNumber 55 = .ok (.aload_n 0, 1) := by decide +kernel
theorem dX8_readNumber_56 : decode cX8_readNumber 56 = .ok (.aload_n 0, 1) := by decide +kernel
theorem dX8_readNumber_57 : decode cX8_readNumber 57 = .ok (.getfield 25, 3) := by decide +kernel
theorem dX8_readNumber_60 : decode cX8_readNumber 60 = .ok (.bipush 10, 2) := by decide +kernel
theorem dX8_readNumber_62 : decode cX8_readNumber 62 = .ok (.imul, 1) := by decide +kernel
theorem dX8_readNumber_63 : decode cX8_readNumber 63 = .ok (.aload_n 0, 1) := by decide +kernel
theorem dX8_readNumber_64 : decode cX8_readNumber 64 = .ok (.getfield 9, 3) := by decide +kernel
theorem dX8_readNumber_67 : decode cX8_readNumber 67 = .ok (.aload_n 0, 1) := by decide +kernel
theorem dX8_readNumber_68 : decode cX8_readNumber 68 = .ok (.getfield 15, 3) := by decide +kernel
theorem dX8_readNumber_71 : decode cX8_readNumber 71 = .ok (.iaload, 1) := by decide +kernel
theorem dX8_readNumber_72 : decode cX8_readNumber 72 = .ok (.iadd, 1) := by decide +kernel
theorem dX8_readNumber_73 : decode cX8_readNumber 73 = .ok (.bipush 48, 2) := by decide +kernel
theorem dX8_readNumber_75 : decode cX8_readNumber 75 = .ok (.isub, 1) := by decide +kernel
theorem dX8_readNumber_76 : decode cX8_readNumber 76 = .ok (.putfield 25, 3) := by decide +kernel
theorem dX8_readNumber_79 : decode cX8_readNumber 79 = .ok (.aload_n 0, 1) := by decide +kernel
theorem dX8_readNumber_80 : decode cX8_readNumber 80 = .ok (.dup, 1) := by decide +kernel
theorem dX8_readNumber_81 : decode cX8_readNumber 81 = .ok (.getfield 15, 3) := by decide +kernel
theorem dX8_readNumber_84 : decode cX8_readNumber 84 = .ok (.iconst 1, 1) := by decide +kernel
theorem dX8_readNumber_85 : decode cX8_readNumber 85 = .ok (.iadd, 1) := by decide +kernel
theorem dX8_readNumber_86 : decode cX8_readNumber 86 = .ok (.putfield 15, 3) := by decide +kernel
theorem dX8_readNumber_89 : decode cX8_readNumber 89 = .ok (.goto (-69), 3) := by decide +kernel
theorem dX8_readNumber_92 : decode cX8_readNumber 92 = .ok (.iload_n 1, 1) := by decide +kernel
theorem dX8_readNumber_93 : decode cX8_readNumber 93 = .ok (.ifCond .eq 20, 3) := by decide +kernel
theorem dX8_readNumber_96 : decode cX8_readNumber 96 = .ok (.aload_n 0, 1) := by decide +kernel
theorem dX8_readNumber_97 : decode cX8_readNumber 97 = .ok (.getfield 15, 3) := by decide +kernel
theorem dX8_readNumber_100 : decode cX8_readNumber 100 = .ok (.aload_n 0, 1) := by decide +kernel
theorem dX8_readNumber_101 : decode cX8_readNumber 101 = .ok (.getfield 22, 3) := by decide +kernel
theorem dX8_readNumber_104 : decode cX8_readNumber 104 = .ok (.isub, 1) := by decide +kernel
theorem dX8_readNumber_105 : decode cX8_readNumber 105 = .ok (.iconst 1, 1) := by decide +kernel
theorem dX8_readNumber_106 : decode cX8_readNumber 106 = .ok (.if_icmp .le 7, 3) := by decide +kernel
theorem dX8_readNumber_109 : decode cX8_readNumber 109 = .ok (.iconst 1, 1) := by decide +kernel
theorem dX8_readNumber_110 : decode cX8_readNumber 110 = .ok (.goto 4, 3) := by decide +kernel
theorem dX8_readNumber_113 : decode cX8_readNumber 113 = .ok (.iconst 0, 1) := by decide +kernel
theorem dX8_readNumber_114 : decode cX8_readNumber 114 = .ok (.istore_n 2, 1) := by decide +kernel
theorem dX8_readNumber_115 : decode cX8_readNumber 115 = .ok (.aload_n 0, 1) := by decide +kernel
theorem dX8_readNumber_116 : decode cX8_readNumber 116 = .ok (.aload_n 0, 1) := by decide +kernel
theorem dX8_readNumber_117 : decode cX8_readNumber 117 = .ok (.getfield 25, 3) := by decide +kernel
theorem dX8_readNumber_120 : decode cX8_readNumber 120 = .ok (.bipush 99, 2) := by decide +kernel
theorem dX8_readNumber_122 : decode cX8_readNumber 122 = .ok (.if_icmp .gt 7, 3) := by decide +kernel
theorem dX8_readNumber_125 : decode cX8_readNumber 125 = .ok (.iload_n 2, 1) := by decide +kernel
theorem dX8_readNumber_126 : decode cX8_readNumber 126 = .ok (.ifCond .eq 7, 3) := by decide +kernel
theorem dX8_readNumber_129 : decode cX8_readNumber 129 = .ok (.iconst 4, 1) := by decide +kernel
theorem dX8_readNumber_130 : decode cX8_readNumber 130 = .ok (.goto 4, 3) := by decide +kernel
theorem dX8_readNumber_133 : decode cX8_readNumber 133 = .ok (.iconst 2, 1) := by decide +kernel
theorem dX8_readNumber_134 : decode cX8_readNumber 134 = .ok (.putfield 28, 3) := by decide +kernel
theorem dX8_readNumber_137 : decode cX8_readNumber 137 = .ok (.return_, 1) := by decide +kernel
theorem dX8_isLetter_0 : decode cX8_isLetter 0 = .ok (.iload_n 0, 1) := by decide +kernel
theorem dX8_isLetter_1 : decode cX8_isLetter 1 = .ok (.bipush 97, 2) := by decide +kernel
theorem dX8_isLetter_3 : decode cX8_isLetter 3 = .ok (.if_icmp .lt 13, 3) := by decide +kernel
theorem dX8_isLetter_6 : decode cX8_isLetter 6 = .ok (.iload_n 0, 1) := by decide +kernel
theorem dX8_isLetter_7 : decode cX8_isLetter 7 = .ok (.bipush 122, 2) := by decide +kernel
theorem dX8_isLetter_9 : decode cX8_isLetter 9 = .ok (.if_icmp .gt 7, 3) := by decide +kernel
theorem dX8_isLetter_12 : decode cX8_isLetter 12 = .ok (.iconst 1, 1) := by decide +kernel
theorem dX8_isLetter_13 : decode cX8_isLetter 13 = .ok (.goto 4, 3) := by decide +kernel
theorem dX8_isLetter_16 : decode cX8_isLetter 16 = .ok (.iconst 0, 1) := by decide +kernel
theorem dX8_isLetter_17 : decode cX8_isLetter 17 = .ok (.ireturn, 1) := by decide +kernel
theorem dX8_isDigit_0 : decode cX8_isDigit 0 = .ok (.iload_n 0, 1) := by decide +kernel
theorem dX8_isDigit_1 : decode cX8_isDigit 1 = .ok (.bipush 48, 2) := by decide +kernel
theorem dX8_isDigit_3 : decode cX8_isDigit 3 = .ok (.if_icmp .lt 13, 3) := by decide +kernel
theorem dX8_isDigit_6 : decode cX8_isDigit 6 = .ok (.iload_n 0, 1) := by decide +kernel
theorem dX8_isDigit_7 : decode cX8_isDigit 7 = .ok (.bipush 57, 2) := by decide +kernel
theorem dX8_isDigit_9 : decode cX8_isDigit 9 = .ok (.if_icmp .gt 7, 3) := by decide +kernel
theorem dX8_isDigit_12 : decode cX8_isDigit 12 = .ok (.iconst 1, 1) := by decide +kernel
theorem dX8_isDigit_13 : decode cX8_isDigit 13 = .ok (.goto 4, 3) := by decide +kernel
theorem dX8_isDigit_16 : decode cX8_isDigit 16 = .ok (.iconst 0, 1) := by decide +kernel
theorem dX8_isDigit_17 : decode cX8_isDigit 17 = .ok (.ireturn, 1) := by decide +kernel
theorem dX9_init_0 : decode cX9_init 0 = .ok (.aload_n 0, 1) := by decide +kernel
theorem dX9_init_1 : decode cX9_init 1 = .ok (.invokespecial 3, 3) := by decide +kernel
theorem dX9_init_4 : decode cX9_init 4 = .ok (.aload_n 0, 1) := by decide +kernel
theorem dX9_init_5 : decode cX9_init 5 = .ok (.bipush 6, 2) := by decide +kernel
theorem dX9_init_7 : decode cX9_init 7 = .ok (.newarray .int, 2) := by decide +kernel
theorem dX9_init_9 : decode cX9_init 9 = .ok (.putfield 9, 3) := by decide +kernel
theorem dX9_init_12 : decode cX9_init 12 = .ok (.return_, 1) := by decide +kernel
set_option maxRecDepth 20000 in
theorem ggX9_begin_X2_spoonPlace : GoodIn wsX9_begin wsX2_spoonPlace := goodIn_r _ [17, 18, 19, 20, 21, 22, 23, 16, 24, 25, 26, 27, 28, 29, 30, 31, 32, 37, 38, 39, 40, 41, 42, 43, 44, 45, 46] (by decide +kernel) (by decide +kernel)
set_option maxRecDepth 20000 in
theorem gX9_begin_X2_spoonPlace : GoodIn wsX9_begin (wsV RX9 24 RX2 yX2_spoonPlace wsX2_spoonPlace) := goodIn_app (goodIn_of _ (by decide +kernel)) ggX9_begin_X2_spoonPlace
theorem dX9_begin_0 : decode cX9_begin 0 = .ok (.aload_n 2, 1) := by decide +kernel
theorem dX9_begin_1 : decode cX9_begin 1 = .ok (.getfield 15, 3) := by decide +kernel
theorem dX9_begin_4 : decode cX9_begin 4 = .ok (.iconst 0, 1) := by decide +kernel
theorem dX9_begin_5 : decode cX9_begin 5 = .ok (.aload_n 0, 1) := by decide +kernel
theorem dX9_begin_6 : decode cX9_begin 6 = .ok (.getfield 9, 3) := by decide +kernel
theorem dX9_begin_9 : decode cX9_begin 9 = .ok (.iconst 0, 1) := by decide +kernel
theorem dX9_begin_10 : decode cX9_begin 10 = .ok (.bipush 6, 2) := by decide +kernel
theorem dX9_begin_12 : decode cX9_begin 12 = .ok (.invokestatic 18, 3) := by decide +kernel
theorem dX9_begin_15 : decode cX9_begin 15 = .ok (.aload_n 0, 1) := by decide +kernel
theorem dX9_begin_16 : decode cX9_begin 16 = .ok (.aload_n 2, 1) := by decide +kernel
theorem dX9_begin_17 : decode cX9_begin 17 = .ok (.aload_n 1, 1) := by decide +kernel
theorem dX9_begin_18 : decode cX9_begin 18 = .ok (.invokevirtual 24, 3) := by decide +kernel
theorem dX9_begin_21 : decode cX9_begin 21 = .ok (.putfield 28, 3) := by decide +kernel
theorem dX9_begin_24 : decode cX9_begin 24 = .ok (.aload_n 0, 1) := by decide +kernel
theorem dX9_begin_25 : decode cX9_begin 25 = .ok (.aload_n 2, 1) := by decide +kernel
theorem dX9_begin_26 : decode cX9_begin 26 = .ok (.getfield 32, 3) := by decide +kernel
theorem dX9_begin_29 : decode cX9_begin 29 = .ok (.putfield 35, 3) := by decide +kernel
theorem dX9_begin_32 : decode cX9_begin 32 = .ok (.aload_n 0, 1) := by decide +kernel
theorem dX9_begin_33 : decode cX9_begin 33 = .ok (.aload_n 2, 1) := by decide +kernel
theorem dX9_begin_34 : decode cX9_begin 34 = .ok (.getfield 36, 3) := by decide +kernel
theorem dX9_begin_37 : decode cX9_begin 37 = .ok (.ifCond .eq 8, 3) := by decide +kernel
theorem dX9_begin_40 : decode cX9_begin 40 = .ok (.bipush (-9), 2) := by decide +kernel
theorem dX9_begin_42 : decode cX9_begin 42 = .ok (.goto 7, 3) := by decide +kernel
theorem dX9_begin_45 : decode cX9_begin 45 = .ok (.aload_n 2, 1) := by decide +kernel
theorem dX9_begin_46 : decode cX9_begin 46 = .ok (.getfield 40, 3) := by decide +kernel
theorem dX9_begin_49 : decode cX9_begin 49 = .ok (.putfield 43, 3) := by decide +kernel
theorem dX9_begin_52 : decode cX9_begin 52 = .ok (.return_, 1) := by decide +kernel
theorem dX9_hourOfNext_0 : decode cX9_hourOfNext 0 = .ok (.aload_n 1, 1) := by decide +kernel
theorem dX9_hourOfNext_1 : decode cX9_hourOfNext 1 = .ok (.getfield 46, 3) := by decide +kernel
theorem dX9_hourOfNext_4 : decode cX9_hourOfNext 4 = .ok (.iload_n 2, 1) := by decide +kernel
theorem dX9_hourOfNext_5 : decode cX9_hourOfNext 5 = .ok (.iaload, 1) := by decide +kernel
theorem dX9_hourOfNext_6 : decode cX9_hourOfNext 6 = .ok (.istore_n 3, 1) := by decide +kernel
theorem dX9_hourOfNext_7 : decode cX9_hourOfNext 7 = .ok (.iload_n 3, 1) := by decide +kernel
theorem dX9_hourOfNext_8 : decode cX9_hourOfNext 8 = .ok (.aload_n 0, 1) := by decide +kernel
theorem dX9_hourOfNext_9 : decode cX9_hourOfNext 9 = .ok (.getfield 43, 3) := by decide +kernel
theorem dX9_hourOfNext_12 : decode cX9_hourOfNext 12 = .ok (.if_icmp .ne 6, 3) := by decide +kernel
theorem dX9_hourOfNext_15 : decode cX9_hourOfNext 15 = .ok (.bipush (-9), 2) := by decide +kernel
theorem dX9_hourOfNext_17 : decode cX9_hourOfNext 17 = .ok (.ireturn, 1) := by decide +kernel
theorem dX9_hourOfNext_18 : decode cX9_hourOfNext 18 = .ok (.aload_n 0, 1) := by decide +kernel
theorem dX9_hourOfNext_19 : decode cX9_hourOfNext 19 = .ok (.getfield 35, 3) := by decide +kernel
theorem dX9_hourOfNext_22 : decode cX9_hourOfNext 22 = .ok (.aload_n 0, 1) := by decide +kernel
theorem dX9_hourOfNext_23 : decode cX9_hourOfNext 23 = .ok (.getfield 28, 3) := by decide +kernel
theorem dX9_hourOfNext_26 : decode cX9_hourOfNext 26 = .ok (.aload_n 0, 1) := by decide +kernel
theorem dX9_hourOfNext_27 : decode cX9_hourOfNext 27 = .ok (.getfield 9, 3) := by decide +kernel
theorem dX9_hourOfNext_30 : decode cX9_hourOfNext 30 = .ok (.iload_n 3, 1) := by decide +kernel
theorem dX9_hourOfNext_31 : decode cX9_hourOfNext 31 = .ok (.iaload, 1) := by decide +kernel
theorem dX9_hourOfNext_32 : decode cX9_hourOfNext 32 = .ok (.isub, 1) := by decide +kernel
theorem dX9_hourOfNext_33 : decode cX9_hourOfNext 33 = .ok (.invokestatic 51, 3) := by decide +kernel
theorem dX9_hourOfNext_36 : decode cX9_hourOfNext 36 = .ok (.iadd, 1) := by decide +kernel
theorem dX9_hourOfNext_37 : decode cX9_hourOfNext 37 = .ok (.aload_n 0, 1) := by decide +kernel
theorem dX9_hourOfNext_38 : decode cX9_hourOfNext 38 = .ok (.getfield 9, 3) := by decide +kernel
theorem dX9_hourOfNext_41 : decode cX9_hourOfNext 41 = .ok (.iload_n 3, 1) := by decide +kernel
theorem dX9_hourOfNext_42 : decode cX9_hourOfNext 42 = .ok (.iaload, 1) := by decide +kernel
theorem dX9_hourOfNext_43 : decode cX9_hourOfNext 43 = .ok (.aload_n 1, 1) := by decide +kernel
theorem dX9_hourOfNext_44 : decode cX9_hourOfNext 44 = .ok (.getfield 57, 3) := by decide +kernel
theorem dX9_hourOfNext_47 : decode cX9_hourOfNext 47 = .ok (.iload_n 2, 1) := by decide +kernel
theorem dX9_hourOfNext_48 : decode cX9_hourOfNext 48 = .ok (.iaload, 1) := by decide +kernel
theorem dX9_hourOfNext_49 : decode cX9_hourOfNext 49 = .ok (.isub, 1) := by decide +kernel
theorem dX9_hourOfNext_50 : decode cX9_hourOfNext 50 = .ok (.invokestatic 51, 3) := by decide +kernel
theorem dX9_hourOfNext_53 : decode cX9_hourOfNext 53 = .ok (.iadd, 1) := by decide +kernel
theorem dX9_hourOfNext_54 : decode cX9_hourOfNext 54 = .ok (.istore 4, 2) := by decide +kernel
theorem dX9_hourOfNext_56 : decode cX9_hourOfNext 56 = .ok (.iload 4, 2) := by decide +kernel
theorem dX9_hourOfNext_58 : decode cX9_hourOfNext 58 = .ok (.aload_n 1, 1) := by decide +kernel
theorem dX9_hourOfNext_59 : decode cX9_hourOfNext 59 = .ok (.getfield 60, 3) := by decide +kernel
theorem dX9_hourOfNext_62 : decode cX9_hourOfNext 62 = .ok (.iload_n 2, 1) := by decide +kernel
theorem dX9_hourOfNext_63 : decode cX9_hourOfNext 63 = .ok (.iaload, 1) := by decide +kernel
theorem dX9_hourOfNext_64 : decode cX9_hourOfNext 64 = .ok (.invokestatic 63, 3) := by decide +kernel
theorem dX9_hourOfNext_67 : decode cX9_hourOfNext 67 = .ok (.istore 5, 2) := by decide +kernel
theorem dX9_hourOfNext_69 : decode cX9_hourOfNext 69 = .ok (.iload 5, 2) := by decide +kernel
theorem dX9_hourOfNext_71 : decode cX9_hourOfNext 71 = .ok (.aload_n 1, 1) := by decide +kernel
theorem dX9_hourOfNext_72 : decode cX9_hourOfNext 72 = .ok (.getfield 67, 3) := by decide +kernel
theorem dX9_hourOfNext_75 : decode cX9_hourOfNext 75 = .ok (.iload_n 2, 1) := by decide +kernel
theorem dX9_hourOfNext_76 : decode cX9_hourOfNext 76 = .ok (.iaload, 1) := by decide +kernel
theorem dX9_hourOfNext_77 : decode cX9_hourOfNext 77 = .ok (.if_icmp .gt 8, 3) := by decide +kernel
theorem dX9_hourOfNext_80 : decode cX9_hourOfNext 80 = .ok (.iload 5, 2) := by decide +kernel
theorem dX9_hourOfNext_82 : decode cX9_hourOfNext 82 = .ok (.goto 5, 3) := by decide +kernel
theorem dX9_hourOfNext_85 : decode cX9_hourOfNext 85 = .ok (.bipush (-9), 2) := by decide +kernel
theorem dX9_hourOfNext_87 : decode cX9_hourOfNext 87 = .ok (.ireturn, 1) := by decide +kernel
theorem dX9_add_0 : decode cX9_add 0 = .ok (.aload_n 1, 1) := by decide +kernel
theorem dX9_add_1 : decode cX9_add 1 = .ok (.getfield 46, 3) := by decide +kernel
theorem dX9_add_4 : decode cX9_add 4 = .ok (.iload_n 2, 1) := by decide +kernel
theorem dX9_add_5 : decode cX9_add 5 = .ok (.iaload, 1) := by decide +kernel
theorem dX9_add_6 : decode cX9_add 6 = .ok (.istore 4, 2) := by decide +kernel
theorem dX9_add_8 : decode cX9_add 8 = .ok (.aload_n 0, 1) := by decide +kernel
theorem dX9_add_9 : decode cX9_add 9 = .ok (.getfield 9, 3) := by decide +kernel
theorem dX9_add_12 : decode cX9_add 12 = .ok (.iload 4, 2) := by decide +kernel
theorem dX9_add_14 : decode cX9_add 14 = .ok (.aload_n 1, 1) := by decide +kernel
theorem dX9_add_15 : decode cX9_add 15 = .ok (.getfield 57, 3) := by decide +kernel
theorem dX9_add_18 : decode cX9_add 18 = .ok (.iload_n 2, 1) := by decide +kernel
theorem dX9_add_19 : decode cX9_add 19 = .ok (.iaload, 1) := by decide +kernel
theorem dX9_add_20 : decode cX9_add 20 = .ok (.iastore, 1) := by decide +kernel
theorem dX9_add_21 : decode cX9_add 21 = .ok (.aload_n 0, 1) := by decide +kernel
theorem dX9_add_22 : decode cX9_add 22 = .ok (.aload_n 1, 1) := by decide +kernel
theorem dX9_add_23 : decode cX9_add 23 = .ok (.getfield 57, 3) := by decide +kernel
theorem dX9_add_26 : decode cX9_add 26 = .ok (.iload_n 2, 1) := by decide +kernel
theorem dX9_add_27 : decode cX9_add 27 = .ok (.iaload, 1) := by decide +kernel
theorem dX9_add_28 : decode cX9_add 28 = .ok (.putfield 28, 3) := by decide +kernel
theorem dX9_add_31 : decode cX9_add 31 = .ok (.aload_n 0, 1) := by decide +kernel
theorem dX9_add_32 : decode cX9_add 32 = .ok (.iload_n 3, 1) := by decide +kernel
theorem dX9_add_33 : decode cX9_add 33 = .ok (.putfield 35, 3) := by decide +kernel
theorem dX9_add_36 : decode cX9_add 36 = .ok (.aload_n 0, 1) := by decide +kernel
theorem dX9_add_37 : decode cX9_add 37 = .ok (.iload 4, 2) := by decide +kernel
theorem dX9_add_39 : decode cX9_add 39 = .ok (.putfield 43, 3) := by decide +kernel
theorem dX9_add_42 : decode cX9_add 42 = .ok (.return_, 1) := by decide +kernel
set_option maxRecDepth 20000 in
theorem ggX10_init_X8_init : GoodIn wsX10_init wsX8_init := goodIn_r _ [45, 46, 2, 3, 47, 48, 101, 102, 103, 104, 105, 106] (by decide +kernel) (by decide +kernel)
set_option maxRecDepth 20000 in
theorem gX10_init_X8_init_n9 : GoodIn wsX10_init (wsX8_init) := ggX10_init_X8_init
set_option maxRecDepth 20000 in
theorem ggX10_init_X5_init : GoodIn wsX10_init wsX5_init := goodIn_r _ [50, 51, 2, 3] (by decide +kernel) (by decide +kernel)
set_option maxRecDepth 20000 in
theorem gX10_init_X5_init_n18 : GoodIn wsX10_init (wsX5_init) := ggX10_init_X5_init
set_option maxRecDepth 20000 in
theorem ggX10_init_X4_init : GoodIn wsX10_init wsX4_init := goodIn_r _ [53, 54, 2, 3, 55, 56, 47, 57, 58, 59, 60, 61, 62, 123, 124, 125, 126, 127, 128, 129, 130, 131, 132] (by decide +kernel) (by decide +kernel)
set_option maxRecDepth 20000 in
theorem gX10_init_X4_init_n25 : GoodIn wsX10_init (wsX4_init) := ggX10_init_X4_init
set_option maxRecDepth 20000 in
theorem ggX10_init_X1_init : GoodIn wsX10_init wsX1_init := goodIn_r _ [65, 66, 2, 3, 67, 68, 69, 70, 71, 72, 73, 74, 75, 47, 76, 77, 78, 153, 154, 155, 156, 157, 158, 159, 160, 133, 134, 135] (by decide +kernel) (by decide +kernel)
set_option maxRecDepth 20000 in
theorem gX10_init_X1_init : GoodIn wsX10_init (wsX1_init) := ggX10_init_X1_init
set_option maxRecDepth 20000 in
theorem ggX10_init_X0_init : GoodIn wsX10_init wsX0_init := goodIn_r _ [80, 81, 2, 3, 47, 82, 83, 136, 137, 138] (by decide +kernel) (by decide +kernel)
set_option maxRecDepth 20000 in
theorem gX10_init_X0_init_n50 : GoodIn wsX10_init (wsX0_init) := ggX10_init_X0_init
set_option maxRecDepth 20000 in
theorem ggX10_init_X9_init : GoodIn wsX10_init wsX9_init := goodIn_r _ [85, 86, 2, 3, 47, 87, 139, 140, 141, 142] (by decide +kernel) (by decide +kernel)
set_option maxRecDepth 20000 in
theorem gX10_init_X9_init_n57 : GoodIn wsX10_init (wsX9_init) := ggX10_init_X9_init
set_option maxRecDepth 20000 in
theorem ggX10_init_X6_init : GoodIn wsX10_init wsX6_init := goodIn_r _ [89, 90, 2, 3, 47, 91, 92, 143, 144, 145, 146, 147] (by decide +kernel) (by decide +kernel)
set_option maxRecDepth 20000 in
theorem gX10_init_X6_init_n64 : GoodIn wsX10_init (wsX6_init) := ggX10_init_X6_init
set_option maxRecDepth 20000 in
theorem ggX10_init_X7_init : GoodIn wsX10_init wsX7_init := goodIn_r _ [94, 95, 2, 3, 47, 96, 148, 149] (by decide +kernel) (by decide +kernel)
set_option maxRecDepth 20000 in
theorem gX10_init_X7_init_n71 : GoodIn wsX10_init (wsX7_init) := ggX10_init_X7_init
set_option maxRecDepth 20000 in
theorem ggX10_init_X3_init : GoodIn wsX10_init wsX3_init := goodIn_r _ [98, 99, 2, 3, 47, 100, 150, 151, 152] (by decide +kernel) (by decide +kernel)
set_option maxRecDepth 20000 in
theorem gX10_init_X3_init_n78 : GoodIn wsX10_init (wsX3_init) := ggX10_init_X3_init
theorem dX10_init_0 : decode cX10_init 0 = .ok (.aload_n 0, 1) := by decide +kernel
theorem dX10_init_1 : decode cX10_init 1 = .ok (.invokespecial 1, 3) := by decide +kernel
theorem dX10_init_4 : decode cX10_init 4 = .ok (.aload_n 0, 1) := by decide +kernel
theorem dX10_init_5 : decode cX10_init 5 = .ok (.new 7, 3) := by decide +kernel
theorem dX10_init_8 : decode cX10_init 8 = .ok (.dup, 1) := by decide +kernel
theorem dX10_init_9 : decode cX10_init 9 = .ok (.invokespecial 9, 3) := by decide +kernel
theorem dX10_init_12 : decode cX10_init 12 = .ok (.putfield 10, 3) := by decide +kernel
theorem dX10_init_15 : decode cX10_init 15 = .ok (.aload_n 0, 1) := by decide +kernel
theorem dX10_init_16 : decode cX10_init 16 = .ok (.new 16, 3) := by decide +kernel
theorem dX10_init_19 : decode cX10_init 19 = .ok (.dup, 1) := by decide +kernel
theorem dX10_init_20 : decode cX10_init 20 = .ok (.invokespecial 18, 3) := by decide +kernel
theorem dX10_init_23 : decode cX10_init 23 = .ok (.putfield 19, 3) := by decide +kernel
theorem dX10_init_26 : decode cX10_init 26 = .ok (.aload_n 0, 1) := by decide +kernel
theorem dX10_init_27 : decode cX10_init 27 = .ok (.new 23, 3) := by decide +kernel
theorem dX10_init_30 : decode cX10_init 30 = .ok (.dup, 1) := by decide +kernel
theorem dX10_init_31 : decode cX10_init 31 = .ok (.invokespecial 25, 3) := by decide +kernel
theorem dX10_init_34 : decode cX10_init 34 = .ok (.putfield 26, 3) := by decide +kernel
theorem dX10_init_37 : decode cX10_init 37 = .ok (.aload_n 0, 1) := by decide +kernel
theorem dX10_init_38 : decode cX10_init 38 = .ok (.new 23, 3) := by decide +kernel
theorem dX10_init_41 : decode cX10_init 41 = .ok (.dup, 1) := by decide +kernel
theorem dX10_init_42 : decode cX10_init 42 = .ok (.invokespecial 25, 3) := by decide +kernel
theorem dX10_init_45 : decode cX10_init 45 = .ok (.putfield 30, 3) := by decide +kernel
theorem dX10_init_48 : decode cX10_init 48 = .ok (.aload_n 0, 1) := by decide +kernel
theorem dX10_init_49 : decode cX10_init 49 = .ok (.new 33, 3) := by decide +kernel
theorem dX10_init_52 : decode cX10_init 52 = .ok (.dup, 1) := by decide +kernel
theorem dX10_init_53 : decode cX10_init 53 = .ok (.invokespecial 35, 3) := by decide +kernel
theorem dX10_init_56 : decode cX10_init 56 = .ok (.putfield 36, 3) := by decide +kernel
theorem dX10_init_59 : decode cX10_init 59 = .ok (.aload_n 0, 1) := by decide +kernel
theorem dX10_init_60 : decode cX10_init 60 = .ok (.iconst 2, 1) := by decide +kernel
theorem dX10_init_61 : decode cX10_init 61 = .ok (.anewarray 33, 3) := by decide +kernel
theorem dX10_init_64 : decode cX10_init 64 = .ok (.putfield 40, 3) := by decide +kernel
theorem dX10_init_67 : decode cX10_init 67 = .ok (.aload_n 0, 1) := by decide +kernel
theorem dX10_init_68 : decode cX10_init 68 = .ok (.iconst 2, 1) := by decide +kernel
theorem dX10_init_69 : decode cX10_init 69 = .ok (.newarray .boolean, 2) := by decide +kernel
theorem dX10_init_71 : decode cX10_init 71 = .ok (.putfield 44, 3) := by decide +kernel
theorem dX10_init_74 : decode cX10_init 74 = .ok (.aload_n 0, 1) := by decide +kernel
theorem dX10_init_75 : decode cX10_init 75 = .ok (.new 48, 3) := by decide +kernel
theorem dX10_init_78 : decode cX10_init 78 = .ok (.dup, 1) := by decide +kernel
theorem dX10_init_79 : decode cX10_init 79 = .ok (.invokespecial 50, 3) := by decide +kernel
theorem dX10_init_82 : decode cX10_init 82 = .ok (.putfield 51, 3) := by decide +kernel
theorem dX10_init_85 : decode cX10_init 85 = .ok (.aload_n 0, 1) := by decide +kernel
theorem dX10_init_86 : decode cX10_init 86 = .ok (.new 55, 3) := by decide +kernel
theorem dX10_init_89 : decode cX10_init 89 = .ok (.dup, 1) := by decide +kernel
theorem dX10_init_90 : decode cX10_init 90 = .ok (.invokespecial 57, 3) := by decide +kernel
theorem dX10_init_93 : decode cX10_init 93 = .ok (.putfield 58, 3) := by decide +kernel
theorem dX10_init_96 : decode cX10_init 96 = .ok (.aload_n 0, 1) := by decide +kernel
theorem dX10_init_97 : decode cX10_init 97 = .ok (.new 62, 3) := by decide +kernel
theorem dX10_init_100 : decode cX10_init 100 = .ok (.dup, 1) := by decide +kernel
theorem dX10_init_101 : decode cX10_init 101 = .ok (.invokespecial 64, 3) := by decide +kernel
theorem dX10_init_104 : decode cX10_init 104 = .ok (.putfield 65, 3) := by decide +kernel
theorem dX10_init_107 : decode cX10_init 107 = .ok (.aload_n 0, 1) := by decide +kernel
theorem dX10_init_108 : decode cX10_init 108 = .ok (.new 69, 3) := by decide +kernel
theorem dX10_init_111 : decode cX10_init 111 = .ok (.dup, 1) := by decide +kernel
theorem dX10_init_112 : decode cX10_init 112 = .ok (.invokespecial 71, 3) := by decide +kernel
theorem dX10_init_115 : decode cX10_init 115 = .ok (.putfield 72, 3) := by decide +kernel
theorem dX10_init_118 : decode cX10_init 118 = .ok (.aload_n 0, 1) := by decide +kernel
theorem dX10_init_119 : decode cX10_init 119 = .ok (.new 76, 3) := by decide +kernel
theorem dX10_init_122 : decode cX10_init 122 = .ok (.dup, 1) := by decide +kernel
theorem dX10_init_123 : decode cX10_init 123 = .ok (.invokespecial 78, 3) := by decide +kernel
theorem dX10_init_126 : decode cX10_init 126 = .ok (.putfield 79, 3) := by decide +kernel
theorem dX10_init_129 : decode cX10_init 129 = .ok (.iconst 0, 1) := by decide +kernel
theorem dX10_init_130 : decode cX10_init 130 = .ok (.istore_n 1, 1) := by decide +kernel
theorem dX10_init_131 : decode cX10_init 131 = .ok (.iload_n 1, 1) := by decide +kernel
theorem dX10_init_132 : decode cX10_init 132 = .ok (.iconst 2, 1) := by decide +kernel
theorem dX10_init_133 : decode cX10_init 133 = .ok (.if_icmp .ge 22, 3) := by decide +kernel
theorem dX10_init_136 : decode cX10_init 136 = .ok (.aload_n 0, 1) := by decide +kernel
theorem dX10_init_137 : decode cX10_init 137 = .ok (.getfield 40, 3) := by decide +kernel
theorem dX10_init_140 : decode cX10_init 140 = .ok (.iload_n 1, 1) := by decide +kernel
theorem dX10_init_141 : decode cX10_init 141 = .ok (.new 33, 3) := by decide +kernel
theorem dX10_init_144 : decode cX10_init 144 = .ok (.dup, 1) := by decide +kernel
theorem dX10_init_145 : decode cX10_init 145 = .ok (.invokespecial 35, 3) := by decide +kernel
theorem dX10_init_148 : decode cX10_init 148 = .ok (.aastore, 1) := by decide +kernel
theorem dX10_init_149 : decode cX10_init 149 = .ok (.iinc 1 1, 3) := by decide +kernel
theorem dX10_init_152 : decode cX10_init 152 = .ok (.goto (-21), 3) := by decide +kernel
theorem dX10_init_155 : decode cX10_init 155 = .ok (.return_, 1) := by decide +kernel
theorem dX10_type_0 : decode cX10_type 0 = .ok (.iload_n 1, 1) := by decide +kernel
theorem dX10_type_1 : decode cX10_type 1 = .ok (.ifCond .lt 10, 3) := by decide +kernel
theorem dX10_type_4 : decode cX10_type 4 = .ok (.iload_n 1, 1) := by decide +kernel
theorem dX10_type_5 : decode cX10_type 5 = .ok (.sipush 255, 3) := by decide +kernel
theorem dX10_type_8 : decode cX10_type 8 = .ok (.if_icmp .le 5, 3) := by decide +kernel
theorem dX10_type_11 : decode cX10_type 11 = .ok (.iconst (-1), 1) := by decide +kernel
theorem dX10_type_12 : decode cX10_type 12 = .ok (.ireturn, 1) := by decide +kernel
theorem dX10_type_13 : decode cX10_type 13 = .ok (.aload_n 0, 1) := by decide +kernel
theorem dX10_type_14 : decode cX10_type 14 = .ok (.getfield 10, 3) := by decide +kernel
theorem dX10_type_17 : decode cX10_type 17 = .ok (.getfield 83, 3) := by decide +kernel
theorem dX10_type_20 : decode cX10_type 20 = .ok (.sipush 180, 3) := by decide +kernel
theorem dX10_type_23 : decode cX10_type 23 = .ok (.if_icmp .lt 6, 3) := by decide +kernel
theorem dX10_type_26 : decode cX10_type 26 = .ok (.bipush (-3), 2) := by decide +kernel
theorem dX10_type_28 : decode cX10_type 28 = .ok (.ireturn, 1) := by decide +kernel
theorem dX10_type_29 : decode cX10_type 29 = .ok (.aload_n 0, 1) := by decide +kernel
theorem dX10_type_30 : decode cX10_type 30 = .ok (.getfield 10, 3) := by decide +kernel
theorem dX10_type_33 : decode cX10_type 33 = .ok (.getfield 87, 3) := by decide +kernel
theorem dX10_type_36 : decode cX10_type 36 = .ok (.aload_n 0, 1) := by decide +kernel
theorem dX10_type_37 : decode cX10_type 37 = .ok (.getfield 10, 3) := by decide +kernel
theorem dX10_type_40 : decode cX10_type 40 = .ok (.getfield 83, 3) := by decide +kernel
theorem dX10_type_43 : decode cX10_type 43 = .ok (.iload_n 1, 1) := by decide +kernel
theorem dX10_type_44 : decode cX10_type 44 = .ok (.iastore, 1) := by decide +kernel
theorem dX10_type_45 : decode cX10_type 45 = .ok (.aload_n 0, 1) := by decide +kernel
theorem dX10_type_46 : decode cX10_type 46 = .ok (.getfield 10, 3) := by decide +kernel
theorem dX10_type_49 : decode cX10_type 49 = .ok (.dup, 1) := by decide +kernel
theorem dX10_type_50 : decode cX10_type 50 = .ok (.getfield 83, 3) := by decide +kernel
theorem dX10_type_53 : decode cX10_type 53 = .ok (.iconst 1, 1) := by decide +kernel
theorem dX10_type_54 : decode cX10_type 54 = .ok (.iadd, 1) := by decide +kernel
theorem dX10_type_55 : decode cX10_type 55 = .ok (.putfield 83, 3) := by decide +kernel
theorem dX10_type_58 : decode cX10_type 58 = .ok (.aload_n 0, 1) := by decide +kernel
theorem dX10_type_59 : decode cX10_type 59 = .ok (.getfield 10, 3) := by decide +kernel
theorem dX10_type_62 : decode cX10_type 62 = .ok (.getfield 83, 3) := by decide +kernel
end
section
theorem dX10_type_65 : decode cX10_type 65 = .ok (.ireturn, 1) := by decide +kernel
theorem dX10_clear_0 : decode cX10_clear 0 = .ok (.aload_n 0, 1) := by decide +kernel
theorem dX10_clear_1 : decode cX10_clear 1 = .ok (.getfield 10, 3) := by decide +kernel
theorem dX10_clear_4 : decode cX10_clear 4 = .ok (.getfield 83, 3) := by decide +kernel
theorem dX10_clear_7 : decode cX10_clear 7 = .ok (.istore_n 1, 1) := by decide +kernel
theorem dX10_clear_8 : decode cX10_clear 8 = .ok (.aload_n 0, 1) := by decide +kernel
theorem dX10_clear_9 : decode cX10_clear 9 = .ok (.getfield 10, 3) := by decide +kernel
theorem dX10_clear_12 : decode cX10_clear 12 = .ok (.iconst 0, 1) := by decide +kernel
theorem dX10_clear_13 : decode cX10_clear 13 = .ok (.putfield 83, 3) := by decide +kernel
theorem dX10_clear_16 : decode cX10_clear 16 = .ok (.iload_n 1, 1) := by decide +kernel
theorem dX10_clear_17 : decode cX10_clear 17 = .ok (.ireturn, 1) := by decide +kernel
set_option maxRecDepth 20000 in
theorem ggX10_port_X5_read : GoodIn wsX10_port wsX5_read := goodIn_r _ [15, 16, 17, 18, 19, 20, 21, 22, 23, 24, 25, 26, 27, 28, 29, 30, 31, 32, 33, 34, 35, 36, 37, 38, 39, 40, 41, 42, 43, 44, 45, 46, 47, 48, 49, 50, 51, 52, 53, 54, 55, 56, 57, 58, 59, 60, 14, 61, 62, 63, 64, 65, 66, 67, 68, 69, 70, 71, 72, 73, 74, 75, 76, 77, 78, 79, 80, 81, 82, 83, 84, 85, 86, 87, 88, 89, 90, 91, 92, 93, 94, 153, 154, 144, 145, 146, 147, 148, 149, 155, 156, 157, 158, 159, 160, 161, 162, 163, 164] (by decide +kernel) (by decide +kernel)
set_option maxRecDepth 20000 in
theorem gX10_port_X5_read : GoodIn wsX10_port (wsV RX10 91 RX5 yX5_read wsX5_read) := goodIn_app (goodIn_of _ (by decide +kernel)) ggX10_port_X5_read
set_option maxRecDepth 20000 in
theorem ggX10_port_X4_copyFrom : GoodIn wsX10_port wsX4_copyFrom := goodIn_r _ [98, 31, 32, 33, 34, 99, 100, 101, 102, 103, 104, 105, 106, 107, 108, 155, 156, 157, 158, 159, 160, 161, 162, 163, 164] (by decide +kernel) (by decide +kernel)
set_option maxRecDepth 20000 in
theorem gX10_port_X4_copyFrom : GoodIn wsX10_port (wsV RX10 95 RX4 yX4_copyFrom wsX4_copyFrom) := goodIn_app (goodIn_of _ (by decide +kernel)) ggX10_port_X4_copyFrom
set_option maxRecDepth 20000 in
theorem ggX10_port_X1_begin : GoodIn wsX10_port wsX1_begin := goodIn_r _ [113, 114, 115, 116, 117, 118, 119, 120, 121, 122, 123, 124, 125, 126, 127, 128, 129, 165, 166, 167, 168, 169, 170, 171, 172, 173, 174, 175, 155, 156, 157, 158, 159, 160, 161, 162, 163, 164] (by decide +kernel) (by decide +kernel)
set_option maxRecDepth 20000 in
theorem gX10_port_X1_begin : GoodIn wsX10_port (wsV RX10 99 RX1 yX1_begin wsX1_begin) := goodIn_app (goodIn_of _ (by decide +kernel)) ggX10_port_X1_begin
theorem dX10_port_0 : decode cX10_port 0 = .ok (.aload_n 0, 1) := by decide +kernel
theorem dX10_port_1 : decode cX10_port 1 = .ok (.getfield 19, 3) := by decide +kernel
theorem dX10_port_4 : decode cX10_port 4 = .ok (.aload_n 0, 1) := by decide +kernel
theorem dX10_port_5 : decode cX10_port 5 = .ok (.getfield 10, 3) := by decide +kernel
theorem dX10_port_8 : decode cX10_port 8 = .ok (.aload_n 0, 1) := by decide +kernel
theorem dX10_port_9 : decode cX10_port 9 = .ok (.getfield 30, 3) := by decide +kernel
theorem dX10_port_12 : decode cX10_port 12 = .ok (.invokevirtual 91, 3) := by decide +kernel
theorem dX10_port_15 : decode cX10_port 15 = .ok (.istore_n 1, 1) := by decide +kernel
theorem dX10_port_16 : decode cX10_port 16 = .ok (.iload_n 1, 1) := by decide +kernel
theorem dX10_port_17 : decode cX10_port 17 = .ok (.ifCond .ge 5, 3) := by decide +kernel
theorem dX10_port_20 : decode cX10_port 20 = .ok (.iload_n 1, 1) := by decide +kernel
theorem dX10_port_21 : decode cX10_port 21 = .ok (.ireturn, 1) := by decide +kernel
theorem dX10_port_22 : decode cX10_port 22 = .ok (.aload_n 0, 1) := by decide +kernel
theorem dX10_port_23 : decode cX10_port 23 = .ok (.getfield 10, 3) := by decide +kernel
theorem dX10_port_26 : decode cX10_port 26 = .ok (.iconst 0, 1) := by decide +kernel
theorem dX10_port_27 : decode cX10_port 27 = .ok (.putfield 83, 3) := by decide +kernel
theorem dX10_port_30 : decode cX10_port 30 = .ok (.aload_n 0, 1) := by decide +kernel
theorem dX10_port_31 : decode cX10_port 31 = .ok (.getfield 26, 3) := by decide +kernel
theorem dX10_port_34 : decode cX10_port 34 = .ok (.aload_n 0, 1) := by decide +kernel
theorem dX10_port_35 : decode cX10_port 35 = .ok (.getfield 30, 3) := by decide +kernel
theorem dX10_port_38 : decode cX10_port 38 = .ok (.invokevirtual 95, 3) := by decide +kernel
theorem dX10_port_41 : decode cX10_port 41 = .ok (.aload_n 0, 1) := by decide +kernel
theorem dX10_port_42 : decode cX10_port 42 = .ok (.getfield 36, 3) := by decide +kernel
theorem dX10_port_45 : decode cX10_port 45 = .ok (.aload_n 0, 1) := by decide +kernel
theorem dX10_port_46 : decode cX10_port 46 = .ok (.getfield 26, 3) := by decide +kernel
theorem dX10_port_49 : decode cX10_port 49 = .ok (.invokevirtual 99, 3) := by decide +kernel
theorem dX10_port_52 : decode cX10_port 52 = .ok (.aload_n 0, 1) := by decide +kernel
theorem dX10_port_53 : decode cX10_port 53 = .ok (.getfield 51, 3) := by decide +kernel
theorem dX10_port_56 : decode cX10_port 56 = .ok (.iconst 0, 1) := by decide +kernel
theorem dX10_port_57 : decode cX10_port 57 = .ok (.putfield 102, 3) := by decide +kernel
theorem dX10_port_60 : decode cX10_port 60 = .ok (.iconst 0, 1) := by decide +kernel
theorem dX10_port_61 : decode cX10_port 61 = .ok (.istore_n 2, 1) := by decide +kernel
theorem dX10_port_62 : decode cX10_port 62 = .ok (.iload_n 2, 1) := by decide +kernel
theorem dX10_port_63 : decode cX10_port 63 = .ok (.iconst 2, 1) := by decide +kernel
theorem dX10_port_64 : decode cX10_port 64 = .ok (.if_icmp .ge 16, 3) := by decide +kernel
theorem dX10_port_67 : decode cX10_port 67 = .ok (.aload_n 0, 1) := by decide +kernel
theorem dX10_port_68 : decode cX10_port 68 = .ok (.getfield 44, 3) := by decide +kernel
theorem dX10_port_71 : decode cX10_port 71 = .ok (.iload_n 2, 1) := by decide +kernel
theorem dX10_port_72 : decode cX10_port 72 = .ok (.iconst 0, 1) := by decide +kernel
theorem dX10_port_73 : decode cX10_port 73 = .ok (.bastore, 1) := by decide +kernel
theorem dX10_port_74 : decode cX10_port 74 = .ok (.iinc 2 1, 3) := by decide +kernel
theorem dX10_port_77 : decode cX10_port 77 = .ok (.goto (-15), 3) := by decide +kernel
theorem dX10_port_80 : decode cX10_port 80 = .ok (.aload_n 0, 1) := by decide +kernel
theorem dX10_port_81 : decode cX10_port 81 = .ok (.iconst 0, 1) := by decide +kernel
theorem dX10_port_82 : decode cX10_port 82 = .ok (.putfield 105, 3) := by decide +kernel
theorem dX10_port_85 : decode cX10_port 85 = .ok (.iload_n 1, 1) := by decide +kernel
theorem dX10_port_86 : decode cX10_port 86 = .ok (.ireturn, 1) := by decide +kernel
set_option maxRecDepth 20000 in
theorem ggX10_one_X4_hasOne : GoodIn wsX10_one wsX4_hasOne := goodIn_r _ [11, 12, 38, 39, 40, 41, 42, 43, 44, 45, 46, 47] (by decide +kernel) (by decide +kernel)
set_option maxRecDepth 20000 in
theorem gX10_one_X4_hasOne : GoodIn wsX10_one (wsV RX10 109 RX4 yX4_hasOne wsX4_hasOne) := goodIn_app (goodIn_of _ (by decide +kernel)) ggX10_one_X4_hasOne
set_option maxRecDepth 20000 in
theorem ggX10_one_X2_careOf : GoodIn wsX10_one wsX2_careOf := goodIn_r _ [17, 18, 19, 20, 48, 49, 50, 51, 52, 53, 54, 55] (by decide +kernel) (by decide +kernel)
set_option maxRecDepth 20000 in
theorem gX10_one_X2_careOf : GoodIn wsX10_one (wsV RX10 128 RX2 yX2_careOf wsX2_careOf) := goodIn_app (goodIn_of _ (by decide +kernel)) ggX10_one_X2_careOf
theorem dX10_one_0 : decode cX10_one 0 = .ok (.aload_n 0, 1) := by decide +kernel
theorem dX10_one_1 : decode cX10_one 1 = .ok (.getfield 26, 3) := by decide +kernel
theorem dX10_one_4 : decode cX10_one 4 = .ok (.iload_n 1, 1) := by decide +kernel
theorem dX10_one_5 : decode cX10_one 5 = .ok (.invokevirtual 109, 3) := by decide +kernel
theorem dX10_one_8 : decode cX10_one 8 = .ok (.ifCond .ne 5, 3) := by decide +kernel
theorem dX10_one_11 : decode cX10_one 11 = .ok (.iconst (-1), 1) := by decide +kernel
theorem dX10_one_12 : decode cX10_one 12 = .ok (.ireturn, 1) := by decide +kernel
theorem dX10_one_13 : decode cX10_one 13 = .ok (.aload_n 0, 1) := by decide +kernel
theorem dX10_one_14 : decode cX10_one 14 = .ok (.getfield 36, 3) := by decide +kernel
theorem dX10_one_17 : decode cX10_one 17 = .ok (.getfield 113, 3) := by decide +kernel
theorem dX10_one_20 : decode cX10_one 20 = .ok (.astore_n 3, 1) := by decide +kernel
theorem dX10_one_21 : decode cX10_one 21 = .ok (.iload_n 2, 1) := by decide +kernel
theorem dX10_one_22 : decode cX10_one 22 = .ok (.tableswitch 60 0 3 #[30, 40, 47, 54], 30) := by decide +kernel
theorem dX10_one_52 : decode cX10_one 52 = .ok (.aload_n 0, 1) := by decide +kernel
theorem dX10_one_53 : decode cX10_one 53 = .ok (.getfield 26, 3) := by decide +kernel
theorem dX10_one_56 : decode cX10_one 56 = .ok (.getfield 117, 3) := by decide +kernel
theorem dX10_one_59 : decode cX10_one 59 = .ok (.iload_n 1, 1) := by decide +kernel
theorem dX10_one_60 : decode cX10_one 60 = .ok (.iaload, 1) := by decide +kernel
theorem dX10_one_61 : decode cX10_one 61 = .ok (.ireturn, 1) := by decide +kernel
theorem dX10_one_62 : decode cX10_one 62 = .ok (.aload_n 3, 1) := by decide +kernel
theorem dX10_one_63 : decode cX10_one 63 = .ok (.getfield 120, 3) := by decide +kernel
theorem dX10_one_66 : decode cX10_one 66 = .ok (.iload_n 1, 1) := by decide +kernel
theorem dX10_one_67 : decode cX10_one 67 = .ok (.iaload, 1) := by decide +kernel
theorem dX10_one_68 : decode cX10_one 68 = .ok (.ireturn, 1) := by decide +kernel
theorem dX10_one_69 : decode cX10_one 69 = .ok (.aload_n 3, 1) := by decide +kernel
theorem dX10_one_70 : decode cX10_one 70 = .ok (.getfield 125, 3) := by decide +kernel
theorem dX10_one_73 : decode cX10_one 73 = .ok (.iload_n 1, 1) := by decide +kernel
theorem dX10_one_74 : decode cX10_one 74 = .ok (.iaload, 1) := by decide +kernel
theorem dX10_one_75 : decode cX10_one 75 = .ok (.ireturn, 1) := by decide +kernel
theorem dX10_one_76 : decode cX10_one 76 = .ok (.aload_n 3, 1) := by decide +kernel
theorem dX10_one_77 : decode cX10_one 77 = .ok (.iload_n 1, 1) := by decide +kernel
theorem dX10_one_78 : decode cX10_one 78 = .ok (.invokevirtual 128, 3) := by decide +kernel
theorem dX10_one_81 : decode cX10_one 81 = .ok (.ireturn, 1) := by decide +kernel
theorem dX10_one_82 : decode cX10_one 82 = .ok (.iconst (-1), 1) := by decide +kernel
theorem dX10_one_83 : decode cX10_one 83 = .ok (.ireturn, 1) := by decide +kernel
set_option maxRecDepth 20000 in
theorem ggX10_deed_X4_hasDeed : GoodIn wsX10_deed wsX4_hasDeed := goodIn_r _ [13, 14, 35, 36, 37, 38, 39, 40, 41, 42, 43, 44] (by decide +kernel) (by decide +kernel)
set_option maxRecDepth 20000 in
theorem gX10_deed_X4_hasDeed : GoodIn wsX10_deed (wsV RX10 132 RX4 yX4_hasDeed wsX4_hasDeed) := goodIn_app (goodIn_of _ (by decide +kernel)) ggX10_deed_X4_hasDeed
set_option maxRecDepth 20000 in
theorem ggX10_deed_X2_isDone : GoodIn wsX10_deed wsX2_isDone := goodIn_r _ [19, 20, 48, 49, 50, 51, 52, 53, 54, 55] (by decide +kernel) (by decide +kernel)
set_option maxRecDepth 20000 in
theorem gX10_deed_X2_isDone : GoodIn wsX10_deed (wsV RX10 150 RX2 yX2_isDone wsX2_isDone) := goodIn_app (goodIn_of _ (by decide +kernel)) ggX10_deed_X2_isDone
theorem dX10_deed_0 : decode cX10_deed 0 = .ok (.aload_n 0, 1) := by decide +kernel
theorem dX10_deed_1 : decode cX10_deed 1 = .ok (.getfield 26, 3) := by decide +kernel
theorem dX10_deed_4 : decode cX10_deed 4 = .ok (.iload_n 1, 1) := by decide +kernel
theorem dX10_deed_5 : decode cX10_deed 5 = .ok (.invokevirtual 132, 3) := by decide +kernel
theorem dX10_deed_8 : decode cX10_deed 8 = .ok (.ifCond .ne 5, 3) := by decide +kernel
theorem dX10_deed_11 : decode cX10_deed 11 = .ok (.iconst (-1), 1) := by decide +kernel
theorem dX10_deed_12 : decode cX10_deed 12 = .ok (.ireturn, 1) := by decide +kernel
theorem dX10_deed_13 : decode cX10_deed 13 = .ok (.iload_n 2, 1) := by decide +kernel
theorem dX10_deed_14 : decode cX10_deed 14 = .ok (.tableswitch 108 0 5 #[38, 48, 58, 68, 78, 88], 38) := by decide +kernel
theorem dX10_deed_52 : decode cX10_deed 52 = .ok (.aload_n 0, 1) := by decide +kernel
theorem dX10_deed_53 : decode cX10_deed 53 = .ok (.getfield 26, 3) := by decide +kernel
theorem dX10_deed_56 : decode cX10_deed 56 = .ok (.getfield 135, 3) := by decide +kernel
theorem dX10_deed_59 : decode cX10_deed 59 = .ok (.iload_n 1, 1) := by decide +kernel
theorem dX10_deed_60 : decode cX10_deed 60 = .ok (.iaload, 1) := by decide +kernel
theorem dX10_deed_61 : decode cX10_deed 61 = .ok (.ireturn, 1) := by decide +kernel
theorem dX10_deed_62 : decode cX10_deed 62 = .ok (.aload_n 0, 1) := by decide +kernel
theorem dX10_deed_63 : decode cX10_deed 63 = .ok (.getfield 26, 3) := by decide +kernel
theorem dX10_deed_66 : decode cX10_deed 66 = .ok (.getfield 138, 3) := by decide +kernel
theorem dX10_deed_69 : decode cX10_deed 69 = .ok (.iload_n 1, 1) := by decide +kernel
theorem dX10_deed_70 : decode cX10_deed 70 = .ok (.iaload, 1) := by decide +kernel
theorem dX10_deed_71 : decode cX10_deed 71 = .ok (.ireturn, 1) := by decide +kernel
theorem dX10_deed_72 : decode cX10_deed 72 = .ok (.aload_n 0, 1) := by decide +kernel
theorem dX10_deed_73 : decode cX10_deed 73 = .ok (.getfield 26, 3) := by decide +kernel
theorem dX10_deed_76 : decode cX10_deed 76 = .ok (.getfield 141, 3) := by decide +kernel
theorem dX10_deed_79 : decode cX10_deed 79 = .ok (.iload_n 1, 1) := by decide +kernel
theorem dX10_deed_80 : decode cX10_deed 80 = .ok (.iaload, 1) := by decide +kernel
theorem dX10_deed_81 : decode cX10_deed 81 = .ok (.ireturn, 1) := by decide +kernel
theorem dX10_deed_82 : decode cX10_deed 82 = .ok (.aload_n 0, 1) := by decide +kernel
theorem dX10_deed_83 : decode cX10_deed 83 = .ok (.getfield 26, 3) := by decide +kernel
theorem dX10_deed_86 : decode cX10_deed 86 = .ok (.getfield 144, 3) := by decide +kernel
theorem dX10_deed_89 : decode cX10_deed 89 = .ok (.iload_n 1, 1) := by decide +kernel
theorem dX10_deed_90 : decode cX10_deed 90 = .ok (.iaload, 1) := by decide +kernel
theorem dX10_deed_91 : decode cX10_deed 91 = .ok (.ireturn, 1) := by decide +kernel
theorem dX10_deed_92 : decode cX10_deed 92 = .ok (.aload_n 0, 1) := by decide +kernel
theorem dX10_deed_93 : decode cX10_deed 93 = .ok (.getfield 26, 3) := by decide +kernel
theorem dX10_deed_96 : decode cX10_deed 96 = .ok (.getfield 147, 3) := by decide +kernel
theorem dX10_deed_99 : decode cX10_deed 99 = .ok (.iload_n 1, 1) := by decide +kernel
theorem dX10_deed_100 : decode cX10_deed 100 = .ok (.iaload, 1) := by decide +kernel
theorem dX10_deed_101 : decode cX10_deed 101 = .ok (.ireturn, 1) := by decide +kernel
theorem dX10_deed_102 : decode cX10_deed 102 = .ok (.aload_n 0, 1) := by decide +kernel
theorem dX10_deed_103 : decode cX10_deed 103 = .ok (.getfield 36, 3) := by decide +kernel
theorem dX10_deed_106 : decode cX10_deed 106 = .ok (.getfield 113, 3) := by decide +kernel
theorem dX10_deed_109 : decode cX10_deed 109 = .ok (.iload_n 1, 1) := by decide +kernel
theorem dX10_deed_110 : decode cX10_deed 110 = .ok (.invokevirtual 150, 3) := by decide +kernel
theorem dX10_deed_113 : decode cX10_deed 113 = .ok (.ifCond .eq 7, 3) := by decide +kernel
theorem dX10_deed_116 : decode cX10_deed 116 = .ok (.iconst 1, 1) := by decide +kernel
theorem dX10_deed_117 : decode cX10_deed 117 = .ok (.goto 4, 3) := by decide +kernel
theorem dX10_deed_120 : decode cX10_deed 120 = .ok (.iconst 0, 1) := by decide +kernel
theorem dX10_deed_121 : decode cX10_deed 121 = .ok (.ireturn, 1) := by decide +kernel
theorem dX10_deed_122 : decode cX10_deed 122 = .ok (.iconst (-1), 1) := by decide +kernel
theorem dX10_deed_123 : decode cX10_deed 123 = .ok (.ireturn, 1) := by decide +kernel
set_option maxRecDepth 20000 in
theorem ggX10_lends_X4_hasOne : GoodIn wsX10_lends wsX4_hasOne := goodIn_r _ [11, 12, 101, 102, 103, 104, 105, 106, 107, 108, 109, 110] (by decide +kernel) (by decide +kernel)
set_option maxRecDepth 20000 in
theorem gX10_lends_X4_hasOne : GoodIn wsX10_lends (wsV RX10 109 RX4 yX4_hasOne wsX4_hasOne) := goodIn_app (goodIn_of _ (by decide +kernel)) ggX10_lends_X4_hasOne
set_option maxRecDepth 20000 in
theorem ggX10_lends_X2_spoonPlace : GoodIn wsX10_lends wsX2_spoonPlace := goodIn_r _ [17, 18, 19, 20, 21, 22, 23, 16, 24, 93, 94, 95, 96, 97, 98, 99, 100, 101, 102, 103, 104, 105, 106, 107, 108, 109, 110] (by decide +kernel) (by decide +kernel)
set_option maxRecDepth 20000 in
theorem gX10_lends_X2_spoonPlace : GoodIn wsX10_lends (wsV RX10 156 RX2 yX2_spoonPlace wsX2_spoonPlace) := goodIn_app (goodIn_of _ (by decide +kernel)) ggX10_lends_X2_spoonPlace
set_option maxRecDepth 20000 in
theorem ggX10_lends_X10_beginStep : GoodIn wsX10_lends wsX10_beginStep := goodIn_r _ [29, 2, 30, 31, 32, 33, 34, 35, 36, 37, 38, 39, 40, 41, 42, 43, 44, 45, 16, 46, 47, 19, 48, 49, 50, 18, 51, 52, 53, 54, 55, 56, 76, 77, 78, 79, 80, 81, 82, 83, 84, 85, 86, 87, 88, 89, 90, 91, 92, 93, 94, 95, 96, 97, 98, 99, 100] (by decide +kernel) (by decide +kernel)
set_option maxRecDepth 20000 in
theorem gX10_lends_X10_beginStep : GoodIn wsX10_lends (wsV RX10 160 RX10 yX10_beginStep wsX10_beginStep) := goodIn_app (goodIn_of _ (by decide +kernel)) ggX10_lends_X10_beginStep
set_option maxRecDepth 20000 in
theorem ggX10_lends_X2_giveAway : GoodIn wsX10_lends wsX2_giveAway := goodIn_r _ [60, 19, 61, 62, 63, 64, 56, 65, 66, 67, 55, 47, 49, 68, 69, 70, 16, 71, 48, 21, 22, 23, 24, 93, 94, 95, 96, 97, 98, 99, 100] (by decide +kernel) (by decide +kernel)
set_option maxRecDepth 20000 in
theorem gX10_lends_X2_giveAway : GoodIn wsX10_lends (wsV RX10 166 RX2 yX2_giveAway wsX2_giveAway) := goodIn_app (goodIn_of _ (by decide +kernel)) ggX10_lends_X2_giveAway
set_option maxRecDepth 20000 in
theorem ggX10_lends_X2_receive : GoodIn wsX10_lends wsX2_receive := goodIn_r _ [75, 19, 47, 48, 49, 93, 94, 95, 96, 97, 98, 99, 100] (by decide +kernel) (by decide +kernel)
set_option maxRecDepth 20000 in
theorem gX10_lends_X2_receive : GoodIn wsX10_lends (wsV RX10 169 RX2 yX2_receive wsX2_receive) := goodIn_app (goodIn_of _ (by decide +kernel)) ggX10_lends_X2_receive
theorem dX10_lends_0 : decode cX10_lends 0 = .ok (.aload_n 0, 1) := by decide +kernel
theorem dX10_lends_1 : decode cX10_lends 1 = .ok (.getfield 26, 3) := by decide +kernel
theorem dX10_lends_4 : decode cX10_lends 4 = .ok (.iload_n 1, 1) := by decide +kernel
theorem dX10_lends_5 : decode cX10_lends 5 = .ok (.invokevirtual 109, 3) := by decide +kernel
theorem dX10_lends_8 : decode cX10_lends 8 = .ok (.ifCond .ne 5, 3) := by decide +kernel
theorem dX10_lends_11 : decode cX10_lends 11 = .ok (.iconst (-1), 1) := by decide +kernel
theorem dX10_lends_12 : decode cX10_lends 12 = .ok (.ireturn, 1) := by decide +kernel
theorem dX10_lends_13 : decode cX10_lends 13 = .ok (.aload_n 0, 1) := by decide +kernel
theorem dX10_lends_14 : decode cX10_lends 14 = .ok (.getfield 36, 3) := by decide +kernel
theorem dX10_lends_17 : decode cX10_lends 17 = .ok (.getfield 113, 3) := by decide +kernel
theorem dX10_lends_20 : decode cX10_lends 20 = .ok (.astore_n 2, 1) := by decide +kernel
theorem dX10_lends_21 : decode cX10_lends 21 = .ok (.aload_n 2, 1) := by decide +kernel
theorem dX10_lends_22 : decode cX10_lends 22 = .ok (.getfield 153, 3) := by decide +kernel
theorem dX10_lends_25 : decode cX10_lends 25 = .ok (.iload_n 1, 1) := by decide +kernel
theorem dX10_lends_26 : decode cX10_lends 26 = .ok (.if_icmp .eq 20, 3) := by decide +kernel
theorem dX10_lends_29 : decode cX10_lends 29 = .ok (.aload_n 2, 1) := by decide +kernel
theorem dX10_lends_30 : decode cX10_lends 30 = .ok (.getfield 120, 3) := by decide +kernel
theorem dX10_lends_33 : decode cX10_lends 33 = .ok (.iload_n 1, 1) := by decide +kernel
theorem dX10_lends_34 : decode cX10_lends 34 = .ok (.iaload, 1) := by decide +kernel
theorem dX10_lends_35 : decode cX10_lends 35 = .ok (.aload_n 2, 1) := by decide +kernel
theorem dX10_lends_36 : decode cX10_lends 36 = .ok (.aload_n 0, 1) := by decide +kernel
theorem dX10_lends_37 : decode cX10_lends 37 = .ok (.getfield 26, 3) := by decide +kernel
theorem dX10_lends_40 : decode cX10_lends 40 = .ok (.invokevirtual 156, 3) := by decide +kernel
theorem dX10_lends_43 : decode cX10_lends 43 = .ok (.if_icmp .eq 6, 3) := by decide +kernel
theorem dX10_lends_46 : decode cX10_lends 46 = .ok (.bipush (-2), 2) := by decide +kernel
theorem dX10_lends_48 : decode cX10_lends 48 = .ok (.ireturn, 1) := by decide +kernel
theorem dX10_lends_49 : decode cX10_lends 49 = .ok (.aload_n 0, 1) := by decide +kernel
theorem dX10_lends_50 : decode cX10_lends 50 = .ok (.invokevirtual 160, 3) := by decide +kernel
theorem dX10_lends_53 : decode cX10_lends 53 = .ok (.aload_n 2, 1) := by decide +kernel
theorem dX10_lends_54 : decode cX10_lends 54 = .ok (.aload_n 0, 1) := by decide +kernel
theorem dX10_lends_55 : decode cX10_lends 55 = .ok (.getfield 26, 3) := by decide +kernel
theorem dX10_lends_58 : decode cX10_lends 58 = .ok (.getfield 163, 3) := by decide +kernel
theorem dX10_lends_61 : decode cX10_lends 61 = .ok (.invokevirtual 166, 3) := by decide +kernel
theorem dX10_lends_64 : decode cX10_lends 64 = .ok (.istore_n 3, 1) := by decide +kernel
theorem dX10_lends_65 : decode cX10_lends 65 = .ok (.aload_n 2, 1) := by decide +kernel
theorem dX10_lends_66 : decode cX10_lends 66 = .ok (.iload_n 1, 1) := by decide +kernel
theorem dX10_lends_67 : decode cX10_lends 67 = .ok (.invokevirtual 169, 3) := by decide +kernel
theorem dX10_lends_70 : decode cX10_lends 70 = .ok (.iload_n 3, 1) := by decide +kernel
theorem dX10_lends_71 : decode cX10_lends 71 = .ok (.ireturn, 1) := by decide +kernel
set_option maxRecDepth 20000 in
theorem ggX10_brings_X2_isHeld : GoodIn wsX10_brings wsX2_isHeld := goodIn_r _ [10, 11, 93, 94, 95, 96, 97, 98, 99, 100] (by decide +kernel) (by decide +kernel)
set_option maxRecDepth 20000 in
theorem gX10_brings_X2_isHeld : GoodIn wsX10_brings (wsV RX10 173 RX2 yX2_isHeld wsX2_isHeld) := goodIn_app (goodIn_of _ (by decide +kernel)) ggX10_brings_X2_isHeld
set_option maxRecDepth 20000 in
theorem ggX10_brings_X2_spoonPlace : GoodIn wsX10_brings wsX2_spoonPlace := goodIn_r _ [15, 16, 11, 17, 18, 7, 8, 9, 10, 93, 94, 95, 96, 97, 98, 99, 100, 83, 84, 85, 86, 87, 88, 89, 90, 91, 92] (by decide +kernel) (by decide +kernel)
set_option maxRecDepth 20000 in
theorem gX10_brings_X2_spoonPlace : GoodIn wsX10_brings (wsV RX10 156 RX2 yX2_spoonPlace wsX2_spoonPlace) := goodIn_app (goodIn_of _ (by decide +kernel)) ggX10_brings_X2_spoonPlace
set_option maxRecDepth 20000 in
theorem ggX10_brings_X10_beginStep : GoodIn wsX10_brings wsX10_beginStep := goodIn_r _ [23, 1, 24, 25, 26, 27, 28, 29, 30, 31, 32, 33, 34, 35, 36, 37, 38, 39, 9, 40, 41, 11, 42, 43, 44, 16, 45, 46, 47, 48, 49, 50, 66, 67, 68, 69, 70, 71, 72, 73, 74, 75, 76, 77, 78, 79, 80, 81, 82, 93, 94, 95, 96, 97, 98, 99, 100] (by decide +kernel) (by decide +kernel)
set_option maxRecDepth 20000 in
theorem gX10_brings_X10_beginStep : GoodIn wsX10_brings (wsV RX10 160 RX10 yX10_beginStep wsX10_beginStep) := goodIn_app (goodIn_of _ (by decide +kernel)) ggX10_brings_X10_beginStep
set_option maxRecDepth 20000 in
theorem ggX10_brings_X2_giveAway : GoodIn wsX10_brings wsX2_giveAway := goodIn_r _ [54, 11, 55, 56, 57, 58, 50, 59, 60, 61, 49, 41, 43, 62, 63, 64, 9, 65, 42, 18, 7, 8, 10, 93, 94, 95, 96, 97, 98, 99, 100] (by decide +kernel) (by decide +kernel)
set_option maxRecDepth 20000 in
theorem gX10_brings_X2_giveAway : GoodIn wsX10_brings (wsV RX10 166 RX2 yX2_giveAway wsX2_giveAway) := goodIn_app (goodIn_of _ (by decide +kernel)) ggX10_brings_X2_giveAway
theorem dX10_brings_0 : decode cX10_brings 0 = .ok (.aload_n 0, 1) := by decide +kernel
theorem dX10_brings_1 : decode cX10_brings 1 = .ok (.getfield 36, 3) := by decide +kernel
theorem dX10_brings_4 : decode cX10_brings 4 = .ok (.getfield 113, 3) := by decide +kernel
theorem dX10_brings_7 : decode cX10_brings 7 = .ok (.astore_n 1, 1) := by decide +kernel
theorem dX10_brings_8 : decode cX10_brings 8 = .ok (.aload_n 1, 1) := by decide +kernel
theorem dX10_brings_9 : decode cX10_brings 9 = .ok (.invokevirtual 173, 3) := by decide +kernel
theorem dX10_brings_12 : decode cX10_brings 12 = .ok (.ifCond .eq 21, 3) := by decide +kernel
theorem dX10_brings_15 : decode cX10_brings 15 = .ok (.aload_n 1, 1) := by decide +kernel
theorem dX10_brings_16 : decode cX10_brings 16 = .ok (.aload_n 0, 1) := by decide +kernel
theorem dX10_brings_17 : decode cX10_brings 17 = .ok (.getfield 26, 3) := by decide +kernel
theorem dX10_brings_20 : decode cX10_brings 20 = .ok (.invokevirtual 156, 3) := by decide +kernel
theorem dX10_brings_23 : decode cX10_brings 23 = .ok (.aload_n 0, 1) := by decide +kernel
theorem dX10_brings_24 : decode cX10_brings 24 = .ok (.getfield 26, 3) := by decide +kernel
theorem dX10_brings_27 : decode cX10_brings 27 = .ok (.getfield 177, 3) := by decide +kernel
theorem dX10_brings_30 : decode cX10_brings 30 = .ok (.if_icmp .eq 6, 3) := by decide +kernel
theorem dX10_brings_33 : decode cX10_brings 33 = .ok (.bipush (-2), 2) := by decide +kernel
theorem dX10_brings_35 : decode cX10_brings 35 = .ok (.ireturn, 1) := by decide +kernel
theorem dX10_brings_36 : decode cX10_brings 36 = .ok (.aload_n 0, 1) := by decide +kernel
theorem dX10_brings_37 : decode cX10_brings 37 = .ok (.invokevirtual 160, 3) := by decide +kernel
theorem dX10_brings_40 : decode cX10_brings 40 = .ok (.aload_n 1, 1) := by decide +kernel
theorem dX10_brings_41 : decode cX10_brings 41 = .ok (.aload_n 0, 1) := by decide +kernel
theorem dX10_brings_42 : decode cX10_brings 42 = .ok (.getfield 26, 3) := by decide +kernel
theorem dX10_brings_45 : decode cX10_brings 45 = .ok (.getfield 163, 3) := by decide +kernel
theorem dX10_brings_48 : decode cX10_brings 48 = .ok (.invokevirtual 166, 3) := by decide +kernel
theorem dX10_brings_51 : decode cX10_brings 51 = .ok (.ireturn, 1) := by decide +kernel
set_option maxRecDepth 20000 in
theorem ggX10_walks_X2_spoonPlace : GoodIn wsX10_walks wsX2_spoonPlace := goodIn_r _ [13, 14, 15, 16, 17, 18, 19, 12, 20, 75, 76, 77, 78, 79, 80, 81, 82, 83, 84, 85, 86, 87, 88, 89, 90, 91, 92] (by decide +kernel) (by decide +kernel)
set_option maxRecDepth 20000 in
theorem gX10_walks_X2_spoonPlace : GoodIn wsX10_walks (wsV RX10 156 RX2 yX2_spoonPlace wsX2_spoonPlace) := goodIn_app (goodIn_of _ (by decide +kernel)) ggX10_walks_X2_spoonPlace
set_option maxRecDepth 20000 in
theorem ggX10_walks_X2_isHeld : GoodIn wsX10_walks wsX2_isHeld := goodIn_r _ [20, 15, 75, 76, 77, 78, 79, 80, 81, 82] (by decide +kernel) (by decide +kernel)
set_option maxRecDepth 20000 in
theorem gX10_walks_X2_isHeld : GoodIn wsX10_walks (wsV RX10 173 RX2 yX2_isHeld wsX2_isHeld) := goodIn_app (goodIn_of _ (by decide +kernel)) ggX10_walks_X2_isHeld
set_option maxRecDepth 20000 in
theorem ggX10_walks_X10_beginStep : GoodIn wsX10_walks wsX10_beginStep := goodIn_r _ [26, 1, 27, 28, 29, 30, 31, 32, 33, 34, 35, 36, 37, 38, 39, 40, 41, 42, 12, 43, 44, 15, 45, 46, 47, 14, 48, 49, 50, 51, 52, 53, 58, 59, 60, 61, 62, 63, 64, 65, 66, 67, 68, 69, 70, 71, 72, 73, 74, 75, 76, 77, 78, 79, 80, 81, 82] (by decide +kernel) (by decide +kernel)
set_option maxRecDepth 20000 in
theorem gX10_walks_X10_beginStep : GoodIn wsX10_walks (wsV RX10 160 RX10 yX10_beginStep wsX10_beginStep) := goodIn_app (goodIn_of _ (by decide +kernel)) ggX10_walks_X10_beginStep
set_option maxRecDepth 20000 in
theorem ggX10_walks_X2_walkTo : GoodIn wsX10_walks wsX2_walkTo := goodIn_r _ [57, 14, 15, 44, 17, 18, 19, 12, 20, 75, 76, 77, 78, 79, 80, 81, 82] (by decide +kernel) (by decide +kernel)
set_option maxRecDepth 20000 in
theorem gX10_walks_X2_walkTo : GoodIn wsX10_walks (wsV RX10 188 RX2 yX2_walkTo wsX2_walkTo) := goodIn_app (goodIn_of _ (by decide +kernel)) ggX10_walks_X2_walkTo
theorem dX10_walks_0 : decode cX10_walks 0 = .ok (.iload_n 1, 1) := by decide +kernel
theorem dX10_walks_1 : decode cX10_walks 1 = .ok (.ifCond .lt 9, 3) := by decide +kernel
theorem dX10_walks_4 : decode cX10_walks 4 = .ok (.iload_n 1, 1) := by decide +kernel
theorem dX10_walks_5 : decode cX10_walks 5 = .ok (.bipush 30, 2) := by decide +kernel
theorem dX10_walks_7 : decode cX10_walks 7 = .ok (.if_icmp .le 5, 3) := by decide +kernel
theorem dX10_walks_10 : decode cX10_walks 10 = .ok (.iconst (-1), 1) := by decide +kernel
theorem dX10_walks_11 : decode cX10_walks 11 = .ok (.ireturn, 1) := by decide +kernel
theorem dX10_walks_12 : decode cX10_walks 12 = .ok (.aload_n 0, 1) := by decide +kernel
theorem dX10_walks_13 : decode cX10_walks 13 = .ok (.getfield 36, 3) := by decide +kernel
theorem dX10_walks_16 : decode cX10_walks 16 = .ok (.getfield 113, 3) := by decide +kernel
theorem dX10_walks_19 : decode cX10_walks 19 = .ok (.astore_n 2, 1) := by decide +kernel
theorem dX10_walks_20 : decode cX10_walks 20 = .ok (.iload_n 1, 1) := by decide +kernel
theorem dX10_walks_21 : decode cX10_walks 21 = .ok (.aload_n 2, 1) := by decide +kernel
theorem dX10_walks_22 : decode cX10_walks 22 = .ok (.aload_n 0, 1) := by decide +kernel
theorem dX10_walks_23 : decode cX10_walks 23 = .ok (.getfield 26, 3) := by decide +kernel
theorem dX10_walks_26 : decode cX10_walks 26 = .ok (.invokevirtual 156, 3) := by decide +kernel
theorem dX10_walks_29 : decode cX10_walks 29 = .ok (.isub, 1) := by decide +kernel
theorem dX10_walks_30 : decode cX10_walks 30 = .ok (.invokestatic 180, 3) := by decide +kernel
theorem dX10_walks_33 : decode cX10_walks 33 = .ok (.istore_n 3, 1) := by decide +kernel
theorem dX10_walks_34 : decode cX10_walks 34 = .ok (.aload_n 2, 1) := by decide +kernel
theorem dX10_walks_35 : decode cX10_walks 35 = .ok (.invokevirtual 173, 3) := by decide +kernel
theorem dX10_walks_38 : decode cX10_walks 38 = .ok (.ifCond .eq 19, 3) := by decide +kernel
theorem dX10_walks_41 : decode cX10_walks 41 = .ok (.iload_n 3, 1) := by decide +kernel
theorem dX10_walks_42 : decode cX10_walks 42 = .ok (.ifCond .eq 15, 3) := by decide +kernel
theorem dX10_walks_45 : decode cX10_walks 45 = .ok (.aload_n 2, 1) := by decide +kernel
theorem dX10_walks_46 : decode cX10_walks 46 = .ok (.getfield 185, 3) := by decide +kernel
theorem dX10_walks_49 : decode cX10_walks 49 = .ok (.iload_n 3, 1) := by decide +kernel
theorem dX10_walks_50 : decode cX10_walks 50 = .ok (.iadd, 1) := by decide +kernel
theorem dX10_walks_51 : decode cX10_walks 51 = .ok (.sipush 200, 3) := by decide +kernel
theorem dX10_walks_54 : decode cX10_walks 54 = .ok (.if_icmp .le 6, 3) := by decide +kernel
theorem dX10_walks_57 : decode cX10_walks 57 = .ok (.bipush (-2), 2) := by decide +kernel
theorem dX10_walks_59 : decode cX10_walks 59 = .ok (.ireturn, 1) := by decide +kernel
theorem dX10_walks_60 : decode cX10_walks 60 = .ok (.aload_n 0, 1) := by decide +kernel
theorem dX10_walks_61 : decode cX10_walks 61 = .ok (.invokevirtual 160, 3) := by decide +kernel
theorem dX10_walks_64 : decode cX10_walks 64 = .ok (.aload_n 2, 1) := by decide +kernel
theorem dX10_walks_65 : decode cX10_walks 65 = .ok (.iload_n 1, 1) := by decide +kernel
theorem dX10_walks_66 : decode cX10_walks 66 = .ok (.iload_n 3, 1) := by decide +kernel
theorem dX10_walks_67 : decode cX10_walks 67 = .ok (.invokevirtual 188, 3) := by decide +kernel
theorem dX10_walks_70 : decode cX10_walks 70 = .ok (.aload_n 2, 1) := by decide +kernel
theorem dX10_walks_71 : decode cX10_walks 71 = .ok (.getfield 185, 3) := by decide +kernel
theorem dX10_walks_74 : decode cX10_walks 74 = .ok (.ireturn, 1) := by decide +kernel
set_option maxRecDepth 20000 in
theorem ggX10_keeps_X2_isHeld : GoodIn wsX10_keeps wsX2_isHeld := goodIn_r _ [8, 9, 60, 61, 62, 63, 64, 65, 66, 67] (by decide +kernel) (by decide +kernel)
set_option maxRecDepth 20000 in
theorem gX10_keeps_X2_isHeld : GoodIn wsX10_keeps (wsV RX10 173 RX2 yX2_isHeld wsX2_isHeld) := goodIn_app (goodIn_of _ (by decide +kernel)) ggX10_keeps_X2_isHeld
set_option maxRecDepth 20000 in
theorem ggX10_keeps_X10_beginStep : GoodIn wsX10_keeps wsX10_beginStep := goodIn_r _ [14, 1, 15, 16, 17, 18, 19, 20, 21, 22, 23, 24, 25, 26, 27, 28, 29, 30, 7, 31, 32, 9, 33, 34, 35, 36, 37, 38, 39, 40, 41, 42, 43, 44, 45, 46, 47, 48, 49, 50, 51, 52, 53, 54, 55, 56, 57, 58, 59, 60, 61, 62, 63, 64, 65, 66, 67] (by decide +kernel) (by decide +kernel)
set_option maxRecDepth 20000 in
theorem gX10_keeps_X10_beginStep : GoodIn wsX10_keeps (wsV RX10 160 RX10 yX10_beginStep wsX10_beginStep) := goodIn_app (goodIn_of _ (by decide +kernel)) ggX10_keeps_X10_beginStep
theorem dX10_keeps_0 : decode cX10_keeps 0 = .ok (.iload_n 1, 1) := by decide +kernel
theorem dX10_keeps_1 : decode cX10_keeps 1 = .ok (.iconst 1, 1) := by decide +kernel
theorem dX10_keeps_2 : decode cX10_keeps 2 = .ok (.if_icmp .lt 9, 3) := by decide +kernel
theorem dX10_keeps_5 : decode cX10_keeps 5 = .ok (.iload_n 1, 1) := by decide +kernel
theorem dX10_keeps_6 : decode cX10_keeps 6 = .ok (.bipush 20, 2) := by decide +kernel
theorem dX10_keeps_8 : decode cX10_keeps 8 = .ok (.if_icmp .le 5, 3) := by decide +kernel
theorem dX10_keeps_11 : decode cX10_keeps 11 = .ok (.iconst (-1), 1) := by decide +kernel
theorem dX10_keeps_12 : decode cX10_keeps 12 = .ok (.ireturn, 1) := by decide +kernel
theorem dX10_keeps_13 : decode cX10_keeps 13 = .ok (.aload_n 0, 1) := by decide +kernel
theorem dX10_keeps_14 : decode cX10_keeps 14 = .ok (.getfield 36, 3) := by decide +kernel
theorem dX10_keeps_17 : decode cX10_keeps 17 = .ok (.getfield 113, 3) := by decide +kernel
theorem dX10_keeps_20 : decode cX10_keeps 20 = .ok (.astore_n 2, 1) := by decide +kernel
theorem dX10_keeps_21 : decode cX10_keeps 21 = .ok (.aload_n 2, 1) := by decide +kernel
theorem dX10_keeps_22 : decode cX10_keeps 22 = .ok (.invokevirtual 173, 3) := by decide +kernel
theorem dX10_keeps_25 : decode cX10_keeps 25 = .ok (.ifCond .eq 15, 3) := by decide +kernel
theorem dX10_keeps_28 : decode cX10_keeps 28 = .ok (.aload_n 2, 1) := by decide +kernel
theorem dX10_keeps_29 : decode cX10_keeps 29 = .ok (.getfield 185, 3) := by decide +kernel
theorem dX10_keeps_32 : decode cX10_keeps 32 = .ok (.iload_n 1, 1) := by decide +kernel
theorem dX10_keeps_33 : decode cX10_keeps 33 = .ok (.iadd, 1) := by decide +kernel
theorem dX10_keeps_34 : decode cX10_keeps 34 = .ok (.sipush 200, 3) := by decide +kernel
theorem dX10_keeps_37 : decode cX10_keeps 37 = .ok (.if_icmp .le 6, 3) := by decide +kernel
theorem dX10_keeps_40 : decode cX10_keeps 40 = .ok (.bipush (-2), 2) := by decide +kernel
theorem dX10_keeps_42 : decode cX10_keeps 42 = .ok (.ireturn, 1) := by decide +kernel
theorem dX10_keeps_43 : decode cX10_keeps 43 = .ok (.aload_n 0, 1) := by decide +kernel
theorem dX10_keeps_44 : decode cX10_keeps 44 = .ok (.invokevirtual 160, 3) := by decide +kernel
theorem dX10_keeps_47 : decode cX10_keeps 47 = .ok (.aload_n 2, 1) := by decide +kernel
theorem dX10_keeps_48 : decode cX10_keeps 48 = .ok (.dup, 1) := by decide +kernel
theorem dX10_keeps_49 : decode cX10_keeps 49 = .ok (.getfield 185, 3) := by decide +kernel
theorem dX10_keeps_52 : decode cX10_keeps 52 = .ok (.iload_n 1, 1) := by decide +kernel
theorem dX10_keeps_53 : decode cX10_keeps 53 = .ok (.iadd, 1) := by decide +kernel
theorem dX10_keeps_54 : decode cX10_keeps 54 = .ok (.putfield 185, 3) := by decide +kernel
theorem dX10_keeps_57 : decode cX10_keeps 57 = .ok (.aload_n 2, 1) := by decide +kernel
theorem dX10_keeps_58 : decode cX10_keeps 58 = .ok (.getfield 185, 3) := by decide +kernel
theorem dX10_keeps_61 : decode cX10_keeps 61 = .ok (.ireturn, 1) := by decide +kernel
set_option maxRecDepth 20000 in
theorem ggX10_does_X4_hasDeed : GoodIn wsX10_does wsX4_hasDeed := goodIn_r _ [10, 11, 94, 95, 96, 97, 98, 99, 100, 101, 102, 103] (by decide +kernel) (by decide +kernel)
set_option maxRecDepth 20000 in
theorem gX10_does_X4_hasDeed : GoodIn wsX10_does (wsV RX10 132 RX4 yX4_hasDeed wsX4_hasDeed) := goodIn_app (goodIn_of _ (by decide +kernel)) ggX10_does_X4_hasDeed
set_option maxRecDepth 20000 in
theorem ggX10_does_X2_canDo : GoodIn wsX10_does wsX2_canDo := goodIn_r _ [16, 17, 18, 19, 20, 21, 22, 23, 24, 25, 26, 27, 15, 28, 29, 30, 31, 32, 33, 86, 87, 88, 89, 90, 91, 92, 93, 94, 95, 96, 97, 98, 99, 100, 101, 102, 103] (by decide +kernel) (by decide +kernel)
set_option maxRecDepth 20000 in
theorem gX10_does_X2_canDo : GoodIn wsX10_does (wsV RX10 192 RX2 yX2_canDo wsX2_canDo) := goodIn_app (goodIn_of _ (by decide +kernel)) ggX10_does_X2_canDo
set_option maxRecDepth 20000 in
theorem ggX10_does_X10_beginStep : GoodIn wsX10_does wsX10_beginStep := goodIn_r _ [38, 2, 39, 40, 41, 42, 43, 44, 45, 46, 47, 48, 49, 50, 51, 52, 53, 54, 15, 55, 22, 19, 56, 17, 33, 20, 57, 58, 59, 60, 61, 62, 69, 70, 71, 72, 73, 74, 75, 76, 77, 78, 79, 80, 81, 82, 83, 84, 85, 86, 87, 88, 89, 90, 91, 92, 93] (by decide +kernel) (by decide +kernel)
set_option maxRecDepth 20000 in
theorem gX10_does_X10_beginStep : GoodIn wsX10_does (wsV RX10 160 RX10 yX10_beginStep wsX10_beginStep) := goodIn_app (goodIn_of _ (by decide +kernel)) ggX10_does_X10_beginStep
set_option maxRecDepth 20000 in
theorem ggX10_does_X2_worthDone : GoodIn wsX10_does wsX2_worthDone := goodIn_r _ [66, 67, 68, 29, 30, 31, 15, 32, 33, 94, 95, 96, 97, 98, 99, 100, 101, 102, 103, 86, 87, 88, 89, 90, 91, 92, 93] (by decide +kernel) (by decide +kernel)
set_option maxRecDepth 20000 in
theorem gX10_does_X2_worthDone : GoodIn wsX10_does (wsV RX10 202 RX2 yX2_worthDone wsX2_worthDone) := goodIn_app (goodIn_of _ (by decide +kernel)) ggX10_does_X2_worthDone
theorem dX10_does_0 : decode cX10_does 0 = .ok (.aload_n 0, 1) := by decide +kernel
theorem dX10_does_1 : decode cX10_does 1 = .ok (.getfield 26, 3) := by decide +kernel
theorem dX10_does_4 : decode cX10_does 4 = .ok (.iload_n 1, 1) := by decide +kernel
theorem dX10_does_5 : decode cX10_does 5 = .ok (.invokevirtual 132, 3) := by decide +kernel
theorem dX10_does_8 : decode cX10_does 8 = .ok (.ifCond .ne 5, 3) := by decide +kernel
theorem dX10_does_11 : decode cX10_does 11 = .ok (.iconst (-1), 1) := by decide +kernel
theorem dX10_does_12 : decode cX10_does 12 = .ok (.ireturn, 1) := by decide +kernel
theorem dX10_does_13 : decode cX10_does 13 = .ok (.aload_n 0, 1) := by decide +kernel
theorem dX10_does_14 : decode cX10_does 14 = .ok (.getfield 36, 3) := by decide +kernel
theorem dX10_does_17 : decode cX10_does 17 = .ok (.getfield 113, 3) := by decide +kernel
theorem dX10_does_20 : decode cX10_does 20 = .ok (.astore_n 2, 1) := by decide +kernel
theorem dX10_does_21 : decode cX10_does 21 = .ok (.aload_n 2, 1) := by decide +kernel
theorem dX10_does_22 : decode cX10_does 22 = .ok (.aload_n 0, 1) := by decide +kernel
theorem dX10_does_23 : decode cX10_does 23 = .ok (.getfield 26, 3) := by decide +kernel
theorem dX10_does_26 : decode cX10_does 26 = .ok (.iload_n 1, 1) := by decide +kernel
theorem dX10_does_27 : decode cX10_does 27 = .ok (.invokevirtual 192, 3) := by decide +kernel
theorem dX10_does_30 : decode cX10_does 30 = .ok (.ifCond .ne 6, 3) := by decide +kernel
theorem dX10_does_33 : decode cX10_does 33 = .ok (.bipush (-2), 2) := by decide +kernel
theorem dX10_does_35 : decode cX10_does 35 = .ok (.ireturn, 1) := by decide +kernel
theorem dX10_does_36 : decode cX10_does 36 = .ok (.aload_n 0, 1) := by decide +kernel
theorem dX10_does_37 : decode cX10_does 37 = .ok (.invokevirtual 160, 3) := by decide +kernel
theorem dX10_does_40 : decode cX10_does 40 = .ok (.aload_n 2, 1) := by decide +kernel
theorem dX10_does_41 : decode cX10_does 41 = .ok (.dup, 1) := by decide +kernel
theorem dX10_does_42 : decode cX10_does 42 = .ok (.getfield 196, 3) := by decide +kernel
theorem dX10_does_45 : decode cX10_does 45 = .ok (.iconst 1, 1) := by decide +kernel
theorem dX10_does_46 : decode cX10_does 46 = .ok (.iload_n 1, 1) := by decide +kernel
theorem dX10_does_47 : decode cX10_does 47 = .ok (.ishl, 1) := by decide +kernel
theorem dX10_does_48 : decode cX10_does 48 = .ok (.ior, 1) := by decide +kernel
theorem dX10_does_49 : decode cX10_does 49 = .ok (.putfield 196, 3) := by decide +kernel
theorem dX10_does_52 : decode cX10_does 52 = .ok (.aload_n 2, 1) := by decide +kernel
theorem dX10_does_53 : decode cX10_does 53 = .ok (.iconst 0, 1) := by decide +kernel
theorem dX10_does_54 : decode cX10_does 54 = .ok (.putfield 199, 3) := by decide +kernel
theorem dX10_does_57 : decode cX10_does 57 = .ok (.aload_n 2, 1) := by decide +kernel
theorem dX10_does_58 : decode cX10_does 58 = .ok (.aload_n 0, 1) := by decide +kernel
theorem dX10_does_59 : decode cX10_does 59 = .ok (.getfield 26, 3) := by decide +kernel
theorem dX10_does_62 : decode cX10_does 62 = .ok (.invokevirtual 202, 3) := by decide +kernel
theorem dX10_does_65 : decode cX10_does 65 = .ok (.ireturn, 1) := by decide +kernel
set_option maxRecDepth 20000 in
theorem ggX10_undo_X1_undoStep : GoodIn wsX10_undo wsX1_undoStep := goodIn_r _ [8, 9, 10, 11, 12, 13, 14, 15, 16, 17, 18, 19, 20, 21, 22, 23, 24, 25, 26, 27, 28, 43, 44, 45, 46, 47, 48, 49, 50, 51, 52, 53] (by decide +kernel) (by decide +kernel)
set_option maxRecDepth 20000 in
theorem gX10_undo_X1_undoStep : GoodIn wsX10_undo (wsV RX10 208 RX1 yX1_undoStep wsX1_undoStep) := goodIn_app (goodIn_of _ (by decide +kernel)) ggX10_undo_X1_undoStep
theorem dX10_undo_0 : decode cX10_undo 0 = .ok (.aload_n 0, 1) := by decide +kernel
theorem dX10_undo_1 : decode cX10_undo 1 = .ok (.getfield 36, 3) := by decide +kernel
theorem dX10_undo_4 : decode cX10_undo 4 = .ok (.getfield 205, 3) := by decide +kernel
theorem dX10_undo_7 : decode cX10_undo 7 = .ok (.ifCond .ne 6, 3) := by decide +kernel
theorem dX10_undo_10 : decode cX10_undo 10 = .ok (.bipush (-2), 2) := by decide +kernel
theorem dX10_undo_12 : decode cX10_undo 12 = .ok (.ireturn, 1) := by decide +kernel
theorem dX10_undo_13 : decode cX10_undo 13 = .ok (.aload_n 0, 1) := by decide +kernel
theorem dX10_undo_14 : decode cX10_undo 14 = .ok (.getfield 36, 3) := by decide +kernel
theorem dX10_undo_17 : decode cX10_undo 17 = .ok (.invokevirtual 208, 3) := by decide +kernel
theorem dX10_undo_20 : decode cX10_undo 20 = .ok (.aload_n 0, 1) := by decide +kernel
theorem dX10_undo_21 : decode cX10_undo 21 = .ok (.iconst 0, 1) := by decide +kernel
theorem dX10_undo_22 : decode cX10_undo 22 = .ok (.putfield 105, 3) := by decide +kernel
theorem dX10_undo_25 : decode cX10_undo 25 = .ok (.aload_n 0, 1) := by decide +kernel
theorem dX10_undo_26 : decode cX10_undo 26 = .ok (.getfield 36, 3) := by decide +kernel
theorem dX10_undo_29 : decode cX10_undo 29 = .ok (.getfield 205, 3) := by decide +kernel
theorem dX10_undo_32 : decode cX10_undo 32 = .ok (.ireturn, 1) := by decide +kernel
set_option maxRecDepth 20000 in
theorem ggX10_now_X2_heldFor : GoodIn wsX10_now wsX2_heldFor := goodIn_r _ [12, 13, 14, 15, 16, 17, 11, 18, 19, 53, 54, 55, 56, 57, 58, 59, 60] (by decide +kernel) (by decide +kernel)
set_option maxRecDepth 20000 in
theorem gX10_now_X2_heldFor : GoodIn wsX10_now (wsV RX10 211 RX2 yX2_heldFor wsX2_heldFor) := goodIn_app (goodIn_of _ (by decide +kernel)) ggX10_now_X2_heldFor
set_option maxRecDepth 20000 in
theorem ggX10_now_X2_worthDone : GoodIn wsX10_now wsX2_worthDone := goodIn_r _ [23, 24, 25, 26, 27, 28, 11, 29, 30, 61, 62, 63, 64, 65, 66, 67, 68, 69, 70, 53, 54, 55, 56, 57, 58, 59, 60] (by decide +kernel) (by decide +kernel)
set_option maxRecDepth 20000 in
theorem gX10_now_X2_worthDone : GoodIn wsX10_now (wsV RX10 202 RX2 yX2_worthDone wsX2_worthDone) := goodIn_app (goodIn_of _ (by decide +kernel)) ggX10_now_X2_worthDone
set_option maxRecDepth 20000 in
theorem ggX10_now_X2_owedByAll : GoodIn wsX10_now wsX2_owedByAll := goodIn_r _ [34, 35, 53, 54, 55, 56, 57, 58, 59, 60] (by decide +kernel) (by decide +kernel)
set_option maxRecDepth 20000 in
theorem gX10_now_X2_owedByAll : GoodIn wsX10_now (wsV RX10 215 RX2 yX2_owedByAll wsX2_owedByAll) := goodIn_app (goodIn_of _ (by decide +kernel)) ggX10_now_X2_owedByAll
theorem dX10_now_0 : decode cX10_now 0 = .ok (.aload_n 0, 1) := by decide +kernel
theorem dX10_now_1 : decode cX10_now 1 = .ok (.getfield 36, 3) := by decide +kernel
theorem dX10_now_4 : decode cX10_now 4 = .ok (.getfield 113, 3) := by decide +kernel
theorem dX10_now_7 : decode cX10_now 7 = .ok (.astore_n 2, 1) := by decide +kernel
theorem dX10_now_8 : decode cX10_now 8 = .ok (.iload_n 1, 1) := by decide +kernel
theorem dX10_now_9 : decode cX10_now 9 = .ok (.tableswitch 90 0 6 #[43, 48, 53, 66, 71, 76, 85], 43) := by decide +kernel
theorem dX10_now_52 : decode cX10_now 52 = .ok (.aload_n 2, 1) := by decide +kernel
theorem dX10_now_53 : decode cX10_now 53 = .ok (.getfield 185, 3) := by decide +kernel
theorem dX10_now_56 : decode cX10_now 56 = .ok (.ireturn, 1) := by decide +kernel
theorem dX10_now_57 : decode cX10_now 57 = .ok (.aload_n 2, 1) := by decide +kernel
theorem dX10_now_58 : decode cX10_now 58 = .ok (.getfield 153, 3) := by decide +kernel
theorem dX10_now_61 : decode cX10_now 61 = .ok (.ireturn, 1) := by decide +kernel
theorem dX10_now_62 : decode cX10_now 62 = .ok (.aload_n 2, 1) := by decide +kernel
theorem dX10_now_63 : decode cX10_now 63 = .ok (.getfield 199, 3) := by decide +kernel
theorem dX10_now_66 : decode cX10_now 66 = .ok (.ifCond .eq 7, 3) := by decide +kernel
theorem dX10_now_69 : decode cX10_now 69 = .ok (.iconst 1, 1) := by decide +kernel
theorem dX10_now_70 : decode cX10_now 70 = .ok (.goto 4, 3) := by decide +kernel
theorem dX10_now_73 : decode cX10_now 73 = .ok (.iconst 0, 1) := by decide +kernel
theorem dX10_now_74 : decode cX10_now 74 = .ok (.ireturn, 1) := by decide +kernel
theorem dX10_now_75 : decode cX10_now 75 = .ok (.aload_n 2, 1) := by decide +kernel
theorem dX10_now_76 : decode cX10_now 76 = .ok (.invokevirtual 211, 3) := by decide +kernel
theorem dX10_now_79 : decode cX10_now 79 = .ok (.ireturn, 1) := by decide +kernel
theorem dX10_now_80 : decode cX10_now 80 = .ok (.aload_n 2, 1) := by decide +kernel
theorem dX10_now_81 : decode cX10_now 81 = .ok (.getfield 196, 3) := by decide +kernel
theorem dX10_now_84 : decode cX10_now 84 = .ok (.ireturn, 1) := by decide +kernel
theorem dX10_now_85 : decode cX10_now 85 = .ok (.aload_n 2, 1) := by decide +kernel
theorem dX10_now_86 : decode cX10_now 86 = .ok (.aload_n 0, 1) := by decide +kernel
theorem dX10_now_87 : decode cX10_now 87 = .ok (.getfield 26, 3) := by decide +kernel
theorem dX10_now_90 : decode cX10_now 90 = .ok (.invokevirtual 202, 3) := by decide +kernel
theorem dX10_now_93 : decode cX10_now 93 = .ok (.ireturn, 1) := by decide +kernel
theorem dX10_now_94 : decode cX10_now 94 = .ok (.aload_n 2, 1) := by decide +kernel
theorem dX10_now_95 : decode cX10_now 95 = .ok (.invokevirtual 215, 3) := by decide +kernel
theorem dX10_now_98 : decode cX10_now 98 = .ok (.ireturn, 1) := by decide +kernel
theorem dX10_now_99 : decode cX10_now 99 = .ok (.iconst (-1), 1) := by decide +kernel
theorem dX10_now_100 : decode cX10_now 100 = .ok (.ireturn, 1) := by decide +kernel
set_option maxRecDepth 20000 in
theorem ggX10_beginStep_X1_rememberStep : GoodIn wsX10_beginStep wsX1_rememberStep := goodIn_r _ [7, 8, 9, 10, 11, 12, 13, 6, 14, 15, 16, 17, 18, 19, 20, 21, 22, 23, 24, 25, 26, 27, 28, 29, 30, 31, 46, 47, 48, 49, 50, 51, 52, 53, 54, 55, 56] (by decide +kernel) (by decide +kernel)
set_option maxRecDepth 20000 in
theorem gX10_beginStep_X1_rememberStep : GoodIn wsX10_beginStep (wsV RX10 218 RX1 yX1_rememberStep wsX1_rememberStep) := goodIn_app (goodIn_of _ (by decide +kernel)) ggX10_beginStep_X1_rememberStep
theorem dX10_beginStep_0 : decode cX10_beginStep 0 = .ok (.aload_n 0, 1) := by decide +kernel
theorem dX10_beginStep_1 : decode cX10_beginStep 1 = .ok (.getfield 36, 3) := by decide +kernel
theorem dX10_beginStep_4 : decode cX10_beginStep 4 = .ok (.invokevirtual 218, 3) := by decide +kernel
theorem dX10_beginStep_7 : decode cX10_beginStep 7 = .ok (.aload_n 0, 1) := by decide +kernel
theorem dX10_beginStep_8 : decode cX10_beginStep 8 = .ok (.iconst 0, 1) := by decide +kernel
theorem dX10_beginStep_9 : decode cX10_beginStep 9 = .ok (.putfield 105, 3) := by decide +kernel
theorem dX10_beginStep_12 : decode cX10_beginStep 12 = .ok (.return_, 1) := by decide +kernel
set_option maxRecDepth 20000 in
theorem ggX10_round_X6_find : GoodIn wsX10_round wsX6_find := goodIn_r _ [15, 16, 17, 18, 19, 20, 21, 22, 23, 24, 25, 26, 27, 28, 29, 30, 31, 32, 33, 34, 35, 36, 37, 38, 39, 40, 41, 42, 43, 44, 45, 46, 47, 48, 49, 50, 51, 52, 53, 54, 55, 56, 57, 14, 58, 59, 60, 61, 62, 63, 64, 65, 66, 67, 68, 69, 70, 71, 72, 73, 74, 75, 76, 77, 78, 79, 80, 81, 82, 83, 84, 85, 86, 87, 88, 89, 90, 91, 92, 93, 94, 95, 96, 97, 98, 99, 100, 118, 119, 120, 121, 122, 123, 124, 125, 126, 127, 128, 129, 130, 131, 132, 133, 134, 135, 136, 137, 138, 139, 140, 141, 142, 143, 144] (by decide +kernel) (by decide +kernel)
set_option maxRecDepth 20000 in
theorem gX10_round_X6_find : GoodIn wsX10_round (wsV RX10 221 RX6 yX6_find wsX6_find) := goodIn_app (goodIn_of _ (by decide +kernel)) ggX10_round_X6_find
theorem dX10_round_0 : decode cX10_round 0 = .ok (.iload_n 1, 1) := by decide +kernel
theorem dX10_round_1 : decode cX10_round 1 = .ok (.bipush (-3), 2) := by decide +kernel
theorem dX10_round_3 : decode cX10_round 3 = .ok (.if_icmp .lt 9, 3) := by decide +kernel
theorem dX10_round_6 : decode cX10_round 6 = .ok (.iload_n 1, 1) := by decide +kernel
theorem dX10_round_7 : decode cX10_round 7 = .ok (.bipush 8, 2) := by decide +kernel
theorem dX10_round_9 : decode cX10_round 9 = .ok (.if_icmp .lt 5, 3) := by decide +kernel
theorem dX10_round_12 : decode cX10_round 12 = .ok (.iconst (-1), 1) := by decide +kernel
theorem dX10_round_13 : decode cX10_round 13 = .ok (.ireturn, 1) := by decide +kernel
theorem dX10_round_14 : decode cX10_round 14 = .ok (.aload_n 0, 1) := by decide +kernel
theorem dX10_round_15 : decode cX10_round 15 = .ok (.getfield 105, 3) := by decide +kernel
theorem dX10_round_18 : decode cX10_round 18 = .ok (.ifCond .ne 30, 3) := by decide +kernel
theorem dX10_round_21 : decode cX10_round 21 = .ok (.aload_n 0, 1) := by decide +kernel
theorem dX10_round_22 : decode cX10_round 22 = .ok (.getfield 65, 3) := by decide +kernel
theorem dX10_round_25 : decode cX10_round 25 = .ok (.aload_n 0, 1) := by decide +kernel
theorem dX10_round_26 : decode cX10_round 26 = .ok (.getfield 26, 3) := by decide +kernel
theorem dX10_round_29 : decode cX10_round 29 = .ok (.aload_n 0, 1) := by decide +kernel
theorem dX10_round_30 : decode cX10_round 30 = .ok (.getfield 36, 3) := by decide +kernel
theorem dX10_round_33 : decode cX10_round 33 = .ok (.getfield 113, 3) := by decide +kernel
theorem dX10_round_36 : decode cX10_round 36 = .ok (.aload_n 0, 1) := by decide +kernel
theorem dX10_round_37 : decode cX10_round 37 = .ok (.getfield 58, 3) := by decide +kernel
theorem dX10_round_40 : decode cX10_round 40 = .ok (.invokevirtual 221, 3) := by decide +kernel
theorem dX10_round_43 : decode cX10_round 43 = .ok (.aload_n 0, 1) := by decide +kernel
theorem dX10_round_44 : decode cX10_round 44 = .ok (.iconst 1, 1) := by decide +kernel
theorem dX10_round_45 : decode cX10_round 45 = .ok (.putfield 105, 3) := by decide +kernel
theorem dX10_round_48 : decode cX10_round 48 = .ok (.iload_n 1, 1) := by decide +kernel
theorem dX10_round_49 : decode cX10_round 49 = .ok (.tableswitch 51 (-3) (-1) #[43, 35, 27], 27) := by decide +kernel
theorem dX10_round_76 : decode cX10_round 76 = .ok (.aload_n 0, 1) := by decide +kernel
theorem dX10_round_77 : decode cX10_round 77 = .ok (.getfield 65, 3) := by decide +kernel
theorem dX10_round_80 : decode cX10_round 80 = .ok (.getfield 225, 3) := by decide +kernel
theorem dX10_round_83 : decode cX10_round 83 = .ok (.ireturn, 1) := by decide +kernel
theorem dX10_round_84 : decode cX10_round 84 = .ok (.aload_n 0, 1) := by decide +kernel
theorem dX10_round_85 : decode cX10_round 85 = .ok (.getfield 65, 3) := by decide +kernel
theorem dX10_round_88 : decode cX10_round 88 = .ok (.getfield 227, 3) := by decide +kernel
theorem dX10_round_91 : decode cX10_round 91 = .ok (.ireturn, 1) := by decide +kernel
theorem dX10_round_92 : decode cX10_round 92 = .ok (.aload_n 0, 1) := by decide +kernel
theorem dX10_round_93 : decode cX10_round 93 = .ok (.getfield 65, 3) := by decide +kernel
theorem dX10_round_96 : decode cX10_round 96 = .ok (.getfield 228, 3) := by decide +kernel
theorem dX10_round_99 : decode cX10_round 99 = .ok (.ireturn, 1) := by decide +kernel
theorem dX10_round_100 : decode cX10_round 100 = .ok (.iload_n 1, 1) := by decide +kernel
theorem dX10_round_101 : decode cX10_round 101 = .ok (.aload_n 0, 1) := by decide +kernel
theorem dX10_round_102 : decode cX10_round 102 = .ok (.getfield 65, 3) := by decide +kernel
theorem dX10_round_105 : decode cX10_round 105 = .ok (.getfield 228, 3) := by decide +kernel
theorem dX10_round_108 : decode cX10_round 108 = .ok (.if_icmp .ge 15, 3) := by decide +kernel
theorem dX10_round_111 : decode cX10_round 111 = .ok (.aload_n 0, 1) := by decide +kernel
theorem dX10_round_112 : decode cX10_round 112 = .ok (.getfield 65, 3) := by decide +kernel
theorem dX10_round_115 : decode cX10_round 115 = .ok (.getfield 229, 3) := by decide +kernel
theorem dX10_round_118 : decode cX10_round 118 = .ok (.iload_n 1, 1) := by decide +kernel
theorem dX10_round_119 : decode cX10_round 119 = .ok (.iaload, 1) := by decide +kernel
theorem dX10_round_120 : decode cX10_round 120 = .ok (.goto 5, 3) := by decide +kernel
theorem dX10_round_123 : decode cX10_round 123 = .ok (.bipush (-9), 2) := by decide +kernel
theorem dX10_round_125 : decode cX10_round 125 = .ok (.ireturn, 1) := by decide +kernel
set_option maxRecDepth 20000 in
theorem ggX10_spoons_X7_fewest : GoodIn wsX10_spoons wsX7_fewest := goodIn_r _ [7, 8, 9, 10, 11, 12, 13, 6, 14, 15, 16, 17, 18, 19, 20, 21, 22, 23, 24, 25, 26, 27, 28, 29, 44, 45, 46, 47, 48, 49, 50, 51, 52, 53, 54, 55] (by decide +kernel) (by decide +kernel)
set_option maxRecDepth 20000 in
theorem gX10_spoons_X7_fewest : GoodIn wsX10_spoons (wsV RX10 232 RX7 yX7_fewest wsX7_fewest) := goodIn_app (goodIn_of _ (by decide +kernel)) ggX10_spoons_X7_fewest
theorem dX10_spoons_0 : decode cX10_spoons 0 = .ok (.aload_n 0, 1) := by decide +kernel
theorem dX10_spoons_1 : decode cX10_spoons 1 = .ok (.getfield 72, 3) := by decide +kernel
theorem dX10_spoons_4 : decode cX10_spoons 4 = .ok (.aload_n 0, 1) := by decide +kernel
theorem dX10_spoons_5 : decode cX10_spoons 5 = .ok (.getfield 26, 3) := by decide +kernel
theorem dX10_spoons_8 : decode cX10_spoons 8 = .ok (.invokevirtual 232, 3) := by decide +kernel
theorem dX10_spoons_11 : decode cX10_spoons 11 = .ok (.ireturn, 1) := by decide +kernel
set_option maxRecDepth 20000 in
theorem ggX10_drawn_X9_begin : GoodIn wsX10_drawn wsX9_begin := goodIn_r _ [13, 14, 15, 16, 17, 18, 19, 20, 21, 22, 23, 24, 25, 26, 27, 28, 29, 30, 31, 32, 33, 34, 35, 36, 37, 90, 91, 92, 93, 94, 95, 96, 97, 98, 99, 100, 101, 77, 78, 79, 80, 81, 82, 83, 84, 85, 86] (by decide +kernel) (by decide +kernel)
set_option maxRecDepth 20000 in
theorem gX10_drawn_X9_begin : GoodIn wsX10_drawn (wsV RX10 239 RX9 yX9_begin wsX9_begin) := goodIn_app (goodIn_of _ (by decide +kernel)) ggX10_drawn_X9_begin
set_option maxRecDepth 20000 in
theorem ggX10_drawn_X2_openDeeds : GoodIn wsX10_drawn wsX2_openDeeds := goodIn_r _ [41, 42, 43, 77, 78, 79, 80, 81, 82, 83, 84, 85, 86, 90, 91, 92, 93, 94, 95, 96, 97] (by decide +kernel) (by decide +kernel)
set_option maxRecDepth 20000 in
theorem gX10_drawn_X2_openDeeds : GoodIn wsX10_drawn (wsV RX10 242 RX2 yX2_openDeeds wsX2_openDeeds) := goodIn_app (goodIn_of _ (by decide +kernel)) ggX10_drawn_X2_openDeeds
set_option maxRecDepth 20000 in
theorem ggX10_drawn_X9_hourOfNext : GoodIn wsX10_drawn wsX9_hourOfNext := goodIn_r _ [47, 48, 25, 22, 20, 15, 49, 50, 51, 52, 53, 54, 55, 56, 57, 58, 77, 78, 79, 80, 81, 82, 83, 84, 85, 86, 98, 99, 100, 101] (by decide +kernel) (by decide +kernel)
set_option maxRecDepth 20000 in
theorem gX10_drawn_X9_hourOfNext : GoodIn wsX10_drawn (wsV RX10 246 RX9 yX9_hourOfNext wsX9_hourOfNext) := goodIn_app (goodIn_of _ (by decide +kernel)) ggX10_drawn_X9_hourOfNext
set_option maxRecDepth 20000 in
theorem ggX10_drawn_X9_add : GoodIn wsX10_drawn wsX9_add := goodIn_r _ [62, 48, 15, 53, 20, 22, 25, 77, 78, 79, 80, 81, 82, 83, 84, 85, 86, 98, 99, 100, 101] (by decide +kernel) (by decide +kernel)
set_option maxRecDepth 20000 in
theorem gX10_drawn_X9_add : GoodIn wsX10_drawn (wsV RX10 250 RX9 yX9_add wsX9_add) := goodIn_app (goodIn_of _ (by decide +kernel)) ggX10_drawn_X9_add
theorem dX10_drawn_0 : decode cX10_drawn 0 = .ok (.iload_n 1, 1) := by decide +kernel
theorem dX10_drawn_1 : decode cX10_drawn 1 = .ok (.ifCond .lt 19, 3) := by decide +kernel
theorem dX10_drawn_4 : decode cX10_drawn 4 = .ok (.iload_n 1, 1) := by decide +kernel
theorem dX10_drawn_5 : decode cX10_drawn 5 = .ok (.ldc 235, 2) := by decide +kernel
theorem dX10_drawn_7 : decode cX10_drawn 7 = .ok (.if_icmp .gt 13, 3) := by decide +kernel
theorem dX10_drawn_10 : decode cX10_drawn 10 = .ok (.iload_n 2, 1) := by decide +kernel
theorem dX10_drawn_11 : decode cX10_drawn 11 = .ok (.ifCond .lt 9, 3) := by decide +kernel
theorem dX10_drawn_14 : decode cX10_drawn 14 = .ok (.iload_n 2, 1) := by decide +kernel
theorem dX10_drawn_15 : decode cX10_drawn 15 = .ok (.bipush 20, 2) := by decide +kernel
theorem dX10_drawn_17 : decode cX10_drawn 17 = .ok (.if_icmp .le 5, 3) := by decide +kernel
theorem dX10_drawn_20 : decode cX10_drawn 20 = .ok (.iconst (-1), 1) := by decide +kernel
theorem dX10_drawn_21 : decode cX10_drawn 21 = .ok (.ireturn, 1) := by decide +kernel
theorem dX10_drawn_22 : decode cX10_drawn 22 = .ok (.aload_n 0, 1) := by decide +kernel
theorem dX10_drawn_23 : decode cX10_drawn 23 = .ok (.getfield 26, 3) := by decide +kernel
theorem dX10_drawn_26 : decode cX10_drawn 26 = .ok (.getfield 236, 3) := by decide +kernel
theorem dX10_drawn_29 : decode cX10_drawn 29 = .ok (.ifCond .ne 5, 3) := by decide +kernel
theorem dX10_drawn_32 : decode cX10_drawn 32 = .ok (.iconst 0, 1) := by decide +kernel
theorem dX10_drawn_33 : decode cX10_drawn 33 = .ok (.ireturn, 1) := by decide +kernel
theorem dX10_drawn_34 : decode cX10_drawn 34 = .ok (.aload_n 0, 1) := by decide +kernel
theorem dX10_drawn_35 : decode cX10_drawn 35 = .ok (.getfield 58, 3) := by decide +kernel
theorem dX10_drawn_38 : decode cX10_drawn 38 = .ok (.aload_n 0, 1) := by decide +kernel
theorem dX10_drawn_39 : decode cX10_drawn 39 = .ok (.getfield 26, 3) := by decide +kernel
theorem dX10_drawn_42 : decode cX10_drawn 42 = .ok (.aload_n 0, 1) := by decide +kernel
theorem dX10_drawn_43 : decode cX10_drawn 43 = .ok (.getfield 36, 3) := by decide +kernel
theorem dX10_drawn_46 : decode cX10_drawn 46 = .ok (.getfield 113, 3) := by decide +kernel
theorem dX10_drawn_49 : decode cX10_drawn 49 = .ok (.invokevirtual 239, 3) := by decide +kernel
theorem dX10_drawn_52 : decode cX10_drawn 52 = .ok (.aload_n 0, 1) := by decide +kernel
theorem dX10_drawn_53 : decode cX10_drawn 53 = .ok (.getfield 36, 3) := by decide +kernel
theorem dX10_drawn_56 : decode cX10_drawn 56 = .ok (.getfield 113, 3) := by decide +kernel
theorem dX10_drawn_59 : decode cX10_drawn 59 = .ok (.aload_n 0, 1) := by decide +kernel
theorem dX10_drawn_60 : decode cX10_drawn 60 = .ok (.getfield 26, 3) := by decide +kernel
theorem dX10_drawn_63 : decode cX10_drawn 63 = .ok (.invokevirtual 242, 3) := by decide +kernel
theorem dX10_drawn_66 : decode cX10_drawn 66 = .ok (.istore_n 3, 1) := by decide +kernel
theorem dX10_drawn_67 : decode cX10_drawn 67 = .ok (.iconst 0, 1) := by decide +kernel
theorem dX10_drawn_68 : decode cX10_drawn 68 = .ok (.istore 4, 2) := by decide +kernel
theorem dX10_drawn_70 : decode cX10_drawn 70 = .ok (.iload_n 1, 1) := by decide +kernel
theorem dX10_drawn_71 : decode cX10_drawn 71 = .ok (.istore 5, 2) := by decide +kernel
theorem dX10_drawn_73 : decode cX10_drawn 73 = .ok (.iconst 0, 1) := by decide +kernel
theorem dX10_drawn_74 : decode cX10_drawn 74 = .ok (.istore 6, 2) := by decide +kernel
theorem dX10_drawn_76 : decode cX10_drawn 76 = .ok (.iload 6, 2) := by decide +kernel
theorem dX10_drawn_78 : decode cX10_drawn 78 = .ok (.iload_n 2, 1) := by decide +kernel
theorem dX10_drawn_79 : decode cX10_drawn 79 = .ok (.if_icmp .ge 110, 3) := by decide +kernel
theorem dX10_drawn_82 : decode cX10_drawn 82 = .ok (.iload 5, 2) := by decide +kernel
theorem dX10_drawn_84 : decode cX10_drawn 84 = .ok (.bipush 75, 2) := by decide +kernel
theorem dX10_drawn_86 : decode cX10_drawn 86 = .ok (.imul, 1) := by decide +kernel
theorem dX10_drawn_87 : decode cX10_drawn 87 = .ok (.bipush 74, 2) := by decide +kernel
theorem dX10_drawn_89 : decode cX10_drawn 89 = .ok (.iadd, 1) := by decide +kernel
theorem dX10_drawn_90 : decode cX10_drawn 90 = .ok (.ldc 245, 2) := by decide +kernel
theorem dX10_drawn_92 : decode cX10_drawn 92 = .ok (.irem, 1) := by decide +kernel
theorem dX10_drawn_93 : decode cX10_drawn 93 = .ok (.istore 5, 2) := by decide +kernel
theorem dX10_drawn_95 : decode cX10_drawn 95 = .ok (.iload 5, 2) := by decide +kernel
theorem dX10_drawn_97 : decode cX10_drawn 97 = .ok (.aload_n 0, 1) := by decide +kernel
theorem dX10_drawn_98 : decode cX10_drawn 98 = .ok (.getfield 26, 3) := by decide +kernel
theorem dX10_drawn_101 : decode cX10_drawn 101 = .ok (.getfield 236, 3) := by decide +kernel
theorem dX10_drawn_104 : decode cX10_drawn 104 = .ok (.irem, 1) := by decide +kernel
theorem dX10_drawn_105 : decode cX10_drawn 105 = .ok (.istore 7, 2) := by decide +kernel
theorem dX10_drawn_107 : decode cX10_drawn 107 = .ok (.iload_n 3, 1) := by decide +kernel
theorem dX10_drawn_108 : decode cX10_drawn 108 = .ok (.iload 7, 2) := by decide +kernel
theorem dX10_drawn_110 : decode cX10_drawn 110 = .ok (.ishr, 1) := by decide +kernel
theorem dX10_drawn_111 : decode cX10_drawn 111 = .ok (.iconst 1, 1) := by decide +kernel
theorem dX10_drawn_112 : decode cX10_drawn 112 = .ok (.iand, 1) := by decide +kernel
theorem dX10_drawn_113 : decode cX10_drawn 113 = .ok (.iconst 1, 1) := by decide +kernel
theorem dX10_drawn_114 : decode cX10_drawn 114 = .ok (.if_icmp .ne 19, 3) := by decide +kernel
theorem dX10_drawn_117 : decode cX10_drawn 117 = .ok (.aload_n 0, 1) := by decide +kernel
theorem dX10_drawn_118 : decode cX10_drawn 118 = .ok (.getfield 58, 3) := by decide +kernel
theorem dX10_drawn_121 : decode cX10_drawn 121 = .ok (.aload_n 0, 1) := by decide +kernel
theorem dX10_drawn_122 : decode cX10_drawn 122 = .ok (.getfield 26, 3) := by decide +kernel
theorem dX10_drawn_125 : decode cX10_drawn 125 = .ok (.iload 7, 2) := by decide +kernel
theorem dX10_drawn_127 : decode cX10_drawn 127 = .ok (.invokevirtual 246, 3) := by decide +kernel
theorem dX10_drawn_130 : decode cX10_drawn 130 = .ok (.goto 5, 3) := by decide +kernel
theorem dX10_drawn_133 : decode cX10_drawn 133 = .ok (.bipush (-9), 2) := by decide +kernel
theorem dX10_drawn_135 : decode cX10_drawn 135 = .ok (.istore 8, 2) := by decide +kernel
theorem dX10_drawn_137 : decode cX10_drawn 137 = .ok (.iload 8, 2) := by decide +kernel
theorem dX10_drawn_139 : decode cX10_drawn 139 = .ok (.bipush (-9), 2) := by decide +kernel
theorem dX10_drawn_141 : decode cX10_drawn 141 = .ok (.if_icmp .eq 42, 3) := by decide +kernel
theorem dX10_drawn_144 : decode cX10_drawn 144 = .ok (.aload_n 0, 1) := by decide +kernel
theorem dX10_drawn_145 : decode cX10_drawn 145 = .ok (.getfield 58, 3) := by decide +kernel
theorem dX10_drawn_148 : decode cX10_drawn 148 = .ok (.aload_n 0, 1) := by decide +kernel
theorem dX10_drawn_149 : decode cX10_drawn 149 = .ok (.getfield 26, 3) := by decide +kernel
theorem dX10_drawn_152 : decode cX10_drawn 152 = .ok (.iload 7, 2) := by decide +kernel
theorem dX10_drawn_154 : decode cX10_drawn 154 = .ok (.iload 8, 2) := by decide +kernel
theorem dX10_drawn_156 : decode cX10_drawn 156 = .ok (.invokevirtual 250, 3) := by decide +kernel
theorem dX10_drawn_159 : decode cX10_drawn 159 = .ok (.iload_n 3, 1) := by decide +kernel
theorem dX10_drawn_160 : decode cX10_drawn 160 = .ok (.iconst 1, 1) := by decide +kernel
theorem dX10_drawn_161 : decode cX10_drawn 161 = .ok (.iload 7, 2) := by decide +kernel
theorem dX10_drawn_163 : decode cX10_drawn 163 = .ok (.ishl, 1) := by decide +kernel
theorem dX10_drawn_164 : decode cX10_drawn 164 = .ok (.iconst (-1), 1) := by decide +kernel
theorem dX10_drawn_165 : decode cX10_drawn 165 = .ok (.ixor, 1) := by decide +kernel
theorem dX10_drawn_166 : decode cX10_drawn 166 = .ok (.iand, 1) := by decide +kernel
theorem dX10_drawn_167 : decode cX10_drawn 167 = .ok (.istore_n 3, 1) := by decide +kernel
theorem dX10_drawn_168 : decode cX10_drawn 168 = .ok (.iload 4, 2) := by decide +kernel
theorem dX10_drawn_170 : decode cX10_drawn 170 = .ok (.aload_n 0, 1) := by decide +kernel
theorem dX10_drawn_171 : decode cX10_drawn 171 = .ok (.getfield 26, 3) := by decide +kernel
theorem dX10_drawn_174 : decode cX10_drawn 174 = .ok (.getfield 147, 3) := by decide +kernel
theorem dX10_drawn_177 : decode cX10_drawn 177 = .ok (.iload 7, 2) := by decide +kernel
theorem dX10_drawn_179 : decode cX10_drawn 179 = .ok (.iaload, 1) := by decide +kernel
theorem dX10_drawn_180 : decode cX10_drawn 180 = .ok (.iadd, 1) := by decide +kernel
theorem dX10_drawn_181 : decode cX10_drawn 181 = .ok (.istore 4, 2) := by decide +kernel
theorem dX10_drawn_183 : decode cX10_drawn 183 = .ok (.iinc 6 1, 3) := by decide +kernel
theorem dX10_drawn_186 : decode cX10_drawn 186 = .ok (.goto (-110), 3) := by decide +kernel
theorem dX10_drawn_189 : decode cX10_drawn 189 = .ok (.iload 4, 2) := by decide +kernel
theorem dX10_drawn_191 : decode cX10_drawn 191 = .ok (.ireturn, 1) := by decide +kernel
set_option maxRecDepth 20000 in
theorem ggX10_odds_X2_openDeeds : GoodIn wsX10_odds wsX2_openDeeds := goodIn_r _ [11, 12, 13, 57, 58, 59, 60, 61, 62, 63, 64, 65, 66, 67, 68, 69, 70, 71, 72, 73, 74] (by decide +kernel) (by decide +kernel)
set_option maxRecDepth 20000 in
theorem gX10_odds_X2_openDeeds : GoodIn wsX10_odds (wsV RX10 242 RX2 yX2_openDeeds wsX2_openDeeds) := goodIn_app (goodIn_of _ (by decide +kernel)) ggX10_odds_X2_openDeeds
set_option maxRecDepth 20000 in
theorem ggX10_odds_J6_bitCount_0f7a4 : GoodIn wsX10_odds wsJ6_bitCount_0f7a4 := goodIn_r _ [17, 18, 19, 20] (by decide +kernel) (by decide +kernel)
set_option maxRecDepth 20000 in
theorem gX10_odds_J6_bitCount_0f7a4 : GoodIn wsX10_odds (va_wsS RX10 254 yJ6_bitCount_0f7a4 wsJ6_bitCount_0f7a4) := goodIn_app (goodIn_of _ (by decide +kernel)) ggX10_odds_J6_bitCount_0f7a4
set_option maxRecDepth 20000 in
theorem ggX10_odds_X3_find : GoodIn wsX10_odds wsX3_find := goodIn_r _ [25, 26, 27, 28, 29, 30, 31, 24, 32, 33, 34, 35, 36, 54, 55, 56] (by decide +kernel) (by decide +kernel)
set_option maxRecDepth 20000 in
theorem gX10_odds_X3_find : GoodIn wsX10_odds (wsV RX10 259 RX3 yX3_find wsX3_find) := goodIn_app (goodIn_of _ (by decide +kernel)) ggX10_odds_X3_find
theorem dX10_odds_0 : decode cX10_odds 0 = .ok (.iload_n 1, 1) := by decide +kernel
theorem dX10_odds_1 : decode cX10_odds 1 = .ok (.ifCond .lt 28, 3) := by decide +kernel
theorem dX10_odds_4 : decode cX10_odds 4 = .ok (.iload_n 1, 1) := by decide +kernel
theorem dX10_odds_5 : decode cX10_odds 5 = .ok (.bipush 10, 2) := by decide +kernel
theorem dX10_odds_7 : decode cX10_odds 7 = .ok (.if_icmp .gt 22, 3) := by decide +kernel
theorem dX10_odds_10 : decode cX10_odds 10 = .ok (.iload_n 2, 1) := by decide +kernel
theorem dX10_odds_11 : decode cX10_odds 11 = .ok (.ifCond .lt 18, 3) := by decide +kernel
theorem dX10_odds_14 : decode cX10_odds 14 = .ok (.iload_n 2, 1) := by decide +kernel
theorem dX10_odds_15 : decode cX10_odds 15 = .ok (.bipush 8, 2) := by decide +kernel
theorem dX10_odds_17 : decode cX10_odds 17 = .ok (.if_icmp .gt 12, 3) := by decide +kernel
theorem dX10_odds_20 : decode cX10_odds 20 = .ok (.iload_n 3, 1) := by decide +kernel
theorem dX10_odds_21 : decode cX10_odds 21 = .ok (.ifCond .lt 8, 3) := by decide +kernel
theorem dX10_odds_24 : decode cX10_odds 24 = .ok (.iload_n 3, 1) := by decide +kernel
theorem dX10_odds_25 : decode cX10_odds 25 = .ok (.iconst 1, 1) := by decide +kernel
theorem dX10_odds_26 : decode cX10_odds 26 = .ok (.if_icmp .le 5, 3) := by decide +kernel
theorem dX10_odds_29 : decode cX10_odds 29 = .ok (.iconst (-1), 1) := by decide +kernel
theorem dX10_odds_30 : decode cX10_odds 30 = .ok (.ireturn, 1) := by decide +kernel
theorem dX10_odds_31 : decode cX10_odds 31 = .ok (.aload_n 0, 1) := by decide +kernel
theorem dX10_odds_32 : decode cX10_odds 32 = .ok (.getfield 36, 3) := by decide +kernel
theorem dX10_odds_35 : decode cX10_odds 35 = .ok (.getfield 113, 3) := by decide +kernel
theorem dX10_odds_38 : decode cX10_odds 38 = .ok (.aload_n 0, 1) := by decide +kernel
theorem dX10_odds_39 : decode cX10_odds 39 = .ok (.getfield 26, 3) := by decide +kernel
theorem dX10_odds_42 : decode cX10_odds 42 = .ok (.invokevirtual 242, 3) := by decide +kernel
theorem dX10_odds_45 : decode cX10_odds 45 = .ok (.invokestatic 254, 3) := by decide +kernel
theorem dX10_odds_48 : decode cX10_odds 48 = .ok (.istore 4, 2) := by decide +kernel
theorem dX10_odds_50 : decode cX10_odds 50 = .ok (.aload_n 0, 1) := by decide +kernel
theorem dX10_odds_51 : decode cX10_odds 51 = .ok (.getfield 79, 3) := by decide +kernel
theorem dX10_odds_54 : decode cX10_odds 54 = .ok (.iload 4, 2) := by decide +kernel
theorem dX10_odds_56 : decode cX10_odds 56 = .ok (.iload_n 1, 1) := by decide +kernel
theorem dX10_odds_57 : decode cX10_odds 57 = .ok (.iload_n 2, 1) := by decide +kernel
theorem dX10_odds_58 : decode cX10_odds 58 = .ok (.invokevirtual 259, 3) := by decide +kernel
theorem dX10_odds_61 : decode cX10_odds 61 = .ok (.iload_n 3, 1) := by decide +kernel
theorem dX10_odds_62 : decode cX10_odds 62 = .ok (.ifCond .ne 13, 3) := by decide +kernel
theorem dX10_odds_65 : decode cX10_odds 65 = .ok (.aload_n 0, 1) := by decide +kernel
theorem dX10_odds_66 : decode cX10_odds 66 = .ok (.getfield 79, 3) := by decide +kernel
theorem dX10_odds_69 : decode cX10_odds 69 = .ok (.getfield 262, 3) := by decide +kernel
theorem dX10_odds_72 : decode cX10_odds 72 = .ok (.goto 10, 3) := by decide +kernel
theorem dX10_odds_75 : decode cX10_odds 75 = .ok (.aload_n 0, 1) := by decide +kernel
theorem dX10_odds_76 : decode cX10_odds 76 = .ok (.getfield 79, 3) := by decide +kernel
theorem dX10_odds_79 : decode cX10_odds 79 = .ok (.getfield 265, 3) := by decide +kernel
theorem dX10_odds_82 : decode cX10_odds 82 = .ok (.ireturn, 1) := by decide +kernel
set_option maxRecDepth 20000 in
theorem ggX10_hears_X4_hasDeed : GoodIn wsX10_hears wsX4_hasDeed := goodIn_r _ [8, 9, 35, 36, 37, 38, 39, 40, 41, 42, 43, 44] (by decide +kernel) (by decide +kernel)
set_option maxRecDepth 20000 in
theorem gX10_hears_X4_hasDeed : GoodIn wsX10_hears (wsV RX10 132 RX4 yX4_hasDeed wsX4_hasDeed) := goodIn_app (goodIn_of _ (by decide +kernel)) ggX10_hears_X4_hasDeed
set_option maxRecDepth 20000 in
theorem ggX10_hears_X0_insert : GoodIn wsX10_hears wsX0_insert := goodIn_r _ [14, 15, 16, 17, 32, 33, 34] (by decide +kernel) (by decide +kernel)
set_option maxRecDepth 20000 in
theorem gX10_hears_X0_insert : GoodIn wsX10_hears (wsV RX10 268 RX0 yX0_insert wsX0_insert) := goodIn_app (goodIn_of _ (by decide +kernel)) ggX10_hears_X0_insert
theorem dX10_hears_0 : decode cX10_hears 0 = .ok (.aload_n 0, 1) := by decide +kernel
theorem dX10_hears_1 : decode cX10_hears 1 = .ok (.getfield 26, 3) := by decide +kernel
theorem dX10_hears_4 : decode cX10_hears 4 = .ok (.iload_n 1, 1) := by decide +kernel
theorem dX10_hears_5 : decode cX10_hears 5 = .ok (.invokevirtual 132, 3) := by decide +kernel
theorem dX10_hears_8 : decode cX10_hears 8 = .ok (.ifCond .eq 13, 3) := by decide +kernel
theorem dX10_hears_11 : decode cX10_hears 11 = .ok (.iload_n 2, 1) := by decide +kernel
theorem dX10_hears_12 : decode cX10_hears 12 = .ok (.ifCond .lt 9, 3) := by decide +kernel
theorem dX10_hears_15 : decode cX10_hears 15 = .ok (.iload_n 2, 1) := by decide +kernel
theorem dX10_hears_16 : decode cX10_hears 16 = .ok (.bipush 99, 2) := by decide +kernel
theorem dX10_hears_18 : decode cX10_hears 18 = .ok (.if_icmp .le 5, 3) := by decide +kernel
theorem dX10_hears_21 : decode cX10_hears 21 = .ok (.iconst (-1), 1) := by decide +kernel
theorem dX10_hears_22 : decode cX10_hears 22 = .ok (.ireturn, 1) := by decide +kernel
theorem dX10_hears_23 : decode cX10_hears 23 = .ok (.aload_n 0, 1) := by decide +kernel
theorem dX10_hears_24 : decode cX10_hears 24 = .ok (.getfield 51, 3) := by decide +kernel
theorem dX10_hears_27 : decode cX10_hears 27 = .ok (.getfield 102, 3) := by decide +kernel
theorem dX10_hears_30 : decode cX10_hears 30 = .ok (.bipush 6, 2) := by decide +kernel
theorem dX10_hears_32 : decode cX10_hears 32 = .ok (.if_icmp .lt 6, 3) := by decide +kernel
theorem dX10_hears_35 : decode cX10_hears 35 = .ok (.bipush (-3), 2) := by decide +kernel
theorem dX10_hears_37 : decode cX10_hears 37 = .ok (.ireturn, 1) := by decide +kernel
theorem dX10_hears_38 : decode cX10_hears 38 = .ok (.aload_n 0, 1) := by decide +kernel
theorem dX10_hears_39 : decode cX10_hears 39 = .ok (.getfield 51, 3) := by decide +kernel
theorem dX10_hears_42 : decode cX10_hears 42 = .ok (.iload_n 1, 1) := by decide +kernel
theorem dX10_hears_43 : decode cX10_hears 43 = .ok (.iload_n 2, 1) := by decide +kernel
theorem dX10_hears_44 : decode cX10_hears 44 = .ok (.invokevirtual 268, 3) := by decide +kernel
theorem dX10_hears_47 : decode cX10_hears 47 = .ok (.aload_n 0, 1) := by decide +kernel
theorem dX10_hears_48 : decode cX10_hears 48 = .ok (.getfield 51, 3) := by decide +kernel
theorem dX10_hears_51 : decode cX10_hears 51 = .ok (.getfield 102, 3) := by decide +kernel
theorem dX10_hears_54 : decode cX10_hears 54 = .ok (.ireturn, 1) := by decide +kernel
theorem dX10_forget_0 : decode cX10_forget 0 = .ok (.aload_n 0, 1) := by decide +kernel
theorem dX10_forget_1 : decode cX10_forget 1 = .ok (.getfield 51, 3) := by decide +kernel
theorem dX10_forget_4 : decode cX10_forget 4 = .ok (.getfield 102, 3) := by decide +kernel
theorem dX10_forget_7 : decode cX10_forget 7 = .ok (.istore_n 1, 1) := by decide +kernel
theorem dX10_forget_8 : decode cX10_forget 8 = .ok (.aload_n 0, 1) := by decide +kernel
theorem dX10_forget_9 : decode cX10_forget 9 = .ok (.getfield 51, 3) := by decide +kernel
theorem dX10_forget_12 : decode cX10_forget 12 = .ok (.iconst 0, 1) := by decide +kernel
theorem dX10_forget_13 : decode cX10_forget 13 = .ok (.putfield 102, 3) := by decide +kernel
theorem dX10_forget_16 : decode cX10_forget 16 = .ok (.iload_n 1, 1) := by decide +kernel
theorem dX10_forget_17 : decode cX10_forget 17 = .ok (.ireturn, 1) := by decide +kernel
set_option maxRecDepth 20000 in
theorem ggX10_lies_X0_tooSoon : GoodIn wsX10_lies wsX0_tooSoon := goodIn_r _ [7, 8, 9, 10, 11, 12, 13, 14, 15, 30, 31, 32, 33, 34, 35, 36, 37, 38, 39, 40, 41, 42] (by decide +kernel) (by decide +kernel)
set_option maxRecDepth 20000 in
theorem gX10_lies_X0_tooSoon : GoodIn wsX10_lies (wsV RX10 271 RX0 yX0_tooSoon wsX0_tooSoon) := goodIn_app (goodIn_of _ (by decide +kernel)) ggX10_lies_X0_tooSoon
theorem dX10_lies_0 : decode cX10_lies 0 = .ok (.aload_n 0, 1) := by decide +kernel
theorem dX10_lies_1 : decode cX10_lies 1 = .ok (.getfield 51, 3) := by decide +kernel
theorem dX10_lies_4 : decode cX10_lies 4 = .ok (.aload_n 0, 1) := by decide +kernel
theorem dX10_lies_5 : decode cX10_lies 5 = .ok (.getfield 26, 3) := by decide +kernel
theorem dX10_lies_8 : decode cX10_lies 8 = .ok (.invokevirtual 271, 3) := by decide +kernel
theorem dX10_lies_11 : decode cX10_lies 11 = .ok (.ireturn, 1) := by decide +kernel
set_option maxRecDepth 20000 in
theorem ggX10_had_X0_possibleHolders : GoodIn wsX10_had wsX0_possibleHolders := goodIn_r _ [7, 8, 9, 10, 11, 12, 6, 13, 14, 15, 16, 17, 18, 19, 20, 21, 22, 23, 24, 25, 26, 27, 28, 29, 30, 31, 32, 33, 34, 49, 50, 51, 52, 53, 54, 55, 56, 57, 58, 59, 60, 61] (by decide +kernel) (by decide +kernel)
set_option maxRecDepth 20000 in
theorem gX10_had_X0_possibleHolders : GoodIn wsX10_had (wsV RX10 274 RX0 yX0_possibleHolders wsX0_possibleHolders) := goodIn_app (goodIn_of _ (by decide +kernel)) ggX10_had_X0_possibleHolders
theorem dX10_had_0 : decode cX10_had 0 = .ok (.iload_n 1, 1) := by decide +kernel
theorem dX10_had_1 : decode cX10_had 1 = .ok (.ifCond .lt 9, 3) := by decide +kernel
theorem dX10_had_4 : decode cX10_had 4 = .ok (.iload_n 1, 1) := by decide +kernel
theorem dX10_had_5 : decode cX10_had 5 = .ok (.bipush 99, 2) := by decide +kernel
theorem dX10_had_7 : decode cX10_had 7 = .ok (.if_icmp .le 5, 3) := by decide +kernel
theorem dX10_had_10 : decode cX10_had 10 = .ok (.iconst (-1), 1) := by decide +kernel
theorem dX10_had_11 : decode cX10_had 11 = .ok (.ireturn, 1) := by decide +kernel
theorem dX10_had_12 : decode cX10_had 12 = .ok (.aload_n 0, 1) := by decide +kernel
theorem dX10_had_13 : decode cX10_had 13 = .ok (.getfield 51, 3) := by decide +kernel
theorem dX10_had_16 : decode cX10_had 16 = .ok (.aload_n 0, 1) := by decide +kernel
theorem dX10_had_17 : decode cX10_had 17 = .ok (.getfield 26, 3) := by decide +kernel
theorem dX10_had_20 : decode cX10_had 20 = .ok (.iload_n 1, 1) := by decide +kernel
theorem dX10_had_21 : decode cX10_had 21 = .ok (.invokevirtual 274, 3) := by decide +kernel
theorem dX10_had_24 : decode cX10_had 24 = .ok (.ireturn, 1) := by decide +kernel
set_option maxRecDepth 20000 in
theorem ggX10_mark_X4_hasOne : GoodIn wsX10_mark wsX4_hasOne := goodIn_r _ [7, 8, 67, 68, 69, 70, 71, 72, 73, 74, 75, 76] (by decide +kernel) (by decide +kernel)
set_option maxRecDepth 20000 in
theorem gX10_mark_X4_hasOne : GoodIn wsX10_mark (wsV RX10 109 RX4 yX4_hasOne wsX4_hasOne) := goodIn_app (goodIn_of _ (by decide +kernel)) ggX10_mark_X4_hasOne
set_option maxRecDepth 20000 in
theorem ggX10_mark_X10_markOfOne : GoodIn wsX10_mark wsX10_markOfOne := goodIn_r _ [13, 14, 15, 16, 17, 18, 19, 20, 21, 22, 23, 24, 53, 54, 55, 56, 57, 58, 59, 60, 61, 62, 63, 64, 65, 66, 77, 78, 79, 80, 81, 82, 83, 84, 85, 86, 87] (by decide +kernel) (by decide +kernel)
set_option maxRecDepth 20000 in
theorem gX10_mark_X10_markOfOne : GoodIn wsX10_mark (wsV RX10 278 RX10 yX10_markOfOne wsX10_markOfOne) := goodIn_app (goodIn_of _ (by decide +kernel)) ggX10_mark_X10_markOfOne
set_option maxRecDepth 20000 in
theorem ggX10_mark_X10_markOfFriend : GoodIn wsX10_mark wsX10_markOfFriend := goodIn_r _ [28, 14, 29, 15, 16, 30, 9, 10, 11, 12, 13, 17, 18, 19, 20, 21, 22, 23, 24, 53, 54, 55, 56, 57, 58, 59, 60, 61, 62, 63, 64, 65, 66, 77, 78, 79, 80, 81, 82, 83, 84, 85, 86, 87] (by decide +kernel) (by decide +kernel)
set_option maxRecDepth 20000 in
theorem gX10_mark_X10_markOfFriend : GoodIn wsX10_mark (wsV RX10 281 RX10 yX10_markOfFriend wsX10_markOfFriend) := goodIn_app (goodIn_of _ (by decide +kernel)) ggX10_mark_X10_markOfFriend
set_option maxRecDepth 20000 in
theorem ggX10_mark_X10_markOfThief : GoodIn wsX10_mark wsX10_markOfThief := goodIn_r _ [34, 14, 35, 15, 16, 36, 9, 10, 11, 12, 13, 17, 18, 19, 20, 21, 22, 23, 24, 53, 54, 55, 56, 57, 58, 59, 60, 61, 62, 63, 64, 65, 66, 77, 78, 79, 80, 81, 82, 83, 84, 85, 86, 87] (by decide +kernel) (by decide +kernel)
set_option maxRecDepth 20000 in
theorem gX10_mark_X10_markOfThief : GoodIn wsX10_mark (wsV RX10 284 RX10 yX10_markOfThief wsX10_markOfThief) := goodIn_app (goodIn_of _ (by decide +kernel)) ggX10_mark_X10_markOfThief
set_option maxRecDepth 20000 in
theorem ggX10_mark_X10_markOfWidow : GoodIn wsX10_mark wsX10_markOfWidow := goodIn_r _ [40, 14, 41, 25, 26, 27, 12, 28, 29, 15, 16, 30, 9, 10, 11, 13, 17, 18, 19, 20, 21, 22, 23, 24, 53, 54, 55, 56, 57, 58, 59, 60, 61, 62, 63, 64, 65, 66, 77, 78, 79, 80, 81, 82, 83, 84, 85, 86, 87] (by decide +kernel) (by decide +kernel)
set_option maxRecDepth 20000 in
theorem gX10_mark_X10_markOfWidow : GoodIn wsX10_mark (wsV RX10 287 RX10 yX10_markOfWidow wsX10_markOfWidow) := goodIn_app (goodIn_of _ (by decide +kernel)) ggX10_mark_X10_markOfWidow
set_option maxRecDepth 20000 in
theorem ggX10_mark_X10_markOfPilot : GoodIn wsX10_mark wsX10_markOfPilot := goodIn_r _ [45, 14, 46, 31, 32, 33, 12, 34, 35, 15, 16, 36, 9, 10, 11, 13, 17, 18, 19, 20, 21, 22, 23, 24, 53, 54, 55, 56, 57, 58, 59, 60, 61, 62, 63, 64, 65, 66, 77, 78, 79, 80, 81, 82, 83, 84, 85, 86, 87] (by decide +kernel) (by decide +kernel)
set_option maxRecDepth 20000 in
theorem gX10_mark_X10_markOfPilot : GoodIn wsX10_mark (wsV RX10 290 RX10 yX10_markOfPilot wsX10_markOfPilot) := goodIn_app (goodIn_of _ (by decide +kernel)) ggX10_mark_X10_markOfPilot
set_option maxRecDepth 20000 in
theorem ggX10_mark_X10_markOfClerk : GoodIn wsX10_mark wsX10_markOfClerk := goodIn_r _ [50, 14, 51, 15, 16, 52, 9, 10, 11, 12, 13, 17, 18, 19, 20, 21, 22, 23, 24, 53, 54, 55, 56, 57, 58, 59, 60, 61, 62, 63, 64, 65, 66, 77, 78, 79, 80, 81, 82, 83, 84, 85, 86, 87] (by decide +kernel) (by decide +kernel)
set_option maxRecDepth 20000 in
theorem gX10_mark_X10_markOfClerk : GoodIn wsX10_mark (wsV RX10 293 RX10 yX10_markOfClerk wsX10_markOfClerk) := goodIn_app (goodIn_of _ (by decide +kernel)) ggX10_mark_X10_markOfClerk
theorem dX10_mark_0 : decode cX10_mark 0 = .ok (.aload_n 0, 1) := by decide +kernel
theorem dX10_mark_1 : decode cX10_mark 1 = .ok (.getfield 26, 3) := by decide +kernel
theorem dX10_mark_4 : decode cX10_mark 4 = .ok (.iload_n 2, 1) := by decide +kernel
theorem dX10_mark_5 : decode cX10_mark 5 = .ok (.invokevirtual 109, 3) := by decide +kernel
theorem dX10_mark_8 : decode cX10_mark 8 = .ok (.ifCond .ne 7, 3) := by decide +kernel
theorem dX10_mark_11 : decode cX10_mark 11 = .ok (.ldc_w 277, 3) := by decide +kernel
theorem dX10_mark_14 : decode cX10_mark 14 = .ok (.ireturn, 1) := by decide +kernel
theorem dX10_mark_15 : decode cX10_mark 15 = .ok (.iload_n 1, 1) := by decide +kernel
theorem dX10_mark_16 : decode cX10_mark 16 = .ok (.tableswitch 76 0 5 #[40, 46, 52, 58, 64, 70], 40) := by decide +kernel
theorem dX10_mark_56 : decode cX10_mark 56 = .ok (.aload_n 0, 1) := by decide +kernel
theorem dX10_mark_57 : decode cX10_mark 57 = .ok (.iload_n 2, 1) := by decide +kernel
theorem dX10_mark_58 : decode cX10_mark 58 = .ok (.invokevirtual 278, 3) := by decide +kernel
theorem dX10_mark_61 : decode cX10_mark 61 = .ok (.ireturn, 1) := by decide +kernel
theorem dX10_mark_62 : decode cX10_mark 62 = .ok (.aload_n 0, 1) := by decide +kernel
theorem dX10_mark_63 : decode cX10_mark 63 = .ok (.iload_n 2, 1) := by decide +kernel
theorem dX10_mark_64 : decode cX10_mark 64 = .ok (.invokevirtual 281, 3) := by decide +kernel
theorem dX10_mark_67 : decode cX10_mark 67 = .ok (.ireturn, 1) := by decide +kernel
theorem dX10_mark_68 : decode cX10_mark 68 = .ok (.aload_n 0, 1) := by decide +kernel
theorem dX10_mark_69 : decode cX10_mark 69 = .ok (.iload_n 2, 1) := by decide +kernel
theorem dX10_mark_70 : decode cX10_mark 70 = .ok (.invokevirtual 284, 3) := by decide +kernel
theorem dX10_mark_73 : decode cX10_mark 73 = .ok (.ireturn, 1) := by decide +kernel
theorem dX10_mark_74 : decode cX10_mark 74 = .ok (.aload_n 0, 1) := by decide +kernel
theorem dX10_mark_75 : decode cX10_mark 75 = .ok (.iload_n 2, 1) := by decide +kernel
theorem dX10_mark_76 : decode cX10_mark 76 = .ok (.invokevirtual 287, 3) := by decide +kernel
theorem dX10_mark_79 : decode cX10_mark 79 = .ok (.ireturn, 1) := by decide +kernel
theorem dX10_mark_80 : decode cX10_mark 80 = .ok (.aload_n 0, 1) := by decide +kernel
theorem dX10_mark_81 : decode cX10_mark 81 = .ok (.iload_n 2, 1) := by decide +kernel
theorem dX10_mark_82 : decode cX10_mark 82 = .ok (.invokevirtual 290, 3) := by decide +kernel
theorem dX10_mark_85 : decode cX10_mark 85 = .ok (.ireturn, 1) := by decide +kernel
theorem dX10_mark_86 : decode cX10_mark 86 = .ok (.aload_n 0, 1) := by decide +kernel
theorem dX10_mark_87 : decode cX10_mark 87 = .ok (.iload_n 2, 1) := by decide +kernel
theorem dX10_mark_88 : decode cX10_mark 88 = .ok (.invokevirtual 293, 3) := by decide +kernel
theorem dX10_mark_91 : decode cX10_mark 91 = .ok (.ireturn, 1) := by decide +kernel
theorem dX10_mark_92 : decode cX10_mark 92 = .ok (.ldc_w 277, 3) := by decide +kernel
theorem dX10_mark_95 : decode cX10_mark 95 = .ok (.ireturn, 1) := by decide +kernel
set_option maxRecDepth 20000 in
theorem ggX10_markOfOne_X2_careOf : GoodIn wsX10_markOfOne wsX2_careOf := goodIn_r _ [8, 9, 10, 11, 29, 30, 31, 32, 33, 34, 35, 36] (by decide +kernel) (by decide +kernel)
set_option maxRecDepth 20000 in
theorem gX10_markOfOne_X2_careOf : GoodIn wsX10_markOfOne (wsV RX10 128 RX2 yX2_careOf wsX2_careOf) := goodIn_app (goodIn_of _ (by decide +kernel)) ggX10_markOfOne_X2_careOf
theorem dX10_markOfOne_0 : decode cX10_markOfOne 0 = .ok (.aload_n 0, 1) := by decide +kernel
theorem dX10_markOfOne_1 : decode cX10_markOfOne 1 = .ok (.dup, 1) := by decide +kernel
theorem dX10_markOfOne_2 : decode cX10_markOfOne 2 = .ok (.getfield 296, 3) := by decide +kernel
theorem dX10_markOfOne_5 : decode cX10_markOfOne 5 = .ok (.lconst 1, 1) := by decide +kernel
theorem dX10_markOfOne_6 : decode cX10_markOfOne 6 = .ok (.ladd, 1) := by decide +kernel
theorem dX10_markOfOne_7 : decode cX10_markOfOne 7 = .ok (.putfield 296, 3) := by decide +kernel
theorem dX10_markOfOne_10 : decode cX10_markOfOne 10 = .ok (.aload_n 0, 1) := by decide +kernel
theorem dX10_markOfOne_11 : decode cX10_markOfOne 11 = .ok (.getfield 36, 3) := by decide +kernel
theorem dX10_markOfOne_14 : decode cX10_markOfOne 14 = .ok (.getfield 113, 3) := by decide +kernel
theorem dX10_markOfOne_17 : decode cX10_markOfOne 17 = .ok (.iload_n 1, 1) := by decide +kernel
theorem dX10_markOfOne_18 : decode cX10_markOfOne 18 = .ok (.invokevirtual 128, 3) := by decide +kernel
theorem dX10_markOfOne_21 : decode cX10_markOfOne 21 = .ok (.ireturn, 1) := by decide +kernel
set_option maxRecDepth 20000 in
theorem ggX10_markOfFriend_X10_markOfOne : GoodIn wsX10_markOfFriend wsX10_markOfOne := goodIn_r _ [10, 1, 3, 4, 11, 12, 13, 14, 15, 16, 17, 18, 19, 20, 21, 22, 23, 24, 25, 26, 27, 28, 29, 30, 31, 32, 33, 34, 35, 36, 37, 38, 39, 40, 41, 42, 43] (by decide +kernel) (by decide +kernel)
set_option maxRecDepth 20000 in
theorem gX10_markOfFriend_X10_markOfOne : GoodIn wsX10_markOfFriend (wsV RX10 278 RX10 yX10_markOfOne wsX10_markOfOne) := goodIn_app (goodIn_of _ (by decide +kernel)) ggX10_markOfFriend_X10_markOfOne
theorem dX10_markOfFriend_0 : decode cX10_markOfFriend 0 = .ok (.aload_n 0, 1) := by decide +kernel
theorem dX10_markOfFriend_1 : decode cX10_markOfFriend 1 = .ok (.dup, 1) := by decide +kernel
theorem dX10_markOfFriend_2 : decode cX10_markOfFriend 2 = .ok (.getfield 296, 3) := by decide +kernel
theorem dX10_markOfFriend_5 : decode cX10_markOfFriend 5 = .ok (.ldc2_w 300, 3) := by decide +kernel
theorem dX10_markOfFriend_8 : decode cX10_markOfFriend 8 = .ok (.ladd, 1) := by decide +kernel
theorem dX10_markOfFriend_9 : decode cX10_markOfFriend 9 = .ok (.putfield 296, 3) := by decide +kernel
theorem dX10_markOfFriend_12 : decode cX10_markOfFriend 12 = .ok (.aload_n 0, 1) := by decide +kernel
theorem dX10_markOfFriend_13 : decode cX10_markOfFriend 13 = .ok (.iload_n 1, 1) := by decide +kernel
theorem dX10_markOfFriend_14 : decode cX10_markOfFriend 14 = .ok (.invokevirtual 278, 3) := by decide +kernel
theorem dX10_markOfFriend_17 : decode cX10_markOfFriend 17 = .ok (.aload_n 0, 1) := by decide +kernel
theorem dX10_markOfFriend_18 : decode cX10_markOfFriend 18 = .ok (.getfield 36, 3) := by decide +kernel
theorem dX10_markOfFriend_21 : decode cX10_markOfFriend 21 = .ok (.getfield 113, 3) := by decide +kernel
theorem dX10_markOfFriend_24 : decode cX10_markOfFriend 24 = .ok (.getfield 125, 3) := by decide +kernel
theorem dX10_markOfFriend_27 : decode cX10_markOfFriend 27 = .ok (.iload_n 1, 1) := by decide +kernel
theorem dX10_markOfFriend_28 : decode cX10_markOfFriend 28 = .ok (.iaload, 1) := by decide +kernel
theorem dX10_markOfFriend_29 : decode cX10_markOfFriend 29 = .ok (.iadd, 1) := by decide +kernel
theorem dX10_markOfFriend_30 : decode cX10_markOfFriend 30 = .ok (.ireturn, 1) := by decide +kernel
set_option maxRecDepth 20000 in
theorem ggX10_markOfThief_X10_markOfOne : GoodIn wsX10_markOfThief wsX10_markOfOne := goodIn_r _ [10, 1, 3, 4, 11, 12, 13, 14, 15, 16, 17, 18, 19, 20, 21, 22, 23, 24, 25, 26, 27, 28, 29, 30, 31, 32, 33, 34, 35, 36, 37, 38, 39, 40, 41, 42, 43] (by decide +kernel) (by decide +kernel)
set_option maxRecDepth 20000 in
theorem gX10_markOfThief_X10_markOfOne : GoodIn wsX10_markOfThief (wsV RX10 278 RX10 yX10_markOfOne wsX10_markOfOne) := goodIn_app (goodIn_of _ (by decide +kernel)) ggX10_markOfThief_X10_markOfOne
theorem dX10_markOfThief_0 : decode cX10_markOfThief 0 = .ok (.aload_n 0, 1) := by decide +kernel
theorem dX10_markOfThief_1 : decode cX10_markOfThief 1 = .ok (.dup, 1) := by decide +kernel
theorem dX10_markOfThief_2 : decode cX10_markOfThief 2 = .ok (.getfield 296, 3) := by decide +kernel
theorem dX10_markOfThief_5 : decode cX10_markOfThief 5 = .ok (.ldc2_w 302, 3) := by decide +kernel
theorem dX10_markOfThief_8 : decode cX10_markOfThief 8 = .ok (.ladd, 1) := by decide +kernel
theorem dX10_markOfThief_9 : decode cX10_markOfThief 9 = .ok (.putfield 296, 3) := by decide +kernel
theorem dX10_markOfThief_12 : decode cX10_markOfThief 12 = .ok (.aload_n 0, 1) := by decide +kernel
theorem dX10_markOfThief_13 : decode cX10_markOfThief 13 = .ok (.iload_n 1, 1) := by decide +kernel
theorem dX10_markOfThief_14 : decode cX10_markOfThief 14 = .ok (.invokevirtual 278, 3) := by decide +kernel
theorem dX10_markOfThief_17 : decode cX10_markOfThief 17 = .ok (.aload_n 0, 1) := by decide +kernel
theorem dX10_markOfThief_18 : decode cX10_markOfThief 18 = .ok (.getfield 36, 3) := by decide +kernel
theorem dX10_markOfThief_21 : decode cX10_markOfThief 21 = .ok (.getfield 113, 3) := by decide +kernel
theorem dX10_markOfThief_24 : decode cX10_markOfThief 24 = .ok (.getfield 120, 3) := by decide +kernel
theorem dX10_markOfThief_27 : decode cX10_markOfThief 27 = .ok (.iload_n 1, 1) := by decide +kernel
theorem dX10_markOfThief_28 : decode cX10_markOfThief 28 = .ok (.iaload, 1) := by decide +kernel
theorem dX10_markOfThief_29 : decode cX10_markOfThief 29 = .ok (.isub, 1) := by decide +kernel
theorem dX10_markOfThief_30 : decode cX10_markOfThief 30 = .ok (.ireturn, 1) := by decide +kernel
set_option maxRecDepth 20000 in
theorem ggX10_markOfWidow_X10_markOfFriend : GoodIn wsX10_markOfWidow wsX10_markOfFriend := goodIn_r _ [7, 1, 8, 9, 10, 11, 12, 13, 14, 6, 15, 16, 17, 18, 19, 20, 21, 22, 23, 24, 25, 26, 27, 28, 29, 30, 31, 32, 33, 34, 35, 36, 37, 38, 39, 40, 41, 42, 43, 44, 45, 46, 47, 48] (by decide +kernel) (by decide +kernel)
set_option maxRecDepth 20000 in
theorem gX10_markOfWidow_X10_markOfFriend : GoodIn wsX10_markOfWidow (wsV RX10 281 RX10 yX10_markOfFriend wsX10_markOfFriend) := goodIn_app (goodIn_of _ (by decide +kernel)) ggX10_markOfWidow_X10_markOfFriend
theorem dX10_markOfWidow_0 : decode cX10_markOfWidow 0 = .ok (.aload_n 0, 1) := by decide +kernel
theorem dX10_markOfWidow_1 : decode cX10_markOfWidow 1 = .ok (.dup, 1) := by decide +kernel
theorem dX10_markOfWidow_2 : decode cX10_markOfWidow 2 = .ok (.getfield 296, 3) := by decide +kernel
theorem dX10_markOfWidow_5 : decode cX10_markOfWidow 5 = .ok (.ldc2_w 304, 3) := by decide +kernel
theorem dX10_markOfWidow_8 : decode cX10_markOfWidow 8 = .ok (.ladd, 1) := by decide +kernel
theorem dX10_markOfWidow_9 : decode cX10_markOfWidow 9 = .ok (.putfield 296, 3) := by decide +kernel
theorem dX10_markOfWidow_12 : decode cX10_markOfWidow 12 = .ok (.aload_n 0, 1) := by decide +kernel
theorem dX10_markOfWidow_13 : decode cX10_markOfWidow 13 = .ok (.iload_n 1, 1) := by decide +kernel
theorem dX10_markOfWidow_14 : decode cX10_markOfWidow 14 = .ok (.invokevirtual 281, 3) := by decide +kernel
theorem dX10_markOfWidow_17 : decode cX10_markOfWidow 17 = .ok (.iconst 2, 1) := by decide +kernel
theorem dX10_markOfWidow_18 : decode cX10_markOfWidow 18 = .ok (.imul, 1) := by decide +kernel
theorem dX10_markOfWidow_19 : decode cX10_markOfWidow 19 = .ok (.ireturn, 1) := by decide +kernel
set_option maxRecDepth 20000 in
theorem ggX10_markOfPilot_X10_markOfThief : GoodIn wsX10_markOfPilot wsX10_markOfThief := goodIn_r _ [7, 1, 8, 9, 10, 11, 12, 13, 14, 6, 15, 16, 17, 18, 19, 20, 21, 22, 23, 24, 25, 26, 27, 28, 29, 30, 31, 32, 33, 34, 35, 36, 37, 38, 39, 40, 41, 42, 43, 44, 45, 46, 47, 48] (by decide +kernel) (by decide +kernel)
set_option maxRecDepth 20000 in
theorem gX10_markOfPilot_X10_markOfThief : GoodIn wsX10_markOfPilot (wsV RX10 284 RX10 yX10_markOfThief wsX10_markOfThief) := goodIn_app (goodIn_of _ (by decide +kernel)) ggX10_markOfPilot_X10_markOfThief
theorem dX10_markOfPilot_0 : decode cX10_markOfPilot 0 = .ok (.aload_n 0, 1) := by decide +kernel
theorem dX10_markOfPilot_1 : decode cX10_markOfPilot 1 = .ok (.dup, 1) := by decide +kernel
theorem dX10_markOfPilot_2 : decode cX10_markOfPilot 2 = .ok (.getfield 296, 3) := by decide +kernel
theorem dX10_markOfPilot_5 : decode cX10_markOfPilot 5 = .ok (.ldc2_w 306, 3) := by decide +kernel
theorem dX10_markOfPilot_8 : decode cX10_markOfPilot 8 = .ok (.ladd, 1) := by decide +kernel
theorem dX10_markOfPilot_9 : decode cX10_markOfPilot 9 = .ok (.putfield 296, 3) := by decide +kernel
theorem dX10_markOfPilot_12 : decode cX10_markOfPilot 12 = .ok (.aload_n 0, 1) := by decide +kernel
theorem dX10_markOfPilot_13 : decode cX10_markOfPilot 13 = .ok (.iload_n 1, 1) := by decide +kernel
theorem dX10_markOfPilot_14 : decode cX10_markOfPilot 14 = .ok (.invokevirtual 284, 3) := by decide +kernel
theorem dX10_markOfPilot_17 : decode cX10_markOfPilot 17 = .ok (.iload_n 1, 1) := by decide +kernel
theorem dX10_markOfPilot_18 : decode cX10_markOfPilot 18 = .ok (.iadd, 1) := by decide +kernel
theorem dX10_markOfPilot_19 : decode cX10_markOfPilot 19 = .ok (.ireturn, 1) := by decide +kernel
set_option maxRecDepth 20000 in
theorem ggX10_markOfClerk_X10_markOfOne : GoodIn wsX10_markOfClerk wsX10_markOfOne := goodIn_r _ [10, 1, 3, 4, 11, 12, 13, 14, 15, 16, 17, 18, 19, 20, 21, 22, 23, 24, 25, 26, 27, 28, 29, 30, 31, 32, 33, 34, 35, 36, 37, 38, 39, 40, 41, 42, 43] (by decide +kernel) (by decide +kernel)
set_option maxRecDepth 20000 in
theorem gX10_markOfClerk_X10_markOfOne : GoodIn wsX10_markOfClerk (wsV RX10 278 RX10 yX10_markOfOne wsX10_markOfOne) := goodIn_app (goodIn_of _ (by decide +kernel)) ggX10_markOfClerk_X10_markOfOne
theorem dX10_markOfClerk_0 : decode cX10_markOfClerk 0 = .ok (.aload_n 0, 1) := by decide +kernel
theorem dX10_markOfClerk_1 : decode cX10_markOfClerk 1 = .ok (.dup, 1) := by decide +kernel
theorem dX10_markOfClerk_2 : decode cX10_markOfClerk 2 = .ok (.getfield 296, 3) := by decide +kernel
theorem dX10_markOfClerk_5 : decode cX10_markOfClerk 5 = .ok (.ldc2_w 308, 3) := by decide +kernel
theorem dX10_markOfClerk_8 : decode cX10_markOfClerk 8 = .ok (.ladd, 1) := by decide +kernel
theorem dX10_markOfClerk_9 : decode cX10_markOfClerk 9 = .ok (.putfield 296, 3) := by decide +kernel
theorem dX10_markOfClerk_12 : decode cX10_markOfClerk 12 = .ok (.aload_n 0, 1) := by decide +kernel
theorem dX10_markOfClerk_13 : decode cX10_markOfClerk 13 = .ok (.iload_n 1, 1) := by decide +kernel
theorem dX10_markOfClerk_14 : decode cX10_markOfClerk 14 = .ok (.invokevirtual 278, 3) := by decide +kernel
theorem dX10_markOfClerk_17 : decode cX10_markOfClerk 17 = .ok (.aload_n 0, 1) := by decide +kernel
theorem dX10_markOfClerk_18 : decode cX10_markOfClerk 18 = .ok (.getfield 36, 3) := by decide +kernel
theorem dX10_markOfClerk_21 : decode cX10_markOfClerk 21 = .ok (.getfield 113, 3) := by decide +kernel
theorem dX10_markOfClerk_24 : decode cX10_markOfClerk 24 = .ok (.getfield 185, 3) := by decide +kernel
theorem dX10_markOfClerk_27 : decode cX10_markOfClerk 27 = .ok (.iadd, 1) := by decide +kernel
theorem dX10_markOfClerk_28 : decode cX10_markOfClerk 28 = .ok (.ireturn, 1) := by decide +kernel
set_option maxRecDepth 20000 in
theorem ggX10_keep_X1_copyFrom : GoodIn wsX10_keep wsX1_copyFrom := goodIn_r _ [10, 11, 12, 13, 14, 15, 16, 17, 18, 19, 20, 21, 22, 23, 24, 25, 26, 27, 28, 29, 30, 45, 46, 47, 48, 49, 50, 51, 52, 53, 54, 55] (by decide +kernel) (by decide +kernel)
set_option maxRecDepth 20000 in
theorem gX10_keep_X1_copyFrom : GoodIn wsX10_keep (wsV RX10 310 RX1 yX1_copyFrom wsX1_copyFrom) := goodIn_app (goodIn_of _ (by decide +kernel)) ggX10_keep_X1_copyFrom
theorem dX10_keep_0 : decode cX10_keep 0 = .ok (.iload_n 1, 1) := by decide +kernel
theorem dX10_keep_1 : decode cX10_keep 1 = .ok (.ifCond .lt 8, 3) := by decide +kernel
theorem dX10_keep_4 : decode cX10_keep 4 = .ok (.iload_n 1, 1) := by decide +kernel
theorem dX10_keep_5 : decode cX10_keep 5 = .ok (.iconst 2, 1) := by decide +kernel
theorem dX10_keep_6 : decode cX10_keep 6 = .ok (.if_icmp .lt 5, 3) := by decide +kernel
theorem dX10_keep_9 : decode cX10_keep 9 = .ok (.iconst (-1), 1) := by decide +kernel
theorem dX10_keep_10 : decode cX10_keep 10 = .ok (.ireturn, 1) := by decide +kernel
theorem dX10_keep_11 : decode cX10_keep 11 = .ok (.aload_n 0, 1) := by decide +kernel
theorem dX10_keep_12 : decode cX10_keep 12 = .ok (.getfield 40, 3) := by decide +kernel
theorem dX10_keep_15 : decode cX10_keep 15 = .ok (.iload_n 1, 1) := by decide +kernel
theorem dX10_keep_16 : decode cX10_keep 16 = .ok (.aaload, 1) := by decide +kernel
theorem dX10_keep_17 : decode cX10_keep 17 = .ok (.aload_n 0, 1) := by decide +kernel
theorem dX10_keep_18 : decode cX10_keep 18 = .ok (.getfield 36, 3) := by decide +kernel
theorem dX10_keep_21 : decode cX10_keep 21 = .ok (.invokevirtual 310, 3) := by decide +kernel
theorem dX10_keep_24 : decode cX10_keep 24 = .ok (.aload_n 0, 1) := by decide +kernel
theorem dX10_keep_25 : decode cX10_keep 25 = .ok (.getfield 44, 3) := by decide +kernel
theorem dX10_keep_28 : decode cX10_keep 28 = .ok (.iload_n 1, 1) := by decide +kernel
theorem dX10_keep_29 : decode cX10_keep 29 = .ok (.iconst 1, 1) := by decide +kernel
theorem dX10_keep_30 : decode cX10_keep 30 = .ok (.bastore, 1) := by decide +kernel
theorem dX10_keep_31 : decode cX10_keep 31 = .ok (.aload_n 0, 1) := by decide +kernel
theorem dX10_keep_32 : decode cX10_keep 32 = .ok (.getfield 36, 3) := by decide +kernel
theorem dX10_keep_35 : decode cX10_keep 35 = .ok (.getfield 113, 3) := by decide +kernel
theorem dX10_keep_38 : decode cX10_keep 38 = .ok (.getfield 185, 3) := by decide +kernel
theorem dX10_keep_41 : decode cX10_keep 41 = .ok (.ireturn, 1) := by decide +kernel
set_option maxRecDepth 20000 in
theorem ggX10_back_X1_copyFrom : GoodIn wsX10_back wsX1_copyFrom := goodIn_r _ [11, 12, 13, 14, 15, 16, 17, 18, 19, 20, 21, 22, 23, 24, 25, 26, 27, 28, 29, 30, 31, 46, 47, 48, 49, 50, 51, 52, 53, 54, 55, 56] (by decide +kernel) (by decide +kernel)
set_option maxRecDepth 20000 in
theorem gX10_back_X1_copyFrom : GoodIn wsX10_back (wsV RX10 310 RX1 yX1_copyFrom wsX1_copyFrom) := goodIn_app (goodIn_of _ (by decide +kernel)) ggX10_back_X1_copyFrom
theorem dX10_back_0 : decode cX10_back 0 = .ok (.iload_n 1, 1) := by decide +kernel
theorem dX10_back_1 : decode cX10_back 1 = .ok (.ifCond .lt 8, 3) := by decide +kernel
theorem dX10_back_4 : decode cX10_back 4 = .ok (.iload_n 1, 1) := by decide +kernel
theorem dX10_back_5 : decode cX10_back 5 = .ok (.iconst 2, 1) := by decide +kernel
theorem dX10_back_6 : decode cX10_back 6 = .ok (.if_icmp .lt 5, 3) := by decide +kernel
theorem dX10_back_9 : decode cX10_back 9 = .ok (.iconst (-1), 1) := by decide +kernel
theorem dX10_back_10 : decode cX10_back 10 = .ok (.ireturn, 1) := by decide +kernel
theorem dX10_back_11 : decode cX10_back 11 = .ok (.aload_n 0, 1) := by decide +kernel
theorem dX10_back_12 : decode cX10_back 12 = .ok (.getfield 44, 3) := by decide +kernel
theorem dX10_back_15 : decode cX10_back 15 = .ok (.iload_n 1, 1) := by decide +kernel
theorem dX10_back_16 : decode cX10_back 16 = .ok (.baload, 1) := by decide +kernel
theorem dX10_back_17 : decode cX10_back 17 = .ok (.ifCond .ne 6, 3) := by decide +kernel
theorem dX10_back_20 : decode cX10_back 20 = .ok (.bipush (-2), 2) := by decide +kernel
theorem dX10_back_22 : decode cX10_back 22 = .ok (.ireturn, 1) := by decide +kernel
theorem dX10_back_23 : decode cX10_back 23 = .ok (.aload_n 0, 1) := by decide +kernel
theorem dX10_back_24 : decode cX10_back 24 = .ok (.getfield 36, 3) := by decide +kernel
theorem dX10_back_27 : decode cX10_back 27 = .ok (.aload_n 0, 1) := by decide +kernel
theorem dX10_back_28 : decode cX10_back 28 = .ok (.getfield 40, 3) := by decide +kernel
theorem dX10_back_31 : decode cX10_back 31 = .ok (.iload_n 1, 1) := by decide +kernel
theorem dX10_back_32 : decode cX10_back 32 = .ok (.aaload, 1) := by decide +kernel
theorem dX10_back_33 : decode cX10_back 33 = .ok (.invokevirtual 310, 3) := by decide +kernel
theorem dX10_back_36 : decode cX10_back 36 = .ok (.aload_n 0, 1) := by decide +kernel
theorem dX10_back_37 : decode cX10_back 37 = .ok (.iconst 0, 1) := by decide +kernel
theorem dX10_back_38 : decode cX10_back 38 = .ok (.putfield 105, 3) := by decide +kernel
theorem dX10_back_41 : decode cX10_back 41 = .ok (.aload_n 0, 1) := by decide +kernel
theorem dX10_back_42 : decode cX10_back 42 = .ok (.getfield 36, 3) := by decide +kernel
theorem dX10_back_45 : decode cX10_back 45 = .ok (.getfield 113, 3) := by decide +kernel
theorem dX10_back_48 : decode cX10_back 48 = .ok (.getfield 185, 3) := by decide +kernel
theorem dX10_back_51 : decode cX10_back 51 = .ok (.ireturn, 1) := by decide +kernel
theorem dX10_count_0 : decode cX10_count 0 = .ok (.iload_n 1, 1) := by decide +kernel
theorem dX10_count_1 : decode cX10_count 1 = .ok (.tableswitch 99 0 6 #[43, 51, 59, 67, 75, 83, 91], 43) := by decide +kernel
theorem dX10_count_44 : decode cX10_count 44 = .ok (.aload_n 0, 1) := by decide +kernel
theorem dX10_count_45 : decode cX10_count 45 = .ok (.getfield 26, 3) := by decide +kernel
theorem dX10_count_48 : decode cX10_count 48 = .ok (.getfield 313, 3) := by decide +kernel
theorem dX10_count_51 : decode cX10_count 51 = .ok (.ireturn, 1) := by decide +kernel
theorem dX10_count_52 : decode cX10_count 52 = .ok (.aload_n 0, 1) := by decide +kernel
theorem dX10_count_53 : decode cX10_count 53 = .ok (.getfield 26, 3) := by decide +kernel
theorem dX10_count_56 : decode cX10_count 56 = .ok (.getfield 236, 3) := by decide +kernel
theorem dX10_count_59 : decode cX10_count 59 = .ok (.ireturn, 1) := by decide +kernel
theorem dX10_count_60 : decode cX10_count 60 = .ok (.aload_n 0, 1) := by decide +kernel
theorem dX10_count_61 : decode cX10_count 61 = .ok (.getfield 26, 3) := by decide +kernel
theorem dX10_count_64 : decode cX10_count 64 = .ok (.getfield 177, 3) := by decide +kernel
theorem dX10_count_67 : decode cX10_count 67 = .ok (.ireturn, 1) := by decide +kernel
theorem dX10_count_68 : decode cX10_count 68 = .ok (.aload_n 0, 1) := by decide +kernel
theorem dX10_count_69 : decode cX10_count 69 = .ok (.getfield 26, 3) := by decide +kernel
theorem dX10_count_72 : decode cX10_count 72 = .ok (.getfield 163, 3) := by decide +kernel
theorem dX10_count_75 : decode cX10_count 75 = .ok (.ireturn, 1) := by decide +kernel
theorem dX10_count_76 : decode cX10_count 76 = .ok (.aload_n 0, 1) := by decide +kernel
theorem dX10_count_77 : decode cX10_count 77 = .ok (.getfield 51, 3) := by decide +kernel
theorem dX10_count_80 : decode cX10_count 80 = .ok (.getfield 102, 3) := by decide +kernel
theorem dX10_count_83 : decode cX10_count 83 = .ok (.ireturn, 1) := by decide +kernel
theorem dX10_count_84 : decode cX10_count 84 = .ok (.aload_n 0, 1) := by decide +kernel
theorem dX10_count_85 : decode cX10_count 85 = .ok (.getfield 36, 3) := by decide +kernel
theorem dX10_count_88 : decode cX10_count 88 = .ok (.getfield 205, 3) := by decide +kernel
theorem dX10_count_91 : decode cX10_count 91 = .ok (.ireturn, 1) := by decide +kernel
theorem dX10_count_92 : decode cX10_count 92 = .ok (.aload_n 0, 1) := by decide +kernel
theorem dX10_count_93 : decode cX10_count 93 = .ok (.getfield 10, 3) := by decide +kernel
theorem dX10_count_96 : decode cX10_count 96 = .ok (.getfield 83, 3) := by decide +kernel
theorem dX10_count_99 : decode cX10_count 99 = .ok (.ireturn, 1) := by decide +kernel
theorem dX10_count_100 : decode cX10_count 100 = .ok (.iconst (-1), 1) := by decide +kernel
theorem dX10_count_101 : decode cX10_count 101 = .ok (.ireturn, 1) := by decide +kernel
theorem dX10_trace_0 : decode cX10_trace 0 = .ok (.aload_n 0, 1) := by decide +kernel
theorem dX10_trace_1 : decode cX10_trace 1 = .ok (.getfield 296, 3) := by decide +kernel
theorem dX10_trace_4 : decode cX10_trace 4 = .ok (.lreturn, 1) := by decide +kernel
set_option maxRecDepth 20000 in
theorem ggX11_init_X11_reads : GoodIn wsX11_init wsX11_reads := goodIn_r _ [22, 7, 23, 24, 25, 26, 27, 21, 28, 29, 30, 5, 31, 32, 33, 34, 35, 36, 37, 38, 39, 40, 41, 42, 43, 44, 45, 46, 47, 48, 49, 50, 51, 52, 53, 54, 55, 56, 62, 63, 64, 65, 66, 67, 68, 69, 70, 71, 72, 73, 74, 75, 76, 77, 78, 79, 80, 81, 82, 83] (by decide +kernel) (by decide +kernel)
set_option maxRecDepth 20000 in
theorem gX11_init_X11_reads : GoodIn wsX11_init (wsV RX11 47 RX11 yX11_reads wsX11_reads) := goodIn_app (goodIn_of _ (by decide +kernel)) ggX11_init_X11_reads
set_option maxRecDepth 20000 in
theorem ggX11_init_X11_begins : GoodIn wsX11_init wsX11_begins := goodIn_r _ [60, 6, 7, 8, 61, 11, 39, 40, 21, 41, 62, 63, 64, 65, 66, 67, 68, 69, 70, 71, 72, 73, 74, 75, 76, 77, 78, 79, 80, 81, 82, 83] (by decide +kernel) (by decide +kernel)
set_option maxRecDepth 20000 in
theorem gX11_init_X11_begins : GoodIn wsX11_init (wsV RX11 51 RX11 yX11_begins wsX11_begins) := goodIn_app (goodIn_of _ (by decide +kernel)) ggX11_init_X11_begins
theorem dX11_init_0 : decode cX11_init 0 = .ok (.aload_n 0, 1) := by decide +kernel
theorem dX11_init_1 : decode cX11_init 1 = .ok (.invokespecial 1, 3) := by decide +kernel
theorem dX11_init_4 : decode cX11_init 4 = .ok (.aload_n 0, 1) := by decide +kernel
theorem dX11_init_5 : decode cX11_init 5 = .ok (.sipush 180, 3) := by decide +kernel
theorem dX11_init_8 : decode cX11_init 8 = .ok (.newarray .int, 2) := by decide +kernel
theorem dX11_init_10 : decode cX11_init 10 = .ok (.putfield 7, 3) := by decide +kernel
theorem dX11_init_13 : decode cX11_init 13 = .ok (.aload_n 0, 1) := by decide +kernel
theorem dX11_init_14 : decode cX11_init 14 = .ok (.bipush 52, 2) := by decide +kernel
theorem dX11_init_16 : decode cX11_init 16 = .ok (.newarray .int, 2) := by decide +kernel
theorem dX11_init_18 : decode cX11_init 18 = .ok (.putfield 13, 3) := by decide +kernel
theorem dX11_init_21 : decode cX11_init 21 = .ok (.aload_n 0, 1) := by decide +kernel
theorem dX11_init_22 : decode cX11_init 22 = .ok (.bipush 52, 2) := by decide +kernel
end
section
theorem dX11_init_24 : decode cX11_init 24 = .ok (.newarray .int, 2) := by decide +kernel
theorem dX11_init_26 : decode cX11_init 26 = .ok (.putfield 16, 3) := by decide +kernel
theorem dX11_init_29 : decode cX11_init 29 = .ok (.aload_n 0, 1) := by decide +kernel
theorem dX11_init_30 : decode cX11_init 30 = .ok (.sipush 254, 3) := by decide +kernel
theorem dX11_init_33 : decode cX11_init 33 = .ok (.newarray .int, 2) := by decide +kernel
theorem dX11_init_35 : decode cX11_init 35 = .ok (.putfield 19, 3) := by decide +kernel
theorem dX11_init_38 : decode cX11_init 38 = .ok (.aload_n 0, 1) := by decide +kernel
theorem dX11_init_39 : decode cX11_init 39 = .ok (.sipush 508, 3) := by decide +kernel
theorem dX11_init_42 : decode cX11_init 42 = .ok (.newarray .int, 2) := by decide +kernel
theorem dX11_init_44 : decode cX11_init 44 = .ok (.putfield 22, 3) := by decide +kernel
theorem dX11_init_47 : decode cX11_init 47 = .ok (.aload_n 0, 1) := by decide +kernel
theorem dX11_init_48 : decode cX11_init 48 = .ok (.iconst 2, 1) := by decide +kernel
theorem dX11_init_49 : decode cX11_init 49 = .ok (.newarray .boolean, 2) := by decide +kernel
theorem dX11_init_51 : decode cX11_init 51 = .ok (.putfield 25, 3) := by decide +kernel
theorem dX11_init_54 : decode cX11_init 54 = .ok (.aload_n 0, 1) := by decide +kernel
theorem dX11_init_55 : decode cX11_init 55 = .ok (.bipush 6, 2) := by decide +kernel
theorem dX11_init_57 : decode cX11_init 57 = .ok (.newarray .int, 2) := by decide +kernel
theorem dX11_init_59 : decode cX11_init 59 = .ok (.putfield 29, 3) := by decide +kernel
theorem dX11_init_62 : decode cX11_init 62 = .ok (.aload_n 0, 1) := by decide +kernel
theorem dX11_init_63 : decode cX11_init 63 = .ok (.bipush 6, 2) := by decide +kernel
theorem dX11_init_65 : decode cX11_init 65 = .ok (.newarray .int, 2) := by decide +kernel
theorem dX11_init_67 : decode cX11_init 67 = .ok (.putfield 32, 3) := by decide +kernel
theorem dX11_init_70 : decode cX11_init 70 = .ok (.aload_n 0, 1) := by decide +kernel
theorem dX11_init_71 : decode cX11_init 71 = .ok (.bipush 8, 2) := by decide +kernel
theorem dX11_init_73 : decode cX11_init 73 = .ok (.newarray .int, 2) := by decide +kernel
theorem dX11_init_75 : decode cX11_init 75 = .ok (.putfield 35, 3) := by decide +kernel
theorem dX11_init_78 : decode cX11_init 78 = .ok (.aload_n 0, 1) := by decide +kernel
theorem dX11_init_79 : decode cX11_init 79 = .ok (.bipush 8, 2) := by decide +kernel
theorem dX11_init_81 : decode cX11_init 81 = .ok (.newarray .int, 2) := by decide +kernel
theorem dX11_init_83 : decode cX11_init 83 = .ok (.putfield 38, 3) := by decide +kernel
theorem dX11_init_86 : decode cX11_init 86 = .ok (.aload_n 0, 1) := by decide +kernel
theorem dX11_init_87 : decode cX11_init 87 = .ok (.bipush 6, 2) := by decide +kernel
theorem dX11_init_89 : decode cX11_init 89 = .ok (.newarray .int, 2) := by decide +kernel
theorem dX11_init_91 : decode cX11_init 91 = .ok (.putfield 41, 3) := by decide +kernel
theorem dX11_init_94 : decode cX11_init 94 = .ok (.aload_n 0, 1) := by decide +kernel
theorem dX11_init_95 : decode cX11_init 95 = .ok (.sipush 256, 3) := by decide +kernel
theorem dX11_init_98 : decode cX11_init 98 = .ok (.newarray .int, 2) := by decide +kernel
theorem dX11_init_100 : decode cX11_init 100 = .ok (.putfield 44, 3) := by decide +kernel
theorem dX11_init_103 : decode cX11_init 103 = .ok (.aload_n 0, 1) := by decide +kernel
theorem dX11_init_104 : decode cX11_init 104 = .ok (.invokevirtual 47, 3) := by decide +kernel
theorem dX11_init_107 : decode cX11_init 107 = .ok (.pop, 1) := by decide +kernel
theorem dX11_init_108 : decode cX11_init 108 = .ok (.aload_n 0, 1) := by decide +kernel
theorem dX11_init_109 : decode cX11_init 109 = .ok (.invokevirtual 51, 3) := by decide +kernel
theorem dX11_init_112 : decode cX11_init 112 = .ok (.return_, 1) := by decide +kernel
theorem dX11_in_0 : decode cX11_in 0 = .ok (.iload_n 0, 1) := by decide +kernel
theorem dX11_in_1 : decode cX11_in 1 = .ok (.iload_n 1, 1) := by decide +kernel
theorem dX11_in_2 : decode cX11_in 2 = .ok (.if_icmp .lt 12, 3) := by decide +kernel
theorem dX11_in_5 : decode cX11_in 5 = .ok (.iload_n 0, 1) := by decide +kernel
theorem dX11_in_6 : decode cX11_in 6 = .ok (.iload_n 2, 1) := by decide +kernel
theorem dX11_in_7 : decode cX11_in 7 = .ok (.if_icmp .gt 7, 3) := by decide +kernel
theorem dX11_in_10 : decode cX11_in 10 = .ok (.iconst 1, 1) := by decide +kernel
theorem dX11_in_11 : decode cX11_in 11 = .ok (.goto 4, 3) := by decide +kernel
theorem dX11_in_14 : decode cX11_in 14 = .ok (.iconst 0, 1) := by decide +kernel
theorem dX11_in_15 : decode cX11_in 15 = .ok (.ireturn, 1) := by decide +kernel
theorem dX11_has_0 : decode cX11_has 0 = .ok (.iload_n 0, 1) := by decide +kernel
theorem dX11_has_1 : decode cX11_has 1 = .ok (.iload_n 1, 1) := by decide +kernel
theorem dX11_has_2 : decode cX11_has 2 = .ok (.ishr, 1) := by decide +kernel
theorem dX11_has_3 : decode cX11_has 3 = .ok (.iconst 1, 1) := by decide +kernel
theorem dX11_has_4 : decode cX11_has 4 = .ok (.iand, 1) := by decide +kernel
theorem dX11_has_5 : decode cX11_has 5 = .ok (.iconst 1, 1) := by decide +kernel
theorem dX11_has_6 : decode cX11_has 6 = .ok (.if_icmp .ne 7, 3) := by decide +kernel
theorem dX11_has_9 : decode cX11_has 9 = .ok (.iconst 1, 1) := by decide +kernel
theorem dX11_has_10 : decode cX11_has 10 = .ok (.goto 4, 3) := by decide +kernel
theorem dX11_has_13 : decode cX11_has 13 = .ok (.iconst 0, 1) := by decide +kernel
theorem dX11_has_14 : decode cX11_has 14 = .ok (.ireturn, 1) := by decide +kernel
theorem dX11_far_0 : decode cX11_far 0 = .ok (.iload_n 0, 1) := by decide +kernel
theorem dX11_far_1 : decode cX11_far 1 = .ok (.iload_n 1, 1) := by decide +kernel
theorem dX11_far_2 : decode cX11_far 2 = .ok (.if_icmp .le 9, 3) := by decide +kernel
theorem dX11_far_5 : decode cX11_far 5 = .ok (.iload_n 0, 1) := by decide +kernel
theorem dX11_far_6 : decode cX11_far 6 = .ok (.iload_n 1, 1) := by decide +kernel
theorem dX11_far_7 : decode cX11_far 7 = .ok (.isub, 1) := by decide +kernel
theorem dX11_far_8 : decode cX11_far 8 = .ok (.goto 6, 3) := by decide +kernel
theorem dX11_far_11 : decode cX11_far 11 = .ok (.iload_n 1, 1) := by decide +kernel
theorem dX11_far_12 : decode cX11_far 12 = .ok (.iload_n 0, 1) := by decide +kernel
theorem dX11_far_13 : decode cX11_far 13 = .ok (.isub, 1) := by decide +kernel
theorem dX11_far_14 : decode cX11_far 14 = .ok (.ireturn, 1) := by decide +kernel
set_option maxRecDepth 20000 in
theorem ggX11_isOne_X11_in : GoodIn wsX11_isOne wsX11_in := goodIn_r _ [5] (by decide +kernel) (by decide +kernel)
set_option maxRecDepth 20000 in
theorem gX11_isOne_X11_in : GoodIn wsX11_isOne (va_wsS RX11 54 yX11_in wsX11_in) := goodIn_app (goodIn_of _ (by decide +kernel)) ggX11_isOne_X11_in
theorem dX11_isOne_0 : decode cX11_isOne 0 = .ok (.iload_n 1, 1) := by decide +kernel
theorem dX11_isOne_1 : decode cX11_isOne 1 = .ok (.iconst 0, 1) := by decide +kernel
theorem dX11_isOne_2 : decode cX11_isOne 2 = .ok (.aload_n 0, 1) := by decide +kernel
theorem dX11_isOne_3 : decode cX11_isOne 3 = .ok (.getfield 13, 3) := by decide +kernel
theorem dX11_isOne_6 : decode cX11_isOne 6 = .ok (.iconst 0, 1) := by decide +kernel
theorem dX11_isOne_7 : decode cX11_isOne 7 = .ok (.iaload, 1) := by decide +kernel
theorem dX11_isOne_8 : decode cX11_isOne 8 = .ok (.iconst 1, 1) := by decide +kernel
theorem dX11_isOne_9 : decode cX11_isOne 9 = .ok (.isub, 1) := by decide +kernel
theorem dX11_isOne_10 : decode cX11_isOne 10 = .ok (.invokestatic 54, 3) := by decide +kernel
theorem dX11_isOne_13 : decode cX11_isOne 13 = .ok (.ireturn, 1) := by decide +kernel
set_option maxRecDepth 20000 in
theorem ggX11_isDeed_X11_in : GoodIn wsX11_isDeed wsX11_in := goodIn_r _ [5] (by decide +kernel) (by decide +kernel)
set_option maxRecDepth 20000 in
theorem gX11_isDeed_X11_in : GoodIn wsX11_isDeed (va_wsS RX11 54 yX11_in wsX11_in) := goodIn_app (goodIn_of _ (by decide +kernel)) ggX11_isDeed_X11_in
theorem dX11_isDeed_0 : decode cX11_isDeed 0 = .ok (.iload_n 1, 1) := by decide +kernel
theorem dX11_isDeed_1 : decode cX11_isDeed 1 = .ok (.iconst 0, 1) := by decide +kernel
theorem dX11_isDeed_2 : decode cX11_isDeed 2 = .ok (.aload_n 0, 1) := by decide +kernel
theorem dX11_isDeed_3 : decode cX11_isDeed 3 = .ok (.getfield 13, 3) := by decide +kernel
theorem dX11_isDeed_6 : decode cX11_isDeed 6 = .ok (.iconst 1, 1) := by decide +kernel
theorem dX11_isDeed_7 : decode cX11_isDeed 7 = .ok (.iaload, 1) := by decide +kernel
theorem dX11_isDeed_8 : decode cX11_isDeed 8 = .ok (.iconst 1, 1) := by decide +kernel
theorem dX11_isDeed_9 : decode cX11_isDeed 9 = .ok (.isub, 1) := by decide +kernel
theorem dX11_isDeed_10 : decode cX11_isDeed 10 = .ok (.invokestatic 54, 3) := by decide +kernel
theorem dX11_isDeed_13 : decode cX11_isDeed 13 = .ok (.ireturn, 1) := by decide +kernel
set_option maxRecDepth 20000 in
theorem ggX11_type_X11_in : GoodIn wsX11_type wsX11_in := goodIn_r _ [6] (by decide +kernel) (by decide +kernel)
set_option maxRecDepth 20000 in
theorem gX11_type_X11_in : GoodIn wsX11_type (va_wsS RX11 54 yX11_in wsX11_in) := goodIn_app (goodIn_of _ (by decide +kernel)) ggX11_type_X11_in
theorem dX11_type_0 : decode cX11_type 0 = .ok (.iload_n 1, 1) := by decide +kernel
theorem dX11_type_1 : decode cX11_type 1 = .ok (.iconst 0, 1) := by decide +kernel
theorem dX11_type_2 : decode cX11_type 2 = .ok (.sipush 255, 3) := by decide +kernel
theorem dX11_type_5 : decode cX11_type 5 = .ok (.invokestatic 54, 3) := by decide +kernel
theorem dX11_type_8 : decode cX11_type 8 = .ok (.ifCond .ne 5, 3) := by decide +kernel
theorem dX11_type_11 : decode cX11_type 11 = .ok (.iconst (-1), 1) := by decide +kernel
theorem dX11_type_12 : decode cX11_type 12 = .ok (.ireturn, 1) := by decide +kernel
theorem dX11_type_13 : decode cX11_type 13 = .ok (.aload_n 0, 1) := by decide +kernel
theorem dX11_type_14 : decode cX11_type 14 = .ok (.getfield 58, 3) := by decide +kernel
theorem dX11_type_17 : decode cX11_type 17 = .ok (.sipush 180, 3) := by decide +kernel
theorem dX11_type_20 : decode cX11_type 20 = .ok (.if_icmp .ne 6, 3) := by decide +kernel
theorem dX11_type_23 : decode cX11_type 23 = .ok (.bipush (-3), 2) := by decide +kernel
theorem dX11_type_25 : decode cX11_type 25 = .ok (.ireturn, 1) := by decide +kernel
theorem dX11_type_26 : decode cX11_type 26 = .ok (.aload_n 0, 1) := by decide +kernel
theorem dX11_type_27 : decode cX11_type 27 = .ok (.getfield 7, 3) := by decide +kernel
theorem dX11_type_30 : decode cX11_type 30 = .ok (.aload_n 0, 1) := by decide +kernel
theorem dX11_type_31 : decode cX11_type 31 = .ok (.getfield 58, 3) := by decide +kernel
theorem dX11_type_34 : decode cX11_type 34 = .ok (.iload_n 1, 1) := by decide +kernel
theorem dX11_type_35 : decode cX11_type 35 = .ok (.iastore, 1) := by decide +kernel
theorem dX11_type_36 : decode cX11_type 36 = .ok (.aload_n 0, 1) := by decide +kernel
theorem dX11_type_37 : decode cX11_type 37 = .ok (.dup, 1) := by decide +kernel
theorem dX11_type_38 : decode cX11_type 38 = .ok (.getfield 58, 3) := by decide +kernel
theorem dX11_type_41 : decode cX11_type 41 = .ok (.iconst 1, 1) := by decide +kernel
theorem dX11_type_42 : decode cX11_type 42 = .ok (.iadd, 1) := by decide +kernel
theorem dX11_type_43 : decode cX11_type 43 = .ok (.putfield 58, 3) := by decide +kernel
theorem dX11_type_46 : decode cX11_type 46 = .ok (.aload_n 0, 1) := by decide +kernel
theorem dX11_type_47 : decode cX11_type 47 = .ok (.getfield 58, 3) := by decide +kernel
theorem dX11_type_50 : decode cX11_type 50 = .ok (.ireturn, 1) := by decide +kernel
theorem dX11_clear_0 : decode cX11_clear 0 = .ok (.aload_n 0, 1) := by decide +kernel
theorem dX11_clear_1 : decode cX11_clear 1 = .ok (.getfield 58, 3) := by decide +kernel
theorem dX11_clear_4 : decode cX11_clear 4 = .ok (.istore_n 1, 1) := by decide +kernel
theorem dX11_clear_5 : decode cX11_clear 5 = .ok (.aload_n 0, 1) := by decide +kernel
theorem dX11_clear_6 : decode cX11_clear 6 = .ok (.iconst 0, 1) := by decide +kernel
theorem dX11_clear_7 : decode cX11_clear 7 = .ok (.putfield 58, 3) := by decide +kernel
theorem dX11_clear_10 : decode cX11_clear 10 = .ok (.iload_n 1, 1) := by decide +kernel
theorem dX11_clear_11 : decode cX11_clear 11 = .ok (.ireturn, 1) := by decide +kernel
theorem dX11_letterAt_0 : decode cX11_letterAt 0 = .ok (.iload_n 1, 1) := by decide +kernel
theorem dX11_letterAt_1 : decode cX11_letterAt 1 = .ok (.aload_n 0, 1) := by decide +kernel
theorem dX11_letterAt_2 : decode cX11_letterAt 2 = .ok (.getfield 58, 3) := by decide +kernel
theorem dX11_letterAt_5 : decode cX11_letterAt 5 = .ok (.if_icmp .ge 12, 3) := by decide +kernel
theorem dX11_letterAt_8 : decode cX11_letterAt 8 = .ok (.aload_n 0, 1) := by decide +kernel
theorem dX11_letterAt_9 : decode cX11_letterAt 9 = .ok (.getfield 7, 3) := by decide +kernel
theorem dX11_letterAt_12 : decode cX11_letterAt 12 = .ok (.iload_n 1, 1) := by decide +kernel
theorem dX11_letterAt_13 : decode cX11_letterAt 13 = .ok (.iaload, 1) := by decide +kernel
theorem dX11_letterAt_14 : decode cX11_letterAt 14 = .ok (.goto 4, 3) := by decide +kernel
theorem dX11_letterAt_17 : decode cX11_letterAt 17 = .ok (.iconst (-1), 1) := by decide +kernel
theorem dX11_letterAt_18 : decode cX11_letterAt 18 = .ok (.ireturn, 1) := by decide +kernel
set_option maxRecDepth 20000 in
theorem ggX11_isLetter_X11_in : GoodIn wsX11_isLetter wsX11_in := goodIn_r _ [4] (by decide +kernel) (by decide +kernel)
set_option maxRecDepth 20000 in
theorem gX11_isLetter_X11_in : GoodIn wsX11_isLetter (va_wsS RX11 54 yX11_in wsX11_in) := goodIn_app (goodIn_of _ (by decide +kernel)) ggX11_isLetter_X11_in
theorem dX11_isLetter_0 : decode cX11_isLetter 0 = .ok (.iload_n 0, 1) := by decide +kernel
theorem dX11_isLetter_1 : decode cX11_isLetter 1 = .ok (.bipush 97, 2) := by decide +kernel
theorem dX11_isLetter_3 : decode cX11_isLetter 3 = .ok (.bipush 122, 2) := by decide +kernel
theorem dX11_isLetter_5 : decode cX11_isLetter 5 = .ok (.invokestatic 54, 3) := by decide +kernel
theorem dX11_isLetter_8 : decode cX11_isLetter 8 = .ok (.ireturn, 1) := by decide +kernel
set_option maxRecDepth 20000 in
theorem ggX11_isDigit_X11_in : GoodIn wsX11_isDigit wsX11_in := goodIn_r _ [4] (by decide +kernel) (by decide +kernel)
set_option maxRecDepth 20000 in
theorem gX11_isDigit_X11_in : GoodIn wsX11_isDigit (va_wsS RX11 54 yX11_in wsX11_in) := goodIn_app (goodIn_of _ (by decide +kernel)) ggX11_isDigit_X11_in
theorem dX11_isDigit_0 : decode cX11_isDigit 0 = .ok (.iload_n 0, 1) := by decide +kernel
theorem dX11_isDigit_1 : decode cX11_isDigit 1 = .ok (.bipush 48, 2) := by decide +kernel
theorem dX11_isDigit_3 : decode cX11_isDigit 3 = .ok (.bipush 57, 2) := by decide +kernel
theorem dX11_isDigit_5 : decode cX11_isDigit 5 = .ok (.invokestatic 54, 3) := by decide +kernel
theorem dX11_isDigit_8 : decode cX11_isDigit 8 = .ok (.ireturn, 1) := by decide +kernel
set_option maxRecDepth 20000 in
theorem ggX11_token_X11_letterAt : GoodIn wsX11_token wsX11_letterAt := goodIn_r _ [10, 11, 5, 21, 22, 23, 24, 25, 26, 27, 28, 29, 30, 31, 32, 33, 34, 35, 36, 37, 38, 39, 40, 41, 42] (by decide +kernel) (by decide +kernel)
set_option maxRecDepth 20000 in
theorem gX11_token_X11_letterAt : GoodIn wsX11_token (wsV RX11 65 RX11 yX11_letterAt wsX11_letterAt) := goodIn_app (goodIn_of _ (by decide +kernel)) ggX11_token_X11_letterAt
set_option maxRecDepth 20000 in
theorem ggX11_token_X11_isLetter : GoodIn wsX11_token wsX11_isLetter := goodIn_r _ [14, 15, 16, 9, 17] (by decide +kernel) (by decide +kernel)
set_option maxRecDepth 20000 in
theorem gX11_token_X11_isLetter : GoodIn wsX11_token (va_wsS RX11 72 yX11_isLetter wsX11_isLetter) := goodIn_app (goodIn_of _ (by decide +kernel)) ggX11_token_X11_isLetter
set_option maxRecDepth 20000 in
theorem ggX11_token_X11_isDigit : GoodIn wsX11_token wsX11_isDigit := goodIn_r _ [20, 15, 16, 9, 17] (by decide +kernel) (by decide +kernel)
set_option maxRecDepth 20000 in
theorem gX11_token_X11_isDigit : GoodIn wsX11_token (va_wsS RX11 76 yX11_isDigit wsX11_isDigit) := goodIn_app (goodIn_of _ (by decide +kernel)) ggX11_token_X11_isDigit
theorem dX11_token_0 : decode cX11_token 0 = .ok (.aload_n 0, 1) := by decide +kernel
theorem dX11_token_1 : decode cX11_token 1 = .ok (.aload_n 0, 1) := by decide +kernel
theorem dX11_token_2 : decode cX11_token 2 = .ok (.getfield 62, 3) := by decide +kernel
theorem dX11_token_5 : decode cX11_token 5 = .ok (.invokevirtual 65, 3) := by decide +kernel
theorem dX11_token_8 : decode cX11_token 8 = .ok (.bipush 32, 2) := by decide +kernel
theorem dX11_token_10 : decode cX11_token 10 = .ok (.if_icmp .ne 16, 3) := by decide +kernel
theorem dX11_token_13 : decode cX11_token 13 = .ok (.aload_n 0, 1) := by decide +kernel
theorem dX11_token_14 : decode cX11_token 14 = .ok (.dup, 1) := by decide +kernel
theorem dX11_token_15 : decode cX11_token 15 = .ok (.getfield 62, 3) := by decide +kernel
theorem dX11_token_18 : decode cX11_token 18 = .ok (.iconst 1, 1) := by decide +kernel
theorem dX11_token_19 : decode cX11_token 19 = .ok (.iadd, 1) := by decide +kernel
theorem dX11_token_20 : decode cX11_token 20 = .ok (.putfield 62, 3) := by decide +kernel
theorem dX11_token_23 : decode cX11_token 23 = .ok (.goto (-23), 3) := by decide +kernel
theorem dX11_token_26 : decode cX11_token 26 = .ok (.aload_n 0, 1) := by decide +kernel
theorem dX11_token_27 : decode cX11_token 27 = .ok (.aload_n 0, 1) := by decide +kernel
theorem dX11_token_28 : decode cX11_token 28 = .ok (.getfield 62, 3) := by decide +kernel
theorem dX11_token_31 : decode cX11_token 31 = .ok (.putfield 69, 3) := by decide +kernel
theorem dX11_token_34 : decode cX11_token 34 = .ok (.aload_n 0, 1) := by decide +kernel
theorem dX11_token_35 : decode cX11_token 35 = .ok (.aload_n 0, 1) := by decide +kernel
theorem dX11_token_36 : decode cX11_token 36 = .ok (.getfield 62, 3) := by decide +kernel
theorem dX11_token_39 : decode cX11_token 39 = .ok (.invokevirtual 65, 3) := by decide +kernel
theorem dX11_token_42 : decode cX11_token 42 = .ok (.istore_n 1, 1) := by decide +kernel
theorem dX11_token_43 : decode cX11_token 43 = .ok (.aload_n 0, 1) := by decide +kernel
theorem dX11_token_44 : decode cX11_token 44 = .ok (.iload_n 1, 1) := by decide +kernel
theorem dX11_token_45 : decode cX11_token 45 = .ok (.ifCond .ge 7, 3) := by decide +kernel
theorem dX11_token_48 : decode cX11_token 48 = .ok (.iconst 0, 1) := by decide +kernel
theorem dX11_token_49 : decode cX11_token 49 = .ok (.goto 36, 3) := by decide +kernel
theorem dX11_token_52 : decode cX11_token 52 = .ok (.iload_n 1, 1) := by decide +kernel
theorem dX11_token_53 : decode cX11_token 53 = .ok (.invokestatic 72, 3) := by decide +kernel
theorem dX11_token_56 : decode cX11_token 56 = .ok (.ifCond .eq 7, 3) := by decide +kernel
theorem dX11_token_59 : decode cX11_token 59 = .ok (.iconst 1, 1) := by decide +kernel
theorem dX11_token_60 : decode cX11_token 60 = .ok (.goto 25, 3) := by decide +kernel
theorem dX11_token_63 : decode cX11_token 63 = .ok (.iload_n 1, 1) := by decide +kernel
theorem dX11_token_64 : decode cX11_token 64 = .ok (.invokestatic 76, 3) := by decide +kernel
theorem dX11_token_67 : decode cX11_token 67 = .ok (.ifCond .eq 7, 3) := by decide +kernel
theorem dX11_token_70 : decode cX11_token 70 = .ok (.iconst 2, 1) := by decide +kernel
theorem dX11_token_71 : decode cX11_token 71 = .ok (.goto 14, 3) := by decide +kernel
theorem dX11_token_74 : decode cX11_token 74 = .ok (.iload_n 1, 1) := by decide +kernel
theorem dX11_token_75 : decode cX11_token 75 = .ok (.bipush 59, 2) := by decide +kernel
theorem dX11_token_77 : decode cX11_token 77 = .ok (.if_icmp .ne 7, 3) := by decide +kernel
theorem dX11_token_80 : decode cX11_token 80 = .ok (.iconst 3, 1) := by decide +kernel
theorem dX11_token_81 : decode cX11_token 81 = .ok (.goto 4, 3) := by decide +kernel
theorem dX11_token_84 : decode cX11_token 84 = .ok (.iconst 4, 1) := by decide +kernel
theorem dX11_token_85 : decode cX11_token 85 = .ok (.putfield 79, 3) := by decide +kernel
theorem dX11_token_88 : decode cX11_token 88 = .ok (.aload_n 0, 1) := by decide +kernel
theorem dX11_token_89 : decode cX11_token 89 = .ok (.iload_n 1, 1) := by decide +kernel
theorem dX11_token_90 : decode cX11_token 90 = .ok (.putfield 82, 3) := by decide +kernel
theorem dX11_token_93 : decode cX11_token 93 = .ok (.aload_n 0, 1) := by decide +kernel
theorem dX11_token_94 : decode cX11_token 94 = .ok (.dup, 1) := by decide +kernel
theorem dX11_token_95 : decode cX11_token 95 = .ok (.getfield 62, 3) := by decide +kernel
theorem dX11_token_98 : decode cX11_token 98 = .ok (.aload_n 0, 1) := by decide +kernel
theorem dX11_token_99 : decode cX11_token 99 = .ok (.getfield 79, 3) := by decide +kernel
theorem dX11_token_102 : decode cX11_token 102 = .ok (.ifCond .ne 7, 3) := by decide +kernel
theorem dX11_token_105 : decode cX11_token 105 = .ok (.iconst 0, 1) := by decide +kernel
theorem dX11_token_106 : decode cX11_token 106 = .ok (.goto 4, 3) := by decide +kernel
theorem dX11_token_109 : decode cX11_token 109 = .ok (.iconst 1, 1) := by decide +kernel
theorem dX11_token_110 : decode cX11_token 110 = .ok (.iadd, 1) := by decide +kernel
theorem dX11_token_111 : decode cX11_token 111 = .ok (.putfield 62, 3) := by decide +kernel
theorem dX11_token_114 : decode cX11_token 114 = .ok (.aload_n 0, 1) := by decide +kernel
theorem dX11_token_115 : decode cX11_token 115 = .ok (.getfield 79, 3) := by decide +kernel
theorem dX11_token_118 : decode cX11_token 118 = .ok (.iconst 1, 1) := by decide +kernel
theorem dX11_token_119 : decode cX11_token 119 = .ok (.if_icmp .ne 35, 3) := by decide +kernel
theorem dX11_token_122 : decode cX11_token 122 = .ok (.aload_n 0, 1) := by decide +kernel
theorem dX11_token_123 : decode cX11_token 123 = .ok (.aload_n 0, 1) := by decide +kernel
theorem dX11_token_124 : decode cX11_token 124 = .ok (.getfield 62, 3) := by decide +kernel
theorem dX11_token_127 : decode cX11_token 127 = .ok (.invokevirtual 65, 3) := by decide +kernel
theorem dX11_token_130 : decode cX11_token 130 = .ok (.invokestatic 72, 3) := by decide +kernel
theorem dX11_token_133 : decode cX11_token 133 = .ok (.ifCond .eq 21, 3) := by decide +kernel
theorem dX11_token_136 : decode cX11_token 136 = .ok (.aload_n 0, 1) := by decide +kernel
theorem dX11_token_137 : decode cX11_token 137 = .ok (.iconst 0, 1) := by decide +kernel
theorem dX11_token_138 : decode cX11_token 138 = .ok (.putfield 82, 3) := by decide +kernel
theorem dX11_token_141 : decode cX11_token 141 = .ok (.aload_n 0, 1) := by decide +kernel
theorem dX11_token_142 : decode cX11_token 142 = .ok (.dup, 1) := by decide +kernel
theorem dX11_token_143 : decode cX11_token 143 = .ok (.getfield 62, 3) := by decide +kernel
theorem dX11_token_146 : decode cX11_token 146 = .ok (.iconst 1, 1) := by decide +kernel
theorem dX11_token_147 : decode cX11_token 147 = .ok (.iadd, 1) := by decide +kernel
theorem dX11_token_148 : decode cX11_token 148 = .ok (.putfield 62, 3) := by decide +kernel
theorem dX11_token_151 : decode cX11_token 151 = .ok (.goto (-37), 3) := by decide +kernel
theorem dX11_token_154 : decode cX11_token 154 = .ok (.aload_n 0, 1) := by decide +kernel
theorem dX11_token_155 : decode cX11_token 155 = .ok (.getfield 79, 3) := by decide +kernel
theorem dX11_token_158 : decode cX11_token 158 = .ok (.iconst 2, 1) := by decide +kernel
theorem dX11_token_159 : decode cX11_token 159 = .ok (.if_icmp .ne 83, 3) := by decide +kernel
theorem dX11_token_162 : decode cX11_token 162 = .ok (.aload_n 0, 1) := by decide +kernel
theorem dX11_token_163 : decode cX11_token 163 = .ok (.iload_n 1, 1) := by decide +kernel
theorem dX11_token_164 : decode cX11_token 164 = .ok (.bipush 48, 2) := by decide +kernel
theorem dX11_token_166 : decode cX11_token 166 = .ok (.isub, 1) := by decide +kernel
theorem dX11_token_167 : decode cX11_token 167 = .ok (.putfield 82, 3) := by decide +kernel
theorem dX11_token_170 : decode cX11_token 170 = .ok (.aload_n 0, 1) := by decide +kernel
theorem dX11_token_171 : decode cX11_token 171 = .ok (.aload_n 0, 1) := by decide +kernel
theorem dX11_token_172 : decode cX11_token 172 = .ok (.getfield 62, 3) := by decide +kernel
theorem dX11_token_175 : decode cX11_token 175 = .ok (.invokevirtual 65, 3) := by decide +kernel
theorem dX11_token_178 : decode cX11_token 178 = .ok (.invokestatic 76, 3) := by decide +kernel
theorem dX11_token_181 : decode cX11_token 181 = .ok (.ifCond .eq 61, 3) := by decide +kernel
theorem dX11_token_184 : decode cX11_token 184 = .ok (.aload_n 0, 1) := by decide +kernel
theorem dX11_token_185 : decode cX11_token 185 = .ok (.iload_n 1, 1) := by decide +kernel
theorem dX11_token_186 : decode cX11_token 186 = .ok (.bipush 48, 2) := by decide +kernel
theorem dX11_token_188 : decode cX11_token 188 = .ok (.if_icmp .eq 12, 3) := by decide +kernel
theorem dX11_token_191 : decode cX11_token 191 = .ok (.aload_n 0, 1) := by decide +kernel
theorem dX11_token_192 : decode cX11_token 192 = .ok (.getfield 82, 3) := by decide +kernel
theorem dX11_token_195 : decode cX11_token 195 = .ok (.bipush 99, 2) := by decide +kernel
theorem dX11_token_197 : decode cX11_token 197 = .ok (.if_icmp .le 9, 3) := by decide +kernel
theorem dX11_token_200 : decode cX11_token 200 = .ok (.sipush 1000, 3) := by decide +kernel
theorem dX11_token_203 : decode cX11_token 203 = .ok (.goto 23, 3) := by decide +kernel
theorem dX11_token_206 : decode cX11_token 206 = .ok (.bipush 10, 2) := by decide +kernel
theorem dX11_token_208 : decode cX11_token 208 = .ok (.aload_n 0, 1) := by decide +kernel
theorem dX11_token_209 : decode cX11_token 209 = .ok (.getfield 82, 3) := by decide +kernel
theorem dX11_token_212 : decode cX11_token 212 = .ok (.imul, 1) := by decide +kernel
theorem dX11_token_213 : decode cX11_token 213 = .ok (.aload_n 0, 1) := by decide +kernel
theorem dX11_token_214 : decode cX11_token 214 = .ok (.getfield 7, 3) := by decide +kernel
theorem dX11_token_217 : decode cX11_token 217 = .ok (.aload_n 0, 1) := by decide +kernel
theorem dX11_token_218 : decode cX11_token 218 = .ok (.getfield 62, 3) := by decide +kernel
theorem dX11_token_221 : decode cX11_token 221 = .ok (.iaload, 1) := by decide +kernel
theorem dX11_token_222 : decode cX11_token 222 = .ok (.iadd, 1) := by decide +kernel
theorem dX11_token_223 : decode cX11_token 223 = .ok (.bipush 48, 2) := by decide +kernel
theorem dX11_token_225 : decode cX11_token 225 = .ok (.isub, 1) := by decide +kernel
theorem dX11_token_226 : decode cX11_token 226 = .ok (.putfield 82, 3) := by decide +kernel
theorem dX11_token_229 : decode cX11_token 229 = .ok (.aload_n 0, 1) := by decide +kernel
theorem dX11_token_230 : decode cX11_token 230 = .ok (.dup, 1) := by decide +kernel
theorem dX11_token_231 : decode cX11_token 231 = .ok (.getfield 62, 3) := by decide +kernel
theorem dX11_token_234 : decode cX11_token 234 = .ok (.iconst 1, 1) := by decide +kernel
theorem dX11_token_235 : decode cX11_token 235 = .ok (.iadd, 1) := by decide +kernel
theorem dX11_token_236 : decode cX11_token 236 = .ok (.putfield 62, 3) := by decide +kernel
theorem dX11_token_239 : decode cX11_token 239 = .ok (.goto (-69), 3) := by decide +kernel
theorem dX11_token_242 : decode cX11_token 242 = .ok (.return_, 1) := by decide +kernel
set_option maxRecDepth 20000 in
theorem ggX11_number_X11_token : GoodIn wsX11_number wsX11_token := goodIn_r _ [8, 9, 10, 3, 2, 11, 12, 13, 14, 7, 15, 16, 17, 18, 19, 20, 21, 22, 23, 24, 25, 26, 27, 28, 29, 30, 31, 32, 33, 34, 35, 36, 37, 38, 39, 40, 41, 42, 43, 44, 45, 46, 47] (by decide +kernel) (by decide +kernel)
set_option maxRecDepth 20000 in
theorem gX11_number_X11_token : GoodIn wsX11_number (wsV RX11 85 RX11 yX11_token wsX11_token) := goodIn_app (goodIn_of _ (by decide +kernel)) ggX11_number_X11_token
set_option maxRecDepth 20000 in
theorem ggX11_number_X11_in : GoodIn wsX11_number wsX11_in := goodIn_r _ [22] (by decide +kernel) (by decide +kernel)
set_option maxRecDepth 20000 in
theorem gX11_number_X11_in : GoodIn wsX11_number (va_wsS RX11 54 yX11_in wsX11_in) := goodIn_app (goodIn_of _ (by decide +kernel)) ggX11_number_X11_in
theorem dX11_number_0 : decode cX11_number 0 = .ok (.aload_n 0, 1) := by decide +kernel
theorem dX11_number_1 : decode cX11_number 1 = .ok (.invokevirtual 85, 3) := by decide +kernel
theorem dX11_number_4 : decode cX11_number 4 = .ok (.aload_n 0, 1) := by decide +kernel
theorem dX11_number_5 : decode cX11_number 5 = .ok (.getfield 16, 3) := by decide +kernel
theorem dX11_number_8 : decode cX11_number 8 = .ok (.iload_n 1, 1) := by decide +kernel
theorem dX11_number_9 : decode cX11_number 9 = .ok (.aload_n 0, 1) := by decide +kernel
theorem dX11_number_10 : decode cX11_number 10 = .ok (.getfield 82, 3) := by decide +kernel
theorem dX11_number_13 : decode cX11_number 13 = .ok (.iastore, 1) := by decide +kernel
theorem dX11_number_14 : decode cX11_number 14 = .ok (.aload_n 0, 1) := by decide +kernel
theorem dX11_number_15 : decode cX11_number 15 = .ok (.getfield 79, 3) := by decide +kernel
theorem dX11_number_18 : decode cX11_number 18 = .ok (.iconst 2, 1) := by decide +kernel
theorem dX11_number_19 : decode cX11_number 19 = .ok (.if_icmp .ne 19, 3) := by decide +kernel
theorem dX11_number_22 : decode cX11_number 22 = .ok (.aload_n 0, 1) := by decide +kernel
theorem dX11_number_23 : decode cX11_number 23 = .ok (.getfield 82, 3) := by decide +kernel
theorem dX11_number_26 : decode cX11_number 26 = .ok (.iload_n 2, 1) := by decide +kernel
theorem dX11_number_27 : decode cX11_number 27 = .ok (.iload_n 3, 1) := by decide +kernel
theorem dX11_number_28 : decode cX11_number 28 = .ok (.invokestatic 54, 3) := by decide +kernel
theorem dX11_number_31 : decode cX11_number 31 = .ok (.ifCond .eq 7, 3) := by decide +kernel
theorem dX11_number_34 : decode cX11_number 34 = .ok (.iconst 1, 1) := by decide +kernel
theorem dX11_number_35 : decode cX11_number 35 = .ok (.goto 4, 3) := by decide +kernel
theorem dX11_number_38 : decode cX11_number 38 = .ok (.iconst 0, 1) := by decide +kernel
theorem dX11_number_39 : decode cX11_number 39 = .ok (.ireturn, 1) := by decide +kernel
set_option maxRecDepth 20000 in
theorem ggX11_once_X11_number : GoodIn wsX11_once wsX11_number := goodIn_r _ [6, 1, 7, 8, 9, 10, 11, 5, 12, 13, 14, 15, 16, 17, 18, 19, 20, 21, 22, 23, 24, 25, 26, 27, 28, 29, 30, 31, 32, 33, 34, 35, 36, 37, 38, 39, 40, 41, 42, 43, 44, 45, 46, 47, 48, 49, 50, 51] (by decide +kernel) (by decide +kernel)
set_option maxRecDepth 20000 in
theorem gX11_once_X11_number : GoodIn wsX11_once (wsV RX11 88 RX11 yX11_number wsX11_number) := goodIn_app (goodIn_of _ (by decide +kernel)) ggX11_once_X11_number
theorem dX11_once_0 : decode cX11_once 0 = .ok (.aload_n 0, 1) := by decide +kernel
theorem dX11_once_1 : decode cX11_once 1 = .ok (.getfield 16, 3) := by decide +kernel
theorem dX11_once_4 : decode cX11_once 4 = .ok (.iconst 5, 1) := by decide +kernel
theorem dX11_once_5 : decode cX11_once 5 = .ok (.iaload, 1) := by decide +kernel
theorem dX11_once_6 : decode cX11_once 6 = .ok (.iload_n 1, 1) := by decide +kernel
theorem dX11_once_7 : decode cX11_once 7 = .ok (.iand, 1) := by decide +kernel
theorem dX11_once_8 : decode cX11_once 8 = .ok (.ifCond .eq 5, 3) := by decide +kernel
theorem dX11_once_11 : decode cX11_once 11 = .ok (.iconst 0, 1) := by decide +kernel
theorem dX11_once_12 : decode cX11_once 12 = .ok (.ireturn, 1) := by decide +kernel
theorem dX11_once_13 : decode cX11_once 13 = .ok (.aload_n 0, 1) := by decide +kernel
theorem dX11_once_14 : decode cX11_once 14 = .ok (.getfield 16, 3) := by decide +kernel
theorem dX11_once_17 : decode cX11_once 17 = .ok (.iconst 5, 1) := by decide +kernel
theorem dX11_once_18 : decode cX11_once 18 = .ok (.dup2, 1) := by decide +kernel
theorem dX11_once_19 : decode cX11_once 19 = .ok (.iaload, 1) := by decide +kernel
theorem dX11_once_20 : decode cX11_once 20 = .ok (.iload_n 1, 1) := by decide +kernel
theorem dX11_once_21 : decode cX11_once 21 = .ok (.ior, 1) := by decide +kernel
theorem dX11_once_22 : decode cX11_once 22 = .ok (.iastore, 1) := by decide +kernel
theorem dX11_once_23 : decode cX11_once 23 = .ok (.aload_n 0, 1) := by decide +kernel
theorem dX11_once_24 : decode cX11_once 24 = .ok (.iload_n 2, 1) := by decide +kernel
theorem dX11_once_25 : decode cX11_once 25 = .ok (.iconst 0, 1) := by decide +kernel
theorem dX11_once_26 : decode cX11_once 26 = .ok (.iload_n 3, 1) := by decide +kernel
theorem dX11_once_27 : decode cX11_once 27 = .ok (.invokevirtual 88, 3) := by decide +kernel
theorem dX11_once_30 : decode cX11_once 30 = .ok (.ireturn, 1) := by decide +kernel
set_option maxRecDepth 20000 in
theorem ggX11_readsItem_X11_number : GoodIn wsX11_readsItem wsX11_number := goodIn_r _ [8, 3, 2, 1, 9, 10, 11, 7, 12, 13, 14, 15, 16, 17, 18, 19, 20, 21, 22, 23, 24, 25, 26, 27, 28, 29, 34, 35, 36, 37, 38, 39, 40, 41, 42, 43, 44, 45, 46, 47, 48, 49, 50, 51, 52, 53, 54, 55] (by decide +kernel) (by decide +kernel)
set_option maxRecDepth 20000 in
theorem gX11_readsItem_X11_number : GoodIn wsX11_readsItem (wsV RX11 88 RX11 yX11_number wsX11_number) := goodIn_app (goodIn_of _ (by decide +kernel)) ggX11_readsItem_X11_number
set_option maxRecDepth 20000 in
theorem ggX11_readsItem_X11_once : GoodIn wsX11_readsItem wsX11_once := goodIn_r _ [33, 3, 4, 5, 6, 7, 8, 2, 1, 9, 10, 11, 12, 13, 14, 15, 16, 17, 18, 19, 20, 21, 22, 23, 24, 25, 26, 27, 28, 29, 34, 35, 36, 37, 38, 39, 40, 41, 42, 43, 44, 45, 46, 47, 48, 49, 50, 51, 52, 53, 54, 55] (by decide +kernel) (by decide +kernel)
set_option maxRecDepth 20000 in
theorem gX11_readsItem_X11_once : GoodIn wsX11_readsItem (wsV RX11 91 RX11 yX11_once wsX11_once) := goodIn_app (goodIn_of _ (by decide +kernel)) ggX11_readsItem_X11_once
theorem dX11_readsItem_0 : decode cX11_readsItem 0 = .ok (.aload_n 0, 1) := by decide +kernel
theorem dX11_readsItem_1 : decode cX11_readsItem 1 = .ok (.getfield 79, 3) := by decide +kernel
theorem dX11_readsItem_4 : decode cX11_readsItem 4 = .ok (.iconst 1, 1) := by decide +kernel
theorem dX11_readsItem_5 : decode cX11_readsItem 5 = .ok (.if_icmp .ne 10, 3) := by decide +kernel
theorem dX11_readsItem_8 : decode cX11_readsItem 8 = .ok (.aload_n 0, 1) := by decide +kernel
theorem dX11_readsItem_9 : decode cX11_readsItem 9 = .ok (.getfield 82, 3) := by decide +kernel
theorem dX11_readsItem_12 : decode cX11_readsItem 12 = .ok (.goto 4, 3) := by decide +kernel
theorem dX11_readsItem_15 : decode cX11_readsItem 15 = .ok (.iconst 0, 1) := by decide +kernel
theorem dX11_readsItem_16 : decode cX11_readsItem 16 = .ok (.istore_n 1, 1) := by decide +kernel
theorem dX11_readsItem_17 : decode cX11_readsItem 17 = .ok (.iload_n 1, 1) := by decide +kernel
theorem dX11_readsItem_18 : decode cX11_readsItem 18 = .ok (.bipush 112, 2) := by decide +kernel
theorem dX11_readsItem_20 : decode cX11_readsItem 20 = .ok (.if_icmp .ne 12, 3) := by decide +kernel
theorem dX11_readsItem_23 : decode cX11_readsItem 23 = .ok (.aload_n 0, 1) := by decide +kernel
theorem dX11_readsItem_24 : decode cX11_readsItem 24 = .ok (.getfield 16, 3) := by decide +kernel
theorem dX11_readsItem_27 : decode cX11_readsItem 27 = .ok (.iconst 0, 1) := by decide +kernel
theorem dX11_readsItem_28 : decode cX11_readsItem 28 = .ok (.iaload, 1) := by decide +kernel
theorem dX11_readsItem_29 : decode cX11_readsItem 29 = .ok (.goto 9, 3) := by decide +kernel
theorem dX11_readsItem_32 : decode cX11_readsItem 32 = .ok (.aload_n 0, 1) := by decide +kernel
theorem dX11_readsItem_33 : decode cX11_readsItem 33 = .ok (.getfield 16, 3) := by decide +kernel
theorem dX11_readsItem_36 : decode cX11_readsItem 36 = .ok (.iconst 1, 1) := by decide +kernel
theorem dX11_readsItem_37 : decode cX11_readsItem 37 = .ok (.iaload, 1) := by decide +kernel
theorem dX11_readsItem_38 : decode cX11_readsItem 38 = .ok (.istore_n 2, 1) := by decide +kernel
theorem dX11_readsItem_39 : decode cX11_readsItem 39 = .ok (.iload_n 1, 1) := by decide +kernel
theorem dX11_readsItem_40 : decode cX11_readsItem 40 = .ok (.lookupswitch 200 #[(100, 78), (102, 191), (111, 182), (112, 44)], 44) := by decide +kernel
theorem dX11_readsItem_84 : decode cX11_readsItem 84 = .ok (.iload_n 2, 1) := by decide +kernel
theorem dX11_readsItem_85 : decode cX11_readsItem 85 = .ok (.bipush 6, 2) := by decide +kernel
theorem dX11_readsItem_87 : decode cX11_readsItem 87 = .ok (.if_icmp .eq 17, 3) := by decide +kernel
theorem dX11_readsItem_90 : decode cX11_readsItem 90 = .ok (.aload_n 0, 1) := by decide +kernel
theorem dX11_readsItem_91 : decode cX11_readsItem 91 = .ok (.bipush 6, 2) := by decide +kernel
theorem dX11_readsItem_93 : decode cX11_readsItem 93 = .ok (.iload_n 2, 1) := by decide +kernel
theorem dX11_readsItem_94 : decode cX11_readsItem 94 = .ok (.iadd, 1) := by decide +kernel
theorem dX11_readsItem_95 : decode cX11_readsItem 95 = .ok (.iconst 0, 1) := by decide +kernel
theorem dX11_readsItem_96 : decode cX11_readsItem 96 = .ok (.bipush 30, 2) := by decide +kernel
theorem dX11_readsItem_98 : decode cX11_readsItem 98 = .ok (.invokevirtual 88, 3) := by decide +kernel
theorem dX11_readsItem_101 : decode cX11_readsItem 101 = .ok (.ifCond .ne 5, 3) := by decide +kernel
theorem dX11_readsItem_104 : decode cX11_readsItem 104 = .ok (.iconst 0, 1) := by decide +kernel
theorem dX11_readsItem_105 : decode cX11_readsItem 105 = .ok (.ireturn, 1) := by decide +kernel
theorem dX11_readsItem_106 : decode cX11_readsItem 106 = .ok (.aload_n 0, 1) := by decide +kernel
theorem dX11_readsItem_107 : decode cX11_readsItem 107 = .ok (.getfield 16, 3) := by decide +kernel
theorem dX11_readsItem_110 : decode cX11_readsItem 110 = .ok (.iconst 0, 1) := by decide +kernel
theorem dX11_readsItem_111 : decode cX11_readsItem 111 = .ok (.dup2, 1) := by decide +kernel
theorem dX11_readsItem_112 : decode cX11_readsItem 112 = .ok (.iaload, 1) := by decide +kernel
theorem dX11_readsItem_113 : decode cX11_readsItem 113 = .ok (.iconst 1, 1) := by decide +kernel
theorem dX11_readsItem_114 : decode cX11_readsItem 114 = .ok (.iadd, 1) := by decide +kernel
theorem dX11_readsItem_115 : decode cX11_readsItem 115 = .ok (.iastore, 1) := by decide +kernel
theorem dX11_readsItem_116 : decode cX11_readsItem 116 = .ok (.iconst 1, 1) := by decide +kernel
theorem dX11_readsItem_117 : decode cX11_readsItem 117 = .ok (.ireturn, 1) := by decide +kernel
theorem dX11_readsItem_118 : decode cX11_readsItem 118 = .ok (.iload_n 2, 1) := by decide +kernel
theorem dX11_readsItem_119 : decode cX11_readsItem 119 = .ok (.bipush 8, 2) := by decide +kernel
theorem dX11_readsItem_121 : decode cX11_readsItem 121 = .ok (.if_icmp .eq 87, 3) := by decide +kernel
theorem dX11_readsItem_124 : decode cX11_readsItem 124 = .ok (.aload_n 0, 1) := by decide +kernel
theorem dX11_readsItem_125 : decode cX11_readsItem 125 = .ok (.bipush 12, 2) := by decide +kernel
theorem dX11_readsItem_127 : decode cX11_readsItem 127 = .ok (.iload_n 2, 1) := by decide +kernel
theorem dX11_readsItem_128 : decode cX11_readsItem 128 = .ok (.iadd, 1) := by decide +kernel
theorem dX11_readsItem_129 : decode cX11_readsItem 129 = .ok (.iconst 0, 1) := by decide +kernel
theorem dX11_readsItem_130 : decode cX11_readsItem 130 = .ok (.aload_n 0, 1) := by decide +kernel
theorem dX11_readsItem_131 : decode cX11_readsItem 131 = .ok (.getfield 16, 3) := by decide +kernel
theorem dX11_readsItem_134 : decode cX11_readsItem 134 = .ok (.iconst 0, 1) := by decide +kernel
theorem dX11_readsItem_135 : decode cX11_readsItem 135 = .ok (.iaload, 1) := by decide +kernel
theorem dX11_readsItem_136 : decode cX11_readsItem 136 = .ok (.iconst 1, 1) := by decide +kernel
theorem dX11_readsItem_137 : decode cX11_readsItem 137 = .ok (.isub, 1) := by decide +kernel
theorem dX11_readsItem_138 : decode cX11_readsItem 138 = .ok (.invokevirtual 88, 3) := by decide +kernel
theorem dX11_readsItem_141 : decode cX11_readsItem 141 = .ok (.ifCond .eq 67, 3) := by decide +kernel
theorem dX11_readsItem_144 : decode cX11_readsItem 144 = .ok (.aload_n 0, 1) := by decide +kernel
theorem dX11_readsItem_145 : decode cX11_readsItem 145 = .ok (.bipush 20, 2) := by decide +kernel
theorem dX11_readsItem_147 : decode cX11_readsItem 147 = .ok (.iload_n 2, 1) := by decide +kernel
theorem dX11_readsItem_148 : decode cX11_readsItem 148 = .ok (.iadd, 1) := by decide +kernel
theorem dX11_readsItem_149 : decode cX11_readsItem 149 = .ok (.iconst 0, 1) := by decide +kernel
theorem dX11_readsItem_150 : decode cX11_readsItem 150 = .ok (.bipush 30, 2) := by decide +kernel
theorem dX11_readsItem_152 : decode cX11_readsItem 152 = .ok (.invokevirtual 88, 3) := by decide +kernel
theorem dX11_readsItem_155 : decode cX11_readsItem 155 = .ok (.ifCond .eq 53, 3) := by decide +kernel
theorem dX11_readsItem_158 : decode cX11_readsItem 158 = .ok (.aload_n 0, 1) := by decide +kernel
theorem dX11_readsItem_159 : decode cX11_readsItem 159 = .ok (.bipush 28, 2) := by decide +kernel
theorem dX11_readsItem_161 : decode cX11_readsItem 161 = .ok (.iload_n 2, 1) := by decide +kernel
theorem dX11_readsItem_162 : decode cX11_readsItem 162 = .ok (.iadd, 1) := by decide +kernel
theorem dX11_readsItem_163 : decode cX11_readsItem 163 = .ok (.iconst 0, 1) := by decide +kernel
theorem dX11_readsItem_164 : decode cX11_readsItem 164 = .ok (.bipush 99, 2) := by decide +kernel
theorem dX11_readsItem_166 : decode cX11_readsItem 166 = .ok (.invokevirtual 88, 3) := by decide +kernel
theorem dX11_readsItem_169 : decode cX11_readsItem 169 = .ok (.ifCond .eq 39, 3) := by decide +kernel
theorem dX11_readsItem_172 : decode cX11_readsItem 172 = .ok (.aload_n 0, 1) := by decide +kernel
theorem dX11_readsItem_173 : decode cX11_readsItem 173 = .ok (.bipush 36, 2) := by decide +kernel
theorem dX11_readsItem_175 : decode cX11_readsItem 175 = .ok (.iload_n 2, 1) := by decide +kernel
theorem dX11_readsItem_176 : decode cX11_readsItem 176 = .ok (.iadd, 1) := by decide +kernel
theorem dX11_readsItem_177 : decode cX11_readsItem 177 = .ok (.aload_n 0, 1) := by decide +kernel
theorem dX11_readsItem_178 : decode cX11_readsItem 178 = .ok (.getfield 16, 3) := by decide +kernel
theorem dX11_readsItem_181 : decode cX11_readsItem 181 = .ok (.bipush 28, 2) := by decide +kernel
theorem dX11_readsItem_183 : decode cX11_readsItem 183 = .ok (.iload_n 2, 1) := by decide +kernel
theorem dX11_readsItem_184 : decode cX11_readsItem 184 = .ok (.iadd, 1) := by decide +kernel
theorem dX11_readsItem_185 : decode cX11_readsItem 185 = .ok (.iaload, 1) := by decide +kernel
theorem dX11_readsItem_186 : decode cX11_readsItem 186 = .ok (.bipush 99, 2) := by decide +kernel
theorem dX11_readsItem_188 : decode cX11_readsItem 188 = .ok (.invokevirtual 88, 3) := by decide +kernel
theorem dX11_readsItem_191 : decode cX11_readsItem 191 = .ok (.ifCond .eq 17, 3) := by decide +kernel
theorem dX11_readsItem_194 : decode cX11_readsItem 194 = .ok (.aload_n 0, 1) := by decide +kernel
theorem dX11_readsItem_195 : decode cX11_readsItem 195 = .ok (.bipush 44, 2) := by decide +kernel
theorem dX11_readsItem_197 : decode cX11_readsItem 197 = .ok (.iload_n 2, 1) := by decide +kernel
theorem dX11_readsItem_198 : decode cX11_readsItem 198 = .ok (.iadd, 1) := by decide +kernel
theorem dX11_readsItem_199 : decode cX11_readsItem 199 = .ok (.iconst 1, 1) := by decide +kernel
theorem dX11_readsItem_200 : decode cX11_readsItem 200 = .ok (.bipush 20, 2) := by decide +kernel
theorem dX11_readsItem_202 : decode cX11_readsItem 202 = .ok (.invokevirtual 88, 3) := by decide +kernel
theorem dX11_readsItem_205 : decode cX11_readsItem 205 = .ok (.ifCond .ne 5, 3) := by decide +kernel
theorem dX11_readsItem_208 : decode cX11_readsItem 208 = .ok (.iconst 0, 1) := by decide +kernel
theorem dX11_readsItem_209 : decode cX11_readsItem 209 = .ok (.ireturn, 1) := by decide +kernel
theorem dX11_readsItem_210 : decode cX11_readsItem 210 = .ok (.aload_n 0, 1) := by decide +kernel
theorem dX11_readsItem_211 : decode cX11_readsItem 211 = .ok (.getfield 16, 3) := by decide +kernel
theorem dX11_readsItem_214 : decode cX11_readsItem 214 = .ok (.iconst 1, 1) := by decide +kernel
theorem dX11_readsItem_215 : decode cX11_readsItem 215 = .ok (.dup2, 1) := by decide +kernel
theorem dX11_readsItem_216 : decode cX11_readsItem 216 = .ok (.iaload, 1) := by decide +kernel
theorem dX11_readsItem_217 : decode cX11_readsItem 217 = .ok (.iconst 1, 1) := by decide +kernel
theorem dX11_readsItem_218 : decode cX11_readsItem 218 = .ok (.iadd, 1) := by decide +kernel
theorem dX11_readsItem_219 : decode cX11_readsItem 219 = .ok (.iastore, 1) := by decide +kernel
theorem dX11_readsItem_220 : decode cX11_readsItem 220 = .ok (.iconst 1, 1) := by decide +kernel
theorem dX11_readsItem_221 : decode cX11_readsItem 221 = .ok (.ireturn, 1) := by decide +kernel
theorem dX11_readsItem_222 : decode cX11_readsItem 222 = .ok (.aload_n 0, 1) := by decide +kernel
theorem dX11_readsItem_223 : decode cX11_readsItem 223 = .ok (.iconst 1, 1) := by decide +kernel
theorem dX11_readsItem_224 : decode cX11_readsItem 224 = .ok (.iconst 2, 1) := by decide +kernel
theorem dX11_readsItem_225 : decode cX11_readsItem 225 = .ok (.bipush 30, 2) := by decide +kernel
theorem dX11_readsItem_227 : decode cX11_readsItem 227 = .ok (.invokevirtual 91, 3) := by decide +kernel
theorem dX11_readsItem_230 : decode cX11_readsItem 230 = .ok (.ireturn, 1) := by decide +kernel
theorem dX11_readsItem_231 : decode cX11_readsItem 231 = .ok (.aload_n 0, 1) := by decide +kernel
theorem dX11_readsItem_232 : decode cX11_readsItem 232 = .ok (.iconst 2, 1) := by decide +kernel
theorem dX11_readsItem_233 : decode cX11_readsItem 233 = .ok (.iconst 3, 1) := by decide +kernel
theorem dX11_readsItem_234 : decode cX11_readsItem 234 = .ok (.bipush 9, 2) := by decide +kernel
theorem dX11_readsItem_236 : decode cX11_readsItem 236 = .ok (.invokevirtual 91, 3) := by decide +kernel
theorem dX11_readsItem_239 : decode cX11_readsItem 239 = .ok (.ireturn, 1) := by decide +kernel
theorem dX11_readsItem_240 : decode cX11_readsItem 240 = .ok (.iconst 0, 1) := by decide +kernel
theorem dX11_readsItem_241 : decode cX11_readsItem 241 = .ok (.ireturn, 1) := by decide +kernel
set_option maxRecDepth 20000 in
theorem ggX11_reads_X11_token : GoodIn wsX11_reads wsX11_token := goodIn_r _ [8, 2, 9, 3, 10, 11, 12, 13, 14, 7, 15, 16, 17, 18, 19, 20, 21, 22, 23, 24, 25, 38, 39, 40, 41, 42, 43, 44, 45, 46, 47, 48, 49, 50, 51, 52, 53, 54, 55, 56, 57, 58, 59] (by decide +kernel) (by decide +kernel)
set_option maxRecDepth 20000 in
theorem gX11_reads_X11_token : GoodIn wsX11_reads (wsV RX11 85 RX11 yX11_token wsX11_token) := goodIn_app (goodIn_of _ (by decide +kernel)) ggX11_reads_X11_token
set_option maxRecDepth 20000 in
theorem ggX11_reads_X11_readsItem : GoodIn wsX11_reads wsX11_readsItem := goodIn_r _ [29, 3, 10, 1, 30, 31, 32, 7, 33, 4, 5, 6, 8, 2, 9, 11, 12, 13, 14, 15, 16, 17, 18, 19, 20, 21, 22, 23, 24, 25, 34, 35, 36, 37, 38, 39, 40, 41, 42, 43, 44, 45, 46, 47, 48, 49, 50, 51, 52, 53, 54, 55, 56, 57, 58, 59] (by decide +kernel) (by decide +kernel)
set_option maxRecDepth 20000 in
theorem gX11_reads_X11_readsItem : GoodIn wsX11_reads (wsV RX11 94 RX11 yX11_readsItem wsX11_readsItem) := goodIn_app (goodIn_of _ (by decide +kernel)) ggX11_reads_X11_readsItem
theorem dX11_reads_0 : decode cX11_reads 0 = .ok (.iconst 0, 1) := by decide +kernel
theorem dX11_reads_1 : decode cX11_reads 1 = .ok (.istore_n 1, 1) := by decide +kernel
theorem dX11_reads_2 : decode cX11_reads 2 = .ok (.iload_n 1, 1) := by decide +kernel
theorem dX11_reads_3 : decode cX11_reads 3 = .ok (.bipush 52, 2) := by decide +kernel
theorem dX11_reads_5 : decode cX11_reads 5 = .ok (.if_icmp .ge 16, 3) := by decide +kernel
theorem dX11_reads_8 : decode cX11_reads 8 = .ok (.aload_n 0, 1) := by decide +kernel
theorem dX11_reads_9 : decode cX11_reads 9 = .ok (.getfield 16, 3) := by decide +kernel
theorem dX11_reads_12 : decode cX11_reads 12 = .ok (.iload_n 1, 1) := by decide +kernel
theorem dX11_reads_13 : decode cX11_reads 13 = .ok (.iconst 0, 1) := by decide +kernel
theorem dX11_reads_14 : decode cX11_reads 14 = .ok (.iastore, 1) := by decide +kernel
theorem dX11_reads_15 : decode cX11_reads 15 = .ok (.iinc 1 1, 3) := by decide +kernel
theorem dX11_reads_18 : decode cX11_reads 18 = .ok (.goto (-16), 3) := by decide +kernel
theorem dX11_reads_21 : decode cX11_reads 21 = .ok (.aload_n 0, 1) := by decide +kernel
theorem dX11_reads_22 : decode cX11_reads 22 = .ok (.getfield 16, 3) := by decide +kernel
theorem dX11_reads_25 : decode cX11_reads 25 = .ok (.iconst 2, 1) := by decide +kernel
theorem dX11_reads_26 : decode cX11_reads 26 = .ok (.bipush 15, 2) := by decide +kernel
theorem dX11_reads_28 : decode cX11_reads 28 = .ok (.iastore, 1) := by decide +kernel
theorem dX11_reads_29 : decode cX11_reads 29 = .ok (.aload_n 0, 1) := by decide +kernel
theorem dX11_reads_30 : decode cX11_reads 30 = .ok (.getfield 16, 3) := by decide +kernel
theorem dX11_reads_33 : decode cX11_reads 33 = .ok (.iconst 3, 1) := by decide +kernel
theorem dX11_reads_34 : decode cX11_reads 34 = .ok (.iconst 3, 1) := by decide +kernel
theorem dX11_reads_35 : decode cX11_reads 35 = .ok (.iastore, 1) := by decide +kernel
theorem dX11_reads_36 : decode cX11_reads 36 = .ok (.aload_n 0, 1) := by decide +kernel
theorem dX11_reads_37 : decode cX11_reads 37 = .ok (.iconst 0, 1) := by decide +kernel
theorem dX11_reads_38 : decode cX11_reads 38 = .ok (.putfield 62, 3) := by decide +kernel
theorem dX11_reads_41 : decode cX11_reads 41 = .ok (.aload_n 0, 1) := by decide +kernel
theorem dX11_reads_42 : decode cX11_reads 42 = .ok (.invokevirtual 85, 3) := by decide +kernel
theorem dX11_reads_45 : decode cX11_reads 45 = .ok (.aload_n 0, 1) := by decide +kernel
theorem dX11_reads_46 : decode cX11_reads 46 = .ok (.getfield 79, 3) := by decide +kernel
theorem dX11_reads_49 : decode cX11_reads 49 = .ok (.ifCond .eq 43, 3) := by decide +kernel
theorem dX11_reads_52 : decode cX11_reads 52 = .ok (.aload_n 0, 1) := by decide +kernel
theorem dX11_reads_53 : decode cX11_reads 53 = .ok (.invokevirtual 94, 3) := by decide +kernel
theorem dX11_reads_56 : decode cX11_reads 56 = .ok (.ifCond .ne 5, 3) := by decide +kernel
theorem dX11_reads_59 : decode cX11_reads 59 = .ok (.iconst 0, 1) := by decide +kernel
theorem dX11_reads_60 : decode cX11_reads 60 = .ok (.ireturn, 1) := by decide +kernel
theorem dX11_reads_61 : decode cX11_reads 61 = .ok (.aload_n 0, 1) := by decide +kernel
theorem dX11_reads_62 : decode cX11_reads 62 = .ok (.invokevirtual 85, 3) := by decide +kernel
theorem dX11_reads_65 : decode cX11_reads 65 = .ok (.aload_n 0, 1) := by decide +kernel
theorem dX11_reads_66 : decode cX11_reads 66 = .ok (.getfield 79, 3) := by decide +kernel
theorem dX11_reads_69 : decode cX11_reads 69 = .ok (.iconst 3, 1) := by decide +kernel
theorem dX11_reads_70 : decode cX11_reads 70 = .ok (.if_icmp .eq 5, 3) := by decide +kernel
theorem dX11_reads_73 : decode cX11_reads 73 = .ok (.iconst 0, 1) := by decide +kernel
theorem dX11_reads_74 : decode cX11_reads 74 = .ok (.ireturn, 1) := by decide +kernel
theorem dX11_reads_75 : decode cX11_reads 75 = .ok (.aload_n 0, 1) := by decide +kernel
theorem dX11_reads_76 : decode cX11_reads 76 = .ok (.getfield 16, 3) := by decide +kernel
theorem dX11_reads_79 : decode cX11_reads 79 = .ok (.iconst 4, 1) := by decide +kernel
theorem dX11_reads_80 : decode cX11_reads 80 = .ok (.dup2, 1) := by decide +kernel
theorem dX11_reads_81 : decode cX11_reads 81 = .ok (.iaload, 1) := by decide +kernel
theorem dX11_reads_82 : decode cX11_reads 82 = .ok (.iconst 1, 1) := by decide +kernel
theorem dX11_reads_83 : decode cX11_reads 83 = .ok (.iadd, 1) := by decide +kernel
theorem dX11_reads_84 : decode cX11_reads 84 = .ok (.iastore, 1) := by decide +kernel
theorem dX11_reads_85 : decode cX11_reads 85 = .ok (.aload_n 0, 1) := by decide +kernel
theorem dX11_reads_86 : decode cX11_reads 86 = .ok (.invokevirtual 85, 3) := by decide +kernel
theorem dX11_reads_89 : decode cX11_reads 89 = .ok (.goto (-44), 3) := by decide +kernel
theorem dX11_reads_92 : decode cX11_reads 92 = .ok (.iconst 1, 1) := by decide +kernel
theorem dX11_reads_93 : decode cX11_reads 93 = .ok (.ireturn, 1) := by decide +kernel
set_option maxRecDepth 20000 in
theorem ggX11_begins_X11_in : GoodIn wsX11_begins wsX11_in := goodIn_r _ [9] (by decide +kernel) (by decide +kernel)
set_option maxRecDepth 20000 in
theorem gX11_begins_X11_in : GoodIn wsX11_begins (va_wsS RX11 54 yX11_in wsX11_in) := goodIn_app (goodIn_of _ (by decide +kernel)) ggX11_begins_X11_in
theorem dX11_begins_0 : decode cX11_begins 0 = .ok (.iconst 0, 1) := by decide +kernel
theorem dX11_begins_1 : decode cX11_begins 1 = .ok (.istore_n 1, 1) := by decide +kernel
theorem dX11_begins_2 : decode cX11_begins 2 = .ok (.iload_n 1, 1) := by decide +kernel
theorem dX11_begins_3 : decode cX11_begins 3 = .ok (.bipush 52, 2) := by decide +kernel
theorem dX11_begins_5 : decode cX11_begins 5 = .ok (.if_icmp .ge 21, 3) := by decide +kernel
theorem dX11_begins_8 : decode cX11_begins 8 = .ok (.aload_n 0, 1) := by decide +kernel
theorem dX11_begins_9 : decode cX11_begins 9 = .ok (.getfield 13, 3) := by decide +kernel
theorem dX11_begins_12 : decode cX11_begins 12 = .ok (.iload_n 1, 1) := by decide +kernel
theorem dX11_begins_13 : decode cX11_begins 13 = .ok (.aload_n 0, 1) := by decide +kernel
theorem dX11_begins_14 : decode cX11_begins 14 = .ok (.getfield 16, 3) := by decide +kernel
theorem dX11_begins_17 : decode cX11_begins 17 = .ok (.iload_n 1, 1) := by decide +kernel
theorem dX11_begins_18 : decode cX11_begins 18 = .ok (.iaload, 1) := by decide +kernel
theorem dX11_begins_19 : decode cX11_begins 19 = .ok (.iastore, 1) := by decide +kernel
theorem dX11_begins_20 : decode cX11_begins 20 = .ok (.iinc 1 1, 3) := by decide +kernel
theorem dX11_begins_23 : decode cX11_begins 23 = .ok (.goto (-21), 3) := by decide +kernel
theorem dX11_begins_26 : decode cX11_begins 26 = .ok (.iconst 0, 1) := by decide +kernel
theorem dX11_begins_27 : decode cX11_begins 27 = .ok (.istore_n 1, 1) := by decide +kernel
theorem dX11_begins_28 : decode cX11_begins 28 = .ok (.iload_n 1, 1) := by decide +kernel
theorem dX11_begins_29 : decode cX11_begins 29 = .ok (.bipush 23, 2) := by decide +kernel
theorem dX11_begins_31 : decode cX11_begins 31 = .ok (.if_icmp .gt 40, 3) := by decide +kernel
theorem dX11_begins_34 : decode cX11_begins 34 = .ok (.aload_n 0, 1) := by decide +kernel
theorem dX11_begins_35 : decode cX11_begins 35 = .ok (.getfield 19, 3) := by decide +kernel
theorem dX11_begins_38 : decode cX11_begins 38 = .ok (.iload_n 1, 1) := by decide +kernel
theorem dX11_begins_39 : decode cX11_begins 39 = .ok (.iload_n 1, 1) := by decide +kernel
theorem dX11_begins_40 : decode cX11_begins 40 = .ok (.iconst 4, 1) := by decide +kernel
theorem dX11_begins_41 : decode cX11_begins 41 = .ok (.bipush 9, 2) := by decide +kernel
theorem dX11_begins_43 : decode cX11_begins 43 = .ok (.invokestatic 54, 3) := by decide +kernel
theorem dX11_begins_46 : decode cX11_begins 46 = .ok (.ifCond .eq 17, 3) := by decide +kernel
theorem dX11_begins_49 : decode cX11_begins 49 = .ok (.aload_n 0, 1) := by decide +kernel
theorem dX11_begins_50 : decode cX11_begins 50 = .ok (.getfield 13, 3) := by decide +kernel
theorem dX11_begins_53 : decode cX11_begins 53 = .ok (.bipush 6, 2) := by decide +kernel
theorem dX11_begins_55 : decode cX11_begins 55 = .ok (.iload_n 1, 1) := by decide +kernel
theorem dX11_begins_56 : decode cX11_begins 56 = .ok (.iadd, 1) := by decide +kernel
theorem dX11_begins_57 : decode cX11_begins 57 = .ok (.iconst 4, 1) := by decide +kernel
theorem dX11_begins_58 : decode cX11_begins 58 = .ok (.isub, 1) := by decide +kernel
theorem dX11_begins_59 : decode cX11_begins 59 = .ok (.iaload, 1) := by decide +kernel
theorem dX11_begins_60 : decode cX11_begins 60 = .ok (.goto 4, 3) := by decide +kernel
theorem dX11_begins_63 : decode cX11_begins 63 = .ok (.iconst 0, 1) := by decide +kernel
theorem dX11_begins_64 : decode cX11_begins 64 = .ok (.iastore, 1) := by decide +kernel
theorem dX11_begins_65 : decode cX11_begins 65 = .ok (.iinc 1 1, 3) := by decide +kernel
theorem dX11_begins_68 : decode cX11_begins 68 = .ok (.goto (-40), 3) := by decide +kernel
theorem dX11_begins_71 : decode cX11_begins 71 = .ok (.aload_n 0, 1) := by decide +kernel
theorem dX11_begins_72 : decode cX11_begins 72 = .ok (.getfield 19, 3) := by decide +kernel
theorem dX11_begins_75 : decode cX11_begins 75 = .ok (.iconst 1, 1) := by decide +kernel
theorem dX11_begins_76 : decode cX11_begins 76 = .ok (.bipush (-9), 2) := by decide +kernel
theorem dX11_begins_78 : decode cX11_begins 78 = .ok (.iastore, 1) := by decide +kernel
theorem dX11_begins_79 : decode cX11_begins 79 = .ok (.aload_n 0, 1) := by decide +kernel
theorem dX11_begins_80 : decode cX11_begins 80 = .ok (.iconst 0, 1) := by decide +kernel
theorem dX11_begins_81 : decode cX11_begins 81 = .ok (.putfield 97, 3) := by decide +kernel
theorem dX11_begins_84 : decode cX11_begins 84 = .ok (.aload_n 0, 1) := by decide +kernel
theorem dX11_begins_85 : decode cX11_begins 85 = .ok (.getfield 25, 3) := by decide +kernel
theorem dX11_begins_88 : decode cX11_begins 88 = .ok (.iconst 0, 1) := by decide +kernel
theorem dX11_begins_89 : decode cX11_begins 89 = .ok (.iconst 0, 1) := by decide +kernel
theorem dX11_begins_90 : decode cX11_begins 90 = .ok (.bastore, 1) := by decide +kernel
theorem dX11_begins_91 : decode cX11_begins 91 = .ok (.aload_n 0, 1) := by decide +kernel
theorem dX11_begins_92 : decode cX11_begins 92 = .ok (.getfield 25, 3) := by decide +kernel
theorem dX11_begins_95 : decode cX11_begins 95 = .ok (.iconst 1, 1) := by decide +kernel
theorem dX11_begins_96 : decode cX11_begins 96 = .ok (.iconst 0, 1) := by decide +kernel
theorem dX11_begins_97 : decode cX11_begins 97 = .ok (.bastore, 1) := by decide +kernel
theorem dX11_begins_98 : decode cX11_begins 98 = .ok (.return_, 1) := by decide +kernel
set_option maxRecDepth 20000 in
theorem ggX11_port_X11_reads : GoodIn wsX11_port wsX11_reads := goodIn_r _ [8, 9, 10, 11, 12, 13, 14, 7, 15, 1, 16, 17, 18, 19, 20, 21, 2, 22, 23, 24, 25, 26, 27, 28, 29, 30, 31, 32, 33, 34, 35, 36, 37, 38, 39, 40, 41, 42, 50, 51, 52, 53, 54, 55, 56, 57, 58, 59, 60, 61, 62, 63, 64, 65, 66, 67, 68, 69, 70, 71] (by decide +kernel) (by decide +kernel)
set_option maxRecDepth 20000 in
theorem gX11_port_X11_reads : GoodIn wsX11_port (wsV RX11 47 RX11 yX11_reads wsX11_reads) := goodIn_app (goodIn_of _ (by decide +kernel)) ggX11_port_X11_reads
set_option maxRecDepth 20000 in
theorem ggX11_port_X11_begins : GoodIn wsX11_port wsX11_begins := goodIn_r _ [46, 3, 9, 47, 48, 49, 25, 26, 7, 27, 50, 51, 52, 53, 54, 55, 56, 57, 58, 59, 60, 61, 62, 63, 64, 65, 66, 67, 68, 69, 70, 71] (by decide +kernel) (by decide +kernel)
set_option maxRecDepth 20000 in
theorem gX11_port_X11_begins : GoodIn wsX11_port (wsV RX11 51 RX11 yX11_begins wsX11_begins) := goodIn_app (goodIn_of _ (by decide +kernel)) ggX11_port_X11_begins
theorem dX11_port_0 : decode cX11_port 0 = .ok (.aload_n 0, 1) := by decide +kernel
theorem dX11_port_1 : decode cX11_port 1 = .ok (.invokevirtual 47, 3) := by decide +kernel
theorem dX11_port_4 : decode cX11_port 4 = .ok (.ifCond .ne 11, 3) := by decide +kernel
theorem dX11_port_7 : decode cX11_port 7 = .ok (.bipush (-10), 2) := by decide +kernel
theorem dX11_port_9 : decode cX11_port 9 = .ok (.aload_n 0, 1) := by decide +kernel
theorem dX11_port_10 : decode cX11_port 10 = .ok (.getfield 69, 3) := by decide +kernel
theorem dX11_port_13 : decode cX11_port 13 = .ok (.isub, 1) := by decide +kernel
theorem dX11_port_14 : decode cX11_port 14 = .ok (.ireturn, 1) := by decide +kernel
theorem dX11_port_15 : decode cX11_port 15 = .ok (.aload_n 0, 1) := by decide +kernel
theorem dX11_port_16 : decode cX11_port 16 = .ok (.invokevirtual 51, 3) := by decide +kernel
theorem dX11_port_19 : decode cX11_port 19 = .ok (.aload_n 0, 1) := by decide +kernel
theorem dX11_port_20 : decode cX11_port 20 = .ok (.iconst 0, 1) := by decide +kernel
theorem dX11_port_21 : decode cX11_port 21 = .ok (.putfield 58, 3) := by decide +kernel
theorem dX11_port_24 : decode cX11_port 24 = .ok (.aload_n 0, 1) := by decide +kernel
theorem dX11_port_25 : decode cX11_port 25 = .ok (.getfield 13, 3) := by decide +kernel
theorem dX11_port_28 : decode cX11_port 28 = .ok (.iconst 4, 1) := by decide +kernel
theorem dX11_port_29 : decode cX11_port 29 = .ok (.iaload, 1) := by decide +kernel
theorem dX11_port_30 : decode cX11_port 30 = .ok (.ireturn, 1) := by decide +kernel
theorem dX11_isHeld_0 : decode cX11_isHeld 0 = .ok (.aload_n 0, 1) := by decide +kernel
theorem dX11_isHeld_1 : decode cX11_isHeld 1 = .ok (.getfield 19, 3) := by decide +kernel
theorem dX11_isHeld_4 : decode cX11_isHeld 4 = .ok (.iconst 1, 1) := by decide +kernel
theorem dX11_isHeld_5 : decode cX11_isHeld 5 = .ok (.iaload, 1) := by decide +kernel
theorem dX11_isHeld_6 : decode cX11_isHeld 6 = .ok (.bipush (-9), 2) := by decide +kernel
theorem dX11_isHeld_8 : decode cX11_isHeld 8 = .ok (.if_icmp .eq 7, 3) := by decide +kernel
theorem dX11_isHeld_11 : decode cX11_isHeld 11 = .ok (.iconst 1, 1) := by decide +kernel
theorem dX11_isHeld_12 : decode cX11_isHeld 12 = .ok (.goto 4, 3) := by decide +kernel
theorem dX11_isHeld_15 : decode cX11_isHeld 15 = .ok (.iconst 0, 1) := by decide +kernel
theorem dX11_isHeld_16 : decode cX11_isHeld 16 = .ok (.ireturn, 1) := by decide +kernel
theorem dX11_care_0 : decode cX11_care 0 = .ok (.aload_n 0, 1) := by decide +kernel
theorem dX11_care_1 : decode cX11_care 1 = .ok (.getfield 19, 3) := by decide +kernel
theorem dX11_care_4 : decode cX11_care 4 = .ok (.iconst 1, 1) := by decide +kernel
theorem dX11_care_5 : decode cX11_care 5 = .ok (.iaload, 1) := by decide +kernel
theorem dX11_care_6 : decode cX11_care 6 = .ok (.iload_n 1, 1) := by decide +kernel
theorem dX11_care_7 : decode cX11_care 7 = .ok (.if_icmp .ne 7, 3) := by decide +kernel
theorem dX11_care_10 : decode cX11_care 10 = .ok (.iconst 0, 1) := by decide +kernel
theorem dX11_care_11 : decode cX11_care 11 = .ok (.goto 19, 3) := by decide +kernel
theorem dX11_care_14 : decode cX11_care 14 = .ok (.aload_n 0, 1) := by decide +kernel
theorem dX11_care_15 : decode cX11_care 15 = .ok (.getfield 19, 3) := by decide +kernel
theorem dX11_care_18 : decode cX11_care 18 = .ok (.iconst 0, 1) := by decide +kernel
theorem dX11_care_19 : decode cX11_care 19 = .ok (.iaload, 1) := by decide +kernel
theorem dX11_care_20 : decode cX11_care 20 = .ok (.aload_n 0, 1) := by decide +kernel
theorem dX11_care_21 : decode cX11_care 21 = .ok (.getfield 19, 3) := by decide +kernel
theorem dX11_care_24 : decode cX11_care 24 = .ok (.bipush 10, 2) := by decide +kernel
theorem dX11_care_26 : decode cX11_care 26 = .ok (.iload_n 1, 1) := by decide +kernel
theorem dX11_care_27 : decode cX11_care 27 = .ok (.iadd, 1) := by decide +kernel
theorem dX11_care_28 : decode cX11_care 28 = .ok (.iaload, 1) := by decide +kernel
theorem dX11_care_29 : decode cX11_care 29 = .ok (.isub, 1) := by decide +kernel
theorem dX11_care_30 : decode cX11_care 30 = .ok (.ireturn, 1) := by decide +kernel
set_option maxRecDepth 20000 in
theorem ggX11_one_X11_isOne : GoodIn wsX11_one wsX11_isOne := goodIn_r _ [7, 1, 8, 9, 6, 10, 15, 16, 17, 18, 19, 20, 21, 22, 23, 24, 25, 26, 27, 28, 29, 30, 31, 32, 33, 34, 35, 36] (by decide +kernel) (by decide +kernel)
set_option maxRecDepth 20000 in
theorem gX11_one_X11_isOne : GoodIn wsX11_one (wsV RX11 100 RX11 yX11_isOne wsX11_isOne) := goodIn_app (goodIn_of _ (by decide +kernel)) ggX11_one_X11_isOne
set_option maxRecDepth 20000 in
theorem ggX11_one_X11_care : GoodIn wsX11_one wsX11_care := goodIn_r _ [14, 2, 15, 16, 17, 18, 19, 20, 21, 22, 23, 24, 25, 26, 27, 28, 29, 30, 31, 32, 33, 34, 35, 36] (by decide +kernel) (by decide +kernel)
set_option maxRecDepth 20000 in
theorem gX11_one_X11_care : GoodIn wsX11_one (wsV RX11 103 RX11 yX11_care wsX11_care) := goodIn_app (goodIn_of _ (by decide +kernel)) ggX11_one_X11_care
theorem dX11_one_0 : decode cX11_one 0 = .ok (.aload_n 0, 1) := by decide +kernel
theorem dX11_one_1 : decode cX11_one 1 = .ok (.iload_n 1, 1) := by decide +kernel
theorem dX11_one_2 : decode cX11_one 2 = .ok (.invokevirtual 100, 3) := by decide +kernel
theorem dX11_one_5 : decode cX11_one 5 = .ok (.ifCond .ne 5, 3) := by decide +kernel
theorem dX11_one_8 : decode cX11_one 8 = .ok (.iconst (-1), 1) := by decide +kernel
theorem dX11_one_9 : decode cX11_one 9 = .ok (.ireturn, 1) := by decide +kernel
theorem dX11_one_10 : decode cX11_one 10 = .ok (.iload_n 2, 1) := by decide +kernel
theorem dX11_one_11 : decode cX11_one 11 = .ok (.tableswitch 64 0 3 #[29, 39, 48, 58], 29) := by decide +kernel
theorem dX11_one_40 : decode cX11_one 40 = .ok (.aload_n 0, 1) := by decide +kernel
theorem dX11_one_41 : decode cX11_one 41 = .ok (.getfield 13, 3) := by decide +kernel
theorem dX11_one_44 : decode cX11_one 44 = .ok (.bipush 6, 2) := by decide +kernel
theorem dX11_one_46 : decode cX11_one 46 = .ok (.iload_n 1, 1) := by decide +kernel
theorem dX11_one_47 : decode cX11_one 47 = .ok (.iadd, 1) := by decide +kernel
theorem dX11_one_48 : decode cX11_one 48 = .ok (.iaload, 1) := by decide +kernel
theorem dX11_one_49 : decode cX11_one 49 = .ok (.ireturn, 1) := by decide +kernel
theorem dX11_one_50 : decode cX11_one 50 = .ok (.aload_n 0, 1) := by decide +kernel
theorem dX11_one_51 : decode cX11_one 51 = .ok (.getfield 19, 3) := by decide +kernel
theorem dX11_one_54 : decode cX11_one 54 = .ok (.iconst 4, 1) := by decide +kernel
theorem dX11_one_55 : decode cX11_one 55 = .ok (.iload_n 1, 1) := by decide +kernel
theorem dX11_one_56 : decode cX11_one 56 = .ok (.iadd, 1) := by decide +kernel
theorem dX11_one_57 : decode cX11_one 57 = .ok (.iaload, 1) := by decide +kernel
theorem dX11_one_58 : decode cX11_one 58 = .ok (.ireturn, 1) := by decide +kernel
theorem dX11_one_59 : decode cX11_one 59 = .ok (.aload_n 0, 1) := by decide +kernel
theorem dX11_one_60 : decode cX11_one 60 = .ok (.getfield 19, 3) := by decide +kernel
theorem dX11_one_63 : decode cX11_one 63 = .ok (.bipush 16, 2) := by decide +kernel
theorem dX11_one_65 : decode cX11_one 65 = .ok (.iload_n 1, 1) := by decide +kernel
theorem dX11_one_66 : decode cX11_one 66 = .ok (.iadd, 1) := by decide +kernel
theorem dX11_one_67 : decode cX11_one 67 = .ok (.iaload, 1) := by decide +kernel
theorem dX11_one_68 : decode cX11_one 68 = .ok (.ireturn, 1) := by decide +kernel
theorem dX11_one_69 : decode cX11_one 69 = .ok (.aload_n 0, 1) := by decide +kernel
theorem dX11_one_70 : decode cX11_one 70 = .ok (.iload_n 1, 1) := by decide +kernel
theorem dX11_one_71 : decode cX11_one 71 = .ok (.invokevirtual 103, 3) := by decide +kernel
theorem dX11_one_74 : decode cX11_one 74 = .ok (.ireturn, 1) := by decide +kernel
theorem dX11_one_75 : decode cX11_one 75 = .ok (.iconst (-1), 1) := by decide +kernel
theorem dX11_one_76 : decode cX11_one 76 = .ok (.ireturn, 1) := by decide +kernel
set_option maxRecDepth 20000 in
theorem ggX11_isDone_X11_has : GoodIn wsX11_isDone wsX11_has := goodIn_r _ [5] (by decide +kernel) (by decide +kernel)
set_option maxRecDepth 20000 in
theorem gX11_isDone_X11_has : GoodIn wsX11_isDone (va_wsS RX11 106 yX11_has wsX11_has) := goodIn_app (goodIn_of _ (by decide +kernel)) ggX11_isDone_X11_has
theorem dX11_isDone_0 : decode cX11_isDone 0 = .ok (.aload_n 0, 1) := by decide +kernel
theorem dX11_isDone_1 : decode cX11_isDone 1 = .ok (.getfield 19, 3) := by decide +kernel
theorem dX11_isDone_4 : decode cX11_isDone 4 = .ok (.bipush 22, 2) := by decide +kernel
theorem dX11_isDone_6 : decode cX11_isDone 6 = .ok (.iaload, 1) := by decide +kernel
theorem dX11_isDone_7 : decode cX11_isDone 7 = .ok (.iload_n 1, 1) := by decide +kernel
theorem dX11_isDone_8 : decode cX11_isDone 8 = .ok (.invokestatic 106, 3) := by decide +kernel
theorem dX11_isDone_11 : decode cX11_isDone 11 = .ok (.ireturn, 1) := by decide +kernel
set_option maxRecDepth 20000 in
theorem ggX11_deed_X11_isDeed : GoodIn wsX11_deed wsX11_isDeed := goodIn_r _ [6, 1, 7, 8, 5, 9, 18, 19, 20, 21, 22, 23, 24, 25, 26, 27, 28, 29, 30, 31, 32, 33, 34, 35, 36, 37, 38, 39] (by decide +kernel) (by decide +kernel)
set_option maxRecDepth 20000 in
theorem gX11_deed_X11_isDeed : GoodIn wsX11_deed (wsV RX11 110 RX11 yX11_isDeed wsX11_isDeed) := goodIn_app (goodIn_of _ (by decide +kernel)) ggX11_deed_X11_isDeed
set_option maxRecDepth 20000 in
theorem ggX11_deed_X11_isDone : GoodIn wsX11_deed wsX11_isDone := goodIn_r _ [13, 14, 15, 16, 5, 17, 18, 19, 20, 21, 22, 23, 24, 25, 26, 27, 28, 29, 30, 31, 32, 33, 34, 35, 36, 37, 38, 39] (by decide +kernel) (by decide +kernel)
set_option maxRecDepth 20000 in
theorem gX11_deed_X11_isDone : GoodIn wsX11_deed (wsV RX11 113 RX11 yX11_isDone wsX11_isDone) := goodIn_app (goodIn_of _ (by decide +kernel)) ggX11_deed_X11_isDone
theorem dX11_deed_0 : decode cX11_deed 0 = .ok (.aload_n 0, 1) := by decide +kernel
theorem dX11_deed_1 : decode cX11_deed 1 = .ok (.iload_n 1, 1) := by decide +kernel
theorem dX11_deed_2 : decode cX11_deed 2 = .ok (.invokevirtual 110, 3) := by decide +kernel
theorem dX11_deed_5 : decode cX11_deed 5 = .ok (.ifCond .ne 5, 3) := by decide +kernel
theorem dX11_deed_8 : decode cX11_deed 8 = .ok (.iconst (-1), 1) := by decide +kernel
theorem dX11_deed_9 : decode cX11_deed 9 = .ok (.ireturn, 1) := by decide +kernel
theorem dX11_deed_10 : decode cX11_deed 10 = .ok (.iload_n 2, 1) := by decide +kernel
theorem dX11_deed_11 : decode cX11_deed 11 = .ok (.tableswitch 101 0 5 #[37, 47, 57, 67, 77, 87], 37) := by decide +kernel
theorem dX11_deed_48 : decode cX11_deed 48 = .ok (.aload_n 0, 1) := by decide +kernel
theorem dX11_deed_49 : decode cX11_deed 49 = .ok (.getfield 13, 3) := by decide +kernel
theorem dX11_deed_52 : decode cX11_deed 52 = .ok (.bipush 12, 2) := by decide +kernel
theorem dX11_deed_54 : decode cX11_deed 54 = .ok (.iload_n 1, 1) := by decide +kernel
theorem dX11_deed_55 : decode cX11_deed 55 = .ok (.iadd, 1) := by decide +kernel
theorem dX11_deed_56 : decode cX11_deed 56 = .ok (.iaload, 1) := by decide +kernel
theorem dX11_deed_57 : decode cX11_deed 57 = .ok (.ireturn, 1) := by decide +kernel
theorem dX11_deed_58 : decode cX11_deed 58 = .ok (.aload_n 0, 1) := by decide +kernel
theorem dX11_deed_59 : decode cX11_deed 59 = .ok (.getfield 13, 3) := by decide +kernel
theorem dX11_deed_62 : decode cX11_deed 62 = .ok (.bipush 20, 2) := by decide +kernel
theorem dX11_deed_64 : decode cX11_deed 64 = .ok (.iload_n 1, 1) := by decide +kernel
theorem dX11_deed_65 : decode cX11_deed 65 = .ok (.iadd, 1) := by decide +kernel
theorem dX11_deed_66 : decode cX11_deed 66 = .ok (.iaload, 1) := by decide +kernel
theorem dX11_deed_67 : decode cX11_deed 67 = .ok (.ireturn, 1) := by decide +kernel
theorem dX11_deed_68 : decode cX11_deed 68 = .ok (.aload_n 0, 1) := by decide +kernel
theorem dX11_deed_69 : decode cX11_deed 69 = .ok (.getfield 13, 3) := by decide +kernel
theorem dX11_deed_72 : decode cX11_deed 72 = .ok (.bipush 28, 2) := by decide +kernel
theorem dX11_deed_74 : decode cX11_deed 74 = .ok (.iload_n 1, 1) := by decide +kernel
theorem dX11_deed_75 : decode cX11_deed 75 = .ok (.iadd, 1) := by decide +kernel
theorem dX11_deed_76 : decode cX11_deed 76 = .ok (.iaload, 1) := by decide +kernel
theorem dX11_deed_77 : decode cX11_deed 77 = .ok (.ireturn, 1) := by decide +kernel
theorem dX11_deed_78 : decode cX11_deed 78 = .ok (.aload_n 0, 1) := by decide +kernel
theorem dX11_deed_79 : decode cX11_deed 79 = .ok (.getfield 13, 3) := by decide +kernel
theorem dX11_deed_82 : decode cX11_deed 82 = .ok (.bipush 36, 2) := by decide +kernel
theorem dX11_deed_84 : decode cX11_deed 84 = .ok (.iload_n 1, 1) := by decide +kernel
theorem dX11_deed_85 : decode cX11_deed 85 = .ok (.iadd, 1) := by decide +kernel
theorem dX11_deed_86 : decode cX11_deed 86 = .ok (.iaload, 1) := by decide +kernel
theorem dX11_deed_87 : decode cX11_deed 87 = .ok (.ireturn, 1) := by decide +kernel
theorem dX11_deed_88 : decode cX11_deed 88 = .ok (.aload_n 0, 1) := by decide +kernel
theorem dX11_deed_89 : decode cX11_deed 89 = .ok (.getfield 13, 3) := by decide +kernel
theorem dX11_deed_92 : decode cX11_deed 92 = .ok (.bipush 44, 2) := by decide +kernel
theorem dX11_deed_94 : decode cX11_deed 94 = .ok (.iload_n 1, 1) := by decide +kernel
theorem dX11_deed_95 : decode cX11_deed 95 = .ok (.iadd, 1) := by decide +kernel
theorem dX11_deed_96 : decode cX11_deed 96 = .ok (.iaload, 1) := by decide +kernel
theorem dX11_deed_97 : decode cX11_deed 97 = .ok (.ireturn, 1) := by decide +kernel
theorem dX11_deed_98 : decode cX11_deed 98 = .ok (.aload_n 0, 1) := by decide +kernel
theorem dX11_deed_99 : decode cX11_deed 99 = .ok (.iload_n 1, 1) := by decide +kernel
theorem dX11_deed_100 : decode cX11_deed 100 = .ok (.invokevirtual 113, 3) := by decide +kernel
theorem dX11_deed_103 : decode cX11_deed 103 = .ok (.ifCond .eq 7, 3) := by decide +kernel
theorem dX11_deed_106 : decode cX11_deed 106 = .ok (.iconst 1, 1) := by decide +kernel
theorem dX11_deed_107 : decode cX11_deed 107 = .ok (.goto 4, 3) := by decide +kernel
theorem dX11_deed_110 : decode cX11_deed 110 = .ok (.iconst 0, 1) := by decide +kernel
theorem dX11_deed_111 : decode cX11_deed 111 = .ok (.ireturn, 1) := by decide +kernel
theorem dX11_deed_112 : decode cX11_deed 112 = .ok (.iconst (-1), 1) := by decide +kernel
theorem dX11_deed_113 : decode cX11_deed 113 = .ok (.ireturn, 1) := by decide +kernel
theorem dX11_remembers_0 : decode cX11_remembers 0 = .ok (.aload_n 0, 1) := by decide +kernel
theorem dX11_remembers_1 : decode cX11_remembers 1 = .ok (.getfield 19, 3) := by decide +kernel
theorem dX11_remembers_4 : decode cX11_remembers 4 = .ok (.bipush 23, 2) := by decide +kernel
theorem dX11_remembers_6 : decode cX11_remembers 6 = .ok (.iaload, 1) := by decide +kernel
theorem dX11_remembers_7 : decode cX11_remembers 7 = .ok (.bipush 10, 2) := by decide +kernel
theorem dX11_remembers_9 : decode cX11_remembers 9 = .ok (.if_icmp .ne 45, 3) := by decide +kernel
theorem dX11_remembers_12 : decode cX11_remembers 12 = .ok (.bipush 24, 2) := by decide +kernel
theorem dX11_remembers_14 : decode cX11_remembers 14 = .ok (.istore_n 1, 1) := by decide +kernel
theorem dX11_remembers_15 : decode cX11_remembers 15 = .ok (.iload_n 1, 1) := by decide +kernel
theorem dX11_remembers_16 : decode cX11_remembers 16 = .ok (.sipush 231, 3) := by decide +kernel
theorem dX11_remembers_19 : decode cX11_remembers 19 = .ok (.if_icmp .ge 24, 3) := by decide +kernel
theorem dX11_remembers_22 : decode cX11_remembers 22 = .ok (.aload_n 0, 1) := by decide +kernel
theorem dX11_remembers_23 : decode cX11_remembers 23 = .ok (.getfield 19, 3) := by decide +kernel
theorem dX11_remembers_26 : decode cX11_remembers 26 = .ok (.iload_n 1, 1) := by decide +kernel
theorem dX11_remembers_27 : decode cX11_remembers 27 = .ok (.aload_n 0, 1) := by decide +kernel
theorem dX11_remembers_28 : decode cX11_remembers 28 = .ok (.getfield 19, 3) := by decide +kernel
theorem dX11_remembers_31 : decode cX11_remembers 31 = .ok (.iload_n 1, 1) := by decide +kernel
theorem dX11_remembers_32 : decode cX11_remembers 32 = .ok (.bipush 23, 2) := by decide +kernel
theorem dX11_remembers_34 : decode cX11_remembers 34 = .ok (.iadd, 1) := by decide +kernel
theorem dX11_remembers_35 : decode cX11_remembers 35 = .ok (.iaload, 1) := by decide +kernel
theorem dX11_remembers_36 : decode cX11_remembers 36 = .ok (.iastore, 1) := by decide +kernel
theorem dX11_remembers_37 : decode cX11_remembers 37 = .ok (.iinc 1 1, 3) := by decide +kernel
theorem dX11_remembers_40 : decode cX11_remembers 40 = .ok (.goto (-25), 3) := by decide +kernel
theorem dX11_remembers_43 : decode cX11_remembers 43 = .ok (.aload_n 0, 1) := by decide +kernel
theorem dX11_remembers_44 : decode cX11_remembers 44 = .ok (.getfield 19, 3) := by decide +kernel
theorem dX11_remembers_47 : decode cX11_remembers 47 = .ok (.bipush 23, 2) := by decide +kernel
theorem dX11_remembers_49 : decode cX11_remembers 49 = .ok (.dup2, 1) := by decide +kernel
theorem dX11_remembers_50 : decode cX11_remembers 50 = .ok (.iaload, 1) := by decide +kernel
theorem dX11_remembers_51 : decode cX11_remembers 51 = .ok (.iconst 1, 1) := by decide +kernel
theorem dX11_remembers_52 : decode cX11_remembers 52 = .ok (.isub, 1) := by decide +kernel
theorem dX11_remembers_53 : decode cX11_remembers 53 = .ok (.iastore, 1) := by decide +kernel
theorem dX11_remembers_54 : decode cX11_remembers 54 = .ok (.bipush 24, 2) := by decide +kernel
theorem dX11_remembers_56 : decode cX11_remembers 56 = .ok (.bipush 23, 2) := by decide +kernel
theorem dX11_remembers_58 : decode cX11_remembers 58 = .ok (.aload_n 0, 1) := by decide +kernel
theorem dX11_remembers_59 : decode cX11_remembers 59 = .ok (.getfield 19, 3) := by decide +kernel
theorem dX11_remembers_62 : decode cX11_remembers 62 = .ok (.bipush 23, 2) := by decide +kernel
theorem dX11_remembers_64 : decode cX11_remembers 64 = .ok (.iaload, 1) := by decide +kernel
theorem dX11_remembers_65 : decode cX11_remembers 65 = .ok (.imul, 1) := by decide +kernel
theorem dX11_remembers_66 : decode cX11_remembers 66 = .ok (.iadd, 1) := by decide +kernel
theorem dX11_remembers_67 : decode cX11_remembers 67 = .ok (.istore_n 1, 1) := by decide +kernel
theorem dX11_remembers_68 : decode cX11_remembers 68 = .ok (.iconst 0, 1) := by decide +kernel
theorem dX11_remembers_69 : decode cX11_remembers 69 = .ok (.istore_n 2, 1) := by decide +kernel
theorem dX11_remembers_70 : decode cX11_remembers 70 = .ok (.iload_n 2, 1) := by decide +kernel
theorem dX11_remembers_71 : decode cX11_remembers 71 = .ok (.bipush 23, 2) := by decide +kernel
theorem dX11_remembers_73 : decode cX11_remembers 73 = .ok (.if_icmp .ge 23, 3) := by decide +kernel
theorem dX11_remembers_76 : decode cX11_remembers 76 = .ok (.aload_n 0, 1) := by decide +kernel
theorem dX11_remembers_77 : decode cX11_remembers 77 = .ok (.getfield 19, 3) := by decide +kernel
theorem dX11_remembers_80 : decode cX11_remembers 80 = .ok (.iload_n 1, 1) := by decide +kernel
theorem dX11_remembers_81 : decode cX11_remembers 81 = .ok (.iload_n 2, 1) := by decide +kernel
theorem dX11_remembers_82 : decode cX11_remembers 82 = .ok (.iadd, 1) := by decide +kernel
theorem dX11_remembers_83 : decode cX11_remembers 83 = .ok (.aload_n 0, 1) := by decide +kernel
theorem dX11_remembers_84 : decode cX11_remembers 84 = .ok (.getfield 19, 3) := by decide +kernel
theorem dX11_remembers_87 : decode cX11_remembers 87 = .ok (.iload_n 2, 1) := by decide +kernel
theorem dX11_remembers_88 : decode cX11_remembers 88 = .ok (.iaload, 1) := by decide +kernel
theorem dX11_remembers_89 : decode cX11_remembers 89 = .ok (.iastore, 1) := by decide +kernel
theorem dX11_remembers_90 : decode cX11_remembers 90 = .ok (.iinc 2 1, 3) := by decide +kernel
theorem dX11_remembers_93 : decode cX11_remembers 93 = .ok (.goto (-23), 3) := by decide +kernel
theorem dX11_remembers_96 : decode cX11_remembers 96 = .ok (.aload_n 0, 1) := by decide +kernel
theorem dX11_remembers_97 : decode cX11_remembers 97 = .ok (.getfield 19, 3) := by decide +kernel
theorem dX11_remembers_100 : decode cX11_remembers 100 = .ok (.bipush 23, 2) := by decide +kernel
theorem dX11_remembers_102 : decode cX11_remembers 102 = .ok (.dup2, 1) := by decide +kernel
theorem dX11_remembers_103 : decode cX11_remembers 103 = .ok (.iaload, 1) := by decide +kernel
theorem dX11_remembers_104 : decode cX11_remembers 104 = .ok (.iconst 1, 1) := by decide +kernel
theorem dX11_remembers_105 : decode cX11_remembers 105 = .ok (.iadd, 1) := by decide +kernel
theorem dX11_remembers_106 : decode cX11_remembers 106 = .ok (.iastore, 1) := by decide +kernel
theorem dX11_remembers_107 : decode cX11_remembers 107 = .ok (.return_, 1) := by decide +kernel
set_option maxRecDepth 20000 in
theorem ggX11_gives_X11_isHeld : GoodIn wsX11_gives wsX11_isHeld := goodIn_r _ [7, 1, 8, 9, 10, 11, 12, 13, 14, 15, 16, 17, 18, 19, 20, 21, 22, 23, 24, 25, 26, 27, 28, 29] (by decide +kernel) (by decide +kernel)
set_option maxRecDepth 20000 in
theorem gX11_gives_X11_isHeld : GoodIn wsX11_gives (wsV RX11 116 RX11 yX11_isHeld wsX11_isHeld) := goodIn_app (goodIn_of _ (by decide +kernel)) ggX11_gives_X11_isHeld
theorem dX11_gives_0 : decode cX11_gives 0 = .ok (.aload_n 0, 1) := by decide +kernel
theorem dX11_gives_1 : decode cX11_gives 1 = .ok (.invokevirtual 116, 3) := by decide +kernel
theorem dX11_gives_4 : decode cX11_gives 4 = .ok (.ifCond .ne 5, 3) := by decide +kernel
theorem dX11_gives_7 : decode cX11_gives 7 = .ok (.iconst 0, 1) := by decide +kernel
theorem dX11_gives_8 : decode cX11_gives 8 = .ok (.ireturn, 1) := by decide +kernel
theorem dX11_gives_9 : decode cX11_gives 9 = .ok (.aload_n 0, 1) := by decide +kernel
theorem dX11_gives_10 : decode cX11_gives 10 = .ok (.getfield 19, 3) := by decide +kernel
theorem dX11_gives_13 : decode cX11_gives 13 = .ok (.iconst 1, 1) := by decide +kernel
theorem dX11_gives_14 : decode cX11_gives 14 = .ok (.iaload, 1) := by decide +kernel
theorem dX11_gives_15 : decode cX11_gives 15 = .ok (.istore_n 1, 1) := by decide +kernel
theorem dX11_gives_16 : decode cX11_gives 16 = .ok (.aload_n 0, 1) := by decide +kernel
theorem dX11_gives_17 : decode cX11_gives 17 = .ok (.getfield 19, 3) := by decide +kernel
theorem dX11_gives_20 : decode cX11_gives 20 = .ok (.iconst 0, 1) := by decide +kernel
theorem dX11_gives_21 : decode cX11_gives 21 = .ok (.iaload, 1) := by decide +kernel
theorem dX11_gives_22 : decode cX11_gives 22 = .ok (.aload_n 0, 1) := by decide +kernel
theorem dX11_gives_23 : decode cX11_gives 23 = .ok (.getfield 19, 3) := by decide +kernel
theorem dX11_gives_26 : decode cX11_gives 26 = .ok (.iconst 2, 1) := by decide +kernel
theorem dX11_gives_27 : decode cX11_gives 27 = .ok (.iaload, 1) := by decide +kernel
theorem dX11_gives_28 : decode cX11_gives 28 = .ok (.isub, 1) := by decide +kernel
theorem dX11_gives_29 : decode cX11_gives 29 = .ok (.aload_n 0, 1) := by decide +kernel
theorem dX11_gives_30 : decode cX11_gives 30 = .ok (.getfield 13, 3) := by decide +kernel
theorem dX11_gives_33 : decode cX11_gives 33 = .ok (.iconst 3, 1) := by decide +kernel
theorem dX11_gives_34 : decode cX11_gives 34 = .ok (.iaload, 1) := by decide +kernel
theorem dX11_gives_35 : decode cX11_gives 35 = .ok (.isub, 1) := by decide +kernel
theorem dX11_gives_36 : decode cX11_gives 36 = .ok (.istore_n 2, 1) := by decide +kernel
theorem dX11_gives_37 : decode cX11_gives 37 = .ok (.aload_n 0, 1) := by decide +kernel
theorem dX11_gives_38 : decode cX11_gives 38 = .ok (.getfield 19, 3) := by decide +kernel
theorem dX11_gives_41 : decode cX11_gives 41 = .ok (.bipush 16, 2) := by decide +kernel
theorem dX11_gives_43 : decode cX11_gives 43 = .ok (.iload_n 1, 1) := by decide +kernel
theorem dX11_gives_44 : decode cX11_gives 44 = .ok (.iadd, 1) := by decide +kernel
theorem dX11_gives_45 : decode cX11_gives 45 = .ok (.iaload, 1) := by decide +kernel
theorem dX11_gives_46 : decode cX11_gives 46 = .ok (.iload_n 2, 1) := by decide +kernel
theorem dX11_gives_47 : decode cX11_gives 47 = .ok (.ifCond .le 7, 3) := by decide +kernel
theorem dX11_gives_50 : decode cX11_gives 50 = .ok (.iload_n 2, 1) := by decide +kernel
theorem dX11_gives_51 : decode cX11_gives 51 = .ok (.goto 4, 3) := by decide +kernel
theorem dX11_gives_54 : decode cX11_gives 54 = .ok (.iconst 0, 1) := by decide +kernel
theorem dX11_gives_55 : decode cX11_gives 55 = .ok (.iadd, 1) := by decide +kernel
theorem dX11_gives_56 : decode cX11_gives 56 = .ok (.istore_n 3, 1) := by decide +kernel
theorem dX11_gives_57 : decode cX11_gives 57 = .ok (.aload_n 0, 1) := by decide +kernel
theorem dX11_gives_58 : decode cX11_gives 58 = .ok (.getfield 19, 3) := by decide +kernel
theorem dX11_gives_61 : decode cX11_gives 61 = .ok (.bipush 16, 2) := by decide +kernel
theorem dX11_gives_63 : decode cX11_gives 63 = .ok (.iload_n 1, 1) := by decide +kernel
theorem dX11_gives_64 : decode cX11_gives 64 = .ok (.iadd, 1) := by decide +kernel
theorem dX11_gives_65 : decode cX11_gives 65 = .ok (.iload_n 3, 1) := by decide +kernel
theorem dX11_gives_66 : decode cX11_gives 66 = .ok (.sipush 999, 3) := by decide +kernel
theorem dX11_gives_69 : decode cX11_gives 69 = .ok (.if_icmp .le 9, 3) := by decide +kernel
theorem dX11_gives_72 : decode cX11_gives 72 = .ok (.sipush 999, 3) := by decide +kernel
theorem dX11_gives_75 : decode cX11_gives 75 = .ok (.goto 4, 3) := by decide +kernel
theorem dX11_gives_78 : decode cX11_gives 78 = .ok (.iload_n 3, 1) := by decide +kernel
theorem dX11_gives_79 : decode cX11_gives 79 = .ok (.iastore, 1) := by decide +kernel
theorem dX11_gives_80 : decode cX11_gives 80 = .ok (.aload_n 0, 1) := by decide +kernel
theorem dX11_gives_81 : decode cX11_gives 81 = .ok (.getfield 19, 3) := by decide +kernel
theorem dX11_gives_84 : decode cX11_gives 84 = .ok (.bipush 10, 2) := by decide +kernel
theorem dX11_gives_86 : decode cX11_gives 86 = .ok (.iload_n 1, 1) := by decide +kernel
theorem dX11_gives_87 : decode cX11_gives 87 = .ok (.iadd, 1) := by decide +kernel
theorem dX11_gives_88 : decode cX11_gives 88 = .ok (.aload_n 0, 1) := by decide +kernel
theorem dX11_gives_89 : decode cX11_gives 89 = .ok (.getfield 19, 3) := by decide +kernel
theorem dX11_gives_92 : decode cX11_gives 92 = .ok (.iconst 0, 1) := by decide +kernel
theorem dX11_gives_93 : decode cX11_gives 93 = .ok (.iaload, 1) := by decide +kernel
theorem dX11_gives_94 : decode cX11_gives 94 = .ok (.iastore, 1) := by decide +kernel
theorem dX11_gives_95 : decode cX11_gives 95 = .ok (.aload_n 0, 1) := by decide +kernel
theorem dX11_gives_96 : decode cX11_gives 96 = .ok (.getfield 19, 3) := by decide +kernel
theorem dX11_gives_99 : decode cX11_gives 99 = .ok (.bipush 16, 2) := by decide +kernel
theorem dX11_gives_101 : decode cX11_gives 101 = .ok (.iload_n 1, 1) := by decide +kernel
theorem dX11_gives_102 : decode cX11_gives 102 = .ok (.iadd, 1) := by decide +kernel
theorem dX11_gives_103 : decode cX11_gives 103 = .ok (.iaload, 1) := by decide +kernel
theorem dX11_gives_104 : decode cX11_gives 104 = .ok (.ireturn, 1) := by decide +kernel
set_option maxRecDepth 20000 in
theorem ggX11_spoonAt_X11_isHeld : GoodIn wsX11_spoonAt wsX11_isHeld := goodIn_r _ [7, 1, 8, 9, 10, 11, 12, 13, 14, 15, 16, 17, 18, 19, 20, 21, 22, 23, 24, 25, 26, 27, 28, 29] (by decide +kernel) (by decide +kernel)
set_option maxRecDepth 20000 in
theorem gX11_spoonAt_X11_isHeld : GoodIn wsX11_spoonAt (wsV RX11 116 RX11 yX11_isHeld wsX11_isHeld) := goodIn_app (goodIn_of _ (by decide +kernel)) ggX11_spoonAt_X11_isHeld
theorem dX11_spoonAt_0 : decode cX11_spoonAt 0 = .ok (.aload_n 0, 1) := by decide +kernel
theorem dX11_spoonAt_1 : decode cX11_spoonAt 1 = .ok (.invokevirtual 116, 3) := by decide +kernel
theorem dX11_spoonAt_4 : decode cX11_spoonAt 4 = .ok (.ifCond .eq 19, 3) := by decide +kernel
theorem dX11_spoonAt_7 : decode cX11_spoonAt 7 = .ok (.aload_n 0, 1) := by decide +kernel
theorem dX11_spoonAt_8 : decode cX11_spoonAt 8 = .ok (.getfield 19, 3) := by decide +kernel
theorem dX11_spoonAt_11 : decode cX11_spoonAt 11 = .ok (.iconst 4, 1) := by decide +kernel
theorem dX11_spoonAt_12 : decode cX11_spoonAt 12 = .ok (.aload_n 0, 1) := by decide +kernel
theorem dX11_spoonAt_13 : decode cX11_spoonAt 13 = .ok (.getfield 19, 3) := by decide +kernel
theorem dX11_spoonAt_16 : decode cX11_spoonAt 16 = .ok (.iconst 1, 1) := by decide +kernel
theorem dX11_spoonAt_17 : decode cX11_spoonAt 17 = .ok (.iaload, 1) := by decide +kernel
theorem dX11_spoonAt_18 : decode cX11_spoonAt 18 = .ok (.iadd, 1) := by decide +kernel
theorem dX11_spoonAt_19 : decode cX11_spoonAt 19 = .ok (.iaload, 1) := by decide +kernel
theorem dX11_spoonAt_20 : decode cX11_spoonAt 20 = .ok (.goto 9, 3) := by decide +kernel
theorem dX11_spoonAt_23 : decode cX11_spoonAt 23 = .ok (.aload_n 0, 1) := by decide +kernel
theorem dX11_spoonAt_24 : decode cX11_spoonAt 24 = .ok (.getfield 13, 3) := by decide +kernel
theorem dX11_spoonAt_27 : decode cX11_spoonAt 27 = .ok (.iconst 2, 1) := by decide +kernel
theorem dX11_spoonAt_28 : decode cX11_spoonAt 28 = .ok (.iaload, 1) := by decide +kernel
theorem dX11_spoonAt_29 : decode cX11_spoonAt 29 = .ok (.ireturn, 1) := by decide +kernel
set_option maxRecDepth 20000 in
theorem ggX11_lends_X11_isOne : GoodIn wsX11_lends wsX11_isOne := goodIn_r _ [6, 7, 8, 9, 5, 10, 27, 28, 29, 30, 31, 32, 33, 34, 35, 36, 37, 38, 39, 40, 41, 42, 43, 44, 45, 46, 47, 48] (by decide +kernel) (by decide +kernel)
set_option maxRecDepth 20000 in
theorem gX11_lends_X11_isOne : GoodIn wsX11_lends (wsV RX11 100 RX11 yX11_isOne wsX11_isOne) := goodIn_app (goodIn_of _ (by decide +kernel)) ggX11_lends_X11_isOne
set_option maxRecDepth 20000 in
theorem ggX11_lends_X11_spoonAt : GoodIn wsX11_lends wsX11_spoonAt := goodIn_r _ [14, 1, 7, 15, 16, 17, 5, 18, 27, 28, 29, 30, 31, 32, 33, 34, 35, 36, 37, 38, 39, 40, 41, 42, 43, 44, 45, 46, 47, 48] (by decide +kernel) (by decide +kernel)
set_option maxRecDepth 20000 in
theorem gX11_lends_X11_spoonAt : GoodIn wsX11_lends (wsV RX11 119 RX11 yX11_spoonAt wsX11_spoonAt) := goodIn_app (goodIn_of _ (by decide +kernel)) ggX11_lends_X11_spoonAt
set_option maxRecDepth 20000 in
theorem ggX11_lends_X11_remembers : GoodIn wsX11_lends wsX11_remembers := goodIn_r _ [22, 1, 27, 28, 29, 30, 31, 32, 33, 34, 35, 36, 37, 38, 39, 40, 41, 42, 43, 44, 45, 46, 47, 48] (by decide +kernel) (by decide +kernel)
set_option maxRecDepth 20000 in
theorem gX11_lends_X11_remembers : GoodIn wsX11_lends (wsV RX11 123 RX11 yX11_remembers wsX11_remembers) := goodIn_app (goodIn_of _ (by decide +kernel)) ggX11_lends_X11_remembers
set_option maxRecDepth 20000 in
theorem ggX11_lends_X11_gives : GoodIn wsX11_lends wsX11_gives := goodIn_r _ [26, 1, 7, 15, 16, 17, 5, 18, 27, 28, 29, 30, 31, 32, 33, 34, 35, 36, 37, 38, 39, 40, 41, 42, 43, 44, 45, 46, 47, 48] (by decide +kernel) (by decide +kernel)
set_option maxRecDepth 20000 in
theorem gX11_lends_X11_gives : GoodIn wsX11_lends (wsV RX11 126 RX11 yX11_gives wsX11_gives) := goodIn_app (goodIn_of _ (by decide +kernel)) ggX11_lends_X11_gives
theorem dX11_lends_0 : decode cX11_lends 0 = .ok (.aload_n 0, 1) := by decide +kernel
theorem dX11_lends_1 : decode cX11_lends 1 = .ok (.iload_n 1, 1) := by decide +kernel
theorem dX11_lends_2 : decode cX11_lends 2 = .ok (.invokevirtual 100, 3) := by decide +kernel
theorem dX11_lends_5 : decode cX11_lends 5 = .ok (.ifCond .ne 5, 3) := by decide +kernel
theorem dX11_lends_8 : decode cX11_lends 8 = .ok (.iconst (-1), 1) := by decide +kernel
theorem dX11_lends_9 : decode cX11_lends 9 = .ok (.ireturn, 1) := by decide +kernel
theorem dX11_lends_10 : decode cX11_lends 10 = .ok (.aload_n 0, 1) := by decide +kernel
theorem dX11_lends_11 : decode cX11_lends 11 = .ok (.getfield 19, 3) := by decide +kernel
theorem dX11_lends_14 : decode cX11_lends 14 = .ok (.iconst 1, 1) := by decide +kernel
theorem dX11_lends_15 : decode cX11_lends 15 = .ok (.iaload, 1) := by decide +kernel
theorem dX11_lends_16 : decode cX11_lends 16 = .ok (.iload_n 1, 1) := by decide +kernel
theorem dX11_lends_17 : decode cX11_lends 17 = .ok (.if_icmp .eq 18, 3) := by decide +kernel
theorem dX11_lends_20 : decode cX11_lends 20 = .ok (.aload_n 0, 1) := by decide +kernel
theorem dX11_lends_21 : decode cX11_lends 21 = .ok (.getfield 19, 3) := by decide +kernel
theorem dX11_lends_24 : decode cX11_lends 24 = .ok (.iconst 4, 1) := by decide +kernel
theorem dX11_lends_25 : decode cX11_lends 25 = .ok (.iload_n 1, 1) := by decide +kernel
theorem dX11_lends_26 : decode cX11_lends 26 = .ok (.iadd, 1) := by decide +kernel
theorem dX11_lends_27 : decode cX11_lends 27 = .ok (.iaload, 1) := by decide +kernel
theorem dX11_lends_28 : decode cX11_lends 28 = .ok (.aload_n 0, 1) := by decide +kernel
theorem dX11_lends_29 : decode cX11_lends 29 = .ok (.invokevirtual 119, 3) := by decide +kernel
theorem dX11_lends_32 : decode cX11_lends 32 = .ok (.if_icmp .eq 6, 3) := by decide +kernel
theorem dX11_lends_35 : decode cX11_lends 35 = .ok (.bipush (-2), 2) := by decide +kernel
theorem dX11_lends_37 : decode cX11_lends 37 = .ok (.ireturn, 1) := by decide +kernel
theorem dX11_lends_38 : decode cX11_lends 38 = .ok (.aload_n 0, 1) := by decide +kernel
theorem dX11_lends_39 : decode cX11_lends 39 = .ok (.invokevirtual 123, 3) := by decide +kernel
theorem dX11_lends_42 : decode cX11_lends 42 = .ok (.aload_n 0, 1) := by decide +kernel
theorem dX11_lends_43 : decode cX11_lends 43 = .ok (.invokevirtual 126, 3) := by decide +kernel
theorem dX11_lends_46 : decode cX11_lends 46 = .ok (.istore_n 2, 1) := by decide +kernel
theorem dX11_lends_47 : decode cX11_lends 47 = .ok (.aload_n 0, 1) := by decide +kernel
theorem dX11_lends_48 : decode cX11_lends 48 = .ok (.getfield 19, 3) := by decide +kernel
theorem dX11_lends_51 : decode cX11_lends 51 = .ok (.iconst 1, 1) := by decide +kernel
theorem dX11_lends_52 : decode cX11_lends 52 = .ok (.iload_n 1, 1) := by decide +kernel
theorem dX11_lends_53 : decode cX11_lends 53 = .ok (.iastore, 1) := by decide +kernel
theorem dX11_lends_54 : decode cX11_lends 54 = .ok (.aload_n 0, 1) := by decide +kernel
theorem dX11_lends_55 : decode cX11_lends 55 = .ok (.getfield 19, 3) := by decide +kernel
theorem dX11_lends_58 : decode cX11_lends 58 = .ok (.iconst 2, 1) := by decide +kernel
theorem dX11_lends_59 : decode cX11_lends 59 = .ok (.aload_n 0, 1) := by decide +kernel
theorem dX11_lends_60 : decode cX11_lends 60 = .ok (.getfield 19, 3) := by decide +kernel
theorem dX11_lends_63 : decode cX11_lends 63 = .ok (.iconst 0, 1) := by decide +kernel
theorem dX11_lends_64 : decode cX11_lends 64 = .ok (.iaload, 1) := by decide +kernel
theorem dX11_lends_65 : decode cX11_lends 65 = .ok (.iastore, 1) := by decide +kernel
theorem dX11_lends_66 : decode cX11_lends 66 = .ok (.aload_n 0, 1) := by decide +kernel
theorem dX11_lends_67 : decode cX11_lends 67 = .ok (.getfield 19, 3) := by decide +kernel
theorem dX11_lends_70 : decode cX11_lends 70 = .ok (.iconst 3, 1) := by decide +kernel
theorem dX11_lends_71 : decode cX11_lends 71 = .ok (.iconst 1, 1) := by decide +kernel
theorem dX11_lends_72 : decode cX11_lends 72 = .ok (.iastore, 1) := by decide +kernel
theorem dX11_lends_73 : decode cX11_lends 73 = .ok (.iload_n 2, 1) := by decide +kernel
theorem dX11_lends_74 : decode cX11_lends 74 = .ok (.ireturn, 1) := by decide +kernel
set_option maxRecDepth 20000 in
theorem ggX11_brings_X11_isHeld : GoodIn wsX11_brings wsX11_isHeld := goodIn_r _ [7, 2, 20, 21, 22, 23, 24, 25, 26, 27, 28, 29, 30, 31, 32, 33, 34, 35, 36, 37, 38, 39, 40, 41] (by decide +kernel) (by decide +kernel)
set_option maxRecDepth 20000 in
theorem gX11_brings_X11_isHeld : GoodIn wsX11_brings (wsV RX11 116 RX11 yX11_isHeld wsX11_isHeld) := goodIn_app (goodIn_of _ (by decide +kernel)) ggX11_brings_X11_isHeld
set_option maxRecDepth 20000 in
theorem ggX11_brings_X11_spoonAt : GoodIn wsX11_brings wsX11_spoonAt := goodIn_r _ [11, 2, 1, 3, 4, 5, 6, 7, 20, 21, 22, 23, 24, 25, 26, 27, 28, 29, 30, 31, 32, 33, 34, 35, 36, 37, 38, 39, 40, 41] (by decide +kernel) (by decide +kernel)
set_option maxRecDepth 20000 in
theorem gX11_brings_X11_spoonAt : GoodIn wsX11_brings (wsV RX11 119 RX11 yX11_spoonAt wsX11_spoonAt) := goodIn_app (goodIn_of _ (by decide +kernel)) ggX11_brings_X11_spoonAt
set_option maxRecDepth 20000 in
theorem ggX11_brings_X11_remembers : GoodIn wsX11_brings wsX11_remembers := goodIn_r _ [15, 2, 20, 21, 22, 23, 24, 25, 26, 27, 28, 29, 30, 31, 32, 33, 34, 35, 36, 37, 38, 39, 40, 41] (by decide +kernel) (by decide +kernel)
set_option maxRecDepth 20000 in
theorem gX11_brings_X11_remembers : GoodIn wsX11_brings (wsV RX11 123 RX11 yX11_remembers wsX11_remembers) := goodIn_app (goodIn_of _ (by decide +kernel)) ggX11_brings_X11_remembers
set_option maxRecDepth 20000 in
theorem ggX11_brings_X11_gives : GoodIn wsX11_brings wsX11_gives := goodIn_r _ [19, 2, 1, 3, 4, 5, 6, 7, 20, 21, 22, 23, 24, 25, 26, 27, 28, 29, 30, 31, 32, 33, 34, 35, 36, 37, 38, 39, 40, 41] (by decide +kernel) (by decide +kernel)
set_option maxRecDepth 20000 in
theorem gX11_brings_X11_gives : GoodIn wsX11_brings (wsV RX11 126 RX11 yX11_gives wsX11_gives) := goodIn_app (goodIn_of _ (by decide +kernel)) ggX11_brings_X11_gives
theorem dX11_brings_0 : decode cX11_brings 0 = .ok (.aload_n 0, 1) := by decide +kernel
theorem dX11_brings_1 : decode cX11_brings 1 = .ok (.invokevirtual 116, 3) := by decide +kernel
theorem dX11_brings_4 : decode cX11_brings 4 = .ok (.ifCond .eq 16, 3) := by decide +kernel
theorem dX11_brings_7 : decode cX11_brings 7 = .ok (.aload_n 0, 1) := by decide +kernel
theorem dX11_brings_8 : decode cX11_brings 8 = .ok (.invokevirtual 119, 3) := by decide +kernel
theorem dX11_brings_11 : decode cX11_brings 11 = .ok (.aload_n 0, 1) := by decide +kernel
theorem dX11_brings_12 : decode cX11_brings 12 = .ok (.getfield 13, 3) := by decide +kernel
theorem dX11_brings_15 : decode cX11_brings 15 = .ok (.iconst 2, 1) := by decide +kernel
theorem dX11_brings_16 : decode cX11_brings 16 = .ok (.iaload, 1) := by decide +kernel
theorem dX11_brings_17 : decode cX11_brings 17 = .ok (.if_icmp .eq 6, 3) := by decide +kernel
theorem dX11_brings_20 : decode cX11_brings 20 = .ok (.bipush (-2), 2) := by decide +kernel
theorem dX11_brings_22 : decode cX11_brings 22 = .ok (.ireturn, 1) := by decide +kernel
theorem dX11_brings_23 : decode cX11_brings 23 = .ok (.aload_n 0, 1) := by decide +kernel
theorem dX11_brings_24 : decode cX11_brings 24 = .ok (.invokevirtual 123, 3) := by decide +kernel
theorem dX11_brings_27 : decode cX11_brings 27 = .ok (.aload_n 0, 1) := by decide +kernel
theorem dX11_brings_28 : decode cX11_brings 28 = .ok (.invokevirtual 126, 3) := by decide +kernel
theorem dX11_brings_31 : decode cX11_brings 31 = .ok (.istore_n 1, 1) := by decide +kernel
theorem dX11_brings_32 : decode cX11_brings 32 = .ok (.aload_n 0, 1) := by decide +kernel
theorem dX11_brings_33 : decode cX11_brings 33 = .ok (.getfield 19, 3) := by decide +kernel
theorem dX11_brings_36 : decode cX11_brings 36 = .ok (.iconst 1, 1) := by decide +kernel
theorem dX11_brings_37 : decode cX11_brings 37 = .ok (.bipush (-9), 2) := by decide +kernel
theorem dX11_brings_39 : decode cX11_brings 39 = .ok (.iastore, 1) := by decide +kernel
theorem dX11_brings_40 : decode cX11_brings 40 = .ok (.aload_n 0, 1) := by decide +kernel
theorem dX11_brings_41 : decode cX11_brings 41 = .ok (.getfield 19, 3) := by decide +kernel
theorem dX11_brings_44 : decode cX11_brings 44 = .ok (.iconst 2, 1) := by decide +kernel
theorem dX11_brings_45 : decode cX11_brings 45 = .ok (.iconst 0, 1) := by decide +kernel
theorem dX11_brings_46 : decode cX11_brings 46 = .ok (.iastore, 1) := by decide +kernel
theorem dX11_brings_47 : decode cX11_brings 47 = .ok (.aload_n 0, 1) := by decide +kernel
theorem dX11_brings_48 : decode cX11_brings 48 = .ok (.getfield 19, 3) := by decide +kernel
theorem dX11_brings_51 : decode cX11_brings 51 = .ok (.iconst 3, 1) := by decide +kernel
theorem dX11_brings_52 : decode cX11_brings 52 = .ok (.iconst 0, 1) := by decide +kernel
theorem dX11_brings_53 : decode cX11_brings 53 = .ok (.iastore, 1) := by decide +kernel
theorem dX11_brings_54 : decode cX11_brings 54 = .ok (.iload_n 1, 1) := by decide +kernel
theorem dX11_brings_55 : decode cX11_brings 55 = .ok (.ireturn, 1) := by decide +kernel
set_option maxRecDepth 20000 in
theorem ggX11_walks_X11_in : GoodIn wsX11_walks wsX11_in := goodIn_r _ [5] (by decide +kernel) (by decide +kernel)
set_option maxRecDepth 20000 in
theorem gX11_walks_X11_in : GoodIn wsX11_walks (va_wsS RX11 54 yX11_in wsX11_in) := goodIn_app (goodIn_of _ (by decide +kernel)) ggX11_walks_X11_in
set_option maxRecDepth 20000 in
theorem ggX11_walks_X11_spoonAt : GoodIn wsX11_walks wsX11_spoonAt := goodIn_r _ [9, 1, 10, 11, 12, 13, 4, 14, 22, 23, 24, 25, 26, 27, 28, 29, 30, 31, 32, 33, 34, 35, 36, 37, 38, 39, 40, 41, 42, 43] (by decide +kernel) (by decide +kernel)
set_option maxRecDepth 20000 in
theorem gX11_walks_X11_spoonAt : GoodIn wsX11_walks (wsV RX11 119 RX11 yX11_spoonAt wsX11_spoonAt) := goodIn_app (goodIn_of _ (by decide +kernel)) ggX11_walks_X11_spoonAt
set_option maxRecDepth 20000 in
theorem ggX11_walks_X11_far : GoodIn wsX11_walks wsX11_far := goodIn_r _ [17] (by decide +kernel) (by decide +kernel)
set_option maxRecDepth 20000 in
theorem gX11_walks_X11_far : GoodIn wsX11_walks (va_wsS RX11 129 yX11_far wsX11_far) := goodIn_app (goodIn_of _ (by decide +kernel)) ggX11_walks_X11_far
set_option maxRecDepth 20000 in
theorem ggX11_walks_X11_isHeld : GoodIn wsX11_walks wsX11_isHeld := goodIn_r _ [14, 1, 22, 23, 24, 25, 26, 27, 28, 29, 30, 31, 32, 33, 34, 35, 36, 37, 38, 39, 40, 41, 42, 43] (by decide +kernel) (by decide +kernel)
set_option maxRecDepth 20000 in
theorem gX11_walks_X11_isHeld : GoodIn wsX11_walks (wsV RX11 116 RX11 yX11_isHeld wsX11_isHeld) := goodIn_app (goodIn_of _ (by decide +kernel)) ggX11_walks_X11_isHeld
set_option maxRecDepth 20000 in
theorem ggX11_walks_X11_remembers : GoodIn wsX11_walks wsX11_remembers := goodIn_r _ [21, 1, 22, 23, 24, 25, 26, 27, 28, 29, 30, 31, 32, 33, 34, 35, 36, 37, 38, 39, 40, 41, 42, 43] (by decide +kernel) (by decide +kernel)
set_option maxRecDepth 20000 in
theorem gX11_walks_X11_remembers : GoodIn wsX11_walks (wsV RX11 123 RX11 yX11_remembers wsX11_remembers) := goodIn_app (goodIn_of _ (by decide +kernel)) ggX11_walks_X11_remembers
theorem dX11_walks_0 : decode cX11_walks 0 = .ok (.iload_n 1, 1) := by decide +kernel
theorem dX11_walks_1 : decode cX11_walks 1 = .ok (.iconst 0, 1) := by decide +kernel
theorem dX11_walks_2 : decode cX11_walks 2 = .ok (.bipush 30, 2) := by decide +kernel
theorem dX11_walks_4 : decode cX11_walks 4 = .ok (.invokestatic 54, 3) := by decide +kernel
theorem dX11_walks_7 : decode cX11_walks 7 = .ok (.ifCond .ne 5, 3) := by decide +kernel
theorem dX11_walks_10 : decode cX11_walks 10 = .ok (.iconst (-1), 1) := by decide +kernel
theorem dX11_walks_11 : decode cX11_walks 11 = .ok (.ireturn, 1) := by decide +kernel
theorem dX11_walks_12 : decode cX11_walks 12 = .ok (.aload_n 0, 1) := by decide +kernel
end
section
theorem dX11_walks_13 : decode cX11_walks 13 = .ok (.invokevirtual 119, 3) := by decide +kernel
theorem dX11_walks_16 : decode cX11_walks 16 = .ok (.iload_n 1, 1) := by decide +kernel
theorem dX11_walks_17 : decode cX11_walks 17 = .ok (.invokestatic 129, 3) := by decide +kernel
theorem dX11_walks_20 : decode cX11_walks 20 = .ok (.istore_n 2, 1) := by decide +kernel
theorem dX11_walks_21 : decode cX11_walks 21 = .ok (.aload_n 0, 1) := by decide +kernel
theorem dX11_walks_22 : decode cX11_walks 22 = .ok (.invokevirtual 116, 3) := by decide +kernel
theorem dX11_walks_25 : decode cX11_walks 25 = .ok (.ifCond .eq 21, 3) := by decide +kernel
theorem dX11_walks_28 : decode cX11_walks 28 = .ok (.iload_n 2, 1) := by decide +kernel
theorem dX11_walks_29 : decode cX11_walks 29 = .ok (.ifCond .eq 17, 3) := by decide +kernel
theorem dX11_walks_32 : decode cX11_walks 32 = .ok (.aload_n 0, 1) := by decide +kernel
theorem dX11_walks_33 : decode cX11_walks 33 = .ok (.getfield 19, 3) := by decide +kernel
theorem dX11_walks_36 : decode cX11_walks 36 = .ok (.iconst 0, 1) := by decide +kernel
theorem dX11_walks_37 : decode cX11_walks 37 = .ok (.iaload, 1) := by decide +kernel
theorem dX11_walks_38 : decode cX11_walks 38 = .ok (.iload_n 2, 1) := by decide +kernel
theorem dX11_walks_39 : decode cX11_walks 39 = .ok (.iadd, 1) := by decide +kernel
theorem dX11_walks_40 : decode cX11_walks 40 = .ok (.sipush 200, 3) := by decide +kernel
theorem dX11_walks_43 : decode cX11_walks 43 = .ok (.if_icmp .le 6, 3) := by decide +kernel
theorem dX11_walks_46 : decode cX11_walks 46 = .ok (.bipush (-2), 2) := by decide +kernel
theorem dX11_walks_48 : decode cX11_walks 48 = .ok (.ireturn, 1) := by decide +kernel
theorem dX11_walks_49 : decode cX11_walks 49 = .ok (.aload_n 0, 1) := by decide +kernel
theorem dX11_walks_50 : decode cX11_walks 50 = .ok (.invokevirtual 123, 3) := by decide +kernel
theorem dX11_walks_53 : decode cX11_walks 53 = .ok (.aload_n 0, 1) := by decide +kernel
theorem dX11_walks_54 : decode cX11_walks 54 = .ok (.getfield 19, 3) := by decide +kernel
theorem dX11_walks_57 : decode cX11_walks 57 = .ok (.iconst 4, 1) := by decide +kernel
theorem dX11_walks_58 : decode cX11_walks 58 = .ok (.aload_n 0, 1) := by decide +kernel
theorem dX11_walks_59 : decode cX11_walks 59 = .ok (.getfield 19, 3) := by decide +kernel
theorem dX11_walks_62 : decode cX11_walks 62 = .ok (.iconst 1, 1) := by decide +kernel
theorem dX11_walks_63 : decode cX11_walks 63 = .ok (.iaload, 1) := by decide +kernel
theorem dX11_walks_64 : decode cX11_walks 64 = .ok (.iadd, 1) := by decide +kernel
theorem dX11_walks_65 : decode cX11_walks 65 = .ok (.iload_n 1, 1) := by decide +kernel
theorem dX11_walks_66 : decode cX11_walks 66 = .ok (.iastore, 1) := by decide +kernel
theorem dX11_walks_67 : decode cX11_walks 67 = .ok (.aload_n 0, 1) := by decide +kernel
theorem dX11_walks_68 : decode cX11_walks 68 = .ok (.getfield 19, 3) := by decide +kernel
theorem dX11_walks_71 : decode cX11_walks 71 = .ok (.iconst 0, 1) := by decide +kernel
theorem dX11_walks_72 : decode cX11_walks 72 = .ok (.dup2, 1) := by decide +kernel
theorem dX11_walks_73 : decode cX11_walks 73 = .ok (.iaload, 1) := by decide +kernel
theorem dX11_walks_74 : decode cX11_walks 74 = .ok (.iload_n 2, 1) := by decide +kernel
theorem dX11_walks_75 : decode cX11_walks 75 = .ok (.iadd, 1) := by decide +kernel
theorem dX11_walks_76 : decode cX11_walks 76 = .ok (.iastore, 1) := by decide +kernel
theorem dX11_walks_77 : decode cX11_walks 77 = .ok (.aload_n 0, 1) := by decide +kernel
theorem dX11_walks_78 : decode cX11_walks 78 = .ok (.getfield 19, 3) := by decide +kernel
theorem dX11_walks_81 : decode cX11_walks 81 = .ok (.iconst 0, 1) := by decide +kernel
theorem dX11_walks_82 : decode cX11_walks 82 = .ok (.iaload, 1) := by decide +kernel
theorem dX11_walks_83 : decode cX11_walks 83 = .ok (.ireturn, 1) := by decide +kernel
set_option maxRecDepth 20000 in
theorem ggX11_keeps_X11_in : GoodIn wsX11_keeps wsX11_in := goodIn_r _ [5] (by decide +kernel) (by decide +kernel)
set_option maxRecDepth 20000 in
theorem gX11_keeps_X11_in : GoodIn wsX11_keeps (va_wsS RX11 54 yX11_in wsX11_in) := goodIn_app (goodIn_of _ (by decide +kernel)) ggX11_keeps_X11_in
set_option maxRecDepth 20000 in
theorem ggX11_keeps_X11_isHeld : GoodIn wsX11_keeps wsX11_isHeld := goodIn_r _ [9, 1, 14, 15, 16, 17, 18, 19, 20, 21, 22, 23, 24, 25, 26, 27, 28, 29, 30, 31, 32, 33, 34, 35] (by decide +kernel) (by decide +kernel)
set_option maxRecDepth 20000 in
theorem gX11_keeps_X11_isHeld : GoodIn wsX11_keeps (wsV RX11 116 RX11 yX11_isHeld wsX11_isHeld) := goodIn_app (goodIn_of _ (by decide +kernel)) ggX11_keeps_X11_isHeld
set_option maxRecDepth 20000 in
theorem ggX11_keeps_X11_remembers : GoodIn wsX11_keeps wsX11_remembers := goodIn_r _ [13, 1, 14, 15, 16, 17, 18, 19, 20, 21, 22, 23, 24, 25, 26, 27, 28, 29, 30, 31, 32, 33, 34, 35] (by decide +kernel) (by decide +kernel)
set_option maxRecDepth 20000 in
theorem gX11_keeps_X11_remembers : GoodIn wsX11_keeps (wsV RX11 123 RX11 yX11_remembers wsX11_remembers) := goodIn_app (goodIn_of _ (by decide +kernel)) ggX11_keeps_X11_remembers
theorem dX11_keeps_0 : decode cX11_keeps 0 = .ok (.iload_n 1, 1) := by decide +kernel
theorem dX11_keeps_1 : decode cX11_keeps 1 = .ok (.iconst 1, 1) := by decide +kernel
theorem dX11_keeps_2 : decode cX11_keeps 2 = .ok (.bipush 20, 2) := by decide +kernel
theorem dX11_keeps_4 : decode cX11_keeps 4 = .ok (.invokestatic 54, 3) := by decide +kernel
theorem dX11_keeps_7 : decode cX11_keeps 7 = .ok (.ifCond .ne 5, 3) := by decide +kernel
theorem dX11_keeps_10 : decode cX11_keeps 10 = .ok (.iconst (-1), 1) := by decide +kernel
theorem dX11_keeps_11 : decode cX11_keeps 11 = .ok (.ireturn, 1) := by decide +kernel
theorem dX11_keeps_12 : decode cX11_keeps 12 = .ok (.aload_n 0, 1) := by decide +kernel
theorem dX11_keeps_13 : decode cX11_keeps 13 = .ok (.invokevirtual 116, 3) := by decide +kernel
theorem dX11_keeps_16 : decode cX11_keeps 16 = .ok (.ifCond .eq 17, 3) := by decide +kernel
theorem dX11_keeps_19 : decode cX11_keeps 19 = .ok (.aload_n 0, 1) := by decide +kernel
theorem dX11_keeps_20 : decode cX11_keeps 20 = .ok (.getfield 19, 3) := by decide +kernel
theorem dX11_keeps_23 : decode cX11_keeps 23 = .ok (.iconst 0, 1) := by decide +kernel
theorem dX11_keeps_24 : decode cX11_keeps 24 = .ok (.iaload, 1) := by decide +kernel
theorem dX11_keeps_25 : decode cX11_keeps 25 = .ok (.iload_n 1, 1) := by decide +kernel
theorem dX11_keeps_26 : decode cX11_keeps 26 = .ok (.iadd, 1) := by decide +kernel
theorem dX11_keeps_27 : decode cX11_keeps 27 = .ok (.sipush 200, 3) := by decide +kernel
theorem dX11_keeps_30 : decode cX11_keeps 30 = .ok (.if_icmp .le 6, 3) := by decide +kernel
theorem dX11_keeps_33 : decode cX11_keeps 33 = .ok (.bipush (-2), 2) := by decide +kernel
theorem dX11_keeps_35 : decode cX11_keeps 35 = .ok (.ireturn, 1) := by decide +kernel
theorem dX11_keeps_36 : decode cX11_keeps 36 = .ok (.aload_n 0, 1) := by decide +kernel
theorem dX11_keeps_37 : decode cX11_keeps 37 = .ok (.invokevirtual 123, 3) := by decide +kernel
theorem dX11_keeps_40 : decode cX11_keeps 40 = .ok (.aload_n 0, 1) := by decide +kernel
theorem dX11_keeps_41 : decode cX11_keeps 41 = .ok (.getfield 19, 3) := by decide +kernel
theorem dX11_keeps_44 : decode cX11_keeps 44 = .ok (.iconst 0, 1) := by decide +kernel
theorem dX11_keeps_45 : decode cX11_keeps 45 = .ok (.dup2, 1) := by decide +kernel
theorem dX11_keeps_46 : decode cX11_keeps 46 = .ok (.iaload, 1) := by decide +kernel
theorem dX11_keeps_47 : decode cX11_keeps 47 = .ok (.iload_n 1, 1) := by decide +kernel
theorem dX11_keeps_48 : decode cX11_keeps 48 = .ok (.iadd, 1) := by decide +kernel
theorem dX11_keeps_49 : decode cX11_keeps 49 = .ok (.iastore, 1) := by decide +kernel
theorem dX11_keeps_50 : decode cX11_keeps 50 = .ok (.aload_n 0, 1) := by decide +kernel
theorem dX11_keeps_51 : decode cX11_keeps 51 = .ok (.getfield 19, 3) := by decide +kernel
theorem dX11_keeps_54 : decode cX11_keeps 54 = .ok (.iconst 0, 1) := by decide +kernel
theorem dX11_keeps_55 : decode cX11_keeps 55 = .ok (.iaload, 1) := by decide +kernel
theorem dX11_keeps_56 : decode cX11_keeps 56 = .ok (.ireturn, 1) := by decide +kernel
set_option maxRecDepth 20000 in
theorem ggX11_worthDone_X11_isDone : GoodIn wsX11_worthDone wsX11_isDone := goodIn_r _ [6, 7, 8, 9, 5, 10, 11, 12, 13, 14, 15, 16, 17, 18, 19, 20, 21, 22, 23, 24, 25, 26, 27, 28, 29, 30, 31, 32] (by decide +kernel) (by decide +kernel)
set_option maxRecDepth 20000 in
theorem gX11_worthDone_X11_isDone : GoodIn wsX11_worthDone (wsV RX11 113 RX11 yX11_isDone wsX11_isDone) := goodIn_app (goodIn_of _ (by decide +kernel)) ggX11_worthDone_X11_isDone
theorem dX11_worthDone_0 : decode cX11_worthDone 0 = .ok (.iconst 0, 1) := by decide +kernel
theorem dX11_worthDone_1 : decode cX11_worthDone 1 = .ok (.istore_n 1, 1) := by decide +kernel
theorem dX11_worthDone_2 : decode cX11_worthDone 2 = .ok (.iconst 0, 1) := by decide +kernel
theorem dX11_worthDone_3 : decode cX11_worthDone 3 = .ok (.istore_n 2, 1) := by decide +kernel
theorem dX11_worthDone_4 : decode cX11_worthDone 4 = .ok (.iload_n 2, 1) := by decide +kernel
theorem dX11_worthDone_5 : decode cX11_worthDone 5 = .ok (.aload_n 0, 1) := by decide +kernel
theorem dX11_worthDone_6 : decode cX11_worthDone 6 = .ok (.getfield 13, 3) := by decide +kernel
theorem dX11_worthDone_9 : decode cX11_worthDone 9 = .ok (.iconst 1, 1) := by decide +kernel
theorem dX11_worthDone_10 : decode cX11_worthDone 10 = .ok (.iaload, 1) := by decide +kernel
theorem dX11_worthDone_11 : decode cX11_worthDone 11 = .ok (.if_icmp .ge 33, 3) := by decide +kernel
theorem dX11_worthDone_14 : decode cX11_worthDone 14 = .ok (.iload_n 1, 1) := by decide +kernel
theorem dX11_worthDone_15 : decode cX11_worthDone 15 = .ok (.aload_n 0, 1) := by decide +kernel
theorem dX11_worthDone_16 : decode cX11_worthDone 16 = .ok (.iload_n 2, 1) := by decide +kernel
theorem dX11_worthDone_17 : decode cX11_worthDone 17 = .ok (.invokevirtual 113, 3) := by decide +kernel
theorem dX11_worthDone_20 : decode cX11_worthDone 20 = .ok (.ifCond .eq 15, 3) := by decide +kernel
theorem dX11_worthDone_23 : decode cX11_worthDone 23 = .ok (.aload_n 0, 1) := by decide +kernel
theorem dX11_worthDone_24 : decode cX11_worthDone 24 = .ok (.getfield 13, 3) := by decide +kernel
theorem dX11_worthDone_27 : decode cX11_worthDone 27 = .ok (.bipush 44, 2) := by decide +kernel
theorem dX11_worthDone_29 : decode cX11_worthDone 29 = .ok (.iload_n 2, 1) := by decide +kernel
theorem dX11_worthDone_30 : decode cX11_worthDone 30 = .ok (.iadd, 1) := by decide +kernel
theorem dX11_worthDone_31 : decode cX11_worthDone 31 = .ok (.iaload, 1) := by decide +kernel
theorem dX11_worthDone_32 : decode cX11_worthDone 32 = .ok (.goto 4, 3) := by decide +kernel
theorem dX11_worthDone_35 : decode cX11_worthDone 35 = .ok (.iconst 0, 1) := by decide +kernel
theorem dX11_worthDone_36 : decode cX11_worthDone 36 = .ok (.iadd, 1) := by decide +kernel
theorem dX11_worthDone_37 : decode cX11_worthDone 37 = .ok (.istore_n 1, 1) := by decide +kernel
theorem dX11_worthDone_38 : decode cX11_worthDone 38 = .ok (.iinc 2 1, 3) := by decide +kernel
theorem dX11_worthDone_41 : decode cX11_worthDone 41 = .ok (.goto (-37), 3) := by decide +kernel
theorem dX11_worthDone_44 : decode cX11_worthDone 44 = .ok (.iload_n 1, 1) := by decide +kernel
theorem dX11_worthDone_45 : decode cX11_worthDone 45 = .ok (.ireturn, 1) := by decide +kernel
set_option maxRecDepth 20000 in
theorem ggX11_does_X11_isDeed : GoodIn wsX11_does wsX11_isDeed := goodIn_r _ [7, 2, 8, 9, 6, 10, 34, 35, 36, 37, 38, 39, 40, 41, 42, 43, 44, 45, 46, 47, 48, 49, 50, 51, 52, 53, 54, 55] (by decide +kernel) (by decide +kernel)
set_option maxRecDepth 20000 in
theorem gX11_does_X11_isDeed : GoodIn wsX11_does (wsV RX11 110 RX11 yX11_isDeed wsX11_isDeed) := goodIn_app (goodIn_of _ (by decide +kernel)) ggX11_does_X11_isDeed
set_option maxRecDepth 20000 in
theorem ggX11_does_X11_isHeld : GoodIn wsX11_does wsX11_isHeld := goodIn_r _ [14, 1, 34, 35, 36, 37, 38, 39, 40, 41, 42, 43, 44, 45, 46, 47, 48, 49, 50, 51, 52, 53, 54, 55] (by decide +kernel) (by decide +kernel)
set_option maxRecDepth 20000 in
theorem gX11_does_X11_isHeld : GoodIn wsX11_does (wsV RX11 116 RX11 yX11_isHeld wsX11_isHeld) := goodIn_app (goodIn_of _ (by decide +kernel)) ggX11_does_X11_isHeld
set_option maxRecDepth 20000 in
theorem ggX11_does_X11_spoonAt : GoodIn wsX11_does wsX11_spoonAt := goodIn_r _ [18, 1, 2, 11, 12, 13, 6, 14, 34, 35, 36, 37, 38, 39, 40, 41, 42, 43, 44, 45, 46, 47, 48, 49, 50, 51, 52, 53, 54, 55] (by decide +kernel) (by decide +kernel)
set_option maxRecDepth 20000 in
theorem gX11_does_X11_spoonAt : GoodIn wsX11_does (wsV RX11 119 RX11 yX11_spoonAt wsX11_spoonAt) := goodIn_app (goodIn_of _ (by decide +kernel)) ggX11_does_X11_spoonAt
set_option maxRecDepth 20000 in
theorem ggX11_does_X11_isDone : GoodIn wsX11_does wsX11_isDone := goodIn_r _ [22, 1, 23, 24, 6, 25, 34, 35, 36, 37, 38, 39, 40, 41, 42, 43, 44, 45, 46, 47, 48, 49, 50, 51, 52, 53, 54, 55] (by decide +kernel) (by decide +kernel)
set_option maxRecDepth 20000 in
theorem gX11_does_X11_isDone : GoodIn wsX11_does (wsV RX11 113 RX11 yX11_isDone wsX11_isDone) := goodIn_app (goodIn_of _ (by decide +kernel)) ggX11_does_X11_isDone
set_option maxRecDepth 20000 in
theorem ggX11_does_X11_in : GoodIn wsX11_does wsX11_in := goodIn_r _ [10] (by decide +kernel) (by decide +kernel)
set_option maxRecDepth 20000 in
theorem gX11_does_X11_in : GoodIn wsX11_does (va_wsS RX11 54 yX11_in wsX11_in) := goodIn_app (goodIn_of _ (by decide +kernel)) ggX11_does_X11_in
set_option maxRecDepth 20000 in
theorem ggX11_does_X11_remembers : GoodIn wsX11_does wsX11_remembers := goodIn_r _ [29, 1, 34, 35, 36, 37, 38, 39, 40, 41, 42, 43, 44, 45, 46, 47, 48, 49, 50, 51, 52, 53, 54, 55] (by decide +kernel) (by decide +kernel)
set_option maxRecDepth 20000 in
theorem gX11_does_X11_remembers : GoodIn wsX11_does (wsV RX11 123 RX11 yX11_remembers wsX11_remembers) := goodIn_app (goodIn_of _ (by decide +kernel)) ggX11_does_X11_remembers
set_option maxRecDepth 20000 in
theorem ggX11_does_X11_worthDone : GoodIn wsX11_does wsX11_worthDone := goodIn_r _ [33, 2, 19, 20, 21, 6, 22, 1, 23, 24, 25, 34, 35, 36, 37, 38, 39, 40, 41, 42, 43, 44, 45, 46, 47, 48, 49, 50, 51, 52, 53, 54, 55] (by decide +kernel) (by decide +kernel)
set_option maxRecDepth 20000 in
theorem gX11_does_X11_worthDone : GoodIn wsX11_does (wsV RX11 133 RX11 yX11_worthDone wsX11_worthDone) := goodIn_app (goodIn_of _ (by decide +kernel)) ggX11_does_X11_worthDone
theorem dX11_does_0 : decode cX11_does 0 = .ok (.aload_n 0, 1) := by decide +kernel
theorem dX11_does_1 : decode cX11_does 1 = .ok (.iload_n 1, 1) := by decide +kernel
theorem dX11_does_2 : decode cX11_does 2 = .ok (.invokevirtual 110, 3) := by decide +kernel
theorem dX11_does_5 : decode cX11_does 5 = .ok (.ifCond .ne 5, 3) := by decide +kernel
theorem dX11_does_8 : decode cX11_does 8 = .ok (.iconst (-1), 1) := by decide +kernel
theorem dX11_does_9 : decode cX11_does 9 = .ok (.ireturn, 1) := by decide +kernel
theorem dX11_does_10 : decode cX11_does 10 = .ok (.aload_n 0, 1) := by decide +kernel
theorem dX11_does_11 : decode cX11_does 11 = .ok (.invokevirtual 116, 3) := by decide +kernel
theorem dX11_does_14 : decode cX11_does 14 = .ok (.ifCond .eq 84, 3) := by decide +kernel
theorem dX11_does_17 : decode cX11_does 17 = .ok (.aload_n 0, 1) := by decide +kernel
theorem dX11_does_18 : decode cX11_does 18 = .ok (.getfield 19, 3) := by decide +kernel
theorem dX11_does_21 : decode cX11_does 21 = .ok (.iconst 1, 1) := by decide +kernel
theorem dX11_does_22 : decode cX11_does 22 = .ok (.iaload, 1) := by decide +kernel
theorem dX11_does_23 : decode cX11_does 23 = .ok (.aload_n 0, 1) := by decide +kernel
theorem dX11_does_24 : decode cX11_does 24 = .ok (.getfield 13, 3) := by decide +kernel
theorem dX11_does_27 : decode cX11_does 27 = .ok (.bipush 12, 2) := by decide +kernel
theorem dX11_does_29 : decode cX11_does 29 = .ok (.iload_n 1, 1) := by decide +kernel
theorem dX11_does_30 : decode cX11_does 30 = .ok (.iadd, 1) := by decide +kernel
theorem dX11_does_31 : decode cX11_does 31 = .ok (.iaload, 1) := by decide +kernel
theorem dX11_does_32 : decode cX11_does 32 = .ok (.if_icmp .ne 66, 3) := by decide +kernel
theorem dX11_does_35 : decode cX11_does 35 = .ok (.aload_n 0, 1) := by decide +kernel
theorem dX11_does_36 : decode cX11_does 36 = .ok (.getfield 19, 3) := by decide +kernel
theorem dX11_does_39 : decode cX11_does 39 = .ok (.iconst 3, 1) := by decide +kernel
theorem dX11_does_40 : decode cX11_does 40 = .ok (.iaload, 1) := by decide +kernel
theorem dX11_does_41 : decode cX11_does 41 = .ok (.ifCond .eq 57, 3) := by decide +kernel
theorem dX11_does_44 : decode cX11_does 44 = .ok (.aload_n 0, 1) := by decide +kernel
theorem dX11_does_45 : decode cX11_does 45 = .ok (.invokevirtual 119, 3) := by decide +kernel
theorem dX11_does_48 : decode cX11_does 48 = .ok (.aload_n 0, 1) := by decide +kernel
theorem dX11_does_49 : decode cX11_does 49 = .ok (.getfield 13, 3) := by decide +kernel
theorem dX11_does_52 : decode cX11_does 52 = .ok (.bipush 20, 2) := by decide +kernel
theorem dX11_does_54 : decode cX11_does 54 = .ok (.iload_n 1, 1) := by decide +kernel
theorem dX11_does_55 : decode cX11_does 55 = .ok (.iadd, 1) := by decide +kernel
theorem dX11_does_56 : decode cX11_does 56 = .ok (.iaload, 1) := by decide +kernel
theorem dX11_does_57 : decode cX11_does 57 = .ok (.if_icmp .ne 41, 3) := by decide +kernel
theorem dX11_does_60 : decode cX11_does 60 = .ok (.aload_n 0, 1) := by decide +kernel
theorem dX11_does_61 : decode cX11_does 61 = .ok (.iload_n 1, 1) := by decide +kernel
theorem dX11_does_62 : decode cX11_does 62 = .ok (.invokevirtual 113, 3) := by decide +kernel
theorem dX11_does_65 : decode cX11_does 65 = .ok (.ifCond .ne 33, 3) := by decide +kernel
theorem dX11_does_68 : decode cX11_does 68 = .ok (.aload_n 0, 1) := by decide +kernel
theorem dX11_does_69 : decode cX11_does 69 = .ok (.getfield 19, 3) := by decide +kernel
theorem dX11_does_72 : decode cX11_does 72 = .ok (.iconst 0, 1) := by decide +kernel
theorem dX11_does_73 : decode cX11_does 73 = .ok (.iaload, 1) := by decide +kernel
theorem dX11_does_74 : decode cX11_does 74 = .ok (.aload_n 0, 1) := by decide +kernel
theorem dX11_does_75 : decode cX11_does 75 = .ok (.getfield 13, 3) := by decide +kernel
theorem dX11_does_78 : decode cX11_does 78 = .ok (.bipush 28, 2) := by decide +kernel
theorem dX11_does_80 : decode cX11_does 80 = .ok (.iload_n 1, 1) := by decide +kernel
theorem dX11_does_81 : decode cX11_does 81 = .ok (.iadd, 1) := by decide +kernel
theorem dX11_does_82 : decode cX11_does 82 = .ok (.iaload, 1) := by decide +kernel
theorem dX11_does_83 : decode cX11_does 83 = .ok (.aload_n 0, 1) := by decide +kernel
theorem dX11_does_84 : decode cX11_does 84 = .ok (.getfield 13, 3) := by decide +kernel
theorem dX11_does_87 : decode cX11_does 87 = .ok (.bipush 36, 2) := by decide +kernel
theorem dX11_does_89 : decode cX11_does 89 = .ok (.iload_n 1, 1) := by decide +kernel
theorem dX11_does_90 : decode cX11_does 90 = .ok (.iadd, 1) := by decide +kernel
theorem dX11_does_91 : decode cX11_does 91 = .ok (.iaload, 1) := by decide +kernel
theorem dX11_does_92 : decode cX11_does 92 = .ok (.invokestatic 54, 3) := by decide +kernel
theorem dX11_does_95 : decode cX11_does 95 = .ok (.ifCond .ne 6, 3) := by decide +kernel
theorem dX11_does_98 : decode cX11_does 98 = .ok (.bipush (-2), 2) := by decide +kernel
theorem dX11_does_100 : decode cX11_does 100 = .ok (.ireturn, 1) := by decide +kernel
theorem dX11_does_101 : decode cX11_does 101 = .ok (.aload_n 0, 1) := by decide +kernel
theorem dX11_does_102 : decode cX11_does 102 = .ok (.invokevirtual 123, 3) := by decide +kernel
theorem dX11_does_105 : decode cX11_does 105 = .ok (.aload_n 0, 1) := by decide +kernel
theorem dX11_does_106 : decode cX11_does 106 = .ok (.getfield 19, 3) := by decide +kernel
theorem dX11_does_109 : decode cX11_does 109 = .ok (.bipush 22, 2) := by decide +kernel
theorem dX11_does_111 : decode cX11_does 111 = .ok (.dup2, 1) := by decide +kernel
theorem dX11_does_112 : decode cX11_does 112 = .ok (.iaload, 1) := by decide +kernel
theorem dX11_does_113 : decode cX11_does 113 = .ok (.iconst 1, 1) := by decide +kernel
theorem dX11_does_114 : decode cX11_does 114 = .ok (.iload_n 1, 1) := by decide +kernel
theorem dX11_does_115 : decode cX11_does 115 = .ok (.ishl, 1) := by decide +kernel
theorem dX11_does_116 : decode cX11_does 116 = .ok (.ior, 1) := by decide +kernel
theorem dX11_does_117 : decode cX11_does 117 = .ok (.iastore, 1) := by decide +kernel
theorem dX11_does_118 : decode cX11_does 118 = .ok (.aload_n 0, 1) := by decide +kernel
theorem dX11_does_119 : decode cX11_does 119 = .ok (.getfield 19, 3) := by decide +kernel
theorem dX11_does_122 : decode cX11_does 122 = .ok (.iconst 3, 1) := by decide +kernel
theorem dX11_does_123 : decode cX11_does 123 = .ok (.iconst 0, 1) := by decide +kernel
theorem dX11_does_124 : decode cX11_does 124 = .ok (.iastore, 1) := by decide +kernel
theorem dX11_does_125 : decode cX11_does 125 = .ok (.aload_n 0, 1) := by decide +kernel
theorem dX11_does_126 : decode cX11_does 126 = .ok (.invokevirtual 133, 3) := by decide +kernel
theorem dX11_does_129 : decode cX11_does 129 = .ok (.ireturn, 1) := by decide +kernel
theorem dX11_undo_0 : decode cX11_undo 0 = .ok (.aload_n 0, 1) := by decide +kernel
theorem dX11_undo_1 : decode cX11_undo 1 = .ok (.getfield 19, 3) := by decide +kernel
theorem dX11_undo_4 : decode cX11_undo 4 = .ok (.bipush 23, 2) := by decide +kernel
theorem dX11_undo_6 : decode cX11_undo 6 = .ok (.iaload, 1) := by decide +kernel
theorem dX11_undo_7 : decode cX11_undo 7 = .ok (.ifCond .ne 6, 3) := by decide +kernel
theorem dX11_undo_10 : decode cX11_undo 10 = .ok (.bipush (-2), 2) := by decide +kernel
theorem dX11_undo_12 : decode cX11_undo 12 = .ok (.ireturn, 1) := by decide +kernel
theorem dX11_undo_13 : decode cX11_undo 13 = .ok (.aload_n 0, 1) := by decide +kernel
theorem dX11_undo_14 : decode cX11_undo 14 = .ok (.getfield 19, 3) := by decide +kernel
theorem dX11_undo_17 : decode cX11_undo 17 = .ok (.bipush 23, 2) := by decide +kernel
theorem dX11_undo_19 : decode cX11_undo 19 = .ok (.dup2, 1) := by decide +kernel
theorem dX11_undo_20 : decode cX11_undo 20 = .ok (.iaload, 1) := by decide +kernel
theorem dX11_undo_21 : decode cX11_undo 21 = .ok (.iconst 1, 1) := by decide +kernel
theorem dX11_undo_22 : decode cX11_undo 22 = .ok (.isub, 1) := by decide +kernel
theorem dX11_undo_23 : decode cX11_undo 23 = .ok (.iastore, 1) := by decide +kernel
theorem dX11_undo_24 : decode cX11_undo 24 = .ok (.bipush 24, 2) := by decide +kernel
theorem dX11_undo_26 : decode cX11_undo 26 = .ok (.bipush 23, 2) := by decide +kernel
theorem dX11_undo_28 : decode cX11_undo 28 = .ok (.aload_n 0, 1) := by decide +kernel
theorem dX11_undo_29 : decode cX11_undo 29 = .ok (.getfield 19, 3) := by decide +kernel
theorem dX11_undo_32 : decode cX11_undo 32 = .ok (.bipush 23, 2) := by decide +kernel
theorem dX11_undo_34 : decode cX11_undo 34 = .ok (.iaload, 1) := by decide +kernel
theorem dX11_undo_35 : decode cX11_undo 35 = .ok (.imul, 1) := by decide +kernel
theorem dX11_undo_36 : decode cX11_undo 36 = .ok (.iadd, 1) := by decide +kernel
theorem dX11_undo_37 : decode cX11_undo 37 = .ok (.istore_n 1, 1) := by decide +kernel
theorem dX11_undo_38 : decode cX11_undo 38 = .ok (.iconst 0, 1) := by decide +kernel
theorem dX11_undo_39 : decode cX11_undo 39 = .ok (.istore_n 2, 1) := by decide +kernel
theorem dX11_undo_40 : decode cX11_undo 40 = .ok (.iload_n 2, 1) := by decide +kernel
theorem dX11_undo_41 : decode cX11_undo 41 = .ok (.bipush 23, 2) := by decide +kernel
theorem dX11_undo_43 : decode cX11_undo 43 = .ok (.if_icmp .ge 23, 3) := by decide +kernel
theorem dX11_undo_46 : decode cX11_undo 46 = .ok (.aload_n 0, 1) := by decide +kernel
theorem dX11_undo_47 : decode cX11_undo 47 = .ok (.getfield 19, 3) := by decide +kernel
theorem dX11_undo_50 : decode cX11_undo 50 = .ok (.iload_n 2, 1) := by decide +kernel
theorem dX11_undo_51 : decode cX11_undo 51 = .ok (.aload_n 0, 1) := by decide +kernel
theorem dX11_undo_52 : decode cX11_undo 52 = .ok (.getfield 19, 3) := by decide +kernel
theorem dX11_undo_55 : decode cX11_undo 55 = .ok (.iload_n 1, 1) := by decide +kernel
theorem dX11_undo_56 : decode cX11_undo 56 = .ok (.iload_n 2, 1) := by decide +kernel
theorem dX11_undo_57 : decode cX11_undo 57 = .ok (.iadd, 1) := by decide +kernel
theorem dX11_undo_58 : decode cX11_undo 58 = .ok (.iaload, 1) := by decide +kernel
theorem dX11_undo_59 : decode cX11_undo 59 = .ok (.iastore, 1) := by decide +kernel
theorem dX11_undo_60 : decode cX11_undo 60 = .ok (.iinc 2 1, 3) := by decide +kernel
theorem dX11_undo_63 : decode cX11_undo 63 = .ok (.goto (-23), 3) := by decide +kernel
theorem dX11_undo_66 : decode cX11_undo 66 = .ok (.aload_n 0, 1) := by decide +kernel
theorem dX11_undo_67 : decode cX11_undo 67 = .ok (.getfield 19, 3) := by decide +kernel
theorem dX11_undo_70 : decode cX11_undo 70 = .ok (.bipush 23, 2) := by decide +kernel
theorem dX11_undo_72 : decode cX11_undo 72 = .ok (.iaload, 1) := by decide +kernel
theorem dX11_undo_73 : decode cX11_undo 73 = .ok (.ireturn, 1) := by decide +kernel
set_option maxRecDepth 20000 in
theorem ggX11_now_X11_isHeld : GoodIn wsX11_now wsX11_isHeld := goodIn_r _ [6, 1, 19, 20, 21, 22, 23, 24, 25, 26, 27, 28, 29, 30, 31, 32, 33, 34, 35, 36, 37, 38, 39, 40] (by decide +kernel) (by decide +kernel)
set_option maxRecDepth 20000 in
theorem gX11_now_X11_isHeld : GoodIn wsX11_now (wsV RX11 116 RX11 yX11_isHeld wsX11_isHeld) := goodIn_app (goodIn_of _ (by decide +kernel)) ggX11_now_X11_isHeld
set_option maxRecDepth 20000 in
theorem ggX11_now_X11_worthDone : GoodIn wsX11_now wsX11_worthDone := goodIn_r _ [10, 11, 12, 13, 14, 5, 15, 1, 16, 17, 18, 19, 20, 21, 22, 23, 24, 25, 26, 27, 28, 29, 30, 31, 32, 33, 34, 35, 36, 37, 38, 39, 40] (by decide +kernel) (by decide +kernel)
set_option maxRecDepth 20000 in
theorem gX11_now_X11_worthDone : GoodIn wsX11_now (wsV RX11 133 RX11 yX11_worthDone wsX11_worthDone) := goodIn_app (goodIn_of _ (by decide +kernel)) ggX11_now_X11_worthDone
theorem dX11_now_0 : decode cX11_now 0 = .ok (.iconst 0, 1) := by decide +kernel
theorem dX11_now_1 : decode cX11_now 1 = .ok (.istore_n 2, 1) := by decide +kernel
theorem dX11_now_2 : decode cX11_now 2 = .ok (.iconst 0, 1) := by decide +kernel
theorem dX11_now_3 : decode cX11_now 3 = .ok (.istore_n 3, 1) := by decide +kernel
theorem dX11_now_4 : decode cX11_now 4 = .ok (.iload_n 3, 1) := by decide +kernel
theorem dX11_now_5 : decode cX11_now 5 = .ok (.bipush 6, 2) := by decide +kernel
theorem dX11_now_7 : decode cX11_now 7 = .ok (.if_icmp .ge 21, 3) := by decide +kernel
theorem dX11_now_10 : decode cX11_now 10 = .ok (.iload_n 2, 1) := by decide +kernel
theorem dX11_now_11 : decode cX11_now 11 = .ok (.aload_n 0, 1) := by decide +kernel
theorem dX11_now_12 : decode cX11_now 12 = .ok (.getfield 19, 3) := by decide +kernel
theorem dX11_now_15 : decode cX11_now 15 = .ok (.bipush 16, 2) := by decide +kernel
theorem dX11_now_17 : decode cX11_now 17 = .ok (.iload_n 3, 1) := by decide +kernel
theorem dX11_now_18 : decode cX11_now 18 = .ok (.iadd, 1) := by decide +kernel
theorem dX11_now_19 : decode cX11_now 19 = .ok (.iaload, 1) := by decide +kernel
theorem dX11_now_20 : decode cX11_now 20 = .ok (.iadd, 1) := by decide +kernel
theorem dX11_now_21 : decode cX11_now 21 = .ok (.istore_n 2, 1) := by decide +kernel
theorem dX11_now_22 : decode cX11_now 22 = .ok (.iinc 3 1, 3) := by decide +kernel
theorem dX11_now_25 : decode cX11_now 25 = .ok (.goto (-21), 3) := by decide +kernel
theorem dX11_now_28 : decode cX11_now 28 = .ok (.iload_n 1, 1) := by decide +kernel
theorem dX11_now_29 : decode cX11_now 29 = .ok (.tableswitch 104 0 6 #[43, 50, 57, 64, 89, 97, 102], 43) := by decide +kernel
theorem dX11_now_72 : decode cX11_now 72 = .ok (.aload_n 0, 1) := by decide +kernel
theorem dX11_now_73 : decode cX11_now 73 = .ok (.getfield 19, 3) := by decide +kernel
theorem dX11_now_76 : decode cX11_now 76 = .ok (.iconst 0, 1) := by decide +kernel
theorem dX11_now_77 : decode cX11_now 77 = .ok (.iaload, 1) := by decide +kernel
theorem dX11_now_78 : decode cX11_now 78 = .ok (.ireturn, 1) := by decide +kernel
theorem dX11_now_79 : decode cX11_now 79 = .ok (.aload_n 0, 1) := by decide +kernel
theorem dX11_now_80 : decode cX11_now 80 = .ok (.getfield 19, 3) := by decide +kernel
theorem dX11_now_83 : decode cX11_now 83 = .ok (.iconst 1, 1) := by decide +kernel
theorem dX11_now_84 : decode cX11_now 84 = .ok (.iaload, 1) := by decide +kernel
theorem dX11_now_85 : decode cX11_now 85 = .ok (.ireturn, 1) := by decide +kernel
theorem dX11_now_86 : decode cX11_now 86 = .ok (.aload_n 0, 1) := by decide +kernel
theorem dX11_now_87 : decode cX11_now 87 = .ok (.getfield 19, 3) := by decide +kernel
theorem dX11_now_90 : decode cX11_now 90 = .ok (.iconst 3, 1) := by decide +kernel
theorem dX11_now_91 : decode cX11_now 91 = .ok (.iaload, 1) := by decide +kernel
theorem dX11_now_92 : decode cX11_now 92 = .ok (.ireturn, 1) := by decide +kernel
theorem dX11_now_93 : decode cX11_now 93 = .ok (.aload_n 0, 1) := by decide +kernel
theorem dX11_now_94 : decode cX11_now 94 = .ok (.invokevirtual 116, 3) := by decide +kernel
theorem dX11_now_97 : decode cX11_now 97 = .ok (.ifCond .eq 19, 3) := by decide +kernel
theorem dX11_now_100 : decode cX11_now 100 = .ok (.aload_n 0, 1) := by decide +kernel
theorem dX11_now_101 : decode cX11_now 101 = .ok (.getfield 19, 3) := by decide +kernel
theorem dX11_now_104 : decode cX11_now 104 = .ok (.iconst 0, 1) := by decide +kernel
theorem dX11_now_105 : decode cX11_now 105 = .ok (.iaload, 1) := by decide +kernel
theorem dX11_now_106 : decode cX11_now 106 = .ok (.aload_n 0, 1) := by decide +kernel
theorem dX11_now_107 : decode cX11_now 107 = .ok (.getfield 19, 3) := by decide +kernel
theorem dX11_now_110 : decode cX11_now 110 = .ok (.iconst 2, 1) := by decide +kernel
theorem dX11_now_111 : decode cX11_now 111 = .ok (.iaload, 1) := by decide +kernel
theorem dX11_now_112 : decode cX11_now 112 = .ok (.isub, 1) := by decide +kernel
theorem dX11_now_113 : decode cX11_now 113 = .ok (.goto 4, 3) := by decide +kernel
theorem dX11_now_116 : decode cX11_now 116 = .ok (.iconst 0, 1) := by decide +kernel
theorem dX11_now_117 : decode cX11_now 117 = .ok (.ireturn, 1) := by decide +kernel
theorem dX11_now_118 : decode cX11_now 118 = .ok (.aload_n 0, 1) := by decide +kernel
theorem dX11_now_119 : decode cX11_now 119 = .ok (.getfield 19, 3) := by decide +kernel
theorem dX11_now_122 : decode cX11_now 122 = .ok (.bipush 22, 2) := by decide +kernel
theorem dX11_now_124 : decode cX11_now 124 = .ok (.iaload, 1) := by decide +kernel
theorem dX11_now_125 : decode cX11_now 125 = .ok (.ireturn, 1) := by decide +kernel
theorem dX11_now_126 : decode cX11_now 126 = .ok (.aload_n 0, 1) := by decide +kernel
theorem dX11_now_127 : decode cX11_now 127 = .ok (.invokevirtual 133, 3) := by decide +kernel
theorem dX11_now_130 : decode cX11_now 130 = .ok (.ireturn, 1) := by decide +kernel
theorem dX11_now_131 : decode cX11_now 131 = .ok (.iload_n 2, 1) := by decide +kernel
theorem dX11_now_132 : decode cX11_now 132 = .ok (.ireturn, 1) := by decide +kernel
theorem dX11_now_133 : decode cX11_now 133 = .ok (.iconst (-1), 1) := by decide +kernel
theorem dX11_now_134 : decode cX11_now 134 = .ok (.ireturn, 1) := by decide +kernel
set_option maxRecDepth 20000 in
theorem ggX11_wayOf_X11_spoonAt : GoodIn wsX11_wayOf wsX11_spoonAt := goodIn_r _ [9, 2, 4, 10, 11, 12, 8, 13, 17, 18, 19, 20, 21, 22, 23, 24, 25, 26, 27, 28, 29, 30, 31, 32, 33, 34, 35, 36, 37, 38] (by decide +kernel) (by decide +kernel)
set_option maxRecDepth 20000 in
theorem gX11_wayOf_X11_spoonAt : GoodIn wsX11_wayOf (wsV RX11 119 RX11 yX11_spoonAt wsX11_spoonAt) := goodIn_app (goodIn_of _ (by decide +kernel)) ggX11_wayOf_X11_spoonAt
set_option maxRecDepth 20000 in
theorem ggX11_wayOf_X11_far : GoodIn wsX11_wayOf wsX11_far := goodIn_r _ [16] (by decide +kernel) (by decide +kernel)
set_option maxRecDepth 20000 in
theorem gX11_wayOf_X11_far : GoodIn wsX11_wayOf (va_wsS RX11 129 yX11_far wsX11_far) := goodIn_app (goodIn_of _ (by decide +kernel)) ggX11_wayOf_X11_far
theorem dX11_wayOf_0 : decode cX11_wayOf 0 = .ok (.iconst 0, 1) := by decide +kernel
theorem dX11_wayOf_1 : decode cX11_wayOf 1 = .ok (.istore_n 2, 1) := by decide +kernel
theorem dX11_wayOf_2 : decode cX11_wayOf 2 = .ok (.iload_n 2, 1) := by decide +kernel
theorem dX11_wayOf_3 : decode cX11_wayOf 3 = .ok (.bipush 6, 2) := by decide +kernel
theorem dX11_wayOf_5 : decode cX11_wayOf 5 = .ok (.if_icmp .ge 23, 3) := by decide +kernel
theorem dX11_wayOf_8 : decode cX11_wayOf 8 = .ok (.aload_n 0, 1) := by decide +kernel
theorem dX11_wayOf_9 : decode cX11_wayOf 9 = .ok (.getfield 41, 3) := by decide +kernel
theorem dX11_wayOf_12 : decode cX11_wayOf 12 = .ok (.iload_n 2, 1) := by decide +kernel
theorem dX11_wayOf_13 : decode cX11_wayOf 13 = .ok (.aload_n 0, 1) := by decide +kernel
theorem dX11_wayOf_14 : decode cX11_wayOf 14 = .ok (.getfield 19, 3) := by decide +kernel
theorem dX11_wayOf_17 : decode cX11_wayOf 17 = .ok (.iconst 4, 1) := by decide +kernel
theorem dX11_wayOf_18 : decode cX11_wayOf 18 = .ok (.iload_n 2, 1) := by decide +kernel
theorem dX11_wayOf_19 : decode cX11_wayOf 19 = .ok (.iadd, 1) := by decide +kernel
theorem dX11_wayOf_20 : decode cX11_wayOf 20 = .ok (.iaload, 1) := by decide +kernel
theorem dX11_wayOf_21 : decode cX11_wayOf 21 = .ok (.iastore, 1) := by decide +kernel
theorem dX11_wayOf_22 : decode cX11_wayOf 22 = .ok (.iinc 2 1, 3) := by decide +kernel
theorem dX11_wayOf_25 : decode cX11_wayOf 25 = .ok (.goto (-23), 3) := by decide +kernel
theorem dX11_wayOf_28 : decode cX11_wayOf 28 = .ok (.aload_n 0, 1) := by decide +kernel
theorem dX11_wayOf_29 : decode cX11_wayOf 29 = .ok (.getfield 19, 3) := by decide +kernel
theorem dX11_wayOf_32 : decode cX11_wayOf 32 = .ok (.iconst 0, 1) := by decide +kernel
theorem dX11_wayOf_33 : decode cX11_wayOf 33 = .ok (.iaload, 1) := by decide +kernel
theorem dX11_wayOf_34 : decode cX11_wayOf 34 = .ok (.istore_n 2, 1) := by decide +kernel
theorem dX11_wayOf_35 : decode cX11_wayOf 35 = .ok (.aload_n 0, 1) := by decide +kernel
theorem dX11_wayOf_36 : decode cX11_wayOf 36 = .ok (.invokevirtual 119, 3) := by decide +kernel
theorem dX11_wayOf_39 : decode cX11_wayOf 39 = .ok (.istore_n 3, 1) := by decide +kernel
theorem dX11_wayOf_40 : decode cX11_wayOf 40 = .ok (.aload_n 0, 1) := by decide +kernel
theorem dX11_wayOf_41 : decode cX11_wayOf 41 = .ok (.getfield 19, 3) := by decide +kernel
theorem dX11_wayOf_44 : decode cX11_wayOf 44 = .ok (.iconst 1, 1) := by decide +kernel
theorem dX11_wayOf_45 : decode cX11_wayOf 45 = .ok (.iaload, 1) := by decide +kernel
theorem dX11_wayOf_46 : decode cX11_wayOf 46 = .ok (.istore 4, 2) := by decide +kernel
theorem dX11_wayOf_48 : decode cX11_wayOf 48 = .ok (.aload_n 0, 1) := by decide +kernel
theorem dX11_wayOf_49 : decode cX11_wayOf 49 = .ok (.getfield 19, 3) := by decide +kernel
theorem dX11_wayOf_52 : decode cX11_wayOf 52 = .ok (.iconst 3, 1) := by decide +kernel
theorem dX11_wayOf_53 : decode cX11_wayOf 53 = .ok (.iaload, 1) := by decide +kernel
theorem dX11_wayOf_54 : decode cX11_wayOf 54 = .ok (.iconst 1, 1) := by decide +kernel
theorem dX11_wayOf_55 : decode cX11_wayOf 55 = .ok (.if_icmp .ne 7, 3) := by decide +kernel
theorem dX11_wayOf_58 : decode cX11_wayOf 58 = .ok (.iconst 1, 1) := by decide +kernel
theorem dX11_wayOf_59 : decode cX11_wayOf 59 = .ok (.goto 4, 3) := by decide +kernel
theorem dX11_wayOf_62 : decode cX11_wayOf 62 = .ok (.iconst 0, 1) := by decide +kernel
theorem dX11_wayOf_63 : decode cX11_wayOf 63 = .ok (.istore 5, 2) := by decide +kernel
theorem dX11_wayOf_65 : decode cX11_wayOf 65 = .ok (.iconst 0, 1) := by decide +kernel
theorem dX11_wayOf_66 : decode cX11_wayOf 66 = .ok (.istore 6, 2) := by decide +kernel
theorem dX11_wayOf_68 : decode cX11_wayOf 68 = .ok (.iload 6, 2) := by decide +kernel
theorem dX11_wayOf_70 : decode cX11_wayOf 70 = .ok (.iload_n 1, 1) := by decide +kernel
theorem dX11_wayOf_71 : decode cX11_wayOf 71 = .ok (.if_icmp .ge 169, 3) := by decide +kernel
theorem dX11_wayOf_74 : decode cX11_wayOf 74 = .ok (.aload_n 0, 1) := by decide +kernel
theorem dX11_wayOf_75 : decode cX11_wayOf 75 = .ok (.getfield 35, 3) := by decide +kernel
theorem dX11_wayOf_78 : decode cX11_wayOf 78 = .ok (.iload 6, 2) := by decide +kernel
theorem dX11_wayOf_80 : decode cX11_wayOf 80 = .ok (.iaload, 1) := by decide +kernel
theorem dX11_wayOf_81 : decode cX11_wayOf 81 = .ok (.istore 7, 2) := by decide +kernel
theorem dX11_wayOf_83 : decode cX11_wayOf 83 = .ok (.aload_n 0, 1) := by decide +kernel
theorem dX11_wayOf_84 : decode cX11_wayOf 84 = .ok (.getfield 13, 3) := by decide +kernel
theorem dX11_wayOf_87 : decode cX11_wayOf 87 = .ok (.bipush 12, 2) := by decide +kernel
theorem dX11_wayOf_89 : decode cX11_wayOf 89 = .ok (.iload 7, 2) := by decide +kernel
theorem dX11_wayOf_91 : decode cX11_wayOf 91 = .ok (.iadd, 1) := by decide +kernel
theorem dX11_wayOf_92 : decode cX11_wayOf 92 = .ok (.iaload, 1) := by decide +kernel
theorem dX11_wayOf_93 : decode cX11_wayOf 93 = .ok (.istore 8, 2) := by decide +kernel
theorem dX11_wayOf_95 : decode cX11_wayOf 95 = .ok (.iload 8, 2) := by decide +kernel
theorem dX11_wayOf_97 : decode cX11_wayOf 97 = .ok (.iload 4, 2) := by decide +kernel
theorem dX11_wayOf_99 : decode cX11_wayOf 99 = .ok (.if_icmp .ne 10, 3) := by decide +kernel
theorem dX11_wayOf_102 : decode cX11_wayOf 102 = .ok (.iload 5, 2) := by decide +kernel
theorem dX11_wayOf_104 : decode cX11_wayOf 104 = .ok (.ifCond .ne 5, 3) := by decide +kernel
theorem dX11_wayOf_107 : decode cX11_wayOf 107 = .ok (.iconst (-1), 1) := by decide +kernel
theorem dX11_wayOf_108 : decode cX11_wayOf 108 = .ok (.ireturn, 1) := by decide +kernel
theorem dX11_wayOf_109 : decode cX11_wayOf 109 = .ok (.iload_n 2, 1) := by decide +kernel
theorem dX11_wayOf_110 : decode cX11_wayOf 110 = .ok (.iload 8, 2) := by decide +kernel
theorem dX11_wayOf_112 : decode cX11_wayOf 112 = .ok (.iload 4, 2) := by decide +kernel
theorem dX11_wayOf_114 : decode cX11_wayOf 114 = .ok (.if_icmp .ne 7, 3) := by decide +kernel
theorem dX11_wayOf_117 : decode cX11_wayOf 117 = .ok (.iconst 0, 1) := by decide +kernel
theorem dX11_wayOf_118 : decode cX11_wayOf 118 = .ok (.goto 14, 3) := by decide +kernel
theorem dX11_wayOf_121 : decode cX11_wayOf 121 = .ok (.iload_n 3, 1) := by decide +kernel
theorem dX11_wayOf_122 : decode cX11_wayOf 122 = .ok (.aload_n 0, 1) := by decide +kernel
theorem dX11_wayOf_123 : decode cX11_wayOf 123 = .ok (.getfield 41, 3) := by decide +kernel
theorem dX11_wayOf_126 : decode cX11_wayOf 126 = .ok (.iload 8, 2) := by decide +kernel
theorem dX11_wayOf_128 : decode cX11_wayOf 128 = .ok (.iaload, 1) := by decide +kernel
theorem dX11_wayOf_129 : decode cX11_wayOf 129 = .ok (.invokestatic 129, 3) := by decide +kernel
theorem dX11_wayOf_132 : decode cX11_wayOf 132 = .ok (.iadd, 1) := by decide +kernel
theorem dX11_wayOf_133 : decode cX11_wayOf 133 = .ok (.istore_n 2, 1) := by decide +kernel
theorem dX11_wayOf_134 : decode cX11_wayOf 134 = .ok (.iload_n 2, 1) := by decide +kernel
theorem dX11_wayOf_135 : decode cX11_wayOf 135 = .ok (.aload_n 0, 1) := by decide +kernel
theorem dX11_wayOf_136 : decode cX11_wayOf 136 = .ok (.getfield 41, 3) := by decide +kernel
theorem dX11_wayOf_139 : decode cX11_wayOf 139 = .ok (.iload 8, 2) := by decide +kernel
theorem dX11_wayOf_141 : decode cX11_wayOf 141 = .ok (.iaload, 1) := by decide +kernel
theorem dX11_wayOf_142 : decode cX11_wayOf 142 = .ok (.aload_n 0, 1) := by decide +kernel
theorem dX11_wayOf_143 : decode cX11_wayOf 143 = .ok (.getfield 13, 3) := by decide +kernel
theorem dX11_wayOf_146 : decode cX11_wayOf 146 = .ok (.bipush 20, 2) := by decide +kernel
theorem dX11_wayOf_148 : decode cX11_wayOf 148 = .ok (.iload 7, 2) := by decide +kernel
theorem dX11_wayOf_150 : decode cX11_wayOf 150 = .ok (.iadd, 1) := by decide +kernel
theorem dX11_wayOf_151 : decode cX11_wayOf 151 = .ok (.iaload, 1) := by decide +kernel
theorem dX11_wayOf_152 : decode cX11_wayOf 152 = .ok (.invokestatic 129, 3) := by decide +kernel
theorem dX11_wayOf_155 : decode cX11_wayOf 155 = .ok (.iadd, 1) := by decide +kernel
theorem dX11_wayOf_156 : decode cX11_wayOf 156 = .ok (.istore_n 2, 1) := by decide +kernel
theorem dX11_wayOf_157 : decode cX11_wayOf 157 = .ok (.iload_n 2, 1) := by decide +kernel
theorem dX11_wayOf_158 : decode cX11_wayOf 158 = .ok (.aload_n 0, 1) := by decide +kernel
theorem dX11_wayOf_159 : decode cX11_wayOf 159 = .ok (.getfield 13, 3) := by decide +kernel
theorem dX11_wayOf_162 : decode cX11_wayOf 162 = .ok (.bipush 28, 2) := by decide +kernel
theorem dX11_wayOf_164 : decode cX11_wayOf 164 = .ok (.iload 7, 2) := by decide +kernel
theorem dX11_wayOf_166 : decode cX11_wayOf 166 = .ok (.iadd, 1) := by decide +kernel
theorem dX11_wayOf_167 : decode cX11_wayOf 167 = .ok (.iaload, 1) := by decide +kernel
theorem dX11_wayOf_168 : decode cX11_wayOf 168 = .ok (.if_icmp .ge 16, 3) := by decide +kernel
theorem dX11_wayOf_171 : decode cX11_wayOf 171 = .ok (.aload_n 0, 1) := by decide +kernel
theorem dX11_wayOf_172 : decode cX11_wayOf 172 = .ok (.getfield 13, 3) := by decide +kernel
theorem dX11_wayOf_175 : decode cX11_wayOf 175 = .ok (.bipush 28, 2) := by decide +kernel
theorem dX11_wayOf_177 : decode cX11_wayOf 177 = .ok (.iload 7, 2) := by decide +kernel
theorem dX11_wayOf_179 : decode cX11_wayOf 179 = .ok (.iadd, 1) := by decide +kernel
theorem dX11_wayOf_180 : decode cX11_wayOf 180 = .ok (.iaload, 1) := by decide +kernel
theorem dX11_wayOf_181 : decode cX11_wayOf 181 = .ok (.goto 4, 3) := by decide +kernel
theorem dX11_wayOf_184 : decode cX11_wayOf 184 = .ok (.iload_n 2, 1) := by decide +kernel
theorem dX11_wayOf_185 : decode cX11_wayOf 185 = .ok (.istore_n 2, 1) := by decide +kernel
theorem dX11_wayOf_186 : decode cX11_wayOf 186 = .ok (.iload_n 2, 1) := by decide +kernel
theorem dX11_wayOf_187 : decode cX11_wayOf 187 = .ok (.aload_n 0, 1) := by decide +kernel
theorem dX11_wayOf_188 : decode cX11_wayOf 188 = .ok (.getfield 13, 3) := by decide +kernel
theorem dX11_wayOf_191 : decode cX11_wayOf 191 = .ok (.bipush 36, 2) := by decide +kernel
theorem dX11_wayOf_193 : decode cX11_wayOf 193 = .ok (.iload 7, 2) := by decide +kernel
theorem dX11_wayOf_195 : decode cX11_wayOf 195 = .ok (.iadd, 1) := by decide +kernel
theorem dX11_wayOf_196 : decode cX11_wayOf 196 = .ok (.iaload, 1) := by decide +kernel
theorem dX11_wayOf_197 : decode cX11_wayOf 197 = .ok (.if_icmp .le 5, 3) := by decide +kernel
theorem dX11_wayOf_200 : decode cX11_wayOf 200 = .ok (.iconst (-1), 1) := by decide +kernel
theorem dX11_wayOf_201 : decode cX11_wayOf 201 = .ok (.ireturn, 1) := by decide +kernel
theorem dX11_wayOf_202 : decode cX11_wayOf 202 = .ok (.aload_n 0, 1) := by decide +kernel
theorem dX11_wayOf_203 : decode cX11_wayOf 203 = .ok (.getfield 41, 3) := by decide +kernel
theorem dX11_wayOf_206 : decode cX11_wayOf 206 = .ok (.iload 8, 2) := by decide +kernel
theorem dX11_wayOf_208 : decode cX11_wayOf 208 = .ok (.aload_n 0, 1) := by decide +kernel
theorem dX11_wayOf_209 : decode cX11_wayOf 209 = .ok (.getfield 13, 3) := by decide +kernel
theorem dX11_wayOf_212 : decode cX11_wayOf 212 = .ok (.bipush 20, 2) := by decide +kernel
theorem dX11_wayOf_214 : decode cX11_wayOf 214 = .ok (.iload 7, 2) := by decide +kernel
theorem dX11_wayOf_216 : decode cX11_wayOf 216 = .ok (.iadd, 1) := by decide +kernel
theorem dX11_wayOf_217 : decode cX11_wayOf 217 = .ok (.iaload, 1) := by decide +kernel
theorem dX11_wayOf_218 : decode cX11_wayOf 218 = .ok (.iastore, 1) := by decide +kernel
theorem dX11_wayOf_219 : decode cX11_wayOf 219 = .ok (.aload_n 0, 1) := by decide +kernel
theorem dX11_wayOf_220 : decode cX11_wayOf 220 = .ok (.getfield 41, 3) := by decide +kernel
theorem dX11_wayOf_223 : decode cX11_wayOf 223 = .ok (.iload 8, 2) := by decide +kernel
theorem dX11_wayOf_225 : decode cX11_wayOf 225 = .ok (.iaload, 1) := by decide +kernel
theorem dX11_wayOf_226 : decode cX11_wayOf 226 = .ok (.istore_n 3, 1) := by decide +kernel
theorem dX11_wayOf_227 : decode cX11_wayOf 227 = .ok (.iload 8, 2) := by decide +kernel
theorem dX11_wayOf_229 : decode cX11_wayOf 229 = .ok (.istore 4, 2) := by decide +kernel
theorem dX11_wayOf_231 : decode cX11_wayOf 231 = .ok (.iconst 0, 1) := by decide +kernel
theorem dX11_wayOf_232 : decode cX11_wayOf 232 = .ok (.istore 5, 2) := by decide +kernel
theorem dX11_wayOf_234 : decode cX11_wayOf 234 = .ok (.iinc 6 1, 3) := by decide +kernel
theorem dX11_wayOf_237 : decode cX11_wayOf 237 = .ok (.goto (-169), 3) := by decide +kernel
theorem dX11_wayOf_240 : decode cX11_wayOf 240 = .ok (.iload_n 2, 1) := by decide +kernel
theorem dX11_wayOf_241 : decode cX11_wayOf 241 = .ok (.ireturn, 1) := by decide +kernel
set_option maxRecDepth 20000 in
theorem ggX11_mayBe_X11_isDone : GoodIn wsX11_mayBe wsX11_isDone := goodIn_r _ [6, 7, 8, 9, 5, 10, 28, 29, 30, 31, 32, 33, 34, 35, 36, 37, 38, 39, 40, 41, 42, 43, 44, 45, 46, 47, 48, 49] (by decide +kernel) (by decide +kernel)
set_option maxRecDepth 20000 in
theorem gX11_mayBe_X11_isDone : GoodIn wsX11_mayBe (wsV RX11 113 RX11 yX11_isDone wsX11_isDone) := goodIn_app (goodIn_of _ (by decide +kernel)) ggX11_mayBe_X11_isDone
set_option maxRecDepth 20000 in
theorem ggX11_mayBe_X11_wayOf : GoodIn wsX11_mayBe wsX11_wayOf := goodIn_r _ [14, 15, 7, 1, 16, 17, 18, 19, 5, 20, 21, 22, 23, 24, 25, 26, 27, 28, 29, 30, 31, 32, 33, 34, 35, 36, 37, 38, 39, 40, 41, 42, 43, 44, 45, 46, 47, 48, 49] (by decide +kernel) (by decide +kernel)
set_option maxRecDepth 20000 in
theorem gX11_mayBe_X11_wayOf : GoodIn wsX11_mayBe (wsV RX11 136 RX11 yX11_wayOf wsX11_wayOf) := goodIn_app (goodIn_of _ (by decide +kernel)) ggX11_mayBe_X11_wayOf
theorem dX11_mayBe_0 : decode cX11_mayBe 0 = .ok (.aload_n 0, 1) := by decide +kernel
theorem dX11_mayBe_1 : decode cX11_mayBe 1 = .ok (.iload_n 2, 1) := by decide +kernel
theorem dX11_mayBe_2 : decode cX11_mayBe 2 = .ok (.invokevirtual 113, 3) := by decide +kernel
theorem dX11_mayBe_5 : decode cX11_mayBe 5 = .ok (.ifCond .ne 7, 3) := by decide +kernel
theorem dX11_mayBe_8 : decode cX11_mayBe 8 = .ok (.iconst 1, 1) := by decide +kernel
theorem dX11_mayBe_9 : decode cX11_mayBe 9 = .ok (.goto 4, 3) := by decide +kernel
theorem dX11_mayBe_12 : decode cX11_mayBe 12 = .ok (.iconst 0, 1) := by decide +kernel
theorem dX11_mayBe_13 : decode cX11_mayBe 13 = .ok (.istore_n 3, 1) := by decide +kernel
theorem dX11_mayBe_14 : decode cX11_mayBe 14 = .ok (.iconst 0, 1) := by decide +kernel
theorem dX11_mayBe_15 : decode cX11_mayBe 15 = .ok (.istore 4, 2) := by decide +kernel
theorem dX11_mayBe_17 : decode cX11_mayBe 17 = .ok (.iload 4, 2) := by decide +kernel
theorem dX11_mayBe_19 : decode cX11_mayBe 19 = .ok (.iload_n 1, 1) := by decide +kernel
theorem dX11_mayBe_20 : decode cX11_mayBe 20 = .ok (.if_icmp .ge 30, 3) := by decide +kernel
theorem dX11_mayBe_23 : decode cX11_mayBe 23 = .ok (.iload_n 3, 1) := by decide +kernel
theorem dX11_mayBe_24 : decode cX11_mayBe 24 = .ok (.ifCond .eq 18, 3) := by decide +kernel
theorem dX11_mayBe_27 : decode cX11_mayBe 27 = .ok (.aload_n 0, 1) := by decide +kernel
theorem dX11_mayBe_28 : decode cX11_mayBe 28 = .ok (.getfield 35, 3) := by decide +kernel
theorem dX11_mayBe_31 : decode cX11_mayBe 31 = .ok (.iload 4, 2) := by decide +kernel
theorem dX11_mayBe_33 : decode cX11_mayBe 33 = .ok (.iaload, 1) := by decide +kernel
theorem dX11_mayBe_34 : decode cX11_mayBe 34 = .ok (.iload_n 2, 1) := by decide +kernel
theorem dX11_mayBe_35 : decode cX11_mayBe 35 = .ok (.if_icmp .eq 7, 3) := by decide +kernel
theorem dX11_mayBe_38 : decode cX11_mayBe 38 = .ok (.iconst 1, 1) := by decide +kernel
theorem dX11_mayBe_39 : decode cX11_mayBe 39 = .ok (.goto 4, 3) := by decide +kernel
theorem dX11_mayBe_42 : decode cX11_mayBe 42 = .ok (.iconst 0, 1) := by decide +kernel
theorem dX11_mayBe_43 : decode cX11_mayBe 43 = .ok (.istore_n 3, 1) := by decide +kernel
theorem dX11_mayBe_44 : decode cX11_mayBe 44 = .ok (.iinc 4 1, 3) := by decide +kernel
theorem dX11_mayBe_47 : decode cX11_mayBe 47 = .ok (.goto (-30), 3) := by decide +kernel
theorem dX11_mayBe_50 : decode cX11_mayBe 50 = .ok (.aload_n 0, 1) := by decide +kernel
theorem dX11_mayBe_51 : decode cX11_mayBe 51 = .ok (.getfield 35, 3) := by decide +kernel
theorem dX11_mayBe_54 : decode cX11_mayBe 54 = .ok (.iload_n 3, 1) := by decide +kernel
theorem dX11_mayBe_55 : decode cX11_mayBe 55 = .ok (.ifCond .eq 7, 3) := by decide +kernel
theorem dX11_mayBe_58 : decode cX11_mayBe 58 = .ok (.iload_n 1, 1) := by decide +kernel
theorem dX11_mayBe_59 : decode cX11_mayBe 59 = .ok (.goto 4, 3) := by decide +kernel
theorem dX11_mayBe_62 : decode cX11_mayBe 62 = .ok (.iconst 0, 1) := by decide +kernel
theorem dX11_mayBe_63 : decode cX11_mayBe 63 = .ok (.iload_n 3, 1) := by decide +kernel
theorem dX11_mayBe_64 : decode cX11_mayBe 64 = .ok (.ifCond .eq 7, 3) := by decide +kernel
theorem dX11_mayBe_67 : decode cX11_mayBe 67 = .ok (.iload_n 2, 1) := by decide +kernel
theorem dX11_mayBe_68 : decode cX11_mayBe 68 = .ok (.goto 9, 3) := by decide +kernel
theorem dX11_mayBe_71 : decode cX11_mayBe 71 = .ok (.aload_n 0, 1) := by decide +kernel
theorem dX11_mayBe_72 : decode cX11_mayBe 72 = .ok (.getfield 35, 3) := by decide +kernel
theorem dX11_mayBe_75 : decode cX11_mayBe 75 = .ok (.iconst 0, 1) := by decide +kernel
theorem dX11_mayBe_76 : decode cX11_mayBe 76 = .ok (.iaload, 1) := by decide +kernel
theorem dX11_mayBe_77 : decode cX11_mayBe 77 = .ok (.iastore, 1) := by decide +kernel
theorem dX11_mayBe_78 : decode cX11_mayBe 78 = .ok (.iload_n 3, 1) := by decide +kernel
theorem dX11_mayBe_79 : decode cX11_mayBe 79 = .ok (.ifCond .eq 17, 3) := by decide +kernel
theorem dX11_mayBe_82 : decode cX11_mayBe 82 = .ok (.aload_n 0, 1) := by decide +kernel
theorem dX11_mayBe_83 : decode cX11_mayBe 83 = .ok (.iload_n 1, 1) := by decide +kernel
theorem dX11_mayBe_84 : decode cX11_mayBe 84 = .ok (.iconst 1, 1) := by decide +kernel
theorem dX11_mayBe_85 : decode cX11_mayBe 85 = .ok (.iadd, 1) := by decide +kernel
theorem dX11_mayBe_86 : decode cX11_mayBe 86 = .ok (.invokevirtual 136, 3) := by decide +kernel
theorem dX11_mayBe_89 : decode cX11_mayBe 89 = .ok (.ifCond .lt 7, 3) := by decide +kernel
theorem dX11_mayBe_92 : decode cX11_mayBe 92 = .ok (.iconst 1, 1) := by decide +kernel
theorem dX11_mayBe_93 : decode cX11_mayBe 93 = .ok (.goto 4, 3) := by decide +kernel
theorem dX11_mayBe_96 : decode cX11_mayBe 96 = .ok (.iconst 0, 1) := by decide +kernel
theorem dX11_mayBe_97 : decode cX11_mayBe 97 = .ok (.ireturn, 1) := by decide +kernel
theorem dX11_worthOf_0 : decode cX11_worthOf 0 = .ok (.iconst 0, 1) := by decide +kernel
theorem dX11_worthOf_1 : decode cX11_worthOf 1 = .ok (.istore_n 2, 1) := by decide +kernel
theorem dX11_worthOf_2 : decode cX11_worthOf 2 = .ok (.iconst 0, 1) := by decide +kernel
theorem dX11_worthOf_3 : decode cX11_worthOf 3 = .ok (.istore_n 3, 1) := by decide +kernel
theorem dX11_worthOf_4 : decode cX11_worthOf 4 = .ok (.iload_n 3, 1) := by decide +kernel
theorem dX11_worthOf_5 : decode cX11_worthOf 5 = .ok (.iload_n 1, 1) := by decide +kernel
theorem dX11_worthOf_6 : decode cX11_worthOf 6 = .ok (.if_icmp .ge 26, 3) := by decide +kernel
theorem dX11_worthOf_9 : decode cX11_worthOf 9 = .ok (.iload_n 2, 1) := by decide +kernel
theorem dX11_worthOf_10 : decode cX11_worthOf 10 = .ok (.aload_n 0, 1) := by decide +kernel
theorem dX11_worthOf_11 : decode cX11_worthOf 11 = .ok (.getfield 13, 3) := by decide +kernel
theorem dX11_worthOf_14 : decode cX11_worthOf 14 = .ok (.bipush 44, 2) := by decide +kernel
theorem dX11_worthOf_16 : decode cX11_worthOf 16 = .ok (.aload_n 0, 1) := by decide +kernel
theorem dX11_worthOf_17 : decode cX11_worthOf 17 = .ok (.getfield 35, 3) := by decide +kernel
theorem dX11_worthOf_20 : decode cX11_worthOf 20 = .ok (.iload_n 3, 1) := by decide +kernel
theorem dX11_worthOf_21 : decode cX11_worthOf 21 = .ok (.iaload, 1) := by decide +kernel
theorem dX11_worthOf_22 : decode cX11_worthOf 22 = .ok (.iadd, 1) := by decide +kernel
theorem dX11_worthOf_23 : decode cX11_worthOf 23 = .ok (.iaload, 1) := by decide +kernel
theorem dX11_worthOf_24 : decode cX11_worthOf 24 = .ok (.iadd, 1) := by decide +kernel
theorem dX11_worthOf_25 : decode cX11_worthOf 25 = .ok (.istore_n 2, 1) := by decide +kernel
theorem dX11_worthOf_26 : decode cX11_worthOf 26 = .ok (.iinc 3 1, 3) := by decide +kernel
theorem dX11_worthOf_29 : decode cX11_worthOf 29 = .ok (.goto (-25), 3) := by decide +kernel
theorem dX11_worthOf_32 : decode cX11_worthOf 32 = .ok (.iload_n 2, 1) := by decide +kernel
theorem dX11_worthOf_33 : decode cX11_worthOf 33 = .ok (.ireturn, 1) := by decide +kernel
set_option maxRecDepth 20000 in
theorem ggX11_rounds_X11_mayBe : GoodIn wsX11_rounds wsX11_mayBe := goodIn_r _ [12, 7, 13, 14, 15, 11, 16, 3, 17, 18, 19, 20, 21, 22, 23, 24, 5, 25, 26, 27, 28, 29, 30, 31, 32, 33, 34, 35, 40, 41, 42, 43, 44, 45, 46, 47, 48, 49, 50, 51, 52, 53, 54, 55, 56, 57, 58, 59, 60, 61] (by decide +kernel) (by decide +kernel)
set_option maxRecDepth 20000 in
theorem gX11_rounds_X11_mayBe : GoodIn wsX11_rounds (wsV RX11 148 RX11 yX11_mayBe wsX11_mayBe) := goodIn_app (goodIn_of _ (by decide +kernel)) ggX11_rounds_X11_mayBe
set_option maxRecDepth 20000 in
theorem ggX11_rounds_X11_worthOf : GoodIn wsX11_rounds wsX11_worthOf := goodIn_r _ [39, 5, 7, 40, 41, 42, 43, 44, 45, 46, 47, 48, 49, 50, 51, 52, 53, 54, 55, 56, 57, 58, 59, 60, 61] (by decide +kernel) (by decide +kernel)
set_option maxRecDepth 20000 in
theorem gX11_rounds_X11_worthOf : GoodIn wsX11_rounds (wsV RX11 151 RX11 yX11_worthOf wsX11_worthOf) := goodIn_app (goodIn_of _ (by decide +kernel)) ggX11_rounds_X11_worthOf
set_option maxRecDepth 20000 in
theorem ggX11_rounds_X11_wayOf : GoodIn wsX11_rounds wsX11_wayOf := goodIn_r _ [23, 24, 3, 7, 5, 25, 26, 27, 11, 28, 29, 30, 31, 32, 33, 34, 35, 40, 41, 42, 43, 44, 45, 46, 47, 48, 49, 50, 51, 52, 53, 54, 55, 56, 57, 58, 59, 60, 61] (by decide +kernel) (by decide +kernel)
set_option maxRecDepth 20000 in
theorem gX11_rounds_X11_wayOf : GoodIn wsX11_rounds (wsV RX11 136 RX11 yX11_wayOf wsX11_wayOf) := goodIn_app (goodIn_of _ (by decide +kernel)) ggX11_rounds_X11_wayOf
theorem dX11_rounds_0 : decode cX11_rounds 0 = .ok (.aload_n 0, 1) := by decide +kernel
theorem dX11_rounds_1 : decode cX11_rounds 1 = .ok (.iconst 0, 1) := by decide +kernel
theorem dX11_rounds_2 : decode cX11_rounds 2 = .ok (.putfield 139, 3) := by decide +kernel
theorem dX11_rounds_5 : decode cX11_rounds 5 = .ok (.aload_n 0, 1) := by decide +kernel
theorem dX11_rounds_6 : decode cX11_rounds 6 = .ok (.iconst 0, 1) := by decide +kernel
theorem dX11_rounds_7 : decode cX11_rounds 7 = .ok (.putfield 142, 3) := by decide +kernel
theorem dX11_rounds_10 : decode cX11_rounds 10 = .ok (.aload_n 0, 1) := by decide +kernel
theorem dX11_rounds_11 : decode cX11_rounds 11 = .ok (.aload_n 0, 1) := by decide +kernel
theorem dX11_rounds_12 : decode cX11_rounds 12 = .ok (.getfield 19, 3) := by decide +kernel
theorem dX11_rounds_15 : decode cX11_rounds 15 = .ok (.iconst 0, 1) := by decide +kernel
theorem dX11_rounds_16 : decode cX11_rounds 16 = .ok (.iaload, 1) := by decide +kernel
theorem dX11_rounds_17 : decode cX11_rounds 17 = .ok (.putfield 145, 3) := by decide +kernel
theorem dX11_rounds_20 : decode cX11_rounds 20 = .ok (.iconst 0, 1) := by decide +kernel
theorem dX11_rounds_21 : decode cX11_rounds 21 = .ok (.istore_n 1, 1) := by decide +kernel
theorem dX11_rounds_22 : decode cX11_rounds 22 = .ok (.iconst 0, 1) := by decide +kernel
theorem dX11_rounds_23 : decode cX11_rounds 23 = .ok (.istore_n 2, 1) := by decide +kernel
theorem dX11_rounds_24 : decode cX11_rounds 24 = .ok (.iload_n 1, 1) := by decide +kernel
theorem dX11_rounds_25 : decode cX11_rounds 25 = .ok (.ifCond .lt 152, 3) := by decide +kernel
theorem dX11_rounds_28 : decode cX11_rounds 28 = .ok (.iload_n 2, 1) := by decide +kernel
theorem dX11_rounds_29 : decode cX11_rounds 29 = .ok (.aload_n 0, 1) := by decide +kernel
theorem dX11_rounds_30 : decode cX11_rounds 30 = .ok (.getfield 13, 3) := by decide +kernel
theorem dX11_rounds_33 : decode cX11_rounds 33 = .ok (.iconst 1, 1) := by decide +kernel
theorem dX11_rounds_34 : decode cX11_rounds 34 = .ok (.iaload, 1) := by decide +kernel
theorem dX11_rounds_35 : decode cX11_rounds 35 = .ok (.if_icmp .ge 18, 3) := by decide +kernel
theorem dX11_rounds_38 : decode cX11_rounds 38 = .ok (.aload_n 0, 1) := by decide +kernel
theorem dX11_rounds_39 : decode cX11_rounds 39 = .ok (.iload_n 1, 1) := by decide +kernel
theorem dX11_rounds_40 : decode cX11_rounds 40 = .ok (.iload_n 2, 1) := by decide +kernel
theorem dX11_rounds_41 : decode cX11_rounds 41 = .ok (.invokevirtual 148, 3) := by decide +kernel
theorem dX11_rounds_44 : decode cX11_rounds 44 = .ok (.ifCond .ne 9, 3) := by decide +kernel
theorem dX11_rounds_47 : decode cX11_rounds 47 = .ok (.iinc 2 1, 3) := by decide +kernel
theorem dX11_rounds_50 : decode cX11_rounds 50 = .ok (.goto (-22), 3) := by decide +kernel
theorem dX11_rounds_53 : decode cX11_rounds 53 = .ok (.iload_n 2, 1) := by decide +kernel
theorem dX11_rounds_54 : decode cX11_rounds 54 = .ok (.aload_n 0, 1) := by decide +kernel
theorem dX11_rounds_55 : decode cX11_rounds 55 = .ok (.getfield 13, 3) := by decide +kernel
theorem dX11_rounds_58 : decode cX11_rounds 58 = .ok (.iconst 1, 1) := by decide +kernel
theorem dX11_rounds_59 : decode cX11_rounds 59 = .ok (.iaload, 1) := by decide +kernel
theorem dX11_rounds_60 : decode cX11_rounds 60 = .ok (.if_icmp .ge 94, 3) := by decide +kernel
theorem dX11_rounds_63 : decode cX11_rounds 63 = .ok (.iinc 1 1, 3) := by decide +kernel
theorem dX11_rounds_66 : decode cX11_rounds 66 = .ok (.iconst 0, 1) := by decide +kernel
theorem dX11_rounds_67 : decode cX11_rounds 67 = .ok (.istore_n 2, 1) := by decide +kernel
theorem dX11_rounds_68 : decode cX11_rounds 68 = .ok (.aload_n 0, 1) := by decide +kernel
theorem dX11_rounds_69 : decode cX11_rounds 69 = .ok (.iload_n 1, 1) := by decide +kernel
theorem dX11_rounds_70 : decode cX11_rounds 70 = .ok (.invokevirtual 151, 3) := by decide +kernel
theorem dX11_rounds_73 : decode cX11_rounds 73 = .ok (.istore_n 3, 1) := by decide +kernel
theorem dX11_rounds_74 : decode cX11_rounds 74 = .ok (.aload_n 0, 1) := by decide +kernel
theorem dX11_rounds_75 : decode cX11_rounds 75 = .ok (.iload_n 1, 1) := by decide +kernel
theorem dX11_rounds_76 : decode cX11_rounds 76 = .ok (.invokevirtual 136, 3) := by decide +kernel
theorem dX11_rounds_79 : decode cX11_rounds 79 = .ok (.istore 4, 2) := by decide +kernel
theorem dX11_rounds_81 : decode cX11_rounds 81 = .ok (.iload_n 3, 1) := by decide +kernel
theorem dX11_rounds_82 : decode cX11_rounds 82 = .ok (.aload_n 0, 1) := by decide +kernel
theorem dX11_rounds_83 : decode cX11_rounds 83 = .ok (.getfield 142, 3) := by decide +kernel
theorem dX11_rounds_86 : decode cX11_rounds 86 = .ok (.if_icmp .gt 20, 3) := by decide +kernel
theorem dX11_rounds_89 : decode cX11_rounds 89 = .ok (.iload_n 3, 1) := by decide +kernel
theorem dX11_rounds_90 : decode cX11_rounds 90 = .ok (.aload_n 0, 1) := by decide +kernel
theorem dX11_rounds_91 : decode cX11_rounds 91 = .ok (.getfield 142, 3) := by decide +kernel
theorem dX11_rounds_94 : decode cX11_rounds 94 = .ok (.if_icmp .ne 57, 3) := by decide +kernel
theorem dX11_rounds_97 : decode cX11_rounds 97 = .ok (.iload 4, 2) := by decide +kernel
theorem dX11_rounds_99 : decode cX11_rounds 99 = .ok (.aload_n 0, 1) := by decide +kernel
theorem dX11_rounds_100 : decode cX11_rounds 100 = .ok (.getfield 145, 3) := by decide +kernel
theorem dX11_rounds_103 : decode cX11_rounds 103 = .ok (.if_icmp .ge 48, 3) := by decide +kernel
theorem dX11_rounds_106 : decode cX11_rounds 106 = .ok (.aload_n 0, 1) := by decide +kernel
theorem dX11_rounds_107 : decode cX11_rounds 107 = .ok (.iload_n 1, 1) := by decide +kernel
theorem dX11_rounds_108 : decode cX11_rounds 108 = .ok (.putfield 139, 3) := by decide +kernel
theorem dX11_rounds_111 : decode cX11_rounds 111 = .ok (.aload_n 0, 1) := by decide +kernel
theorem dX11_rounds_112 : decode cX11_rounds 112 = .ok (.iload_n 3, 1) := by decide +kernel
theorem dX11_rounds_113 : decode cX11_rounds 113 = .ok (.putfield 142, 3) := by decide +kernel
theorem dX11_rounds_116 : decode cX11_rounds 116 = .ok (.aload_n 0, 1) := by decide +kernel
theorem dX11_rounds_117 : decode cX11_rounds 117 = .ok (.iload 4, 2) := by decide +kernel
theorem dX11_rounds_119 : decode cX11_rounds 119 = .ok (.putfield 145, 3) := by decide +kernel
theorem dX11_rounds_122 : decode cX11_rounds 122 = .ok (.iconst 0, 1) := by decide +kernel
theorem dX11_rounds_123 : decode cX11_rounds 123 = .ok (.istore 5, 2) := by decide +kernel
theorem dX11_rounds_125 : decode cX11_rounds 125 = .ok (.iload 5, 2) := by decide +kernel
theorem dX11_rounds_127 : decode cX11_rounds 127 = .ok (.iload_n 1, 1) := by decide +kernel
theorem dX11_rounds_128 : decode cX11_rounds 128 = .ok (.if_icmp .ge 23, 3) := by decide +kernel
theorem dX11_rounds_131 : decode cX11_rounds 131 = .ok (.aload_n 0, 1) := by decide +kernel
theorem dX11_rounds_132 : decode cX11_rounds 132 = .ok (.getfield 38, 3) := by decide +kernel
theorem dX11_rounds_135 : decode cX11_rounds 135 = .ok (.iload 5, 2) := by decide +kernel
theorem dX11_rounds_137 : decode cX11_rounds 137 = .ok (.aload_n 0, 1) := by decide +kernel
theorem dX11_rounds_138 : decode cX11_rounds 138 = .ok (.getfield 35, 3) := by decide +kernel
theorem dX11_rounds_141 : decode cX11_rounds 141 = .ok (.iload 5, 2) := by decide +kernel
theorem dX11_rounds_143 : decode cX11_rounds 143 = .ok (.iaload, 1) := by decide +kernel
theorem dX11_rounds_144 : decode cX11_rounds 144 = .ok (.iastore, 1) := by decide +kernel
theorem dX11_rounds_145 : decode cX11_rounds 145 = .ok (.iinc 5 1, 3) := by decide +kernel
theorem dX11_rounds_148 : decode cX11_rounds 148 = .ok (.goto (-23), 3) := by decide +kernel
theorem dX11_rounds_151 : decode cX11_rounds 151 = .ok (.goto (-127), 3) := by decide +kernel
theorem dX11_rounds_154 : decode cX11_rounds 154 = .ok (.iinc 1 (-1), 3) := by decide +kernel
theorem dX11_rounds_157 : decode cX11_rounds 157 = .ok (.iload_n 1, 1) := by decide +kernel
theorem dX11_rounds_158 : decode cX11_rounds 158 = .ok (.ifCond .lt 14, 3) := by decide +kernel
theorem dX11_rounds_161 : decode cX11_rounds 161 = .ok (.aload_n 0, 1) := by decide +kernel
theorem dX11_rounds_162 : decode cX11_rounds 162 = .ok (.getfield 35, 3) := by decide +kernel
theorem dX11_rounds_165 : decode cX11_rounds 165 = .ok (.iload_n 1, 1) := by decide +kernel
theorem dX11_rounds_166 : decode cX11_rounds 166 = .ok (.iaload, 1) := by decide +kernel
theorem dX11_rounds_167 : decode cX11_rounds 167 = .ok (.iconst 1, 1) := by decide +kernel
theorem dX11_rounds_168 : decode cX11_rounds 168 = .ok (.iadd, 1) := by decide +kernel
theorem dX11_rounds_169 : decode cX11_rounds 169 = .ok (.goto 4, 3) := by decide +kernel
theorem dX11_rounds_172 : decode cX11_rounds 172 = .ok (.iconst 0, 1) := by decide +kernel
theorem dX11_rounds_173 : decode cX11_rounds 173 = .ok (.istore_n 2, 1) := by decide +kernel
theorem dX11_rounds_174 : decode cX11_rounds 174 = .ok (.goto (-150), 3) := by decide +kernel
theorem dX11_rounds_177 : decode cX11_rounds 177 = .ok (.return_, 1) := by decide +kernel
set_option maxRecDepth 20000 in
theorem ggX11_round_X11_in : GoodIn wsX11_round wsX11_in := goodIn_r _ [8] (by decide +kernel) (by decide +kernel)
set_option maxRecDepth 20000 in
theorem gX11_round_X11_in : GoodIn wsX11_round (va_wsS RX11 54 yX11_in wsX11_in) := goodIn_app (goodIn_of _ (by decide +kernel)) ggX11_round_X11_in
set_option maxRecDepth 20000 in
theorem ggX11_round_X11_rounds : GoodIn wsX11_round wsX11_rounds := goodIn_r _ [12, 3, 1, 13, 2, 14, 4, 15, 16, 17, 18, 7, 19, 20, 21, 22, 23, 24, 25, 26, 27, 28, 29, 30, 31, 32, 33, 34, 35, 36, 37, 38, 39, 40, 41, 42, 43, 44, 45, 46, 47, 48, 49, 50, 51, 52, 53, 54, 55, 56, 57, 58, 59, 60, 61, 62, 63, 64, 65, 66, 67, 68] (by decide +kernel) (by decide +kernel)
set_option maxRecDepth 20000 in
theorem gX11_round_X11_rounds : GoodIn wsX11_round (wsV RX11 154 RX11 yX11_rounds wsX11_rounds) := goodIn_app (goodIn_of _ (by decide +kernel)) ggX11_round_X11_rounds
theorem dX11_round_0 : decode cX11_round 0 = .ok (.iload_n 1, 1) := by decide +kernel
theorem dX11_round_1 : decode cX11_round 1 = .ok (.bipush (-3), 2) := by decide +kernel
theorem dX11_round_3 : decode cX11_round 3 = .ok (.bipush 7, 2) := by decide +kernel
theorem dX11_round_5 : decode cX11_round 5 = .ok (.invokestatic 54, 3) := by decide +kernel
theorem dX11_round_8 : decode cX11_round 8 = .ok (.ifCond .ne 5, 3) := by decide +kernel
theorem dX11_round_11 : decode cX11_round 11 = .ok (.iconst (-1), 1) := by decide +kernel
theorem dX11_round_12 : decode cX11_round 12 = .ok (.ireturn, 1) := by decide +kernel
theorem dX11_round_13 : decode cX11_round 13 = .ok (.aload_n 0, 1) := by decide +kernel
theorem dX11_round_14 : decode cX11_round 14 = .ok (.invokevirtual 154, 3) := by decide +kernel
theorem dX11_round_17 : decode cX11_round 17 = .ok (.iload_n 1, 1) := by decide +kernel
theorem dX11_round_18 : decode cX11_round 18 = .ok (.iconst (-1), 1) := by decide +kernel
theorem dX11_round_19 : decode cX11_round 19 = .ok (.if_icmp .ne 10, 3) := by decide +kernel
theorem dX11_round_22 : decode cX11_round 22 = .ok (.aload_n 0, 1) := by decide +kernel
theorem dX11_round_23 : decode cX11_round 23 = .ok (.getfield 142, 3) := by decide +kernel
theorem dX11_round_26 : decode cX11_round 26 = .ok (.goto 48, 3) := by decide +kernel
theorem dX11_round_29 : decode cX11_round 29 = .ok (.iload_n 1, 1) := by decide +kernel
theorem dX11_round_30 : decode cX11_round 30 = .ok (.bipush (-2), 2) := by decide +kernel
theorem dX11_round_32 : decode cX11_round 32 = .ok (.if_icmp .ne 10, 3) := by decide +kernel
theorem dX11_round_35 : decode cX11_round 35 = .ok (.aload_n 0, 1) := by decide +kernel
theorem dX11_round_36 : decode cX11_round 36 = .ok (.getfield 145, 3) := by decide +kernel
theorem dX11_round_39 : decode cX11_round 39 = .ok (.goto 35, 3) := by decide +kernel
theorem dX11_round_42 : decode cX11_round 42 = .ok (.iload_n 1, 1) := by decide +kernel
theorem dX11_round_43 : decode cX11_round 43 = .ok (.bipush (-3), 2) := by decide +kernel
theorem dX11_round_45 : decode cX11_round 45 = .ok (.if_icmp .ne 10, 3) := by decide +kernel
theorem dX11_round_48 : decode cX11_round 48 = .ok (.aload_n 0, 1) := by decide +kernel
theorem dX11_round_49 : decode cX11_round 49 = .ok (.getfield 139, 3) := by decide +kernel
theorem dX11_round_52 : decode cX11_round 52 = .ok (.goto 22, 3) := by decide +kernel
theorem dX11_round_55 : decode cX11_round 55 = .ok (.iload_n 1, 1) := by decide +kernel
theorem dX11_round_56 : decode cX11_round 56 = .ok (.aload_n 0, 1) := by decide +kernel
theorem dX11_round_57 : decode cX11_round 57 = .ok (.getfield 139, 3) := by decide +kernel
theorem dX11_round_60 : decode cX11_round 60 = .ok (.if_icmp .ge 12, 3) := by decide +kernel
theorem dX11_round_63 : decode cX11_round 63 = .ok (.aload_n 0, 1) := by decide +kernel
theorem dX11_round_64 : decode cX11_round 64 = .ok (.getfield 38, 3) := by decide +kernel
theorem dX11_round_67 : decode cX11_round 67 = .ok (.iload_n 1, 1) := by decide +kernel
theorem dX11_round_68 : decode cX11_round 68 = .ok (.iaload, 1) := by decide +kernel
theorem dX11_round_69 : decode cX11_round 69 = .ok (.goto 5, 3) := by decide +kernel
theorem dX11_round_72 : decode cX11_round 72 = .ok (.bipush (-9), 2) := by decide +kernel
theorem dX11_round_74 : decode cX11_round 74 = .ok (.ireturn, 1) := by decide +kernel
set_option maxRecDepth 20000 in
theorem ggX11_comes_X11_far : GoodIn wsX11_comes wsX11_far := goodIn_r _ [5] (by decide +kernel) (by decide +kernel)
set_option maxRecDepth 20000 in
theorem gX11_comes_X11_far : GoodIn wsX11_comes (va_wsS RX11 129 yX11_far wsX11_far) := goodIn_app (goodIn_of _ (by decide +kernel)) ggX11_comes_X11_far
theorem dX11_comes_0 : decode cX11_comes 0 = .ok (.aload_n 0, 1) := by decide +kernel
theorem dX11_comes_1 : decode cX11_comes 1 = .ok (.getfield 13, 3) := by decide +kernel
theorem dX11_comes_4 : decode cX11_comes 4 = .ok (.bipush 6, 2) := by decide +kernel
theorem dX11_comes_6 : decode cX11_comes 6 = .ok (.aload_n 0, 1) := by decide +kernel
theorem dX11_comes_7 : decode cX11_comes 7 = .ok (.getfield 13, 3) := by decide +kernel
theorem dX11_comes_10 : decode cX11_comes 10 = .ok (.bipush 12, 2) := by decide +kernel
theorem dX11_comes_12 : decode cX11_comes 12 = .ok (.iload_n 3, 1) := by decide +kernel
theorem dX11_comes_13 : decode cX11_comes 13 = .ok (.iadd, 1) := by decide +kernel
theorem dX11_comes_14 : decode cX11_comes 14 = .ok (.iaload, 1) := by decide +kernel
theorem dX11_comes_15 : decode cX11_comes 15 = .ok (.iadd, 1) := by decide +kernel
theorem dX11_comes_16 : decode cX11_comes 16 = .ok (.iaload, 1) := by decide +kernel
theorem dX11_comes_17 : decode cX11_comes 17 = .ok (.istore 4, 2) := by decide +kernel
theorem dX11_comes_19 : decode cX11_comes 19 = .ok (.iload_n 2, 1) := by decide +kernel
theorem dX11_comes_20 : decode cX11_comes 20 = .ok (.iload_n 1, 1) := by decide +kernel
theorem dX11_comes_21 : decode cX11_comes 21 = .ok (.iload 4, 2) := by decide +kernel
theorem dX11_comes_23 : decode cX11_comes 23 = .ok (.invokestatic 129, 3) := by decide +kernel
theorem dX11_comes_26 : decode cX11_comes 26 = .ok (.iadd, 1) := by decide +kernel
theorem dX11_comes_27 : decode cX11_comes 27 = .ok (.iload 4, 2) := by decide +kernel
theorem dX11_comes_29 : decode cX11_comes 29 = .ok (.aload_n 0, 1) := by decide +kernel
theorem dX11_comes_30 : decode cX11_comes 30 = .ok (.getfield 13, 3) := by decide +kernel
theorem dX11_comes_33 : decode cX11_comes 33 = .ok (.bipush 20, 2) := by decide +kernel
theorem dX11_comes_35 : decode cX11_comes 35 = .ok (.iload_n 3, 1) := by decide +kernel
theorem dX11_comes_36 : decode cX11_comes 36 = .ok (.iadd, 1) := by decide +kernel
theorem dX11_comes_37 : decode cX11_comes 37 = .ok (.iaload, 1) := by decide +kernel
theorem dX11_comes_38 : decode cX11_comes 38 = .ok (.invokestatic 129, 3) := by decide +kernel
theorem dX11_comes_41 : decode cX11_comes 41 = .ok (.iadd, 1) := by decide +kernel
theorem dX11_comes_42 : decode cX11_comes 42 = .ok (.aload_n 0, 1) := by decide +kernel
theorem dX11_comes_43 : decode cX11_comes 43 = .ok (.getfield 13, 3) := by decide +kernel
theorem dX11_comes_46 : decode cX11_comes 46 = .ok (.bipush 28, 2) := by decide +kernel
theorem dX11_comes_48 : decode cX11_comes 48 = .ok (.iload_n 3, 1) := by decide +kernel
theorem dX11_comes_49 : decode cX11_comes 49 = .ok (.iadd, 1) := by decide +kernel
theorem dX11_comes_50 : decode cX11_comes 50 = .ok (.iaload, 1) := by decide +kernel
theorem dX11_comes_51 : decode cX11_comes 51 = .ok (.if_icmp .gt 7, 3) := by decide +kernel
theorem dX11_comes_54 : decode cX11_comes 54 = .ok (.iconst 1, 1) := by decide +kernel
theorem dX11_comes_55 : decode cX11_comes 55 = .ok (.goto 4, 3) := by decide +kernel
theorem dX11_comes_58 : decode cX11_comes 58 = .ok (.iconst 0, 1) := by decide +kernel
theorem dX11_comes_59 : decode cX11_comes 59 = .ok (.ireturn, 1) := by decide +kernel
set_option maxRecDepth 20000 in
theorem ggX11_spoons_X11_comes : GoodIn wsX11_spoons wsX11_comes := goodIn_r _ [7, 1, 8, 9, 6, 10, 14, 15, 16, 17, 18, 19, 20, 21, 22, 23, 24, 25, 26, 27, 28, 29, 30, 31, 32, 33, 34, 35] (by decide +kernel) (by decide +kernel)
set_option maxRecDepth 20000 in
theorem gX11_spoons_X11_comes : GoodIn wsX11_spoons (wsV RX11 157 RX11 yX11_comes wsX11_comes) := goodIn_app (goodIn_of _ (by decide +kernel)) ggX11_spoons_X11_comes
set_option maxRecDepth 20000 in
theorem ggX11_spoons_X11_has : GoodIn wsX11_spoons wsX11_has := goodIn_r _ [13] (by decide +kernel) (by decide +kernel)
set_option maxRecDepth 20000 in
theorem gX11_spoons_X11_has : GoodIn wsX11_spoons (va_wsS RX11 106 yX11_has wsX11_has) := goodIn_app (goodIn_of _ (by decide +kernel)) ggX11_spoons_X11_has
theorem dX11_spoons_0 : decode cX11_spoons 0 = .ok (.aload_n 0, 1) := by decide +kernel
theorem dX11_spoons_1 : decode cX11_spoons 1 = .ok (.getfield 13, 3) := by decide +kernel
theorem dX11_spoons_4 : decode cX11_spoons 4 = .ok (.iconst 1, 1) := by decide +kernel
theorem dX11_spoons_5 : decode cX11_spoons 5 = .ok (.iaload, 1) := by decide +kernel
theorem dX11_spoons_6 : decode cX11_spoons 6 = .ok (.istore_n 1, 1) := by decide +kernel
theorem dX11_spoons_7 : decode cX11_spoons 7 = .ok (.iconst 0, 1) := by decide +kernel
theorem dX11_spoons_8 : decode cX11_spoons 8 = .ok (.istore_n 2, 1) := by decide +kernel
theorem dX11_spoons_9 : decode cX11_spoons 9 = .ok (.iload_n 2, 1) := by decide +kernel
theorem dX11_spoons_10 : decode cX11_spoons 10 = .ok (.iload_n 1, 1) := by decide +kernel
theorem dX11_spoons_11 : decode cX11_spoons 11 = .ok (.if_icmp .ge 27, 3) := by decide +kernel
theorem dX11_spoons_14 : decode cX11_spoons 14 = .ok (.aload_n 0, 1) := by decide +kernel
theorem dX11_spoons_15 : decode cX11_spoons 15 = .ok (.aload_n 0, 1) := by decide +kernel
theorem dX11_spoons_16 : decode cX11_spoons 16 = .ok (.getfield 13, 3) := by decide +kernel
theorem dX11_spoons_19 : decode cX11_spoons 19 = .ok (.iconst 2, 1) := by decide +kernel
theorem dX11_spoons_20 : decode cX11_spoons 20 = .ok (.iaload, 1) := by decide +kernel
theorem dX11_spoons_21 : decode cX11_spoons 21 = .ok (.iconst 0, 1) := by decide +kernel
theorem dX11_spoons_22 : decode cX11_spoons 22 = .ok (.iload_n 2, 1) := by decide +kernel
theorem dX11_spoons_23 : decode cX11_spoons 23 = .ok (.invokevirtual 157, 3) := by decide +kernel
theorem dX11_spoons_26 : decode cX11_spoons 26 = .ok (.ifCond .ne 6, 3) := by decide +kernel
theorem dX11_spoons_29 : decode cX11_spoons 29 = .ok (.bipush (-9), 2) := by decide +kernel
theorem dX11_spoons_31 : decode cX11_spoons 31 = .ok (.ireturn, 1) := by decide +kernel
theorem dX11_spoons_32 : decode cX11_spoons 32 = .ok (.iinc 2 1, 3) := by decide +kernel
theorem dX11_spoons_35 : decode cX11_spoons 35 = .ok (.goto (-26), 3) := by decide +kernel
theorem dX11_spoons_38 : decode cX11_spoons 38 = .ok (.iconst 0, 1) := by decide +kernel
theorem dX11_spoons_39 : decode cX11_spoons 39 = .ok (.istore_n 2, 1) := by decide +kernel
theorem dX11_spoons_40 : decode cX11_spoons 40 = .ok (.iload_n 2, 1) := by decide +kernel
theorem dX11_spoons_41 : decode cX11_spoons 41 = .ok (.iconst 1, 1) := by decide +kernel
theorem dX11_spoons_42 : decode cX11_spoons 42 = .ok (.iload_n 1, 1) := by decide +kernel
theorem dX11_spoons_43 : decode cX11_spoons 43 = .ok (.ishl, 1) := by decide +kernel
theorem dX11_spoons_44 : decode cX11_spoons 44 = .ok (.if_icmp .ge 24, 3) := by decide +kernel
theorem dX11_spoons_47 : decode cX11_spoons 47 = .ok (.aload_n 0, 1) := by decide +kernel
theorem dX11_spoons_48 : decode cX11_spoons 48 = .ok (.getfield 44, 3) := by decide +kernel
theorem dX11_spoons_51 : decode cX11_spoons 51 = .ok (.iload_n 2, 1) := by decide +kernel
theorem dX11_spoons_52 : decode cX11_spoons 52 = .ok (.iload_n 2, 1) := by decide +kernel
theorem dX11_spoons_53 : decode cX11_spoons 53 = .ok (.ifCond .ne 7, 3) := by decide +kernel
theorem dX11_spoons_56 : decode cX11_spoons 56 = .ok (.iconst 0, 1) := by decide +kernel
theorem dX11_spoons_57 : decode cX11_spoons 57 = .ok (.goto 4, 3) := by decide +kernel
theorem dX11_spoons_60 : decode cX11_spoons 60 = .ok (.iconst (-1), 1) := by decide +kernel
theorem dX11_spoons_61 : decode cX11_spoons 61 = .ok (.iastore, 1) := by decide +kernel
theorem dX11_spoons_62 : decode cX11_spoons 62 = .ok (.iinc 2 1, 3) := by decide +kernel
theorem dX11_spoons_65 : decode cX11_spoons 65 = .ok (.goto (-25), 3) := by decide +kernel
theorem dX11_spoons_68 : decode cX11_spoons 68 = .ok (.iconst 0, 1) := by decide +kernel
theorem dX11_spoons_69 : decode cX11_spoons 69 = .ok (.istore_n 2, 1) := by decide +kernel
theorem dX11_spoons_70 : decode cX11_spoons 70 = .ok (.iconst 0, 1) := by decide +kernel
theorem dX11_spoons_71 : decode cX11_spoons 71 = .ok (.istore_n 3, 1) := by decide +kernel
theorem dX11_spoons_72 : decode cX11_spoons 72 = .ok (.iload_n 3, 1) := by decide +kernel
theorem dX11_spoons_73 : decode cX11_spoons 73 = .ok (.iload_n 1, 1) := by decide +kernel
theorem dX11_spoons_74 : decode cX11_spoons 74 = .ok (.if_icmp .ge 277, 3) := by decide +kernel
theorem dX11_spoons_77 : decode cX11_spoons 77 = .ok (.iconst 1, 1) := by decide +kernel
theorem dX11_spoons_78 : decode cX11_spoons 78 = .ok (.iload_n 1, 1) := by decide +kernel
theorem dX11_spoons_79 : decode cX11_spoons 79 = .ok (.ishl, 1) := by decide +kernel
theorem dX11_spoons_80 : decode cX11_spoons 80 = .ok (.iconst 1, 1) := by decide +kernel
theorem dX11_spoons_81 : decode cX11_spoons 81 = .ok (.isub, 1) := by decide +kernel
theorem dX11_spoons_82 : decode cX11_spoons 82 = .ok (.istore 4, 2) := by decide +kernel
theorem dX11_spoons_84 : decode cX11_spoons 84 = .ok (.iload 4, 2) := by decide +kernel
theorem dX11_spoons_86 : decode cX11_spoons 86 = .ok (.ifCond .lt 259, 3) := by decide +kernel
theorem dX11_spoons_89 : decode cX11_spoons 89 = .ok (.iconst 0, 1) := by decide +kernel
theorem dX11_spoons_90 : decode cX11_spoons 90 = .ok (.istore 5, 2) := by decide +kernel
theorem dX11_spoons_92 : decode cX11_spoons 92 = .ok (.iload 5, 2) := by decide +kernel
theorem dX11_spoons_94 : decode cX11_spoons 94 = .ok (.iload_n 1, 1) := by decide +kernel
theorem dX11_spoons_95 : decode cX11_spoons 95 = .ok (.if_icmp .ge 244, 3) := by decide +kernel
theorem dX11_spoons_98 : decode cX11_spoons 98 = .ok (.aload_n 0, 1) := by decide +kernel
theorem dX11_spoons_99 : decode cX11_spoons 99 = .ok (.getfield 44, 3) := by decide +kernel
theorem dX11_spoons_102 : decode cX11_spoons 102 = .ok (.iload 4, 2) := by decide +kernel
theorem dX11_spoons_104 : decode cX11_spoons 104 = .ok (.iaload, 1) := by decide +kernel
theorem dX11_spoons_105 : decode cX11_spoons 105 = .ok (.ifCond .lt 234, 3) := by decide +kernel
theorem dX11_spoons_108 : decode cX11_spoons 108 = .ok (.aload_n 0, 1) := by decide +kernel
theorem dX11_spoons_109 : decode cX11_spoons 109 = .ok (.getfield 13, 3) := by decide +kernel
theorem dX11_spoons_112 : decode cX11_spoons 112 = .ok (.bipush 28, 2) := by decide +kernel
theorem dX11_spoons_114 : decode cX11_spoons 114 = .ok (.iload 5, 2) := by decide +kernel
theorem dX11_spoons_116 : decode cX11_spoons 116 = .ok (.iadd, 1) := by decide +kernel
theorem dX11_spoons_117 : decode cX11_spoons 117 = .ok (.iaload, 1) := by decide +kernel
theorem dX11_spoons_118 : decode cX11_spoons 118 = .ok (.aload_n 0, 1) := by decide +kernel
theorem dX11_spoons_119 : decode cX11_spoons 119 = .ok (.getfield 13, 3) := by decide +kernel
theorem dX11_spoons_122 : decode cX11_spoons 122 = .ok (.bipush 28, 2) := by decide +kernel
theorem dX11_spoons_124 : decode cX11_spoons 124 = .ok (.iload_n 3, 1) := by decide +kernel
theorem dX11_spoons_125 : decode cX11_spoons 125 = .ok (.iadd, 1) := by decide +kernel
theorem dX11_spoons_126 : decode cX11_spoons 126 = .ok (.iaload, 1) := by decide +kernel
theorem dX11_spoons_127 : decode cX11_spoons 127 = .ok (.if_icmp .gt 31, 3) := by decide +kernel
theorem dX11_spoons_130 : decode cX11_spoons 130 = .ok (.aload_n 0, 1) := by decide +kernel
theorem dX11_spoons_131 : decode cX11_spoons 131 = .ok (.getfield 13, 3) := by decide +kernel
theorem dX11_spoons_134 : decode cX11_spoons 134 = .ok (.bipush 28, 2) := by decide +kernel
theorem dX11_spoons_136 : decode cX11_spoons 136 = .ok (.iload 5, 2) := by decide +kernel
theorem dX11_spoons_138 : decode cX11_spoons 138 = .ok (.iadd, 1) := by decide +kernel
theorem dX11_spoons_139 : decode cX11_spoons 139 = .ok (.iaload, 1) := by decide +kernel
theorem dX11_spoons_140 : decode cX11_spoons 140 = .ok (.aload_n 0, 1) := by decide +kernel
theorem dX11_spoons_141 : decode cX11_spoons 141 = .ok (.getfield 13, 3) := by decide +kernel
theorem dX11_spoons_144 : decode cX11_spoons 144 = .ok (.bipush 28, 2) := by decide +kernel
theorem dX11_spoons_146 : decode cX11_spoons 146 = .ok (.iload_n 3, 1) := by decide +kernel
theorem dX11_spoons_147 : decode cX11_spoons 147 = .ok (.iadd, 1) := by decide +kernel
theorem dX11_spoons_148 : decode cX11_spoons 148 = .ok (.iaload, 1) := by decide +kernel
theorem dX11_spoons_149 : decode cX11_spoons 149 = .ok (.if_icmp .ne 13, 3) := by decide +kernel
theorem dX11_spoons_152 : decode cX11_spoons 152 = .ok (.iload 5, 2) := by decide +kernel
theorem dX11_spoons_154 : decode cX11_spoons 154 = .ok (.iload_n 3, 1) := by decide +kernel
theorem dX11_spoons_155 : decode cX11_spoons 155 = .ok (.if_icmp .le 7, 3) := by decide +kernel
theorem dX11_spoons_158 : decode cX11_spoons 158 = .ok (.iconst 1, 1) := by decide +kernel
theorem dX11_spoons_159 : decode cX11_spoons 159 = .ok (.goto 4, 3) := by decide +kernel
theorem dX11_spoons_162 : decode cX11_spoons 162 = .ok (.iconst 0, 1) := by decide +kernel
theorem dX11_spoons_163 : decode cX11_spoons 163 = .ok (.istore 6, 2) := by decide +kernel
theorem dX11_spoons_165 : decode cX11_spoons 165 = .ok (.iload 6, 2) := by decide +kernel
theorem dX11_spoons_167 : decode cX11_spoons 167 = .ok (.ifCond .eq 66, 3) := by decide +kernel
theorem dX11_spoons_170 : decode cX11_spoons 170 = .ok (.iload 4, 2) := by decide +kernel
theorem dX11_spoons_172 : decode cX11_spoons 172 = .ok (.iload 5, 2) := by decide +kernel
theorem dX11_spoons_174 : decode cX11_spoons 174 = .ok (.invokestatic 106, 3) := by decide +kernel
theorem dX11_spoons_177 : decode cX11_spoons 177 = .ok (.ifCond .ne 56, 3) := by decide +kernel
theorem dX11_spoons_180 : decode cX11_spoons 180 = .ok (.aload_n 0, 1) := by decide +kernel
theorem dX11_spoons_181 : decode cX11_spoons 181 = .ok (.getfield 13, 3) := by decide +kernel
theorem dX11_spoons_184 : decode cX11_spoons 184 = .ok (.bipush 12, 2) := by decide +kernel
theorem dX11_spoons_186 : decode cX11_spoons 186 = .ok (.iload 5, 2) := by decide +kernel
theorem dX11_spoons_188 : decode cX11_spoons 188 = .ok (.iadd, 1) := by decide +kernel
theorem dX11_spoons_189 : decode cX11_spoons 189 = .ok (.iaload, 1) := by decide +kernel
theorem dX11_spoons_190 : decode cX11_spoons 190 = .ok (.aload_n 0, 1) := by decide +kernel
theorem dX11_spoons_191 : decode cX11_spoons 191 = .ok (.getfield 13, 3) := by decide +kernel
theorem dX11_spoons_194 : decode cX11_spoons 194 = .ok (.bipush 12, 2) := by decide +kernel
theorem dX11_spoons_196 : decode cX11_spoons 196 = .ok (.iload_n 3, 1) := by decide +kernel
theorem dX11_spoons_197 : decode cX11_spoons 197 = .ok (.iadd, 1) := by decide +kernel
theorem dX11_spoons_198 : decode cX11_spoons 198 = .ok (.iaload, 1) := by decide +kernel
theorem dX11_spoons_199 : decode cX11_spoons 199 = .ok (.if_icmp .eq 34, 3) := by decide +kernel
theorem dX11_spoons_202 : decode cX11_spoons 202 = .ok (.aload_n 0, 1) := by decide +kernel
theorem dX11_spoons_203 : decode cX11_spoons 203 = .ok (.aload_n 0, 1) := by decide +kernel
theorem dX11_spoons_204 : decode cX11_spoons 204 = .ok (.getfield 13, 3) := by decide +kernel
theorem dX11_spoons_207 : decode cX11_spoons 207 = .ok (.bipush 20, 2) := by decide +kernel
theorem dX11_spoons_209 : decode cX11_spoons 209 = .ok (.iload_n 3, 1) := by decide +kernel
theorem dX11_spoons_210 : decode cX11_spoons 210 = .ok (.iadd, 1) := by decide +kernel
theorem dX11_spoons_211 : decode cX11_spoons 211 = .ok (.iaload, 1) := by decide +kernel
theorem dX11_spoons_212 : decode cX11_spoons 212 = .ok (.aload_n 0, 1) := by decide +kernel
theorem dX11_spoons_213 : decode cX11_spoons 213 = .ok (.getfield 13, 3) := by decide +kernel
theorem dX11_spoons_216 : decode cX11_spoons 216 = .ok (.bipush 28, 2) := by decide +kernel
theorem dX11_spoons_218 : decode cX11_spoons 218 = .ok (.iload_n 3, 1) := by decide +kernel
theorem dX11_spoons_219 : decode cX11_spoons 219 = .ok (.iadd, 1) := by decide +kernel
theorem dX11_spoons_220 : decode cX11_spoons 220 = .ok (.iaload, 1) := by decide +kernel
theorem dX11_spoons_221 : decode cX11_spoons 221 = .ok (.iload 5, 2) := by decide +kernel
theorem dX11_spoons_223 : decode cX11_spoons 223 = .ok (.invokevirtual 157, 3) := by decide +kernel
theorem dX11_spoons_226 : decode cX11_spoons 226 = .ok (.ifCond .eq 7, 3) := by decide +kernel
theorem dX11_spoons_229 : decode cX11_spoons 229 = .ok (.iconst 1, 1) := by decide +kernel
theorem dX11_spoons_230 : decode cX11_spoons 230 = .ok (.goto 4, 3) := by decide +kernel
theorem dX11_spoons_233 : decode cX11_spoons 233 = .ok (.iconst 0, 1) := by decide +kernel
theorem dX11_spoons_234 : decode cX11_spoons 234 = .ok (.istore 7, 2) := by decide +kernel
theorem dX11_spoons_236 : decode cX11_spoons 236 = .ok (.aload_n 0, 1) := by decide +kernel
theorem dX11_spoons_237 : decode cX11_spoons 237 = .ok (.getfield 44, 3) := by decide +kernel
theorem dX11_spoons_240 : decode cX11_spoons 240 = .ok (.iload 4, 2) := by decide +kernel
theorem dX11_spoons_242 : decode cX11_spoons 242 = .ok (.iconst 1, 1) := by decide +kernel
theorem dX11_spoons_243 : decode cX11_spoons 243 = .ok (.iload 5, 2) := by decide +kernel
theorem dX11_spoons_245 : decode cX11_spoons 245 = .ok (.ishl, 1) := by decide +kernel
theorem dX11_spoons_246 : decode cX11_spoons 246 = .ok (.ior, 1) := by decide +kernel
theorem dX11_spoons_247 : decode cX11_spoons 247 = .ok (.iload 7, 2) := by decide +kernel
theorem dX11_spoons_249 : decode cX11_spoons 249 = .ok (.ifCond .eq 39, 3) := by decide +kernel
theorem dX11_spoons_252 : decode cX11_spoons 252 = .ok (.aload_n 0, 1) := by decide +kernel
theorem dX11_spoons_253 : decode cX11_spoons 253 = .ok (.getfield 44, 3) := by decide +kernel
theorem dX11_spoons_256 : decode cX11_spoons 256 = .ok (.iload 4, 2) := by decide +kernel
theorem dX11_spoons_258 : decode cX11_spoons 258 = .ok (.iaload, 1) := by decide +kernel
theorem dX11_spoons_259 : decode cX11_spoons 259 = .ok (.iconst 1, 1) := by decide +kernel
theorem dX11_spoons_260 : decode cX11_spoons 260 = .ok (.iadd, 1) := by decide +kernel
theorem dX11_spoons_261 : decode cX11_spoons 261 = .ok (.aload_n 0, 1) := by decide +kernel
theorem dX11_spoons_262 : decode cX11_spoons 262 = .ok (.getfield 44, 3) := by decide +kernel
theorem dX11_spoons_265 : decode cX11_spoons 265 = .ok (.iload 4, 2) := by decide +kernel
theorem dX11_spoons_267 : decode cX11_spoons 267 = .ok (.iconst 1, 1) := by decide +kernel
theorem dX11_spoons_268 : decode cX11_spoons 268 = .ok (.iload 5, 2) := by decide +kernel
theorem dX11_spoons_270 : decode cX11_spoons 270 = .ok (.ishl, 1) := by decide +kernel
theorem dX11_spoons_271 : decode cX11_spoons 271 = .ok (.ior, 1) := by decide +kernel
theorem dX11_spoons_272 : decode cX11_spoons 272 = .ok (.iaload, 1) := by decide +kernel
theorem dX11_spoons_273 : decode cX11_spoons 273 = .ok (.if_icmp .le 15, 3) := by decide +kernel
theorem dX11_spoons_276 : decode cX11_spoons 276 = .ok (.aload_n 0, 1) := by decide +kernel
theorem dX11_spoons_277 : decode cX11_spoons 277 = .ok (.getfield 44, 3) := by decide +kernel
theorem dX11_spoons_280 : decode cX11_spoons 280 = .ok (.iload 4, 2) := by decide +kernel
theorem dX11_spoons_282 : decode cX11_spoons 282 = .ok (.iaload, 1) := by decide +kernel
theorem dX11_spoons_283 : decode cX11_spoons 283 = .ok (.iconst 1, 1) := by decide +kernel
theorem dX11_spoons_284 : decode cX11_spoons 284 = .ok (.iadd, 1) := by decide +kernel
theorem dX11_spoons_285 : decode cX11_spoons 285 = .ok (.goto 15, 3) := by decide +kernel
theorem dX11_spoons_288 : decode cX11_spoons 288 = .ok (.aload_n 0, 1) := by decide +kernel
theorem dX11_spoons_289 : decode cX11_spoons 289 = .ok (.getfield 44, 3) := by decide +kernel
theorem dX11_spoons_292 : decode cX11_spoons 292 = .ok (.iload 4, 2) := by decide +kernel
theorem dX11_spoons_294 : decode cX11_spoons 294 = .ok (.iconst 1, 1) := by decide +kernel
theorem dX11_spoons_295 : decode cX11_spoons 295 = .ok (.iload 5, 2) := by decide +kernel
theorem dX11_spoons_297 : decode cX11_spoons 297 = .ok (.ishl, 1) := by decide +kernel
theorem dX11_spoons_298 : decode cX11_spoons 298 = .ok (.ior, 1) := by decide +kernel
theorem dX11_spoons_299 : decode cX11_spoons 299 = .ok (.iaload, 1) := by decide +kernel
theorem dX11_spoons_300 : decode cX11_spoons 300 = .ok (.iastore, 1) := by decide +kernel
theorem dX11_spoons_301 : decode cX11_spoons 301 = .ok (.iload 7, 2) := by decide +kernel
theorem dX11_spoons_303 : decode cX11_spoons 303 = .ok (.ifCond .eq 28, 3) := by decide +kernel
theorem dX11_spoons_306 : decode cX11_spoons 306 = .ok (.aload_n 0, 1) := by decide +kernel
theorem dX11_spoons_307 : decode cX11_spoons 307 = .ok (.getfield 44, 3) := by decide +kernel
theorem dX11_spoons_310 : decode cX11_spoons 310 = .ok (.iload 4, 2) := by decide +kernel
theorem dX11_spoons_312 : decode cX11_spoons 312 = .ok (.iaload, 1) := by decide +kernel
theorem dX11_spoons_313 : decode cX11_spoons 313 = .ok (.iconst 1, 1) := by decide +kernel
theorem dX11_spoons_314 : decode cX11_spoons 314 = .ok (.iadd, 1) := by decide +kernel
theorem dX11_spoons_315 : decode cX11_spoons 315 = .ok (.iload_n 2, 1) := by decide +kernel
theorem dX11_spoons_316 : decode cX11_spoons 316 = .ok (.if_icmp .le 15, 3) := by decide +kernel
theorem dX11_spoons_319 : decode cX11_spoons 319 = .ok (.aload_n 0, 1) := by decide +kernel
theorem dX11_spoons_320 : decode cX11_spoons 320 = .ok (.getfield 44, 3) := by decide +kernel
theorem dX11_spoons_323 : decode cX11_spoons 323 = .ok (.iload 4, 2) := by decide +kernel
theorem dX11_spoons_325 : decode cX11_spoons 325 = .ok (.iaload, 1) := by decide +kernel
theorem dX11_spoons_326 : decode cX11_spoons 326 = .ok (.iconst 1, 1) := by decide +kernel
theorem dX11_spoons_327 : decode cX11_spoons 327 = .ok (.iadd, 1) := by decide +kernel
theorem dX11_spoons_328 : decode cX11_spoons 328 = .ok (.goto 4, 3) := by decide +kernel
theorem dX11_spoons_331 : decode cX11_spoons 331 = .ok (.iload_n 2, 1) := by decide +kernel
theorem dX11_spoons_332 : decode cX11_spoons 332 = .ok (.istore_n 2, 1) := by decide +kernel
theorem dX11_spoons_333 : decode cX11_spoons 333 = .ok (.iinc 5 1, 3) := by decide +kernel
theorem dX11_spoons_336 : decode cX11_spoons 336 = .ok (.goto (-244), 3) := by decide +kernel
theorem dX11_spoons_339 : decode cX11_spoons 339 = .ok (.iinc 4 (-1), 3) := by decide +kernel
theorem dX11_spoons_342 : decode cX11_spoons 342 = .ok (.goto (-258), 3) := by decide +kernel
theorem dX11_spoons_345 : decode cX11_spoons 345 = .ok (.iinc 3 1, 3) := by decide +kernel
theorem dX11_spoons_348 : decode cX11_spoons 348 = .ok (.goto (-276), 3) := by decide +kernel
theorem dX11_spoons_351 : decode cX11_spoons 351 = .ok (.iload_n 1, 1) := by decide +kernel
theorem dX11_spoons_352 : decode cX11_spoons 352 = .ok (.iload_n 2, 1) := by decide +kernel
theorem dX11_spoons_353 : decode cX11_spoons 353 = .ok (.isub, 1) := by decide +kernel
theorem dX11_spoons_354 : decode cX11_spoons 354 = .ok (.ireturn, 1) := by decide +kernel
set_option maxRecDepth 20000 in
theorem ggX11_drawn_X11_in : GoodIn wsX11_drawn wsX11_in := goodIn_r _ [9] (by decide +kernel) (by decide +kernel)
set_option maxRecDepth 20000 in
theorem gX11_drawn_X11_in : GoodIn wsX11_drawn (va_wsS RX11 54 yX11_in wsX11_in) := goodIn_app (goodIn_of _ (by decide +kernel)) ggX11_drawn_X11_in
set_option maxRecDepth 20000 in
theorem ggX11_drawn_X11_mayBe : GoodIn wsX11_drawn wsX11_mayBe := goodIn_r _ [13, 14, 15, 16, 17, 8, 18, 19, 20, 21, 22, 23, 24, 25, 26, 27, 2, 28, 29, 30, 31, 32, 33, 34, 35, 36, 37, 38, 43, 44, 45, 46, 47, 48, 49, 50, 51, 52, 53, 54, 55, 56, 57, 58, 59, 60, 61, 62, 63, 64] (by decide +kernel) (by decide +kernel)
set_option maxRecDepth 20000 in
theorem gX11_drawn_X11_mayBe : GoodIn wsX11_drawn (wsV RX11 148 RX11 yX11_mayBe wsX11_mayBe) := goodIn_app (goodIn_of _ (by decide +kernel)) ggX11_drawn_X11_mayBe
set_option maxRecDepth 20000 in
theorem ggX11_drawn_X11_worthOf : GoodIn wsX11_drawn wsX11_worthOf := goodIn_r _ [42, 2, 14, 43, 44, 45, 46, 47, 48, 49, 50, 51, 52, 53, 54, 55, 56, 57, 58, 59, 60, 61, 62, 63, 64] (by decide +kernel) (by decide +kernel)
set_option maxRecDepth 20000 in
theorem gX11_drawn_X11_worthOf : GoodIn wsX11_drawn (wsV RX11 151 RX11 yX11_worthOf wsX11_worthOf) := goodIn_app (goodIn_of _ (by decide +kernel)) ggX11_drawn_X11_worthOf
theorem dX11_drawn_0 : decode cX11_drawn 0 = .ok (.iload_n 1, 1) := by decide +kernel
theorem dX11_drawn_1 : decode cX11_drawn 1 = .ok (.iconst 0, 1) := by decide +kernel
theorem dX11_drawn_2 : decode cX11_drawn 2 = .ok (.ldc 160, 2) := by decide +kernel
theorem dX11_drawn_4 : decode cX11_drawn 4 = .ok (.invokestatic 54, 3) := by decide +kernel
theorem dX11_drawn_7 : decode cX11_drawn 7 = .ok (.ifCond .eq 13, 3) := by decide +kernel
theorem dX11_drawn_10 : decode cX11_drawn 10 = .ok (.iload_n 2, 1) := by decide +kernel
theorem dX11_drawn_11 : decode cX11_drawn 11 = .ok (.iconst 0, 1) := by decide +kernel
theorem dX11_drawn_12 : decode cX11_drawn 12 = .ok (.bipush 20, 2) := by decide +kernel
theorem dX11_drawn_14 : decode cX11_drawn 14 = .ok (.invokestatic 54, 3) := by decide +kernel
theorem dX11_drawn_17 : decode cX11_drawn 17 = .ok (.ifCond .ne 5, 3) := by decide +kernel
theorem dX11_drawn_20 : decode cX11_drawn 20 = .ok (.iconst (-1), 1) := by decide +kernel
theorem dX11_drawn_21 : decode cX11_drawn 21 = .ok (.ireturn, 1) := by decide +kernel
theorem dX11_drawn_22 : decode cX11_drawn 22 = .ok (.iload_n 1, 1) := by decide +kernel
theorem dX11_drawn_23 : decode cX11_drawn 23 = .ok (.i2l, 1) := by decide +kernel
theorem dX11_drawn_24 : decode cX11_drawn 24 = .ok (.lstore_n 3, 1) := by decide +kernel
theorem dX11_drawn_25 : decode cX11_drawn 25 = .ok (.iconst 0, 1) := by decide +kernel
theorem dX11_drawn_26 : decode cX11_drawn 26 = .ok (.istore 5, 2) := by decide +kernel
theorem dX11_drawn_28 : decode cX11_drawn 28 = .ok (.iconst 0, 1) := by decide +kernel
theorem dX11_drawn_29 : decode cX11_drawn 29 = .ok (.istore 6, 2) := by decide +kernel
theorem dX11_drawn_31 : decode cX11_drawn 31 = .ok (.iload 6, 2) := by decide +kernel
theorem dX11_drawn_33 : decode cX11_drawn 33 = .ok (.iload_n 2, 1) := by decide +kernel
theorem dX11_drawn_34 : decode cX11_drawn 34 = .ok (.if_icmp .ge 61, 3) := by decide +kernel
theorem dX11_drawn_37 : decode cX11_drawn 37 = .ok (.aload_n 0, 1) := by decide +kernel
theorem dX11_drawn_38 : decode cX11_drawn 38 = .ok (.getfield 13, 3) := by decide +kernel
theorem dX11_drawn_41 : decode cX11_drawn 41 = .ok (.iconst 1, 1) := by decide +kernel
theorem dX11_drawn_42 : decode cX11_drawn 42 = .ok (.iaload, 1) := by decide +kernel
theorem dX11_drawn_43 : decode cX11_drawn 43 = .ok (.ifCond .le 52, 3) := by decide +kernel
theorem dX11_drawn_46 : decode cX11_drawn 46 = .ok (.ldc2_w 161, 3) := by decide +kernel
theorem dX11_drawn_49 : decode cX11_drawn 49 = .ok (.lload_n 3, 1) := by decide +kernel
theorem dX11_drawn_50 : decode cX11_drawn 50 = .ok (.lmul, 1) := by decide +kernel
theorem dX11_drawn_51 : decode cX11_drawn 51 = .ok (.ldc2_w 163, 3) := by decide +kernel
theorem dX11_drawn_54 : decode cX11_drawn 54 = .ok (.ladd, 1) := by decide +kernel
theorem dX11_drawn_55 : decode cX11_drawn 55 = .ok (.ldc2_w 165, 3) := by decide +kernel
theorem dX11_drawn_58 : decode cX11_drawn 58 = .ok (.lrem, 1) := by decide +kernel
theorem dX11_drawn_59 : decode cX11_drawn 59 = .ok (.lstore_n 3, 1) := by decide +kernel
theorem dX11_drawn_60 : decode cX11_drawn 60 = .ok (.iload 5, 2) := by decide +kernel
theorem dX11_drawn_62 : decode cX11_drawn 62 = .ok (.aload_n 0, 1) := by decide +kernel
theorem dX11_drawn_63 : decode cX11_drawn 63 = .ok (.iload 5, 2) := by decide +kernel
theorem dX11_drawn_65 : decode cX11_drawn 65 = .ok (.lload_n 3, 1) := by decide +kernel
theorem dX11_drawn_66 : decode cX11_drawn 66 = .ok (.aload_n 0, 1) := by decide +kernel
theorem dX11_drawn_67 : decode cX11_drawn 67 = .ok (.getfield 13, 3) := by decide +kernel
theorem dX11_drawn_70 : decode cX11_drawn 70 = .ok (.iconst 1, 1) := by decide +kernel
theorem dX11_drawn_71 : decode cX11_drawn 71 = .ok (.iaload, 1) := by decide +kernel
theorem dX11_drawn_72 : decode cX11_drawn 72 = .ok (.i2l, 1) := by decide +kernel
theorem dX11_drawn_73 : decode cX11_drawn 73 = .ok (.lrem, 1) := by decide +kernel
theorem dX11_drawn_74 : decode cX11_drawn 74 = .ok (.l2i, 1) := by decide +kernel
theorem dX11_drawn_75 : decode cX11_drawn 75 = .ok (.invokevirtual 148, 3) := by decide +kernel
theorem dX11_drawn_78 : decode cX11_drawn 78 = .ok (.ifCond .eq 7, 3) := by decide +kernel
theorem dX11_drawn_81 : decode cX11_drawn 81 = .ok (.iconst 1, 1) := by decide +kernel
theorem dX11_drawn_82 : decode cX11_drawn 82 = .ok (.goto 4, 3) := by decide +kernel
theorem dX11_drawn_85 : decode cX11_drawn 85 = .ok (.iconst 0, 1) := by decide +kernel
theorem dX11_drawn_86 : decode cX11_drawn 86 = .ok (.iadd, 1) := by decide +kernel
theorem dX11_drawn_87 : decode cX11_drawn 87 = .ok (.istore 5, 2) := by decide +kernel
theorem dX11_drawn_89 : decode cX11_drawn 89 = .ok (.iinc 6 1, 3) := by decide +kernel
theorem dX11_drawn_92 : decode cX11_drawn 92 = .ok (.goto (-61), 3) := by decide +kernel
theorem dX11_drawn_95 : decode cX11_drawn 95 = .ok (.aload_n 0, 1) := by decide +kernel
theorem dX11_drawn_96 : decode cX11_drawn 96 = .ok (.iload 5, 2) := by decide +kernel
theorem dX11_drawn_98 : decode cX11_drawn 98 = .ok (.invokevirtual 151, 3) := by decide +kernel
theorem dX11_drawn_101 : decode cX11_drawn 101 = .ok (.ireturn, 1) := by decide +kernel
set_option maxRecDepth 20000 in
theorem ggX11_odds_X11_in : GoodIn wsX11_odds wsX11_in := goodIn_r _ [5] (by decide +kernel) (by decide +kernel)
set_option maxRecDepth 20000 in
theorem gX11_odds_X11_in : GoodIn wsX11_odds (va_wsS RX11 54 yX11_in wsX11_in) := goodIn_app (goodIn_of _ (by decide +kernel)) ggX11_odds_X11_in
set_option maxRecDepth 20000 in
theorem ggX11_odds_X11_isDone : GoodIn wsX11_odds wsX11_isDone := goodIn_r _ [9, 10, 11, 12, 4, 13, 14, 15, 16, 17, 18, 19, 20, 21, 22, 23, 24, 25, 26, 27, 28, 29, 30, 31, 32, 33, 34, 35] (by decide +kernel) (by decide +kernel)
set_option maxRecDepth 20000 in
theorem gX11_odds_X11_isDone : GoodIn wsX11_odds (wsV RX11 113 RX11 yX11_isDone wsX11_isDone) := goodIn_app (goodIn_of _ (by decide +kernel)) ggX11_odds_X11_isDone
set_option maxRecDepth 20000 in
theorem ggX11_odds_X11_has : GoodIn wsX11_odds wsX11_has := goodIn_r _ [13] (by decide +kernel) (by decide +kernel)
set_option maxRecDepth 20000 in
theorem gX11_odds_X11_has : GoodIn wsX11_odds (va_wsS RX11 106 yX11_has wsX11_has) := goodIn_app (goodIn_of _ (by decide +kernel)) ggX11_odds_X11_has
theorem dX11_odds_0 : decode cX11_odds 0 = .ok (.iload_n 1, 1) := by decide +kernel
theorem dX11_odds_1 : decode cX11_odds 1 = .ok (.iconst 0, 1) := by decide +kernel
theorem dX11_odds_2 : decode cX11_odds 2 = .ok (.bipush 10, 2) := by decide +kernel
theorem dX11_odds_4 : decode cX11_odds 4 = .ok (.invokestatic 54, 3) := by decide +kernel
theorem dX11_odds_7 : decode cX11_odds 7 = .ok (.ifCond .eq 22, 3) := by decide +kernel
theorem dX11_odds_10 : decode cX11_odds 10 = .ok (.iload_n 2, 1) := by decide +kernel
theorem dX11_odds_11 : decode cX11_odds 11 = .ok (.iconst 0, 1) := by decide +kernel
theorem dX11_odds_12 : decode cX11_odds 12 = .ok (.bipush 8, 2) := by decide +kernel
theorem dX11_odds_14 : decode cX11_odds 14 = .ok (.invokestatic 54, 3) := by decide +kernel
theorem dX11_odds_17 : decode cX11_odds 17 = .ok (.ifCond .eq 12, 3) := by decide +kernel
theorem dX11_odds_20 : decode cX11_odds 20 = .ok (.iload_n 3, 1) := by decide +kernel
theorem dX11_odds_21 : decode cX11_odds 21 = .ok (.iconst 0, 1) := by decide +kernel
theorem dX11_odds_22 : decode cX11_odds 22 = .ok (.iconst 1, 1) := by decide +kernel
theorem dX11_odds_23 : decode cX11_odds 23 = .ok (.invokestatic 54, 3) := by decide +kernel
theorem dX11_odds_26 : decode cX11_odds 26 = .ok (.ifCond .ne 5, 3) := by decide +kernel
theorem dX11_odds_29 : decode cX11_odds 29 = .ok (.iconst (-1), 1) := by decide +kernel
theorem dX11_odds_30 : decode cX11_odds 30 = .ok (.ireturn, 1) := by decide +kernel
theorem dX11_odds_31 : decode cX11_odds 31 = .ok (.iconst 0, 1) := by decide +kernel
theorem dX11_odds_32 : decode cX11_odds 32 = .ok (.istore 4, 2) := by decide +kernel
theorem dX11_odds_34 : decode cX11_odds 34 = .ok (.iconst 1, 1) := by decide +kernel
theorem dX11_odds_35 : decode cX11_odds 35 = .ok (.istore 5, 2) := by decide +kernel
theorem dX11_odds_37 : decode cX11_odds 37 = .ok (.iconst 0, 1) := by decide +kernel
end
section
theorem dX11_odds_38 : decode cX11_odds 38 = .ok (.istore 6, 2) := by decide +kernel
theorem dX11_odds_40 : decode cX11_odds 40 = .ok (.iload 6, 2) := by decide +kernel
theorem dX11_odds_42 : decode cX11_odds 42 = .ok (.aload_n 0, 1) := by decide +kernel
theorem dX11_odds_43 : decode cX11_odds 43 = .ok (.getfield 13, 3) := by decide +kernel
theorem dX11_odds_46 : decode cX11_odds 46 = .ok (.iconst 1, 1) := by decide +kernel
theorem dX11_odds_47 : decode cX11_odds 47 = .ok (.iaload, 1) := by decide +kernel
theorem dX11_odds_48 : decode cX11_odds 48 = .ok (.if_icmp .ge 48, 3) := by decide +kernel
theorem dX11_odds_51 : decode cX11_odds 51 = .ok (.iload 4, 2) := by decide +kernel
theorem dX11_odds_53 : decode cX11_odds 53 = .ok (.aload_n 0, 1) := by decide +kernel
theorem dX11_odds_54 : decode cX11_odds 54 = .ok (.iload 6, 2) := by decide +kernel
theorem dX11_odds_56 : decode cX11_odds 56 = .ok (.invokevirtual 113, 3) := by decide +kernel
theorem dX11_odds_59 : decode cX11_odds 59 = .ok (.ifCond .eq 7, 3) := by decide +kernel
theorem dX11_odds_62 : decode cX11_odds 62 = .ok (.iconst 0, 1) := by decide +kernel
theorem dX11_odds_63 : decode cX11_odds 63 = .ok (.goto 4, 3) := by decide +kernel
theorem dX11_odds_66 : decode cX11_odds 66 = .ok (.iconst 1, 1) := by decide +kernel
theorem dX11_odds_67 : decode cX11_odds 67 = .ok (.iadd, 1) := by decide +kernel
theorem dX11_odds_68 : decode cX11_odds 68 = .ok (.istore 4, 2) := by decide +kernel
theorem dX11_odds_70 : decode cX11_odds 70 = .ok (.iload 5, 2) := by decide +kernel
theorem dX11_odds_72 : decode cX11_odds 72 = .ok (.aload_n 0, 1) := by decide +kernel
theorem dX11_odds_73 : decode cX11_odds 73 = .ok (.iload 6, 2) := by decide +kernel
theorem dX11_odds_75 : decode cX11_odds 75 = .ok (.invokevirtual 113, 3) := by decide +kernel
theorem dX11_odds_78 : decode cX11_odds 78 = .ok (.ifCond .eq 7, 3) := by decide +kernel
theorem dX11_odds_81 : decode cX11_odds 81 = .ok (.iconst 1, 1) := by decide +kernel
theorem dX11_odds_82 : decode cX11_odds 82 = .ok (.goto 5, 3) := by decide +kernel
theorem dX11_odds_85 : decode cX11_odds 85 = .ok (.bipush 10, 2) := by decide +kernel
theorem dX11_odds_87 : decode cX11_odds 87 = .ok (.imul, 1) := by decide +kernel
theorem dX11_odds_88 : decode cX11_odds 88 = .ok (.istore 5, 2) := by decide +kernel
theorem dX11_odds_90 : decode cX11_odds 90 = .ok (.iinc 6 1, 3) := by decide +kernel
theorem dX11_odds_93 : decode cX11_odds 93 = .ok (.goto (-53), 3) := by decide +kernel
theorem dX11_odds_96 : decode cX11_odds 96 = .ok (.iconst 0, 1) := by decide +kernel
theorem dX11_odds_97 : decode cX11_odds 97 = .ok (.istore 6, 2) := by decide +kernel
theorem dX11_odds_99 : decode cX11_odds 99 = .ok (.iconst 0, 1) := by decide +kernel
theorem dX11_odds_100 : decode cX11_odds 100 = .ok (.istore 7, 2) := by decide +kernel
theorem dX11_odds_102 : decode cX11_odds 102 = .ok (.iload 7, 2) := by decide +kernel
theorem dX11_odds_104 : decode cX11_odds 104 = .ok (.iconst 1, 1) := by decide +kernel
theorem dX11_odds_105 : decode cX11_odds 105 = .ok (.iload 4, 2) := by decide +kernel
theorem dX11_odds_107 : decode cX11_odds 107 = .ok (.ishl, 1) := by decide +kernel
theorem dX11_odds_108 : decode cX11_odds 108 = .ok (.if_icmp .ge 83, 3) := by decide +kernel
theorem dX11_odds_111 : decode cX11_odds 111 = .ok (.iconst 1, 1) := by decide +kernel
theorem dX11_odds_112 : decode cX11_odds 112 = .ok (.istore 8, 2) := by decide +kernel
theorem dX11_odds_114 : decode cX11_odds 114 = .ok (.iconst 0, 1) := by decide +kernel
theorem dX11_odds_115 : decode cX11_odds 115 = .ok (.istore 9, 2) := by decide +kernel
theorem dX11_odds_117 : decode cX11_odds 117 = .ok (.iconst 0, 1) := by decide +kernel
theorem dX11_odds_118 : decode cX11_odds 118 = .ok (.istore 10, 2) := by decide +kernel
theorem dX11_odds_120 : decode cX11_odds 120 = .ok (.iload 10, 2) := by decide +kernel
theorem dX11_odds_122 : decode cX11_odds 122 = .ok (.iload 4, 2) := by decide +kernel
theorem dX11_odds_124 : decode cX11_odds 124 = .ok (.if_icmp .ge 44, 3) := by decide +kernel
theorem dX11_odds_127 : decode cX11_odds 127 = .ok (.iload 8, 2) := by decide +kernel
theorem dX11_odds_129 : decode cX11_odds 129 = .ok (.iload 7, 2) := by decide +kernel
theorem dX11_odds_131 : decode cX11_odds 131 = .ok (.iload 10, 2) := by decide +kernel
theorem dX11_odds_133 : decode cX11_odds 133 = .ok (.invokestatic 106, 3) := by decide +kernel
theorem dX11_odds_136 : decode cX11_odds 136 = .ok (.ifCond .eq 7, 3) := by decide +kernel
theorem dX11_odds_139 : decode cX11_odds 139 = .ok (.iload_n 1, 1) := by decide +kernel
theorem dX11_odds_140 : decode cX11_odds 140 = .ok (.goto 7, 3) := by decide +kernel
theorem dX11_odds_143 : decode cX11_odds 143 = .ok (.bipush 10, 2) := by decide +kernel
theorem dX11_odds_145 : decode cX11_odds 145 = .ok (.iload_n 1, 1) := by decide +kernel
theorem dX11_odds_146 : decode cX11_odds 146 = .ok (.isub, 1) := by decide +kernel
theorem dX11_odds_147 : decode cX11_odds 147 = .ok (.imul, 1) := by decide +kernel
theorem dX11_odds_148 : decode cX11_odds 148 = .ok (.istore 8, 2) := by decide +kernel
theorem dX11_odds_150 : decode cX11_odds 150 = .ok (.iload 9, 2) := by decide +kernel
theorem dX11_odds_152 : decode cX11_odds 152 = .ok (.iload 7, 2) := by decide +kernel
theorem dX11_odds_154 : decode cX11_odds 154 = .ok (.iload 10, 2) := by decide +kernel
theorem dX11_odds_156 : decode cX11_odds 156 = .ok (.ishr, 1) := by decide +kernel
theorem dX11_odds_157 : decode cX11_odds 157 = .ok (.iconst 1, 1) := by decide +kernel
theorem dX11_odds_158 : decode cX11_odds 158 = .ok (.iand, 1) := by decide +kernel
theorem dX11_odds_159 : decode cX11_odds 159 = .ok (.iadd, 1) := by decide +kernel
theorem dX11_odds_160 : decode cX11_odds 160 = .ok (.istore 9, 2) := by decide +kernel
theorem dX11_odds_162 : decode cX11_odds 162 = .ok (.iinc 10 1, 3) := by decide +kernel
theorem dX11_odds_165 : decode cX11_odds 165 = .ok (.goto (-45), 3) := by decide +kernel
theorem dX11_odds_168 : decode cX11_odds 168 = .ok (.iload 6, 2) := by decide +kernel
theorem dX11_odds_170 : decode cX11_odds 170 = .ok (.iload 9, 2) := by decide +kernel
theorem dX11_odds_172 : decode cX11_odds 172 = .ok (.iload_n 2, 1) := by decide +kernel
theorem dX11_odds_173 : decode cX11_odds 173 = .ok (.if_icmp .gt 8, 3) := by decide +kernel
theorem dX11_odds_176 : decode cX11_odds 176 = .ok (.iload 8, 2) := by decide +kernel
theorem dX11_odds_178 : decode cX11_odds 178 = .ok (.goto 4, 3) := by decide +kernel
theorem dX11_odds_181 : decode cX11_odds 181 = .ok (.iconst 0, 1) := by decide +kernel
theorem dX11_odds_182 : decode cX11_odds 182 = .ok (.iadd, 1) := by decide +kernel
theorem dX11_odds_183 : decode cX11_odds 183 = .ok (.istore 6, 2) := by decide +kernel
theorem dX11_odds_185 : decode cX11_odds 185 = .ok (.iinc 7 1, 3) := by decide +kernel
theorem dX11_odds_188 : decode cX11_odds 188 = .ok (.goto (-86), 3) := by decide +kernel
theorem dX11_odds_191 : decode cX11_odds 191 = .ok (.iload 6, 2) := by decide +kernel
theorem dX11_odds_193 : decode cX11_odds 193 = .ok (.istore 7, 2) := by decide +kernel
theorem dX11_odds_195 : decode cX11_odds 195 = .ok (.iload 5, 2) := by decide +kernel
theorem dX11_odds_197 : decode cX11_odds 197 = .ok (.istore 8, 2) := by decide +kernel
theorem dX11_odds_199 : decode cX11_odds 199 = .ok (.iload 8, 2) := by decide +kernel
theorem dX11_odds_201 : decode cX11_odds 201 = .ok (.ifCond .le 21, 3) := by decide +kernel
theorem dX11_odds_204 : decode cX11_odds 204 = .ok (.iload 7, 2) := by decide +kernel
theorem dX11_odds_206 : decode cX11_odds 206 = .ok (.iload 8, 2) := by decide +kernel
theorem dX11_odds_208 : decode cX11_odds 208 = .ok (.irem, 1) := by decide +kernel
theorem dX11_odds_209 : decode cX11_odds 209 = .ok (.istore 9, 2) := by decide +kernel
theorem dX11_odds_211 : decode cX11_odds 211 = .ok (.iload 8, 2) := by decide +kernel
theorem dX11_odds_213 : decode cX11_odds 213 = .ok (.istore 7, 2) := by decide +kernel
theorem dX11_odds_215 : decode cX11_odds 215 = .ok (.iload 9, 2) := by decide +kernel
theorem dX11_odds_217 : decode cX11_odds 217 = .ok (.istore 8, 2) := by decide +kernel
theorem dX11_odds_219 : decode cX11_odds 219 = .ok (.goto (-20), 3) := by decide +kernel
theorem dX11_odds_222 : decode cX11_odds 222 = .ok (.iload_n 3, 1) := by decide +kernel
theorem dX11_odds_223 : decode cX11_odds 223 = .ok (.ifCond .ne 11, 3) := by decide +kernel
theorem dX11_odds_226 : decode cX11_odds 226 = .ok (.iload 6, 2) := by decide +kernel
theorem dX11_odds_228 : decode cX11_odds 228 = .ok (.iload 7, 2) := by decide +kernel
theorem dX11_odds_230 : decode cX11_odds 230 = .ok (.idiv, 1) := by decide +kernel
theorem dX11_odds_231 : decode cX11_odds 231 = .ok (.goto 8, 3) := by decide +kernel
theorem dX11_odds_234 : decode cX11_odds 234 = .ok (.iload 5, 2) := by decide +kernel
theorem dX11_odds_236 : decode cX11_odds 236 = .ok (.iload 7, 2) := by decide +kernel
theorem dX11_odds_238 : decode cX11_odds 238 = .ok (.idiv, 1) := by decide +kernel
theorem dX11_odds_239 : decode cX11_odds 239 = .ok (.ireturn, 1) := by decide +kernel
set_option maxRecDepth 20000 in
theorem ggX11_hears_X11_isDeed : GoodIn wsX11_hears wsX11_isDeed := goodIn_r _ [8, 9, 10, 11, 7, 12, 13, 14, 15, 16, 17, 18, 19, 20, 21, 22, 23, 24, 25, 26, 27, 28, 29, 30, 31, 32, 33, 34] (by decide +kernel) (by decide +kernel)
set_option maxRecDepth 20000 in
theorem gX11_hears_X11_isDeed : GoodIn wsX11_hears (wsV RX11 110 RX11 yX11_isDeed wsX11_isDeed) := goodIn_app (goodIn_of _ (by decide +kernel)) ggX11_hears_X11_isDeed
set_option maxRecDepth 20000 in
theorem ggX11_hears_X11_in : GoodIn wsX11_hears wsX11_in := goodIn_r _ [12] (by decide +kernel) (by decide +kernel)
set_option maxRecDepth 20000 in
theorem gX11_hears_X11_in : GoodIn wsX11_hears (va_wsS RX11 54 yX11_in wsX11_in) := goodIn_app (goodIn_of _ (by decide +kernel)) ggX11_hears_X11_in
theorem dX11_hears_0 : decode cX11_hears 0 = .ok (.aload_n 0, 1) := by decide +kernel
theorem dX11_hears_1 : decode cX11_hears 1 = .ok (.iload_n 1, 1) := by decide +kernel
theorem dX11_hears_2 : decode cX11_hears 2 = .ok (.invokevirtual 110, 3) := by decide +kernel
theorem dX11_hears_5 : decode cX11_hears 5 = .ok (.ifCond .eq 13, 3) := by decide +kernel
theorem dX11_hears_8 : decode cX11_hears 8 = .ok (.iload_n 2, 1) := by decide +kernel
theorem dX11_hears_9 : decode cX11_hears 9 = .ok (.iconst 0, 1) := by decide +kernel
theorem dX11_hears_10 : decode cX11_hears 10 = .ok (.bipush 99, 2) := by decide +kernel
theorem dX11_hears_12 : decode cX11_hears 12 = .ok (.invokestatic 54, 3) := by decide +kernel
theorem dX11_hears_15 : decode cX11_hears 15 = .ok (.ifCond .ne 5, 3) := by decide +kernel
theorem dX11_hears_18 : decode cX11_hears 18 = .ok (.iconst (-1), 1) := by decide +kernel
theorem dX11_hears_19 : decode cX11_hears 19 = .ok (.ireturn, 1) := by decide +kernel
theorem dX11_hears_20 : decode cX11_hears 20 = .ok (.aload_n 0, 1) := by decide +kernel
theorem dX11_hears_21 : decode cX11_hears 21 = .ok (.getfield 97, 3) := by decide +kernel
theorem dX11_hears_24 : decode cX11_hears 24 = .ok (.bipush 6, 2) := by decide +kernel
theorem dX11_hears_26 : decode cX11_hears 26 = .ok (.if_icmp .ne 6, 3) := by decide +kernel
theorem dX11_hears_29 : decode cX11_hears 29 = .ok (.bipush (-3), 2) := by decide +kernel
theorem dX11_hears_31 : decode cX11_hears 31 = .ok (.ireturn, 1) := by decide +kernel
theorem dX11_hears_32 : decode cX11_hears 32 = .ok (.aload_n 0, 1) := by decide +kernel
theorem dX11_hears_33 : decode cX11_hears 33 = .ok (.getfield 97, 3) := by decide +kernel
theorem dX11_hears_36 : decode cX11_hears 36 = .ok (.istore_n 3, 1) := by decide +kernel
theorem dX11_hears_37 : decode cX11_hears 37 = .ok (.iload_n 3, 1) := by decide +kernel
theorem dX11_hears_38 : decode cX11_hears 38 = .ok (.ifCond .le 49, 3) := by decide +kernel
theorem dX11_hears_41 : decode cX11_hears 41 = .ok (.aload_n 0, 1) := by decide +kernel
theorem dX11_hears_42 : decode cX11_hears 42 = .ok (.getfield 32, 3) := by decide +kernel
theorem dX11_hears_45 : decode cX11_hears 45 = .ok (.iload_n 3, 1) := by decide +kernel
theorem dX11_hears_46 : decode cX11_hears 46 = .ok (.iconst 1, 1) := by decide +kernel
theorem dX11_hears_47 : decode cX11_hears 47 = .ok (.isub, 1) := by decide +kernel
theorem dX11_hears_48 : decode cX11_hears 48 = .ok (.iaload, 1) := by decide +kernel
theorem dX11_hears_49 : decode cX11_hears 49 = .ok (.iload_n 2, 1) := by decide +kernel
theorem dX11_hears_50 : decode cX11_hears 50 = .ok (.if_icmp .le 37, 3) := by decide +kernel
theorem dX11_hears_53 : decode cX11_hears 53 = .ok (.aload_n 0, 1) := by decide +kernel
theorem dX11_hears_54 : decode cX11_hears 54 = .ok (.getfield 29, 3) := by decide +kernel
theorem dX11_hears_57 : decode cX11_hears 57 = .ok (.iload_n 3, 1) := by decide +kernel
theorem dX11_hears_58 : decode cX11_hears 58 = .ok (.aload_n 0, 1) := by decide +kernel
theorem dX11_hears_59 : decode cX11_hears 59 = .ok (.getfield 29, 3) := by decide +kernel
theorem dX11_hears_62 : decode cX11_hears 62 = .ok (.iload_n 3, 1) := by decide +kernel
theorem dX11_hears_63 : decode cX11_hears 63 = .ok (.iconst 1, 1) := by decide +kernel
theorem dX11_hears_64 : decode cX11_hears 64 = .ok (.isub, 1) := by decide +kernel
theorem dX11_hears_65 : decode cX11_hears 65 = .ok (.iaload, 1) := by decide +kernel
theorem dX11_hears_66 : decode cX11_hears 66 = .ok (.iastore, 1) := by decide +kernel
theorem dX11_hears_67 : decode cX11_hears 67 = .ok (.aload_n 0, 1) := by decide +kernel
theorem dX11_hears_68 : decode cX11_hears 68 = .ok (.getfield 32, 3) := by decide +kernel
theorem dX11_hears_71 : decode cX11_hears 71 = .ok (.iload_n 3, 1) := by decide +kernel
theorem dX11_hears_72 : decode cX11_hears 72 = .ok (.aload_n 0, 1) := by decide +kernel
theorem dX11_hears_73 : decode cX11_hears 73 = .ok (.getfield 32, 3) := by decide +kernel
theorem dX11_hears_76 : decode cX11_hears 76 = .ok (.iload_n 3, 1) := by decide +kernel
theorem dX11_hears_77 : decode cX11_hears 77 = .ok (.iconst 1, 1) := by decide +kernel
theorem dX11_hears_78 : decode cX11_hears 78 = .ok (.isub, 1) := by decide +kernel
theorem dX11_hears_79 : decode cX11_hears 79 = .ok (.iaload, 1) := by decide +kernel
theorem dX11_hears_80 : decode cX11_hears 80 = .ok (.iastore, 1) := by decide +kernel
theorem dX11_hears_81 : decode cX11_hears 81 = .ok (.iinc 3 (-1), 3) := by decide +kernel
theorem dX11_hears_84 : decode cX11_hears 84 = .ok (.goto (-47), 3) := by decide +kernel
theorem dX11_hears_87 : decode cX11_hears 87 = .ok (.aload_n 0, 1) := by decide +kernel
theorem dX11_hears_88 : decode cX11_hears 88 = .ok (.getfield 29, 3) := by decide +kernel
theorem dX11_hears_91 : decode cX11_hears 91 = .ok (.iload_n 3, 1) := by decide +kernel
theorem dX11_hears_92 : decode cX11_hears 92 = .ok (.iload_n 1, 1) := by decide +kernel
theorem dX11_hears_93 : decode cX11_hears 93 = .ok (.iastore, 1) := by decide +kernel
theorem dX11_hears_94 : decode cX11_hears 94 = .ok (.aload_n 0, 1) := by decide +kernel
theorem dX11_hears_95 : decode cX11_hears 95 = .ok (.getfield 32, 3) := by decide +kernel
theorem dX11_hears_98 : decode cX11_hears 98 = .ok (.iload_n 3, 1) := by decide +kernel
theorem dX11_hears_99 : decode cX11_hears 99 = .ok (.iload_n 2, 1) := by decide +kernel
theorem dX11_hears_100 : decode cX11_hears 100 = .ok (.iastore, 1) := by decide +kernel
theorem dX11_hears_101 : decode cX11_hears 101 = .ok (.aload_n 0, 1) := by decide +kernel
theorem dX11_hears_102 : decode cX11_hears 102 = .ok (.dup, 1) := by decide +kernel
theorem dX11_hears_103 : decode cX11_hears 103 = .ok (.getfield 97, 3) := by decide +kernel
theorem dX11_hears_106 : decode cX11_hears 106 = .ok (.iconst 1, 1) := by decide +kernel
theorem dX11_hears_107 : decode cX11_hears 107 = .ok (.iadd, 1) := by decide +kernel
theorem dX11_hears_108 : decode cX11_hears 108 = .ok (.putfield 97, 3) := by decide +kernel
theorem dX11_hears_111 : decode cX11_hears 111 = .ok (.aload_n 0, 1) := by decide +kernel
theorem dX11_hears_112 : decode cX11_hears 112 = .ok (.getfield 97, 3) := by decide +kernel
theorem dX11_hears_115 : decode cX11_hears 115 = .ok (.ireturn, 1) := by decide +kernel
theorem dX11_forget_0 : decode cX11_forget 0 = .ok (.aload_n 0, 1) := by decide +kernel
theorem dX11_forget_1 : decode cX11_forget 1 = .ok (.getfield 97, 3) := by decide +kernel
theorem dX11_forget_4 : decode cX11_forget 4 = .ok (.istore_n 1, 1) := by decide +kernel
theorem dX11_forget_5 : decode cX11_forget 5 = .ok (.aload_n 0, 1) := by decide +kernel
theorem dX11_forget_6 : decode cX11_forget 6 = .ok (.iconst 0, 1) := by decide +kernel
theorem dX11_forget_7 : decode cX11_forget 7 = .ok (.putfield 97, 3) := by decide +kernel
theorem dX11_forget_10 : decode cX11_forget 10 = .ok (.iload_n 1, 1) := by decide +kernel
theorem dX11_forget_11 : decode cX11_forget 11 = .ok (.ireturn, 1) := by decide +kernel
set_option maxRecDepth 20000 in
theorem ggX11_lies_X11_far : GoodIn wsX11_lies wsX11_far := goodIn_r _ [8] (by decide +kernel) (by decide +kernel)
set_option maxRecDepth 20000 in
theorem gX11_lies_X11_far : GoodIn wsX11_lies (va_wsS RX11 129 yX11_far wsX11_far) := goodIn_app (goodIn_of _ (by decide +kernel)) ggX11_lies_X11_far
theorem dX11_lies_0 : decode cX11_lies 0 = .ok (.iconst 0, 1) := by decide +kernel
theorem dX11_lies_1 : decode cX11_lies 1 = .ok (.istore_n 1, 1) := by decide +kernel
theorem dX11_lies_2 : decode cX11_lies 2 = .ok (.iconst 1, 1) := by decide +kernel
theorem dX11_lies_3 : decode cX11_lies 3 = .ok (.istore_n 2, 1) := by decide +kernel
theorem dX11_lies_4 : decode cX11_lies 4 = .ok (.iload_n 2, 1) := by decide +kernel
theorem dX11_lies_5 : decode cX11_lies 5 = .ok (.aload_n 0, 1) := by decide +kernel
theorem dX11_lies_6 : decode cX11_lies 6 = .ok (.getfield 97, 3) := by decide +kernel
theorem dX11_lies_9 : decode cX11_lies 9 = .ok (.if_icmp .ge 68, 3) := by decide +kernel
theorem dX11_lies_12 : decode cX11_lies 12 = .ok (.iload_n 1, 1) := by decide +kernel
theorem dX11_lies_13 : decode cX11_lies 13 = .ok (.aload_n 0, 1) := by decide +kernel
theorem dX11_lies_14 : decode cX11_lies 14 = .ok (.getfield 13, 3) := by decide +kernel
theorem dX11_lies_17 : decode cX11_lies 17 = .ok (.bipush 20, 2) := by decide +kernel
theorem dX11_lies_19 : decode cX11_lies 19 = .ok (.aload_n 0, 1) := by decide +kernel
theorem dX11_lies_20 : decode cX11_lies 20 = .ok (.getfield 29, 3) := by decide +kernel
theorem dX11_lies_23 : decode cX11_lies 23 = .ok (.iload_n 2, 1) := by decide +kernel
theorem dX11_lies_24 : decode cX11_lies 24 = .ok (.iaload, 1) := by decide +kernel
theorem dX11_lies_25 : decode cX11_lies 25 = .ok (.iadd, 1) := by decide +kernel
theorem dX11_lies_26 : decode cX11_lies 26 = .ok (.iaload, 1) := by decide +kernel
theorem dX11_lies_27 : decode cX11_lies 27 = .ok (.aload_n 0, 1) := by decide +kernel
theorem dX11_lies_28 : decode cX11_lies 28 = .ok (.getfield 13, 3) := by decide +kernel
theorem dX11_lies_31 : decode cX11_lies 31 = .ok (.bipush 20, 2) := by decide +kernel
theorem dX11_lies_33 : decode cX11_lies 33 = .ok (.aload_n 0, 1) := by decide +kernel
theorem dX11_lies_34 : decode cX11_lies 34 = .ok (.getfield 29, 3) := by decide +kernel
theorem dX11_lies_37 : decode cX11_lies 37 = .ok (.iload_n 2, 1) := by decide +kernel
theorem dX11_lies_38 : decode cX11_lies 38 = .ok (.iconst 1, 1) := by decide +kernel
theorem dX11_lies_39 : decode cX11_lies 39 = .ok (.isub, 1) := by decide +kernel
theorem dX11_lies_40 : decode cX11_lies 40 = .ok (.iaload, 1) := by decide +kernel
theorem dX11_lies_41 : decode cX11_lies 41 = .ok (.iadd, 1) := by decide +kernel
theorem dX11_lies_42 : decode cX11_lies 42 = .ok (.iaload, 1) := by decide +kernel
theorem dX11_lies_43 : decode cX11_lies 43 = .ok (.invokestatic 129, 3) := by decide +kernel
theorem dX11_lies_46 : decode cX11_lies 46 = .ok (.aload_n 0, 1) := by decide +kernel
theorem dX11_lies_47 : decode cX11_lies 47 = .ok (.getfield 32, 3) := by decide +kernel
theorem dX11_lies_50 : decode cX11_lies 50 = .ok (.iload_n 2, 1) := by decide +kernel
theorem dX11_lies_51 : decode cX11_lies 51 = .ok (.iaload, 1) := by decide +kernel
theorem dX11_lies_52 : decode cX11_lies 52 = .ok (.aload_n 0, 1) := by decide +kernel
theorem dX11_lies_53 : decode cX11_lies 53 = .ok (.getfield 32, 3) := by decide +kernel
theorem dX11_lies_56 : decode cX11_lies 56 = .ok (.iload_n 2, 1) := by decide +kernel
theorem dX11_lies_57 : decode cX11_lies 57 = .ok (.iconst 1, 1) := by decide +kernel
theorem dX11_lies_58 : decode cX11_lies 58 = .ok (.isub, 1) := by decide +kernel
theorem dX11_lies_59 : decode cX11_lies 59 = .ok (.iaload, 1) := by decide +kernel
theorem dX11_lies_60 : decode cX11_lies 60 = .ok (.isub, 1) := by decide +kernel
theorem dX11_lies_61 : decode cX11_lies 61 = .ok (.if_icmp .le 7, 3) := by decide +kernel
theorem dX11_lies_64 : decode cX11_lies 64 = .ok (.iconst 1, 1) := by decide +kernel
theorem dX11_lies_65 : decode cX11_lies 65 = .ok (.goto 4, 3) := by decide +kernel
theorem dX11_lies_68 : decode cX11_lies 68 = .ok (.iconst 0, 1) := by decide +kernel
theorem dX11_lies_69 : decode cX11_lies 69 = .ok (.iadd, 1) := by decide +kernel
theorem dX11_lies_70 : decode cX11_lies 70 = .ok (.istore_n 1, 1) := by decide +kernel
theorem dX11_lies_71 : decode cX11_lies 71 = .ok (.iinc 2 1, 3) := by decide +kernel
theorem dX11_lies_74 : decode cX11_lies 74 = .ok (.goto (-70), 3) := by decide +kernel
theorem dX11_lies_77 : decode cX11_lies 77 = .ok (.iload_n 1, 1) := by decide +kernel
theorem dX11_lies_78 : decode cX11_lies 78 = .ok (.ireturn, 1) := by decide +kernel
set_option maxRecDepth 20000 in
theorem ggX11_had_X11_in : GoodIn wsX11_had wsX11_in := goodIn_r _ [8] (by decide +kernel) (by decide +kernel)
set_option maxRecDepth 20000 in
theorem gX11_had_X11_in : GoodIn wsX11_had (va_wsS RX11 54 yX11_in wsX11_in) := goodIn_app (goodIn_of _ (by decide +kernel)) ggX11_had_X11_in
set_option maxRecDepth 20000 in
theorem ggX11_had_X11_far : GoodIn wsX11_had wsX11_far := goodIn_r _ [11] (by decide +kernel) (by decide +kernel)
set_option maxRecDepth 20000 in
theorem gX11_had_X11_far : GoodIn wsX11_had (va_wsS RX11 129 yX11_far wsX11_far) := goodIn_app (goodIn_of _ (by decide +kernel)) ggX11_had_X11_far
theorem dX11_had_0 : decode cX11_had 0 = .ok (.iload_n 1, 1) := by decide +kernel
theorem dX11_had_1 : decode cX11_had 1 = .ok (.iconst 0, 1) := by decide +kernel
theorem dX11_had_2 : decode cX11_had 2 = .ok (.bipush 99, 2) := by decide +kernel
theorem dX11_had_4 : decode cX11_had 4 = .ok (.invokestatic 54, 3) := by decide +kernel
theorem dX11_had_7 : decode cX11_had 7 = .ok (.ifCond .ne 5, 3) := by decide +kernel
theorem dX11_had_10 : decode cX11_had 10 = .ok (.iconst (-1), 1) := by decide +kernel
theorem dX11_had_11 : decode cX11_had 11 = .ok (.ireturn, 1) := by decide +kernel
theorem dX11_had_12 : decode cX11_had 12 = .ok (.bipush (-9), 2) := by decide +kernel
theorem dX11_had_14 : decode cX11_had 14 = .ok (.istore_n 2, 1) := by decide +kernel
theorem dX11_had_15 : decode cX11_had 15 = .ok (.bipush (-9), 2) := by decide +kernel
theorem dX11_had_17 : decode cX11_had 17 = .ok (.istore_n 3, 1) := by decide +kernel
theorem dX11_had_18 : decode cX11_had 18 = .ok (.iconst 0, 1) := by decide +kernel
theorem dX11_had_19 : decode cX11_had 19 = .ok (.istore 4, 2) := by decide +kernel
theorem dX11_had_21 : decode cX11_had 21 = .ok (.iload 4, 2) := by decide +kernel
theorem dX11_had_23 : decode cX11_had 23 = .ok (.aload_n 0, 1) := by decide +kernel
theorem dX11_had_24 : decode cX11_had 24 = .ok (.getfield 97, 3) := by decide +kernel
theorem dX11_had_27 : decode cX11_had 27 = .ok (.if_icmp .ge 51, 3) := by decide +kernel
theorem dX11_had_30 : decode cX11_had 30 = .ok (.aload_n 0, 1) := by decide +kernel
theorem dX11_had_31 : decode cX11_had 31 = .ok (.getfield 32, 3) := by decide +kernel
theorem dX11_had_34 : decode cX11_had 34 = .ok (.iload 4, 2) := by decide +kernel
theorem dX11_had_36 : decode cX11_had 36 = .ok (.iaload, 1) := by decide +kernel
theorem dX11_had_37 : decode cX11_had 37 = .ok (.iload_n 1, 1) := by decide +kernel
theorem dX11_had_38 : decode cX11_had 38 = .ok (.if_icmp .gt 8, 3) := by decide +kernel
theorem dX11_had_41 : decode cX11_had 41 = .ok (.iload 4, 2) := by decide +kernel
theorem dX11_had_43 : decode cX11_had 43 = .ok (.goto 4, 3) := by decide +kernel
theorem dX11_had_46 : decode cX11_had 46 = .ok (.iload_n 2, 1) := by decide +kernel
theorem dX11_had_47 : decode cX11_had 47 = .ok (.istore_n 2, 1) := by decide +kernel
theorem dX11_had_48 : decode cX11_had 48 = .ok (.aload_n 0, 1) := by decide +kernel
theorem dX11_had_49 : decode cX11_had 49 = .ok (.getfield 32, 3) := by decide +kernel
theorem dX11_had_52 : decode cX11_had 52 = .ok (.iload 4, 2) := by decide +kernel
theorem dX11_had_54 : decode cX11_had 54 = .ok (.iaload, 1) := by decide +kernel
theorem dX11_had_55 : decode cX11_had 55 = .ok (.iload_n 1, 1) := by decide +kernel
theorem dX11_had_56 : decode cX11_had 56 = .ok (.if_icmp .lt 14, 3) := by decide +kernel
theorem dX11_had_59 : decode cX11_had 59 = .ok (.iload_n 3, 1) := by decide +kernel
theorem dX11_had_60 : decode cX11_had 60 = .ok (.bipush (-9), 2) := by decide +kernel
theorem dX11_had_62 : decode cX11_had 62 = .ok (.if_icmp .ne 8, 3) := by decide +kernel
theorem dX11_had_65 : decode cX11_had 65 = .ok (.iload 4, 2) := by decide +kernel
theorem dX11_had_67 : decode cX11_had 67 = .ok (.goto 4, 3) := by decide +kernel
theorem dX11_had_70 : decode cX11_had 70 = .ok (.iload_n 3, 1) := by decide +kernel
theorem dX11_had_71 : decode cX11_had 71 = .ok (.istore_n 3, 1) := by decide +kernel
theorem dX11_had_72 : decode cX11_had 72 = .ok (.iinc 4 1, 3) := by decide +kernel
theorem dX11_had_75 : decode cX11_had 75 = .ok (.goto (-54), 3) := by decide +kernel
theorem dX11_had_78 : decode cX11_had 78 = .ok (.iload_n 2, 1) := by decide +kernel
theorem dX11_had_79 : decode cX11_had 79 = .ok (.bipush (-9), 2) := by decide +kernel
theorem dX11_had_81 : decode cX11_had 81 = .ok (.if_icmp .ne 7, 3) := by decide +kernel
theorem dX11_had_84 : decode cX11_had 84 = .ok (.iconst 0, 1) := by decide +kernel
theorem dX11_had_85 : decode cX11_had 85 = .ok (.goto 19, 3) := by decide +kernel
theorem dX11_had_88 : decode cX11_had 88 = .ok (.iconst 1, 1) := by decide +kernel
theorem dX11_had_89 : decode cX11_had 89 = .ok (.aload_n 0, 1) := by decide +kernel
theorem dX11_had_90 : decode cX11_had 90 = .ok (.getfield 13, 3) := by decide +kernel
theorem dX11_had_93 : decode cX11_had 93 = .ok (.bipush 12, 2) := by decide +kernel
theorem dX11_had_95 : decode cX11_had 95 = .ok (.aload_n 0, 1) := by decide +kernel
theorem dX11_had_96 : decode cX11_had 96 = .ok (.getfield 29, 3) := by decide +kernel
theorem dX11_had_99 : decode cX11_had 99 = .ok (.iload_n 2, 1) := by decide +kernel
theorem dX11_had_100 : decode cX11_had 100 = .ok (.iaload, 1) := by decide +kernel
theorem dX11_had_101 : decode cX11_had 101 = .ok (.iadd, 1) := by decide +kernel
theorem dX11_had_102 : decode cX11_had 102 = .ok (.iaload, 1) := by decide +kernel
theorem dX11_had_103 : decode cX11_had 103 = .ok (.ishl, 1) := by decide +kernel
theorem dX11_had_104 : decode cX11_had 104 = .ok (.istore 4, 2) := by decide +kernel
theorem dX11_had_106 : decode cX11_had 106 = .ok (.iload 4, 2) := by decide +kernel
theorem dX11_had_108 : decode cX11_had 108 = .ok (.iload_n 3, 1) := by decide +kernel
theorem dX11_had_109 : decode cX11_had 109 = .ok (.bipush (-9), 2) := by decide +kernel
theorem dX11_had_111 : decode cX11_had 111 = .ok (.if_icmp .ne 7, 3) := by decide +kernel
theorem dX11_had_114 : decode cX11_had 114 = .ok (.iconst 0, 1) := by decide +kernel
theorem dX11_had_115 : decode cX11_had 115 = .ok (.goto 19, 3) := by decide +kernel
theorem dX11_had_118 : decode cX11_had 118 = .ok (.iconst 1, 1) := by decide +kernel
theorem dX11_had_119 : decode cX11_had 119 = .ok (.aload_n 0, 1) := by decide +kernel
theorem dX11_had_120 : decode cX11_had 120 = .ok (.getfield 13, 3) := by decide +kernel
theorem dX11_had_123 : decode cX11_had 123 = .ok (.bipush 12, 2) := by decide +kernel
theorem dX11_had_125 : decode cX11_had 125 = .ok (.aload_n 0, 1) := by decide +kernel
theorem dX11_had_126 : decode cX11_had 126 = .ok (.getfield 29, 3) := by decide +kernel
theorem dX11_had_129 : decode cX11_had 129 = .ok (.iload_n 3, 1) := by decide +kernel
theorem dX11_had_130 : decode cX11_had 130 = .ok (.iaload, 1) := by decide +kernel
theorem dX11_had_131 : decode cX11_had 131 = .ok (.iadd, 1) := by decide +kernel
theorem dX11_had_132 : decode cX11_had 132 = .ok (.iaload, 1) := by decide +kernel
theorem dX11_had_133 : decode cX11_had 133 = .ok (.ishl, 1) := by decide +kernel
theorem dX11_had_134 : decode cX11_had 134 = .ok (.ior, 1) := by decide +kernel
theorem dX11_had_135 : decode cX11_had 135 = .ok (.istore 4, 2) := by decide +kernel
theorem dX11_had_137 : decode cX11_had 137 = .ok (.iconst 0, 1) := by decide +kernel
theorem dX11_had_138 : decode cX11_had 138 = .ok (.istore 5, 2) := by decide +kernel
theorem dX11_had_140 : decode cX11_had 140 = .ok (.iload 5, 2) := by decide +kernel
theorem dX11_had_142 : decode cX11_had 142 = .ok (.aload_n 0, 1) := by decide +kernel
theorem dX11_had_143 : decode cX11_had 143 = .ok (.getfield 13, 3) := by decide +kernel
theorem dX11_had_146 : decode cX11_had 146 = .ok (.iconst 0, 1) := by decide +kernel
theorem dX11_had_147 : decode cX11_had 147 = .ok (.iaload, 1) := by decide +kernel
theorem dX11_had_148 : decode cX11_had 148 = .ok (.if_icmp .ge 134, 3) := by decide +kernel
theorem dX11_had_151 : decode cX11_had 151 = .ok (.iload_n 2, 1) := by decide +kernel
theorem dX11_had_152 : decode cX11_had 152 = .ok (.bipush (-9), 2) := by decide +kernel
theorem dX11_had_154 : decode cX11_had 154 = .ok (.if_icmp .eq 41, 3) := by decide +kernel
theorem dX11_had_157 : decode cX11_had 157 = .ok (.aload_n 0, 1) := by decide +kernel
theorem dX11_had_158 : decode cX11_had 158 = .ok (.getfield 13, 3) := by decide +kernel
theorem dX11_had_161 : decode cX11_had 161 = .ok (.bipush 20, 2) := by decide +kernel
theorem dX11_had_163 : decode cX11_had 163 = .ok (.aload_n 0, 1) := by decide +kernel
theorem dX11_had_164 : decode cX11_had 164 = .ok (.getfield 29, 3) := by decide +kernel
theorem dX11_had_167 : decode cX11_had 167 = .ok (.iload_n 2, 1) := by decide +kernel
theorem dX11_had_168 : decode cX11_had 168 = .ok (.iaload, 1) := by decide +kernel
theorem dX11_had_169 : decode cX11_had 169 = .ok (.iadd, 1) := by decide +kernel
theorem dX11_had_170 : decode cX11_had 170 = .ok (.iaload, 1) := by decide +kernel
theorem dX11_had_171 : decode cX11_had 171 = .ok (.aload_n 0, 1) := by decide +kernel
theorem dX11_had_172 : decode cX11_had 172 = .ok (.getfield 13, 3) := by decide +kernel
theorem dX11_had_175 : decode cX11_had 175 = .ok (.bipush 6, 2) := by decide +kernel
theorem dX11_had_177 : decode cX11_had 177 = .ok (.iload 5, 2) := by decide +kernel
theorem dX11_had_179 : decode cX11_had 179 = .ok (.iadd, 1) := by decide +kernel
theorem dX11_had_180 : decode cX11_had 180 = .ok (.iaload, 1) := by decide +kernel
theorem dX11_had_181 : decode cX11_had 181 = .ok (.invokestatic 129, 3) := by decide +kernel
theorem dX11_had_184 : decode cX11_had 184 = .ok (.iload_n 1, 1) := by decide +kernel
theorem dX11_had_185 : decode cX11_had 185 = .ok (.aload_n 0, 1) := by decide +kernel
theorem dX11_had_186 : decode cX11_had 186 = .ok (.getfield 32, 3) := by decide +kernel
theorem dX11_had_189 : decode cX11_had 189 = .ok (.iload_n 2, 1) := by decide +kernel
theorem dX11_had_190 : decode cX11_had 190 = .ok (.iaload, 1) := by decide +kernel
theorem dX11_had_191 : decode cX11_had 191 = .ok (.isub, 1) := by decide +kernel
theorem dX11_had_192 : decode cX11_had 192 = .ok (.if_icmp .gt 7, 3) := by decide +kernel
theorem dX11_had_195 : decode cX11_had 195 = .ok (.iconst 1, 1) := by decide +kernel
theorem dX11_had_196 : decode cX11_had 196 = .ok (.goto 4, 3) := by decide +kernel
theorem dX11_had_199 : decode cX11_had 199 = .ok (.iconst 0, 1) := by decide +kernel
theorem dX11_had_200 : decode cX11_had 200 = .ok (.istore 6, 2) := by decide +kernel
theorem dX11_had_202 : decode cX11_had 202 = .ok (.iload_n 3, 1) := by decide +kernel
theorem dX11_had_203 : decode cX11_had 203 = .ok (.bipush (-9), 2) := by decide +kernel
theorem dX11_had_205 : decode cX11_had 205 = .ok (.if_icmp .eq 41, 3) := by decide +kernel
theorem dX11_had_208 : decode cX11_had 208 = .ok (.aload_n 0, 1) := by decide +kernel
theorem dX11_had_209 : decode cX11_had 209 = .ok (.getfield 13, 3) := by decide +kernel
theorem dX11_had_212 : decode cX11_had 212 = .ok (.bipush 6, 2) := by decide +kernel
theorem dX11_had_214 : decode cX11_had 214 = .ok (.iload 5, 2) := by decide +kernel
theorem dX11_had_216 : decode cX11_had 216 = .ok (.iadd, 1) := by decide +kernel
theorem dX11_had_217 : decode cX11_had 217 = .ok (.iaload, 1) := by decide +kernel
theorem dX11_had_218 : decode cX11_had 218 = .ok (.aload_n 0, 1) := by decide +kernel
theorem dX11_had_219 : decode cX11_had 219 = .ok (.getfield 13, 3) := by decide +kernel
theorem dX11_had_222 : decode cX11_had 222 = .ok (.bipush 20, 2) := by decide +kernel
theorem dX11_had_224 : decode cX11_had 224 = .ok (.aload_n 0, 1) := by decide +kernel
theorem dX11_had_225 : decode cX11_had 225 = .ok (.getfield 29, 3) := by decide +kernel
theorem dX11_had_228 : decode cX11_had 228 = .ok (.iload_n 3, 1) := by decide +kernel
theorem dX11_had_229 : decode cX11_had 229 = .ok (.iaload, 1) := by decide +kernel
theorem dX11_had_230 : decode cX11_had 230 = .ok (.iadd, 1) := by decide +kernel
theorem dX11_had_231 : decode cX11_had 231 = .ok (.iaload, 1) := by decide +kernel
theorem dX11_had_232 : decode cX11_had 232 = .ok (.invokestatic 129, 3) := by decide +kernel
theorem dX11_had_235 : decode cX11_had 235 = .ok (.aload_n 0, 1) := by decide +kernel
theorem dX11_had_236 : decode cX11_had 236 = .ok (.getfield 32, 3) := by decide +kernel
theorem dX11_had_239 : decode cX11_had 239 = .ok (.iload_n 3, 1) := by decide +kernel
theorem dX11_had_240 : decode cX11_had 240 = .ok (.iaload, 1) := by decide +kernel
theorem dX11_had_241 : decode cX11_had 241 = .ok (.iload_n 1, 1) := by decide +kernel
theorem dX11_had_242 : decode cX11_had 242 = .ok (.isub, 1) := by decide +kernel
theorem dX11_had_243 : decode cX11_had 243 = .ok (.if_icmp .gt 7, 3) := by decide +kernel
theorem dX11_had_246 : decode cX11_had 246 = .ok (.iconst 1, 1) := by decide +kernel
theorem dX11_had_247 : decode cX11_had 247 = .ok (.goto 4, 3) := by decide +kernel
theorem dX11_had_250 : decode cX11_had 250 = .ok (.iconst 0, 1) := by decide +kernel
theorem dX11_had_251 : decode cX11_had 251 = .ok (.istore 7, 2) := by decide +kernel
theorem dX11_had_253 : decode cX11_had 253 = .ok (.iload 4, 2) := by decide +kernel
theorem dX11_had_255 : decode cX11_had 255 = .ok (.iload 6, 2) := by decide +kernel
theorem dX11_had_257 : decode cX11_had 257 = .ok (.ifCond .eq 15, 3) := by decide +kernel
theorem dX11_had_260 : decode cX11_had 260 = .ok (.iload 7, 2) := by decide +kernel
theorem dX11_had_262 : decode cX11_had 262 = .ok (.ifCond .eq 10, 3) := by decide +kernel
theorem dX11_had_265 : decode cX11_had 265 = .ok (.iconst 1, 1) := by decide +kernel
theorem dX11_had_266 : decode cX11_had 266 = .ok (.iload 5, 2) := by decide +kernel
theorem dX11_had_268 : decode cX11_had 268 = .ok (.ishl, 1) := by decide +kernel
theorem dX11_had_269 : decode cX11_had 269 = .ok (.goto 4, 3) := by decide +kernel
theorem dX11_had_272 : decode cX11_had 272 = .ok (.iconst 0, 1) := by decide +kernel
theorem dX11_had_273 : decode cX11_had 273 = .ok (.ior, 1) := by decide +kernel
theorem dX11_had_274 : decode cX11_had 274 = .ok (.istore 4, 2) := by decide +kernel
theorem dX11_had_276 : decode cX11_had 276 = .ok (.iinc 5 1, 3) := by decide +kernel
theorem dX11_had_279 : decode cX11_had 279 = .ok (.goto (-139), 3) := by decide +kernel
theorem dX11_had_282 : decode cX11_had 282 = .ok (.iload 4, 2) := by decide +kernel
theorem dX11_had_284 : decode cX11_had 284 = .ok (.ireturn, 1) := by decide +kernel
set_option maxRecDepth 20000 in
theorem ggX11_mark_X11_in : GoodIn wsX11_mark wsX11_in := goodIn_r _ [12] (by decide +kernel) (by decide +kernel)
set_option maxRecDepth 20000 in
theorem gX11_mark_X11_in : GoodIn wsX11_mark (va_wsS RX11 54 yX11_in wsX11_in) := goodIn_app (goodIn_of _ (by decide +kernel)) ggX11_mark_X11_in
set_option maxRecDepth 20000 in
theorem ggX11_mark_X11_isOne : GoodIn wsX11_mark wsX11_isOne := goodIn_r _ [16, 17, 9, 10, 11, 12, 22, 23, 24, 25, 26, 27, 28, 29, 30, 31, 32, 33, 34, 35, 36, 37, 38, 39, 40, 41, 42, 43] (by decide +kernel) (by decide +kernel)
set_option maxRecDepth 20000 in
theorem gX11_mark_X11_isOne : GoodIn wsX11_mark (wsV RX11 100 RX11 yX11_isOne wsX11_isOne) := goodIn_app (goodIn_of _ (by decide +kernel)) ggX11_mark_X11_isOne
set_option maxRecDepth 20000 in
theorem ggX11_mark_X11_care : GoodIn wsX11_mark wsX11_care := goodIn_r _ [21, 8, 22, 23, 24, 25, 26, 27, 28, 29, 30, 31, 32, 33, 34, 35, 36, 37, 38, 39, 40, 41, 42, 43] (by decide +kernel) (by decide +kernel)
set_option maxRecDepth 20000 in
theorem gX11_mark_X11_care : GoodIn wsX11_mark (wsV RX11 103 RX11 yX11_care wsX11_care) := goodIn_app (goodIn_of _ (by decide +kernel)) ggX11_mark_X11_care
theorem dX11_mark_0 : decode cX11_mark 0 = .ok (.iload_n 1, 1) := by decide +kernel
theorem dX11_mark_1 : decode cX11_mark 1 = .ok (.iconst 0, 1) := by decide +kernel
theorem dX11_mark_2 : decode cX11_mark 2 = .ok (.iconst 5, 1) := by decide +kernel
theorem dX11_mark_3 : decode cX11_mark 3 = .ok (.invokestatic 54, 3) := by decide +kernel
theorem dX11_mark_6 : decode cX11_mark 6 = .ok (.ifCond .eq 11, 3) := by decide +kernel
theorem dX11_mark_9 : decode cX11_mark 9 = .ok (.aload_n 0, 1) := by decide +kernel
theorem dX11_mark_10 : decode cX11_mark 10 = .ok (.iload_n 2, 1) := by decide +kernel
theorem dX11_mark_11 : decode cX11_mark 11 = .ok (.invokevirtual 100, 3) := by decide +kernel
theorem dX11_mark_14 : decode cX11_mark 14 = .ok (.ifCond .ne 6, 3) := by decide +kernel
theorem dX11_mark_17 : decode cX11_mark 17 = .ok (.ldc 167, 2) := by decide +kernel
theorem dX11_mark_19 : decode cX11_mark 19 = .ok (.ireturn, 1) := by decide +kernel
theorem dX11_mark_20 : decode cX11_mark 20 = .ok (.aload_n 0, 1) := by decide +kernel
theorem dX11_mark_21 : decode cX11_mark 21 = .ok (.dup, 1) := by decide +kernel
theorem dX11_mark_22 : decode cX11_mark 22 = .ok (.getfield 168, 3) := by decide +kernel
theorem dX11_mark_25 : decode cX11_mark 25 = .ok (.iload_n 1, 1) := by decide +kernel
theorem dX11_mark_26 : decode cX11_mark 26 = .ok (.ifCond .ne 7, 3) := by decide +kernel
theorem dX11_mark_29 : decode cX11_mark 29 = .ok (.lconst 1, 1) := by decide +kernel
theorem dX11_mark_30 : decode cX11_mark 30 = .ok (.goto 50, 3) := by decide +kernel
theorem dX11_mark_33 : decode cX11_mark 33 = .ok (.iload_n 1, 1) := by decide +kernel
theorem dX11_mark_34 : decode cX11_mark 34 = .ok (.iconst 1, 1) := by decide +kernel
theorem dX11_mark_35 : decode cX11_mark 35 = .ok (.if_icmp .ne 9, 3) := by decide +kernel
theorem dX11_mark_38 : decode cX11_mark 38 = .ok (.ldc2_w 172, 3) := by decide +kernel
theorem dX11_mark_41 : decode cX11_mark 41 = .ok (.goto 39, 3) := by decide +kernel
theorem dX11_mark_44 : decode cX11_mark 44 = .ok (.iload_n 1, 1) := by decide +kernel
theorem dX11_mark_45 : decode cX11_mark 45 = .ok (.iconst 2, 1) := by decide +kernel
theorem dX11_mark_46 : decode cX11_mark 46 = .ok (.if_icmp .ne 9, 3) := by decide +kernel
theorem dX11_mark_49 : decode cX11_mark 49 = .ok (.ldc2_w 174, 3) := by decide +kernel
theorem dX11_mark_52 : decode cX11_mark 52 = .ok (.goto 28, 3) := by decide +kernel
theorem dX11_mark_55 : decode cX11_mark 55 = .ok (.iload_n 1, 1) := by decide +kernel
theorem dX11_mark_56 : decode cX11_mark 56 = .ok (.iconst 3, 1) := by decide +kernel
theorem dX11_mark_57 : decode cX11_mark 57 = .ok (.if_icmp .ne 9, 3) := by decide +kernel
theorem dX11_mark_60 : decode cX11_mark 60 = .ok (.ldc2_w 176, 3) := by decide +kernel
theorem dX11_mark_63 : decode cX11_mark 63 = .ok (.goto 17, 3) := by decide +kernel
theorem dX11_mark_66 : decode cX11_mark 66 = .ok (.iload_n 1, 1) := by decide +kernel
theorem dX11_mark_67 : decode cX11_mark 67 = .ok (.iconst 4, 1) := by decide +kernel
theorem dX11_mark_68 : decode cX11_mark 68 = .ok (.if_icmp .ne 9, 3) := by decide +kernel
theorem dX11_mark_71 : decode cX11_mark 71 = .ok (.ldc2_w 178, 3) := by decide +kernel
theorem dX11_mark_74 : decode cX11_mark 74 = .ok (.goto 6, 3) := by decide +kernel
theorem dX11_mark_77 : decode cX11_mark 77 = .ok (.ldc2_w 180, 3) := by decide +kernel
theorem dX11_mark_80 : decode cX11_mark 80 = .ok (.ladd, 1) := by decide +kernel
theorem dX11_mark_81 : decode cX11_mark 81 = .ok (.putfield 168, 3) := by decide +kernel
theorem dX11_mark_84 : decode cX11_mark 84 = .ok (.aload_n 0, 1) := by decide +kernel
theorem dX11_mark_85 : decode cX11_mark 85 = .ok (.iload_n 2, 1) := by decide +kernel
theorem dX11_mark_86 : decode cX11_mark 86 = .ok (.invokevirtual 103, 3) := by decide +kernel
theorem dX11_mark_89 : decode cX11_mark 89 = .ok (.istore_n 3, 1) := by decide +kernel
theorem dX11_mark_90 : decode cX11_mark 90 = .ok (.iload_n 3, 1) := by decide +kernel
theorem dX11_mark_91 : decode cX11_mark 91 = .ok (.aload_n 0, 1) := by decide +kernel
theorem dX11_mark_92 : decode cX11_mark 92 = .ok (.getfield 19, 3) := by decide +kernel
theorem dX11_mark_95 : decode cX11_mark 95 = .ok (.bipush 16, 2) := by decide +kernel
theorem dX11_mark_97 : decode cX11_mark 97 = .ok (.iload_n 2, 1) := by decide +kernel
theorem dX11_mark_98 : decode cX11_mark 98 = .ok (.iadd, 1) := by decide +kernel
theorem dX11_mark_99 : decode cX11_mark 99 = .ok (.iaload, 1) := by decide +kernel
theorem dX11_mark_100 : decode cX11_mark 100 = .ok (.iadd, 1) := by decide +kernel
theorem dX11_mark_101 : decode cX11_mark 101 = .ok (.istore 4, 2) := by decide +kernel
theorem dX11_mark_103 : decode cX11_mark 103 = .ok (.iload_n 3, 1) := by decide +kernel
theorem dX11_mark_104 : decode cX11_mark 104 = .ok (.aload_n 0, 1) := by decide +kernel
theorem dX11_mark_105 : decode cX11_mark 105 = .ok (.getfield 19, 3) := by decide +kernel
theorem dX11_mark_108 : decode cX11_mark 108 = .ok (.iconst 4, 1) := by decide +kernel
theorem dX11_mark_109 : decode cX11_mark 109 = .ok (.iload_n 2, 1) := by decide +kernel
theorem dX11_mark_110 : decode cX11_mark 110 = .ok (.iadd, 1) := by decide +kernel
theorem dX11_mark_111 : decode cX11_mark 111 = .ok (.iaload, 1) := by decide +kernel
theorem dX11_mark_112 : decode cX11_mark 112 = .ok (.isub, 1) := by decide +kernel
theorem dX11_mark_113 : decode cX11_mark 113 = .ok (.istore 5, 2) := by decide +kernel
theorem dX11_mark_115 : decode cX11_mark 115 = .ok (.iload_n 1, 1) := by decide +kernel
theorem dX11_mark_116 : decode cX11_mark 116 = .ok (.ifCond .ne 7, 3) := by decide +kernel
theorem dX11_mark_119 : decode cX11_mark 119 = .ok (.iload_n 3, 1) := by decide +kernel
theorem dX11_mark_120 : decode cX11_mark 120 = .ok (.goto 55, 3) := by decide +kernel
theorem dX11_mark_123 : decode cX11_mark 123 = .ok (.iload_n 1, 1) := by decide +kernel
theorem dX11_mark_124 : decode cX11_mark 124 = .ok (.iconst 1, 1) := by decide +kernel
theorem dX11_mark_125 : decode cX11_mark 125 = .ok (.if_icmp .ne 8, 3) := by decide +kernel
theorem dX11_mark_128 : decode cX11_mark 128 = .ok (.iload 4, 2) := by decide +kernel
theorem dX11_mark_130 : decode cX11_mark 130 = .ok (.goto 45, 3) := by decide +kernel
theorem dX11_mark_133 : decode cX11_mark 133 = .ok (.iload_n 1, 1) := by decide +kernel
theorem dX11_mark_134 : decode cX11_mark 134 = .ok (.iconst 2, 1) := by decide +kernel
theorem dX11_mark_135 : decode cX11_mark 135 = .ok (.if_icmp .ne 8, 3) := by decide +kernel
theorem dX11_mark_138 : decode cX11_mark 138 = .ok (.iload 5, 2) := by decide +kernel
theorem dX11_mark_140 : decode cX11_mark 140 = .ok (.goto 35, 3) := by decide +kernel
theorem dX11_mark_143 : decode cX11_mark 143 = .ok (.iload_n 1, 1) := by decide +kernel
theorem dX11_mark_144 : decode cX11_mark 144 = .ok (.iconst 3, 1) := by decide +kernel
theorem dX11_mark_145 : decode cX11_mark 145 = .ok (.if_icmp .ne 10, 3) := by decide +kernel
theorem dX11_mark_148 : decode cX11_mark 148 = .ok (.iconst 2, 1) := by decide +kernel
theorem dX11_mark_149 : decode cX11_mark 149 = .ok (.iload 4, 2) := by decide +kernel
theorem dX11_mark_151 : decode cX11_mark 151 = .ok (.imul, 1) := by decide +kernel
theorem dX11_mark_152 : decode cX11_mark 152 = .ok (.goto 23, 3) := by decide +kernel
theorem dX11_mark_155 : decode cX11_mark 155 = .ok (.iload_n 1, 1) := by decide +kernel
theorem dX11_mark_156 : decode cX11_mark 156 = .ok (.iconst 4, 1) := by decide +kernel
theorem dX11_mark_157 : decode cX11_mark 157 = .ok (.if_icmp .ne 10, 3) := by decide +kernel
theorem dX11_mark_160 : decode cX11_mark 160 = .ok (.iload 5, 2) := by decide +kernel
theorem dX11_mark_162 : decode cX11_mark 162 = .ok (.iload_n 2, 1) := by decide +kernel
theorem dX11_mark_163 : decode cX11_mark 163 = .ok (.iadd, 1) := by decide +kernel
theorem dX11_mark_164 : decode cX11_mark 164 = .ok (.goto 11, 3) := by decide +kernel
theorem dX11_mark_167 : decode cX11_mark 167 = .ok (.iload_n 3, 1) := by decide +kernel
theorem dX11_mark_168 : decode cX11_mark 168 = .ok (.aload_n 0, 1) := by decide +kernel
theorem dX11_mark_169 : decode cX11_mark 169 = .ok (.getfield 19, 3) := by decide +kernel
theorem dX11_mark_172 : decode cX11_mark 172 = .ok (.iconst 0, 1) := by decide +kernel
theorem dX11_mark_173 : decode cX11_mark 173 = .ok (.iaload, 1) := by decide +kernel
theorem dX11_mark_174 : decode cX11_mark 174 = .ok (.iadd, 1) := by decide +kernel
theorem dX11_mark_175 : decode cX11_mark 175 = .ok (.ireturn, 1) := by decide +kernel
set_option maxRecDepth 20000 in
theorem ggX11_keep_X11_in : GoodIn wsX11_keep wsX11_in := goodIn_r _ [7] (by decide +kernel) (by decide +kernel)
set_option maxRecDepth 20000 in
theorem gX11_keep_X11_in : GoodIn wsX11_keep (va_wsS RX11 54 yX11_in wsX11_in) := goodIn_app (goodIn_of _ (by decide +kernel)) ggX11_keep_X11_in
theorem dX11_keep_0 : decode cX11_keep 0 = .ok (.iload_n 1, 1) := by decide +kernel
theorem dX11_keep_1 : decode cX11_keep 1 = .ok (.iconst 0, 1) := by decide +kernel
theorem dX11_keep_2 : decode cX11_keep 2 = .ok (.iconst 1, 1) := by decide +kernel
theorem dX11_keep_3 : decode cX11_keep 3 = .ok (.invokestatic 54, 3) := by decide +kernel
theorem dX11_keep_6 : decode cX11_keep 6 = .ok (.ifCond .ne 5, 3) := by decide +kernel
theorem dX11_keep_9 : decode cX11_keep 9 = .ok (.iconst (-1), 1) := by decide +kernel
theorem dX11_keep_10 : decode cX11_keep 10 = .ok (.ireturn, 1) := by decide +kernel
theorem dX11_keep_11 : decode cX11_keep 11 = .ok (.iconst 0, 1) := by decide +kernel
theorem dX11_keep_12 : decode cX11_keep 12 = .ok (.istore_n 2, 1) := by decide +kernel
theorem dX11_keep_13 : decode cX11_keep 13 = .ok (.iload_n 2, 1) := by decide +kernel
theorem dX11_keep_14 : decode cX11_keep 14 = .ok (.sipush 254, 3) := by decide +kernel
theorem dX11_keep_17 : decode cX11_keep 17 = .ok (.if_icmp .ge 27, 3) := by decide +kernel
theorem dX11_keep_20 : decode cX11_keep 20 = .ok (.aload_n 0, 1) := by decide +kernel
theorem dX11_keep_21 : decode cX11_keep 21 = .ok (.getfield 22, 3) := by decide +kernel
theorem dX11_keep_24 : decode cX11_keep 24 = .ok (.sipush 254, 3) := by decide +kernel
theorem dX11_keep_27 : decode cX11_keep 27 = .ok (.iload_n 1, 1) := by decide +kernel
theorem dX11_keep_28 : decode cX11_keep 28 = .ok (.imul, 1) := by decide +kernel
theorem dX11_keep_29 : decode cX11_keep 29 = .ok (.iload_n 2, 1) := by decide +kernel
theorem dX11_keep_30 : decode cX11_keep 30 = .ok (.iadd, 1) := by decide +kernel
theorem dX11_keep_31 : decode cX11_keep 31 = .ok (.aload_n 0, 1) := by decide +kernel
theorem dX11_keep_32 : decode cX11_keep 32 = .ok (.getfield 19, 3) := by decide +kernel
theorem dX11_keep_35 : decode cX11_keep 35 = .ok (.iload_n 2, 1) := by decide +kernel
theorem dX11_keep_36 : decode cX11_keep 36 = .ok (.iaload, 1) := by decide +kernel
theorem dX11_keep_37 : decode cX11_keep 37 = .ok (.iastore, 1) := by decide +kernel
theorem dX11_keep_38 : decode cX11_keep 38 = .ok (.iinc 2 1, 3) := by decide +kernel
theorem dX11_keep_41 : decode cX11_keep 41 = .ok (.goto (-28), 3) := by decide +kernel
theorem dX11_keep_44 : decode cX11_keep 44 = .ok (.aload_n 0, 1) := by decide +kernel
theorem dX11_keep_45 : decode cX11_keep 45 = .ok (.getfield 25, 3) := by decide +kernel
theorem dX11_keep_48 : decode cX11_keep 48 = .ok (.iload_n 1, 1) := by decide +kernel
theorem dX11_keep_49 : decode cX11_keep 49 = .ok (.iconst 1, 1) := by decide +kernel
theorem dX11_keep_50 : decode cX11_keep 50 = .ok (.bastore, 1) := by decide +kernel
theorem dX11_keep_51 : decode cX11_keep 51 = .ok (.aload_n 0, 1) := by decide +kernel
theorem dX11_keep_52 : decode cX11_keep 52 = .ok (.getfield 19, 3) := by decide +kernel
theorem dX11_keep_55 : decode cX11_keep 55 = .ok (.iconst 0, 1) := by decide +kernel
theorem dX11_keep_56 : decode cX11_keep 56 = .ok (.iaload, 1) := by decide +kernel
theorem dX11_keep_57 : decode cX11_keep 57 = .ok (.ireturn, 1) := by decide +kernel
set_option maxRecDepth 20000 in
theorem ggX11_back_X11_in : GoodIn wsX11_back wsX11_in := goodIn_r _ [7] (by decide +kernel) (by decide +kernel)
set_option maxRecDepth 20000 in
theorem gX11_back_X11_in : GoodIn wsX11_back (va_wsS RX11 54 yX11_in wsX11_in) := goodIn_app (goodIn_of _ (by decide +kernel)) ggX11_back_X11_in
theorem dX11_back_0 : decode cX11_back 0 = .ok (.iload_n 1, 1) := by decide +kernel
theorem dX11_back_1 : decode cX11_back 1 = .ok (.iconst 0, 1) := by decide +kernel
theorem dX11_back_2 : decode cX11_back 2 = .ok (.iconst 1, 1) := by decide +kernel
theorem dX11_back_3 : decode cX11_back 3 = .ok (.invokestatic 54, 3) := by decide +kernel
theorem dX11_back_6 : decode cX11_back 6 = .ok (.ifCond .ne 5, 3) := by decide +kernel
theorem dX11_back_9 : decode cX11_back 9 = .ok (.iconst (-1), 1) := by decide +kernel
theorem dX11_back_10 : decode cX11_back 10 = .ok (.ireturn, 1) := by decide +kernel
theorem dX11_back_11 : decode cX11_back 11 = .ok (.aload_n 0, 1) := by decide +kernel
theorem dX11_back_12 : decode cX11_back 12 = .ok (.getfield 25, 3) := by decide +kernel
theorem dX11_back_15 : decode cX11_back 15 = .ok (.iload_n 1, 1) := by decide +kernel
theorem dX11_back_16 : decode cX11_back 16 = .ok (.baload, 1) := by decide +kernel
theorem dX11_back_17 : decode cX11_back 17 = .ok (.ifCond .ne 6, 3) := by decide +kernel
theorem dX11_back_20 : decode cX11_back 20 = .ok (.bipush (-2), 2) := by decide +kernel
theorem dX11_back_22 : decode cX11_back 22 = .ok (.ireturn, 1) := by decide +kernel
theorem dX11_back_23 : decode cX11_back 23 = .ok (.iconst 0, 1) := by decide +kernel
theorem dX11_back_24 : decode cX11_back 24 = .ok (.istore_n 2, 1) := by decide +kernel
theorem dX11_back_25 : decode cX11_back 25 = .ok (.iload_n 2, 1) := by decide +kernel
theorem dX11_back_26 : decode cX11_back 26 = .ok (.sipush 254, 3) := by decide +kernel
theorem dX11_back_29 : decode cX11_back 29 = .ok (.if_icmp .ge 27, 3) := by decide +kernel
theorem dX11_back_32 : decode cX11_back 32 = .ok (.aload_n 0, 1) := by decide +kernel
theorem dX11_back_33 : decode cX11_back 33 = .ok (.getfield 19, 3) := by decide +kernel
theorem dX11_back_36 : decode cX11_back 36 = .ok (.iload_n 2, 1) := by decide +kernel
theorem dX11_back_37 : decode cX11_back 37 = .ok (.aload_n 0, 1) := by decide +kernel
theorem dX11_back_38 : decode cX11_back 38 = .ok (.getfield 22, 3) := by decide +kernel
theorem dX11_back_41 : decode cX11_back 41 = .ok (.sipush 254, 3) := by decide +kernel
theorem dX11_back_44 : decode cX11_back 44 = .ok (.iload_n 1, 1) := by decide +kernel
theorem dX11_back_45 : decode cX11_back 45 = .ok (.imul, 1) := by decide +kernel
theorem dX11_back_46 : decode cX11_back 46 = .ok (.iload_n 2, 1) := by decide +kernel
theorem dX11_back_47 : decode cX11_back 47 = .ok (.iadd, 1) := by decide +kernel
theorem dX11_back_48 : decode cX11_back 48 = .ok (.iaload, 1) := by decide +kernel
theorem dX11_back_49 : decode cX11_back 49 = .ok (.iastore, 1) := by decide +kernel
theorem dX11_back_50 : decode cX11_back 50 = .ok (.iinc 2 1, 3) := by decide +kernel
theorem dX11_back_53 : decode cX11_back 53 = .ok (.goto (-28), 3) := by decide +kernel
theorem dX11_back_56 : decode cX11_back 56 = .ok (.aload_n 0, 1) := by decide +kernel
theorem dX11_back_57 : decode cX11_back 57 = .ok (.getfield 19, 3) := by decide +kernel
theorem dX11_back_60 : decode cX11_back 60 = .ok (.iconst 0, 1) := by decide +kernel
theorem dX11_back_61 : decode cX11_back 61 = .ok (.iaload, 1) := by decide +kernel
theorem dX11_back_62 : decode cX11_back 62 = .ok (.ireturn, 1) := by decide +kernel
theorem dX11_count_0 : decode cX11_count 0 = .ok (.iload_n 1, 1) := by decide +kernel
theorem dX11_count_1 : decode cX11_count 1 = .ok (.tableswitch 89 0 6 #[43, 50, 57, 64, 71, 76, 84], 43) := by decide +kernel
theorem dX11_count_44 : decode cX11_count 44 = .ok (.aload_n 0, 1) := by decide +kernel
theorem dX11_count_45 : decode cX11_count 45 = .ok (.getfield 13, 3) := by decide +kernel
theorem dX11_count_48 : decode cX11_count 48 = .ok (.iconst 0, 1) := by decide +kernel
theorem dX11_count_49 : decode cX11_count 49 = .ok (.iaload, 1) := by decide +kernel
theorem dX11_count_50 : decode cX11_count 50 = .ok (.ireturn, 1) := by decide +kernel
theorem dX11_count_51 : decode cX11_count 51 = .ok (.aload_n 0, 1) := by decide +kernel
theorem dX11_count_52 : decode cX11_count 52 = .ok (.getfield 13, 3) := by decide +kernel
theorem dX11_count_55 : decode cX11_count 55 = .ok (.iconst 1, 1) := by decide +kernel
theorem dX11_count_56 : decode cX11_count 56 = .ok (.iaload, 1) := by decide +kernel
theorem dX11_count_57 : decode cX11_count 57 = .ok (.ireturn, 1) := by decide +kernel
theorem dX11_count_58 : decode cX11_count 58 = .ok (.aload_n 0, 1) := by decide +kernel
theorem dX11_count_59 : decode cX11_count 59 = .ok (.getfield 13, 3) := by decide +kernel
theorem dX11_count_62 : decode cX11_count 62 = .ok (.iconst 2, 1) := by decide +kernel
theorem dX11_count_63 : decode cX11_count 63 = .ok (.iaload, 1) := by decide +kernel
theorem dX11_count_64 : decode cX11_count 64 = .ok (.ireturn, 1) := by decide +kernel
theorem dX11_count_65 : decode cX11_count 65 = .ok (.aload_n 0, 1) := by decide +kernel
theorem dX11_count_66 : decode cX11_count 66 = .ok (.getfield 13, 3) := by decide +kernel
theorem dX11_count_69 : decode cX11_count 69 = .ok (.iconst 3, 1) := by decide +kernel
theorem dX11_count_70 : decode cX11_count 70 = .ok (.iaload, 1) := by decide +kernel
theorem dX11_count_71 : decode cX11_count 71 = .ok (.ireturn, 1) := by decide +kernel
theorem dX11_count_72 : decode cX11_count 72 = .ok (.aload_n 0, 1) := by decide +kernel
theorem dX11_count_73 : decode cX11_count 73 = .ok (.getfield 97, 3) := by decide +kernel
theorem dX11_count_76 : decode cX11_count 76 = .ok (.ireturn, 1) := by decide +kernel
theorem dX11_count_77 : decode cX11_count 77 = .ok (.aload_n 0, 1) := by decide +kernel
theorem dX11_count_78 : decode cX11_count 78 = .ok (.getfield 19, 3) := by decide +kernel
theorem dX11_count_81 : decode cX11_count 81 = .ok (.bipush 23, 2) := by decide +kernel
theorem dX11_count_83 : decode cX11_count 83 = .ok (.iaload, 1) := by decide +kernel
theorem dX11_count_84 : decode cX11_count 84 = .ok (.ireturn, 1) := by decide +kernel
theorem dX11_count_85 : decode cX11_count 85 = .ok (.aload_n 0, 1) := by decide +kernel
theorem dX11_count_86 : decode cX11_count 86 = .ok (.getfield 58, 3) := by decide +kernel
theorem dX11_count_89 : decode cX11_count 89 = .ok (.ireturn, 1) := by decide +kernel
theorem dX11_count_90 : decode cX11_count 90 = .ok (.iconst (-1), 1) := by decide +kernel
theorem dX11_count_91 : decode cX11_count 91 = .ok (.ireturn, 1) := by decide +kernel
theorem dX11_trace_0 : decode cX11_trace 0 = .ok (.aload_n 0, 1) := by decide +kernel
theorem dX11_trace_1 : decode cX11_trace 1 = .ok (.getfield 168, 3) := by decide +kernel
theorem dX11_trace_4 : decode cX11_trace 4 = .ok (.lreturn, 1) := by decide +kernel
theorem dJ6_bitCount_0f7a4_0 : decode cJ6_bitCount_0f7a4 0 = .ok (.iload_n 0, 1) := by decide +kernel
theorem dJ6_bitCount_0f7a4_1 : decode cJ6_bitCount_0f7a4 1 = .ok (.iload_n 0, 1) := by decide +kernel
theorem dJ6_bitCount_0f7a4_2 : decode cJ6_bitCount_0f7a4 2 = .ok (.iconst 1, 1) := by decide +kernel
theorem dJ6_bitCount_0f7a4_3 : decode cJ6_bitCount_0f7a4 3 = .ok (.iushr, 1) := by decide +kernel
theorem dJ6_bitCount_0f7a4_4 : decode cJ6_bitCount_0f7a4 4 = .ok (.ldc_w 265, 3) := by decide +kernel
theorem dJ6_bitCount_0f7a4_7 : decode cJ6_bitCount_0f7a4 7 = .ok (.iand, 1) := by decide +kernel
theorem dJ6_bitCount_0f7a4_8 : decode cJ6_bitCount_0f7a4 8 = .ok (.isub, 1) := by decide +kernel
theorem dJ6_bitCount_0f7a4_9 : decode cJ6_bitCount_0f7a4 9 = .ok (.istore_n 0, 1) := by decide +kernel
theorem dJ6_bitCount_0f7a4_10 : decode cJ6_bitCount_0f7a4 10 = .ok (.iload_n 0, 1) := by decide +kernel
theorem dJ6_bitCount_0f7a4_11 : decode cJ6_bitCount_0f7a4 11 = .ok (.ldc_w 266, 3) := by decide +kernel
theorem dJ6_bitCount_0f7a4_14 : decode cJ6_bitCount_0f7a4 14 = .ok (.iand, 1) := by decide +kernel
theorem dJ6_bitCount_0f7a4_15 : decode cJ6_bitCount_0f7a4 15 = .ok (.iload_n 0, 1) := by decide +kernel
theorem dJ6_bitCount_0f7a4_16 : decode cJ6_bitCount_0f7a4 16 = .ok (.iconst 2, 1) := by decide +kernel
theorem dJ6_bitCount_0f7a4_17 : decode cJ6_bitCount_0f7a4 17 = .ok (.iushr, 1) := by decide +kernel
theorem dJ6_bitCount_0f7a4_18 : decode cJ6_bitCount_0f7a4 18 = .ok (.ldc_w 266, 3) := by decide +kernel
theorem dJ6_bitCount_0f7a4_21 : decode cJ6_bitCount_0f7a4 21 = .ok (.iand, 1) := by decide +kernel
theorem dJ6_bitCount_0f7a4_22 : decode cJ6_bitCount_0f7a4 22 = .ok (.iadd, 1) := by decide +kernel
theorem dJ6_bitCount_0f7a4_23 : decode cJ6_bitCount_0f7a4 23 = .ok (.istore_n 0, 1) := by decide +kernel
theorem dJ6_bitCount_0f7a4_24 : decode cJ6_bitCount_0f7a4 24 = .ok (.iload_n 0, 1) := by decide +kernel
theorem dJ6_bitCount_0f7a4_25 : decode cJ6_bitCount_0f7a4 25 = .ok (.iload_n 0, 1) := by decide +kernel
theorem dJ6_bitCount_0f7a4_26 : decode cJ6_bitCount_0f7a4 26 = .ok (.iconst 4, 1) := by decide +kernel
theorem dJ6_bitCount_0f7a4_27 : decode cJ6_bitCount_0f7a4 27 = .ok (.iushr, 1) := by decide +kernel
theorem dJ6_bitCount_0f7a4_28 : decode cJ6_bitCount_0f7a4 28 = .ok (.iadd, 1) := by decide +kernel
theorem dJ6_bitCount_0f7a4_29 : decode cJ6_bitCount_0f7a4 29 = .ok (.ldc_w 267, 3) := by decide +kernel
theorem dJ6_bitCount_0f7a4_32 : decode cJ6_bitCount_0f7a4 32 = .ok (.iand, 1) := by decide +kernel
theorem dJ6_bitCount_0f7a4_33 : decode cJ6_bitCount_0f7a4 33 = .ok (.istore_n 0, 1) := by decide +kernel
theorem dJ6_bitCount_0f7a4_34 : decode cJ6_bitCount_0f7a4 34 = .ok (.iload_n 0, 1) := by decide +kernel
theorem dJ6_bitCount_0f7a4_35 : decode cJ6_bitCount_0f7a4 35 = .ok (.iload_n 0, 1) := by decide +kernel
theorem dJ6_bitCount_0f7a4_36 : decode cJ6_bitCount_0f7a4 36 = .ok (.bipush 8, 2) := by decide +kernel
theorem dJ6_bitCount_0f7a4_38 : decode cJ6_bitCount_0f7a4 38 = .ok (.iushr, 1) := by decide +kernel
theorem dJ6_bitCount_0f7a4_39 : decode cJ6_bitCount_0f7a4 39 = .ok (.iadd, 1) := by decide +kernel
theorem dJ6_bitCount_0f7a4_40 : decode cJ6_bitCount_0f7a4 40 = .ok (.istore_n 0, 1) := by decide +kernel
theorem dJ6_bitCount_0f7a4_41 : decode cJ6_bitCount_0f7a4 41 = .ok (.iload_n 0, 1) := by decide +kernel
theorem dJ6_bitCount_0f7a4_42 : decode cJ6_bitCount_0f7a4 42 = .ok (.iload_n 0, 1) := by decide +kernel
theorem dJ6_bitCount_0f7a4_43 : decode cJ6_bitCount_0f7a4 43 = .ok (.bipush 16, 2) := by decide +kernel
theorem dJ6_bitCount_0f7a4_45 : decode cJ6_bitCount_0f7a4 45 = .ok (.iushr, 1) := by decide +kernel
theorem dJ6_bitCount_0f7a4_46 : decode cJ6_bitCount_0f7a4 46 = .ok (.iadd, 1) := by decide +kernel
theorem dJ6_bitCount_0f7a4_47 : decode cJ6_bitCount_0f7a4 47 = .ok (.istore_n 0, 1) := by decide +kernel
theorem dJ6_bitCount_0f7a4_48 : decode cJ6_bitCount_0f7a4 48 = .ok (.iload_n 0, 1) := by decide +kernel
theorem dJ6_bitCount_0f7a4_49 : decode cJ6_bitCount_0f7a4 49 = .ok (.bipush 63, 2) := by decide +kernel
theorem dJ6_bitCount_0f7a4_51 : decode cJ6_bitCount_0f7a4 51 = .ok (.iand, 1) := by decide +kernel
theorem dJ6_bitCount_0f7a4_52 : decode cJ6_bitCount_0f7a4 52 = .ok (.ireturn, 1) := by decide +kernel
theorem dJ9_abs_0f7a4_0 : decode cJ9_abs_0f7a4 0 = .ok (.iload_n 0, 1) := by decide +kernel
theorem dJ9_abs_0f7a4_1 : decode cJ9_abs_0f7a4 1 = .ok (.ifCond .ge 8, 3) := by decide +kernel
theorem dJ9_abs_0f7a4_4 : decode cJ9_abs_0f7a4 4 = .ok (.iload_n 0, 1) := by decide +kernel
theorem dJ9_abs_0f7a4_5 : decode cJ9_abs_0f7a4 5 = .ok (.ineg, 1) := by decide +kernel
theorem dJ9_abs_0f7a4_6 : decode cJ9_abs_0f7a4 6 = .ok (.goto 4, 3) := by decide +kernel
theorem dJ9_abs_0f7a4_9 : decode cJ9_abs_0f7a4 9 = .ok (.iload_n 0, 1) := by decide +kernel
theorem dJ9_abs_0f7a4_10 : decode cJ9_abs_0f7a4 10 = .ok (.ireturn, 1) := by decide +kernel
theorem dJ9_max_7cf53_0 : decode cJ9_max_7cf53 0 = .ok (.iload_n 0, 1) := by decide +kernel
theorem dJ9_max_7cf53_1 : decode cJ9_max_7cf53 1 = .ok (.iload_n 1, 1) := by decide +kernel
theorem dJ9_max_7cf53_2 : decode cJ9_max_7cf53 2 = .ok (.if_icmp .lt 7, 3) := by decide +kernel
theorem dJ9_max_7cf53_5 : decode cJ9_max_7cf53 5 = .ok (.iload_n 0, 1) := by decide +kernel
theorem dJ9_max_7cf53_6 : decode cJ9_max_7cf53 6 = .ok (.goto 4, 3) := by decide +kernel
theorem dJ9_max_7cf53_9 : decode cJ9_max_7cf53 9 = .ok (.iload_n 1, 1) := by decide +kernel
theorem dJ9_max_7cf53_10 : decode cJ9_max_7cf53 10 = .ok (.ireturn, 1) := by decide +kernel
theorem dJ9_min_7cf53_0 : decode cJ9_min_7cf53 0 = .ok (.iload_n 0, 1) := by decide +kernel
theorem dJ9_min_7cf53_1 : decode cJ9_min_7cf53 1 = .ok (.iload_n 1, 1) := by decide +kernel
theorem dJ9_min_7cf53_2 : decode cJ9_min_7cf53 2 = .ok (.if_icmp .gt 7, 3) := by decide +kernel
theorem dJ9_min_7cf53_5 : decode cJ9_min_7cf53 5 = .ok (.iload_n 0, 1) := by decide +kernel
theorem dJ9_min_7cf53_6 : decode cJ9_min_7cf53 6 = .ok (.goto 4, 3) := by decide +kernel
theorem dJ9_min_7cf53_9 : decode cJ9_min_7cf53 9 = .ok (.iload_n 1, 1) := by decide +kernel
theorem dJ9_min_7cf53_10 : decode cJ9_min_7cf53 10 = .ok (.ireturn, 1) := by decide +kernel
set_option maxRecDepth 20000 in
theorem ggL_law_X10_init : GoodIn wsL_law wsX10_init := goodIn_r _ [8, 9, 10, 11, 12, 13, 14, 15, 16, 17, 18, 19, 20, 21, 22, 23, 24, 25, 26, 27, 28, 29, 30, 31, 32, 33, 34, 35, 36, 37, 38, 39, 40, 41, 42, 43, 44, 45, 46, 47, 48, 49, 50, 51, 52, 53, 54, 55, 56, 57, 58, 59, 60, 61, 62, 63, 64, 65, 66, 67, 68, 69, 70, 71, 72, 73, 74, 75, 76, 77, 78, 79, 80, 81, 82, 83, 84, 85, 86, 87, 88, 89, 90, 91, 92, 93, 94, 95, 96, 97, 98, 99, 100, 101, 102, 103, 104, 105, 106, 107, 108, 883, 884, 885, 886, 887, 888, 847, 848, 849, 850, 851, 852, 853, 854, 855, 856, 857, 858, 859, 860, 889, 890, 891, 892, 893, 894, 895, 896, 897, 898, 899, 900, 901, 902, 903, 904, 905, 906, 907, 908, 909, 910, 911, 912, 913, 914, 915, 916, 917, 918, 919, 920, 921, 922, 923, 924, 925, 926, 927, 928] (by decide +kernel) (by decide +kernel)
set_option maxRecDepth 20000 in
theorem gL_law_X10_init : GoodIn wsL_law (wsX10_init) := ggL_law_X10_init
set_option maxRecDepth 20000 in
theorem ggL_law_X11_init : GoodIn wsL_law wsX11_init := goodIn_r _ [111, 112, 10, 11, 55, 113, 114, 115, 116, 117, 30, 118, 119, 120, 121, 122, 123, 124, 125, 126, 127, 5, 128, 129, 130, 131, 132, 133, 134, 135, 136, 137, 138, 139, 140, 141, 142, 143, 144, 145, 146, 147, 148, 149, 150, 151, 152, 153, 154, 155, 156, 157, 158, 159, 160, 161, 162, 163, 164, 165, 166, 167, 861, 862, 863, 864, 865, 866, 867, 868, 869, 870, 871, 872, 873, 874, 875, 876, 877, 878, 879, 880, 881, 882] (by decide +kernel) (by decide +kernel)
set_option maxRecDepth 20000 in
theorem gL_law_X11_init : GoodIn wsL_law (wsX11_init) := ggL_law_X11_init
set_option maxRecDepth 20000 in
theorem ggL_law_X10_type : GoodIn wsL_law wsX10_type := goodIn_r _ [171, 15, 172, 173, 847, 848, 849, 850, 851, 852, 853, 854, 855, 856, 857, 858, 859, 860, 883, 884, 885, 886, 887, 888] (by decide +kernel) (by decide +kernel)
set_option maxRecDepth 20000 in
theorem gL_law_X10_type : GoodIn wsL_law (wsV RL 13 RX10 yX10_type wsX10_type) := goodIn_app (goodIn_of _ (by decide +kernel)) ggL_law_X10_type
set_option maxRecDepth 20000 in
theorem ggL_law_X11_type : GoodIn wsL_law wsX11_type := goodIn_r _ [177, 141, 113, 145, 146, 5, 147, 861, 862, 863, 864, 865, 866, 867, 868, 869, 870, 871, 872, 873, 874, 875, 876, 877, 878, 879, 880, 881, 882] (by decide +kernel) (by decide +kernel)
set_option maxRecDepth 20000 in
theorem gL_law_X11_type : GoodIn wsL_law (wsV RL 17 RX11 yX11_type wsX11_type) := goodIn_app (goodIn_of _ (by decide +kernel)) ggL_law_X11_type
set_option maxRecDepth 20000 in
theorem ggL_law_X10_clear : GoodIn wsL_law wsX10_clear := goodIn_r _ [181, 15, 172, 847, 848, 849, 850, 851, 852, 853, 854, 855, 856, 857, 858, 859, 860, 883, 884, 885, 886, 887, 888] (by decide +kernel) (by decide +kernel)
set_option maxRecDepth 20000 in
theorem gL_law_X10_clear : GoodIn wsL_law (wsV RL 18 RX10 yX10_clear wsX10_clear) := goodIn_app (goodIn_of _ (by decide +kernel)) ggL_law_X10_clear
set_option maxRecDepth 20000 in
theorem ggL_law_X11_clear : GoodIn wsL_law wsX11_clear := goodIn_r _ [185, 141, 861, 862, 863, 864, 865, 866, 867, 868, 869, 870, 871, 872, 873, 874, 875, 876, 877, 878, 879, 880, 881, 882] (by decide +kernel) (by decide +kernel)
set_option maxRecDepth 20000 in
theorem gL_law_X11_clear : GoodIn wsL_law (wsV RL 22 RX11 yX11_clear wsX11_clear) := goodIn_app (goodIn_of _ (by decide +kernel)) ggL_law_X11_clear
set_option maxRecDepth 20000 in
theorem ggL_law_X10_port : GoodIn wsL_law wsX10_port := goodIn_r _ [189, 19, 15, 24, 172, 23, 28, 35, 190, 31, 191, 192, 193, 194, 18, 195, 196, 197, 198, 199, 200, 201, 202, 14, 203, 204, 205, 206, 207, 22, 208, 63, 64, 209, 210, 211, 212, 213, 214, 215, 56, 216, 217, 218, 219, 220, 221, 222, 223, 224, 225, 226, 227, 228, 229, 230, 231, 232, 233, 234, 235, 236, 237, 238, 239, 240, 241, 242, 243, 244, 245, 246, 247, 248, 249, 250, 251, 252, 253, 254, 255, 256, 257, 258, 259, 260, 261, 262, 263, 264, 265, 266, 267, 268, 269, 270, 271, 272, 273, 65, 274, 275, 276, 277, 66, 67, 68, 69, 70, 278, 279, 280, 27, 281, 78, 282, 283, 284, 285, 77, 286, 287, 83, 288, 289, 290, 84, 291, 85, 86, 847, 848, 849, 850, 851, 852, 853, 854, 855, 856, 857, 858, 859, 860, 883, 884, 885, 886, 887, 888, 904, 905, 906, 889, 890, 891, 892, 893, 894, 895, 896, 897, 898, 899, 900, 901, 902, 903, 921, 922, 923, 924, 925, 926, 927, 928] (by decide +kernel) (by decide +kernel)
set_option maxRecDepth 20000 in
theorem gL_law_X10_port : GoodIn wsL_law (wsV RL 23 RX10 yX10_port wsX10_port) := goodIn_app (goodIn_of _ (by decide +kernel)) ggL_law_X10_port
set_option maxRecDepth 20000 in
theorem ggL_law_X11_port : GoodIn wsL_law wsX11_port := goodIn_r _ [295, 135, 141, 114, 125, 126, 127, 5, 128, 115, 129, 130, 131, 132, 133, 134, 136, 113, 137, 138, 139, 140, 142, 143, 144, 145, 146, 147, 148, 149, 150, 151, 152, 153, 154, 155, 156, 157, 158, 159, 160, 161, 162, 163, 164, 165, 166, 116, 167, 118, 861, 862, 863, 864, 865, 866, 867, 868, 869, 870, 871, 872, 873, 874, 875, 876, 877, 878, 879, 880, 881, 882] (by decide +kernel) (by decide +kernel)
set_option maxRecDepth 20000 in
theorem gL_law_X11_port : GoodIn wsL_law (wsV RL 26 RX11 yX11_port wsX11_port) := goodIn_app (goodIn_of _ (by decide +kernel)) ggL_law_X11_port
set_option maxRecDepth 20000 in
theorem ggL_law_X10_one : GoodIn wsL_law wsX10_one := goodIn_r _ [299, 23, 28, 300, 301, 302, 303, 304, 305, 306, 22, 307, 209, 308, 309, 310, 77, 311, 83, 287, 85, 847, 848, 849, 850, 851, 852, 853, 854, 855, 856, 857, 858, 859, 860, 901, 902, 903, 891, 892, 893, 894, 895, 896, 897, 898, 899, 900, 921, 922, 923, 924, 925, 926, 927, 928] (by decide +kernel) (by decide +kernel)
set_option maxRecDepth 20000 in
theorem gL_law_X10_one : GoodIn wsL_law (wsV RL 27 RX10 yX10_one wsX10_one) := goodIn_app (goodIn_of _ (by decide +kernel)) ggL_law_X10_one
set_option maxRecDepth 20000 in
theorem ggL_law_X11_one : GoodIn wsL_law wsX11_one := goodIn_r _ [315, 114, 116, 316, 317, 318, 5, 319, 145, 146, 147, 320, 321, 322, 323, 861, 862, 863, 864, 865, 866, 867, 868, 869, 870, 871, 872, 873, 874, 875, 876, 877, 878, 879, 880, 881, 882] (by decide +kernel) (by decide +kernel)
set_option maxRecDepth 20000 in
theorem gL_law_X11_one : GoodIn wsL_law (wsV RL 31 RX11 yX11_one wsX11_one) := goodIn_app (goodIn_of _ (by decide +kernel)) ggL_law_X11_one
set_option maxRecDepth 20000 in
theorem ggL_law_X10_deed : GoodIn wsL_law wsX10_deed := goodIn_r _ [327, 23, 328, 329, 330, 331, 332, 28, 300, 333, 334, 335, 22, 336, 210, 337, 338, 339, 77, 340, 290, 847, 848, 849, 850, 851, 852, 853, 854, 855, 856, 857, 858, 859, 860, 891, 892, 893, 894, 895, 896, 897, 898, 899, 900, 901, 902, 903, 921, 922, 923, 924, 925, 926, 927, 928] (by decide +kernel) (by decide +kernel)
set_option maxRecDepth 20000 in
theorem gL_law_X10_deed : GoodIn wsL_law (wsV RL 32 RX10 yX10_deed wsX10_deed) := goodIn_app (goodIn_of _ (by decide +kernel)) ggL_law_X10_deed
set_option maxRecDepth 20000 in
theorem ggL_law_X11_deed : GoodIn wsL_law wsX11_deed := goodIn_r _ [344, 114, 345, 346, 347, 5, 348, 145, 146, 147, 349, 350, 351, 352, 116, 353, 354, 355, 861, 862, 863, 864, 865, 866, 867, 868, 869, 870, 871, 872, 873, 874, 875, 876, 877, 878, 879, 880, 881, 882] (by decide +kernel) (by decide +kernel)
set_option maxRecDepth 20000 in
theorem gL_law_X11_deed : GoodIn wsL_law (wsV RL 35 RX11 yX11_deed wsX11_deed) := goodIn_app (goodIn_of _ (by decide +kernel)) ggL_law_X11_deed
set_option maxRecDepth 20000 in
theorem ggL_law_X10_lends : GoodIn wsL_law wsX10_lends := goodIn_r _ [359, 23, 28, 300, 360, 302, 361, 304, 305, 306, 22, 307, 209, 362, 363, 364, 77, 365, 84, 83, 366, 367, 368, 369, 370, 371, 372, 373, 2, 374, 191, 375, 376, 377, 27, 378, 282, 79, 78, 379, 380, 381, 382, 383, 384, 385, 386, 287, 288, 289, 290, 387, 275, 276, 277, 85, 86, 388, 389, 390, 391, 392, 393, 394, 395, 396, 397, 398, 399, 400, 401, 402, 403, 404, 405, 406, 847, 848, 849, 850, 851, 852, 853, 854, 855, 856, 857, 858, 859, 860, 901, 902, 903, 921, 922, 923, 924, 925, 926, 927, 928, 891, 892, 893, 894, 895, 896, 897, 898, 899, 900] (by decide +kernel) (by decide +kernel)
set_option maxRecDepth 20000 in
theorem gL_law_X10_lends : GoodIn wsL_law (wsV RL 36 RX10 yX10_lends wsX10_lends) := goodIn_app (goodIn_of _ (by decide +kernel)) ggL_law_X10_lends
set_option maxRecDepth 20000 in
theorem ggL_law_X11_lends : GoodIn wsL_law wsX11_lends := goodIn_r _ [410, 116, 316, 317, 318, 5, 319, 114, 145, 146, 147, 411, 412, 413, 414, 415, 416, 417, 418, 419, 420, 421, 422, 423, 424, 425, 426, 861, 862, 863, 864, 865, 866, 867, 868, 869, 870, 871, 872, 873, 874, 875, 876, 877, 878, 879, 880, 881, 882] (by decide +kernel) (by decide +kernel)
set_option maxRecDepth 20000 in
theorem gL_law_X11_lends : GoodIn wsL_law (wsV RL 39 RX11 yX11_lends wsX11_lends) := goodIn_app (goodIn_of _ (by decide +kernel)) ggL_law_X11_lends
set_option maxRecDepth 20000 in
theorem ggL_law_X10_brings : GoodIn wsL_law wsX10_brings := goodIn_r _ [430, 28, 300, 23, 431, 361, 432, 368, 369, 77, 370, 83, 362, 363, 364, 365, 84, 366, 367, 371, 372, 373, 2, 374, 191, 375, 376, 377, 27, 378, 282, 79, 78, 379, 380, 381, 382, 383, 384, 385, 386, 287, 288, 289, 290, 387, 275, 276, 277, 85, 86, 388, 389, 390, 391, 392, 393, 394, 395, 396, 397, 398, 399, 400, 401, 402, 847, 848, 849, 850, 851, 852, 853, 854, 855, 856, 857, 858, 859, 860, 901, 902, 903, 891, 892, 893, 894, 895, 896, 897, 898, 899, 900, 921, 922, 923, 924, 925, 926, 927, 928] (by decide +kernel) (by decide +kernel)
set_option maxRecDepth 20000 in
theorem gL_law_X10_brings : GoodIn wsL_law (wsV RL 40 RX10 yX10_brings wsX10_brings) := goodIn_app (goodIn_of _ (by decide +kernel)) ggL_law_X10_brings
set_option maxRecDepth 20000 in
theorem ggL_law_X11_brings : GoodIn wsL_law wsX11_brings := goodIn_r _ [436, 114, 116, 415, 416, 417, 5, 418, 411, 412, 413, 414, 419, 420, 421, 422, 423, 424, 425, 426, 861, 862, 863, 864, 865, 866, 867, 868, 869, 870, 871, 872, 873, 874, 875, 876, 877, 878, 879, 880, 881, 882] (by decide +kernel) (by decide +kernel)
set_option maxRecDepth 20000 in
theorem gL_law_X11_brings : GoodIn wsL_law (wsV RL 43 RX11 yX11_brings wsX11_brings) := goodIn_app (goodIn_of _ (by decide +kernel)) ggL_law_X11_brings
set_option maxRecDepth 20000 in
theorem ggL_law_X10_walks : GoodIn wsL_law wsX10_walks := goodIn_r _ [440, 28, 300, 23, 441, 442, 394, 443, 444, 362, 363, 364, 77, 365, 84, 83, 366, 367, 368, 369, 370, 432, 371, 372, 373, 2, 374, 191, 375, 376, 377, 27, 378, 282, 79, 78, 379, 380, 381, 382, 383, 384, 385, 386, 287, 288, 289, 290, 387, 275, 276, 277, 85, 86, 445, 446, 447, 448, 847, 848, 849, 850, 851, 852, 853, 854, 855, 856, 857, 858, 859, 860, 901, 902, 903, 921, 922, 923, 924, 925, 926, 927, 928, 891, 892, 893, 894, 895, 896, 897, 898, 899, 900] (by decide +kernel) (by decide +kernel)
set_option maxRecDepth 20000 in
theorem gL_law_X10_walks : GoodIn wsL_law (wsV RL 44 RX10 yX10_walks wsX10_walks) := goodIn_app (goodIn_of _ (by decide +kernel)) ggL_law_X10_walks
set_option maxRecDepth 20000 in
theorem ggL_law_X11_walks : GoodIn wsL_law wsX11_walks := goodIn_r _ [452, 116, 145, 146, 5, 147, 411, 412, 413, 414, 114, 415, 416, 417, 418, 453, 454, 455, 419, 420, 421, 422, 861, 862, 863, 864, 865, 866, 867, 868, 869, 870, 871, 872, 873, 874, 875, 876, 877, 878, 879, 880, 881, 882] (by decide +kernel) (by decide +kernel)
set_option maxRecDepth 20000 in
theorem gL_law_X11_walks : GoodIn wsL_law (wsV RL 47 RX11 yX11_walks wsX11_walks) := goodIn_app (goodIn_of _ (by decide +kernel)) ggL_law_X11_walks
set_option maxRecDepth 20000 in
theorem ggL_law_X10_keeps : GoodIn wsL_law wsX10_keeps := goodIn_r _ [459, 28, 300, 444, 432, 368, 369, 77, 370, 83, 371, 372, 373, 2, 374, 191, 375, 376, 377, 27, 378, 282, 79, 78, 379, 380, 381, 382, 383, 384, 385, 386, 287, 288, 289, 290, 84, 387, 275, 276, 277, 85, 86, 847, 848, 849, 850, 851, 852, 853, 854, 855, 856, 857, 858, 859, 860, 901, 902, 903, 921, 922, 923, 924, 925, 926, 927, 928] (by decide +kernel) (by decide +kernel)
set_option maxRecDepth 20000 in
theorem gL_law_X10_keeps : GoodIn wsL_law (wsV RL 48 RX10 yX10_keeps wsX10_keeps) := goodIn_app (goodIn_of _ (by decide +kernel)) ggL_law_X10_keeps
set_option maxRecDepth 20000 in
theorem ggL_law_X11_keeps : GoodIn wsL_law wsX11_keeps := goodIn_r _ [463, 116, 145, 146, 5, 147, 415, 416, 417, 418, 419, 420, 421, 422, 861, 862, 863, 864, 865, 866, 867, 868, 869, 870, 871, 872, 873, 874, 875, 876, 877, 878, 879, 880, 881, 882] (by decide +kernel) (by decide +kernel)
set_option maxRecDepth 20000 in
theorem gL_law_X11_keeps : GoodIn wsL_law (wsV RL 51 RX11 yX11_keeps wsX11_keeps) := goodIn_app (goodIn_of _ (by decide +kernel)) ggL_law_X11_keeps
set_option maxRecDepth 20000 in
theorem ggL_law_X10_does : GoodIn wsL_law wsX10_does := goodIn_r _ [467, 23, 28, 300, 468, 469, 333, 334, 335, 22, 336, 210, 470, 471, 472, 77, 473, 289, 474, 83, 84, 475, 287, 476, 477, 367, 368, 369, 370, 478, 338, 339, 340, 290, 371, 372, 373, 2, 374, 191, 375, 376, 377, 27, 378, 282, 79, 78, 379, 380, 381, 382, 383, 384, 385, 386, 288, 387, 275, 276, 277, 85, 86, 479, 480, 481, 482, 483, 484, 847, 848, 849, 850, 851, 852, 853, 854, 855, 856, 857, 858, 859, 860, 901, 902, 903, 921, 922, 923, 924, 925, 926, 927, 928, 891, 892, 893, 894, 895, 896, 897, 898, 899, 900] (by decide +kernel) (by decide +kernel)
set_option maxRecDepth 20000 in
theorem gL_law_X10_does : GoodIn wsL_law (wsV RL 52 RX10 yX10_does wsX10_does) := goodIn_app (goodIn_of _ (by decide +kernel)) ggL_law_X10_does
set_option maxRecDepth 20000 in
theorem ggL_law_X11_does : GoodIn wsL_law wsX11_does := goodIn_r _ [488, 116, 114, 345, 346, 347, 5, 348, 145, 146, 147, 415, 416, 417, 418, 411, 412, 413, 414, 349, 350, 351, 352, 353, 354, 355, 419, 420, 421, 422, 489, 490, 491, 492, 861, 862, 863, 864, 865, 866, 867, 868, 869, 870, 871, 872, 873, 874, 875, 876, 877, 878, 879, 880, 881, 882] (by decide +kernel) (by decide +kernel)
set_option maxRecDepth 20000 in
theorem gL_law_X11_does : GoodIn wsL_law (wsV RL 55 RX11 yX11_does wsX11_does) := goodIn_app (goodIn_of _ (by decide +kernel)) ggL_law_X11_does
set_option maxRecDepth 20000 in
theorem ggL_law_X10_undo : GoodIn wsL_law wsX10_undo := goodIn_r _ [496, 28, 497, 191, 498, 499, 500, 27, 501, 282, 78, 79, 383, 384, 385, 77, 386, 287, 83, 288, 289, 290, 84, 387, 275, 276, 277, 85, 86, 847, 848, 849, 850, 851, 852, 853, 854, 855, 856, 857, 858, 859, 860, 901, 902, 903, 921, 922, 923, 924, 925, 926, 927, 928] (by decide +kernel) (by decide +kernel)
set_option maxRecDepth 20000 in
theorem gL_law_X10_undo : GoodIn wsL_law (wsV RL 56 RX10 yX10_undo wsX10_undo) := goodIn_app (goodIn_of _ (by decide +kernel)) ggL_law_X10_undo
set_option maxRecDepth 20000 in
theorem ggL_law_X11_undo : GoodIn wsL_law wsX11_undo := goodIn_r _ [505, 116, 861, 862, 863, 864, 865, 866, 867, 868, 869, 870, 871, 872, 873, 874, 875, 876, 877, 878, 879, 880, 881, 882] (by decide +kernel) (by decide +kernel)
set_option maxRecDepth 20000 in
theorem gL_law_X11_undo : GoodIn wsL_law (wsV RL 59 RX11 yX11_undo wsX11_undo) := goodIn_app (goodIn_of _ (by decide +kernel)) ggL_law_X11_undo
set_option maxRecDepth 20000 in
theorem ggL_law_X10_now : GoodIn wsL_law wsX10_now := goodIn_r _ [509, 28, 300, 444, 360, 469, 468, 23, 510, 400, 401, 77, 402, 287, 288, 367, 368, 369, 370, 83, 479, 480, 481, 482, 483, 484, 478, 338, 339, 340, 290, 511, 512, 513, 514, 86, 847, 848, 849, 850, 851, 852, 853, 854, 855, 856, 857, 858, 859, 860, 901, 902, 903, 921, 922, 923, 924, 925, 926, 927, 928, 891, 892, 893, 894, 895, 896, 897, 898, 899, 900] (by decide +kernel) (by decide +kernel)
set_option maxRecDepth 20000 in
theorem gL_law_X10_now : GoodIn wsL_law (wsV RL 60 RX10 yX10_now wsX10_now) := goodIn_app (goodIn_of _ (by decide +kernel)) ggL_law_X10_now
set_option maxRecDepth 20000 in
theorem ggL_law_X11_now : GoodIn wsL_law wsX11_now := goodIn_r _ [518, 116, 415, 416, 417, 5, 418, 489, 490, 491, 492, 114, 349, 350, 351, 352, 353, 354, 355, 861, 862, 863, 864, 865, 866, 867, 868, 869, 870, 871, 872, 873, 874, 875, 876, 877, 878, 879, 880, 881, 882] (by decide +kernel) (by decide +kernel)
set_option maxRecDepth 20000 in
theorem gL_law_X11_now : GoodIn wsL_law (wsV RL 63 RX11 yX11_now wsX11_now) := goodIn_app (goodIn_of _ (by decide +kernel)) ggL_law_X11_now
set_option maxRecDepth 20000 in
theorem ggL_law_X10_round : GoodIn wsL_law wsX10_round := goodIn_r _ [522, 191, 43, 23, 28, 300, 39, 523, 524, 525, 526, 527, 528, 529, 42, 530, 531, 532, 533, 534, 535, 536, 537, 38, 538, 539, 95, 540, 275, 276, 277, 541, 542, 543, 544, 545, 546, 547, 363, 364, 77, 365, 84, 83, 366, 367, 368, 369, 370, 548, 549, 550, 551, 483, 290, 552, 553, 554, 555, 556, 557, 558, 559, 560, 561, 100, 562, 563, 564, 565, 566, 99, 567, 568, 569, 570, 571, 572, 573, 442, 394, 443, 574, 575, 393, 395, 576, 577, 578, 579, 580, 581, 582, 583, 584, 585, 586, 587, 588, 589, 590, 847, 848, 849, 850, 851, 852, 853, 854, 855, 856, 857, 858, 859, 860, 901, 902, 903, 911, 912, 913, 914, 915, 921, 922, 923, 924, 925, 926, 927, 928, 907, 908, 909, 910, 891, 892, 893, 894, 895, 896, 897, 898, 899, 900] (by decide +kernel) (by decide +kernel)
set_option maxRecDepth 20000 in
theorem gL_law_X10_round : GoodIn wsL_law (wsV RL 64 RX10 yX10_round wsX10_round) := goodIn_app (goodIn_of _ (by decide +kernel)) ggL_law_X10_round
set_option maxRecDepth 20000 in
theorem ggL_law_X11_round : GoodIn wsL_law wsX11_round := goodIn_r _ [594, 595, 596, 597, 122, 145, 146, 5, 147, 598, 599, 600, 601, 116, 114, 121, 602, 603, 604, 605, 349, 350, 351, 352, 353, 354, 355, 606, 607, 608, 609, 123, 411, 412, 413, 414, 415, 416, 417, 418, 453, 454, 455, 610, 611, 612, 613, 861, 862, 863, 864, 865, 866, 867, 868, 869, 870, 871, 872, 873, 874, 875, 876, 877, 878, 879, 880, 881, 882] (by decide +kernel) (by decide +kernel)
set_option maxRecDepth 20000 in
theorem gL_law_X11_round : GoodIn wsL_law (wsV RL 67 RX11 yX11_round wsX11_round) := goodIn_app (goodIn_of _ (by decide +kernel)) ggL_law_X11_round
set_option maxRecDepth 20000 in
theorem ggL_law_X10_spoons : GoodIn wsL_law wsX10_spoons := goodIn_r _ [617, 47, 23, 618, 619, 620, 46, 621, 622, 623, 104, 624, 625, 626, 627, 628, 629, 630, 442, 394, 443, 631, 632, 633, 634, 635, 636, 637, 638, 639, 847, 848, 849, 850, 851, 852, 853, 854, 855, 856, 857, 858, 859, 860, 891, 892, 893, 894, 895, 896, 897, 898, 899, 900, 916, 917] (by decide +kernel) (by decide +kernel)
set_option maxRecDepth 20000 in
theorem gL_law_X10_spoons : GoodIn wsL_law (wsV RL 68 RX10 yX10_spoons wsX10_spoons) := goodIn_app (goodIn_of _ (by decide +kernel)) ggL_law_X10_spoons
set_option maxRecDepth 20000 in
theorem ggL_law_X11_spoons : GoodIn wsL_law wsX11_spoons := goodIn_r _ [643, 114, 124, 644, 645, 646, 5, 647, 453, 454, 455, 353, 354, 355, 861, 862, 863, 864, 865, 866, 867, 868, 869, 870, 871, 872, 873, 874, 875, 876, 877, 878, 879, 880, 881, 882] (by decide +kernel) (by decide +kernel)
set_option maxRecDepth 20000 in
theorem gL_law_X11_spoons : GoodIn wsL_law (wsV RL 71 RX11 yX11_spoons wsX11_spoons) := goodIn_app (goodIn_of _ (by decide +kernel)) ggL_law_X11_spoons
set_option maxRecDepth 20000 in
theorem ggL_law_X10_drawn : GoodIn wsL_law wsX10_drawn := goodIn_r _ [651, 652, 23, 653, 39, 28, 300, 654, 332, 655, 536, 537, 38, 538, 539, 95, 540, 275, 276, 277, 541, 542, 543, 544, 545, 546, 547, 363, 364, 77, 365, 84, 83, 366, 367, 368, 369, 370, 656, 549, 550, 551, 483, 290, 657, 578, 579, 580, 581, 582, 442, 394, 443, 583, 584, 585, 393, 395, 586, 658, 588, 589, 590, 847, 848, 849, 850, 851, 852, 853, 854, 855, 856, 857, 858, 859, 860, 891, 892, 893, 894, 895, 896, 897, 898, 899, 900, 901, 902, 903, 921, 922, 923, 924, 925, 926, 927, 928, 907, 908, 909, 910] (by decide +kernel) (by decide +kernel)
set_option maxRecDepth 20000 in
theorem gL_law_X10_drawn : GoodIn wsL_law (wsV RL 72 RX10 yX10_drawn wsX10_drawn) := goodIn_app (goodIn_of _ (by decide +kernel)) ggL_law_X10_drawn
set_option maxRecDepth 20000 in
theorem ggL_law_X11_drawn : GoodIn wsL_law wsX11_drawn := goodIn_r _ [662, 663, 114, 664, 665, 666, 145, 146, 5, 147, 602, 603, 604, 605, 121, 349, 350, 351, 352, 116, 353, 354, 355, 606, 607, 608, 609, 123, 411, 412, 413, 414, 415, 416, 417, 418, 453, 454, 455, 610, 611, 612, 613, 861, 862, 863, 864, 865, 866, 867, 868, 869, 870, 871, 872, 873, 874, 875, 876, 877, 878, 879, 880, 881, 882] (by decide +kernel) (by decide +kernel)
set_option maxRecDepth 20000 in
theorem gL_law_X11_drawn : GoodIn wsL_law (wsV RL 75 RX11 yX11_drawn wsX11_drawn) := goodIn_app (goodIn_of _ (by decide +kernel)) ggL_law_X11_drawn
set_option maxRecDepth 20000 in
theorem ggL_law_X10_odds : GoodIn wsL_law wsX10_odds := goodIn_r _ [670, 28, 300, 23, 51, 671, 672, 656, 549, 550, 77, 551, 483, 290, 673, 674, 675, 676, 677, 678, 679, 680, 681, 682, 50, 683, 684, 108, 685, 686, 687, 688, 689, 690, 691, 692, 693, 847, 848, 849, 850, 851, 852, 853, 854, 855, 856, 857, 858, 859, 860, 901, 902, 903, 918, 919, 920, 891, 892, 893, 894, 895, 896, 897, 898, 899, 900, 921, 922, 923, 924, 925, 926, 927, 928] (by decide +kernel) (by decide +kernel)
set_option maxRecDepth 20000 in
theorem gL_law_X10_odds : GoodIn wsL_law (wsV RL 76 RX10 yX10_odds wsX10_odds) := goodIn_app (goodIn_of _ (by decide +kernel)) ggL_law_X10_odds
set_option maxRecDepth 20000 in
theorem ggL_law_X11_odds : GoodIn wsL_law wsX11_odds := goodIn_r _ [697, 114, 145, 146, 5, 147, 349, 350, 351, 352, 116, 353, 354, 355, 861, 862, 863, 864, 865, 866, 867, 868, 869, 870, 871, 872, 873, 874, 875, 876, 877, 878, 879, 880, 881, 882] (by decide +kernel) (by decide +kernel)
set_option maxRecDepth 20000 in
theorem gL_law_X11_odds : GoodIn wsL_law (wsV RL 80 RX11 yX11_odds wsX11_odds) := goodIn_app (goodIn_of _ (by decide +kernel)) ggL_law_X11_odds
set_option maxRecDepth 20000 in
theorem ggL_law_X10_hears : GoodIn wsL_law wsX10_hears := goodIn_r _ [701, 23, 35, 190, 333, 334, 335, 22, 336, 210, 702, 703, 704, 34, 705, 706, 91, 90, 847, 848, 849, 850, 851, 852, 853, 854, 855, 856, 857, 858, 859, 860, 904, 905, 906, 891, 892, 893, 894, 895, 896, 897, 898, 899, 900] (by decide +kernel) (by decide +kernel)
set_option maxRecDepth 20000 in
theorem gL_law_X10_hears : GoodIn wsL_law (wsV RL 81 RX10 yX10_hears wsX10_hears) := goodIn_app (goodIn_of _ (by decide +kernel)) ggL_law_X10_hears
set_option maxRecDepth 20000 in
theorem ggL_law_X11_hears : GoodIn wsL_law wsX11_hears := goodIn_r _ [710, 167, 120, 119, 345, 346, 347, 5, 348, 114, 145, 146, 147, 861, 862, 863, 864, 865, 866, 867, 868, 869, 870, 871, 872, 873, 874, 875, 876, 877, 878, 879, 880, 881, 882] (by decide +kernel) (by decide +kernel)
set_option maxRecDepth 20000 in
theorem gL_law_X11_hears : GoodIn wsL_law (wsV RL 84 RX11 yX11_hears wsX11_hears) := goodIn_app (goodIn_of _ (by decide +kernel)) ggL_law_X11_hears
set_option maxRecDepth 20000 in
theorem ggL_law_X10_forget : GoodIn wsL_law wsX10_forget := goodIn_r _ [714, 35, 190, 847, 848, 849, 850, 851, 852, 853, 854, 855, 856, 857, 858, 859, 860, 904, 905, 906] (by decide +kernel) (by decide +kernel)
set_option maxRecDepth 20000 in
theorem gL_law_X10_forget : GoodIn wsL_law (wsV RL 85 RX10 yX10_forget wsX10_forget) := goodIn_app (goodIn_of _ (by decide +kernel)) ggL_law_X10_forget
set_option maxRecDepth 20000 in
theorem ggL_law_X11_forget : GoodIn wsL_law wsX11_forget := goodIn_r _ [718, 167, 861, 862, 863, 864, 865, 866, 867, 868, 869, 870, 871, 872, 873, 874, 875, 876, 877, 878, 879, 880, 881, 882] (by decide +kernel) (by decide +kernel)
set_option maxRecDepth 20000 in
theorem gL_law_X11_forget : GoodIn wsL_law (wsV RL 88 RX11 yX11_forget wsX11_forget) := goodIn_app (goodIn_of _ (by decide +kernel)) ggL_law_X11_forget
set_option maxRecDepth 20000 in
theorem ggL_law_X10_lies : GoodIn wsL_law wsX10_lies := goodIn_r _ [722, 35, 23, 723, 724, 725, 34, 726, 706, 727, 90, 728, 442, 394, 443, 91, 847, 848, 849, 850, 851, 852, 853, 854, 855, 856, 857, 858, 859, 860, 904, 905, 906, 891, 892, 893, 894, 895, 896, 897, 898, 899, 900] (by decide +kernel) (by decide +kernel)
set_option maxRecDepth 20000 in
theorem gL_law_X10_lies : GoodIn wsL_law (wsV RL 89 RX10 yX10_lies wsX10_lies) := goodIn_app (goodIn_of _ (by decide +kernel)) ggL_law_X10_lies
set_option maxRecDepth 20000 in
theorem ggL_law_X11_lies : GoodIn wsL_law wsX11_lies := goodIn_r _ [732, 167, 114, 119, 120, 453, 454, 5, 455, 861, 862, 863, 864, 865, 866, 867, 868, 869, 870, 871, 872, 873, 874, 875, 876, 877, 878, 879, 880, 881, 882] (by decide +kernel) (by decide +kernel)
set_option maxRecDepth 20000 in
theorem gL_law_X11_lies : GoodIn wsL_law (wsV RL 92 RX11 yX11_lies wsX11_lies) := goodIn_app (goodIn_of _ (by decide +kernel)) ggL_law_X11_lies
set_option maxRecDepth 20000 in
theorem ggL_law_X10_had : GoodIn wsL_law wsX10_had := goodIn_r _ [736, 35, 23, 737, 738, 739, 34, 740, 741, 742, 743, 744, 745, 746, 706, 91, 747, 748, 749, 750, 751, 752, 753, 754, 755, 90, 756, 757, 758, 759, 727, 728, 442, 394, 443, 847, 848, 849, 850, 851, 852, 853, 854, 855, 856, 857, 858, 859, 860, 891, 892, 893, 894, 895, 896, 897, 898, 899, 900, 904, 905, 906] (by decide +kernel) (by decide +kernel)
set_option maxRecDepth 20000 in
theorem gL_law_X10_had : GoodIn wsL_law (wsV RL 93 RX10 yX10_had wsX10_had) := goodIn_app (goodIn_of _ (by decide +kernel)) ggL_law_X10_had
set_option maxRecDepth 20000 in
theorem ggL_law_X11_had : GoodIn wsL_law wsX11_had := goodIn_r _ [763, 167, 120, 114, 119, 145, 146, 5, 147, 453, 454, 455, 861, 862, 863, 864, 865, 866, 867, 868, 869, 870, 871, 872, 873, 874, 875, 876, 877, 878, 879, 880, 881, 882] (by decide +kernel) (by decide +kernel)
set_option maxRecDepth 20000 in
theorem gL_law_X11_had : GoodIn wsL_law (wsV RL 96 RX11 yX11_had wsX11_had) := goodIn_app (goodIn_of _ (by decide +kernel)) ggL_law_X11_had
set_option maxRecDepth 20000 in
theorem ggL_law_X10_mark : GoodIn wsL_law wsX10_mark := goodIn_r _ [767, 23, 768, 304, 305, 306, 22, 307, 209, 769, 770, 771, 2, 772, 773, 28, 300, 308, 309, 310, 77, 311, 83, 287, 85, 774, 775, 776, 777, 778, 303, 779, 780, 781, 782, 783, 302, 784, 785, 786, 787, 788, 789, 790, 791, 792, 793, 794, 795, 796, 797, 798, 444, 847, 848, 849, 850, 851, 852, 853, 854, 855, 856, 857, 858, 859, 860, 891, 892, 893, 894, 895, 896, 897, 898, 899, 900, 901, 902, 903, 921, 922, 923, 924, 925, 926, 927, 928] (by decide +kernel) (by decide +kernel)
set_option maxRecDepth 20000 in
theorem gL_law_X10_mark : GoodIn wsL_law (wsV RL 97 RX10 yX10_mark wsX10_mark) := goodIn_app (goodIn_of _ (by decide +kernel)) ggL_law_X10_mark
set_option maxRecDepth 20000 in
theorem ggL_law_X11_mark : GoodIn wsL_law wsX11_mark := goodIn_r _ [802, 803, 804, 805, 806, 807, 808, 809, 116, 145, 146, 5, 147, 316, 317, 318, 319, 114, 320, 321, 322, 323, 861, 862, 863, 864, 865, 866, 867, 868, 869, 870, 871, 872, 873, 874, 875, 876, 877, 878, 879, 880, 881, 882] (by decide +kernel) (by decide +kernel)
set_option maxRecDepth 20000 in
theorem gL_law_X11_mark : GoodIn wsL_law (wsV RL 100 RX11 yX11_mark wsX11_mark) := goodIn_app (goodIn_of _ (by decide +kernel)) ggL_law_X11_mark
set_option maxRecDepth 20000 in
theorem ggL_law_X10_keep : GoodIn wsL_law wsX10_keep := goodIn_r _ [813, 29, 28, 31, 300, 444, 814, 815, 816, 27, 817, 78, 282, 79, 383, 384, 385, 77, 386, 287, 83, 288, 289, 290, 84, 387, 275, 276, 277, 85, 86, 847, 848, 849, 850, 851, 852, 853, 854, 855, 856, 857, 858, 859, 860, 901, 902, 903, 921, 922, 923, 924, 925, 926, 927, 928] (by decide +kernel) (by decide +kernel)
set_option maxRecDepth 20000 in
theorem gL_law_X10_keep : GoodIn wsL_law (wsV RL 101 RX10 yX10_keep wsX10_keep) := goodIn_app (goodIn_of _ (by decide +kernel)) ggL_law_X10_keep
set_option maxRecDepth 20000 in
theorem ggL_law_X11_keep : GoodIn wsL_law wsX11_keep := goodIn_r _ [821, 117, 116, 118, 145, 146, 5, 147, 861, 862, 863, 864, 865, 866, 867, 868, 869, 870, 871, 872, 873, 874, 875, 876, 877, 878, 879, 880, 881, 882] (by decide +kernel) (by decide +kernel)
set_option maxRecDepth 20000 in
theorem gL_law_X11_keep : GoodIn wsL_law (wsV RL 104 RX11 yX11_keep wsX11_keep) := goodIn_app (goodIn_of _ (by decide +kernel)) ggL_law_X11_keep
set_option maxRecDepth 20000 in
theorem ggL_law_X10_back : GoodIn wsL_law wsX10_back := goodIn_r _ [825, 31, 28, 29, 191, 300, 444, 814, 815, 816, 27, 817, 78, 282, 79, 383, 384, 385, 77, 386, 287, 83, 288, 289, 290, 84, 387, 275, 276, 277, 85, 86, 847, 848, 849, 850, 851, 852, 853, 854, 855, 856, 857, 858, 859, 860, 901, 902, 903, 921, 922, 923, 924, 925, 926, 927, 928] (by decide +kernel) (by decide +kernel)
set_option maxRecDepth 20000 in
theorem gL_law_X10_back : GoodIn wsL_law (wsV RL 105 RX10 yX10_back wsX10_back) := goodIn_app (goodIn_of _ (by decide +kernel)) ggL_law_X10_back
set_option maxRecDepth 20000 in
theorem ggL_law_X11_back : GoodIn wsL_law wsX11_back := goodIn_r _ [829, 118, 116, 117, 145, 146, 5, 147, 861, 862, 863, 864, 865, 866, 867, 868, 869, 870, 871, 872, 873, 874, 875, 876, 877, 878, 879, 880, 881, 882] (by decide +kernel) (by decide +kernel)
set_option maxRecDepth 20000 in
theorem gL_law_X11_back : GoodIn wsL_law (wsV RL 108 RX11 yX11_back wsX11_back) := goodIn_app (goodIn_of _ (by decide +kernel)) ggL_law_X11_back
set_option maxRecDepth 20000 in
theorem ggL_law_X10_count : GoodIn wsL_law wsX10_count := goodIn_r _ [833, 23, 834, 653, 431, 361, 35, 190, 28, 497, 15, 172, 847, 848, 849, 850, 851, 852, 853, 854, 855, 856, 857, 858, 859, 860, 891, 892, 893, 894, 895, 896, 897, 898, 899, 900, 904, 905, 906, 901, 902, 903, 883, 884, 885, 886, 887, 888] (by decide +kernel) (by decide +kernel)
set_option maxRecDepth 20000 in
theorem gL_law_X10_count : GoodIn wsL_law (wsV RL 109 RX10 yX10_count wsX10_count) := goodIn_app (goodIn_of _ (by decide +kernel)) ggL_law_X10_count
set_option maxRecDepth 20000 in
theorem ggL_law_X11_count : GoodIn wsL_law wsX11_count := goodIn_r _ [838, 114, 167, 116, 141, 861, 862, 863, 864, 865, 866, 867, 868, 869, 870, 871, 872, 873, 874, 875, 876, 877, 878, 879, 880, 881, 882] (by decide +kernel) (by decide +kernel)
set_option maxRecDepth 20000 in
theorem gL_law_X11_count : GoodIn wsL_law (wsV RL 112 RX11 yX11_count wsX11_count) := goodIn_app (goodIn_of _ (by decide +kernel)) ggL_law_X11_count
set_option maxRecDepth 20000 in
theorem ggL_law_X10_trace : GoodIn wsL_law wsX10_trace := goodIn_r _ [842, 773, 847, 848, 849, 850, 851, 852, 853, 854, 855, 856, 857, 858, 859, 860] (by decide +kernel) (by decide +kernel)
set_option maxRecDepth 20000 in
theorem gL_law_X10_trace : GoodIn wsL_law (wsV RL 113 RX10 yX10_trace wsX10_trace) := goodIn_app (goodIn_of _ (by decide +kernel)) ggL_law_X10_trace
set_option maxRecDepth 20000 in
theorem ggL_law_X11_trace : GoodIn wsL_law wsX11_trace := goodIn_r _ [846, 804, 861, 862, 863, 864, 865, 866, 867, 868, 869, 870, 871, 872, 873, 874, 875, 876, 877, 878, 879, 880, 881, 882] (by decide +kernel) (by decide +kernel)
set_option maxRecDepth 20000 in
theorem gL_law_X11_trace : GoodIn wsL_law (wsV RL 117 RX11 yX11_trace wsX11_trace) := goodIn_app (goodIn_of _ (by decide +kernel)) ggL_law_X11_trace
theorem dL_law_0 : decode cL_law 0 = .ok (.new 7, 3) := by decide +kernel
theorem dL_law_3 : decode cL_law 3 = .ok (.dup, 1) := by decide +kernel
theorem dL_law_4 : decode cL_law 4 = .ok (.invokespecial 9, 3) := by decide +kernel
theorem dL_law_7 : decode cL_law 7 = .ok (.astore_n 1, 1) := by decide +kernel
theorem dL_law_8 : decode cL_law 8 = .ok (.new 10, 3) := by decide +kernel
theorem dL_law_11 : decode cL_law 11 = .ok (.dup, 1) := by decide +kernel
theorem dL_law_12 : decode cL_law 12 = .ok (.invokespecial 12, 3) := by decide +kernel
theorem dL_law_15 : decode cL_law 15 = .ok (.astore_n 2, 1) := by decide +kernel
theorem dL_law_16 : decode cL_law 16 = .ok (.iconst 0, 1) := by decide +kernel
theorem dL_law_17 : decode cL_law 17 = .ok (.istore_n 3, 1) := by decide +kernel
theorem dL_law_18 : decode cL_law 18 = .ok (.iload_n 3, 1) := by decide +kernel
theorem dL_law_19 : decode cL_law 19 = .ok (.aload_n 0, 1) := by decide +kernel
theorem dL_law_20 : decode cL_law 20 = .ok (.arraylength, 1) := by decide +kernel
theorem dL_law_21 : decode cL_law 21 = .ok (.iconst 4, 1) := by decide +kernel
theorem dL_law_22 : decode cL_law 22 = .ok (.isub, 1) := by decide +kernel
theorem dL_law_23 : decode cL_law 23 = .ok (.if_icmp .gt 697, 3) := by decide +kernel
theorem dL_law_26 : decode cL_law 26 = .ok (.aload_n 0, 1) := by decide +kernel
theorem dL_law_27 : decode cL_law 27 = .ok (.iload_n 3, 1) := by decide +kernel
theorem dL_law_28 : decode cL_law 28 = .ok (.iaload, 1) := by decide +kernel
theorem dL_law_29 : decode cL_law 29 = .ok (.bipush 31, 2) := by decide +kernel
theorem dL_law_31 : decode cL_law 31 = .ok (.iand, 1) := by decide +kernel
theorem dL_law_32 : decode cL_law 32 = .ok (.tableswitch 682 0 24 #[116, 139, 152, 165, 198, 231, 254, 267, 290, 313, 336, 349, 372, 395, 408, 441, 484, 517, 530, 543, 566, 599, 622, 645, 668], 116) := by decide +kernel
theorem dL_law_148 : decode cL_law 148 = .ok (.aload_n 1, 1) := by decide +kernel
theorem dL_law_149 : decode cL_law 149 = .ok (.aload_n 0, 1) := by decide +kernel
theorem dL_law_150 : decode cL_law 150 = .ok (.iload_n 3, 1) := by decide +kernel
theorem dL_law_151 : decode cL_law 151 = .ok (.iconst 1, 1) := by decide +kernel
theorem dL_law_152 : decode cL_law 152 = .ok (.iadd, 1) := by decide +kernel
theorem dL_law_153 : decode cL_law 153 = .ok (.iaload, 1) := by decide +kernel
theorem dL_law_154 : decode cL_law 154 = .ok (.invokevirtual 13, 3) := by decide +kernel
theorem dL_law_157 : decode cL_law 157 = .ok (.aload_n 2, 1) := by decide +kernel
theorem dL_law_158 : decode cL_law 158 = .ok (.aload_n 0, 1) := by decide +kernel
theorem dL_law_159 : decode cL_law 159 = .ok (.iload_n 3, 1) := by decide +kernel
theorem dL_law_160 : decode cL_law 160 = .ok (.iconst 1, 1) := by decide +kernel
theorem dL_law_161 : decode cL_law 161 = .ok (.iadd, 1) := by decide +kernel
theorem dL_law_162 : decode cL_law 162 = .ok (.iaload, 1) := by decide +kernel
theorem dL_law_163 : decode cL_law 163 = .ok (.invokevirtual 17, 3) := by decide +kernel
theorem dL_law_166 : decode cL_law 166 = .ok (.if_icmp .eq 548, 3) := by decide +kernel
theorem dL_law_169 : decode cL_law 169 = .ok (.iconst 0, 1) := by decide +kernel
theorem dL_law_170 : decode cL_law 170 = .ok (.ireturn, 1) := by decide +kernel
theorem dL_law_171 : decode cL_law 171 = .ok (.aload_n 1, 1) := by decide +kernel
theorem dL_law_172 : decode cL_law 172 = .ok (.invokevirtual 18, 3) := by decide +kernel
theorem dL_law_175 : decode cL_law 175 = .ok (.aload_n 2, 1) := by decide +kernel
theorem dL_law_176 : decode cL_law 176 = .ok (.invokevirtual 22, 3) := by decide +kernel
theorem dL_law_179 : decode cL_law 179 = .ok (.if_icmp .eq 535, 3) := by decide +kernel
theorem dL_law_182 : decode cL_law 182 = .ok (.iconst 0, 1) := by decide +kernel
theorem dL_law_183 : decode cL_law 183 = .ok (.ireturn, 1) := by decide +kernel
theorem dL_law_184 : decode cL_law 184 = .ok (.aload_n 1, 1) := by decide +kernel
theorem dL_law_185 : decode cL_law 185 = .ok (.invokevirtual 23, 3) := by decide +kernel
theorem dL_law_188 : decode cL_law 188 = .ok (.aload_n 2, 1) := by decide +kernel
theorem dL_law_189 : decode cL_law 189 = .ok (.invokevirtual 26, 3) := by decide +kernel
theorem dL_law_192 : decode cL_law 192 = .ok (.if_icmp .eq 522, 3) := by decide +kernel
theorem dL_law_195 : decode cL_law 195 = .ok (.iconst 0, 1) := by decide +kernel
theorem dL_law_196 : decode cL_law 196 = .ok (.ireturn, 1) := by decide +kernel
theorem dL_law_197 : decode cL_law 197 = .ok (.aload_n 1, 1) := by decide +kernel
theorem dL_law_198 : decode cL_law 198 = .ok (.aload_n 0, 1) := by decide +kernel
theorem dL_law_199 : decode cL_law 199 = .ok (.iload_n 3, 1) := by decide +kernel
theorem dL_law_200 : decode cL_law 200 = .ok (.iconst 1, 1) := by decide +kernel
theorem dL_law_201 : decode cL_law 201 = .ok (.iadd, 1) := by decide +kernel
theorem dL_law_202 : decode cL_law 202 = .ok (.iaload, 1) := by decide +kernel
theorem dL_law_203 : decode cL_law 203 = .ok (.aload_n 0, 1) := by decide +kernel
theorem dL_law_204 : decode cL_law 204 = .ok (.iload_n 3, 1) := by decide +kernel
theorem dL_law_205 : decode cL_law 205 = .ok (.iconst 2, 1) := by decide +kernel
theorem dL_law_206 : decode cL_law 206 = .ok (.iadd, 1) := by decide +kernel
theorem dL_law_207 : decode cL_law 207 = .ok (.iaload, 1) := by decide +kernel
theorem dL_law_208 : decode cL_law 208 = .ok (.invokevirtual 27, 3) := by decide +kernel
theorem dL_law_211 : decode cL_law 211 = .ok (.aload_n 2, 1) := by decide +kernel
theorem dL_law_212 : decode cL_law 212 = .ok (.aload_n 0, 1) := by decide +kernel
theorem dL_law_213 : decode cL_law 213 = .ok (.iload_n 3, 1) := by decide +kernel
theorem dL_law_214 : decode cL_law 214 = .ok (.iconst 1, 1) := by decide +kernel
theorem dL_law_215 : decode cL_law 215 = .ok (.iadd, 1) := by decide +kernel
theorem dL_law_216 : decode cL_law 216 = .ok (.iaload, 1) := by decide +kernel
theorem dL_law_217 : decode cL_law 217 = .ok (.aload_n 0, 1) := by decide +kernel
theorem dL_law_218 : decode cL_law 218 = .ok (.iload_n 3, 1) := by decide +kernel
theorem dL_law_219 : decode cL_law 219 = .ok (.iconst 2, 1) := by decide +kernel
theorem dL_law_220 : decode cL_law 220 = .ok (.iadd, 1) := by decide +kernel
theorem dL_law_221 : decode cL_law 221 = .ok (.iaload, 1) := by decide +kernel
theorem dL_law_222 : decode cL_law 222 = .ok (.invokevirtual 31, 3) := by decide +kernel
theorem dL_law_225 : decode cL_law 225 = .ok (.if_icmp .eq 489, 3) := by decide +kernel
theorem dL_law_228 : decode cL_law 228 = .ok (.iconst 0, 1) := by decide +kernel
theorem dL_law_229 : decode cL_law 229 = .ok (.ireturn, 1) := by decide +kernel
theorem dL_law_230 : decode cL_law 230 = .ok (.aload_n 1, 1) := by decide +kernel
theorem dL_law_231 : decode cL_law 231 = .ok (.aload_n 0, 1) := by decide +kernel
theorem dL_law_232 : decode cL_law 232 = .ok (.iload_n 3, 1) := by decide +kernel
theorem dL_law_233 : decode cL_law 233 = .ok (.iconst 1, 1) := by decide +kernel
theorem dL_law_234 : decode cL_law 234 = .ok (.iadd, 1) := by decide +kernel
theorem dL_law_235 : decode cL_law 235 = .ok (.iaload, 1) := by decide +kernel
theorem dL_law_236 : decode cL_law 236 = .ok (.aload_n 0, 1) := by decide +kernel
theorem dL_law_237 : decode cL_law 237 = .ok (.iload_n 3, 1) := by decide +kernel
theorem dL_law_238 : decode cL_law 238 = .ok (.iconst 2, 1) := by decide +kernel
theorem dL_law_239 : decode cL_law 239 = .ok (.iadd, 1) := by decide +kernel
theorem dL_law_240 : decode cL_law 240 = .ok (.iaload, 1) := by decide +kernel
theorem dL_law_241 : decode cL_law 241 = .ok (.invokevirtual 32, 3) := by decide +kernel
theorem dL_law_244 : decode cL_law 244 = .ok (.aload_n 2, 1) := by decide +kernel
theorem dL_law_245 : decode cL_law 245 = .ok (.aload_n 0, 1) := by decide +kernel
theorem dL_law_246 : decode cL_law 246 = .ok (.iload_n 3, 1) := by decide +kernel
theorem dL_law_247 : decode cL_law 247 = .ok (.iconst 1, 1) := by decide +kernel
theorem dL_law_248 : decode cL_law 248 = .ok (.iadd, 1) := by decide +kernel
theorem dL_law_249 : decode cL_law 249 = .ok (.iaload, 1) := by decide +kernel
theorem dL_law_250 : decode cL_law 250 = .ok (.aload_n 0, 1) := by decide +kernel
theorem dL_law_251 : decode cL_law 251 = .ok (.iload_n 3, 1) := by decide +kernel
theorem dL_law_252 : decode cL_law 252 = .ok (.iconst 2, 1) := by decide +kernel
theorem dL_law_253 : decode cL_law 253 = .ok (.iadd, 1) := by decide +kernel
theorem dL_law_254 : decode cL_law 254 = .ok (.iaload, 1) := by decide +kernel
theorem dL_law_255 : decode cL_law 255 = .ok (.invokevirtual 35, 3) := by decide +kernel
theorem dL_law_258 : decode cL_law 258 = .ok (.if_icmp .eq 456, 3) := by decide +kernel
theorem dL_law_261 : decode cL_law 261 = .ok (.iconst 0, 1) := by decide +kernel
theorem dL_law_262 : decode cL_law 262 = .ok (.ireturn, 1) := by decide +kernel
theorem dL_law_263 : decode cL_law 263 = .ok (.aload_n 1, 1) := by decide +kernel
theorem dL_law_264 : decode cL_law 264 = .ok (.aload_n 0, 1) := by decide +kernel
theorem dL_law_265 : decode cL_law 265 = .ok (.iload_n 3, 1) := by decide +kernel
theorem dL_law_266 : decode cL_law 266 = .ok (.iconst 1, 1) := by decide +kernel
theorem dL_law_267 : decode cL_law 267 = .ok (.iadd, 1) := by decide +kernel
theorem dL_law_268 : decode cL_law 268 = .ok (.iaload, 1) := by decide +kernel
theorem dL_law_269 : decode cL_law 269 = .ok (.invokevirtual 36, 3) := by decide +kernel
theorem dL_law_272 : decode cL_law 272 = .ok (.aload_n 2, 1) := by decide +kernel
theorem dL_law_273 : decode cL_law 273 = .ok (.aload_n 0, 1) := by decide +kernel
theorem dL_law_274 : decode cL_law 274 = .ok (.iload_n 3, 1) := by decide +kernel
theorem dL_law_275 : decode cL_law 275 = .ok (.iconst 1, 1) := by decide +kernel
theorem dL_law_276 : decode cL_law 276 = .ok (.iadd, 1) := by decide +kernel
theorem dL_law_277 : decode cL_law 277 = .ok (.iaload, 1) := by decide +kernel
theorem dL_law_278 : decode cL_law 278 = .ok (.invokevirtual 39, 3) := by decide +kernel
theorem dL_law_281 : decode cL_law 281 = .ok (.if_icmp .eq 433, 3) := by decide +kernel
theorem dL_law_284 : decode cL_law 284 = .ok (.iconst 0, 1) := by decide +kernel
theorem dL_law_285 : decode cL_law 285 = .ok (.ireturn, 1) := by decide +kernel
theorem dL_law_286 : decode cL_law 286 = .ok (.aload_n 1, 1) := by decide +kernel
theorem dL_law_287 : decode cL_law 287 = .ok (.invokevirtual 40, 3) := by decide +kernel
theorem dL_law_290 : decode cL_law 290 = .ok (.aload_n 2, 1) := by decide +kernel
theorem dL_law_291 : decode cL_law 291 = .ok (.invokevirtual 43, 3) := by decide +kernel
theorem dL_law_294 : decode cL_law 294 = .ok (.if_icmp .eq 420, 3) := by decide +kernel
theorem dL_law_297 : decode cL_law 297 = .ok (.iconst 0, 1) := by decide +kernel
theorem dL_law_298 : decode cL_law 298 = .ok (.ireturn, 1) := by decide +kernel
theorem dL_law_299 : decode cL_law 299 = .ok (.aload_n 1, 1) := by decide +kernel
theorem dL_law_300 : decode cL_law 300 = .ok (.aload_n 0, 1) := by decide +kernel
theorem dL_law_301 : decode cL_law 301 = .ok (.iload_n 3, 1) := by decide +kernel
theorem dL_law_302 : decode cL_law 302 = .ok (.iconst 1, 1) := by decide +kernel
theorem dL_law_303 : decode cL_law 303 = .ok (.iadd, 1) := by decide +kernel
theorem dL_law_304 : decode cL_law 304 = .ok (.iaload, 1) := by decide +kernel
theorem dL_law_305 : decode cL_law 305 = .ok (.invokevirtual 44, 3) := by decide +kernel
theorem dL_law_308 : decode cL_law 308 = .ok (.aload_n 2, 1) := by decide +kernel
theorem dL_law_309 : decode cL_law 309 = .ok (.aload_n 0, 1) := by decide +kernel
theorem dL_law_310 : decode cL_law 310 = .ok (.iload_n 3, 1) := by decide +kernel
theorem dL_law_311 : decode cL_law 311 = .ok (.iconst 1, 1) := by decide +kernel
theorem dL_law_312 : decode cL_law 312 = .ok (.iadd, 1) := by decide +kernel
theorem dL_law_313 : decode cL_law 313 = .ok (.iaload, 1) := by decide +kernel
theorem dL_law_314 : decode cL_law 314 = .ok (.invokevirtual 47, 3) := by decide +kernel
theorem dL_law_317 : decode cL_law 317 = .ok (.if_icmp .eq 397, 3) := by decide +kernel
theorem dL_law_320 : decode cL_law 320 = .ok (.iconst 0, 1) := by decide +kernel
theorem dL_law_321 : decode cL_law 321 = .ok (.ireturn, 1) := by decide +kernel
theorem dL_law_322 : decode cL_law 322 = .ok (.aload_n 1, 1) := by decide +kernel
theorem dL_law_323 : decode cL_law 323 = .ok (.aload_n 0, 1) := by decide +kernel
theorem dL_law_324 : decode cL_law 324 = .ok (.iload_n 3, 1) := by decide +kernel
theorem dL_law_325 : decode cL_law 325 = .ok (.iconst 1, 1) := by decide +kernel
theorem dL_law_326 : decode cL_law 326 = .ok (.iadd, 1) := by decide +kernel
theorem dL_law_327 : decode cL_law 327 = .ok (.iaload, 1) := by decide +kernel
theorem dL_law_328 : decode cL_law 328 = .ok (.invokevirtual 48, 3) := by decide +kernel
theorem dL_law_331 : decode cL_law 331 = .ok (.aload_n 2, 1) := by decide +kernel
theorem dL_law_332 : decode cL_law 332 = .ok (.aload_n 0, 1) := by decide +kernel
theorem dL_law_333 : decode cL_law 333 = .ok (.iload_n 3, 1) := by decide +kernel
theorem dL_law_334 : decode cL_law 334 = .ok (.iconst 1, 1) := by decide +kernel
theorem dL_law_335 : decode cL_law 335 = .ok (.iadd, 1) := by decide +kernel
theorem dL_law_336 : decode cL_law 336 = .ok (.iaload, 1) := by decide +kernel
theorem dL_law_337 : decode cL_law 337 = .ok (.invokevirtual 51, 3) := by decide +kernel
theorem dL_law_340 : decode cL_law 340 = .ok (.if_icmp .eq 374, 3) := by decide +kernel
theorem dL_law_343 : decode cL_law 343 = .ok (.iconst 0, 1) := by decide +kernel
theorem dL_law_344 : decode cL_law 344 = .ok (.ireturn, 1) := by decide +kernel
theorem dL_law_345 : decode cL_law 345 = .ok (.aload_n 1, 1) := by decide +kernel
theorem dL_law_346 : decode cL_law 346 = .ok (.aload_n 0, 1) := by decide +kernel
theorem dL_law_347 : decode cL_law 347 = .ok (.iload_n 3, 1) := by decide +kernel
theorem dL_law_348 : decode cL_law 348 = .ok (.iconst 1, 1) := by decide +kernel
theorem dL_law_349 : decode cL_law 349 = .ok (.iadd, 1) := by decide +kernel
theorem dL_law_350 : decode cL_law 350 = .ok (.iaload, 1) := by decide +kernel
theorem dL_law_351 : decode cL_law 351 = .ok (.invokevirtual 52, 3) := by decide +kernel
theorem dL_law_354 : decode cL_law 354 = .ok (.aload_n 2, 1) := by decide +kernel
theorem dL_law_355 : decode cL_law 355 = .ok (.aload_n 0, 1) := by decide +kernel
theorem dL_law_356 : decode cL_law 356 = .ok (.iload_n 3, 1) := by decide +kernel
theorem dL_law_357 : decode cL_law 357 = .ok (.iconst 1, 1) := by decide +kernel
theorem dL_law_358 : decode cL_law 358 = .ok (.iadd, 1) := by decide +kernel
theorem dL_law_359 : decode cL_law 359 = .ok (.iaload, 1) := by decide +kernel
theorem dL_law_360 : decode cL_law 360 = .ok (.invokevirtual 55, 3) := by decide +kernel
theorem dL_law_363 : decode cL_law 363 = .ok (.if_icmp .eq 351, 3) := by decide +kernel
theorem dL_law_366 : decode cL_law 366 = .ok (.iconst 0, 1) := by decide +kernel
theorem dL_law_367 : decode cL_law 367 = .ok (.ireturn, 1) := by decide +kernel
end
section
theorem dL_law_368 : decode cL_law 368 = .ok (.aload_n 1, 1) := by decide +kernel
theorem dL_law_369 : decode cL_law 369 = .ok (.invokevirtual 56, 3) := by decide +kernel
theorem dL_law_372 : decode cL_law 372 = .ok (.aload_n 2, 1) := by decide +kernel
theorem dL_law_373 : decode cL_law 373 = .ok (.invokevirtual 59, 3) := by decide +kernel
theorem dL_law_376 : decode cL_law 376 = .ok (.if_icmp .eq 338, 3) := by decide +kernel
theorem dL_law_379 : decode cL_law 379 = .ok (.iconst 0, 1) := by decide +kernel
theorem dL_law_380 : decode cL_law 380 = .ok (.ireturn, 1) := by decide +kernel
theorem dL_law_381 : decode cL_law 381 = .ok (.aload_n 1, 1) := by decide +kernel
theorem dL_law_382 : decode cL_law 382 = .ok (.aload_n 0, 1) := by decide +kernel
theorem dL_law_383 : decode cL_law 383 = .ok (.iload_n 3, 1) := by decide +kernel
theorem dL_law_384 : decode cL_law 384 = .ok (.iconst 1, 1) := by decide +kernel
theorem dL_law_385 : decode cL_law 385 = .ok (.iadd, 1) := by decide +kernel
theorem dL_law_386 : decode cL_law 386 = .ok (.iaload, 1) := by decide +kernel
theorem dL_law_387 : decode cL_law 387 = .ok (.invokevirtual 60, 3) := by decide +kernel
theorem dL_law_390 : decode cL_law 390 = .ok (.aload_n 2, 1) := by decide +kernel
theorem dL_law_391 : decode cL_law 391 = .ok (.aload_n 0, 1) := by decide +kernel
theorem dL_law_392 : decode cL_law 392 = .ok (.iload_n 3, 1) := by decide +kernel
theorem dL_law_393 : decode cL_law 393 = .ok (.iconst 1, 1) := by decide +kernel
theorem dL_law_394 : decode cL_law 394 = .ok (.iadd, 1) := by decide +kernel
theorem dL_law_395 : decode cL_law 395 = .ok (.iaload, 1) := by decide +kernel
theorem dL_law_396 : decode cL_law 396 = .ok (.invokevirtual 63, 3) := by decide +kernel
theorem dL_law_399 : decode cL_law 399 = .ok (.if_icmp .eq 315, 3) := by decide +kernel
theorem dL_law_402 : decode cL_law 402 = .ok (.iconst 0, 1) := by decide +kernel
theorem dL_law_403 : decode cL_law 403 = .ok (.ireturn, 1) := by decide +kernel
theorem dL_law_404 : decode cL_law 404 = .ok (.aload_n 1, 1) := by decide +kernel
theorem dL_law_405 : decode cL_law 405 = .ok (.aload_n 0, 1) := by decide +kernel
theorem dL_law_406 : decode cL_law 406 = .ok (.iload_n 3, 1) := by decide +kernel
theorem dL_law_407 : decode cL_law 407 = .ok (.iconst 1, 1) := by decide +kernel
theorem dL_law_408 : decode cL_law 408 = .ok (.iadd, 1) := by decide +kernel
theorem dL_law_409 : decode cL_law 409 = .ok (.iaload, 1) := by decide +kernel
theorem dL_law_410 : decode cL_law 410 = .ok (.invokevirtual 64, 3) := by decide +kernel
theorem dL_law_413 : decode cL_law 413 = .ok (.aload_n 2, 1) := by decide +kernel
theorem dL_law_414 : decode cL_law 414 = .ok (.aload_n 0, 1) := by decide +kernel
theorem dL_law_415 : decode cL_law 415 = .ok (.iload_n 3, 1) := by decide +kernel
theorem dL_law_416 : decode cL_law 416 = .ok (.iconst 1, 1) := by decide +kernel
theorem dL_law_417 : decode cL_law 417 = .ok (.iadd, 1) := by decide +kernel
theorem dL_law_418 : decode cL_law 418 = .ok (.iaload, 1) := by decide +kernel
theorem dL_law_419 : decode cL_law 419 = .ok (.invokevirtual 67, 3) := by decide +kernel
theorem dL_law_422 : decode cL_law 422 = .ok (.if_icmp .eq 292, 3) := by decide +kernel
theorem dL_law_425 : decode cL_law 425 = .ok (.iconst 0, 1) := by decide +kernel
theorem dL_law_426 : decode cL_law 426 = .ok (.ireturn, 1) := by decide +kernel
theorem dL_law_427 : decode cL_law 427 = .ok (.aload_n 1, 1) := by decide +kernel
theorem dL_law_428 : decode cL_law 428 = .ok (.invokevirtual 68, 3) := by decide +kernel
theorem dL_law_431 : decode cL_law 431 = .ok (.aload_n 2, 1) := by decide +kernel
theorem dL_law_432 : decode cL_law 432 = .ok (.invokevirtual 71, 3) := by decide +kernel
theorem dL_law_435 : decode cL_law 435 = .ok (.if_icmp .eq 279, 3) := by decide +kernel
theorem dL_law_438 : decode cL_law 438 = .ok (.iconst 0, 1) := by decide +kernel
theorem dL_law_439 : decode cL_law 439 = .ok (.ireturn, 1) := by decide +kernel
theorem dL_law_440 : decode cL_law 440 = .ok (.aload_n 1, 1) := by decide +kernel
theorem dL_law_441 : decode cL_law 441 = .ok (.aload_n 0, 1) := by decide +kernel
theorem dL_law_442 : decode cL_law 442 = .ok (.iload_n 3, 1) := by decide +kernel
theorem dL_law_443 : decode cL_law 443 = .ok (.iconst 1, 1) := by decide +kernel
theorem dL_law_444 : decode cL_law 444 = .ok (.iadd, 1) := by decide +kernel
theorem dL_law_445 : decode cL_law 445 = .ok (.iaload, 1) := by decide +kernel
theorem dL_law_446 : decode cL_law 446 = .ok (.aload_n 0, 1) := by decide +kernel
theorem dL_law_447 : decode cL_law 447 = .ok (.iload_n 3, 1) := by decide +kernel
theorem dL_law_448 : decode cL_law 448 = .ok (.iconst 2, 1) := by decide +kernel
theorem dL_law_449 : decode cL_law 449 = .ok (.iadd, 1) := by decide +kernel
theorem dL_law_450 : decode cL_law 450 = .ok (.iaload, 1) := by decide +kernel
theorem dL_law_451 : decode cL_law 451 = .ok (.invokevirtual 72, 3) := by decide +kernel
theorem dL_law_454 : decode cL_law 454 = .ok (.aload_n 2, 1) := by decide +kernel
theorem dL_law_455 : decode cL_law 455 = .ok (.aload_n 0, 1) := by decide +kernel
theorem dL_law_456 : decode cL_law 456 = .ok (.iload_n 3, 1) := by decide +kernel
theorem dL_law_457 : decode cL_law 457 = .ok (.iconst 1, 1) := by decide +kernel
theorem dL_law_458 : decode cL_law 458 = .ok (.iadd, 1) := by decide +kernel
theorem dL_law_459 : decode cL_law 459 = .ok (.iaload, 1) := by decide +kernel
theorem dL_law_460 : decode cL_law 460 = .ok (.aload_n 0, 1) := by decide +kernel
theorem dL_law_461 : decode cL_law 461 = .ok (.iload_n 3, 1) := by decide +kernel
theorem dL_law_462 : decode cL_law 462 = .ok (.iconst 2, 1) := by decide +kernel
theorem dL_law_463 : decode cL_law 463 = .ok (.iadd, 1) := by decide +kernel
theorem dL_law_464 : decode cL_law 464 = .ok (.iaload, 1) := by decide +kernel
theorem dL_law_465 : decode cL_law 465 = .ok (.invokevirtual 75, 3) := by decide +kernel
theorem dL_law_468 : decode cL_law 468 = .ok (.if_icmp .eq 246, 3) := by decide +kernel
theorem dL_law_471 : decode cL_law 471 = .ok (.iconst 0, 1) := by decide +kernel
theorem dL_law_472 : decode cL_law 472 = .ok (.ireturn, 1) := by decide +kernel
theorem dL_law_473 : decode cL_law 473 = .ok (.aload_n 1, 1) := by decide +kernel
theorem dL_law_474 : decode cL_law 474 = .ok (.aload_n 0, 1) := by decide +kernel
theorem dL_law_475 : decode cL_law 475 = .ok (.iload_n 3, 1) := by decide +kernel
theorem dL_law_476 : decode cL_law 476 = .ok (.iconst 1, 1) := by decide +kernel
theorem dL_law_477 : decode cL_law 477 = .ok (.iadd, 1) := by decide +kernel
theorem dL_law_478 : decode cL_law 478 = .ok (.iaload, 1) := by decide +kernel
theorem dL_law_479 : decode cL_law 479 = .ok (.aload_n 0, 1) := by decide +kernel
theorem dL_law_480 : decode cL_law 480 = .ok (.iload_n 3, 1) := by decide +kernel
theorem dL_law_481 : decode cL_law 481 = .ok (.iconst 2, 1) := by decide +kernel
theorem dL_law_482 : decode cL_law 482 = .ok (.iadd, 1) := by decide +kernel
theorem dL_law_483 : decode cL_law 483 = .ok (.iaload, 1) := by decide +kernel
theorem dL_law_484 : decode cL_law 484 = .ok (.aload_n 0, 1) := by decide +kernel
theorem dL_law_485 : decode cL_law 485 = .ok (.iload_n 3, 1) := by decide +kernel
theorem dL_law_486 : decode cL_law 486 = .ok (.iconst 3, 1) := by decide +kernel
theorem dL_law_487 : decode cL_law 487 = .ok (.iadd, 1) := by decide +kernel
theorem dL_law_488 : decode cL_law 488 = .ok (.iaload, 1) := by decide +kernel
theorem dL_law_489 : decode cL_law 489 = .ok (.invokevirtual 76, 3) := by decide +kernel
theorem dL_law_492 : decode cL_law 492 = .ok (.aload_n 2, 1) := by decide +kernel
theorem dL_law_493 : decode cL_law 493 = .ok (.aload_n 0, 1) := by decide +kernel
theorem dL_law_494 : decode cL_law 494 = .ok (.iload_n 3, 1) := by decide +kernel
theorem dL_law_495 : decode cL_law 495 = .ok (.iconst 1, 1) := by decide +kernel
theorem dL_law_496 : decode cL_law 496 = .ok (.iadd, 1) := by decide +kernel
theorem dL_law_497 : decode cL_law 497 = .ok (.iaload, 1) := by decide +kernel
theorem dL_law_498 : decode cL_law 498 = .ok (.aload_n 0, 1) := by decide +kernel
theorem dL_law_499 : decode cL_law 499 = .ok (.iload_n 3, 1) := by decide +kernel
theorem dL_law_500 : decode cL_law 500 = .ok (.iconst 2, 1) := by decide +kernel
theorem dL_law_501 : decode cL_law 501 = .ok (.iadd, 1) := by decide +kernel
theorem dL_law_502 : decode cL_law 502 = .ok (.iaload, 1) := by decide +kernel
theorem dL_law_503 : decode cL_law 503 = .ok (.aload_n 0, 1) := by decide +kernel
theorem dL_law_504 : decode cL_law 504 = .ok (.iload_n 3, 1) := by decide +kernel
theorem dL_law_505 : decode cL_law 505 = .ok (.iconst 3, 1) := by decide +kernel
theorem dL_law_506 : decode cL_law 506 = .ok (.iadd, 1) := by decide +kernel
theorem dL_law_507 : decode cL_law 507 = .ok (.iaload, 1) := by decide +kernel
theorem dL_law_508 : decode cL_law 508 = .ok (.invokevirtual 80, 3) := by decide +kernel
theorem dL_law_511 : decode cL_law 511 = .ok (.if_icmp .eq 203, 3) := by decide +kernel
theorem dL_law_514 : decode cL_law 514 = .ok (.iconst 0, 1) := by decide +kernel
theorem dL_law_515 : decode cL_law 515 = .ok (.ireturn, 1) := by decide +kernel
theorem dL_law_516 : decode cL_law 516 = .ok (.aload_n 1, 1) := by decide +kernel
theorem dL_law_517 : decode cL_law 517 = .ok (.aload_n 0, 1) := by decide +kernel
theorem dL_law_518 : decode cL_law 518 = .ok (.iload_n 3, 1) := by decide +kernel
theorem dL_law_519 : decode cL_law 519 = .ok (.iconst 1, 1) := by decide +kernel
theorem dL_law_520 : decode cL_law 520 = .ok (.iadd, 1) := by decide +kernel
theorem dL_law_521 : decode cL_law 521 = .ok (.iaload, 1) := by decide +kernel
theorem dL_law_522 : decode cL_law 522 = .ok (.aload_n 0, 1) := by decide +kernel
theorem dL_law_523 : decode cL_law 523 = .ok (.iload_n 3, 1) := by decide +kernel
theorem dL_law_524 : decode cL_law 524 = .ok (.iconst 2, 1) := by decide +kernel
theorem dL_law_525 : decode cL_law 525 = .ok (.iadd, 1) := by decide +kernel
theorem dL_law_526 : decode cL_law 526 = .ok (.iaload, 1) := by decide +kernel
theorem dL_law_527 : decode cL_law 527 = .ok (.invokevirtual 81, 3) := by decide +kernel
theorem dL_law_530 : decode cL_law 530 = .ok (.aload_n 2, 1) := by decide +kernel
theorem dL_law_531 : decode cL_law 531 = .ok (.aload_n 0, 1) := by decide +kernel
theorem dL_law_532 : decode cL_law 532 = .ok (.iload_n 3, 1) := by decide +kernel
theorem dL_law_533 : decode cL_law 533 = .ok (.iconst 1, 1) := by decide +kernel
theorem dL_law_534 : decode cL_law 534 = .ok (.iadd, 1) := by decide +kernel
theorem dL_law_535 : decode cL_law 535 = .ok (.iaload, 1) := by decide +kernel
theorem dL_law_536 : decode cL_law 536 = .ok (.aload_n 0, 1) := by decide +kernel
theorem dL_law_537 : decode cL_law 537 = .ok (.iload_n 3, 1) := by decide +kernel
theorem dL_law_538 : decode cL_law 538 = .ok (.iconst 2, 1) := by decide +kernel
theorem dL_law_539 : decode cL_law 539 = .ok (.iadd, 1) := by decide +kernel
theorem dL_law_540 : decode cL_law 540 = .ok (.iaload, 1) := by decide +kernel
theorem dL_law_541 : decode cL_law 541 = .ok (.invokevirtual 84, 3) := by decide +kernel
theorem dL_law_544 : decode cL_law 544 = .ok (.if_icmp .eq 170, 3) := by decide +kernel
theorem dL_law_547 : decode cL_law 547 = .ok (.iconst 0, 1) := by decide +kernel
theorem dL_law_548 : decode cL_law 548 = .ok (.ireturn, 1) := by decide +kernel
theorem dL_law_549 : decode cL_law 549 = .ok (.aload_n 1, 1) := by decide +kernel
theorem dL_law_550 : decode cL_law 550 = .ok (.invokevirtual 85, 3) := by decide +kernel
theorem dL_law_553 : decode cL_law 553 = .ok (.aload_n 2, 1) := by decide +kernel
theorem dL_law_554 : decode cL_law 554 = .ok (.invokevirtual 88, 3) := by decide +kernel
theorem dL_law_557 : decode cL_law 557 = .ok (.if_icmp .eq 157, 3) := by decide +kernel
theorem dL_law_560 : decode cL_law 560 = .ok (.iconst 0, 1) := by decide +kernel
theorem dL_law_561 : decode cL_law 561 = .ok (.ireturn, 1) := by decide +kernel
theorem dL_law_562 : decode cL_law 562 = .ok (.aload_n 1, 1) := by decide +kernel
theorem dL_law_563 : decode cL_law 563 = .ok (.invokevirtual 89, 3) := by decide +kernel
theorem dL_law_566 : decode cL_law 566 = .ok (.aload_n 2, 1) := by decide +kernel
theorem dL_law_567 : decode cL_law 567 = .ok (.invokevirtual 92, 3) := by decide +kernel
theorem dL_law_570 : decode cL_law 570 = .ok (.if_icmp .eq 144, 3) := by decide +kernel
theorem dL_law_573 : decode cL_law 573 = .ok (.iconst 0, 1) := by decide +kernel
theorem dL_law_574 : decode cL_law 574 = .ok (.ireturn, 1) := by decide +kernel
theorem dL_law_575 : decode cL_law 575 = .ok (.aload_n 1, 1) := by decide +kernel
theorem dL_law_576 : decode cL_law 576 = .ok (.aload_n 0, 1) := by decide +kernel
theorem dL_law_577 : decode cL_law 577 = .ok (.iload_n 3, 1) := by decide +kernel
theorem dL_law_578 : decode cL_law 578 = .ok (.iconst 1, 1) := by decide +kernel
theorem dL_law_579 : decode cL_law 579 = .ok (.iadd, 1) := by decide +kernel
theorem dL_law_580 : decode cL_law 580 = .ok (.iaload, 1) := by decide +kernel
theorem dL_law_581 : decode cL_law 581 = .ok (.invokevirtual 93, 3) := by decide +kernel
theorem dL_law_584 : decode cL_law 584 = .ok (.aload_n 2, 1) := by decide +kernel
theorem dL_law_585 : decode cL_law 585 = .ok (.aload_n 0, 1) := by decide +kernel
theorem dL_law_586 : decode cL_law 586 = .ok (.iload_n 3, 1) := by decide +kernel
theorem dL_law_587 : decode cL_law 587 = .ok (.iconst 1, 1) := by decide +kernel
theorem dL_law_588 : decode cL_law 588 = .ok (.iadd, 1) := by decide +kernel
theorem dL_law_589 : decode cL_law 589 = .ok (.iaload, 1) := by decide +kernel
theorem dL_law_590 : decode cL_law 590 = .ok (.invokevirtual 96, 3) := by decide +kernel
theorem dL_law_593 : decode cL_law 593 = .ok (.if_icmp .eq 121, 3) := by decide +kernel
theorem dL_law_596 : decode cL_law 596 = .ok (.iconst 0, 1) := by decide +kernel
theorem dL_law_597 : decode cL_law 597 = .ok (.ireturn, 1) := by decide +kernel
theorem dL_law_598 : decode cL_law 598 = .ok (.aload_n 1, 1) := by decide +kernel
theorem dL_law_599 : decode cL_law 599 = .ok (.aload_n 0, 1) := by decide +kernel
theorem dL_law_600 : decode cL_law 600 = .ok (.iload_n 3, 1) := by decide +kernel
theorem dL_law_601 : decode cL_law 601 = .ok (.iconst 1, 1) := by decide +kernel
theorem dL_law_602 : decode cL_law 602 = .ok (.iadd, 1) := by decide +kernel
theorem dL_law_603 : decode cL_law 603 = .ok (.iaload, 1) := by decide +kernel
theorem dL_law_604 : decode cL_law 604 = .ok (.aload_n 0, 1) := by decide +kernel
theorem dL_law_605 : decode cL_law 605 = .ok (.iload_n 3, 1) := by decide +kernel
theorem dL_law_606 : decode cL_law 606 = .ok (.iconst 2, 1) := by decide +kernel
theorem dL_law_607 : decode cL_law 607 = .ok (.iadd, 1) := by decide +kernel
theorem dL_law_608 : decode cL_law 608 = .ok (.iaload, 1) := by decide +kernel
theorem dL_law_609 : decode cL_law 609 = .ok (.invokevirtual 97, 3) := by decide +kernel
theorem dL_law_612 : decode cL_law 612 = .ok (.aload_n 2, 1) := by decide +kernel
theorem dL_law_613 : decode cL_law 613 = .ok (.aload_n 0, 1) := by decide +kernel
theorem dL_law_614 : decode cL_law 614 = .ok (.iload_n 3, 1) := by decide +kernel
theorem dL_law_615 : decode cL_law 615 = .ok (.iconst 1, 1) := by decide +kernel
theorem dL_law_616 : decode cL_law 616 = .ok (.iadd, 1) := by decide +kernel
theorem dL_law_617 : decode cL_law 617 = .ok (.iaload, 1) := by decide +kernel
theorem dL_law_618 : decode cL_law 618 = .ok (.aload_n 0, 1) := by decide +kernel
theorem dL_law_619 : decode cL_law 619 = .ok (.iload_n 3, 1) := by decide +kernel
theorem dL_law_620 : decode cL_law 620 = .ok (.iconst 2, 1) := by decide +kernel
theorem dL_law_621 : decode cL_law 621 = .ok (.iadd, 1) := by decide +kernel
theorem dL_law_622 : decode cL_law 622 = .ok (.iaload, 1) := by decide +kernel
theorem dL_law_623 : decode cL_law 623 = .ok (.invokevirtual 100, 3) := by decide +kernel
theorem dL_law_626 : decode cL_law 626 = .ok (.if_icmp .eq 88, 3) := by decide +kernel
theorem dL_law_629 : decode cL_law 629 = .ok (.iconst 0, 1) := by decide +kernel
theorem dL_law_630 : decode cL_law 630 = .ok (.ireturn, 1) := by decide +kernel
theorem dL_law_631 : decode cL_law 631 = .ok (.aload_n 1, 1) := by decide +kernel
theorem dL_law_632 : decode cL_law 632 = .ok (.aload_n 0, 1) := by decide +kernel
theorem dL_law_633 : decode cL_law 633 = .ok (.iload_n 3, 1) := by decide +kernel
theorem dL_law_634 : decode cL_law 634 = .ok (.iconst 1, 1) := by decide +kernel
theorem dL_law_635 : decode cL_law 635 = .ok (.iadd, 1) := by decide +kernel
theorem dL_law_636 : decode cL_law 636 = .ok (.iaload, 1) := by decide +kernel
theorem dL_law_637 : decode cL_law 637 = .ok (.invokevirtual 101, 3) := by decide +kernel
theorem dL_law_640 : decode cL_law 640 = .ok (.aload_n 2, 1) := by decide +kernel
theorem dL_law_641 : decode cL_law 641 = .ok (.aload_n 0, 1) := by decide +kernel
theorem dL_law_642 : decode cL_law 642 = .ok (.iload_n 3, 1) := by decide +kernel
theorem dL_law_643 : decode cL_law 643 = .ok (.iconst 1, 1) := by decide +kernel
theorem dL_law_644 : decode cL_law 644 = .ok (.iadd, 1) := by decide +kernel
theorem dL_law_645 : decode cL_law 645 = .ok (.iaload, 1) := by decide +kernel
theorem dL_law_646 : decode cL_law 646 = .ok (.invokevirtual 104, 3) := by decide +kernel
theorem dL_law_649 : decode cL_law 649 = .ok (.if_icmp .eq 65, 3) := by decide +kernel
theorem dL_law_652 : decode cL_law 652 = .ok (.iconst 0, 1) := by decide +kernel
theorem dL_law_653 : decode cL_law 653 = .ok (.ireturn, 1) := by decide +kernel
theorem dL_law_654 : decode cL_law 654 = .ok (.aload_n 1, 1) := by decide +kernel
theorem dL_law_655 : decode cL_law 655 = .ok (.aload_n 0, 1) := by decide +kernel
theorem dL_law_656 : decode cL_law 656 = .ok (.iload_n 3, 1) := by decide +kernel
theorem dL_law_657 : decode cL_law 657 = .ok (.iconst 1, 1) := by decide +kernel
theorem dL_law_658 : decode cL_law 658 = .ok (.iadd, 1) := by decide +kernel
theorem dL_law_659 : decode cL_law 659 = .ok (.iaload, 1) := by decide +kernel
theorem dL_law_660 : decode cL_law 660 = .ok (.invokevirtual 105, 3) := by decide +kernel
theorem dL_law_663 : decode cL_law 663 = .ok (.aload_n 2, 1) := by decide +kernel
theorem dL_law_664 : decode cL_law 664 = .ok (.aload_n 0, 1) := by decide +kernel
theorem dL_law_665 : decode cL_law 665 = .ok (.iload_n 3, 1) := by decide +kernel
theorem dL_law_666 : decode cL_law 666 = .ok (.iconst 1, 1) := by decide +kernel
theorem dL_law_667 : decode cL_law 667 = .ok (.iadd, 1) := by decide +kernel
theorem dL_law_668 : decode cL_law 668 = .ok (.iaload, 1) := by decide +kernel
theorem dL_law_669 : decode cL_law 669 = .ok (.invokevirtual 108, 3) := by decide +kernel
theorem dL_law_672 : decode cL_law 672 = .ok (.if_icmp .eq 42, 3) := by decide +kernel
theorem dL_law_675 : decode cL_law 675 = .ok (.iconst 0, 1) := by decide +kernel
theorem dL_law_676 : decode cL_law 676 = .ok (.ireturn, 1) := by decide +kernel
theorem dL_law_677 : decode cL_law 677 = .ok (.aload_n 1, 1) := by decide +kernel
theorem dL_law_678 : decode cL_law 678 = .ok (.aload_n 0, 1) := by decide +kernel
theorem dL_law_679 : decode cL_law 679 = .ok (.iload_n 3, 1) := by decide +kernel
theorem dL_law_680 : decode cL_law 680 = .ok (.iconst 1, 1) := by decide +kernel
theorem dL_law_681 : decode cL_law 681 = .ok (.iadd, 1) := by decide +kernel
theorem dL_law_682 : decode cL_law 682 = .ok (.iaload, 1) := by decide +kernel
theorem dL_law_683 : decode cL_law 683 = .ok (.invokevirtual 109, 3) := by decide +kernel
theorem dL_law_686 : decode cL_law 686 = .ok (.aload_n 2, 1) := by decide +kernel
theorem dL_law_687 : decode cL_law 687 = .ok (.aload_n 0, 1) := by decide +kernel
theorem dL_law_688 : decode cL_law 688 = .ok (.iload_n 3, 1) := by decide +kernel
theorem dL_law_689 : decode cL_law 689 = .ok (.iconst 1, 1) := by decide +kernel
theorem dL_law_690 : decode cL_law 690 = .ok (.iadd, 1) := by decide +kernel
theorem dL_law_691 : decode cL_law 691 = .ok (.iaload, 1) := by decide +kernel
theorem dL_law_692 : decode cL_law 692 = .ok (.invokevirtual 112, 3) := by decide +kernel
theorem dL_law_695 : decode cL_law 695 = .ok (.if_icmp .eq 19, 3) := by decide +kernel
theorem dL_law_698 : decode cL_law 698 = .ok (.iconst 0, 1) := by decide +kernel
theorem dL_law_699 : decode cL_law 699 = .ok (.ireturn, 1) := by decide +kernel
theorem dL_law_700 : decode cL_law 700 = .ok (.aload_n 1, 1) := by decide +kernel
theorem dL_law_701 : decode cL_law 701 = .ok (.invokevirtual 113, 3) := by decide +kernel
theorem dL_law_704 : decode cL_law 704 = .ok (.aload_n 2, 1) := by decide +kernel
theorem dL_law_705 : decode cL_law 705 = .ok (.invokevirtual 117, 3) := by decide +kernel
theorem dL_law_708 : decode cL_law 708 = .ok (.lcmp, 1) := by decide +kernel
theorem dL_law_709 : decode cL_law 709 = .ok (.ifCond .eq 5, 3) := by decide +kernel
theorem dL_law_712 : decode cL_law 712 = .ok (.iconst 0, 1) := by decide +kernel
theorem dL_law_713 : decode cL_law 713 = .ok (.ireturn, 1) := by decide +kernel
theorem dL_law_714 : decode cL_law 714 = .ok (.iinc 3 4, 3) := by decide +kernel
theorem dL_law_717 : decode cL_law 717 = .ok (.goto (-699), 3) := by decide +kernel
theorem dL_law_720 : decode cL_law 720 = .ok (.iconst 1, 1) := by decide +kernel
theorem dL_law_721 : decode cL_law 721 = .ok (.ireturn, 1) := by decide +kernel
abbrev vwCl : List vw_C := [(RX0, TX0, 3), (RX1, TX1, 3), (RX2, TX2, 8), (RX3, TX3, 3), (RX4, TX4, 10), (RX5, TX5, 2), (RX6, TX6, 5), (RX7, TX7, 2), (RX8, TX8, 6), (RX9, TX9, 4), (RX10, TX10, 14), (RX11, TX11, 22)]
end
section
/-! BASE: worlds of this claim, partial functions, entry, return and call rows in one piece each -/
abbrev TY (C : Nat → ClassId) : List (ClassId × FieldType) := [(C 0, .int), (C 1, .boolean), (C 2, .object "LentCourage$Moment"), (C 3, .object "LentCourage$Ledger")]
abbrev ob (a ci : Nat) (fs : List Value) : Nat × va_E := (a, .inr (ci, fs))
abbrev ia (C : Nat → ClassId) (a n : Nat) (f : Nat → Int32) : Nat × va_E := (a, .inl (C 0, n, .inl f))
abbrev za (C : Nat → ClassId) (a n : Nat) (f : Nat → Int32) : Nat × va_E := (a, .inl (C 1, n, .inl f))
abbrev vin (i : Int32) (n : Nat) : Prop := ¬ (i < 0 ∨ n ≤ i.toNatClampNeg)
abbrev okZ (x : Int32) : Prop := x = 0 ∨ x = 1
def chk {α : Type} (c : Prop) [Decidable c] (k : Option α) : Option α := if c then k else none
theorem of_chk {α : Type} {c : Prop} [Decidable c] {k : Option α} {o : α} (h : chk c k = some o) : c ∧ k = some o := by
  unfold chk at h
  by_cases hc : c
  · rw [if_pos hc] at h; exact ⟨hc, h⟩
  · rw [if_neg hc] at h; cases h
def lt_ {α β : Type} (v : α) (k : α → Option β) : Option β := k v
theorem of_lt {α β : Type} {v y : α} {k : α → Option β} {o : β} (h : lt_ v k = some o) (e : y = v) : k y = some o := by subst e; exact h
theorem of_pos {α : Type} {c : Prop} [Decidable c] {a b : Option α} {o : α} (h : (if c then a else b) = some o) (hc : c) : a = some o := by rw [if_pos hc] at h; exact h
theorem of_neg {α : Type} {c : Prop} [Decidable c] {a b : Option α} {o : α} (h : (if c then a else b) = some o) (hc : ¬ c) : b = some o := by rw [if_neg hc] at h; exact h
theorem of_bind {α β : Type} {x : Option α} {k : α → Option β} {o : β} (h : x.bind k = some o) : ∃ a, x = some a ∧ k a = some o := by
  cases x with
  | none => cases h
  | some a => exact ⟨a, rfl, h⟩
theorem okZ_nar {x : Int32} (h : okZ x) : narrow .boolean (.int x) = .int x := by rcases h with rfl | rfl <;> decide
theorem okZ_fit {x : Int32} (h : okZ x) : fits .boolean (.int x) = true := by rcases h with rfl | rfl <;> decide
theorem okZ_0 : okZ 0 := Or.inl rfl
theorem okZ_1 : okZ 1 := Or.inr rfl
theorem okZ_ite {c : Prop} [Decidable c] {a b : Int32} (ha : okZ a) (hb : okZ b) : okZ (if c then a else b) := by
  by_cases h : c
  · rw [if_pos h]; exact ha
  · rw [if_neg h]; exact hb
theorem tOut {x : Int32} {lo hi : Int} (h : ∀ k : Int, lo ≤ k → k ≤ hi → ¬ x.toInt = k) : x.toInt < lo ∨ hi < x.toInt := by
  by_cases h1 : x.toInt < lo
  · exact Or.inl h1
  · by_cases h2 : hi < x.toInt
    · exact Or.inr h2
    · exact absurd rfl (h x.toInt (by omega) (by omega))
abbrev mPre (D : va_G) (C : Nat → ClassId) (ws : va_W) (sz : Nat) : State → Prop := fun U => U.heap.size = sz ∧ va_P D vwCl ws U.heap ∧ va_K D vwCl (TY C) U ∧ va_D (fun _ => True) ws
abbrev mB (D : va_G) (C : Nat → ClassId) (A : Nat → Prop) (ws : va_W) : Unit → State → Prop := fun _ t => va_P D vwCl ws t.heap ∧ va_K D vwCl (TY C) t ∧ va_D A ws
abbrev MI (l : Launch) (y : MethodName) (w : List Cond) (rm : Room) (D : va_G) (C : Nat → ClassId) (av : List Value) (W0 W1 : va_W) (sz : Nat) (r : Int32) : Prop :=
  Met l y w rm (va_Pc av (mPre D C W0 sz)) (va_Qi (fun (x : Int32) (_ : Unit) => x = r) (mB D C (va_A W0 sz) W1) (va_A W0 sz)) 0 0 (va_A W0 sz)
abbrev ML (l : Launch) (y : MethodName) (w : List Cond) (rm : Room) (D : va_G) (C : Nat → ClassId) (av : List Value) (W0 W1 : va_W) (sz : Nat) (r : Int64) : Prop :=
  Met l y w rm (va_Pc av (mPre D C W0 sz)) (va_Ql (fun (x : Int64) (_ : Unit) => x = r) (mB D C (va_A W0 sz) W1) (va_A W0 sz)) 0 0 (va_A W0 sz)
abbrev MV (l : Launch) (y : MethodName) (w : List Cond) (rm : Room) (D : va_G) (C : Nat → ClassId) (av : List Value) (W0 W1 : va_W) (sz : Nat) : Prop :=
  Met l y w rm (va_Pc av (mPre D C W0 sz)) (va_Qv (fun (_ : Unit) => True) (mB D C (va_A W0 sz) W1) (va_A W0 sz)) 0 0 (va_A W0 sz)
section ENTRY
variable {l : Launch} {y : MethodName} {w w' : List Cond} {rm : Room} {D : va_G} {C : Nat → ClassId} {av : List Value} {W0 W1 : va_W} {sz : Nat} {cc : ByteArray} {maxL : Nat} {ret : Option FieldType}
theorem en_G {Qc : (Nat → Prop) → Array Value → State → Outcome → State → Prop} (hy : plainName y.cls = true) (hw : w = Cond.code y cc maxL ret :: w') (hn : (lg_sl av).length ≤ maxL)
    (body : ∀ (p : Program) (e : Env) (s : State) (m : MethodId) (below : List Frame) (meth : Method) (c : Code) (A : Nat → Prop) (ls : Array Slot), p.tables.exec = Jvm.exec → c.code = cc → meth.sig.returnType = ret → meth.locks = false → c.maxLocals = maxL → (∀ q ∈ w, q.before av.toArray s = true) → s.vm.findClass y.cls = some m.cls → va_K D vwCl (TY C) s → va_P D vwCl W0 s.heap → va_D A W0 → va_S A s.heap s.heap [] → (∀ q, s.heap.size ≤ q → A q) → lv_has ls maxL (lv_args 0 av) →
      W p l e rm s m av.toArray below meth c s.heap [] 0 0 (MQ below (Qc A) av.toArray s 0 0 A) (F0 m 0 ls [])) : Met l y w rm (va_Pc av (mPre D C W0 sz)) (Qc (va_A W0 sz)) 0 0 (va_A W0 sz) := by
  refine Met.ofW hy hw ?_
  intro p e s m args below meth c s₁ B hml hv
  obtain ⟨rfl, hsz, hP, hK, hD0⟩ := hv
  subst hsz
  have key := body p e s m below meth c (va_A W0 s.heap.size) _ B.exec B.bytes B.returns B.notSynchronized hml (atoms_spec (ws := w) B.pre) (findClass_of_methodNamed B.named) hK hP hD0.self va_S.rf (fun q h => Or.inr h) (lv_entry av hn)
  rw [lg_entry_eq]
  exact key
end ENTRY
section ROWS
variable {p : Program} {l : Launch} {e : Env} {R : Room} {s : State} {m : MethodId} {args : Array Value} {below : List Frame} {meth : Method} {c : Code} {H H0 : Heap} {locs : List Loc} {cells slots : Nat} {Q : State → Prop} {cc : ByteArray} {pc : Nat} {ls : Array Slot} {rest st0 : List Value} {A : Nat → Prop} {D : va_G} {C : Nat → ClassId} {W0 W1 : va_W}
theorem ret_I {r : Int32} (hx : p.tables.exec = Jvm.exec) (hb : c.code = cc) (hr : meth.sig.returnType = some .int) (hlocks : meth.locks = false) (hK : va_K D vwCl (TY C) s) (hP : va_P D vwCl W1 H) (hD : va_D A W1) (hS : va_S A s.heap H locs) (hdg : decode cc pc = .ok (.ireturn, 1)) :
    W p l e R s m args below meth c H locs cells slots (MQ below (va_Qi (fun (x : Int32) (_ : Unit) => x = r) (mB D C A W1) A) args s cells slots A) (F0 m pc ls [.int r]) :=
  W.iret hx hb hr (fun t ht hW => ⟨⟨r, (), rfl, rfl, by rw [ht]; exact hP, va_K.moved hW.alike hK, hD⟩, hS.F ht⟩) hS.2.2 hdg hlocks
theorem ret_Z {r : Int32} (hx : p.tables.exec = Jvm.exec) (hb : c.code = cc) (hr : meth.sig.returnType = some .boolean) (hlocks : meth.locks = false) (hz : okZ r) (hK : va_K D vwCl (TY C) s) (hP : va_P D vwCl W1 H) (hD : va_D A W1) (hS : va_S A s.heap H locs) (hdg : decode cc pc = .ok (.ireturn, 1)) :
    W p l e R s m args below meth c H locs cells slots (MQ below (va_Qi (fun (x : Int32) (_ : Unit) => x = r) (mB D C A W1) A) args s cells slots A) (F0 m pc ls [.int r]) :=
  W.zret hx hb hr (okZ_nar hz) (fun t ht hW => ⟨⟨r, (), rfl, rfl, by rw [ht]; exact hP, va_K.moved hW.alike hK, hD⟩, hS.F ht⟩) hS.2.2 hdg hlocks
theorem ret_L {r : Int64} (hx : p.tables.exec = Jvm.exec) (hb : c.code = cc) (hr : meth.sig.returnType = some .long) (hlocks : meth.locks = false) (hK : va_K D vwCl (TY C) s) (hP : va_P D vwCl W1 H) (hD : va_D A W1) (hS : va_S A s.heap H locs) (hdg : decode cc pc = .ok (.lreturn, 1)) :
    W p l e R s m args below meth c H locs cells slots (MQ below (va_Ql (fun (x : Int64) (_ : Unit) => x = r) (mB D C A W1) A) args s cells slots A) (F0 m pc ls [.long r]) :=
  W.lret hx hb hr (fun t ht hW => ⟨⟨r, (), rfl, rfl, by rw [ht]; exact hP, va_K.moved hW.alike hK, hD⟩, hS.F ht⟩) hS.2.2 hdg hlocks
theorem ret_V (hx : p.tables.exec = Jvm.exec) (hb : c.code = cc) (hr : meth.sig.returnType = none) (hlocks : meth.locks = false) (hK : va_K D vwCl (TY C) s) (hP : va_P D vwCl W1 H) (hD : va_D A W1) (hS : va_S A s.heap H locs) (hdg : decode cc pc = .ok (.return_, 1)) :
    W p l e R s m args below meth c H locs cells slots (MQ below (va_Qv (fun (_ : Unit) => True) (mB D C A W1) A) args s cells slots A) (F0 m pc ls []) :=
  W.vret hx hb hr (fun t ht hW => ⟨⟨(), rfl, trivial, by rw [ht]; exact hP, va_K.moved hW.alike hK, hD⟩, hS.F ht⟩) hS.2.2 hdg hlocks
/-- a joint: prove what comes behind it once, then every way that leads to it -/
theorem jn {g : JFrame} (Inv : Heap → List Loc → JFrame → Prop) (k : ∀ H' L' g', Inv H' L' g' → W p l e R s m args below meth c H' L' cells slots Q g') (r : (∀ H' L' g', Inv H' L' g' → W p l e R s m args below meth c H' L' cells slots Q g') → W p l e R s m args below meth c H locs cells slots Q g) : W p l e R s m args below meth c H locs cells slots Q g := r k
theorem jp {g g2 : JFrame} (k : W p l e R s m args below meth c H locs cells slots Q g2) (r : W p l e R s m args below meth c H locs cells slots Q g2 → W p l e R s m args below meth c H locs cells slots Q g) : W p l e R s m args below meth c H locs cells slots Q g := r k
variable {nL : Nat} {Ts : List Cond} {own Cn : String} {y : MethodName} {bytes : ByteArray} {maxL index n ci : Nat} {ret : Option FieldType} {ws ws' : List Cond} {rm : Room} {b : Nat} {As : List Value} {W2 wc w1 wr : va_W} {fs : List Value} {q : vw_C}
theorem cut_in (hK : va_K D vwCl (TY C) s) (hP : va_P D vwCl W0 H) (hD : va_D A W0) (isC : List Nat) (hC : isC.map (fun i => W0[i]?) = wc.map some) (hnC : va_nd isC = true) : va_P D vwCl wc H ∧ va_D (fun _ => True) wc := by
  have h1 : isC.filterMap (fun i => W0[i]?) = wc := by
    have := congrArg (fun z => z.filterMap id) hC
    simpa [List.filterMap_map, Function.comp_def] using this
  exact ⟨hP.sub isC h1, (hD.sub isC hnC hC).weaken (fun _ _ _ _ => trivial)⟩
theorem cut_out {H1 : Heap} (hP : va_P D vwCl W0 H) (hD : va_D A W0) (isC isR isB : List Nat) (hC : isC.map (fun i => W0[i]?) = wc.map some) (hR : isR.map (fun i => W0[i]?) = wr.map some) (hn : va_nd isR = true) (hdis : ∀ i ∈ isR, i ∉ isC)
    (hk : ∀ q : Nat, q < H.size → ¬ va_A wc H.size q → H1[q]? = H[q]?) (hF : ∀ q, va_A wc H.size q → A q) (hP1 : va_P D vwCl w1 H1) (hD1 : va_D (va_A wc H.size) w1) (hB : isB.map (fun i => (wr ++ w1)[i]?) = W2.map some) (hnB : va_nd isB = true) : va_P D vwCl W2 H1 ∧ va_D A W2 := by
  obtain ⟨h1, h2⟩ := va_join hP hD isC isR hC hR hn hdis hk hF hP1 hD1
  have h3 : isB.filterMap (fun i => (wr ++ w1)[i]?) = W2 := by
    have := congrArg (fun z => z.filterMap id) hB
    simpa [List.filterMap_map, Function.comp_def] using this
  exact ⟨h1.sub isB h3, h2.sub isB hnB hB⟩
theorem blind {av : List Value} {sz : Nat} : FrameBlind (va_Pc av (mPre D C W0 sz)) := fun a U g mk q => by
  obtain ⟨q0, q1, qP, qK, qD⟩ := q
  exact ⟨q0, q1, qP, va_K.moved (u := U) (U := U.calling g mk a) (Vm.Alike.refl U.vm) qK, qD⟩
theorem cV_run {Qc : Array Value → State → Outcome → State → Prop} {free : Addr → Prop} (S : CallFix p m c cc nL s args Ts own) (hM : Met l y ws rm (va_Pc (.ref b :: As) (mPre D C wc H.size)) Qc 0 0 free) (hg : GoodIn Ts (wsV own index Cn y ws)) (hw : ws = Cond.code y bytes maxL ret :: ws') (hrc : rm.cells = 0 ∧ rm.slots = 0)
    (hd : y.cls = Cn ∧ y.cls ≠ "java/lang/invoke/MethodHandle" ∧ y.cls ≠ "java/lang/invoke/VarHandle" ∧ (parseMethodDescriptor y.desc).map (fun d => d.parameters.length) = some n) (hR : rm.frames + 1 ≤ R.frames ∧ 8 + (maxL + 11) + rm.locals ≤ R.locals) (hn : As.length = n)
    (hK : va_K D vwCl (TY C) s) (hPc : va_P D vwCl wc H ∧ va_D (fun _ => True) wc) (hq : vwCl[ci]? = some q) (hqC : q.1 = Cn) (he : wc[0]? = some (b, .inr (ci, fs))) (hsize : ls.size = nL) (hst : st0 = As.reverse ++ .ref b :: rest) (hcat : (rest.map fun v => v.category).sum ≤ 8) (hdg : decode cc pc = .ok (.invokevirtual index, 3)) (hf : cells ≤ R.cells ∧ slots ≤ R.slots) :
    va_Run p l e R s m args below meth c H locs cells slots 0 0 (F0 m pc ls st0) rest (Qc (Value.ref b :: As).toArray) free :=
  va_runV S hM (cwV n S.2.2.2.2 hg hw hrc.1 hrc.2 hd hR) ⟨blind, hqC ▸ va_recv hK hPc.1 hq he, fun U hU hW => ⟨rfl, by rw [hU], by rw [hU]; exact hPc.1, va_K.moved hW.alike hK, hPc.2⟩⟩ rfl hn hsize hst (lv_room hcat) hdg hf
theorem cS_run {Qc : Array Value → State → Outcome → State → Prop} {free : Addr → Prop} (S : CallFix p m c cc nL s args Ts own) (hM : Met l y ws rm (va_Pc As (mPre D C wc H.size)) Qc 0 0 free) (hg : GoodIn Ts (va_wsS own index y ws)) (hw : ws = Cond.code y bytes maxL ret :: ws') (hrc : rm.cells = 0 ∧ rm.slots = 0)
    (hd : y.cls ≠ "java/lang/invoke/MethodHandle" ∧ y.cls ≠ "java/lang/invoke/VarHandle" ∧ (parseMethodDescriptor y.desc).map (fun d => d.parameters.length) = some n) (hR : rm.frames + 1 ≤ R.frames ∧ 8 + (maxL + 11) + rm.locals ≤ R.locals) (hn : As.length = n)
    (hK : va_K D vwCl (TY C) s) (hPc : va_P D vwCl wc H ∧ va_D (fun _ => True) wc) (hsize : ls.size = nL) (hst : st0 = As.reverse ++ rest) (hcat : (rest.map fun v => v.category).sum ≤ 8) (hdg : decode cc pc = .ok (.invokestatic index, 3)) (hf : cells ≤ R.cells ∧ slots ≤ R.slots) :
    va_Run p l e R s m args below meth c H locs cells slots 0 0 (F0 m pc ls st0) rest (Qc As.toArray) free :=
  va_runS S hM (va_cwS n S.2.2.2.2 hg hw hrc.1 hrc.2 hd hR) ⟨blind, fun U hU hW => ⟨rfl, by rw [hU], by rw [hU]; exact hPc.1, va_K.moved hW.alike hK, hPc.2⟩⟩ rfl hn hsize hst (lv_room hcat) hdg hf
theorem c_I {r : Int32} {a : Array Value} (hrun : va_Run p l e R s m args below meth c H locs cells slots 0 0 (F0 m pc ls st0) rest (va_Qi (fun (x : Int32) (_ : Unit) => x = r) (mB D C (va_A wc H.size) w1) (va_A wc H.size) a) (va_A wc H.size))
    (hP : va_P D vwCl W0 H) (hD : va_D A W0) (hS : va_S A H0 H locs) (hA : ∀ q, H0.size ≤ q → A q) (isC isR isB : List Nat) (hC : isC.map (fun i => W0[i]?) = wc.map some) (hRr : isR.map (fun i => W0[i]?) = wr.map some) (hn : va_nd isR = true) (hdis : ∀ i ∈ isR, i ∉ isC) (hB : isB.map (fun i => (wr ++ w1)[i]?) = W2.map some) (hnB : va_nd isB = true)
    (k : ∀ (H1 : Heap) (locs1 : List Loc), va_P D vwCl W2 H1 → va_D A W2 → va_S A H0 H1 locs1 → W p l e R s m args below meth c H1 locs1 cells slots Q (F0 m (pc + 3) ls (.int r :: rest))) : W p l e R s m args below meth c H locs cells slots Q (F0 m pc ls st0) := by
  have hFc := va_free (wc := wc) hD hS hA isC hC
  refine va_calli hrun hS (fun q _ h => hFc q h) hFc (fun r' u t H1 locs1 ht hvm hw hB1 hz1 hk1 hS1 => ?_)
  subst hw
  obtain ⟨hP1, hK1, hD1⟩ := hB1
  rw [ht] at hP1
  obtain ⟨h1, h2⟩ := cut_out hP hD isC isR isB hC hRr hn hdis hk1 hFc hP1 hD1 hB hnB
  exact k H1 locs1 h1 h2 hS1
theorem c_L {r : Int64} {a : Array Value} (hrun : va_Run p l e R s m args below meth c H locs cells slots 0 0 (F0 m pc ls st0) rest (va_Ql (fun (x : Int64) (_ : Unit) => x = r) (mB D C (va_A wc H.size) w1) (va_A wc H.size) a) (va_A wc H.size))
    (hP : va_P D vwCl W0 H) (hD : va_D A W0) (hS : va_S A H0 H locs) (hA : ∀ q, H0.size ≤ q → A q) (isC isR isB : List Nat) (hC : isC.map (fun i => W0[i]?) = wc.map some) (hRr : isR.map (fun i => W0[i]?) = wr.map some) (hn : va_nd isR = true) (hdis : ∀ i ∈ isR, i ∉ isC) (hB : isB.map (fun i => (wr ++ w1)[i]?) = W2.map some) (hnB : va_nd isB = true)
    (k : ∀ (H1 : Heap) (locs1 : List Loc), va_P D vwCl W2 H1 → va_D A W2 → va_S A H0 H1 locs1 → W p l e R s m args below meth c H1 locs1 cells slots Q (F0 m (pc + 3) ls (.long r :: rest))) : W p l e R s m args below meth c H locs cells slots Q (F0 m pc ls st0) := by
  have hFc := va_free (wc := wc) hD hS hA isC hC
  refine va_calll hrun hS (fun q _ h => hFc q h) hFc (fun r' u t H1 locs1 ht hvm hw hB1 hz1 hk1 hS1 => ?_)
  subst hw
  obtain ⟨hP1, hK1, hD1⟩ := hB1
  rw [ht] at hP1
  obtain ⟨h1, h2⟩ := cut_out hP hD isC isR isB hC hRr hn hdis hk1 hFc hP1 hD1 hB hnB
  exact k H1 locs1 h1 h2 hS1
theorem c_V {a : Array Value} (hrun : va_Run p l e R s m args below meth c H locs cells slots 0 0 (F0 m pc ls st0) rest (va_Qv (fun (_ : Unit) => True) (mB D C (va_A wc H.size) w1) (va_A wc H.size) a) (va_A wc H.size))
    (hP : va_P D vwCl W0 H) (hD : va_D A W0) (hS : va_S A H0 H locs) (hA : ∀ q, H0.size ≤ q → A q) (isC isR isB : List Nat) (hC : isC.map (fun i => W0[i]?) = wc.map some) (hRr : isR.map (fun i => W0[i]?) = wr.map some) (hn : va_nd isR = true) (hdis : ∀ i ∈ isR, i ∉ isC) (hB : isB.map (fun i => (wr ++ w1)[i]?) = W2.map some) (hnB : va_nd isB = true)
    (k : ∀ (H1 : Heap) (locs1 : List Loc), va_P D vwCl W2 H1 → va_D A W2 → va_S A H0 H1 locs1 → W p l e R s m args below meth c H1 locs1 cells slots Q (F0 m (pc + 3) ls rest)) : W p l e R s m args below meth c H locs cells slots Q (F0 m pc ls st0) := by
  have hFc := va_free (wc := wc) hD hS hA isC hC
  refine va_callv hrun hS (fun q _ h => hFc q h) hFc (fun u t H1 locs1 ht hvm hw hB1 hz1 hk1 hS1 => ?_)
  obtain ⟨hP1, hK1, hD1⟩ := hB1
  rw [ht] at hP1
  obtain ⟨h1, h2⟩ := cut_out hP hD isC isR isB hC hRr hn hdis hk1 hFc hP1 hD1 hB hnB
  exact k H1 locs1 h1 h2 hS1
end ROWS
def FU : Nat := 1000000
end
section
/-! last -/
theorem zz_last : True := trivial
end
