section
-- ===== PART A: goes FIRST, ahead of the names: the tables' words, and 'selects' of the private methods out of them =====
/-- a private method of a class that the tables say can be made, by its rows of tables_1 -/
def lw_okq (q : MethodName × Nat) : Prop := (q.1.cls ≠ "java/lang/invoke/MethodHandle" ∧ q.1.cls ≠ "java/lang/invoke/VarHandle") ∧ Cond.instantiable q.1.cls q.2 ∈ tables_1 ∧ Cond.privateMethod q.1 ∈ tables_1 ∧ Cond.instanceMethod q.1 ∈ tables_1
theorem lw_p0 : lw_okq (⟨"HuntedEye$Reader", "append", "(I)V"⟩, 8) := ⟨⟨by decide +kernel, by decide +kernel⟩, List.mem_of_getElem? (i := 34) (by decide +kernel), List.mem_of_getElem? (i := 421) (by decide +kernel), List.mem_of_getElem? (i := 422) (by decide +kernel)⟩
theorem lw_p1 : lw_okq (⟨"HuntedEye$Reader", "readClause", "()Z"⟩, 8) := ⟨⟨by decide +kernel, by decide +kernel⟩, List.mem_of_getElem? (i := 34) (by decide +kernel), List.mem_of_getElem? (i := 450) (by decide +kernel), List.mem_of_getElem? (i := 451) (by decide +kernel)⟩
theorem lw_p2 : lw_okq (⟨"HuntedEye$Reader", "skipBlanks", "()V"⟩, 8) := ⟨⟨by decide +kernel, by decide +kernel⟩, List.mem_of_getElem? (i := 34) (by decide +kernel), List.mem_of_getElem? (i := 454) (by decide +kernel), List.mem_of_getElem? (i := 455) (by decide +kernel)⟩
theorem lw_p3 : lw_okq (⟨"HuntedEye$Reader", "byteAt", "(I)I"⟩, 8) := ⟨⟨by decide +kernel, by decide +kernel⟩, List.mem_of_getElem? (i := 34) (by decide +kernel), List.mem_of_getElem? (i := 458) (by decide +kernel), List.mem_of_getElem? (i := 459) (by decide +kernel)⟩
theorem lw_p4 : lw_okq (⟨"HuntedEye$Reader", "clauseHere", "()I"⟩, 8) := ⟨⟨by decide +kernel, by decide +kernel⟩, List.mem_of_getElem? (i := 34) (by decide +kernel), List.mem_of_getElem? (i := 462) (by decide +kernel), List.mem_of_getElem? (i := 463) (by decide +kernel)⟩
theorem lw_p5 : lw_okq (⟨"HuntedEye$Reader", "endOfLetters", "()I"⟩, 8) := ⟨⟨by decide +kernel, by decide +kernel⟩, List.mem_of_getElem? (i := 34) (by decide +kernel), List.mem_of_getElem? (i := 466) (by decide +kernel), List.mem_of_getElem? (i := 467) (by decide +kernel)⟩
theorem lw_p6 : lw_okq (⟨"HuntedEye$Reader", "stands", "(Ljava/lang/String;I)Z"⟩, 8) := ⟨⟨by decide +kernel, by decide +kernel⟩, List.mem_of_getElem? (i := 34) (by decide +kernel), List.mem_of_getElem? (i := 471) (by decide +kernel), List.mem_of_getElem? (i := 472) (by decide +kernel)⟩
theorem lw_p7 : lw_okq (⟨"HuntedEye$Reader", "refuseAt", "(I)Z"⟩, 8) := ⟨⟨by decide +kernel, by decide +kernel⟩, List.mem_of_getElem? (i := 34) (by decide +kernel), List.mem_of_getElem? (i := 523) (by decide +kernel), List.mem_of_getElem? (i := 524) (by decide +kernel)⟩
theorem lw_p8 : lw_okq (⟨"HuntedEye$Reader", "readNumber", "(II)Z"⟩, 8) := ⟨⟨by decide +kernel, by decide +kernel⟩, List.mem_of_getElem? (i := 34) (by decide +kernel), List.mem_of_getElem? (i := 527) (by decide +kernel), List.mem_of_getElem? (i := 528) (by decide +kernel)⟩
theorem lw_p9 : lw_okq (⟨"HuntedEye$Reader", "passByte", "(I)Z"⟩, 8) := ⟨⟨by decide +kernel, by decide +kernel⟩, List.mem_of_getElem? (i := 34) (by decide +kernel), List.mem_of_getElem? (i := 543) (by decide +kernel), List.mem_of_getElem? (i := 544) (by decide +kernel)⟩
theorem lw_p10 : lw_okq (⟨"HuntedEye$Reader", "passMark", "(Z)Z"⟩, 8) := ⟨⟨by decide +kernel, by decide +kernel⟩, List.mem_of_getElem? (i := 34) (by decide +kernel), List.mem_of_getElem? (i := 547) (by decide +kernel), List.mem_of_getElem? (i := 548) (by decide +kernel)⟩
theorem lw_p11 : lw_okq (⟨"HuntedEye$Reader", "readStep", "()Z"⟩, 8) := ⟨⟨by decide +kernel, by decide +kernel⟩, List.mem_of_getElem? (i := 34) (by decide +kernel), List.mem_of_getElem? (i := 559) (by decide +kernel), List.mem_of_getElem? (i := 560) (by decide +kernel)⟩
theorem lw_p12 : lw_okq (⟨"HuntedEye$Reader", "stepHere", "()I"⟩, 8) := ⟨⟨by decide +kernel, by decide +kernel⟩, List.mem_of_getElem? (i := 34) (by decide +kernel), List.mem_of_getElem? (i := 563) (by decide +kernel), List.mem_of_getElem? (i := 564) (by decide +kernel)⟩
theorem lw_p13 : lw_okq (⟨"HuntedEye", "takeLine", "()I"⟩, 18) := ⟨⟨by decide +kernel, by decide +kernel⟩, List.mem_of_getElem? (i := 26) (by decide +kernel), List.mem_of_getElem? (i := 595) (by decide +kernel), List.mem_of_getElem? (i := 596) (by decide +kernel)⟩
theorem lw_p14 : lw_okq (⟨"HuntedEye", "takeScript", "()I"⟩, 18) := ⟨⟨by decide +kernel, by decide +kernel⟩, List.mem_of_getElem? (i := 26) (by decide +kernel), List.mem_of_getElem? (i := 625) (by decide +kernel), List.mem_of_getElem? (i := 626) (by decide +kernel)⟩
theorem lw_p15 : lw_okq (⟨"HuntedEye", "logLength", "()I"⟩, 18) := ⟨⟨by decide +kernel, by decide +kernel⟩, List.mem_of_getElem? (i := 26) (by decide +kernel), List.mem_of_getElem? (i := 684) (by decide +kernel), List.mem_of_getElem? (i := 685) (by decide +kernel)⟩
def lw_privs_1 : List (MethodName × Nat) := [(⟨"HuntedEye$Reader", "append", "(I)V"⟩, 8), (⟨"HuntedEye$Reader", "readClause", "()Z"⟩, 8), (⟨"HuntedEye$Reader", "skipBlanks", "()V"⟩, 8), (⟨"HuntedEye$Reader", "byteAt", "(I)I"⟩, 8), (⟨"HuntedEye$Reader", "clauseHere", "()I"⟩, 8), (⟨"HuntedEye$Reader", "endOfLetters", "()I"⟩, 8), (⟨"HuntedEye$Reader", "stands", "(Ljava/lang/String;I)Z"⟩, 8), (⟨"HuntedEye$Reader", "refuseAt", "(I)Z"⟩, 8), (⟨"HuntedEye$Reader", "readNumber", "(II)Z"⟩, 8), (⟨"HuntedEye$Reader", "passByte", "(I)Z"⟩, 8), (⟨"HuntedEye$Reader", "passMark", "(Z)Z"⟩, 8), (⟨"HuntedEye$Reader", "readStep", "()Z"⟩, 8), (⟨"HuntedEye$Reader", "stepHere", "()I"⟩, 8), (⟨"HuntedEye", "takeLine", "()I"⟩, 18), (⟨"HuntedEye", "takeScript", "()I"⟩, 18), (⟨"HuntedEye", "logLength", "()I"⟩, 18)]
theorem lw_r1 : ∀ q ∈ lw_privs_1, lw_okq q := List.forall_mem_cons.mpr ⟨lw_p0, List.forall_mem_cons.mpr ⟨lw_p1, List.forall_mem_cons.mpr ⟨lw_p2, List.forall_mem_cons.mpr ⟨lw_p3, List.forall_mem_cons.mpr ⟨lw_p4, List.forall_mem_cons.mpr ⟨lw_p5, List.forall_mem_cons.mpr ⟨lw_p6, List.forall_mem_cons.mpr ⟨lw_p7, List.forall_mem_cons.mpr ⟨lw_p8, List.forall_mem_cons.mpr ⟨lw_p9, List.forall_mem_cons.mpr ⟨lw_p10, List.forall_mem_cons.mpr ⟨lw_p11, List.forall_mem_cons.mpr ⟨lw_p12, List.forall_mem_cons.mpr ⟨lw_p13, List.forall_mem_cons.mpr ⟨lw_p14, List.forall_mem_cons.mpr ⟨lw_p15, fun _ h => absurd h List.not_mem_nil⟩⟩⟩⟩⟩⟩⟩⟩⟩⟩⟩⟩⟩⟩⟩⟩
theorem lw_p16 : lw_okq (⟨"HuntedEye$Log", "placeOf", "(I)I"⟩, 3) := ⟨⟨by decide +kernel, by decide +kernel⟩, List.mem_of_getElem? (i := 271) (by decide +kernel), List.mem_of_getElem? (i := 693) (by decide +kernel), List.mem_of_getElem? (i := 694) (by decide +kernel)⟩
theorem lw_p17 : lw_okq (⟨"HuntedEye", "tapCount", "()I"⟩, 18) := ⟨⟨by decide +kernel, by decide +kernel⟩, List.mem_of_getElem? (i := 26) (by decide +kernel), List.mem_of_getElem? (i := 705) (by decide +kernel), List.mem_of_getElem? (i := 706) (by decide +kernel)⟩
theorem lw_p18 : lw_okq (⟨"HuntedEye", "isRefused", "(III)Z"⟩, 18) := ⟨⟨by decide +kernel, by decide +kernel⟩, List.mem_of_getElem? (i := 26) (by decide +kernel), List.mem_of_getElem? (i := 717) (by decide +kernel), List.mem_of_getElem? (i := 718) (by decide +kernel)⟩
theorem lw_p19 : lw_okq (⟨"HuntedEye", "refusal", "(LHuntedEye$State;III)I"⟩, 18) := ⟨⟨by decide +kernel, by decide +kernel⟩, List.mem_of_getElem? (i := 26) (by decide +kernel), List.mem_of_getElem? (i := 721) (by decide +kernel), List.mem_of_getElem? (i := 722) (by decide +kernel)⟩
theorem lw_p20 : lw_okq (⟨"HuntedEye", "isTap", "(I)Z"⟩, 18) := ⟨⟨by decide +kernel, by decide +kernel⟩, List.mem_of_getElem? (i := 26) (by decide +kernel), List.mem_of_getElem? (i := 728) (by decide +kernel), List.mem_of_getElem? (i := 729) (by decide +kernel)⟩
theorem lw_p21 : lw_okq (⟨"HuntedEye$Eye", "height", "(LHuntedEye$Line;)I"⟩, 5) := ⟨⟨by decide +kernel, by decide +kernel⟩, List.mem_of_getElem? (i := 290) (by decide +kernel), List.mem_of_getElem? (i := 761) (by decide +kernel), List.mem_of_getElem? (i := 762) (by decide +kernel)⟩
theorem lw_p22 : lw_okq (⟨"HuntedEye$Eye", "higherNeighbour", "(I)I"⟩, 5) := ⟨⟨by decide +kernel, by decide +kernel⟩, List.mem_of_getElem? (i := 290) (by decide +kernel), List.mem_of_getElem? (i := 782) (by decide +kernel), List.mem_of_getElem? (i := 783) (by decide +kernel)⟩
theorem lw_p23 : lw_okq (⟨"HuntedEye", "act", "(III)I"⟩, 18) := ⟨⟨by decide +kernel, by decide +kernel⟩, List.mem_of_getElem? (i := 26) (by decide +kernel), List.mem_of_getElem? (i := 787) (by decide +kernel), List.mem_of_getElem? (i := 788) (by decide +kernel)⟩
theorem lw_p24 : lw_okq (⟨"HuntedEye", "remember", "()V"⟩, 18) := ⟨⟨by decide +kernel, by decide +kernel⟩, List.mem_of_getElem? (i := 26) (by decide +kernel), List.mem_of_getElem? (i := 791) (by decide +kernel), List.mem_of_getElem? (i := 792) (by decide +kernel)⟩
theorem lw_p25 : lw_okq (⟨"HuntedEye", "sendLogged", "(I)I"⟩, 18) := ⟨⟨by decide +kernel, by decide +kernel⟩, List.mem_of_getElem? (i := 26) (by decide +kernel), List.mem_of_getElem? (i := 805) (by decide +kernel), List.mem_of_getElem? (i := 806) (by decide +kernel)⟩
theorem lw_p26 : lw_okq (⟨"HuntedEye$State", "nextBit", "(LHuntedEye$Line;)I"⟩, 18) := ⟨⟨by decide +kernel, by decide +kernel⟩, List.mem_of_getElem? (i := 114) (by decide +kernel), List.mem_of_getElem? (i := 817) (by decide +kernel), List.mem_of_getElem? (i := 818) (by decide +kernel)⟩
theorem lw_p27 : lw_okq (⟨"HuntedEye$State", "drawnNoise", "()I"⟩, 18) := ⟨⟨by decide +kernel, by decide +kernel⟩, List.mem_of_getElem? (i := 114) (by decide +kernel), List.mem_of_getElem? (i := 826) (by decide +kernel), List.mem_of_getElem? (i := 827) (by decide +kernel)⟩
theorem lw_p28 : lw_okq (⟨"HuntedEye$State", "sampleWith", "(LHuntedEye$Line;I)I"⟩, 18) := ⟨⟨by decide +kernel, by decide +kernel⟩, List.mem_of_getElem? (i := 114) (by decide +kernel), List.mem_of_getElem? (i := 842) (by decide +kernel), List.mem_of_getElem? (i := 843) (by decide +kernel)⟩
theorem lw_p29 : lw_okq (⟨"HuntedEye$State", "foreSum", "(LHuntedEye$Line;I)I"⟩, 18) := ⟨⟨by decide +kernel, by decide +kernel⟩, List.mem_of_getElem? (i := 114) (by decide +kernel), List.mem_of_getElem? (i := 847) (by decide +kernel), List.mem_of_getElem? (i := 848) (by decide +kernel)⟩
theorem lw_p30 : lw_okq (⟨"HuntedEye$State", "backSum", "(LHuntedEye$Line;)I"⟩, 18) := ⟨⟨by decide +kernel, by decide +kernel⟩, List.mem_of_getElem? (i := 114) (by decide +kernel), List.mem_of_getElem? (i := 852) (by decide +kernel), List.mem_of_getElem? (i := 853) (by decide +kernel)⟩
theorem lw_p31 : lw_okq (⟨"HuntedEye$State", "truthNow", "(LHuntedEye$Line;)I"⟩, 18) := ⟨⟨by decide +kernel, by decide +kernel⟩, List.mem_of_getElem? (i := 114) (by decide +kernel), List.mem_of_getElem? (i := 860) (by decide +kernel), List.mem_of_getElem? (i := 861) (by decide +kernel)⟩
def lw_privs_2 : List (MethodName × Nat) := [(⟨"HuntedEye$Log", "placeOf", "(I)I"⟩, 3), (⟨"HuntedEye", "tapCount", "()I"⟩, 18), (⟨"HuntedEye", "isRefused", "(III)Z"⟩, 18), (⟨"HuntedEye", "refusal", "(LHuntedEye$State;III)I"⟩, 18), (⟨"HuntedEye", "isTap", "(I)Z"⟩, 18), (⟨"HuntedEye$Eye", "height", "(LHuntedEye$Line;)I"⟩, 5), (⟨"HuntedEye$Eye", "higherNeighbour", "(I)I"⟩, 5), (⟨"HuntedEye", "act", "(III)I"⟩, 18), (⟨"HuntedEye", "remember", "()V"⟩, 18), (⟨"HuntedEye", "sendLogged", "(I)I"⟩, 18), (⟨"HuntedEye$State", "nextBit", "(LHuntedEye$Line;)I"⟩, 18), (⟨"HuntedEye$State", "drawnNoise", "()I"⟩, 18), (⟨"HuntedEye$State", "sampleWith", "(LHuntedEye$Line;I)I"⟩, 18), (⟨"HuntedEye$State", "foreSum", "(LHuntedEye$Line;I)I"⟩, 18), (⟨"HuntedEye$State", "backSum", "(LHuntedEye$Line;)I"⟩, 18), (⟨"HuntedEye$State", "truthNow", "(LHuntedEye$Line;)I"⟩, 18)]
theorem lw_r2 : ∀ q ∈ lw_privs_2, lw_okq q := List.forall_mem_cons.mpr ⟨lw_p16, List.forall_mem_cons.mpr ⟨lw_p17, List.forall_mem_cons.mpr ⟨lw_p18, List.forall_mem_cons.mpr ⟨lw_p19, List.forall_mem_cons.mpr ⟨lw_p20, List.forall_mem_cons.mpr ⟨lw_p21, List.forall_mem_cons.mpr ⟨lw_p22, List.forall_mem_cons.mpr ⟨lw_p23, List.forall_mem_cons.mpr ⟨lw_p24, List.forall_mem_cons.mpr ⟨lw_p25, List.forall_mem_cons.mpr ⟨lw_p26, List.forall_mem_cons.mpr ⟨lw_p27, List.forall_mem_cons.mpr ⟨lw_p28, List.forall_mem_cons.mpr ⟨lw_p29, List.forall_mem_cons.mpr ⟨lw_p30, List.forall_mem_cons.mpr ⟨lw_p31, fun _ h => absurd h List.not_mem_nil⟩⟩⟩⟩⟩⟩⟩⟩⟩⟩⟩⟩⟩⟩⟩⟩
theorem lw_p32 : lw_okq (⟨"HuntedEye$State", "keepForUnrolling", "(LHuntedEye$Line;I)V"⟩, 18) := ⟨⟨by decide +kernel, by decide +kernel⟩, List.mem_of_getElem? (i := 114) (by decide +kernel), List.mem_of_getElem? (i := 868) (by decide +kernel), List.mem_of_getElem? (i := 869) (by decide +kernel)⟩
theorem lw_p33 : lw_okq (⟨"HuntedEye$State", "learn", "(LHuntedEye$Line;II)V"⟩, 18) := ⟨⟨by decide +kernel, by decide +kernel⟩, List.mem_of_getElem? (i := 114) (by decide +kernel), List.mem_of_getElem? (i := 880) (by decide +kernel), List.mem_of_getElem? (i := 881) (by decide +kernel)⟩
theorem lw_p34 : lw_okq (⟨"HuntedEye$State", "vote", "(II)V"⟩, 18) := ⟨⟨by decide +kernel, by decide +kernel⟩, List.mem_of_getElem? (i := 114) (by decide +kernel), List.mem_of_getElem? (i := 884) (by decide +kernel), List.mem_of_getElem? (i := 885) (by decide +kernel)⟩
theorem lw_p35 : lw_okq (⟨"HuntedEye$State", "voteLevel", "(I)V"⟩, 18) := ⟨⟨by decide +kernel, by decide +kernel⟩, List.mem_of_getElem? (i := 114) (by decide +kernel), List.mem_of_getElem? (i := 891) (by decide +kernel), List.mem_of_getElem? (i := 892) (by decide +kernel)⟩
theorem lw_p36 : lw_okq (⟨"HuntedEye$State", "votePhase", "(II)V"⟩, 18) := ⟨⟨by decide +kernel, by decide +kernel⟩, List.mem_of_getElem? (i := 114) (by decide +kernel), List.mem_of_getElem? (i := 895) (by decide +kernel), List.mem_of_getElem? (i := 896) (by decide +kernel)⟩
theorem lw_p37 : lw_okq (⟨"HuntedEye$Tally", "closeRun", "()V"⟩, 15) := ⟨⟨by decide +kernel, by decide +kernel⟩, List.mem_of_getElem? (i := 120) (by decide +kernel), List.mem_of_getElem? (i := 904) (by decide +kernel), List.mem_of_getElem? (i := 905) (by decide +kernel)⟩
theorem lw_p38 : lw_okq (⟨"HuntedEye", "carryOut", "(LHuntedEye$State;III)I"⟩, 18) := ⟨⟨by decide +kernel, by decide +kernel⟩, List.mem_of_getElem? (i := 26) (by decide +kernel), List.mem_of_getElem? (i := 917) (by decide +kernel), List.mem_of_getElem? (i := 918) (by decide +kernel)⟩
theorem lw_p39 : lw_okq (⟨"HuntedEye", "liveYear", "(J)J"⟩, 18) := ⟨⟨by decide +kernel, by decide +kernel⟩, List.mem_of_getElem? (i := 26) (by decide +kernel), List.mem_of_getElem? (i := 978) (by decide +kernel), List.mem_of_getElem? (i := 979) (by decide +kernel)⟩
theorem lw_p40 : lw_okq (⟨"HuntedEye", "mishap", "(JI)J"⟩, 18) := ⟨⟨by decide +kernel, by decide +kernel⟩, List.mem_of_getElem? (i := 26) (by decide +kernel), List.mem_of_getElem? (i := 984) (by decide +kernel), List.mem_of_getElem? (i := 985) (by decide +kernel)⟩
theorem lw_p41 : lw_okq (⟨"HuntedEye", "isScript", "(I)Z"⟩, 18) := ⟨⟨by decide +kernel, by decide +kernel⟩, List.mem_of_getElem? (i := 26) (by decide +kernel), List.mem_of_getElem? (i := 1008) (by decide +kernel), List.mem_of_getElem? (i := 1009) (by decide +kernel)⟩
theorem lw_p42 : lw_okq (⟨"HuntedEye", "canStep", "(LHuntedEye$State;LHuntedEye$Script;I)Z"⟩, 18) := ⟨⟨by decide +kernel, by decide +kernel⟩, List.mem_of_getElem? (i := 26) (by decide +kernel), List.mem_of_getElem? (i := 1025) (by decide +kernel), List.mem_of_getElem? (i := 1026) (by decide +kernel)⟩
theorem lw_p43 : lw_okq (⟨"HuntedEye", "isPhase", "(I)Z"⟩, 18) := ⟨⟨by decide +kernel, by decide +kernel⟩, List.mem_of_getElem? (i := 26) (by decide +kernel), List.mem_of_getElem? (i := 1038) (by decide +kernel), List.mem_of_getElem? (i := 1039) (by decide +kernel)⟩
theorem lw_p44 : lw_okq (⟨"HuntedEye$Burst", "weighParts", "(LHuntedEye$Line;LHuntedEye$State;)V"⟩, 6) := ⟨⟨by decide +kernel, by decide +kernel⟩, List.mem_of_getElem? (i := 314) (by decide +kernel), List.mem_of_getElem? (i := 1089) (by decide +kernel), List.mem_of_getElem? (i := 1090) (by decide +kernel)⟩
theorem lw_p45 : lw_okq (⟨"HuntedEye$Burst", "placeBehind", "(LHuntedEye$Line;III)I"⟩, 6) := ⟨⟨by decide +kernel, by decide +kernel⟩, List.mem_of_getElem? (i := 314) (by decide +kernel), List.mem_of_getElem? (i := 1096) (by decide +kernel), List.mem_of_getElem? (i := 1097) (by decide +kernel)⟩
theorem lw_p46 : lw_okq (⟨"HuntedEye$Burst", "spreadBack", "()Z"⟩, 6) := ⟨⟨by decide +kernel, by decide +kernel⟩, List.mem_of_getElem? (i := 314) (by decide +kernel), List.mem_of_getElem? (i := 1102) (by decide +kernel), List.mem_of_getElem? (i := 1103) (by decide +kernel)⟩
theorem lw_p47 : lw_okq (⟨"HuntedEye$Burst", "startOf", "(I)I"⟩, 6) := ⟨⟨by decide +kernel, by decide +kernel⟩, List.mem_of_getElem? (i := 314) (by decide +kernel), List.mem_of_getElem? (i := 1111) (by decide +kernel), List.mem_of_getElem? (i := 1112) (by decide +kernel)⟩
def lw_privs_3 : List (MethodName × Nat) := [(⟨"HuntedEye$State", "keepForUnrolling", "(LHuntedEye$Line;I)V"⟩, 18), (⟨"HuntedEye$State", "learn", "(LHuntedEye$Line;II)V"⟩, 18), (⟨"HuntedEye$State", "vote", "(II)V"⟩, 18), (⟨"HuntedEye$State", "voteLevel", "(I)V"⟩, 18), (⟨"HuntedEye$State", "votePhase", "(II)V"⟩, 18), (⟨"HuntedEye$Tally", "closeRun", "()V"⟩, 15), (⟨"HuntedEye", "carryOut", "(LHuntedEye$State;III)I"⟩, 18), (⟨"HuntedEye", "liveYear", "(J)J"⟩, 18), (⟨"HuntedEye", "mishap", "(JI)J"⟩, 18), (⟨"HuntedEye", "isScript", "(I)Z"⟩, 18), (⟨"HuntedEye", "canStep", "(LHuntedEye$State;LHuntedEye$Script;I)Z"⟩, 18), (⟨"HuntedEye", "isPhase", "(I)Z"⟩, 18), (⟨"HuntedEye$Burst", "weighParts", "(LHuntedEye$Line;LHuntedEye$State;)V"⟩, 6), (⟨"HuntedEye$Burst", "placeBehind", "(LHuntedEye$Line;III)I"⟩, 6), (⟨"HuntedEye$Burst", "spreadBack", "()Z"⟩, 6), (⟨"HuntedEye$Burst", "startOf", "(I)I"⟩, 6)]
theorem lw_r3 : ∀ q ∈ lw_privs_3, lw_okq q := List.forall_mem_cons.mpr ⟨lw_p32, List.forall_mem_cons.mpr ⟨lw_p33, List.forall_mem_cons.mpr ⟨lw_p34, List.forall_mem_cons.mpr ⟨lw_p35, List.forall_mem_cons.mpr ⟨lw_p36, List.forall_mem_cons.mpr ⟨lw_p37, List.forall_mem_cons.mpr ⟨lw_p38, List.forall_mem_cons.mpr ⟨lw_p39, List.forall_mem_cons.mpr ⟨lw_p40, List.forall_mem_cons.mpr ⟨lw_p41, List.forall_mem_cons.mpr ⟨lw_p42, List.forall_mem_cons.mpr ⟨lw_p43, List.forall_mem_cons.mpr ⟨lw_p44, List.forall_mem_cons.mpr ⟨lw_p45, List.forall_mem_cons.mpr ⟨lw_p46, List.forall_mem_cons.mpr ⟨lw_p47, fun _ h => absurd h List.not_mem_nil⟩⟩⟩⟩⟩⟩⟩⟩⟩⟩⟩⟩⟩⟩⟩⟩
theorem lw_p48 : lw_okq (⟨"HuntedEye$Ahead", "settledIn", "(LHuntedEye$Line;LHuntedEye$State;III)I"⟩, 2) := ⟨⟨by decide +kernel, by decide +kernel⟩, List.mem_of_getElem? (i := 339) (by decide +kernel), List.mem_of_getElem? (i := 1155) (by decide +kernel), List.mem_of_getElem? (i := 1156) (by decide +kernel)⟩
theorem lw_p49 : lw_okq (⟨"HuntedEye$Ahead", "keepTaps", "(LHuntedEye$State;I)V"⟩, 2) := ⟨⟨by decide +kernel, by decide +kernel⟩, List.mem_of_getElem? (i := 339) (by decide +kernel), List.mem_of_getElem? (i := 1160) (by decide +kernel), List.mem_of_getElem? (i := 1161) (by decide +kernel)⟩
theorem lw_p50 : lw_okq (⟨"HuntedEye$Ahead", "staysWithin", "(II)Z"⟩, 2) := ⟨⟨by decide +kernel, by decide +kernel⟩, List.mem_of_getElem? (i := 339) (by decide +kernel), List.mem_of_getElem? (i := 1167) (by decide +kernel), List.mem_of_getElem? (i := 1168) (by decide +kernel)⟩
theorem lw_p51 : lw_okq (⟨"HuntedEye$Ahead", "rightBehind", "(LHuntedEye$Line;II)I"⟩, 2) := ⟨⟨by decide +kernel, by decide +kernel⟩, List.mem_of_getElem? (i := 339) (by decide +kernel), List.mem_of_getElem? (i := 1210) (by decide +kernel), List.mem_of_getElem? (i := 1211) (by decide +kernel)⟩
theorem lw_p52 : lw_okq (⟨"HuntedEye$Ahead", "rightIfHeard", "(LHuntedEye$Line;III)I"⟩, 2) := ⟨⟨by decide +kernel, by decide +kernel⟩, List.mem_of_getElem? (i := 339) (by decide +kernel), List.mem_of_getElem? (i := 1219) (by decide +kernel), List.mem_of_getElem? (i := 1220) (by decide +kernel)⟩
theorem lw_p53 : lw_okq (⟨"java/lang/Throwable", "fillInStackTrace", "(I)Ljava/lang/Throwable;"⟩, 6) := ⟨⟨by decide +kernel, by decide +kernel⟩, List.mem_of_getElem? (i := 1268) (by decide +kernel), List.mem_of_getElem? (i := 1266) (by decide +kernel), List.mem_of_getElem? (i := 1267) (by decide +kernel)⟩
theorem lw_p54 : lw_okq (⟨"HuntedEyeModel", "readLine", "()I"⟩, 40) := ⟨⟨by decide +kernel, by decide +kernel⟩, List.mem_of_getElem? (i := 1293) (by decide +kernel), List.mem_of_getElem? (i := 1443) (by decide +kernel), List.mem_of_getElem? (i := 1444) (by decide +kernel)⟩
theorem lw_p55 : lw_okq (⟨"HuntedEyeModel", "next", "()V"⟩, 40) := ⟨⟨by decide +kernel, by decide +kernel⟩, List.mem_of_getElem? (i := 1293) (by decide +kernel), List.mem_of_getElem? (i := 1450) (by decide +kernel), List.mem_of_getElem? (i := 1451) (by decide +kernel)⟩
theorem lw_p56 : lw_okq (⟨"HuntedEyeModel", "here", "()I"⟩, 40) := ⟨⟨by decide +kernel, by decide +kernel⟩, List.mem_of_getElem? (i := 1293) (by decide +kernel), List.mem_of_getElem? (i := 1454) (by decide +kernel), List.mem_of_getElem? (i := 1455) (by decide +kernel)⟩
theorem lw_p57 : lw_okq (⟨"HuntedEyeModel", "nextWord", "()V"⟩, 40) := ⟨⟨by decide +kernel, by decide +kernel⟩, List.mem_of_getElem? (i := 1293) (by decide +kernel), List.mem_of_getElem? (i := 1461) (by decide +kernel), List.mem_of_getElem? (i := 1462) (by decide +kernel)⟩
theorem lw_p58 : lw_okq (⟨"HuntedEyeModel", "nextNumber", "(Z)V"⟩, 40) := ⟨⟨by decide +kernel, by decide +kernel⟩, List.mem_of_getElem? (i := 1293) (by decide +kernel), List.mem_of_getElem? (i := 1470) (by decide +kernel), List.mem_of_getElem? (i := 1471) (by decide +kernel)⟩
theorem lw_p59 : lw_okq (⟨"HuntedEyeModel", "wordAsked", "(Z)I"⟩, 40) := ⟨⟨by decide +kernel, by decide +kernel⟩, List.mem_of_getElem? (i := 1293) (by decide +kernel), List.mem_of_getElem? (i := 1475) (by decide +kernel), List.mem_of_getElem? (i := 1476) (by decide +kernel)⟩
theorem lw_p60 : lw_okq (⟨"HuntedEyeModel", "bad", "()V"⟩, 40) := ⟨⟨by decide +kernel, by decide +kernel⟩, List.mem_of_getElem? (i := 1293) (by decide +kernel), List.mem_of_getElem? (i := 1496) (by decide +kernel), List.mem_of_getElem? (i := 1497) (by decide +kernel)⟩
theorem lw_p61 : lw_okq (⟨"HuntedEyeModel", "clause", "(I)V"⟩, 40) := ⟨⟨by decide +kernel, by decide +kernel⟩, List.mem_of_getElem? (i := 1293) (by decide +kernel), List.mem_of_getElem? (i := 1500) (by decide +kernel), List.mem_of_getElem? (i := 1501) (by decide +kernel)⟩
theorem lw_p62 : lw_okq (⟨"HuntedEyeModel", "manyNumbers", "(I[I)I"⟩, 40) := ⟨⟨by decide +kernel, by decide +kernel⟩, List.mem_of_getElem? (i := 1293) (by decide +kernel), List.mem_of_getElem? (i := 1504) (by decide +kernel), List.mem_of_getElem? (i := 1505) (by decide +kernel)⟩
theorem lw_p63 : lw_okq (⟨"HuntedEyeModel", "readScript", "(I)I"⟩, 40) := ⟨⟨by decide +kernel, by decide +kernel⟩, List.mem_of_getElem? (i := 1293) (by decide +kernel), List.mem_of_getElem? (i := 1514) (by decide +kernel), List.mem_of_getElem? (i := 1515) (by decide +kernel)⟩
def lw_privs_4 : List (MethodName × Nat) := [(⟨"HuntedEye$Ahead", "settledIn", "(LHuntedEye$Line;LHuntedEye$State;III)I"⟩, 2), (⟨"HuntedEye$Ahead", "keepTaps", "(LHuntedEye$State;I)V"⟩, 2), (⟨"HuntedEye$Ahead", "staysWithin", "(II)Z"⟩, 2), (⟨"HuntedEye$Ahead", "rightBehind", "(LHuntedEye$Line;II)I"⟩, 2), (⟨"HuntedEye$Ahead", "rightIfHeard", "(LHuntedEye$Line;III)I"⟩, 2), (⟨"java/lang/Throwable", "fillInStackTrace", "(I)Ljava/lang/Throwable;"⟩, 6), (⟨"HuntedEyeModel", "readLine", "()I"⟩, 40), (⟨"HuntedEyeModel", "next", "()V"⟩, 40), (⟨"HuntedEyeModel", "here", "()I"⟩, 40), (⟨"HuntedEyeModel", "nextWord", "()V"⟩, 40), (⟨"HuntedEyeModel", "nextNumber", "(Z)V"⟩, 40), (⟨"HuntedEyeModel", "wordAsked", "(Z)I"⟩, 40), (⟨"HuntedEyeModel", "bad", "()V"⟩, 40), (⟨"HuntedEyeModel", "clause", "(I)V"⟩, 40), (⟨"HuntedEyeModel", "manyNumbers", "(I[I)I"⟩, 40), (⟨"HuntedEyeModel", "readScript", "(I)I"⟩, 40)]
theorem lw_r4 : ∀ q ∈ lw_privs_4, lw_okq q := List.forall_mem_cons.mpr ⟨lw_p48, List.forall_mem_cons.mpr ⟨lw_p49, List.forall_mem_cons.mpr ⟨lw_p50, List.forall_mem_cons.mpr ⟨lw_p51, List.forall_mem_cons.mpr ⟨lw_p52, List.forall_mem_cons.mpr ⟨lw_p53, List.forall_mem_cons.mpr ⟨lw_p54, List.forall_mem_cons.mpr ⟨lw_p55, List.forall_mem_cons.mpr ⟨lw_p56, List.forall_mem_cons.mpr ⟨lw_p57, List.forall_mem_cons.mpr ⟨lw_p58, List.forall_mem_cons.mpr ⟨lw_p59, List.forall_mem_cons.mpr ⟨lw_p60, List.forall_mem_cons.mpr ⟨lw_p61, List.forall_mem_cons.mpr ⟨lw_p62, List.forall_mem_cons.mpr ⟨lw_p63, fun _ h => absurd h List.not_mem_nil⟩⟩⟩⟩⟩⟩⟩⟩⟩⟩⟩⟩⟩⟩⟩⟩
theorem lw_p64 : lw_okq (⟨"HuntedEyeModel", "stepNumbers", "(II)V"⟩, 40) := ⟨⟨by decide +kernel, by decide +kernel⟩, List.mem_of_getElem? (i := 1293) (by decide +kernel), List.mem_of_getElem? (i := 1518) (by decide +kernel), List.mem_of_getElem? (i := 1519) (by decide +kernel)⟩
theorem lw_p65 : lw_okq (⟨"HuntedEyeModel", "takeLine", "()I"⟩, 40) := ⟨⟨by decide +kernel, by decide +kernel⟩, List.mem_of_getElem? (i := 1293) (by decide +kernel), List.mem_of_getElem? (i := 1532) (by decide +kernel), List.mem_of_getElem? (i := 1533) (by decide +kernel)⟩
theorem lw_p66 : lw_okq (⟨"HuntedEyeModel", "taps", "()I"⟩, 40) := ⟨⟨by decide +kernel, by decide +kernel⟩, List.mem_of_getElem? (i := 1293) (by decide +kernel), List.mem_of_getElem? (i := 1536) (by decide +kernel), List.mem_of_getElem? (i := 1537) (by decide +kernel)⟩
theorem lw_p67 : lw_okq (⟨"HuntedEyeModel", "isRefused", "(I)Z"⟩, 40) := ⟨⟨by decide +kernel, by decide +kernel⟩, List.mem_of_getElem? (i := 1293) (by decide +kernel), List.mem_of_getElem? (i := 1544) (by decide +kernel), List.mem_of_getElem? (i := 1545) (by decide +kernel)⟩
theorem lw_p68 : lw_okq (⟨"HuntedEyeModel", "keep", "()V"⟩, 40) := ⟨⟨by decide +kernel, by decide +kernel⟩, List.mem_of_getElem? (i := 1293) (by decide +kernel), List.mem_of_getElem? (i := 1548) (by decide +kernel), List.mem_of_getElem? (i := 1549) (by decide +kernel)⟩
theorem lw_p69 : lw_okq (⟨"HuntedEyeModel", "symbols", "(I)I"⟩, 40) := ⟨⟨by decide +kernel, by decide +kernel⟩, List.mem_of_getElem? (i := 1293) (by decide +kernel), List.mem_of_getElem? (i := 1552) (by decide +kernel), List.mem_of_getElem? (i := 1553) (by decide +kernel)⟩
theorem lw_p70 : lw_okq (⟨"HuntedEyeModel", "symbol", "()Z"⟩, 40) := ⟨⟨by decide +kernel, by decide +kernel⟩, List.mem_of_getElem? (i := 1293) (by decide +kernel), List.mem_of_getElem? (i := 1556) (by decide +kernel), List.mem_of_getElem? (i := 1557) (by decide +kernel)⟩
theorem lw_p71 : lw_okq (⟨"HuntedEyeModel", "nextBit", "()I"⟩, 40) := ⟨⟨by decide +kernel, by decide +kernel⟩, List.mem_of_getElem? (i := 1293) (by decide +kernel), List.mem_of_getElem? (i := 1560) (by decide +kernel), List.mem_of_getElem? (i := 1561) (by decide +kernel)⟩
theorem lw_p72 : lw_okq (⟨"HuntedEyeModel", "shift", "(III)V"⟩, 40) := ⟨⟨by decide +kernel, by decide +kernel⟩, List.mem_of_getElem? (i := 1293) (by decide +kernel), List.mem_of_getElem? (i := 1564) (by decide +kernel), List.mem_of_getElem? (i := 1565) (by decide +kernel)⟩
theorem lw_p73 : lw_okq (⟨"HuntedEyeModel", "clean", "(I)I"⟩, 40) := ⟨⟨by decide +kernel, by decide +kernel⟩, List.mem_of_getElem? (i := 1293) (by decide +kernel), List.mem_of_getElem? (i := 1568) (by decide +kernel), List.mem_of_getElem? (i := 1569) (by decide +kernel)⟩
theorem lw_p74 : lw_okq (⟨"HuntedEyeModel", "noise", "()I"⟩, 40) := ⟨⟨by decide +kernel, by decide +kernel⟩, List.mem_of_getElem? (i := 1293) (by decide +kernel), List.mem_of_getElem? (i := 1572) (by decide +kernel), List.mem_of_getElem? (i := 1573) (by decide +kernel)⟩
theorem lw_p75 : lw_okq (⟨"HuntedEyeModel", "drawNoise", "(I)I"⟩, 40) := ⟨⟨by decide +kernel, by decide +kernel⟩, List.mem_of_getElem? (i := 1293) (by decide +kernel), List.mem_of_getElem? (i := 1576) (by decide +kernel), List.mem_of_getElem? (i := 1577) (by decide +kernel)⟩
theorem lw_p76 : lw_okq (⟨"HuntedEyeModel", "weighNow", "()V"⟩, 40) := ⟨⟨by decide +kernel, by decide +kernel⟩, List.mem_of_getElem? (i := 1293) (by decide +kernel), List.mem_of_getElem? (i := 1583) (by decide +kernel), List.mem_of_getElem? (i := 1584) (by decide +kernel)⟩
theorem lw_p77 : lw_okq (⟨"HuntedEyeModel", "takenOff", "()I"⟩, 40) := ⟨⟨by decide +kernel, by decide +kernel⟩, List.mem_of_getElem? (i := 1293) (by decide +kernel), List.mem_of_getElem? (i := 1587) (by decide +kernel), List.mem_of_getElem? (i := 1588) (by decide +kernel)⟩
theorem lw_p78 : lw_okq (⟨"HuntedEyeModel", "hush", "(Z)V"⟩, 40) := ⟨⟨by decide +kernel, by decide +kernel⟩, List.mem_of_getElem? (i := 1293) (by decide +kernel), List.mem_of_getElem? (i := 1598) (by decide +kernel), List.mem_of_getElem? (i := 1599) (by decide +kernel)⟩
theorem lw_p79 : lw_okq (⟨"HuntedEyeModel", "learn", "(II)V"⟩, 40) := ⟨⟨by decide +kernel, by decide +kernel⟩, List.mem_of_getElem? (i := 1293) (by decide +kernel), List.mem_of_getElem? (i := 1603) (by decide +kernel), List.mem_of_getElem? (i := 1604) (by decide +kernel)⟩
def lw_privs_5 : List (MethodName × Nat) := [(⟨"HuntedEyeModel", "stepNumbers", "(II)V"⟩, 40), (⟨"HuntedEyeModel", "takeLine", "()I"⟩, 40), (⟨"HuntedEyeModel", "taps", "()I"⟩, 40), (⟨"HuntedEyeModel", "isRefused", "(I)Z"⟩, 40), (⟨"HuntedEyeModel", "keep", "()V"⟩, 40), (⟨"HuntedEyeModel", "symbols", "(I)I"⟩, 40), (⟨"HuntedEyeModel", "symbol", "()Z"⟩, 40), (⟨"HuntedEyeModel", "nextBit", "()I"⟩, 40), (⟨"HuntedEyeModel", "shift", "(III)V"⟩, 40), (⟨"HuntedEyeModel", "clean", "(I)I"⟩, 40), (⟨"HuntedEyeModel", "noise", "()I"⟩, 40), (⟨"HuntedEyeModel", "drawNoise", "(I)I"⟩, 40), (⟨"HuntedEyeModel", "weighNow", "()V"⟩, 40), (⟨"HuntedEyeModel", "takenOff", "()I"⟩, 40), (⟨"HuntedEyeModel", "hush", "(Z)V"⟩, 40), (⟨"HuntedEyeModel", "learn", "(II)V"⟩, 40)]
theorem lw_r5 : ∀ q ∈ lw_privs_5, lw_okq q := List.forall_mem_cons.mpr ⟨lw_p64, List.forall_mem_cons.mpr ⟨lw_p65, List.forall_mem_cons.mpr ⟨lw_p66, List.forall_mem_cons.mpr ⟨lw_p67, List.forall_mem_cons.mpr ⟨lw_p68, List.forall_mem_cons.mpr ⟨lw_p69, List.forall_mem_cons.mpr ⟨lw_p70, List.forall_mem_cons.mpr ⟨lw_p71, List.forall_mem_cons.mpr ⟨lw_p72, List.forall_mem_cons.mpr ⟨lw_p73, List.forall_mem_cons.mpr ⟨lw_p74, List.forall_mem_cons.mpr ⟨lw_p75, List.forall_mem_cons.mpr ⟨lw_p76, List.forall_mem_cons.mpr ⟨lw_p77, List.forall_mem_cons.mpr ⟨lw_p78, List.forall_mem_cons.mpr ⟨lw_p79, fun _ h => absurd h List.not_mem_nil⟩⟩⟩⟩⟩⟩⟩⟩⟩⟩⟩⟩⟩⟩⟩⟩
theorem lw_p80 : lw_okq (⟨"HuntedEyeModel", "vote", "(IIIIII)V"⟩, 40) := ⟨⟨by decide +kernel, by decide +kernel⟩, List.mem_of_getElem? (i := 1293) (by decide +kernel), List.mem_of_getElem? (i := 1607) (by decide +kernel), List.mem_of_getElem? (i := 1608) (by decide +kernel)⟩
theorem lw_p81 : lw_okq (⟨"HuntedEyeModel", "runOn", "(Z)V"⟩, 40) := ⟨⟨by decide +kernel, by decide +kernel⟩, List.mem_of_getElem? (i := 1293) (by decide +kernel), List.mem_of_getElem? (i := 1614) (by decide +kernel), List.mem_of_getElem? (i := 1615) (by decide +kernel)⟩
theorem lw_p82 : lw_okq (⟨"HuntedEyeModel", "note", "(II)V"⟩, 40) := ⟨⟨by decide +kernel, by decide +kernel⟩, List.mem_of_getElem? (i := 1293) (by decide +kernel), List.mem_of_getElem? (i := 1618) (by decide +kernel), List.mem_of_getElem? (i := 1619) (by decide +kernel)⟩
theorem lw_p83 : lw_okq (⟨"HuntedEyeModel", "setOne", "(III)I"⟩, 40) := ⟨⟨by decide +kernel, by decide +kernel⟩, List.mem_of_getElem? (i := 1293) (by decide +kernel), List.mem_of_getElem? (i := 1626) (by decide +kernel), List.mem_of_getElem? (i := 1627) (by decide +kernel)⟩
theorem lw_p84 : lw_okq (⟨"HuntedEyeModel", "isTap", "(I)Z"⟩, 40) := ⟨⟨by decide +kernel, by decide +kernel⟩, List.mem_of_getElem? (i := 1293) (by decide +kernel), List.mem_of_getElem? (i := 1638) (by decide +kernel), List.mem_of_getElem? (i := 1639) (by decide +kernel)⟩
theorem lw_p85 : lw_okq (⟨"HuntedEyeModel", "better", "(I)I"⟩, 40) := ⟨⟨by decide +kernel, by decide +kernel⟩, List.mem_of_getElem? (i := 1293) (by decide +kernel), List.mem_of_getElem? (i := 1658) (by decide +kernel), List.mem_of_getElem? (i := 1659) (by decide +kernel)⟩
theorem lw_p86 : lw_okq (⟨"HuntedEyeModel", "heightOf", "(I)I"⟩, 40) := ⟨⟨by decide +kernel, by decide +kernel⟩, List.mem_of_getElem? (i := 1293) (by decide +kernel), List.mem_of_getElem? (i := 1662) (by decide +kernel), List.mem_of_getElem? (i := 1663) (by decide +kernel)⟩
theorem lw_p87 : lw_okq (⟨"HuntedEyeModel", "layOpening", "(I)V"⟩, 40) := ⟨⟨by decide +kernel, by decide +kernel⟩, List.mem_of_getElem? (i := 1293) (by decide +kernel), List.mem_of_getElem? (i := 1666) (by decide +kernel), List.mem_of_getElem? (i := 1667) (by decide +kernel)⟩
theorem lw_p88 : lw_okq (⟨"HuntedEyeModel", "weighRow", "(III)I"⟩, 40) := ⟨⟨by decide +kernel, by decide +kernel⟩, List.mem_of_getElem? (i := 1293) (by decide +kernel), List.mem_of_getElem? (i := 1672) (by decide +kernel), List.mem_of_getElem? (i := 1673) (by decide +kernel)⟩
theorem lw_p89 : lw_okq (⟨"HuntedEyeModel", "seekNow", "()V"⟩, 40) := ⟨⟨by decide +kernel, by decide +kernel⟩, List.mem_of_getElem? (i := 1293) (by decide +kernel), List.mem_of_getElem? (i := 1676) (by decide +kernel), List.mem_of_getElem? (i := 1677) (by decide +kernel)⟩
theorem lw_p90 : lw_okq (⟨"HuntedEyeModel", "drawYear", "()V"⟩, 40) := ⟨⟨by decide +kernel, by decide +kernel⟩, List.mem_of_getElem? (i := 1293) (by decide +kernel), List.mem_of_getElem? (i := 1688) (by decide +kernel), List.mem_of_getElem? (i := 1689) (by decide +kernel)⟩
theorem lw_p91 : lw_okq (⟨"HuntedEyeModel", "draw", "(I)I"⟩, 40) := ⟨⟨by decide +kernel, by decide +kernel⟩, List.mem_of_getElem? (i := 1293) (by decide +kernel), List.mem_of_getElem? (i := 1692) (by decide +kernel), List.mem_of_getElem? (i := 1693) (by decide +kernel)⟩
theorem lw_p92 : lw_okq (⟨"HuntedEyeModel", "isScript", "(I)Z"⟩, 40) := ⟨⟨by decide +kernel, by decide +kernel⟩, List.mem_of_getElem? (i := 1293) (by decide +kernel), List.mem_of_getElem? (i := 1736) (by decide +kernel), List.mem_of_getElem? (i := 1737) (by decide +kernel)⟩
theorem lw_p93 : lw_okq (⟨"HuntedEyeModel", "putAside", "(I)V"⟩, 40) := ⟨⟨by decide +kernel, by decide +kernel⟩, List.mem_of_getElem? (i := 1293) (by decide +kernel), List.mem_of_getElem? (i := 1740) (by decide +kernel), List.mem_of_getElem? (i := 1741) (by decide +kernel)⟩
theorem lw_p94 : lw_okq (⟨"HuntedEyeModel", "goSteps", "(IZ)V"⟩, 40) := ⟨⟨by decide +kernel, by decide +kernel⟩, List.mem_of_getElem? (i := 1293) (by decide +kernel), List.mem_of_getElem? (i := 1744) (by decide +kernel), List.mem_of_getElem? (i := 1745) (by decide +kernel)⟩
theorem lw_p95 : lw_okq (⟨"HuntedEyeModel", "canStep", "(I)Z"⟩, 40) := ⟨⟨by decide +kernel, by decide +kernel⟩, List.mem_of_getElem? (i := 1293) (by decide +kernel), List.mem_of_getElem? (i := 1748) (by decide +kernel), List.mem_of_getElem? (i := 1749) (by decide +kernel)⟩
def lw_privs_6 : List (MethodName × Nat) := [(⟨"HuntedEyeModel", "vote", "(IIIIII)V"⟩, 40), (⟨"HuntedEyeModel", "runOn", "(Z)V"⟩, 40), (⟨"HuntedEyeModel", "note", "(II)V"⟩, 40), (⟨"HuntedEyeModel", "setOne", "(III)I"⟩, 40), (⟨"HuntedEyeModel", "isTap", "(I)Z"⟩, 40), (⟨"HuntedEyeModel", "better", "(I)I"⟩, 40), (⟨"HuntedEyeModel", "heightOf", "(I)I"⟩, 40), (⟨"HuntedEyeModel", "layOpening", "(I)V"⟩, 40), (⟨"HuntedEyeModel", "weighRow", "(III)I"⟩, 40), (⟨"HuntedEyeModel", "seekNow", "()V"⟩, 40), (⟨"HuntedEyeModel", "drawYear", "()V"⟩, 40), (⟨"HuntedEyeModel", "draw", "(I)I"⟩, 40), (⟨"HuntedEyeModel", "isScript", "(I)Z"⟩, 40), (⟨"HuntedEyeModel", "putAside", "(I)V"⟩, 40), (⟨"HuntedEyeModel", "goSteps", "(IZ)V"⟩, 40), (⟨"HuntedEyeModel", "canStep", "(I)Z"⟩, 40)]
theorem lw_r6 : ∀ q ∈ lw_privs_6, lw_okq q := List.forall_mem_cons.mpr ⟨lw_p80, List.forall_mem_cons.mpr ⟨lw_p81, List.forall_mem_cons.mpr ⟨lw_p82, List.forall_mem_cons.mpr ⟨lw_p83, List.forall_mem_cons.mpr ⟨lw_p84, List.forall_mem_cons.mpr ⟨lw_p85, List.forall_mem_cons.mpr ⟨lw_p86, List.forall_mem_cons.mpr ⟨lw_p87, List.forall_mem_cons.mpr ⟨lw_p88, List.forall_mem_cons.mpr ⟨lw_p89, List.forall_mem_cons.mpr ⟨lw_p90, List.forall_mem_cons.mpr ⟨lw_p91, List.forall_mem_cons.mpr ⟨lw_p92, List.forall_mem_cons.mpr ⟨lw_p93, List.forall_mem_cons.mpr ⟨lw_p94, List.forall_mem_cons.mpr ⟨lw_p95, fun _ h => absurd h List.not_mem_nil⟩⟩⟩⟩⟩⟩⟩⟩⟩⟩⟩⟩⟩⟩⟩⟩
theorem lw_p96 : lw_okq (⟨"HuntedEyeModel", "doStep", "(I)I"⟩, 40) := ⟨⟨by decide +kernel, by decide +kernel⟩, List.mem_of_getElem? (i := 1293) (by decide +kernel), List.mem_of_getElem? (i := 1752) (by decide +kernel), List.mem_of_getElem? (i := 1753) (by decide +kernel)⟩
theorem lw_p97 : lw_okq (⟨"HuntedEyeModel", "bringBack", "(I)V"⟩, 40) := ⟨⟨by decide +kernel, by decide +kernel⟩, List.mem_of_getElem? (i := 1293) (by decide +kernel), List.mem_of_getElem? (i := 1756) (by decide +kernel), List.mem_of_getElem? (i := 1757) (by decide +kernel)⟩
theorem lw_p98 : lw_okq (⟨"HuntedEyeModel", "isPhase", "(I)Z"⟩, 40) := ⟨⟨by decide +kernel, by decide +kernel⟩, List.mem_of_getElem? (i := 1293) (by decide +kernel), List.mem_of_getElem? (i := 1768) (by decide +kernel), List.mem_of_getElem? (i := 1769) (by decide +kernel)⟩
theorem lw_p99 : lw_okq (⟨"HuntedEyeModel", "wholeOnes", "(I)I"⟩, 40) := ⟨⟨by decide +kernel, by decide +kernel⟩, List.mem_of_getElem? (i := 1293) (by decide +kernel), List.mem_of_getElem? (i := 1785) (by decide +kernel), List.mem_of_getElem? (i := 1786) (by decide +kernel)⟩
theorem lw_p100 : lw_okq (⟨"HuntedEyeModel", "layBursts", "()V"⟩, 40) := ⟨⟨by decide +kernel, by decide +kernel⟩, List.mem_of_getElem? (i := 1293) (by decide +kernel), List.mem_of_getElem? (i := 1797) (by decide +kernel), List.mem_of_getElem? (i := 1798) (by decide +kernel)⟩
theorem lw_p101 : lw_okq (⟨"HuntedEyeModel", "tryState", "(I)Z"⟩, 40) := ⟨⟨by decide +kernel, by decide +kernel⟩, List.mem_of_getElem? (i := 1293) (by decide +kernel), List.mem_of_getElem? (i := 1801) (by decide +kernel), List.mem_of_getElem? (i := 1802) (by decide +kernel)⟩
theorem lw_p102 : lw_okq (⟨"HuntedEyeModel", "stateNext", "(II)I"⟩, 40) := ⟨⟨by decide +kernel, by decide +kernel⟩, List.mem_of_getElem? (i := 1293) (by decide +kernel), List.mem_of_getElem? (i := 1805) (by decide +kernel), List.mem_of_getElem? (i := 1806) (by decide +kernel)⟩
theorem lw_p103 : lw_okq (⟨"HuntedEyeModel", "burstOf", "(II)I"⟩, 40) := ⟨⟨by decide +kernel, by decide +kernel⟩, List.mem_of_getElem? (i := 1293) (by decide +kernel), List.mem_of_getElem? (i := 1809) (by decide +kernel), List.mem_of_getElem? (i := 1810) (by decide +kernel)⟩
theorem lw_p104 : lw_okq (⟨"HuntedEyeModel", "settledBy", "(I)I"⟩, 40) := ⟨⟨by decide +kernel, by decide +kernel⟩, List.mem_of_getElem? (i := 1293) (by decide +kernel), List.mem_of_getElem? (i := 1829) (by decide +kernel), List.mem_of_getElem? (i := 1830) (by decide +kernel)⟩
theorem lw_p105 : lw_okq (⟨"HuntedEyeModel", "isKeeping", "(II)Z"⟩, 40) := ⟨⟨by decide +kernel, by decide +kernel⟩, List.mem_of_getElem? (i := 1293) (by decide +kernel), List.mem_of_getElem? (i := 1833) (by decide +kernel), List.mem_of_getElem? (i := 1834) (by decide +kernel)⟩
theorem lw_p106 : lw_okq (⟨"HuntedEyeModel", "wrongIn", "(II)I"⟩, 40) := ⟨⟨by decide +kernel, by decide +kernel⟩, List.mem_of_getElem? (i := 1293) (by decide +kernel), List.mem_of_getElem? (i := 1849) (by decide +kernel), List.mem_of_getElem? (i := 1850) (by decide +kernel)⟩
theorem lw_p107 : lw_okq (⟨"HuntedEyeModel", "wrongByDrop", "(I)I"⟩, 40) := ⟨⟨by decide +kernel, by decide +kernel⟩, List.mem_of_getElem? (i := 1293) (by decide +kernel), List.mem_of_getElem? (i := 1857) (by decide +kernel), List.mem_of_getElem? (i := 1858) (by decide +kernel)⟩
theorem lw_p108 : lw_okq (⟨"HuntedEyeModel", "clearFrom", "(II)I"⟩, 40) := ⟨⟨by decide +kernel, by decide +kernel⟩, List.mem_of_getElem? (i := 1293) (by decide +kernel), List.mem_of_getElem? (i := 1865) (by decide +kernel), List.mem_of_getElem? (i := 1866) (by decide +kernel)⟩
def lw_privs_7 : List (MethodName × Nat) := [(⟨"HuntedEyeModel", "doStep", "(I)I"⟩, 40), (⟨"HuntedEyeModel", "bringBack", "(I)V"⟩, 40), (⟨"HuntedEyeModel", "isPhase", "(I)Z"⟩, 40), (⟨"HuntedEyeModel", "wholeOnes", "(I)I"⟩, 40), (⟨"HuntedEyeModel", "layBursts", "()V"⟩, 40), (⟨"HuntedEyeModel", "tryState", "(I)Z"⟩, 40), (⟨"HuntedEyeModel", "stateNext", "(II)I"⟩, 40), (⟨"HuntedEyeModel", "burstOf", "(II)I"⟩, 40), (⟨"HuntedEyeModel", "settledBy", "(I)I"⟩, 40), (⟨"HuntedEyeModel", "isKeeping", "(II)Z"⟩, 40), (⟨"HuntedEyeModel", "wrongIn", "(II)I"⟩, 40), (⟨"HuntedEyeModel", "wrongByDrop", "(I)I"⟩, 40), (⟨"HuntedEyeModel", "clearFrom", "(II)I"⟩, 40)]
theorem lw_r7 : ∀ q ∈ lw_privs_7, lw_okq q := List.forall_mem_cons.mpr ⟨lw_p96, List.forall_mem_cons.mpr ⟨lw_p97, List.forall_mem_cons.mpr ⟨lw_p98, List.forall_mem_cons.mpr ⟨lw_p99, List.forall_mem_cons.mpr ⟨lw_p100, List.forall_mem_cons.mpr ⟨lw_p101, List.forall_mem_cons.mpr ⟨lw_p102, List.forall_mem_cons.mpr ⟨lw_p103, List.forall_mem_cons.mpr ⟨lw_p104, List.forall_mem_cons.mpr ⟨lw_p105, List.forall_mem_cons.mpr ⟨lw_p106, List.forall_mem_cons.mpr ⟨lw_p107, List.forall_mem_cons.mpr ⟨lw_p108, fun _ h => absurd h List.not_mem_nil⟩⟩⟩⟩⟩⟩⟩⟩⟩⟩⟩⟩⟩
def lw_privs : List (MethodName × Nat) := lw_privs_1 ++ (lw_privs_2 ++ (lw_privs_3 ++ (lw_privs_4 ++ (lw_privs_5 ++ (lw_privs_6 ++ (lw_privs_7))))))
def lw_tbl : List Cond := k2_sels lw_privs ++ tables_1
theorem lw_privs_ok : ∀ q ∈ lw_privs, lw_okq q := by
  show ∀ q ∈ lw_privs_1 ++ (lw_privs_2 ++ (lw_privs_3 ++ (lw_privs_4 ++ (lw_privs_5 ++ (lw_privs_6 ++ (lw_privs_7)))))), lw_okq q
  exact List.forall_mem_append.mpr ⟨lw_r1, List.forall_mem_append.mpr ⟨lw_r2, List.forall_mem_append.mpr ⟨lw_r3, List.forall_mem_append.mpr ⟨lw_r4, List.forall_mem_append.mpr ⟨lw_r5, List.forall_mem_append.mpr ⟨lw_r6, lw_r7⟩⟩⟩⟩⟩⟩
end
section
def RX0 : String := "HuntedEye$Ahead"
def TX0 : u_T := fun k => match k with
  | 0 => ("HuntedEye$Ahead", "copies", "[LHuntedEye$State;", true)
  | _ => ("HuntedEye$Ahead", "path", "[I", true)
def tyX0 : Nat → FieldType := fun k => match k with
  | 0 => .array (.object "HuntedEye$State")
  | _ => .array .int
abbrev wsX00 : List Cond := u_ws RX0 TX0 2
theorem nmX0 : ∀ a, a < 2 → ∀ b, b < 2 → a ≠ b → (TX0 a).2.1 ≠ (TX0 b).2.1 := by decide +kernel
theorem tyX0_ok : ∀ k, k < 2 → parseFieldDescriptor (TX0 k).2.2.1 = some (tyX0 k) := by decide +kernel
abbrev cX0_init : ByteArray := prog_2_method_1_code
def yX0_init : MethodName := ⟨RX0, "<init>", "()V"⟩
abbrev cX0_copyOf : ByteArray := prog_2_method_2_code
def yX0_copyOf : MethodName := ⟨RX0, "copyOf", "(LHuntedEye$State;)LHuntedEye$State;"⟩
abbrev cX0_wrongIfHeld : ByteArray := prog_2_method_3_code
def yX0_wrongIfHeld : MethodName := ⟨RX0, "wrongIfHeld", "(LHuntedEye$Line;LHuntedEye$State;IZ)I"⟩
abbrev cX0_wrongIfDropped : ByteArray := prog_2_method_4_code
def yX0_wrongIfDropped : MethodName := ⟨RX0, "wrongIfDropped", "(LHuntedEye$Line;LHuntedEye$State;I)I"⟩
abbrev cX0_settledNow : ByteArray := prog_2_method_5_code
def yX0_settledNow : MethodName := ⟨RX0, "settledNow", "(LHuntedEye$Line;LHuntedEye$State;I)I"⟩
abbrev cX0_quickestGear : ByteArray := prog_2_method_6_code
def yX0_quickestGear : MethodName := ⟨RX0, "quickestGear", "(LHuntedEye$Line;LHuntedEye$State;I)I"⟩
abbrev cX0_settledIn : ByteArray := prog_2_method_7_code
def yX0_settledIn : MethodName := ⟨RX0, "settledIn", "(LHuntedEye$Line;LHuntedEye$State;III)I"⟩
abbrev cX0_keepTaps : ByteArray := prog_2_method_8_code
def yX0_keepTaps : MethodName := ⟨RX0, "keepTaps", "(LHuntedEye$State;I)V"⟩
abbrev cX0_staysWithin : ByteArray := prog_2_method_9_code
def yX0_staysWithin : MethodName := ⟨RX0, "staysWithin", "(II)Z"⟩
abbrev cX0_rightRows : ByteArray := prog_2_method_10_code
def yX0_rightRows : MethodName := ⟨RX0, "rightRows", "(LHuntedEye$Line;LHuntedEye$State;I)I"⟩
abbrev cX0_rightBehind : ByteArray := prog_2_method_11_code
def yX0_rightBehind : MethodName := ⟨RX0, "rightBehind", "(LHuntedEye$Line;II)I"⟩
abbrev cX0_rightIfHeard : ByteArray := prog_2_method_12_code
def yX0_rightIfHeard : MethodName := ⟨RX0, "rightIfHeard", "(LHuntedEye$Line;III)I"⟩
def RX1 : String := "HuntedEye$Burst"
def TX1 : u_T := fun k => match k with
  | 0 => ("HuntedEye$Burst", "foreZ", "[I", true)
  | 1 => ("HuntedEye$Burst", "backZ", "[I", true)
  | 2 => ("HuntedEye$Burst", "next", "[I", true)
  | 3 => ("HuntedEye$Burst", "follow", "[I", true)
  | 4 => ("HuntedEye$Burst", "wrongs", "[I", true)
  | _ => ("HuntedEye$Burst", "mask", "I", false)
def tyX1 : Nat → FieldType := fun k => match k with
  | 0 => .array .int
  | 1 => .array .int
  | 2 => .array .int
  | 3 => .array .int
  | 4 => .array .int
  | _ => .int
abbrev wsX10 : List Cond := u_ws RX1 TX1 6
theorem nmX1 : ∀ a, a < 6 → ∀ b, b < 6 → a ≠ b → (TX1 a).2.1 ≠ (TX1 b).2.1 := by decide +kernel
theorem tyX1_ok : ∀ k, k < 6 → parseFieldDescriptor (TX1 k).2.2.1 = some (tyX1 k) := by decide +kernel
abbrev cX1_init : ByteArray := prog_3_method_1_code
def yX1_init : MethodName := ⟨RX1, "<init>", "()V"⟩
abbrev cX1_explore : ByteArray := prog_3_method_2_code
def yX1_explore : MethodName := ⟨RX1, "explore", "(LHuntedEye$Line;LHuntedEye$State;)V"⟩
abbrev cX1_weighParts : ByteArray := prog_3_method_3_code
def yX1_weighParts : MethodName := ⟨RX1, "weighParts", "(LHuntedEye$Line;LHuntedEye$State;)V"⟩
abbrev cX1_placeBehind : ByteArray := prog_3_method_4_code
def yX1_placeBehind : MethodName := ⟨RX1, "placeBehind", "(LHuntedEye$Line;III)I"⟩
abbrev cX1_spreadBack : ByteArray := prog_3_method_5_code
def yX1_spreadBack : MethodName := ⟨RX1, "spreadBack", "()Z"⟩
abbrev cX1_startOf : ByteArray := prog_3_method_6_code
def yX1_startOf : MethodName := ⟨RX1, "startOf", "(I)I"⟩
abbrev cX1_followers : ByteArray := prog_3_method_7_code
def yX1_followers : MethodName := ⟨RX1, "followers", "(I)I"⟩
abbrev cX1_errors : ByteArray := prog_3_method_8_code
def yX1_errors : MethodName := ⟨RX1, "errors", "(I)I"⟩
abbrev cX1_longestRow : ByteArray := prog_3_method_9_code
def yX1_longestRow : MethodName := ⟨RX1, "longestRow", "()I"⟩
def RX2 : String := "HuntedEye$Clause"
def TX2 : u_T := fun k => match k with
  | _ => ("", "", "", false)
def tyX2 : Nat → FieldType := fun k => match k with
  | _ => .int
abbrev wsX20 : List Cond := u_ws RX2 TX2 0
theorem nmX2 : ∀ a, a < 0 → ∀ b, b < 0 → a ≠ b → (TX2 a).2.1 ≠ (TX2 b).2.1 := by decide +kernel
theorem tyX2_ok : ∀ k, k < 0 → parseFieldDescriptor (TX2 k).2.2.1 = some (tyX2 k) := by decide +kernel
def RX3 : String := "HuntedEye$Eye"
def TX3 : u_T := fun k => match k with
  | 0 => ("HuntedEye$Eye", "zs", "[I", true)
  | 1 => ("HuntedEye$Eye", "shares", "[I", true)
  | 2 => ("HuntedEye$Eye", "heights", "[I", true)
  | 3 => ("HuntedEye$Eye", "bestValue", "I", false)
  | _ => ("HuntedEye$Eye", "bestHeight", "I", false)
def tyX3 : Nat → FieldType := fun k => match k with
  | 0 => .array .int
  | 1 => .array .int
  | 2 => .array .int
  | 3 => .int
  | _ => .int
abbrev wsX30 : List Cond := u_ws RX3 TX3 5
theorem nmX3 : ∀ a, a < 5 → ∀ b, b < 5 → a ≠ b → (TX3 a).2.1 ≠ (TX3 b).2.1 := by decide +kernel
theorem tyX3_ok : ∀ k, k < 5 → parseFieldDescriptor (TX3 k).2.2.1 = some (tyX3 k) := by decide +kernel
abbrev cX3_init : ByteArray := prog_5_method_1_code
def yX3_init : MethodName := ⟨RX3, "<init>", "()V"⟩
abbrev cX3_share : ByteArray := prog_5_method_2_code
def yX3_share : MethodName := ⟨RX3, "share", "(LHuntedEye$Line;III)I"⟩
abbrev cX3_rowZ : ByteArray := prog_5_method_3_code
def yX3_rowZ : MethodName := ⟨RX3, "rowZ", "(LHuntedEye$Line;LHuntedEye$State;II)I"⟩
abbrev cX3_look : ByteArray := prog_5_method_4_code
def yX3_look : MethodName := ⟨RX3, "look", "(LHuntedEye$Line;LHuntedEye$State;I)V"⟩
abbrev cX3_right : ByteArray := prog_5_method_5_code
def yX3_right : MethodName := ⟨RX3, "right", "(LHuntedEye$Line;I)I"⟩
abbrev cX3_high : ByteArray := prog_5_method_6_code
def yX3_high : MethodName := ⟨RX3, "high", "(LHuntedEye$Line;)I"⟩
abbrev cX3_low : ByteArray := prog_5_method_7_code
def yX3_low : MethodName := ⟨RX3, "low", "(LHuntedEye$Line;)I"⟩
abbrev cX3_height : ByteArray := prog_5_method_8_code
def yX3_height : MethodName := ⟨RX3, "height", "(LHuntedEye$Line;)I"⟩
abbrev cX3_hunted : ByteArray := prog_5_method_9_code
def yX3_hunted : MethodName := ⟨RX3, "hunted", "(LHuntedEye$Line;LHuntedEye$State;)I"⟩
abbrev cX3_higherNeighbour : ByteArray := prog_5_method_10_code
def yX3_higherNeighbour : MethodName := ⟨RX3, "higherNeighbour", "(I)I"⟩
abbrev cX3_openLevels : ByteArray := prog_5_method_11_code
def yX3_openLevels : MethodName := ⟨RX3, "openLevels", "(LHuntedEye$Line;LHuntedEye$State;I)I"⟩
abbrev cX3_bearable : ByteArray := prog_5_method_12_code
def yX3_bearable : MethodName := ⟨RX3, "bearable", "(LHuntedEye$Line;LHuntedEye$State;I)I"⟩
abbrev cX3_improve : ByteArray := prog_5_method_13_code
def yX3_improve : MethodName := ⟨RX3, "improve", "(LHuntedEye$Line;LHuntedEye$State;I)V"⟩
def RX4 : String := "HuntedEye$Line"
def TX4 : u_T := fun k => match k with
  | 0 => ("HuntedEye$Line", "rules", "[I", true)
  | 1 => ("HuntedEye$Line", "pulse", "[I", true)
  | _ => ("HuntedEye$Line", "word", "[I", true)
def tyX4 : Nat → FieldType := fun k => match k with
  | 0 => .array .int
  | 1 => .array .int
  | _ => .array .int
abbrev wsX40 : List Cond := u_ws RX4 TX4 3
theorem nmX4 : ∀ a, a < 3 → ∀ b, b < 3 → a ≠ b → (TX4 a).2.1 ≠ (TX4 b).2.1 := by decide +kernel
theorem tyX4_ok : ∀ k, k < 3 → parseFieldDescriptor (TX4 k).2.2.1 = some (tyX4 k) := by decide +kernel
abbrev cX4_init : ByteArray := prog_6_method_1_code
def yX4_init : MethodName := ⟨RX4, "<init>", "()V"⟩
abbrev cX4_reset : ByteArray := prog_6_method_2_code
def yX4_reset : MethodName := ⟨RX4, "reset", "()V"⟩
abbrev cX4_put : ByteArray := prog_6_method_3_code
def yX4_put : MethodName := ⟨RX4, "put", "(III)V"⟩
abbrev cX4_copy : ByteArray := prog_6_method_4_code
def yX4_copy : MethodName := ⟨RX4, "copy", "(LHuntedEye$Line;)V"⟩
abbrev cX4_ruleOf : ByteArray := prog_6_method_5_code
def yX4_ruleOf : MethodName := ⟨RX4, "ruleOf", "(I)I"⟩
abbrev cX4_pulseLength : ByteArray := prog_6_method_6_code
def yX4_pulseLength : MethodName := ⟨RX4, "pulseLength", "()I"⟩
abbrev cX4_pulseAt : ByteArray := prog_6_method_7_code
def yX4_pulseAt : MethodName := ⟨RX4, "pulseAt", "(I)I"⟩
abbrev cX4_wordLength : ByteArray := prog_6_method_8_code
def yX4_wordLength : MethodName := ⟨RX4, "wordLength", "()I"⟩
abbrev cX4_wordAt : ByteArray := prog_6_method_9_code
def yX4_wordAt : MethodName := ⟨RX4, "wordAt", "(I)I"⟩
abbrev cX4_foreTaps : ByteArray := prog_6_method_10_code
def yX4_foreTaps : MethodName := ⟨RX4, "foreTaps", "()I"⟩
abbrev cX4_backTaps : ByteArray := prog_6_method_11_code
def yX4_backTaps : MethodName := ⟨RX4, "backTaps", "()I"⟩
abbrev cX4_allTaps : ByteArray := prog_6_method_12_code
def yX4_allTaps : MethodName := ⟨RX4, "allTaps", "()I"⟩
abbrev cX4_delay : ByteArray := prog_6_method_13_code
def yX4_delay : MethodName := ⟨RX4, "delay", "()I"⟩
def RX5 : String := "HuntedEye$Log"
def TX5 : u_T := fun k => match k with
  | 0 => ("HuntedEye$Log", "samples", "[I", true)
  | 1 => ("HuntedEye$Log", "zs", "[I", true)
  | _ => ("HuntedEye$Log", "marks", "[I", true)
def tyX5 : Nat → FieldType := fun k => match k with
  | 0 => .array .int
  | 1 => .array .int
  | _ => .array .int
abbrev wsX50 : List Cond := u_ws RX5 TX5 3
theorem nmX5 : ∀ a, a < 3 → ∀ b, b < 3 → a ≠ b → (TX5 a).2.1 ≠ (TX5 b).2.1 := by decide +kernel
theorem tyX5_ok : ∀ k, k < 3 → parseFieldDescriptor (TX5 k).2.2.1 = some (tyX5 k) := by decide +kernel
abbrev cX5_init : ByteArray := prog_7_method_1_code
def yX5_init : MethodName := ⟨RX5, "<init>", "(I)V"⟩
abbrev cX5_placeOf : ByteArray := prog_7_method_2_code
def yX5_placeOf : MethodName := ⟨RX5, "placeOf", "(I)I"⟩
abbrev cX5_keep : ByteArray := prog_7_method_3_code
def yX5_keep : MethodName := ⟨RX5, "keep", "(ILHuntedEye$Tally;)V"⟩
abbrev cX5_entry : ByteArray := prog_7_method_4_code
def yX5_entry : MethodName := ⟨RX5, "entry", "(II)I"⟩
abbrev cX5_copyLatest : ByteArray := prog_7_method_5_code
def yX5_copyLatest : MethodName := ⟨RX5, "copyLatest", "(LHuntedEye$Log;I)V"⟩
def RX6 : String := "HuntedEye$Reader"
def TX6 : u_T := fun k => match k with
  | 0 => ("HuntedEye$Reader", "tape", "[I", true)
  | 1 => ("HuntedEye$Reader", "seen", "[Z", true)
  | 2 => ("HuntedEye$Reader", "line", "LHuntedEye$Line;", true)
  | 3 => ("HuntedEye$Reader", "script", "LHuntedEye$Script;", true)
  | 4 => ("HuntedEye$Reader", "length", "I", false)
  | 5 => ("HuntedEye$Reader", "at", "I", false)
  | 6 => ("HuntedEye$Reader", "firstFault", "I", false)
  | _ => ("HuntedEye$Reader", "number", "I", false)
def tyX6 : Nat → FieldType := fun k => match k with
  | 0 => .array .int
  | 1 => .array .boolean
  | 2 => .object "HuntedEye$Line"
  | 3 => .object "HuntedEye$Script"
  | 4 => .int
  | 5 => .int
  | 6 => .int
  | _ => .int
abbrev wsX60 : List Cond := u_ws RX6 TX6 8
theorem nmX6 : ∀ a, a < 8 → ∀ b, b < 8 → a ≠ b → (TX6 a).2.1 ≠ (TX6 b).2.1 := by decide +kernel
theorem tyX6_ok : ∀ k, k < 8 → parseFieldDescriptor (TX6 k).2.2.1 = some (tyX6 k) := by decide +kernel
abbrev cX6_init : ByteArray := prog_8_method_1_code
def yX6_init : MethodName := ⟨RX6, "<init>", "()V"⟩
abbrev cX6_join : ByteArray := prog_8_method_2_code
def yX6_join : MethodName := ⟨RX6, "join", "(IIIII)I"⟩
abbrev cX6_cut : ByteArray := prog_8_method_3_code
def yX6_cut : MethodName := ⟨RX6, "cut", "(I)Z"⟩
abbrev cX6_bytesIn : ByteArray := prog_8_method_4_code
def yX6_bytesIn : MethodName := ⟨RX6, "bytesIn", "(I)I"⟩
abbrev cX6_append : ByteArray := prog_8_method_5_code
def yX6_append : MethodName := ⟨RX6, "append", "(I)V"⟩
abbrev cX6_faultOfLine : ByteArray := prog_8_method_6_code
def yX6_faultOfLine : MethodName := ⟨RX6, "faultOfLine", "()I"⟩
abbrev cX6_faultOfScript : ByteArray := prog_8_method_7_code
def yX6_faultOfScript : MethodName := ⟨RX6, "faultOfScript", "()I"⟩
abbrev cX6_readClause : ByteArray := prog_8_method_8_code
def yX6_readClause : MethodName := ⟨RX6, "readClause", "()Z"⟩
abbrev cX6_readStep : ByteArray := prog_8_method_9_code
def yX6_readStep : MethodName := ⟨RX6, "readStep", "()Z"⟩
abbrev cX6_passMark : ByteArray := prog_8_method_10_code
def yX6_passMark : MethodName := ⟨RX6, "passMark", "(Z)Z"⟩
abbrev cX6_readNumber : ByteArray := prog_8_method_11_code
def yX6_readNumber : MethodName := ⟨RX6, "readNumber", "(II)Z"⟩
abbrev cX6_clauseHere : ByteArray := prog_8_method_12_code
def yX6_clauseHere : MethodName := ⟨RX6, "clauseHere", "()I"⟩
abbrev cX6_stepHere : ByteArray := prog_8_method_13_code
def yX6_stepHere : MethodName := ⟨RX6, "stepHere", "()I"⟩
abbrev cX6_endOfLetters : ByteArray := prog_8_method_14_code
def yX6_endOfLetters : MethodName := ⟨RX6, "endOfLetters", "()I"⟩
abbrev cX6_stands : ByteArray := prog_8_method_15_code
def yX6_stands : MethodName := ⟨RX6, "stands", "(Ljava/lang/String;I)Z"⟩
abbrev cX6_passByte : ByteArray := prog_8_method_16_code
def yX6_passByte : MethodName := ⟨RX6, "passByte", "(I)Z"⟩
abbrev cX6_skipBlanks : ByteArray := prog_8_method_17_code
def yX6_skipBlanks : MethodName := ⟨RX6, "skipBlanks", "()V"⟩
abbrev cX6_byteAt : ByteArray := prog_8_method_18_code
def yX6_byteAt : MethodName := ⟨RX6, "byteAt", "(I)I"⟩
abbrev cX6_isDigit : ByteArray := prog_8_method_19_code
def yX6_isDigit : MethodName := ⟨RX6, "isDigit", "(I)Z"⟩
abbrev cX6_refuseAt : ByteArray := prog_8_method_20_code
def yX6_refuseAt : MethodName := ⟨RX6, "refuseAt", "(I)Z"⟩
def RX7 : String := "HuntedEye$Script"
def TX7 : u_T := fun k => match k with
  | 0 => ("HuntedEye$Script", "kinds", "[I", true)
  | 1 => ("HuntedEye$Script", "firsts", "[I", true)
  | 2 => ("HuntedEye$Script", "seconds", "[I", true)
  | _ => ("HuntedEye$Script", "count", "I", false)
def tyX7 : Nat → FieldType := fun k => match k with
  | 0 => .array .int
  | 1 => .array .int
  | 2 => .array .int
  | _ => .int
abbrev wsX70 : List Cond := u_ws RX7 TX7 4
theorem nmX7 : ∀ a, a < 4 → ∀ b, b < 4 → a ≠ b → (TX7 a).2.1 ≠ (TX7 b).2.1 := by decide +kernel
theorem tyX7_ok : ∀ k, k < 4 → parseFieldDescriptor (TX7 k).2.2.1 = some (tyX7 k) := by decide +kernel
abbrev cX7_init : ByteArray := prog_9_method_1_code
def yX7_init : MethodName := ⟨RX7, "<init>", "()V"⟩
abbrev cX7_has : ByteArray := prog_9_method_2_code
def yX7_has : MethodName := ⟨RX7, "has", "(I)Z"⟩
abbrev cX7_open : ByteArray := prog_9_method_3_code
def yX7_open : MethodName := ⟨RX7, "open", "(I)V"⟩
abbrev cX7_put : ByteArray := prog_9_method_4_code
def yX7_put : MethodName := ⟨RX7, "put", "(II)V"⟩
abbrev cX7_part : ByteArray := prog_9_method_5_code
def yX7_part : MethodName := ⟨RX7, "part", "(II)I"⟩
abbrev cX7_copy : ByteArray := prog_9_method_6_code
def yX7_copy : MethodName := ⟨RX7, "copy", "(LHuntedEye$Script;)V"⟩
def RX8 : String := "HuntedEye$State"
def TX8 : u_T := fun k => match k with
  | 0 => ("HuntedEye$State", "taps", "[I", true)
  | 1 => ("HuntedEye$State", "votes", "[I", true)
  | 2 => ("HuntedEye$State", "sent", "[I", true)
  | 3 => ("HuntedEye$State", "kept", "[I", true)
  | 4 => ("HuntedEye$State", "samples", "[I", true)
  | 5 => ("HuntedEye$State", "tally", "LHuntedEye$Tally;", true)
  | 6 => ("HuntedEye$State", "t", "I", false)
  | 7 => ("HuntedEye$State", "phase", "I", false)
  | 8 => ("HuntedEye$State", "phaseVotes", "I", false)
  | 9 => ("HuntedEye$State", "level", "I", false)
  | 10 => ("HuntedEye$State", "levelVotes", "I", false)
  | 11 => ("HuntedEye$State", "gear", "I", false)
  | 12 => ("HuntedEye$State", "noise", "I", false)
  | 13 => ("HuntedEye$State", "train", "I", false)
  | 14 => ("HuntedEye$State", "register", "I", false)
  | 15 => ("HuntedEye$State", "held", "Z", false)
  | 16 => ("HuntedEye$State", "dropped", "Z", false)
  | _ => ("HuntedEye$State", "x", "J", false)
def tyX8 : Nat → FieldType := fun k => match k with
  | 0 => .array .int
  | 1 => .array .int
  | 2 => .array .int
  | 3 => .array .int
  | 4 => .array .int
  | 5 => .object "HuntedEye$Tally"
  | 6 => .int
  | 7 => .int
  | 8 => .int
  | 9 => .int
  | 10 => .int
  | 11 => .int
  | 12 => .int
  | 13 => .int
  | 14 => .int
  | 15 => .boolean
  | 16 => .boolean
  | _ => .long
abbrev wsX80 : List Cond := u_ws RX8 TX8 18
theorem nmX8 : ∀ a, a < 18 → ∀ b, b < 18 → a ≠ b → (TX8 a).2.1 ≠ (TX8 b).2.1 := by decide +kernel
theorem tyX8_ok : ∀ k, k < 18 → parseFieldDescriptor (TX8 k).2.2.1 = some (tyX8 k) := by decide +kernel
abbrev cX8_init : ByteArray := prog_10_method_1_code
def yX8_init : MethodName := ⟨RX8, "<init>", "()V"⟩
abbrev cX8_begin : ByteArray := prog_10_method_2_code
def yX8_begin : MethodName := ⟨RX8, "begin", "(LHuntedEye$Line;)V"⟩
abbrev cX8_forget : ByteArray := prog_10_method_3_code
def yX8_forget : MethodName := ⟨RX8, "forget", "([I)V"⟩
abbrev cX8_copy : ByteArray := prog_10_method_4_code
def yX8_copy : MethodName := ⟨RX8, "copy", "(LHuntedEye$State;)V"⟩
abbrev cX8_fact : ByteArray := prog_10_method_5_code
def yX8_fact : MethodName := ⟨RX8, "fact", "(I)I"⟩
abbrev cX8_earlier : ByteArray := prog_10_method_6_code
def yX8_earlier : MethodName := ⟨RX8, "earlier", "(II)I"⟩
abbrev cX8_putPhase : ByteArray := prog_10_method_7_code
def yX8_putPhase : MethodName := ⟨RX8, "putPhase", "(I)I"⟩
abbrev cX8_putHeld : ByteArray := prog_10_method_8_code
def yX8_putHeld : MethodName := ⟨RX8, "putHeld", "(I)I"⟩
abbrev cX8_putTap : ByteArray := prog_10_method_9_code
def yX8_putTap : MethodName := ⟨RX8, "putTap", "(II)I"⟩
abbrev cX8_putNoise : ByteArray := prog_10_method_10_code
def yX8_putNoise : MethodName := ⟨RX8, "putNoise", "(I)I"⟩
abbrev cX8_putTrain : ByteArray := prog_10_method_11_code
def yX8_putTrain : MethodName := ⟨RX8, "putTrain", "(I)I"⟩
abbrev cX8_wrongIn : ByteArray := prog_10_method_12_code
def yX8_wrongIn : MethodName := ⟨RX8, "wrongIn", "(LHuntedEye$Line;I)I"⟩
abbrev cX8_pass : ByteArray := prog_10_method_13_code
def yX8_pass : MethodName := ⟨RX8, "pass", "(LHuntedEye$Line;)V"⟩
abbrev cX8_sendBit : ByteArray := prog_10_method_14_code
def yX8_sendBit : MethodName := ⟨RX8, "sendBit", "(LHuntedEye$Line;)V"⟩
abbrev cX8_nextBit : ByteArray := prog_10_method_15_code
def yX8_nextBit : MethodName := ⟨RX8, "nextBit", "(LHuntedEye$Line;)I"⟩
abbrev cX8_drawnNoise : ByteArray := prog_10_method_16_code
def yX8_drawnNoise : MethodName := ⟨RX8, "drawnNoise", "()I"⟩
abbrev cX8_receive : ByteArray := prog_10_method_17_code
def yX8_receive : MethodName := ⟨RX8, "receive", "(LHuntedEye$Line;I)V"⟩
abbrev cX8_wouldErr : ByteArray := prog_10_method_18_code
def yX8_wouldErr : MethodName := ⟨RX8, "wouldErr", "(LHuntedEye$Line;I)Z"⟩
abbrev cX8_truthNow : ByteArray := prog_10_method_19_code
def yX8_truthNow : MethodName := ⟨RX8, "truthNow", "(LHuntedEye$Line;)I"⟩
abbrev cX8_sampleWith : ByteArray := prog_10_method_20_code
def yX8_sampleWith : MethodName := ⟨RX8, "sampleWith", "(LHuntedEye$Line;I)I"⟩
abbrev cX8_foreSum : ByteArray := prog_10_method_21_code
def yX8_foreSum : MethodName := ⟨RX8, "foreSum", "(LHuntedEye$Line;I)I"⟩
abbrev cX8_backSum : ByteArray := prog_10_method_22_code
def yX8_backSum : MethodName := ⟨RX8, "backSum", "(LHuntedEye$Line;)I"⟩
abbrev cX8_keepForUnrolling : ByteArray := prog_10_method_23_code
def yX8_keepForUnrolling : MethodName := ⟨RX8, "keepForUnrolling", "(LHuntedEye$Line;I)V"⟩
abbrev cX8_learn : ByteArray := prog_10_method_24_code
def yX8_learn : MethodName := ⟨RX8, "learn", "(LHuntedEye$Line;II)V"⟩
abbrev cX8_vote : ByteArray := prog_10_method_25_code
def yX8_vote : MethodName := ⟨RX8, "vote", "(II)V"⟩
abbrev cX8_voteLevel : ByteArray := prog_10_method_26_code
def yX8_voteLevel : MethodName := ⟨RX8, "voteLevel", "(I)V"⟩
abbrev cX8_votePhase : ByteArray := prog_10_method_27_code
def yX8_votePhase : MethodName := ⟨RX8, "votePhase", "(II)V"⟩
def RX9 : String := "HuntedEye$Step"
def TX9 : u_T := fun k => match k with
  | _ => ("", "", "", false)
def tyX9 : Nat → FieldType := fun k => match k with
  | _ => .int
abbrev wsX90 : List Cond := u_ws RX9 TX9 0
theorem nmX9 : ∀ a, a < 0 → ∀ b, b < 0 → a ≠ b → (TX9 a).2.1 ≠ (TX9 b).2.1 := by decide +kernel
theorem tyX9_ok : ∀ k, k < 0 → parseFieldDescriptor (TX9 k).2.2.1 = some (tyX9 k) := by decide +kernel
abbrev cX9_lowOf : ByteArray := prog_11_method_4_code
def yX9_lowOf : MethodName := ⟨RX9, "lowOf", "(I)I"⟩
abbrev cX9_highOf : ByteArray := prog_11_method_5_code
def yX9_highOf : MethodName := ⟨RX9, "highOf", "(I)I"⟩
def RX10 : String := "HuntedEye$Tally"
def TX10 : u_T := fun k => match k with
  | 0 => ("HuntedEye$Tally", "quiet", "I", false)
  | 1 => ("HuntedEye$Tally", "loud", "I", false)
  | 2 => ("HuntedEye$Tally", "dark", "Z", false)
  | 3 => ("HuntedEye$Tally", "wrong", "I", false)
  | 4 => ("HuntedEye$Tally", "learnt", "I", false)
  | 5 => ("HuntedEye$Tally", "runs", "I", false)
  | 6 => ("HuntedEye$Tally", "longest", "I", false)
  | 7 => ("HuntedEye$Tally", "open", "I", false)
  | 8 => ("HuntedEye$Tally", "right", "I", false)
  | 9 => ("HuntedEye$Tally", "sample", "I", false)
  | 10 => ("HuntedEye$Tally", "z", "I", false)
  | 11 => ("HuntedEye$Tally", "foreSum", "I", false)
  | 12 => ("HuntedEye$Tally", "errorSign", "I", false)
  | 13 => ("HuntedEye$Tally", "marks", "I", false)
  | _ => ("HuntedEye$Tally", "backThen", "[I", true)
def tyX10 : Nat → FieldType := fun k => match k with
  | 0 => .int
  | 1 => .int
  | 2 => .boolean
  | 3 => .int
  | 4 => .int
  | 5 => .int
  | 6 => .int
  | 7 => .int
  | 8 => .int
  | 9 => .int
  | 10 => .int
  | 11 => .int
  | 12 => .int
  | 13 => .int
  | _ => .array .int
abbrev wsX100 : List Cond := u_ws RX10 TX10 15
theorem nmX10 : ∀ a, a < 15 → ∀ b, b < 15 → a ≠ b → (TX10 a).2.1 ≠ (TX10 b).2.1 := by decide +kernel
theorem tyX10_ok : ∀ k, k < 15 → parseFieldDescriptor (TX10 k).2.2.1 = some (tyX10 k) := by decide +kernel
abbrev cX10_init : ByteArray := prog_12_method_1_code
def yX10_init : MethodName := ⟨RX10, "<init>", "()V"⟩
abbrev cX10_copy : ByteArray := prog_12_method_2_code
def yX10_copy : MethodName := ⟨RX10, "copy", "(LHuntedEye$Tally;)V"⟩
abbrev cX10_clear : ByteArray := prog_12_method_3_code
def yX10_clear : MethodName := ⟨RX10, "clear", "()V"⟩
abbrev cX10_hear : ByteArray := prog_12_method_4_code
def yX10_hear : MethodName := ⟨RX10, "hear", "(Z)V"⟩
abbrev cX10_judge : ByteArray := prog_12_method_5_code
def yX10_judge : MethodName := ⟨RX10, "judge", "(ZI)V"⟩
abbrev cX10_closeRun : ByteArray := prog_12_method_6_code
def yX10_closeRun : MethodName := ⟨RX10, "closeRun", "()V"⟩
abbrev cX10_latestIsWrong : ByteArray := prog_12_method_7_code
def yX10_latestIsWrong : MethodName := ⟨RX10, "latestIsWrong", "()Z"⟩
abbrev cX10_zWith : ByteArray := prog_12_method_8_code
def yX10_zWith : MethodName := ⟨RX10, "zWith", "(II)I"⟩
def RX11 : String := "HuntedEye"
def TX11 : u_T := fun k => match k with
  | 0 => ("HuntedEye", "reader", "LHuntedEye$Reader;", true)
  | 1 => ("HuntedEye", "line", "LHuntedEye$Line;", true)
  | 2 => ("HuntedEye", "scripts", "[LHuntedEye$Script;", true)
  | 3 => ("HuntedEye", "state", "LHuntedEye$State;", true)
  | 4 => ("HuntedEye", "past", "[LHuntedEye$State;", true)
  | 5 => ("HuntedEye", "journal", "LHuntedEye$Log;", true)
  | 6 => ("HuntedEye", "imageState", "LHuntedEye$State;", true)
  | 7 => ("HuntedEye", "imageJournal", "LHuntedEye$Log;", true)
  | 8 => ("HuntedEye", "watcher", "LHuntedEye$Eye;", true)
  | 9 => ("HuntedEye", "spread", "LHuntedEye$Burst;", true)
  | 10 => ("HuntedEye", "ahead", "LHuntedEye$Ahead;", true)
  | 11 => ("HuntedEye", "refused", "[I", true)
  | 12 => ("HuntedEye", "hasLine", "Z", false)
  | 13 => ("HuntedEye", "hasImage", "Z", false)
  | 14 => ("HuntedEye", "scriptCount", "I", false)
  | 15 => ("HuntedEye", "pastStart", "I", false)
  | 16 => ("HuntedEye", "pastCount", "I", false)
  | _ => ("HuntedEye", "riskNow", "I", false)
def tyX11 : Nat → FieldType := fun k => match k with
  | 0 => .object "HuntedEye$Reader"
  | 1 => .object "HuntedEye$Line"
  | 2 => .array (.object "HuntedEye$Script")
  | 3 => .object "HuntedEye$State"
  | 4 => .array (.object "HuntedEye$State")
  | 5 => .object "HuntedEye$Log"
  | 6 => .object "HuntedEye$State"
  | 7 => .object "HuntedEye$Log"
  | 8 => .object "HuntedEye$Eye"
  | 9 => .object "HuntedEye$Burst"
  | 10 => .object "HuntedEye$Ahead"
  | 11 => .array .int
  | 12 => .boolean
  | 13 => .boolean
  | 14 => .int
  | 15 => .int
  | 16 => .int
  | _ => .int
abbrev wsX110 : List Cond := u_ws RX11 TX11 18
theorem nmX11 : ∀ a, a < 18 → ∀ b, b < 18 → a ≠ b → (TX11 a).2.1 ≠ (TX11 b).2.1 := by decide +kernel
theorem tyX11_ok : ∀ k, k < 18 → parseFieldDescriptor (TX11 k).2.2.1 = some (tyX11 k) := by decide +kernel
abbrev cX11_init : ByteArray := prog_1_method_1_code
def yX11_init : MethodName := ⟨RX11, "<init>", "()V"⟩
abbrev cX11_feed : ByteArray := prog_1_method_2_code
def yX11_feed : MethodName := ⟨RX11, "feed", "(IIIII)I"⟩
abbrev cX11_end : ByteArray := prog_1_method_3_code
def yX11_end : MethodName := ⟨RX11, "end", "(I)Z"⟩
abbrev cX11_fault : ByteArray := prog_1_method_4_code
def yX11_fault : MethodName := ⟨RX11, "fault", "(I)I"⟩
abbrev cX11_text : ByteArray := prog_1_method_5_code
def yX11_text : MethodName := ⟨RX11, "text", "(I)I"⟩
abbrev cX11_rule : ByteArray := prog_1_method_6_code
def yX11_rule : MethodName := ⟨RX11, "rule", "(I)I"⟩
abbrev cX11_told : ByteArray := prog_1_method_7_code
def yX11_told : MethodName := ⟨RX11, "told", "(II)I"⟩
abbrev cX11_tap : ByteArray := prog_1_method_8_code
def yX11_tap : MethodName := ⟨RX11, "tap", "(II)I"⟩
abbrev cX11_now : ByteArray := prog_1_method_9_code
def yX11_now : MethodName := ⟨RX11, "now", "(I)I"⟩
abbrev cX11_ago : ByteArray := prog_1_method_10_code
def yX11_ago : MethodName := ⟨RX11, "ago", "(II)I"⟩
abbrev cX11_status : ByteArray := prog_1_method_11_code
def yX11_status : MethodName := ⟨RX11, "status", "(I)I"⟩
abbrev cX11_log : ByteArray := prog_1_method_12_code
def yX11_log : MethodName := ⟨RX11, "log", "(II)I"⟩
abbrev cX11_count : ByteArray := prog_1_method_13_code
def yX11_count : MethodName := ⟨RX11, "count", "(I)I"⟩
abbrev cX11_risk : ByteArray := prog_1_method_14_code
def yX11_risk : MethodName := ⟨RX11, "risk", "(I)Z"⟩
abbrev cX11_send : ByteArray := prog_1_method_15_code
def yX11_send : MethodName := ⟨RX11, "send", "(I)I"⟩
abbrev cX11_phase : ByteArray := prog_1_method_16_code
def yX11_phase : MethodName := ⟨RX11, "phase", "(I)I"⟩
abbrev cX11_hold : ByteArray := prog_1_method_17_code
def yX11_hold : MethodName := ⟨RX11, "hold", "(I)I"⟩
abbrev cX11_set : ByteArray := prog_1_method_18_code
def yX11_set : MethodName := ⟨RX11, "set", "(II)I"⟩
abbrev cX11_drop : ByteArray := prog_1_method_19_code
def yX11_drop : MethodName := ⟨RX11, "drop", "()I"⟩
abbrev cX11_change : ByteArray := prog_1_method_20_code
def yX11_change : MethodName := ⟨RX11, "change", "(II)I"⟩
abbrev cX11_dice : ByteArray := prog_1_method_21_code
def yX11_dice : MethodName := ⟨RX11, "dice", "(J)I"⟩
abbrev cX11_seek : ByteArray := prog_1_method_22_code
def yX11_seek : MethodName := ⟨RX11, "seek", "()I"⟩
abbrev cX11_years : ByteArray := prog_1_method_23_code
def yX11_years : MethodName := ⟨RX11, "years", "(IJ)I"⟩
abbrev cX11_undo : ByteArray := prog_1_method_24_code
def yX11_undo : MethodName := ⟨RX11, "undo", "()I"⟩
abbrev cX11_image : ByteArray := prog_1_method_25_code
def yX11_image : MethodName := ⟨RX11, "image", "()I"⟩
abbrev cX11_back : ByteArray := prog_1_method_26_code
def yX11_back : MethodName := ⟨RX11, "back", "()I"⟩
abbrev cX11_step : ByteArray := prog_1_method_27_code
def yX11_step : MethodName := ⟨RX11, "step", "(III)I"⟩
abbrev cX11_run : ByteArray := prog_1_method_28_code
def yX11_run : MethodName := ⟨RX11, "run", "(II)I"⟩
abbrev cX11_perform : ByteArray := prog_1_method_29_code
def yX11_perform : MethodName := ⟨RX11, "perform", "(I)I"⟩
abbrev cX11_eye : ByteArray := prog_1_method_30_code
def yX11_eye : MethodName := ⟨RX11, "eye", "(II)I"⟩
abbrev cX11_opening : ByteArray := prog_1_method_31_code
def yX11_opening : MethodName := ⟨RX11, "opening", "(II)I"⟩
abbrev cX11_weigh : ByteArray := prog_1_method_32_code
def yX11_weigh : MethodName := ⟨RX11, "weigh", "(III)I"⟩
abbrev cX11_map : ByteArray := prog_1_method_33_code
def yX11_map : MethodName := ⟨RX11, "map", "(I)I"⟩
abbrev cX11_bears : ByteArray := prog_1_method_34_code
def yX11_bears : MethodName := ⟨RX11, "bears", "(I)I"⟩
abbrev cX11_burst : ByteArray := prog_1_method_35_code
def yX11_burst : MethodName := ⟨RX11, "burst", "(II)I"⟩
abbrev cX11_bursts : ByteArray := prog_1_method_36_code
def yX11_bursts : MethodName := ⟨RX11, "bursts", "()I"⟩
abbrev cX11_unrolled : ByteArray := prog_1_method_37_code
def yX11_unrolled : MethodName := ⟨RX11, "unrolled", "(I)I"⟩
abbrev cX11_improved : ByteArray := prog_1_method_38_code
def yX11_improved : MethodName := ⟨RX11, "improved", "(II)I"⟩
abbrev cX11_settled : ByteArray := prog_1_method_39_code
def yX11_settled : MethodName := ⟨RX11, "settled", "(I)I"⟩
abbrev cX11_quickest : ByteArray := prog_1_method_40_code
def yX11_quickest : MethodName := ⟨RX11, "quickest", "(I)I"⟩
abbrev cX11_coming : ByteArray := prog_1_method_41_code
def yX11_coming : MethodName := ⟨RX11, "coming", "(II)I"⟩
abbrev cX11_gain : ByteArray := prog_1_method_42_code
def yX11_gain : MethodName := ⟨RX11, "gain", "(I)I"⟩
abbrev cX11_worst : ByteArray := prog_1_method_43_code
def yX11_worst : MethodName := ⟨RX11, "worst", "(II)I"⟩
abbrev cX11_odds : ByteArray := prog_1_method_44_code
def yX11_odds : MethodName := ⟨RX11, "odds", "(I)I"⟩
abbrev cX11_takeLine : ByteArray := prog_1_method_45_code
def yX11_takeLine : MethodName := ⟨RX11, "takeLine", "()I"⟩
abbrev cX11_takeScript : ByteArray := prog_1_method_46_code
def yX11_takeScript : MethodName := ⟨RX11, "takeScript", "()I"⟩
abbrev cX11_tapCount : ByteArray := prog_1_method_47_code
def yX11_tapCount : MethodName := ⟨RX11, "tapCount", "()I"⟩
abbrev cX11_logLength : ByteArray := prog_1_method_48_code
def yX11_logLength : MethodName := ⟨RX11, "logLength", "()I"⟩
abbrev cX11_isTap : ByteArray := prog_1_method_49_code
def yX11_isTap : MethodName := ⟨RX11, "isTap", "(I)Z"⟩
abbrev cX11_isScript : ByteArray := prog_1_method_50_code
def yX11_isScript : MethodName := ⟨RX11, "isScript", "(I)Z"⟩
abbrev cX11_isPhase : ByteArray := prog_1_method_51_code
def yX11_isPhase : MethodName := ⟨RX11, "isPhase", "(I)Z"⟩
abbrev cX11_isRefused : ByteArray := prog_1_method_52_code
def yX11_isRefused : MethodName := ⟨RX11, "isRefused", "(III)Z"⟩
abbrev cX11_refusal : ByteArray := prog_1_method_53_code
def yX11_refusal : MethodName := ⟨RX11, "refusal", "(LHuntedEye$State;III)I"⟩
abbrev cX11_refusalToSet : ByteArray := prog_1_method_54_code
def yX11_refusalToSet : MethodName := ⟨RX11, "refusalToSet", "(IIII)I"⟩
abbrev cX11_canStep : ByteArray := prog_1_method_55_code
def yX11_canStep : MethodName := ⟨RX11, "canStep", "(LHuntedEye$State;LHuntedEye$Script;I)Z"⟩
abbrev cX11_act : ByteArray := prog_1_method_56_code
def yX11_act : MethodName := ⟨RX11, "act", "(III)I"⟩
abbrev cX11_sendLogged : ByteArray := prog_1_method_57_code
def yX11_sendLogged : MethodName := ⟨RX11, "sendLogged", "(I)I"⟩
abbrev cX11_carryOut : ByteArray := prog_1_method_58_code
def yX11_carryOut : MethodName := ⟨RX11, "carryOut", "(LHuntedEye$State;III)I"⟩
abbrev cX11_remember : ByteArray := prog_1_method_59_code
def yX11_remember : MethodName := ⟨RX11, "remember", "()V"⟩
abbrev cX11_liveYear : ByteArray := prog_1_method_60_code
def yX11_liveYear : MethodName := ⟨RX11, "liveYear", "(J)J"⟩
abbrev cX11_mishap : ByteArray := prog_1_method_61_code
def yX11_mishap : MethodName := ⟨RX11, "mishap", "(JI)J"⟩
abbrev cX11_within : ByteArray := prog_1_method_62_code
def yX11_within : MethodName := ⟨RX11, "within", "(III)Z"⟩
abbrev cX11_signOf : ByteArray := prog_1_method_63_code
def yX11_signOf : MethodName := ⟨RX11, "signOf", "(I)I"⟩
abbrev cX11_sizeOf : ByteArray := prog_1_method_64_code
def yX11_sizeOf : MethodName := ⟨RX11, "sizeOf", "(I)I"⟩
abbrev cX11_bitSign : ByteArray := prog_1_method_65_code
def yX11_bitSign : MethodName := ⟨RX11, "bitSign", "(II)I"⟩
abbrev cX11_truthOf : ByteArray := prog_1_method_66_code
def yX11_truthOf : MethodName := ⟨RX11, "truthOf", "(LHuntedEye$Line;I)I"⟩
abbrev cX11_turned : ByteArray := prog_1_method_67_code
def yX11_turned : MethodName := ⟨RX11, "turned", "(J)J"⟩
abbrev cX11_drawn : ByteArray := prog_1_method_68_code
def yX11_drawn : MethodName := ⟨RX11, "drawn", "(JI)I"⟩
abbrev cX11_push : ByteArray := prog_1_method_69_code
def yX11_push : MethodName := ⟨RX11, "push", "([II)V"⟩
abbrev cX11_moved : ByteArray := prog_1_method_70_code
def yX11_moved : MethodName := ⟨RX11, "moved", "(IIII)I"⟩
def RX12 : String := "HuntedEyeModel"
def TX12 : u_T := fun k => match k with
  | 0 => ("HuntedEyeModel", "thrown", "I", false)
  | 1 => ("HuntedEyeModel", "tape", "[I", true)
  | 2 => ("HuntedEyeModel", "taped", "I", false)
  | 3 => ("HuntedEyeModel", "at", "I", false)
  | 4 => ("HuntedEyeModel", "wrong", "I", false)
  | 5 => ("HuntedEyeModel", "part", "I", false)
  | 6 => ("HuntedEyeModel", "partFrom", "I", false)
  | 7 => ("HuntedEyeModel", "partNumber", "I", false)
  | 8 => ("HuntedEyeModel", "partWord", "J", false)
  | 9 => ("HuntedEyeModel", "readRule", "[I", true)
  | 10 => ("HuntedEyeModel", "readPulse", "[I", true)
  | 11 => ("HuntedEyeModel", "readBits", "[I", true)
  | 12 => ("HuntedEyeModel", "rule", "[I", true)
  | 13 => ("HuntedEyeModel", "pulse", "[I", true)
  | 14 => ("HuntedEyeModel", "bits", "[I", true)
  | 15 => ("HuntedEyeModel", "isLine", "Z", false)
  | 16 => ("HuntedEyeModel", "script", "[I", true)
  | 17 => ("HuntedEyeModel", "scriptLong", "[I", true)
  | 18 => ("HuntedEyeModel", "scripts", "I", false)
  | 19 => ("HuntedEyeModel", "now", "[I", true)
  | 20 => ("HuntedEyeModel", "refused", "[I", true)
  | 21 => ("HuntedEyeModel", "risky", "I", false)
  | 22 => ("HuntedEyeModel", "gear", "I", false)
  | 23 => ("HuntedEyeModel", "noiseTold", "I", false)
  | 24 => ("HuntedEyeModel", "isTrial", "Z", false)
  | 25 => ("HuntedEyeModel", "high", "I", false)
  | 26 => ("HuntedEyeModel", "low", "I", false)
  | 27 => ("HuntedEyeModel", "kept", "[I", true)
  | 28 => ("HuntedEyeModel", "acts", "I", false)
  | 29 => ("HuntedEyeModel", "drawn", "J", false)
  | 30 => ("HuntedEyeModel", "aside", "[I", true)
  | 31 => ("HuntedEyeModel", "stepsDone", "I", false)
  | 32 => ("HuntedEyeModel", "stepsWrong", "I", false)
  | 33 => ("HuntedEyeModel", "follows", "[I", true)
  | 34 => ("HuntedEyeModel", "wrongMost", "[I", true)
  | 35 => ("HuntedEyeModel", "isKnown", "[Z", true)
  | 36 => ("HuntedEyeModel", "isWrongNext", "[Z", true)
  | 37 => ("HuntedEyeModel", "path", "[I", true)
  | 38 => ("HuntedEyeModel", "image", "[I", true)
  | _ => ("HuntedEyeModel", "hasImage", "Z", false)
def tyX12 : Nat → FieldType := fun k => match k with
  | 0 => .int
  | 1 => .array .int
  | 2 => .int
  | 3 => .int
  | 4 => .int
  | 5 => .int
  | 6 => .int
  | 7 => .int
  | 8 => .long
  | 9 => .array .int
  | 10 => .array .int
  | 11 => .array .int
  | 12 => .array .int
  | 13 => .array .int
  | 14 => .array .int
  | 15 => .boolean
  | 16 => .array .int
  | 17 => .array .int
  | 18 => .int
  | 19 => .array .int
  | 20 => .array .int
  | 21 => .int
  | 22 => .int
  | 23 => .int
  | 24 => .boolean
  | 25 => .int
  | 26 => .int
  | 27 => .array .int
  | 28 => .int
  | 29 => .long
  | 30 => .array .int
  | 31 => .int
  | 32 => .int
  | 33 => .array .int
  | 34 => .array .int
  | 35 => .array .boolean
  | 36 => .array .boolean
  | 37 => .array .int
  | 38 => .array .int
  | _ => .boolean
abbrev wsX120 : List Cond := u_ws RX12 TX12 40
theorem nmX12 : ∀ a, a < 40 → ∀ b, b < 40 → a ≠ b → (TX12 a).2.1 ≠ (TX12 b).2.1 := by decide +kernel
theorem tyX12_ok : ∀ k, k < 40 → parseFieldDescriptor (TX12 k).2.2.1 = some (tyX12 k) := by decide +kernel
abbrev cX12_in : ByteArray := prog_14_method_1_code
def yX12_in : MethodName := ⟨RX12, "in", "(III)Z"⟩
abbrev cX12_has : ByteArray := prog_14_method_2_code
def yX12_has : MethodName := ⟨RX12, "has", "(II)Z"⟩
abbrev cX12_sign : ByteArray := prog_14_method_3_code
def yX12_sign : MethodName := ⟨RX12, "sign", "(I)I"⟩
abbrev cX12_size : ByteArray := prog_14_method_4_code
def yX12_size : MethodName := ⟨RX12, "size", "(I)I"⟩
abbrev cX12_held : ByteArray := prog_14_method_5_code
def yX12_held : MethodName := ⟨RX12, "held", "(III)I"⟩
abbrev cX12_init : ByteArray := prog_14_method_6_code
def yX12_init : MethodName := ⟨RX12, "<init>", "()V"⟩
abbrev cX12_thrown : ByteArray := prog_14_method_7_code
def yX12_thrown : MethodName := ⟨RX12, "thrown", "()I"⟩
abbrev cX12_byteOf : ByteArray := prog_14_method_8_code
def yX12_byteOf : MethodName := ⟨RX12, "byteOf", "(IIIIII)I"⟩
abbrev cX12_feed : ByteArray := prog_14_method_9_code
def yX12_feed : MethodName := ⟨RX12, "feed", "(IIIII)I"⟩
abbrev cX12_end : ByteArray := prog_14_method_10_code
def yX12_end : MethodName := ⟨RX12, "end", "(I)Z"⟩
abbrev cX12_here : ByteArray := prog_14_method_11_code
def yX12_here : MethodName := ⟨RX12, "here", "()I"⟩
abbrev cX12_isDigit : ByteArray := prog_14_method_12_code
def yX12_isDigit : MethodName := ⟨RX12, "isDigit", "(I)Z"⟩
abbrev cX12_isLetter : ByteArray := prog_14_method_13_code
def yX12_isLetter : MethodName := ⟨RX12, "isLetter", "(I)Z"⟩
abbrev cX12_nextWord : ByteArray := prog_14_method_14_code
def yX12_nextWord : MethodName := ⟨RX12, "nextWord", "()V"⟩
abbrev cX12_nextNumber : ByteArray := prog_14_method_15_code
def yX12_nextNumber : MethodName := ⟨RX12, "nextNumber", "(Z)V"⟩
abbrev cX12_next : ByteArray := prog_14_method_16_code
def yX12_next : MethodName := ⟨RX12, "next", "()V"⟩
abbrev cX12_bad : ByteArray := prog_14_method_17_code
def yX12_bad : MethodName := ⟨RX12, "bad", "()V"⟩
abbrev cX12_word : ByteArray := prog_14_method_18_code
def yX12_word : MethodName := ⟨RX12, "word", "(IIIII)J"⟩
abbrev cX12_shortWord : ByteArray := prog_14_method_19_code
def yX12_shortWord : MethodName := ⟨RX12, "shortWord", "(III)J"⟩
abbrev cX12_lineWord : ByteArray := prog_14_method_20_code
def yX12_lineWord : MethodName := ⟨RX12, "lineWord", "(I)J"⟩
abbrev cX12_stepWord : ByteArray := prog_14_method_21_code
def yX12_stepWord : MethodName := ⟨RX12, "stepWord", "(I)J"⟩
abbrev cX12_lowest : ByteArray := prog_14_method_22_code
def yX12_lowest : MethodName := ⟨RX12, "lowest", "(I)I"⟩
abbrev cX12_highest : ByteArray := prog_14_method_23_code
def yX12_highest : MethodName := ⟨RX12, "highest", "(I)I"⟩
abbrev cX12_usual : ByteArray := prog_14_method_24_code
def yX12_usual : MethodName := ⟨RX12, "usual", "(I)I"⟩
abbrev cX12_wordAsked : ByteArray := prog_14_method_25_code
def yX12_wordAsked : MethodName := ⟨RX12, "wordAsked", "(Z)I"⟩
abbrev cX12_manyNumbers : ByteArray := prog_14_method_26_code
def yX12_manyNumbers : MethodName := ⟨RX12, "manyNumbers", "(I[I)I"⟩
abbrev cX12_clause : ByteArray := prog_14_method_27_code
def yX12_clause : MethodName := ⟨RX12, "clause", "(I)V"⟩
abbrev cX12_readLine : ByteArray := prog_14_method_28_code
def yX12_readLine : MethodName := ⟨RX12, "readLine", "()I"⟩
abbrev cX12_stepLow : ByteArray := prog_14_method_29_code
def yX12_stepLow : MethodName := ⟨RX12, "stepLow", "(II)I"⟩
abbrev cX12_stepHigh : ByteArray := prog_14_method_30_code
def yX12_stepHigh : MethodName := ⟨RX12, "stepHigh", "(II)I"⟩
abbrev cX12_stepNumbers : ByteArray := prog_14_method_31_code
def yX12_stepNumbers : MethodName := ⟨RX12, "stepNumbers", "(II)V"⟩
abbrev cX12_readScript : ByteArray := prog_14_method_32_code
def yX12_readScript : MethodName := ⟨RX12, "readScript", "(I)I"⟩
abbrev cX12_fault : ByteArray := prog_14_method_33_code
def yX12_fault : MethodName := ⟨RX12, "fault", "(I)I"⟩
abbrev cX12_taps : ByteArray := prog_14_method_34_code
def yX12_taps : MethodName := ⟨RX12, "taps", "()I"⟩
abbrev cX12_takeLine : ByteArray := prog_14_method_35_code
def yX12_takeLine : MethodName := ⟨RX12, "takeLine", "()I"⟩
abbrev cX12_text : ByteArray := prog_14_method_36_code
def yX12_text : MethodName := ⟨RX12, "text", "(I)I"⟩
abbrev cX12_drawNoise : ByteArray := prog_14_method_37_code
def yX12_drawNoise : MethodName := ⟨RX12, "drawNoise", "(I)I"⟩
abbrev cX12_nextBit : ByteArray := prog_14_method_38_code
def yX12_nextBit : MethodName := ⟨RX12, "nextBit", "()I"⟩
abbrev cX12_shift : ByteArray := prog_14_method_39_code
def yX12_shift : MethodName := ⟨RX12, "shift", "(III)V"⟩
abbrev cX12_clean : ByteArray := prog_14_method_40_code
def yX12_clean : MethodName := ⟨RX12, "clean", "(I)I"⟩
abbrev cX12_noise : ByteArray := prog_14_method_41_code
def yX12_noise : MethodName := ⟨RX12, "noise", "()I"⟩
abbrev cX12_takenOff : ByteArray := prog_14_method_42_code
def yX12_takenOff : MethodName := ⟨RX12, "takenOff", "()I"⟩
abbrev cX12_weighNow : ByteArray := prog_14_method_43_code
def yX12_weighNow : MethodName := ⟨RX12, "weighNow", "()V"⟩
abbrev cX12_hush : ByteArray := prog_14_method_44_code
def yX12_hush : MethodName := ⟨RX12, "hush", "(Z)V"⟩
abbrev cX12_vote : ByteArray := prog_14_method_45_code
def yX12_vote : MethodName := ⟨RX12, "vote", "(IIIIII)V"⟩
abbrev cX12_learn : ByteArray := prog_14_method_46_code
def yX12_learn : MethodName := ⟨RX12, "learn", "(II)V"⟩
abbrev cX12_runOn : ByteArray := prog_14_method_47_code
def yX12_runOn : MethodName := ⟨RX12, "runOn", "(Z)V"⟩
abbrev cX12_note : ByteArray := prog_14_method_48_code
def yX12_note : MethodName := ⟨RX12, "note", "(II)V"⟩
abbrev cX12_symbol : ByteArray := prog_14_method_49_code
def yX12_symbol : MethodName := ⟨RX12, "symbol", "()Z"⟩
abbrev cX12_symbols : ByteArray := prog_14_method_50_code
def yX12_symbols : MethodName := ⟨RX12, "symbols", "(I)I"⟩
abbrev cX12_weighRow : ByteArray := prog_14_method_51_code
def yX12_weighRow : MethodName := ⟨RX12, "weighRow", "(III)I"⟩
abbrev cX12_layOpening : ByteArray := prog_14_method_52_code
def yX12_layOpening : MethodName := ⟨RX12, "layOpening", "(I)V"⟩
abbrev cX12_heightOf : ByteArray := prog_14_method_53_code
def yX12_heightOf : MethodName := ⟨RX12, "heightOf", "(I)I"⟩
abbrev cX12_better : ByteArray := prog_14_method_54_code
def yX12_better : MethodName := ⟨RX12, "better", "(I)I"⟩
abbrev cX12_seekNow : ByteArray := prog_14_method_55_code
def yX12_seekNow : MethodName := ⟨RX12, "seekNow", "()V"⟩
abbrev cX12_keep : ByteArray := prog_14_method_56_code
def yX12_keep : MethodName := ⟨RX12, "keep", "()V"⟩
abbrev cX12_isRefused : ByteArray := prog_14_method_57_code
def yX12_isRefused : MethodName := ⟨RX12, "isRefused", "(I)Z"⟩
abbrev cX12_isTap : ByteArray := prog_14_method_58_code
def yX12_isTap : MethodName := ⟨RX12, "isTap", "(I)Z"⟩
abbrev cX12_send : ByteArray := prog_14_method_59_code
def yX12_send : MethodName := ⟨RX12, "send", "(I)I"⟩
abbrev cX12_setOne : ByteArray := prog_14_method_60_code
def yX12_setOne : MethodName := ⟨RX12, "setOne", "(III)I"⟩
abbrev cX12_phase : ByteArray := prog_14_method_61_code
def yX12_phase : MethodName := ⟨RX12, "phase", "(I)I"⟩
abbrev cX12_hold : ByteArray := prog_14_method_62_code
def yX12_hold : MethodName := ⟨RX12, "hold", "(I)I"⟩
abbrev cX12_set : ByteArray := prog_14_method_63_code
def yX12_set : MethodName := ⟨RX12, "set", "(II)I"⟩
abbrev cX12_drop : ByteArray := prog_14_method_64_code
def yX12_drop : MethodName := ⟨RX12, "drop", "()I"⟩
abbrev cX12_change : ByteArray := prog_14_method_65_code
def yX12_change : MethodName := ⟨RX12, "change", "(II)I"⟩
abbrev cX12_dice : ByteArray := prog_14_method_66_code
def yX12_dice : MethodName := ⟨RX12, "dice", "(J)I"⟩
abbrev cX12_seek : ByteArray := prog_14_method_67_code
def yX12_seek : MethodName := ⟨RX12, "seek", "()I"⟩
abbrev cX12_risk : ByteArray := prog_14_method_68_code
def yX12_risk : MethodName := ⟨RX12, "risk", "(I)Z"⟩
abbrev cX12_draw : ByteArray := prog_14_method_69_code
def yX12_draw : MethodName := ⟨RX12, "draw", "(I)I"⟩
abbrev cX12_drawYear : ByteArray := prog_14_method_70_code
def yX12_drawYear : MethodName := ⟨RX12, "drawYear", "()V"⟩
abbrev cX12_years : ByteArray := prog_14_method_71_code
def yX12_years : MethodName := ⟨RX12, "years", "(IJ)I"⟩
abbrev cX12_status : ByteArray := prog_14_method_72_code
def yX12_status : MethodName := ⟨RX12, "status", "(I)I"⟩
abbrev cX12_undo : ByteArray := prog_14_method_73_code
def yX12_undo : MethodName := ⟨RX12, "undo", "()I"⟩
abbrev cX12_log : ByteArray := prog_14_method_74_code
def yX12_log : MethodName := ⟨RX12, "log", "(II)I"⟩
abbrev cX12_rule : ByteArray := prog_14_method_75_code
def yX12_rule : MethodName := ⟨RX12, "rule", "(I)I"⟩
abbrev cX12_told : ByteArray := prog_14_method_76_code
def yX12_told : MethodName := ⟨RX12, "told", "(II)I"⟩
abbrev cX12_tap : ByteArray := prog_14_method_77_code
def yX12_tap : MethodName := ⟨RX12, "tap", "(II)I"⟩
abbrev cX12_now : ByteArray := prog_14_method_78_code
def yX12_now : MethodName := ⟨RX12, "now", "(I)I"⟩
abbrev cX12_ago : ByteArray := prog_14_method_79_code
def yX12_ago : MethodName := ⟨RX12, "ago", "(II)I"⟩
abbrev cX12_putAside : ByteArray := prog_14_method_80_code
def yX12_putAside : MethodName := ⟨RX12, "putAside", "(I)V"⟩
abbrev cX12_bringBack : ByteArray := prog_14_method_81_code
def yX12_bringBack : MethodName := ⟨RX12, "bringBack", "(I)V"⟩
abbrev cX12_isScript : ByteArray := prog_14_method_82_code
def yX12_isScript : MethodName := ⟨RX12, "isScript", "(I)Z"⟩
abbrev cX12_step : ByteArray := prog_14_method_83_code
def yX12_step : MethodName := ⟨RX12, "step", "(III)I"⟩
abbrev cX12_canStep : ByteArray := prog_14_method_84_code
def yX12_canStep : MethodName := ⟨RX12, "canStep", "(I)Z"⟩
abbrev cX12_doStep : ByteArray := prog_14_method_85_code
def yX12_doStep : MethodName := ⟨RX12, "doStep", "(I)I"⟩
abbrev cX12_goSteps : ByteArray := prog_14_method_86_code
def yX12_goSteps : MethodName := ⟨RX12, "goSteps", "(IZ)V"⟩
abbrev cX12_run : ByteArray := prog_14_method_87_code
def yX12_run : MethodName := ⟨RX12, "run", "(II)I"⟩
abbrev cX12_perform : ByteArray := prog_14_method_88_code
def yX12_perform : MethodName := ⟨RX12, "perform", "(I)I"⟩
abbrev cX12_isPhase : ByteArray := prog_14_method_89_code
def yX12_isPhase : MethodName := ⟨RX12, "isPhase", "(I)Z"⟩
abbrev cX12_eye : ByteArray := prog_14_method_90_code
def yX12_eye : MethodName := ⟨RX12, "eye", "(II)I"⟩
abbrev cX12_opening : ByteArray := prog_14_method_91_code
def yX12_opening : MethodName := ⟨RX12, "opening", "(II)I"⟩
abbrev cX12_weigh : ByteArray := prog_14_method_92_code
def yX12_weigh : MethodName := ⟨RX12, "weigh", "(III)I"⟩
abbrev cX12_wholeOnes : ByteArray := prog_14_method_93_code
def yX12_wholeOnes : MethodName := ⟨RX12, "wholeOnes", "(I)I"⟩
abbrev cX12_map : ByteArray := prog_14_method_94_code
def yX12_map : MethodName := ⟨RX12, "map", "(I)I"⟩
abbrev cX12_bears : ByteArray := prog_14_method_95_code
def yX12_bears : MethodName := ⟨RX12, "bears", "(I)I"⟩
abbrev cX12_stateNext : ByteArray := prog_14_method_96_code
def yX12_stateNext : MethodName := ⟨RX12, "stateNext", "(II)I"⟩
abbrev cX12_tryState : ByteArray := prog_14_method_97_code
def yX12_tryState : MethodName := ⟨RX12, "tryState", "(I)Z"⟩
abbrev cX12_layBursts : ByteArray := prog_14_method_98_code
def yX12_layBursts : MethodName := ⟨RX12, "layBursts", "()V"⟩
abbrev cX12_burstOf : ByteArray := prog_14_method_99_code
def yX12_burstOf : MethodName := ⟨RX12, "burstOf", "(II)I"⟩
abbrev cX12_burst : ByteArray := prog_14_method_100_code
def yX12_burst : MethodName := ⟨RX12, "burst", "(II)I"⟩
abbrev cX12_bursts : ByteArray := prog_14_method_101_code
def yX12_bursts : MethodName := ⟨RX12, "bursts", "()I"⟩
abbrev cX12_unrolled : ByteArray := prog_14_method_102_code
def yX12_unrolled : MethodName := ⟨RX12, "unrolled", "(I)I"⟩
abbrev cX12_improved : ByteArray := prog_14_method_103_code
def yX12_improved : MethodName := ⟨RX12, "improved", "(II)I"⟩
abbrev cX12_isKeeping : ByteArray := prog_14_method_104_code
def yX12_isKeeping : MethodName := ⟨RX12, "isKeeping", "(II)Z"⟩
abbrev cX12_settledBy : ByteArray := prog_14_method_105_code
def yX12_settledBy : MethodName := ⟨RX12, "settledBy", "(I)I"⟩
abbrev cX12_settled : ByteArray := prog_14_method_106_code
def yX12_settled : MethodName := ⟨RX12, "settled", "(I)I"⟩
abbrev cX12_quickest : ByteArray := prog_14_method_107_code
def yX12_quickest : MethodName := ⟨RX12, "quickest", "(I)I"⟩
abbrev cX12_coming : ByteArray := prog_14_method_108_code
def yX12_coming : MethodName := ⟨RX12, "coming", "(II)I"⟩
abbrev cX12_wrongIn : ByteArray := prog_14_method_109_code
def yX12_wrongIn : MethodName := ⟨RX12, "wrongIn", "(II)I"⟩
abbrev cX12_gain : ByteArray := prog_14_method_110_code
def yX12_gain : MethodName := ⟨RX12, "gain", "(I)I"⟩
abbrev cX12_wrongByDrop : ByteArray := prog_14_method_111_code
def yX12_wrongByDrop : MethodName := ⟨RX12, "wrongByDrop", "(I)I"⟩
abbrev cX12_worst : ByteArray := prog_14_method_112_code
def yX12_worst : MethodName := ⟨RX12, "worst", "(II)I"⟩
abbrev cX12_clearFrom : ByteArray := prog_14_method_113_code
def yX12_clearFrom : MethodName := ⟨RX12, "clearFrom", "(II)I"⟩
abbrev cX12_odds : ByteArray := prog_14_method_114_code
def yX12_odds : MethodName := ⟨RX12, "odds", "(I)I"⟩
abbrev cX12_image : ByteArray := prog_14_method_115_code
def yX12_image : MethodName := ⟨RX12, "image", "()I"⟩
abbrev cX12_back : ByteArray := prog_14_method_116_code
def yX12_back : MethodName := ⟨RX12, "back", "()I"⟩
abbrev cX12_count : ByteArray := prog_14_method_117_code
def yX12_count : MethodName := ⟨RX12, "count", "(I)I"⟩
def RJ9 : String := "java/lang/Math"
def TJ9 : u_T := fun k => match k with
  | _ => ("", "", "", false)
def tyJ9 : Nat → FieldType := fun k => match k with
  | _ => .int
abbrev wsJ90 : List Cond := u_ws RJ9 TJ9 0
theorem nmJ9 : ∀ a, a < 0 → ∀ b, b < 0 → a ≠ b → (TJ9 a).2.1 ≠ (TJ9 b).2.1 := by decide +kernel
theorem tyJ9_ok : ∀ k, k < 0 → parseFieldDescriptor (TJ9 k).2.2.1 = some (tyJ9 k) := by decide +kernel
abbrev cJ9_floorDiv_7cf53 : ByteArray := prog_18_method_47_code
def yJ9_floorDiv_7cf53 : MethodName := ⟨RJ9, "floorDiv", "(II)I"⟩
abbrev cJ9_floorMod_7cf53 : ByteArray := prog_18_method_50_code
def yJ9_floorMod_7cf53 : MethodName := ⟨RJ9, "floorMod", "(II)I"⟩
abbrev cJ9_max_7cf53 : ByteArray := prog_18_method_65_code
def yJ9_max_7cf53 : MethodName := ⟨RJ9, "max", "(II)I"⟩
abbrev cJ9_min_7cf53 : ByteArray := prog_18_method_69_code
def yJ9_min_7cf53 : MethodName := ⟨RJ9, "min", "(II)I"⟩
abbrev vwCl : List vw_C := [(RX0, TX0, 2), (RX1, TX1, 6), (RX3, TX3, 5), (RX4, TX4, 3), (RX5, TX5, 3), (RX6, TX6, 8), (RX7, TX7, 4), (RX8, TX8, 18), (RX10, TX10, 15), (RX11, TX11, 18), (RX12, TX12, 40)]
end
section
/-- the kinds of cells: the number of the class in vwCl; its fields (0 a number, 1 a long, 2 a truth value, or where a reference leads: which kind, which one) -/
def sClsL : List (Option Nat) := [some 9, some 5, none, none, some 3, none, none, none, some 6, none, none, none, some 7, none, none, none, none, none, some 8, none, some 4, none, none, none, some 2, none, none, none, some 1, none, none, none, none, none, some 0, none, none, none, none, none, some 10, none, none, none, none, none, none, none, none, none, none, none, none, none, none, none, none, none, none, none, none]
def sCls (t : Nat) : Option Nat := sClsL.getD t none
def sFlL : List (List (Nat ⊕ (Nat × Option Nat))) := [[.inr (1, some 0), .inr (4, some 0), .inr (38, some 0), .inr (12, some 40), .inr (39, some 0), .inr (20, some 0), .inr (12, some 41), .inr (20, some 1), .inr (24, some 0), .inr (28, some 0), .inr (34, some 0), .inr (37, some 0), .inl 2, .inl 2, .inl 0, .inl 0, .inl 0, .inl 0], [.inr (2, some 0), .inr (3, some 0), .inr (4, some 1), .inr (8, some 4), .inl 0, .inl 0, .inl 0, .inl 0], [], [], [.inr (5, none), .inr (6, none), .inr (7, none)], [], [], [], [.inr (9, none), .inr (10, none), .inr (11, none), .inl 0], [], [], [], [.inr (13, none), .inr (14, none), .inr (15, none), .inr (16, none), .inr (17, none), .inr (18, none), .inl 0, .inl 0, .inl 0, .inl 0, .inl 0, .inl 0, .inl 0, .inl 0, .inl 0, .inl 2, .inl 2, .inl 1], [], [], [], [], [], [.inl 0, .inl 0, .inl 2, .inl 0, .inl 0, .inl 0, .inl 0, .inl 0, .inl 0, .inl 0, .inl 0, .inl 0, .inl 0, .inl 0, .inr (19, none)], [], [.inr (21, none), .inr (22, none), .inr (23, none)], [], [], [], [.inr (25, some 0), .inr (26, some 0), .inr (27, some 0), .inl 0, .inl 0], [], [], [], [.inr (29, some 0), .inr (30, some 0), .inr (31, some 0), .inr (32, some 0), .inr (33, some 0), .inl 0], [], [], [], [], [], [.inr (35, some 0), .inr (36, some 0)], [], [], [], [], [], [.inl 0, .inr (41, some 0), .inl 0, .inl 0, .inl 0, .inl 0, .inl 0, .inl 0, .inl 1, .inr (42, some 0), .inr (43, some 0), .inr (44, some 0), .inr (45, some 0), .inr (46, some 0), .inr (47, some 0), .inl 2, .inr (48, some 0), .inr (49, some 0), .inl 0, .inr (50, some 0), .inr (51, some 0), .inl 0, .inl 0, .inl 0, .inl 2, .inl 0, .inl 0, .inr (52, some 0), .inl 0, .inl 1, .inr (53, some 0), .inl 0, .inl 0, .inr (54, some 0), .inr (55, some 0), .inr (56, some 0), .inr (57, some 0), .inr (58, some 0), .inr (59, some 0), .inl 2], [], [], [], [], [], [], [], [], [], [], [], [], [], [], [], [], [], [], [], []]
def sFl (t : Nat) : List (Nat ⊕ (Nat × Option Nat)) := sFlL.getD t []
def sFk (t k : Nat) : Nat ⊕ (Nat × Option Nat) := (sFl t).getD k (.inl 0)
/-- how many there are of a kind -/
def sCntL : List Nat := [1, 1, 1, 1, 2, 2, 2, 2, 5, 5, 5, 5, 47, 47, 47, 47, 47, 47, 47, 47, 2, 2, 2, 2, 1, 1, 1, 1, 1, 1, 1, 1, 1, 1, 1, 1, 1, 1, 1, 1, 1, 1, 1, 1, 1, 1, 1, 1, 1, 1, 1, 1, 1, 1, 1, 1, 1, 1, 1, 1, 1, 0, 0, 0, 0, 0, 0, 0, 0, 0, 0, 0, 0, 0, 0, 0, 0, 0, 0, 0, 0, 0, 0, 0, 0, 0, 0, 0, 0, 0, 0, 0, 0, 0, 0, 0, 0, 0, 0, 0, 1, 13, 13, 1, 8, 8]
def sCnt (t : Nat) : Nat := sCntL.getD t 0
/-- rows: 0 of ints, 1 of truth values, 2 of States, 3 of Scripts, 4 of longs; how long -/
def sArrL : List Nat := [0, 0, 0, 1, 0, 0, 0, 0, 0, 0, 0, 0, 0, 0, 0, 0, 0, 0, 0, 0, 0, 0, 0, 0, 0, 0, 0, 0, 0, 0, 0, 0, 0, 0, 0, 2, 0, 0, 3, 2, 0, 0, 0, 0, 0, 0, 0, 0, 0, 0, 0, 0, 0, 0, 0, 0, 1, 1, 0, 0, 4]
def sArr (t : Nat) : Nat := sArrL.getD t 0
def sLenL : List Nat := [0, 0, 240, 13, 0, 13, 16, 16, 0, 12, 12, 12, 0, 6, 6, 6, 3, 3, 0, 3, 0, 2460, 2460, 2460, 0, 64, 64, 4, 0, 64, 8, 1024, 512, 512, 0, 5, 1398, 4, 4, 40, 0, 240, 13, 16, 16, 13, 16, 16, 180, 5, 232, 4, 9280, 255, 512, 512, 512, 512, 1398, 232, 1]
def sLen (t n : Nat) : Nat := if 20 < t ∧ t < 24 ∧ n = 1 then 60 else sLenL.getD t 0
/-- the element number j of a row of references -/
def sEl (t j : Nat) : Nat × Nat := if t = 39 then (12, j) else if t = 35 then (12, 42 + j) else (8, j)
end
section
/-! the pure picture: values, memory, and how they lie in the heap -/
abbrev hV : Type := Int32 ⊕ (Int64 ⊕ (Nat × Nat))
abbrev hM : Type := (Nat → Nat → Nat → Int32) × (Nat → Nat → Nat → Int64)
abbrev hR : Type := Option (Option hV × hM)
abbrev hL : Type := List (Nat × hV)
def ev (ad : Nat → Nat → Nat) : hV → Value
  | .inl x => .int x
  | .inr (.inl y) => .long y
  | .inr (.inr q) => .ref (ad q.1 q.2)
def vcat : hV → Nat
  | .inr (.inl _) => 2
  | _ => 1
theorem ev_cat (ad : Nat → Nat → Nat) (v : hV) : (ev ad v).category = vcat v := by rcases v with x | y | q <;> rfl
theorem ev_cats (ad : Nat → Nat → Nat) (S : List hV) : ((S.map (ev ad)).map fun v => v.category) = S.map vcat := by
  rw [List.map_map]
  exact List.map_congr_left fun v _ => ev_cat ad v
def hVal (v : hV) : Prop := match v with
  | .inr (.inr q) => q.2 < sCnt q.1
  | _ => True
def uI (m : hM) (t n k : Nat) (x : Int32) : hM := (fun a b c => if a = t ∧ b = n ∧ c = k then x else m.1 a b c, m.2)
def uL (m : hM) (t n k : Nat) (x : Int64) : hM := (m.1, fun a b c => if a = t ∧ b = n ∧ c = k then x else m.2 a b c)
/-- a whole row is written -/
def uR (m : hM) (t n : Nat) (f : Nat → Int32) : hM := (fun a b c => if a = t ∧ b = n then f c else m.1 a b c, m.2)
def fld (m : hM) (t n k : Nat) : hV := match sFk t k with
  | .inr (t2, c) => .inr (.inr (t2, c.getD n))
  | .inl 1 => .inr (.inl (m.2 t n k))
  | .inl _ => .inl (m.1 t n k)
def hFs (ad : Nat → Nat → Nat) (m : hM) (t n : Nat) : List Value := (List.range (sFl t).length).map (fun k => ev ad (fld m t n k))
def hCell (ad : Nat → Nat → Nat) (ca : Nat → ClassId) (m : hM) (q : Nat × Nat) : va_E := match sCls q.1 with
  | some ci => .inr (ci, hFs ad m q.1 q.2)
  | none => match sArr q.1 with
    | 0 => .inl (ca 0, sLen q.1 q.2, .inl (m.1 q.1 q.2))
    | 1 => .inl (ca 1, sLen q.1 q.2, .inl (m.1 q.1 q.2))
    | 2 => .inl (ca 2, sLen q.1 q.2, .inr (.inr (.inr (.inr (fun j => some (ad (sEl q.1 j).1 (sEl q.1 j).2))))))
    | 3 => .inl (ca 3, sLen q.1 q.2, .inr (.inr (.inr (.inr (fun j => some (ad (sEl q.1 j).1 (sEl q.1 j).2))))))
    | _ => .inl (ca 4, sLen q.1 q.2, .inr (.inl (m.2 q.1 q.2)))
def hIx : List (Nat × Nat) := (List.range 61).flatMap fun t => (List.range (sCnt t)).map fun n => (t, n)
theorem hIx_mem {t n : Nat} : (t, n) ∈ hIx ↔ t < 61 ∧ n < sCnt t := by
  simp only [hIx, List.mem_flatMap, List.mem_range, List.mem_map, Prod.mk.injEq]
  constructor
  · rintro ⟨a, ha, b, hb, rfl, rfl⟩
    exact ⟨ha, hb⟩
  · rintro ⟨ha, hb⟩
    exact ⟨t, ha, n, hb, rfl, rfl⟩
def emb (ad : Nat → Nat → Nat) (ca : Nat → ClassId) (m : hM) : va_W := hIx.map fun q => (ad q.1 q.2, hCell ad ca m q)
def hTy (ca : Nat → ClassId) : List (ClassId × FieldType) := [(ca 0, .int), (ca 1, .boolean), (ca 2, .object "HuntedEye$State"), (ca 3, .object "HuntedEye$Script"), (ca 4, .long)]
/-- the addresses of the world's cells -/
def hA (ad : Nat → Nat → Nat) : Nat → Prop := fun q => ∃ t n : Nat, t < 61 ∧ n < sCnt t ∧ q = ad t n
theorem emb_at (ad : Nat → Nat → Nat) (ca : Nat → ClassId) (m : hM) {t n : Nat} (ht : t < 61) (hn : n < sCnt t) : ∃ k : Nat, hIx[k]? = some (t, n) ∧ (emb ad ca m)[k]? = some (ad t n, hCell ad ca m (t, n)) := by
  obtain ⟨k, hk⟩ := List.getElem?_of_mem (hIx_mem.mpr ⟨ht, hn⟩)
  exact ⟨k, hk, by rw [emb, List.getElem?_map, hk]; rfl⟩
theorem emb_addr (ad : Nat → Nat → Nat) (ca : Nat → ClassId) (m m2 : hM) {A : Nat → Prop} (h : va_D A (emb ad ca m)) : va_D A (emb ad ca m2) := by
  have e : ∀ (m' m'' : hM) (i : Nat) (q : Nat × va_E), (emb ad ca m')[i]? = some q → ∃ q2, (emb ad ca m'')[i]? = some q2 ∧ q2.1 = q.1 := by
    intro m' m'' i q hq
    rw [emb, List.getElem?_map] at hq
    obtain ⟨x, hx, rfl⟩ := Option.map_eq_some_iff.mp hq
    exact ⟨(ad x.1 x.2, hCell ad ca m'' x), by rw [emb, List.getElem?_map, hx]; rfl, rfl⟩
  refine ⟨fun i j p q hp hq hpq => ?_, fun k q hk => ?_⟩
  · obtain ⟨p2, h1, h2⟩ := e m2 m i p hp
    obtain ⟨q2, h3, h4⟩ := e m2 m j q hq
    exact h.1 i j p2 q2 h1 h3 (by rw [h2, h4]; exact hpq)
  · obtain ⟨q2, h3, h4⟩ := e m2 m k q hk
    rw [← h4]
    exact h.2 k q2 h3
/-- one cell is written: the list with that cell is the picture of the new memory -/
theorem emb_set (ad : Nat → Nat → Nat) (ca : Nat → ClassId) (m m2 : hM) {A : Nat → Prop} (hD : va_D A (emb ad ca m)) {k : Nat} {q : Nat × Nat} (hk : hIx[k]? = some q) (h : ∀ q2, q2 ≠ q → hCell ad ca m2 q2 = hCell ad ca m q2) : (emb ad ca m).set k (ad q.1 q.2, hCell ad ca m2 q) = emb ad ca m2 := by
  apply List.ext_getElem?
  intro i
  rw [List.getElem?_set]
  by_cases hi : k = i
  · subst hi
    have hl : k < (emb ad ca m).length := by rw [emb, List.length_map]; exact (List.getElem?_eq_some_iff.mp hk).1
    rw [if_pos rfl, if_pos hl, emb, List.getElem?_map, hk]
    rfl
  · rw [if_neg hi, emb, emb, List.getElem?_map, List.getElem?_map]
    cases hx : hIx[i]? with
    | none => rfl
    | some q2 =>
      have hne : q2 ≠ q := by
        intro e
        subst e
        exact hi (hD.1 k i (ad q2.1 q2.2, hCell ad ca m q2) (ad q2.1 q2.2, hCell ad ca m q2) (by rw [emb, List.getElem?_map, hk]; rfl) (by rw [emb, List.getElem?_map, hx]; rfl) rfl)
      show some (ad q2.1 q2.2, hCell ad ca m q2) = some (ad q2.1 q2.2, hCell ad ca m2 q2)
      rw [h q2 hne]
theorem fld_uI {m : hM} {t n k : Nat} {x : Int32} (a b c : Nat) (h : ¬ (a = t ∧ b = n ∧ c = k)) : fld (uI m t n k x) a b c = fld m a b c := by
  unfold fld
  split
  · rfl
  · rfl
  · show Sum.inl (if a = t ∧ b = n ∧ c = k then x else m.1 a b c) = _
    rw [if_neg h]
theorem fld_uL {m : hM} {t n k : Nat} {x : Int64} (a b c : Nat) (h : ¬ (a = t ∧ b = n ∧ c = k)) : fld (uL m t n k x) a b c = fld m a b c := by
  unfold fld
  split
  · rfl
  · show Sum.inr (Sum.inl (if a = t ∧ b = n ∧ c = k then x else m.2 a b c)) = _
    rw [if_neg h]
  · rfl
theorem hCell_ne {ad : Nat → Nat → Nat} {ca : Nat → ClassId} {m m2 : hM} {q : Nat × Nat} (hf : ∀ k, fld m2 q.1 q.2 k = fld m q.1 q.2 k) (h1 : m2.1 q.1 q.2 = m.1 q.1 q.2) (h2 : m2.2 q.1 q.2 = m.2 q.1 q.2) : hCell ad ca m2 q = hCell ad ca m q := by
  unfold hCell hFs
  simp only [hf, h1, h2]
theorem hCell_uI {ad : Nat → Nat → Nat} {ca : Nat → ClassId} {m : hM} {t n k : Nat} {x : Int32} (q : Nat × Nat) (h : q ≠ (t, n)) : hCell ad ca (uI m t n k x) q = hCell ad ca m q := by
  have hne : ¬ (q.1 = t ∧ q.2 = n) := fun e => h (by rw [← e.1, ← e.2])
  refine hCell_ne (fun c => fld_uI _ _ _ (fun e => hne ⟨e.1, e.2.1⟩)) ?_ rfl
  funext c
  exact if_neg (fun e => hne ⟨e.1, e.2.1⟩)
theorem hCell_uL {ad : Nat → Nat → Nat} {ca : Nat → ClassId} {m : hM} {t n k : Nat} {x : Int64} (q : Nat × Nat) (h : q ≠ (t, n)) : hCell ad ca (uL m t n k x) q = hCell ad ca m q := by
  have hne : ¬ (q.1 = t ∧ q.2 = n) := fun e => h (by rw [← e.1, ← e.2])
  refine hCell_ne (fun c => fld_uL _ _ _ (fun e => hne ⟨e.1, e.2.1⟩)) rfl ?_
  funext c
  exact if_neg (fun e => hne ⟨e.1, e.2.1⟩)
theorem hCell_uR {ad : Nat → Nat → Nat} {ca : Nat → ClassId} {m : hM} {t n : Nat} {f : Nat → Int32} (q : Nat × Nat) (h : q ≠ (t, n)) : hCell ad ca (uR m t n f) q = hCell ad ca m q := by
  have hne : ¬ (q.1 = t ∧ q.2 = n) := fun e => h (by rw [← e.1, ← e.2])
  refine hCell_ne (fun c => ?_) ?_ rfl
  · unfold fld
    split
    · rfl
    · rfl
    · show Sum.inl (if q.1 = t ∧ q.2 = n then f c else m.1 q.1 q.2 c) = _
      rw [if_neg hne]
  · funext c
    exact if_neg hne
theorem hFs_at {ad : Nat → Nat → Nat} {m : hM} {t n k : Nat} (hk : k < (sFl t).length) : (hFs ad m t n)[k]? = some (ev ad (fld m t n k)) := by
  rw [hFs, List.getElem?_map, List.getElem?_range hk]
  rfl
theorem hFs_set {ad : Nat → Nat → Nat} {m m2 : hM} {t n k : Nat} {v : Value} (hv : ev ad (fld m2 t n k) = v) (h : ∀ c, c ≠ k → fld m2 t n c = fld m t n c) : (hFs ad m t n).set k v = hFs ad m2 t n := by
  apply List.ext_getElem?
  intro i
  rw [List.getElem?_set]
  by_cases hi : k = i
  · subst hi
    rw [if_pos rfl]
    by_cases hk : k < (sFl t).length
    · rw [hFs_at hk, if_pos (by simp [hFs]; exact hk), hv]
    · rw [if_neg (by simp [hFs]; omega), hFs, List.getElem?_map, List.getElem?_eq_none (by simp; omega)]
      rfl
  · rw [if_neg hi, hFs, hFs, List.getElem?_map, List.getElem?_map]
    cases hx : (List.range (sFl t).length)[i]? with
    | none => rfl
    | some j =>
      have hj : j = i := by
        have h1 : i < (List.range (sFl t).length).length := (List.getElem?_eq_some_iff.mp hx).1
        rw [List.getElem?_range (by simpa using h1)] at hx
        exact (Option.some.inj hx).symm
      subst hj
      show some (ev ad (fld m t n j)) = some (ev ad (fld m2 t n j))
      rw [h j (fun e => hi e.symm)]
end
section
/-! the words that every method has, the statics, the judgement -/
def gdw : List Cond := lw_tbl.filter goodWord
theorem gdw_good {w : Cond} (h : w ∈ gdw) : goodWord w = true := (List.mem_filter.mp h).2
theorem gdw_of {w : Cond} {i : Nat} (h : lw_tbl[i]? = some w) (hg : goodWord w = true) : w ∈ gdw := List.mem_filter.mpr ⟨List.mem_of_getElem? h, hg⟩
/-- a method: its name, code, how many locals, what it returns -/
abbrev hMt : Type := MethodName × ByteArray × Nat × Option FieldType
def hWs (mt : hMt) : List Cond := .code mt.1 mt.2.1 mt.2.2.1 mt.2.2.2 :: gdw
def hRm (d : Nat) : Room := { frames := d, cells := 0, slots := 0, locals := 80 * d }
abbrev hNF : Type := String × Nat × String × String × String
abbrev hNM : Type := String × Nat × MethodName
/-- the words of nest mates -/
def hNwF (L : List hNF) (U : State) : Prop := ∀ q ∈ L, va_Nw (.fieldLinkNest q.1 q.2.1 q.2.2.1 q.2.2.2.1 q.2.2.2.2 "HuntedEye") U
def hNwM (L : List hNM) (U : State) : Prop := ∀ q ∈ L, va_Nw (.methodLinkNest q.1 q.2.1 q.2.2 "HuntedEye") U
theorem hNwF.warm {L : List hNF} {s U : State} (hW : s.WarmedH U.vm) (h : hNwF L s) : hNwF L U := fun q hq => va_Nw.warmF hW (h q hq)
theorem hNwM.warm {L : List hNM} {s U : State} (hW : s.WarmedH U.vm) (h : hNwM L s) : hNwM L U := fun q hq => va_Nw.warmM hW (h q hq)
theorem hNwF.same {L : List hNF} {s U : State} (hW : s.vm = U.vm) (h : hNwF L s) : hNwF L U := fun q hq => va_Nw.same rfl hW (h q hq)
theorem hNwM.same {L : List hNM} {s U : State} (hW : s.vm = U.vm) (h : hNwM L s) : hNwM L U := fun q hq => va_Nw.same rfl hW (h q hq)
def nwF : List hNF := [("HuntedEye", 229, "HuntedEye$Script", "kinds", "[I"), ("HuntedEye", 232, "HuntedEye$Script", "firsts", "[I"), ("HuntedEye", 235, "HuntedEye$Script", "seconds", "[I"), ("HuntedEye$Reader", 66, "HuntedEye$Script", "count", "I"), ("HuntedEye", 222, "HuntedEye$Script", "count", "I"), ("HuntedEye", 344, "HuntedEye$Reader", "line", "LHuntedEye$Line;"), ("HuntedEye", 354, "HuntedEye$Reader", "script", "LHuntedEye$Script;"), ("HuntedEye", 165, "HuntedEye$Reader", "length", "I"), ("HuntedEye$State", 99, "HuntedEye$Tally", "quiet", "I"), ("HuntedEye$State", 102, "HuntedEye$Tally", "loud", "I"), ("HuntedEye$State", 96, "HuntedEye$Tally", "dark", "Z"), ("HuntedEye", 325, "HuntedEye$Tally", "dark", "Z"), ("HuntedEye$State", 105, "HuntedEye$Tally", "wrong", "I"), ("HuntedEye", 217, "HuntedEye$Tally", "wrong", "I"), ("HuntedEye$State", 108, "HuntedEye$Tally", "learnt", "I"), ("HuntedEye$State", 111, "HuntedEye$Tally", "runs", "I"), ("HuntedEye", 322, "HuntedEye$Tally", "runs", "I"), ("HuntedEye$State", 114, "HuntedEye$Tally", "longest", "I"), ("HuntedEye$State", 117, "HuntedEye$Tally", "open", "I"), ("HuntedEye$State", 120, "HuntedEye$Tally", "right", "I"), ("HuntedEye$Log", 34, "HuntedEye$Tally", "sample", "I"), ("HuntedEye$State", 202, "HuntedEye$Tally", "sample", "I"), ("HuntedEye$Log", 40, "HuntedEye$Tally", "z", "I"), ("HuntedEye$State", 205, "HuntedEye$Tally", "z", "I"), ("HuntedEye", 316, "HuntedEye$Tally", "z", "I"), ("HuntedEye$State", 229, "HuntedEye$Tally", "foreSum", "I"), ("HuntedEye$State", 208, "HuntedEye$Tally", "errorSign", "I"), ("HuntedEye$Log", 43, "HuntedEye$Tally", "marks", "I"), ("HuntedEye$State", 211, "HuntedEye$Tally", "marks", "I"), ("HuntedEye$State", 231, "HuntedEye$Tally", "backThen", "[I"), ("HuntedEye$Eye", 44, "HuntedEye$State", "taps", "[I"), ("HuntedEye$Burst", 52, "HuntedEye$State", "taps", "[I"), ("HuntedEye$Ahead", 65, "HuntedEye$State", "taps", "[I"), ("HuntedEye", 137, "HuntedEye$State", "taps", "[I"), ("HuntedEye", 140, "HuntedEye$State", "votes", "[I"), ("HuntedEye", 213, "HuntedEye$State", "tally", "LHuntedEye$Tally;"), ("HuntedEye", 153, "HuntedEye$State", "t", "I"), ("HuntedEye$Burst", 57, "HuntedEye$State", "phase", "I"), ("HuntedEye$Eye", 85, "HuntedEye$State", "phase", "I"), ("HuntedEye", 328, "HuntedEye$State", "phase", "I"), ("HuntedEye$Eye", 96, "HuntedEye$State", "level", "I"), ("HuntedEye", 331, "HuntedEye$State", "level", "I"), ("HuntedEye$Ahead", 41, "HuntedEye$State", "gear", "I"), ("HuntedEye$Ahead", 85, "HuntedEye$State", "noise", "I"), ("HuntedEye", 377, "HuntedEye$State", "noise", "I"), ("HuntedEye", 380, "HuntedEye$State", "train", "I"), ("HuntedEye$Ahead", 30, "HuntedEye$State", "held", "Z"), ("HuntedEye", 371, "HuntedEye$State", "held", "Z"), ("HuntedEye$Ahead", 38, "HuntedEye$State", "dropped", "Z"), ("HuntedEye", 374, "HuntedEye$State", "dropped", "Z"), ("HuntedEye", 181, "HuntedEye$State", "x", "J"), ("HuntedEye", 301, "HuntedEye$Eye", "bestValue", "I"), ("HuntedEye", 304, "HuntedEye$Eye", "bestHeight", "I"), ("HuntedEye$Line", 21, "HuntedEye$Clause", "ALL", "[LHuntedEye$Clause;"), ("HuntedEye$Reader", 82, "HuntedEye$Clause", "ALL", "[LHuntedEye$Clause;"), ("HuntedEye$Reader", 126, "HuntedEye$Step", "ALL", "[LHuntedEye$Step;"), ("HuntedEye$Line", 27, "HuntedEye$Clause", "usual", "I"), ("HuntedEye$Reader", 92, "HuntedEye$Clause", "word", "Ljava/lang/String;"), ("HuntedEye$Reader", 100, "HuntedEye$Clause", "most", "I"), ("HuntedEye$Reader", 103, "HuntedEye$Clause", "low", "I"), ("HuntedEye$Reader", 106, "HuntedEye$Clause", "high", "I"), ("HuntedEye$Reader", 134, "HuntedEye$Step", "word", "Ljava/lang/String;"), ("HuntedEye$Reader", 135, "HuntedEye$Step", "numbers", "I")]
def nwM : List hNM := [("HuntedEye", 9, ⟨"HuntedEye$Reader", "<init>", "()V"⟩), ("HuntedEye$Reader", 21, ⟨"HuntedEye$Line", "<init>", "()V"⟩), ("HuntedEye$Reader", 28, ⟨"HuntedEye$Script", "<init>", "()V"⟩), ("HuntedEye", 18, ⟨"HuntedEye$Line", "<init>", "()V"⟩), ("HuntedEye", 31, ⟨"HuntedEye$State", "<init>", "()V"⟩), ("HuntedEye$State", 29, ⟨"HuntedEye$Tally", "<init>", "()V"⟩), ("HuntedEye", 57, ⟨"HuntedEye$Eye", "<init>", "()V"⟩), ("HuntedEye", 64, ⟨"HuntedEye$Burst", "<init>", "()V"⟩), ("HuntedEye$Ahead", 21, ⟨"HuntedEye$State", "<init>", "()V"⟩), ("HuntedEye", 84, ⟨"HuntedEye$Script", "<init>", "()V"⟩), ("HuntedEye$Reader", 45, ⟨"HuntedEye", "within", "(III)Z"⟩), ("HuntedEye$Line", 31, ⟨"HuntedEye", "within", "(III)Z"⟩), ("HuntedEye$Script", 25, ⟨"HuntedEye", "within", "(III)Z"⟩), ("HuntedEye$State", 124, ⟨"HuntedEye", "within", "(III)Z"⟩), ("HuntedEye$Eye", 30, ⟨"HuntedEye", "bitSign", "(II)I"⟩), ("HuntedEye$Eye", 57, ⟨"HuntedEye", "truthOf", "(LHuntedEye$Line;I)I"⟩), ("HuntedEye$Eye", 92, ⟨"HuntedEye", "within", "(III)Z"⟩), ("HuntedEye$State", 147, ⟨"HuntedEye", "push", "([II)V"⟩), ("HuntedEye$State", 157, ⟨"HuntedEye", "turned", "(J)J"⟩), ("HuntedEye$State", 161, ⟨"HuntedEye", "drawn", "(JI)I"⟩), ("HuntedEye$State", 178, ⟨"HuntedEye", "signOf", "(I)I"⟩), ("HuntedEye$State", 184, ⟨"HuntedEye", "sizeOf", "(I)I"⟩), ("HuntedEye$State", 245, ⟨"HuntedEye", "moved", "(IIII)I"⟩), ("HuntedEye$Eye", 102, ⟨"HuntedEye", "sizeOf", "(I)I"⟩), ("HuntedEye$Burst", 65, ⟨"HuntedEye", "bitSign", "(II)I"⟩), ("HuntedEye$Burst", 72, ⟨"HuntedEye", "truthOf", "(LHuntedEye$Line;I)I"⟩), ("HuntedEye$Tally", 77, ⟨"HuntedEye", "bitSign", "(II)I"⟩), ("HuntedEye$Ahead", 61, ⟨"HuntedEye", "within", "(III)Z"⟩), ("HuntedEye$Ahead", 74, ⟨"HuntedEye", "sizeOf", "(I)I"⟩)]
def ck_most : List Int32 := [16, 1, 1, 1, 1, 1, 1, 1, 1, 1, 1, 1, 16]
def ck_low : List Int32 := [(-60), 1, 0, 0, 1, 1, 0, 0, 0, 1, 0, 0, 0]
def ck_high : List Int32 := [60, 3, 3, 2, 99, 9, 60, 4, 99, 127, 1, 9, 1]
def ck_usual : List Int32 := [0, 2, 2, 0, 40, 1, 4, 0, 0, 1, 0, 0, 0]
def ck_len : List Nat := [5, 4, 4, 5, 5, 4, 5, 5, 5, 4, 5, 4, 4]
def ck_byt : List (List Int32) := [[112, 117, 108, 115, 101], [102, 111, 114, 101], [98, 97, 99, 107], [100, 101, 108, 97, 121], [108, 101, 118, 101, 108], [103, 101, 97, 114], [102, 108, 111, 111, 114], [110, 111, 105, 115, 101], [116, 114, 97, 105, 110], [115, 101, 101, 100], [116, 114, 97, 99, 107], [108, 111, 99, 107], [119, 111, 114, 100]]
def sk_numbers : List Int32 := [1, 1, 1, 2, 0, 1, 1, 0]
def sk_low : List Int32 := [1, 0, 0, 0, 0, 0, 0, 0]
def sk_high : List Int32 := [60, 3, 1, 5, 0, 4, 99, 0]
def sk_len : List Nat := [4, 5, 4, 3, 4, 5, 5, 4]
def sk_byt : List (List Int32) := [[115, 101, 110, 100], [112, 104, 97, 115, 101], [104, 111, 108, 100], [116, 97, 112], [100, 114, 111, 112], [110, 111, 105, 115, 101], [116, 114, 97, 105, 110], [115, 101, 101, 107]]
/-- constant objects of a class: an array of them in a static field, their ints and their words -/
def hZe (E f d : String) (N k0 k1 k2 k3 : Nat) (ints : List (String × List Int32)) (len : List Nat) (byt : List (List Int32)) (ad : Nat → Nat → Nat) (A : Nat → Prop) (U : State) (H : Heap) : Prop :=
  va_Z E f d (.ref (ad k0 0)) A U H ∧ va_T (.object E) (ad k0 0) N (fun j => .ref (ad k1 j)) A U H ∧ (∀ q ∈ ints, va_Ef N E q.1 "I" (fun i => .int (q.2.getD i 0)) (ad k1) A U H) ∧
  va_Ef N E "word" "Ljava/lang/String;" (fun i => .ref (ad k2 i)) (ad k1) A U H ∧ (∀ i : Nat, i < N → va_O E (ad k1 i) A U H) ∧
  ∀ i : Nat, i < N → va_O "java/lang/String" (ad k2 i) A U H ∧ va_OF "java/lang/String" "coder" "B" (.int 0) (ad k2 i) A U H ∧ va_OF "java/lang/String" "value" "[B" (.ref (ad k3 i)) (ad k2 i) A U H ∧ va_T .byte (ad k3 i) (len.getD i 0) (fun j => .int ((byt.getD i []).getD j 0)) A U H
theorem hZe.moved {E f d : String} {N k0 k1 k2 k3 : Nat} {ints : List (String × List Int32)} {len : List Nat} {byt : List (List Int32)} {ad : Nat → Nat → Nat} {A : Nat → Prop} {u U : State} {H : Heap} (hvm : u.vm.Alike U.vm) (h : hZe E f d N k0 k1 k2 k3 ints len byt ad A u H) : hZe E f d N k0 k1 k2 k3 ints len byt ad A U H :=
  ⟨h.1.moved hvm, h.2.1.moved hvm, fun q hq => (h.2.2.1 q hq).moved hvm, h.2.2.2.1.moved hvm, fun i hi => (h.2.2.2.2.1 i hi).moved hvm, fun i hi => ⟨(h.2.2.2.2.2 i hi).1.moved hvm, (h.2.2.2.2.2 i hi).2.1.moved hvm, (h.2.2.2.2.2 i hi).2.2.1.moved hvm, (h.2.2.2.2.2 i hi).2.2.2.moved hvm⟩⟩
theorem hZe.kept {E f d : String} {N k0 k1 k2 k3 : Nat} {ints : List (String × List Int32)} {len : List Nat} {byt : List (List Int32)} {ad : Nat → Nat → Nat} {A : Nat → Prop} {U : State} {H H1 : Heap} (h : hZe E f d N k0 k1 k2 k3 ints len byt ad A U H) (hq : ∀ a : Nat, a < H.size → ¬ A a → H1[a]? = H[a]?) : hZe E f d N k0 k1 k2 k3 ints len byt ad A U H1 :=
  ⟨h.1.kept hq, h.2.1.kept hq, fun q hp => (h.2.2.1 q hp).kept hq, h.2.2.2.1.kept hq, fun i hi => (h.2.2.2.2.1 i hi).kept hq, fun i hi => ⟨(h.2.2.2.2.2 i hi).1.kept hq, (h.2.2.2.2.2 i hi).2.1.kept hq, (h.2.2.2.2.2 i hi).2.2.1.kept hq, (h.2.2.2.2.2 i hi).2.2.2.kept hq⟩⟩
def hZ (ad : Nat → Nat → Nat) (A : Nat → Prop) (U : State) (H : Heap) : Prop :=
  (hNwF nwF U ∧ hNwM nwM U) ∧
  hZe "HuntedEye$Clause" "ALL" "[LHuntedEye$Clause;" 13 100 101 102 106 [("most", ck_most), ("low", ck_low), ("high", ck_high), ("usual", ck_usual)] ck_len ck_byt ad A U H ∧
  hZe "HuntedEye$Step" "ALL" "[LHuntedEye$Step;" 8 103 104 105 107 [("numbers", sk_numbers), ("low", sk_low), ("high", sk_high)] sk_len sk_byt ad A U H ∧
  va_Z "java/lang/String" "COMPACT_STRINGS" "Z" (.int 1) A U H ∧ va_Zq "jdk/internal/util/Preconditions" "SIOOBE_FORMATTER" "Ljava/util/function/BiFunction;" A U H
theorem hZ_kept {ad : Nat → Nat → Nat} {A : Nat → Prop} {U : State} {H H1 : Heap} (h : hZ ad A U H) (hq : ∀ a : Nat, a < H.size → ¬ A a → H1[a]? = H[a]?) : hZ ad A U H1 :=
  ⟨h.1, h.2.1.kept hq, h.2.2.1.kept hq, h.2.2.2.1.kept hq, h.2.2.2.2.elim (fun z => Or.inl (z.kept hq)) (fun ⟨t, z⟩ => Or.inr ⟨t, z.kept hq⟩)⟩
theorem hZ_warm {ad : Nat → Nat → Nat} {A : Nat → Prop} {s U : State} {H : Heap} (hW : s.WarmedH U.vm) (h : hZ ad A s H) : hZ ad A U H :=
  ⟨⟨h.1.1.warm hW, h.1.2.warm hW⟩, h.2.1.moved hW.alike, h.2.2.1.moved hW.alike, h.2.2.2.1.moved hW.alike, h.2.2.2.2.elim (fun z => Or.inl (z.moved hW.alike)) (fun ⟨t, z⟩ => Or.inr ⟨t, z.moved hW.alike⟩)⟩
theorem hZ_same {ad : Nat → Nat → Nat} {A : Nat → Prop} {s U : State} {H : Heap} (hW : s.vm = U.vm) (h : hZ ad A s H) : hZ ad A U H :=
  ⟨⟨h.1.1.same hW, h.1.2.same hW⟩, h.2.1.moved (by rw [hW]; exact Vm.Alike.refl _), h.2.2.1.moved (by rw [hW]; exact Vm.Alike.refl _), h.2.2.2.1.moved (by rw [hW]; exact Vm.Alike.refl _), h.2.2.2.2.elim (fun z => Or.inl (z.moved (by rw [hW]; exact Vm.Alike.refl _))) (fun ⟨t, z⟩ => Or.inr ⟨t, z.moved (by rw [hW]; exact Vm.Alike.refl _)⟩)⟩
/-- the world at a state -/
def hWd (D : va_G) (ad : Nat → Nat → Nat) (ca : Nat → ClassId) (m : hM) (U : State) : Prop :=
  va_P D vwCl (emb ad ca m) U.heap ∧ va_K D vwCl (hTy ca) U ∧ va_D (hA ad) (emb ad ca m) ∧ hZ ad (hA ad) U U.heap
def hQ (D : va_G) (ad : Nat → Nat → Nat) (ca : Nat → ClassId) (r : Option hV) (m : hM) : Array Value → State → Outcome → State → Prop := fun _ st oc t =>
  oc = .returned (r.map (ev ad)) ∧ va_P D vwCl (emb ad ca m) t.heap ∧ va_F (hA ad) st t
/-- a method's contract at one start: from arguments as and memory m it comes to R (nothing is said where R is none) -/
def Cn (mt : hMt) (d : Nat) (as : List hV) (m : hM) (R : hR) : Prop :=
  ∀ (r : Option hV) (m2 : hM), R = some (r, m2) → (∀ v ∈ as, hVal v) → ∀ (l : Launch) (D : va_G) (ad : Nat → Nat → Nat) (ca : Nat → ClassId),
    Met l mt.1 (hWs mt) (hRm d) (va_Pc (as.map (ev ad)) (hWd D ad ca m)) (hQ D ad ca r m2) 0 0 (hA ad)
def hLs (ad : Nat → Nat → Nat) (L : hL) : List (Nat × Value) := L.map fun q => (q.1, ev ad q.2)
/-- what stands fast within a method -/
def HC (mt : hMt) (D : va_G) (ad : Nat → Nat → Nat) (ca : Nat → ClassId) (p : Program) (s : State) (mi : MethodId) (args : Array Value) (meth : Method) (c : Code) : Prop :=
  CallFix p mi c mt.2.1 mt.2.2.1 s args (hWs mt) mt.1.cls ∧ meth.sig.returnType = mt.2.2.2 ∧ meth.locks = false ∧ va_K D vwCl (hTy ca) s ∧ hZ ad (hA ad) s s.heap
/-- what moves -/
def HS (mt : hMt) (D : va_G) (ad : Nat → Nat → Nat) (ca : Nat → ClassId) (s : State) (m : hM) (L : hL) (S : List hV) (H : Heap) (locs : List Loc) (ls : Array Slot) : Prop :=
  va_P D vwCl (emb ad ca m) H ∧ va_D (hA ad) (emb ad ca m) ∧ va_S (hA ad) s.heap H locs ∧ lv_has ls mt.2.2.1 (hLs ad L) ∧ (∀ q ∈ L, hVal q.2) ∧ ∀ v ∈ S, hVal v
/-- from pc, with locals L, stack S and memory m, the method comes to R -/
def G (mt : hMt) (d pc : Nat) (L : hL) (S : List hV) (m : hM) (R : hR) : Prop :=
  ∀ (r : Option hV) (m2 : hM), R = some (r, m2) → ∀ (l : Launch) (D : va_G) (ad : Nat → Nat → Nat) (ca : Nat → ClassId) (p : Program) (e : Env) (s : State) (mi : MethodId) (args : Array Value) (below : List Frame) (meth : Method) (c : Code) (H : Heap) (locs : List Loc) (ls : Array Slot),
    HC mt D ad ca p s mi args meth c → HS mt D ad ca s m L S H locs ls →
    W p l e (hRm d) s mi args below meth c H locs 0 0 (MQ below (hQ D ad ca r m2) args s 0 0 (hA ad)) (F0 mi pc ls (S.map (ev ad)))
def hAr : Nat → List hV → hL
  | _, [] => []
  | i, v :: vs => (i, v) :: hAr (if vcat v = 2 then i + 2 else i + 1) vs
theorem hAr_ev (ad : Nat → Nat → Nat) : ∀ (as : List hV) (i : Nat), lv_args i (as.map (ev ad)) = hLs ad (hAr i as)
  | [], _ => rfl
  | v :: vs, i => by
    show (i, ev ad v) :: lv_args (if (ev ad v).category = 2 then i + 2 else i + 1) (vs.map (ev ad)) = (i, ev ad v) :: hLs ad (hAr (if vcat v = 2 then i + 2 else i + 1) vs)
    rw [ev_cat, hAr_ev ad vs]
theorem hAr_val {as : List hV} (h : ∀ v ∈ as, hVal v) : ∀ (i : Nat), ∀ q ∈ hAr i as, hVal q.2 := by
  induction as with
  | nil => intro i q hq; cases hq
  | cons v vs ih =>
    intro i q hq
    rcases List.mem_cons.mp hq with rfl | hq
    · exact h v List.mem_cons_self
    · exact ih (fun w hw => h w (List.mem_cons_of_mem _ hw)) _ q hq
theorem lg_sl_len (ad : Nat → Nat → Nat) (as : List hV) : (lg_sl (as.map (ev ad))).length = (as.map vcat).sum := by
  induction as with
  | nil => rfl
  | cons v vs ih =>
    have e : lg_sl ((v :: vs).map (ev ad)) = (if (ev ad v).category = 2 then [Slot.val (ev ad v), Slot.second] else [Slot.val (ev ad v)]) ++ lg_sl (vs.map (ev ad)) := rfl
    rw [e, List.length_append, ih, ev_cat, List.map_cons, List.sum_cons]
    rcases v with x | y | q <;> rfl
/-- the contract out of the walk -/
theorem cn_of {mt : hMt} {d : Nat} {as : List hV} {m : hM} {R : hR} (hy : plainFor mt.1 = true) (hn : (as.map vcat).sum ≤ mt.2.2.1) (h : G mt d 0 (hAr 0 as) [] m R) : Cn mt d as m R := by
  intro r m2 hR hv l D ad ca
  obtain ⟨y, cc, maxL, ret⟩ := mt
  refine va_MetF (cc := cc) (maxL := maxL) (ret := ret) hy rfl ?_
  intro p e s mi args below meth c s₁ B hml hpre
  obtain ⟨rfl, hP, hK, hD, hz⟩ := hpre
  have hts := atoms_spec (ws := hWs (y, cc, maxL, ret)) B.pre
  have hl := lv_entry (as.map (ev ad)) (n := maxL) (by rw [lg_sl_len]; exact hn)
  rw [lg_entry_eq]
  rw [hAr_ev] at hl
  exact h r m2 hR l D ad ca p e s mi _ below meth c s.heap [] _ ⟨⟨B.exec, B.bytes, hml, findClass_of_methodNamed B.named, hts⟩, B.returns, B.notSynchronized, hK, hz⟩ ⟨hP, hD, va_S.rf, hl, hAr_val hv 0, fun v h => by cases h⟩
end
section
/-! one law an instruction -/
def Dc (mt : hMt) (pc : Nat) (i : Instr) (len nx : Nat) : Prop := decode mt.2.1 pc = .ok (i, len) ∧ pc + len = nx
abbrev hTb : Type := List (Nat × Instr × Nat × Nat)
def TbOK (mt : hMt) (tb : hTb) : Prop := ∀ q ∈ tb, decode mt.2.1 q.1 = .ok (q.2.1, q.2.2.1) ∧ q.1 + q.2.2.1 = q.2.2.2
theorem dc_of {mt : hMt} {tb : hTb} (h : TbOK mt tb) (k : Nat) {pc : Nat} {i : Instr} {len nx : Nat} (hk : tb[k]? = some (pc, i, len, nx)) : Dc mt pc i len nx := h (pc, i, len, nx) (List.mem_of_getElem? hk)
section
variable {mt : hMt} {D : va_G} {ad : Nat → Nat → Nat} {ca : Nat → ClassId} {s : State} {m : hM} {L : hL} {S : List hV} {H : Heap} {locs : List Loc} {ls : Array Slot} {v : hV}
theorem HS.tl (h : HS mt D ad ca s m L (v :: S) H locs ls) : HS mt D ad ca s m L S H locs ls := ⟨h.1, h.2.1, h.2.2.1, h.2.2.2.1, h.2.2.2.2.1, fun w hw => h.2.2.2.2.2 w (List.mem_cons_of_mem _ hw)⟩
theorem HS.hd (h : HS mt D ad ca s m L (v :: S) H locs ls) : hVal v := h.2.2.2.2.2 v List.mem_cons_self
theorem HS.pu (h : HS mt D ad ca s m L S H locs ls) (hv : hVal v) : HS mt D ad ca s m L (v :: S) H locs ls := ⟨h.1, h.2.1, h.2.2.1, h.2.2.2.1, h.2.2.2.2.1, fun w hw => by
  rcases List.mem_cons.mp hw with rfl | hw
  · exact hv
  · exact h.2.2.2.2.2 w hw⟩
theorem HS.pi (h : HS mt D ad ca s m L S H locs ls) (x : Int32) : HS mt D ad ca s m L (.inl x :: S) H locs ls := h.pu trivial
theorem HS.pl (h : HS mt D ad ca s m L S H locs ls) (x : Int64) : HS mt D ad ca s m L (.inr (.inl x) :: S) H locs ls := h.pu trivial
theorem HS.at (h : HS mt D ad ca s m L S H locs ls) {k i : Nat} (hk : L[k]? = some (i, v)) : ls[i]? = some (.val (ev ad v)) ∧ hVal v :=
  ⟨lv_at h.2.2.2.1 k (by rw [hLs, List.getElem?_map, hk]; rfl), h.2.2.2.2.1 (i, v) (List.mem_of_getElem? hk)⟩
/-- new locals -/
theorem HS.lo {L2 : hL} {ls2 : Array Slot} (h : HS mt D ad ca s m L S H locs ls) (h1 : lv_has ls2 mt.2.2.1 (hLs ad L2)) (h2 : ∀ q ∈ L2, hVal q.2) : HS mt D ad ca s m L2 S H locs ls2 := ⟨h.1, h.2.1, h.2.2.1, h1, h2, h.2.2.2.2.2⟩
/-- a new memory -/
theorem HS.me {m2 : hM} {H2 : Heap} {locs2 : List Loc} (h : HS mt D ad ca s m L S H locs ls) (h1 : va_P D vwCl (emb ad ca m2) H2) (h2 : va_S (hA ad) s.heap H2 locs2) : HS mt D ad ca s m2 L S H2 locs2 ls := ⟨h1, emb_addr ad ca m m2 h.2.1, h2, h.2.2.2⟩
end
theorem HC.w {mt : hMt} {D : va_G} {ad : Nat → Nat → Nat} {ca : Nat → ClassId} {p : Program} {s : State} {mi : MethodId} {args : Array Value} {meth : Method} {c : Code} (h : HC mt D ad ca p s mi args meth c) {w : Cond} (hw : w ∈ gdw) : w.before args s = true := h.1.2.2.2.2 w (List.mem_cons_of_mem _ hw)
def hPick (L : hL) (ks : List Nat) : hL := ks.filterMap fun k => L[k]?
def hSt1 (L : hL) (i : Nat) (v : hV) : hL := (i, v) :: L.filter (fun q => !(q.1 == i) && !(q.1 + 1 == i && vcat q.2 == 2))
def hSt2 (L : hL) (i : Nat) (v : hV) : hL := (i, v) :: L.filter (fun q => !(q.1 == i) && (!(q.1 == i + 1) && !(q.1 + 1 == i && vcat q.2 == 2)))
theorem hSt1_ev (ad : Nat → Nat → Nat) (L : hL) (i : Nat) (v : hV) : (i, ev ad v) :: (hLs ad L).filter (fun q => !(q.1 == i) && !(q.1 + 1 == i && q.2.category == 2)) = hLs ad (hSt1 L i v) := by
  show _ = (i, ev ad v) :: (L.filter _).map _
  rw [hLs, List.filter_map]
  congr 3
  funext q
  simp only [Function.comp, ev_cat]
theorem hSt2_ev (ad : Nat → Nat → Nat) (L : hL) (i : Nat) (v : hV) : (i, ev ad v) :: (hLs ad L).filter (fun q => !(q.1 == i) && (!(q.1 == i + 1) && !(q.1 + 1 == i && q.2.category == 2))) = hLs ad (hSt2 L i v) := by
  show _ = (i, ev ad v) :: (L.filter _).map _
  rw [hLs, List.filter_map]
  congr 3
  funext q
  simp only [Function.comp, ev_cat]
theorem hSt1_val {L : hL} {i : Nat} {v : hV} (h : ∀ q ∈ L, hVal q.2) (hv : hVal v) : ∀ q ∈ hSt1 L i v, hVal q.2 := by
  intro q hq
  rcases List.mem_cons.mp hq with rfl | hq
  · exact hv
  · exact h q (List.mem_filter.mp hq).1
theorem hSt2_val {L : hL} {i : Nat} {v : hV} (h : ∀ q ∈ L, hVal q.2) (hv : hVal v) : ∀ q ∈ hSt2 L i v, hVal q.2 := by
  intro q hq
  rcases List.mem_cons.mp hq with rfl | hq
  · exact hv
  · exact h q (List.mem_filter.mp hq).1
section Rows
variable {mt : hMt} {d pc nx : Nat} {L L2 : hL} {S : List hV} {m : hM} {R : hR}
theorem g_none : G mt d pc L S m none := fun r m2 h => by cases h
theorem g_fgt (ks : List Nat) (hL : hPick L ks = L2) (h : G mt d pc L2 S m R) : G mt d pc L S m R := by
  intro r m2 hR l D ad ca p e s mi args below meth c H locs ls hC hS
  refine h r m2 hR l D ad ca p e s mi args below meth c H locs ls hC (hS.lo (lv_sub hS.2.2.2.1 ks ?_) ?_)
  · rw [← hL, lv_pick, hPick, hLs, hLs, List.map_filterMap]
    congr 1
    funext k
    rw [List.getElem?_map]
  · intro q hq
    rw [← hL, hPick] at hq
    obtain ⟨k, -, hk⟩ := List.mem_filterMap.mp hq
    exact hS.2.2.2.2.1 q (List.mem_of_getElem? hk)
theorem g_iadd {x y : Int32} (hd : Dc mt pc .iadd 1 nx) (h : G mt d nx L (.inl (x + y) :: S) m R) : G mt d pc L (.inl y :: .inl x :: S) m R := by
  intro r m2 hR l D ad ca p e s mi args below meth c H locs ls hC hS
  obtain ⟨hd, rfl⟩ := hd
  exact lv_iadd hC.1.1 hC.1.2.1 hd (h r m2 hR l D ad ca p e s mi args below meth c H locs ls hC (hS.tl.tl.pi _))
theorem g_isub {x y : Int32} (hd : Dc mt pc .isub 1 nx) (h : G mt d nx L (.inl (x - y) :: S) m R) : G mt d pc L (.inl y :: .inl x :: S) m R := by
  intro r m2 hR l D ad ca p e s mi args below meth c H locs ls hC hS
  obtain ⟨hd, rfl⟩ := hd
  exact lv_isub hC.1.1 hC.1.2.1 hd (h r m2 hR l D ad ca p e s mi args below meth c H locs ls hC (hS.tl.tl.pi _))
theorem g_imul {x y : Int32} (hd : Dc mt pc .imul 1 nx) (h : G mt d nx L (.inl (x * y) :: S) m R) : G mt d pc L (.inl y :: .inl x :: S) m R := by
  intro r m2 hR l D ad ca p e s mi args below meth c H locs ls hC hS
  obtain ⟨hd, rfl⟩ := hd
  exact lv_imul hC.1.1 hC.1.2.1 hd (h r m2 hR l D ad ca p e s mi args below meth c H locs ls hC (hS.tl.tl.pi _))
theorem g_ishl {x y : Int32} (hd : Dc mt pc .ishl 1 nx) (h : G mt d nx L (.inl (x <<< (y &&& 31)) :: S) m R) : G mt d pc L (.inl y :: .inl x :: S) m R := by
  intro r m2 hR l D ad ca p e s mi args below meth c H locs ls hC hS
  obtain ⟨hd, rfl⟩ := hd
  exact lv_ishl hC.1.1 hC.1.2.1 hd (h r m2 hR l D ad ca p e s mi args below meth c H locs ls hC (hS.tl.tl.pi _))
theorem g_ishr {x y : Int32} (hd : Dc mt pc .ishr 1 nx) (h : G mt d nx L (.inl (x >>> (y &&& 31)) :: S) m R) : G mt d pc L (.inl y :: .inl x :: S) m R := by
  intro r m2 hR l D ad ca p e s mi args below meth c H locs ls hC hS
  obtain ⟨hd, rfl⟩ := hd
  exact lv_ishr hC.1.1 hC.1.2.1 hd (h r m2 hR l D ad ca p e s mi args below meth c H locs ls hC (hS.tl.tl.pi _))
theorem g_iand {x y : Int32} (hd : Dc mt pc .iand 1 nx) (h : G mt d nx L (.inl (x &&& y) :: S) m R) : G mt d pc L (.inl y :: .inl x :: S) m R := by
  intro r m2 hR l D ad ca p e s mi args below meth c H locs ls hC hS
  obtain ⟨hd, rfl⟩ := hd
  exact lv_iand hC.1.1 hC.1.2.1 hd (h r m2 hR l D ad ca p e s mi args below meth c H locs ls hC (hS.tl.tl.pi _))
theorem g_ior {x y : Int32} (hd : Dc mt pc .ior 1 nx) (h : G mt d nx L (.inl (x ||| y) :: S) m R) : G mt d pc L (.inl y :: .inl x :: S) m R := by
  intro r m2 hR l D ad ca p e s mi args below meth c H locs ls hC hS
  obtain ⟨hd, rfl⟩ := hd
  exact lv_ior hC.1.1 hC.1.2.1 hd (h r m2 hR l D ad ca p e s mi args below meth c H locs ls hC (hS.tl.tl.pi _))
theorem g_ixor {x y : Int32} (hd : Dc mt pc .ixor 1 nx) (h : G mt d nx L (.inl (x ^^^ y) :: S) m R) : G mt d pc L (.inl y :: .inl x :: S) m R := by
  intro r m2 hR l D ad ca p e s mi args below meth c H locs ls hC hS
  obtain ⟨hd, rfl⟩ := hd
  exact lv_ixor hC.1.1 hC.1.2.1 hd (h r m2 hR l D ad ca p e s mi args below meth c H locs ls hC (hS.tl.tl.pi _))
def jushr (x y : Int32) : Int32 := (x.toUInt32 >>> (y.toUInt32 &&& Int32.toUInt32 31)).toInt32
theorem g_iushr {x y : Int32} (hd : Dc mt pc .iushr 1 nx) (h : G mt d nx L (.inl (jushr x y) :: S) m R) : G mt d pc L (.inl y :: .inl x :: S) m R := by
  intro r m2 hR l D ad ca p e s mi args below meth c H locs ls hC hS
  obtain ⟨hd, rfl⟩ := hd
  exact lv_iushr hC.1.1 hC.1.2.1 hd rfl (h r m2 hR l D ad ca p e s mi args below meth c H locs ls hC (hS.tl.tl.pi _))
theorem g_ineg {x : Int32} (hd : Dc mt pc .ineg 1 nx) (h : G mt d nx L (.inl (-x) :: S) m R) : G mt d pc L (.inl x :: S) m R := by
  intro r m2 hR l D ad ca p e s mi args below meth c H locs ls hC hS
  obtain ⟨hd, rfl⟩ := hd
  exact lv_ineg hC.1.1 hC.1.2.1 hd (h r m2 hR l D ad ca p e s mi args below meth c H locs ls hC (hS.tl.pi _))
def jidiv (x y : Int32) (k : Int32 → hR) : hR := if y = 0 then none else k (x / y)
theorem g_idiv {x y : Int32} {k : Int32 → hR} (hd : Dc mt pc .idiv 1 nx) (h : G mt d nx L (.inl (x / y) :: S) m (k (x / y))) : G mt d pc L (.inl y :: .inl x :: S) m (jidiv x y k) := by
  intro r m2 hR l D ad ca p e s mi args below meth c H locs ls hC hS
  obtain ⟨hd, rfl⟩ := hd
  unfold jidiv at hR
  split at hR
  · cases hR
  · rename_i hne
    exact lv_idiv hC.1.1 hC.1.2.1 hd hne (h r m2 hR l D ad ca p e s mi args below meth c H locs ls hC (hS.tl.tl.pi _))
def jirem (x y : Int32) (k : Int32 → hR) : hR := if y = 0 then none else k (x - x / y * y)
theorem g_irem {x y : Int32} {k : Int32 → hR} (hd : Dc mt pc .irem 1 nx) (h : G mt d nx L (.inl (x - x / y * y) :: S) m (k (x - x / y * y))) : G mt d pc L (.inl y :: .inl x :: S) m (jirem x y k) := by
  intro r m2 hR l D ad ca p e s mi args below meth c H locs ls hC hS
  obtain ⟨hd, rfl⟩ := hd
  unfold jirem at hR
  split at hR
  · cases hR
  · rename_i hne
    exact lv_irem hC.1.1 hC.1.2.1 hd hne (h r m2 hR l D ad ca p e s mi args below meth c H locs ls hC (hS.tl.tl.pi _))
theorem g_ladd {x y : Int64} (hd : Dc mt pc .ladd 1 nx) (h : G mt d nx L (.inr (.inl (x + y)) :: S) m R) : G mt d pc L (.inr (.inl y) :: .inr (.inl x) :: S) m R := by
  intro r m2 hR l D ad ca p e s mi args below meth c H locs ls hC hS
  obtain ⟨hd, rfl⟩ := hd
  exact lv_ladd hC.1.1 hC.1.2.1 hd (h r m2 hR l D ad ca p e s mi args below meth c H locs ls hC (hS.tl.tl.pl _))
theorem g_lsub {x y : Int64} (hd : Dc mt pc .lsub 1 nx) (h : G mt d nx L (.inr (.inl (x - y)) :: S) m R) : G mt d pc L (.inr (.inl y) :: .inr (.inl x) :: S) m R := by
  intro r m2 hR l D ad ca p e s mi args below meth c H locs ls hC hS
  obtain ⟨hd, rfl⟩ := hd
  exact lv_lsub hC.1.1 hC.1.2.1 hd (h r m2 hR l D ad ca p e s mi args below meth c H locs ls hC (hS.tl.tl.pl _))
theorem g_lmul {x y : Int64} (hd : Dc mt pc .lmul 1 nx) (h : G mt d nx L (.inr (.inl (x * y)) :: S) m R) : G mt d pc L (.inr (.inl y) :: .inr (.inl x) :: S) m R := by
  intro r m2 hR l D ad ca p e s mi args below meth c H locs ls hC hS
  obtain ⟨hd, rfl⟩ := hd
  exact lv_lmul hC.1.1 hC.1.2.1 hd (h r m2 hR l D ad ca p e s mi args below meth c H locs ls hC (hS.tl.tl.pl _))
theorem g_land {x y : Int64} (hd : Dc mt pc .land 1 nx) (h : G mt d nx L (.inr (.inl (x &&& y)) :: S) m R) : G mt d pc L (.inr (.inl y) :: .inr (.inl x) :: S) m R := by
  intro r m2 hR l D ad ca p e s mi args below meth c H locs ls hC hS
  obtain ⟨hd, rfl⟩ := hd
  exact lv_land hC.1.1 hC.1.2.1 hd (h r m2 hR l D ad ca p e s mi args below meth c H locs ls hC (hS.tl.tl.pl _))
theorem g_lor {x y : Int64} (hd : Dc mt pc .lor 1 nx) (h : G mt d nx L (.inr (.inl (x ||| y)) :: S) m R) : G mt d pc L (.inr (.inl y) :: .inr (.inl x) :: S) m R := by
  intro r m2 hR l D ad ca p e s mi args below meth c H locs ls hC hS
  obtain ⟨hd, rfl⟩ := hd
  exact lv_lor hC.1.1 hC.1.2.1 hd (h r m2 hR l D ad ca p e s mi args below meth c H locs ls hC (hS.tl.tl.pl _))
def jlushr (x : Int64) (y : Int32) : Int64 := (x.toUInt64 >>> (y.toInt64.toUInt64 &&& Int64.toUInt64 63)).toInt64
theorem g_lshl {x : Int64} {y : Int32} (hd : Dc mt pc .lshl 1 nx) (h : G mt d nx L (.inr (.inl (x <<< (y.toInt64 &&& 63))) :: S) m R) : G mt d pc L (.inl y :: .inr (.inl x) :: S) m R := by
  intro r m2 hR l D ad ca p e s mi args below meth c H locs ls hC hS
  obtain ⟨hd, rfl⟩ := hd
  exact lv_lshl hC.1.1 hC.1.2.1 hd rfl (h r m2 hR l D ad ca p e s mi args below meth c H locs ls hC (hS.tl.tl.pl _))
theorem g_lshr {x : Int64} {y : Int32} (hd : Dc mt pc .lshr 1 nx) (h : G mt d nx L (.inr (.inl (x >>> (y.toInt64 &&& 63))) :: S) m R) : G mt d pc L (.inl y :: .inr (.inl x) :: S) m R := by
  intro r m2 hR l D ad ca p e s mi args below meth c H locs ls hC hS
  obtain ⟨hd, rfl⟩ := hd
  exact lv_lshr hC.1.1 hC.1.2.1 hd rfl (h r m2 hR l D ad ca p e s mi args below meth c H locs ls hC (hS.tl.tl.pl _))
theorem g_lushr {x : Int64} {y : Int32} (hd : Dc mt pc .lushr 1 nx) (h : G mt d nx L (.inr (.inl (jlushr x y)) :: S) m R) : G mt d pc L (.inl y :: .inr (.inl x) :: S) m R := by
  intro r m2 hR l D ad ca p e s mi args below meth c H locs ls hC hS
  obtain ⟨hd, rfl⟩ := hd
  exact lv_lushr hC.1.1 hC.1.2.1 hd rfl (h r m2 hR l D ad ca p e s mi args below meth c H locs ls hC (hS.tl.tl.pl _))
def jlrem (x y : Int64) (k : Int64 → hR) : hR := if y = 0 then none else k (x - x / y * y)
theorem g_lrem {x y : Int64} {k : Int64 → hR} (hd : Dc mt pc .lrem 1 nx) (h : G mt d nx L (.inr (.inl (x - x / y * y)) :: S) m (k (x - x / y * y))) : G mt d pc L (.inr (.inl y) :: .inr (.inl x) :: S) m (jlrem x y k) := by
  intro r m2 hR l D ad ca p e s mi args below meth c H locs ls hC hS
  obtain ⟨hd, rfl⟩ := hd
  unfold jlrem at hR
  split at hR
  · cases hR
  · rename_i hne
    exact lv_lrem hC.1.1 hC.1.2.1 hd hne (h r m2 hR l D ad ca p e s mi args below meth c H locs ls hC (hS.tl.tl.pl _))
theorem g_i2l {x : Int32} (hd : Dc mt pc .i2l 1 nx) (h : G mt d nx L (.inr (.inl x.toInt64) :: S) m R) : G mt d pc L (.inl x :: S) m R := by
  intro r m2 hR l D ad ca p e s mi args below meth c H locs ls hC hS
  obtain ⟨hd, rfl⟩ := hd
  exact lv_i2l hC.1.1 hC.1.2.1 hd rfl (h r m2 hR l D ad ca p e s mi args below meth c H locs ls hC (hS.tl.pl _))
theorem g_l2i {x : Int64} (hd : Dc mt pc .l2i 1 nx) (h : G mt d nx L (.inl x.toInt32 :: S) m R) : G mt d pc L (.inr (.inl x) :: S) m R := by
  intro r m2 hR l D ad ca p e s mi args below meth c H locs ls hC hS
  obtain ⟨hd, rfl⟩ := hd
  exact lv_l2i hC.1.1 hC.1.2.1 hd rfl (h r m2 hR l D ad ca p e s mi args below meth c H locs ls hC (hS.tl.pi _))
def ji2c (x : Int32) : Int32 := (x.toUInt32 % 65536).toInt32
theorem g_i2c {x : Int32} (hd : Dc mt pc .i2c 1 nx) (h : G mt d nx L (.inl (ji2c x) :: S) m R) : G mt d pc L (.inl x :: S) m R := by
  intro r m2 hR l D ad ca p e s mi args below meth c H locs ls hC hS
  obtain ⟨hd, rfl⟩ := hd
  exact lv_i2c hC.1.1 hC.1.2.1 hd rfl (h r m2 hR l D ad ca p e s mi args below meth c H locs ls hC (hS.tl.pi _))
theorem g_lcmp {x y : Int64} (hd : Dc mt pc .lcmp 1 nx) (h : G mt d nx L (.inl (lg_cmp x y) :: S) m R) : G mt d pc L (.inr (.inl y) :: .inr (.inl x) :: S) m R := by
  intro r m2 hR l D ad ca p e s mi args below meth c H locs ls hC hS
  obtain ⟨hd, rfl⟩ := hd
  exact W.lcmp hC.1.1 hC.1.2.1 hd (h r m2 hR l D ad ca p e s mi args below meth c H locs ls hC (hS.tl.tl.pi _))
theorem g_iconst {n : Int} {v : Int32} (hd : Dc mt pc (.iconst n) 1 nx) (hv : Int32.ofInt n = v) (h : G mt d nx L (.inl v :: S) m R) : G mt d pc L (S) m R := by
  intro r m2 hR l D ad ca p e s mi args below meth c H locs ls hC hS
  obtain ⟨hd, rfl⟩ := hd
  exact lv_iconst hC.1.1 hC.1.2.1 hd hv (h r m2 hR l D ad ca p e s mi args below meth c H locs ls hC (hS.pi _))
theorem g_bipush {n : Int} {v : Int32} (hd : Dc mt pc (.bipush n) 2 nx) (hv : (Int8.ofInt n).toInt32 = v) (h : G mt d nx L (.inl v :: S) m R) : G mt d pc L (S) m R := by
  intro r m2 hR l D ad ca p e s mi args below meth c H locs ls hC hS
  obtain ⟨hd, rfl⟩ := hd
  exact lv_bipush hC.1.1 hC.1.2.1 hd hv (h r m2 hR l D ad ca p e s mi args below meth c H locs ls hC (hS.pi _))
theorem g_sipush {n : Int} {v : Int32} (hd : Dc mt pc (.sipush n) 3 nx) (hv : (Int16.ofInt n).toInt32 = v) (h : G mt d nx L (.inl v :: S) m R) : G mt d pc L (S) m R := by
  intro r m2 hR l D ad ca p e s mi args below meth c H locs ls hC hS
  obtain ⟨hd, rfl⟩ := hd
  exact lv_sipush hC.1.1 hC.1.2.1 hd hv (h r m2 hR l D ad ca p e s mi args below meth c H locs ls hC (hS.pi _))
theorem g_lconst {n : Fin 2} {v : Int64} (hd : Dc mt pc (.lconst n) 1 nx) (hv : Int64.ofNat (n : Nat) = v) (h : G mt d nx L (.inr (.inl v) :: S) m R) : G mt d pc L (S) m R := by
  intro r m2 hR l D ad ca p e s mi args below meth c H locs ls hC hS
  obtain ⟨hd, rfl⟩ := hd
  exact lv_lconst hC.1.1 hC.1.2.1 hd hv (h r m2 hR l D ad ca p e s mi args below meth c H locs ls hC (hS.pl _))
theorem g_ldc {i : Nat} {v : Int32} (hd : Dc mt pc (.ldc i) 2 nx) (hw : Cond.constant mt.1.cls i v ∈ gdw) (h : G mt d nx L (.inl v :: S) m R) : G mt d pc L (S) m R := by
  intro r m2 hR l D ad ca p e s mi args below meth c H locs ls hC hS
  obtain ⟨hd, rfl⟩ := hd
  exact lv_ldc hC.1.1 hC.1.2.1 hC.1.2.2.2.1 (hC.w hw) hd (h r m2 hR l D ad ca p e s mi args below meth c H locs ls hC (hS.pi _))
theorem g_ldcw {i : Nat} {v : Int32} (hd : Dc mt pc (.ldc_w i) 3 nx) (hw : Cond.constant mt.1.cls i v ∈ gdw) (h : G mt d nx L (.inl v :: S) m R) : G mt d pc L (S) m R := by
  intro r m2 hR l D ad ca p e s mi args below meth c H locs ls hC hS
  obtain ⟨hd, rfl⟩ := hd
  exact lv_ldcw hC.1.1 hC.1.2.1 hC.1.2.2.2.1 (hC.w hw) hd (h r m2 hR l D ad ca p e s mi args below meth c H locs ls hC (hS.pi _))
theorem g_ldc2 {i : Nat} {v : Int64} (hd : Dc mt pc (.ldc2_w i) 3 nx) (hw : Cond.constantLong mt.1.cls i v ∈ gdw) (h : G mt d nx L (.inr (.inl v) :: S) m R) : G mt d pc L (S) m R := by
  intro r m2 hR l D ad ca p e s mi args below meth c H locs ls hC hS
  obtain ⟨hd, rfl⟩ := hd
  exact lv_ldc2 hC.1.1 hC.1.2.1 hC.1.2.2.2.1 (hC.w hw) hd (h r m2 hR l D ad ca p e s mi args below meth c H locs ls hC (hS.pl _))
theorem g_iload {i : Nat} {x : Int32} (j : Nat) (hd : Dc mt pc (.iload i) 2 nx) (hj : L[j]? = some (i, .inl x)) (h : G mt d nx L (.inl x :: S) m R) : G mt d pc L (S) m R := by
  intro r m2 hR l D ad ca p e s mi args below meth c H locs ls hC hS
  obtain ⟨hd, rfl⟩ := hd
  exact lv_iload hC.1.1 hC.1.2.1 hd (hS.at hj).1 (h r m2 hR l D ad ca p e s mi args below meth c H locs ls hC (hS.pi _))
theorem g_iload_n {i : Fin 4} {x : Int32} (j : Nat) (hd : Dc mt pc (.iload_n i) 1 nx) (hj : L[j]? = some ((i : Nat), .inl x)) (h : G mt d nx L (.inl x :: S) m R) : G mt d pc L (S) m R := by
  intro r m2 hR l D ad ca p e s mi args below meth c H locs ls hC hS
  obtain ⟨hd, rfl⟩ := hd
  exact lv_iload_n hC.1.1 hC.1.2.1 hd rfl (hS.at hj).1 (h r m2 hR l D ad ca p e s mi args below meth c H locs ls hC (hS.pi _))
theorem g_lload {i : Nat} {x : Int64} (j : Nat) (hd : Dc mt pc (.lload i) 2 nx) (hj : L[j]? = some (i, .inr (.inl x))) (h : G mt d nx L (.inr (.inl x) :: S) m R) : G mt d pc L (S) m R := by
  intro r m2 hR l D ad ca p e s mi args below meth c H locs ls hC hS
  obtain ⟨hd, rfl⟩ := hd
  exact lv_lload hC.1.1 hC.1.2.1 hd (hS.at hj).1 (h r m2 hR l D ad ca p e s mi args below meth c H locs ls hC (hS.pl _))
theorem g_lload_n {i : Fin 4} {x : Int64} (j : Nat) (hd : Dc mt pc (.lload_n i) 1 nx) (hj : L[j]? = some ((i : Nat), .inr (.inl x))) (h : G mt d nx L (.inr (.inl x) :: S) m R) : G mt d pc L (S) m R := by
  intro r m2 hR l D ad ca p e s mi args below meth c H locs ls hC hS
  obtain ⟨hd, rfl⟩ := hd
  exact lv_lload_n hC.1.1 hC.1.2.1 hd rfl (hS.at hj).1 (h r m2 hR l D ad ca p e s mi args below meth c H locs ls hC (hS.pl _))
theorem g_aload {i : Nat} {q : Nat × Nat} (j : Nat) (hd : Dc mt pc (.aload i) 2 nx) (hj : L[j]? = some (i, .inr (.inr q))) (h : G mt d nx L (.inr (.inr q) :: S) m R) : G mt d pc L (S) m R := by
  intro r m2 hR l D ad ca p e s mi args below meth c H locs ls hC hS
  obtain ⟨hd, rfl⟩ := hd
  exact lv_aload hC.1.1 hC.1.2.1 hd (hS.at hj).1 (h r m2 hR l D ad ca p e s mi args below meth c H locs ls hC (hS.pu (hS.at hj).2))
theorem g_aload_n {i : Fin 4} {q : Nat × Nat} (j : Nat) (hd : Dc mt pc (.aload_n i) 1 nx) (hj : L[j]? = some ((i : Nat), .inr (.inr q))) (h : G mt d nx L (.inr (.inr q) :: S) m R) : G mt d pc L (S) m R := by
  intro r m2 hR l D ad ca p e s mi args below meth c H locs ls hC hS
  obtain ⟨hd, rfl⟩ := hd
  exact lv_aload_n hC.1.1 hC.1.2.1 hd rfl (hS.at hj).1 (h r m2 hR l D ad ca p e s mi args below meth c H locs ls hC (hS.pu (hS.at hj).2))
theorem g_istore {i : Nat} {x : Int32} (hd : Dc mt pc (.istore i) 2 nx) (hl : hSt1 L i (.inl x) = L2) (hn : i < mt.2.2.1) (h : G mt d nx L2 S m R) : G mt d pc L (.inl x :: S) m R := by
  intro r m2 hR l D ad ca p e s mi args below meth c H locs ls hC hS
  obtain ⟨hd, rfl⟩ := hd
  subst hl
  exact lv_istore hC.1.1 hC.1.2.1 hd hS.2.2.2.1 hn (hSt1_ev ad L i (.inl x)) (fun ls2 hl2 => h r m2 hR l D ad ca p e s mi args below meth c H locs ls2 hC (hS.tl.lo hl2 (hSt1_val hS.2.2.2.2.1 hS.hd)))
theorem g_lstore {i : Nat} {x : Int64} (hd : Dc mt pc (.lstore i) 2 nx) (hl : hSt2 L i (.inr (.inl x)) = L2) (hn : i + 1 < mt.2.2.1) (h : G mt d nx L2 S m R) : G mt d pc L (.inr (.inl x) :: S) m R := by
  intro r m2 hR l D ad ca p e s mi args below meth c H locs ls hC hS
  obtain ⟨hd, rfl⟩ := hd
  subst hl
  exact lv_lstore hC.1.1 hC.1.2.1 hd hS.2.2.2.1 hn (hSt2_ev ad L i (.inr (.inl x))) (fun ls2 hl2 => h r m2 hR l D ad ca p e s mi args below meth c H locs ls2 hC (hS.tl.lo hl2 (hSt2_val hS.2.2.2.2.1 hS.hd)))
theorem g_astore {i : Nat} {x : Nat × Nat} (hd : Dc mt pc (.astore i) 2 nx) (hl : hSt1 L i (.inr (.inr x)) = L2) (hn : i < mt.2.2.1) (h : G mt d nx L2 S m R) : G mt d pc L (.inr (.inr x) :: S) m R := by
  intro r m2 hR l D ad ca p e s mi args below meth c H locs ls hC hS
  obtain ⟨hd, rfl⟩ := hd
  subst hl
  exact lv_astore hC.1.1 hC.1.2.1 hd hS.2.2.2.1 hn (hSt1_ev ad L i (.inr (.inr x))) (fun ls2 hl2 => h r m2 hR l D ad ca p e s mi args below meth c H locs ls2 hC (hS.tl.lo hl2 (hSt1_val hS.2.2.2.2.1 hS.hd)))
theorem g_istore_n {i : Fin 4} {x : Int32} (hd : Dc mt pc (.istore_n i) 1 nx) (hl : hSt1 L (i : Nat) (.inl x) = L2) (hn : (i : Nat) < mt.2.2.1) (h : G mt d nx L2 S m R) : G mt d pc L (.inl x :: S) m R := by
  intro r m2 hR l D ad ca p e s mi args below meth c H locs ls hC hS
  obtain ⟨hd, rfl⟩ := hd
  subst hl
  exact lv_istore_n hC.1.1 hC.1.2.1 hd rfl hS.2.2.2.1 hn (hSt1_ev ad L (i : Nat) (.inl x)) (fun ls2 hl2 => h r m2 hR l D ad ca p e s mi args below meth c H locs ls2 hC (hS.tl.lo hl2 (hSt1_val hS.2.2.2.2.1 hS.hd)))
theorem g_lstore_n {i : Fin 4} {x : Int64} (hd : Dc mt pc (.lstore_n i) 1 nx) (hl : hSt2 L (i : Nat) (.inr (.inl x)) = L2) (hn : (i : Nat) + 1 < mt.2.2.1) (h : G mt d nx L2 S m R) : G mt d pc L (.inr (.inl x) :: S) m R := by
  intro r m2 hR l D ad ca p e s mi args below meth c H locs ls hC hS
  obtain ⟨hd, rfl⟩ := hd
  subst hl
  exact lv_lstore_n hC.1.1 hC.1.2.1 hd rfl hS.2.2.2.1 hn (hSt2_ev ad L (i : Nat) (.inr (.inl x))) (fun ls2 hl2 => h r m2 hR l D ad ca p e s mi args below meth c H locs ls2 hC (hS.tl.lo hl2 (hSt2_val hS.2.2.2.2.1 hS.hd)))
theorem g_astore_n {i : Fin 4} {x : Nat × Nat} (hd : Dc mt pc (.astore_n i) 1 nx) (hl : hSt1 L (i : Nat) (.inr (.inr x)) = L2) (hn : (i : Nat) < mt.2.2.1) (h : G mt d nx L2 S m R) : G mt d pc L (.inr (.inr x) :: S) m R := by
  intro r m2 hR l D ad ca p e s mi args below meth c H locs ls hC hS
  obtain ⟨hd, rfl⟩ := hd
  subst hl
  exact lv_astore_n hC.1.1 hC.1.2.1 hd rfl hS.2.2.2.1 hn (hSt1_ev ad L (i : Nat) (.inr (.inr x))) (fun ls2 hl2 => h r m2 hR l D ad ca p e s mi args below meth c H locs ls2 hC (hS.tl.lo hl2 (hSt1_val hS.2.2.2.2.1 hS.hd)))
theorem g_iinc {i : Nat} {n : Int} {x v : Int32} (j : Nat) (hd : Dc mt pc (.iinc i n) 3 nx) (hj : L[j]? = some (i, .inl x)) (hv : x + Int32.ofInt n = v) (hl : hSt1 L i (.inl v) = L2) (hn : i < mt.2.2.1) (h : G mt d nx L2 S m R) : G mt d pc L S m R := by
  intro r m2 hR l D ad ca p e s mi args below meth c H locs ls hC hS
  obtain ⟨hd, rfl⟩ := hd
  subst hl
  exact lv_iinc hC.1.1 hC.1.2.1 hd hS.2.2.2.1 (k := j) (by rw [hLs, List.getElem?_map, hj]; rfl) hv hn (hSt1_ev ad L i (.inl v)) (fun ls2 hl2 => h r m2 hR l D ad ca p e s mi args below meth c H locs ls2 hC (hS.lo hl2 (hSt1_val hS.2.2.2.2.1 trivial)))
theorem g_dup {v : hV} (hd : Dc mt pc .dup 1 nx) (hv : vcat v = 1) (h : G mt d nx L (v :: v :: S) m R) : G mt d pc L (v :: S) m R := by
  intro r m2 hR l D ad ca p e s mi args below meth c H locs ls hC hS
  obtain ⟨hd, rfl⟩ := hd
  exact lv_dup hC.1.1 hC.1.2.1 hd (by rw [ev_cat]; exact hv) (h r m2 hR l D ad ca p e s mi args below meth c H locs ls hC (hS.pu hS.hd))
theorem g_pop {v : hV} (hd : Dc mt pc .pop 1 nx) (hv : vcat v = 1) (h : G mt d nx L (S) m R) : G mt d pc L (v :: S) m R := by
  intro r m2 hR l D ad ca p e s mi args below meth c H locs ls hC hS
  obtain ⟨hd, rfl⟩ := hd
  exact lv_pop hC.1.1 hC.1.2.1 hd (by rw [ev_cat]; exact hv) (h r m2 hR l D ad ca p e s mi args below meth c H locs ls hC hS.tl)
theorem g_dup2 {v w : hV} (hd : Dc mt pc .dup2 1 nx) (hv : vcat v = 1) (hw : vcat w = 1) (h : G mt d nx L (v :: w :: v :: w :: S) m R) : G mt d pc L (v :: w :: S) m R := by
  intro r m2 hR l D ad ca p e s mi args below meth c H locs ls hC hS
  obtain ⟨hd, rfl⟩ := hd
  exact lv_dup2_11 hC.1.1 hC.1.2.1 hd (by rw [ev_cat]; exact hv) (by rw [ev_cat]; exact hw) (h r m2 hR l D ad ca p e s mi args below meth c H locs ls hC ((hS.pu hS.tl.hd).pu hS.hd))
theorem g_dup_x1 {v w : hV} (hd : Dc mt pc .dup_x1 1 nx) (hv : vcat v = 1) (hw : vcat w = 1) (h : G mt d nx L (v :: w :: v :: S) m R) : G mt d pc L (v :: w :: S) m R := by
  intro r m2 hR l D ad ca p e s mi args below meth c H locs ls hC hS
  obtain ⟨hd, rfl⟩ := hd
  exact lv_dup_x1 hC.1.1 hC.1.2.1 hd (by rw [ev_cat]; exact hv) (by rw [ev_cat]; exact hw) (h r m2 hR l D ad ca p e s mi args below meth c H locs ls hC (((hS.tl.tl.pu hS.hd).pu hS.tl.hd).pu hS.hd))
theorem g_goto {off : Int} {tgt : Nat} (hd : Dc mt pc (.goto off) 3 nx) (ht : (pc : Int) + off = (tgt : Int)) (h : G mt d tgt L S m R) : G mt d pc L S m R := by
  intro r m2 hR l D ad ca p e s mi args below meth c H locs ls hC hS
  exact lv_goto hC.1.1 hC.1.2.1 hd.1 ht (h r m2 hR l D ad ca p e s mi args below meth c H locs ls hC hS)
theorem g_if_eq {x : Int32} {off : Int} {tgt : Nat} {A B : hR} (hd : Dc mt pc (.ifCond .eq off) 3 nx) (ht : (pc : Int) + off = (tgt : Int)) (ha : x = 0 → G mt d tgt L S m A) (hb : ¬ (x = 0) → G mt d nx L S m B) : G mt d pc L (.inl x :: S) m (if x = 0 then A else B) := by
  intro r m2 hR l D ad ca p e s mi args below meth c H locs ls hC hS
  obtain ⟨hd, rfl⟩ := hd
  refine lv_if_eq hC.1.1 hC.1.2.1 hd ht (fun q => ?_) (fun q => ?_)
  · rw [if_pos q] at hR
    exact ha q r m2 hR l D ad ca p e s mi args below meth c H locs ls hC hS.tl
  · rw [if_neg q] at hR
    exact hb q r m2 hR l D ad ca p e s mi args below meth c H locs ls hC hS.tl
theorem g_if_lt {x : Int32} {off : Int} {tgt : Nat} {A B : hR} (hd : Dc mt pc (.ifCond .lt off) 3 nx) (ht : (pc : Int) + off = (tgt : Int)) (ha : x < 0 → G mt d tgt L S m A) (hb : ¬ (x < 0) → G mt d nx L S m B) : G mt d pc L (.inl x :: S) m (if x < 0 then A else B) := by
  intro r m2 hR l D ad ca p e s mi args below meth c H locs ls hC hS
  obtain ⟨hd, rfl⟩ := hd
  refine lv_if_lt hC.1.1 hC.1.2.1 hd ht (fun q => ?_) (fun q => ?_)
  · rw [if_pos q] at hR
    exact ha q r m2 hR l D ad ca p e s mi args below meth c H locs ls hC hS.tl
  · rw [if_neg q] at hR
    exact hb q r m2 hR l D ad ca p e s mi args below meth c H locs ls hC hS.tl
theorem g_if_ge {x : Int32} {off : Int} {tgt : Nat} {A B : hR} (hd : Dc mt pc (.ifCond .ge off) 3 nx) (ht : (pc : Int) + off = (tgt : Int)) (ha : 0 ≤ x → G mt d tgt L S m A) (hb : ¬ (0 ≤ x) → G mt d nx L S m B) : G mt d pc L (.inl x :: S) m (if 0 ≤ x then A else B) := by
  intro r m2 hR l D ad ca p e s mi args below meth c H locs ls hC hS
  obtain ⟨hd, rfl⟩ := hd
  refine lv_if_ge hC.1.1 hC.1.2.1 hd ht (fun q => ?_) (fun q => ?_)
  · rw [if_pos q] at hR
    exact ha q r m2 hR l D ad ca p e s mi args below meth c H locs ls hC hS.tl
  · rw [if_neg q] at hR
    exact hb q r m2 hR l D ad ca p e s mi args below meth c H locs ls hC hS.tl
theorem g_if_gt {x : Int32} {off : Int} {tgt : Nat} {A B : hR} (hd : Dc mt pc (.ifCond .gt off) 3 nx) (ht : (pc : Int) + off = (tgt : Int)) (ha : 0 < x → G mt d tgt L S m A) (hb : ¬ (0 < x) → G mt d nx L S m B) : G mt d pc L (.inl x :: S) m (if 0 < x then A else B) := by
  intro r m2 hR l D ad ca p e s mi args below meth c H locs ls hC hS
  obtain ⟨hd, rfl⟩ := hd
  refine lv_if_gt hC.1.1 hC.1.2.1 hd ht (fun q => ?_) (fun q => ?_)
  · rw [if_pos q] at hR
    exact ha q r m2 hR l D ad ca p e s mi args below meth c H locs ls hC hS.tl
  · rw [if_neg q] at hR
    exact hb q r m2 hR l D ad ca p e s mi args below meth c H locs ls hC hS.tl
theorem g_if_le {x : Int32} {off : Int} {tgt : Nat} {A B : hR} (hd : Dc mt pc (.ifCond .le off) 3 nx) (ht : (pc : Int) + off = (tgt : Int)) (ha : x ≤ 0 → G mt d tgt L S m A) (hb : ¬ (x ≤ 0) → G mt d nx L S m B) : G mt d pc L (.inl x :: S) m (if x ≤ 0 then A else B) := by
  intro r m2 hR l D ad ca p e s mi args below meth c H locs ls hC hS
  obtain ⟨hd, rfl⟩ := hd
  refine lv_if_le hC.1.1 hC.1.2.1 hd ht (fun q => ?_) (fun q => ?_)
  · rw [if_pos q] at hR
    exact ha q r m2 hR l D ad ca p e s mi args below meth c H locs ls hC hS.tl
  · rw [if_neg q] at hR
    exact hb q r m2 hR l D ad ca p e s mi args below meth c H locs ls hC hS.tl
theorem g_icmp_eq {x y : Int32} {off : Int} {tgt : Nat} {A B : hR} (hd : Dc mt pc (.if_icmp .eq off) 3 nx) (ht : (pc : Int) + off = (tgt : Int)) (ha : x = y → G mt d tgt L S m A) (hb : ¬ (x = y) → G mt d nx L S m B) : G mt d pc L (.inl y :: .inl x :: S) m (if x = y then A else B) := by
  intro r m2 hR l D ad ca p e s mi args below meth c H locs ls hC hS
  obtain ⟨hd, rfl⟩ := hd
  refine lv_icmp_eq hC.1.1 hC.1.2.1 hd ht (fun q => ?_) (fun q => ?_)
  · rw [if_pos q] at hR
    exact ha q r m2 hR l D ad ca p e s mi args below meth c H locs ls hC hS.tl.tl
  · rw [if_neg q] at hR
    exact hb q r m2 hR l D ad ca p e s mi args below meth c H locs ls hC hS.tl.tl
theorem g_icmp_lt {x y : Int32} {off : Int} {tgt : Nat} {A B : hR} (hd : Dc mt pc (.if_icmp .lt off) 3 nx) (ht : (pc : Int) + off = (tgt : Int)) (ha : x < y → G mt d tgt L S m A) (hb : ¬ (x < y) → G mt d nx L S m B) : G mt d pc L (.inl y :: .inl x :: S) m (if x < y then A else B) := by
  intro r m2 hR l D ad ca p e s mi args below meth c H locs ls hC hS
  obtain ⟨hd, rfl⟩ := hd
  refine lv_icmp_lt hC.1.1 hC.1.2.1 hd ht (fun q => ?_) (fun q => ?_)
  · rw [if_pos q] at hR
    exact ha q r m2 hR l D ad ca p e s mi args below meth c H locs ls hC hS.tl.tl
  · rw [if_neg q] at hR
    exact hb q r m2 hR l D ad ca p e s mi args below meth c H locs ls hC hS.tl.tl
theorem g_icmp_ge {x y : Int32} {off : Int} {tgt : Nat} {A B : hR} (hd : Dc mt pc (.if_icmp .ge off) 3 nx) (ht : (pc : Int) + off = (tgt : Int)) (ha : y ≤ x → G mt d tgt L S m A) (hb : ¬ (y ≤ x) → G mt d nx L S m B) : G mt d pc L (.inl y :: .inl x :: S) m (if y ≤ x then A else B) := by
  intro r m2 hR l D ad ca p e s mi args below meth c H locs ls hC hS
  obtain ⟨hd, rfl⟩ := hd
  refine lv_icmp_ge hC.1.1 hC.1.2.1 hd ht (fun q => ?_) (fun q => ?_)
  · rw [if_pos q] at hR
    exact ha q r m2 hR l D ad ca p e s mi args below meth c H locs ls hC hS.tl.tl
  · rw [if_neg q] at hR
    exact hb q r m2 hR l D ad ca p e s mi args below meth c H locs ls hC hS.tl.tl
theorem g_icmp_gt {x y : Int32} {off : Int} {tgt : Nat} {A B : hR} (hd : Dc mt pc (.if_icmp .gt off) 3 nx) (ht : (pc : Int) + off = (tgt : Int)) (ha : y < x → G mt d tgt L S m A) (hb : ¬ (y < x) → G mt d nx L S m B) : G mt d pc L (.inl y :: .inl x :: S) m (if y < x then A else B) := by
  intro r m2 hR l D ad ca p e s mi args below meth c H locs ls hC hS
  obtain ⟨hd, rfl⟩ := hd
  refine lv_icmp_gt hC.1.1 hC.1.2.1 hd ht (fun q => ?_) (fun q => ?_)
  · rw [if_pos q] at hR
    exact ha q r m2 hR l D ad ca p e s mi args below meth c H locs ls hC hS.tl.tl
  · rw [if_neg q] at hR
    exact hb q r m2 hR l D ad ca p e s mi args below meth c H locs ls hC hS.tl.tl
theorem g_icmp_le {x y : Int32} {off : Int} {tgt : Nat} {A B : hR} (hd : Dc mt pc (.if_icmp .le off) 3 nx) (ht : (pc : Int) + off = (tgt : Int)) (ha : x ≤ y → G mt d tgt L S m A) (hb : ¬ (x ≤ y) → G mt d nx L S m B) : G mt d pc L (.inl y :: .inl x :: S) m (if x ≤ y then A else B) := by
  intro r m2 hR l D ad ca p e s mi args below meth c H locs ls hC hS
  obtain ⟨hd, rfl⟩ := hd
  refine lv_icmp_le hC.1.1 hC.1.2.1 hd ht (fun q => ?_) (fun q => ?_)
  · rw [if_pos q] at hR
    exact ha q r m2 hR l D ad ca p e s mi args below meth c H locs ls hC hS.tl.tl
  · rw [if_neg q] at hR
    exact hb q r m2 hR l D ad ca p e s mi args below meth c H locs ls hC hS.tl.tl
theorem g_if_ne {x : Int32} {off : Int} {tgt : Nat} {A B : hR} (hd : Dc mt pc (.ifCond .ne off) 3 nx) (ht : (pc : Int) + off = (tgt : Int)) (ha : ¬ x = 0 → G mt d tgt L S m A) (hb : x = 0 → G mt d nx L S m B) : G mt d pc L (.inl x :: S) m (if x = 0 then B else A) := by
  intro r m2 hR l D ad ca p e s mi args below meth c H locs ls hC hS
  obtain ⟨hd, rfl⟩ := hd
  refine lv_if_ne hC.1.1 hC.1.2.1 hd ht (fun q => ?_) (fun q => ?_)
  · rw [if_neg q] at hR
    exact ha q r m2 hR l D ad ca p e s mi args below meth c H locs ls hC hS.tl
  · rw [if_pos q] at hR
    exact hb q r m2 hR l D ad ca p e s mi args below meth c H locs ls hC hS.tl
theorem g_icmp_ne {x y : Int32} {off : Int} {tgt : Nat} {A B : hR} (hd : Dc mt pc (.if_icmp .ne off) 3 nx) (ht : (pc : Int) + off = (tgt : Int)) (ha : ¬ x = y → G mt d tgt L S m A) (hb : x = y → G mt d nx L S m B) : G mt d pc L (.inl y :: .inl x :: S) m (if x = y then B else A) := by
  intro r m2 hR l D ad ca p e s mi args below meth c H locs ls hC hS
  obtain ⟨hd, rfl⟩ := hd
  refine lv_icmp_ne hC.1.1 hC.1.2.1 hd ht (fun q => ?_) (fun q => ?_)
  · rw [if_neg q] at hR
    exact ha q r m2 hR l D ad ca p e s mi args below meth c H locs ls hC hS.tl.tl
  · rw [if_pos q] at hR
    exact hb q r m2 hR l D ad ca p e s mi args below meth c H locs ls hC hS.tl.tl
/-- a switch over numbers that follow one another -/
def swL (x : Int32) : List (Int32 × hR) → hR → hR
  | [], B => B
  | q :: cs, B => if x = q.1 then q.2 else swL x cs B
def swK (lo : Int) : List (Int32 × hR) → Prop
  | [] => True
  | q :: cs => q.1.toInt = lo ∧ swK (lo + 1) cs
theorem swL_out {x : Int32} {B : hR} : ∀ (cs : List (Int32 × hR)) (lo : Int), swK lo cs → (x.toInt < lo ∨ lo + cs.length ≤ x.toInt) → swL x cs B = B
  | [], _, _, _ => rfl
  | q :: cs, lo, h, hx => by
    rw [swL, if_neg (fun e => by
      rw [e, h.1] at hx
      rw [List.length_cons] at hx
      omega)]
    exact swL_out cs (lo + 1) h.2 (by rw [List.length_cons] at hx; omega)
theorem swL_in {x : Int32} {B : hR} : ∀ (cs : List (Int32 × hR)) (lo : Int), swK lo cs → lo ≤ x.toInt → x.toInt < lo + cs.length → ∃ q, cs[(x.toInt - lo).toNat]? = some q ∧ swL x cs B = q.2
  | [], lo, _, h1, h2 => by simp at h2; omega
  | q :: cs, lo, h, h1, h2 => by
    by_cases e : x = q.1
    · refine ⟨q, ?_, by rw [swL, if_pos e]⟩
      rw [e, h.1, Int.sub_self]
      rfl
    · have hne : x.toInt ≠ lo := fun z => e (Int32.toInt_inj.mp (z.trans h.1.symm))
      obtain ⟨q2, g1, g2⟩ := swL_in (x := x) (B := B) cs (lo + 1) h.2 (by omega) (by rw [List.length_cons] at h2; omega)
      refine ⟨q2, ?_, by rw [swL, if_neg e]; exact g2⟩
      have e2 : (x.toInt - lo).toNat = (x.toInt - (lo + 1)).toNat + 1 := by omega
      rw [e2, List.getElem?_cons_succ]
      exact g1
def swG (mt : hMt) (d pc : Nat) (L : hL) (S : List hV) (m : hM) : List Int → List (Int32 × hR) → Prop
  | [], [] => True
  | o :: os, q :: cs => (∃ tgt : Nat, (pc : Int) + o = (tgt : Int) ∧ G mt d tgt L S m q.2) ∧ swG mt d pc L S m os cs
  | _, _ => False
theorem swG_at : ∀ (os : List Int) (cs : List (Int32 × hR)), swG mt d pc L S m os cs → os.length = cs.length ∧ ∀ (j : Nat) (q : Int32 × hR), cs[j]? = some q → ∃ (o : Int) (tgt : Nat), os[j]? = some o ∧ (pc : Int) + o = (tgt : Int) ∧ G mt d tgt L S m q.2
  | [], [], _ => ⟨rfl, fun j q h => by simp at h⟩
  | [], _ :: _, h => h.elim
  | _ :: _, [], h => h.elim
  | o :: os, q :: cs, h => by
    obtain ⟨e, g⟩ := swG_at os cs h.2
    refine ⟨by rw [List.length_cons, List.length_cons, e], fun j q2 hj => ?_⟩
    cases j with
    | zero =>
      cases hj
      obtain ⟨tgt, h1, h2⟩ := h.1
      exact ⟨o, tgt, rfl, h1, h2⟩
    | succ j => exact g j q2 hj
theorem g_table {x : Int32} {dflt lo hi : Int} {offs : List Int} {len dt : Nat} {cs : List (Int32 × hR)} {B : hR} (hd : Dc mt pc (.tableswitch dflt lo hi offs.toArray) len nx) (hk : swK lo cs) (hh : lo + cs.length = hi + 1) (hdt : (pc : Int) + dflt = (dt : Int)) (hc : swG mt d pc L S m offs cs) (hb : G mt d dt L S m B) : G mt d pc L (.inl x :: S) m (swL x cs B) := by
  intro r m2 hR l D ad ca p e s mi args below meth c H locs ls hC hS
  obtain ⟨e9, g⟩ := swG_at offs cs hc
  by_cases hx : x.toInt < lo ∨ hi < x.toInt
  · rw [swL_out cs lo hk (by omega)] at hR
    exact lv_tableOut hC.1.1 hC.1.2.1 hd.1 hx hdt (hb r m2 hR l D ad ca p e s mi args below meth c H locs ls hC hS.tl)
  · obtain ⟨q, g1, g2⟩ := swL_in (x := x) (B := B) cs lo hk (by omega) (by omega)
    rw [g2] at hR
    obtain ⟨o, tgt, h1, h2, h3⟩ := g _ q g1
    exact lv_tableIn hC.1.1 hC.1.2.1 hd.1 (by omega) (by omega) (by rw [List.getElem?_toArray]; exact h1) h2 (h3 r m2 hR l D ad ca p e s mi args below meth c H locs ls hC hS.tl)
theorem g_iret {x : Int32} (hr : mt.2.2.2 = some .int) (hd : Dc mt pc .ireturn 1 nx) : G mt d pc L [.inl x] m (some (some (.inl x), m)) := by
  intro r m2 hR l D ad ca p e s mi args below meth c H locs ls hC hS
  cases hR
  exact W.iret hC.1.1 hC.1.2.1 (hC.2.1.trans hr) (fun t ht hW => ⟨rfl, by rw [ht]; exact hS.1, hS.2.2.1.F ht⟩) hS.2.2.1.2.2 hd.1 hC.2.2.1
def jretZ (x : Int32) (m : hM) : hR := if x = 0 ∨ x = 1 then some (some (.inl x), m) else none
theorem g_zret {x : Int32} (hr : mt.2.2.2 = some .boolean) (hd : Dc mt pc .ireturn 1 nx) : G mt d pc L [.inl x] m (jretZ x m) := by
  intro r m2 hR l D ad ca p e s mi args below meth c H locs ls hC hS
  unfold jretZ at hR
  split at hR
  · rename_i hx
    cases hR
    exact W.zret hC.1.1 hC.1.2.1 (hC.2.1.trans hr) (by rcases hx with rfl | rfl <;> decide) (fun t ht hW => ⟨rfl, by rw [ht]; exact hS.1, hS.2.2.1.F ht⟩) hS.2.2.1.2.2 hd.1 hC.2.2.1
  · cases hR
def jretN (ty : FieldType) (x : Int32) (m : hM) : hR := if vp_nar ty x = x then some (some (.inl x), m) else none
theorem g_lret {x : Int64} (hr : mt.2.2.2 = some .long) (hd : Dc mt pc .lreturn 1 nx) : G mt d pc L [.inr (.inl x)] m (some (some (.inr (.inl x)), m)) := by
  intro r m2 hR l D ad ca p e s mi args below meth c H locs ls hC hS
  cases hR
  exact W.lret hC.1.1 hC.1.2.1 (hC.2.1.trans hr) (fun t ht hW => ⟨rfl, by rw [ht]; exact hS.1, hS.2.2.1.F ht⟩) hS.2.2.1.2.2 hd.1 hC.2.2.1
theorem g_vret (hr : mt.2.2.2 = none) (hd : Dc mt pc .return_ 1 nx) : G mt d pc L [] m (some (none, m)) := by
  intro r m2 hR l D ad ca p e s mi args below meth c H locs ls hC hS
  cases hR
  exact W.vret hC.1.1 hC.1.2.1 (hC.2.1.trans hr) (fun t ht hW => ⟨rfl, by rw [ht]; exact hS.1, hS.2.2.1.F ht⟩) hS.2.2.1.2.2 hd.1 hC.2.2.1
theorem g_aret {q : Nat × Nat} {E : String} (hr : mt.2.2.2 = some (.object E)) (hd : Dc mt pc .areturn 1 nx) : G mt d pc L [.inr (.inr q)] m (some (some (.inr (.inr q)), m)) := by
  intro r m2 hR l D ad ca p e s mi args below meth c H locs ls hC hS
  cases hR
  exact W.aret hC.1.1 hC.1.2.1 (hC.2.1.trans hr) (Or.inl ⟨_, rfl⟩) (Or.inr ⟨_, rfl⟩) (fun t ht hW => ⟨rfl, by rw [ht]; exact hS.1, hS.2.2.1.F ht⟩) hS.2.2.1.2.2 hd.1 hC.2.2.1
end Rows
end
section
/-! fields, rows of numbers, calls -/
def lt {α : Type} (x : α) (k : α → hR) : hR := k x
def stI (m : hM) (t n k : Nat) (x : Int32) (c : hM → hR) : hR := c (uI m t n k x)
def stL (m : hM) (t n k : Nat) (x : Int64) (c : hM → hR) : hR := c (uL m t n k x)
def stZ (m : hM) (t n k : Nat) (x : Int32) (c : hM → hR) : hR := if x = 0 ∨ x = 1 then c (uI m t n k x) else none
def inb (i : Int32) (n : Nat) : Bool := !(decide (i < 0)) && decide (i.toNatClampNeg < n)
theorem inb_in {i : Int32} {n : Nat} (h : inb i n = true) : vp_in i n := by
  simp only [inb, Bool.and_eq_true, Bool.not_eq_true', decide_eq_false_iff_not, decide_eq_true_eq] at h
  intro hx
  rcases hx with hx | hx
  · exact h.1 hx
  · omega
theorem inb_lt {i : Int32} {n : Nat} (h : inb i n = true) : i.toNatClampNeg < n := by
  simp only [inb, Bool.and_eq_true, decide_eq_true_eq] at h
  exact h.2
def iaOK (t : Nat) : Bool := decide (t < 61) && ((sCls t).isNone && (sArr t == 0))
def zaOK (t : Nat) : Bool := decide (t < 61) && ((sCls t).isNone && (sArr t == 1))
def raOK (t : Nat) : Bool := t == 35 || (t == 38 || t == 39)
def ald (m : hM) (t n : Nat) (i : Int32) (k : Int32 → hR) : hR := if iaOK t = true ∧ inb i (sLen t n) = true then k (m.1 t n i.toNatClampNeg) else none
def ast (m : hM) (t n : Nat) (i x : Int32) (k : hM → hR) : hR := if iaOK t = true ∧ inb i (sLen t n) = true then k (uI m t n i.toNatClampNeg x) else none
def zald (m : hM) (t n : Nat) (i : Int32) (k : Int32 → hR) : hR := if zaOK t = true ∧ inb i (sLen t n) = true then k (m.1 t n i.toNatClampNeg) else none
def zast (m : hM) (t n : Nat) (i x : Int32) (k : hM → hR) : hR := if zaOK t = true ∧ inb i (sLen t n) = true ∧ (x = 0 ∨ x = 1) then k (uI m t n i.toNatClampNeg x) else none
def aal (t : Nat) (i : Int32) (k : Nat → hR) : hR := if raOK t = true ∧ inb i (sLen t 0) = true then k i.toNatClampNeg else none
/-- what a field's instruction rests on -/
def Fl (own : String) (idx t k : Nat) (ty : FieldType) (fin : Bool) : Prop := ∃ (ci : Nat) (C : String) (T : u_T) (N : Nat) (ty0 : Nat → FieldType),
  t < 61 ∧ sCls t = some ci ∧ vwCl[ci]? = some (C, T, N) ∧ (sFl t).length = N ∧ (∀ w ∈ u_ws C T N, w ∈ gdw) ∧ (∀ k, k < N → parseFieldDescriptor (T k).2.2.1 = some (ty0 k)) ∧ (∀ a, a < N → ∀ b, b < N → a ≠ b → (T a).2.1 ≠ (T b).2.1) ∧
  k < N ∧ ty0 k = ty ∧ (T k).2.2.2 = fin ∧ (T k).1 = C ∧ (Cond.fieldLink own idx C (T k).2.1 (T k).2.2.1 ∈ gdw ∨ (own, idx, C, (T k).2.1, (T k).2.2.1) ∈ nwF)
def fkOK (t : Nat) (q : Nat ⊕ (Nat × Option Nat)) : Bool := match q with
  | .inl _ => true
  | .inr (t2, none) => decide (sCnt t ≤ sCnt t2)
  | .inr (t2, some c) => decide (c < sCnt t2)
theorem fk_all : ∀ t, t < 61 → ∀ k, k < (sFl t).length → fkOK t (sFk t k) = true := by decide +kernel
theorem fld_val {m : hM} {t n k : Nat} (ht : t < 61) (hk : k < (sFl t).length) (hn : n < sCnt t) : hVal (fld m t n k) := by
  have h := fk_all t ht k hk
  unfold fld
  split
  · rename_i t2 c e
    rw [e] at h
    cases c with
    | none => exact Nat.lt_of_lt_of_le hn (of_decide_eq_true h)
    | some c => exact of_decide_eq_true (p := c < sCnt t2) h
  · exact trivial
  · exact trivial
theorem hCell_ob {ad : Nat → Nat → Nat} {ca : Nat → ClassId} {m : hM} {t n ci : Nat} (h : sCls t = some ci) : hCell ad ca m (t, n) = .inr (ci, hFs ad m t n) := by
  unfold hCell
  rw [h]
theorem hCell_ia {ad : Nat → Nat → Nat} {ca : Nat → ClassId} {m : hM} {t n : Nat} (h : iaOK t = true) : hCell ad ca m (t, n) = .inl (ca 0, sLen t n, .inl (m.1 t n)) := by
  simp only [iaOK, Bool.and_eq_true, Option.isNone_iff_eq_none, beq_iff_eq] at h
  unfold hCell
  rw [h.2.1, h.2.2]
  rfl
theorem hCell_za {ad : Nat → Nat → Nat} {ca : Nat → ClassId} {m : hM} {t n : Nat} (h : zaOK t = true) : hCell ad ca m (t, n) = .inl (ca 1, sLen t n, .inl (m.1 t n)) := by
  simp only [zaOK, Bool.and_eq_true, Option.isNone_iff_eq_none, beq_iff_eq] at h
  unfold hCell
  rw [h.2.1, h.2.2]
  rfl
theorem iaOK_lt {t : Nat} (h : iaOK t = true) : t < 61 := by
  simp only [iaOK, Bool.and_eq_true, decide_eq_true_eq] at h
  exact h.1
theorem zaOK_lt {t : Nat} (h : zaOK t = true) : t < 61 := by
  simp only [zaOK, Bool.and_eq_true, decide_eq_true_eq] at h
  exact h.1
theorem uI_row (m : hM) (t n k : Nat) (x : Int32) : (uI m t n k x).1 t n = upd (m.1 t n) k x := by
  funext c
  show (if t = t ∧ n = n ∧ c = k then x else m.1 t n c) = if c = k then x else m.1 t n c
  by_cases h : c = k
  · rw [if_pos ⟨rfl, rfl, h⟩, if_pos h]
  · rw [if_neg (fun e => h e.2.2), if_neg h]
theorem emb_row {ad : Nat → Nat → Nat} {ca : Nat → ClassId} {m : hM} {A : Nat → Prop} {D : va_G} {H1 : Heap} {t n k q : Nat} {x : Int32} {e : va_E} (hD : va_D A (emb ad ca m)) (hq : hIx[q]? = some (t, n)) (he : e = hCell ad ca (uI m t n k x) (t, n)) (h : va_P D vwCl ((emb ad ca m).set q (ad t n, e)) H1) : va_P D vwCl (emb ad ca (uI m t n k x)) H1 := by
  rw [he, emb_set ad ca m (uI m t n k x) hD hq (fun q2 h2 => hCell_uI q2 h2)] at h
  exact h
theorem nz_bool {x : Int32} (h : x = 0 ∨ x = 1) : narrow .boolean (.int x) = .int x := by rcases h with rfl | rfl <;> decide
theorem fz_bool {x : Int32} (h : x = 0 ∨ x = 1) : fits .boolean (.int x) = true := by rcases h with rfl | rfl <;> decide
section Rows
variable {mt : hMt} {d pc nx : Nat} {L L2 : hL} {S : List hV} {m : hM} {R : hR}
theorem g_lt {x : Int32} {k : Int32 → hR} (h : ∀ y, G mt d pc L (.inl y :: S) m (k y)) : G mt d pc L (.inl x :: S) m (lt x k) := h x
theorem g_ltl {x : Int64} {k : Int64 → hR} (h : ∀ y, G mt d pc L (.inr (.inl y) :: S) m (k y)) : G mt d pc L (.inr (.inl x) :: S) m (lt x k) := h x
theorem g_get {idx t n k : Nat} {ty : FieldType} {fin : Bool} {v : hV} (hd : Dc mt pc (.getfield idx) 3 nx) (hf : Fl mt.1.cls idx t k ty fin) (hv : fld m t n k = v) (h : G mt d nx L (v :: S) m R) : G mt d pc L (.inr (.inr (t, n)) :: S) m R := by
  intro r m2 hR l D ad ca p e s mi args below meth c H locs ls hC hS
  obtain ⟨hd, rfl⟩ := hd
  subst hv
  obtain ⟨ci, C, T, N, ty0, h1, h2, h3, h4, h5, h6, h7, h8, h9, h10, h11, h12⟩ := hf
  have hn : n < sCnt t := hS.hd
  obtain ⟨q, e1, e2⟩ := emb_at ad ca m h1 hn
  rw [hCell_ob h2] at e2
  have hk : k < (sFl t).length := by rw [h4]; exact h8
  have hw := h r m2 hR l D ad ca p e s mi args below meth c H locs ls hC (hS.tl.pu (fld_val h1 hk hn))
  rcases h12 with h12 | h12
  · exact va_get (ref := C) hC.1.1 hC.1.2.1 (Ts := gdw) (fun w hw => hC.w hw) h5 hC.1.2.2.2.1 hC.2.2.2.1 hS.1 q e2 h3 k h8 (hC.w h12) (by rw [h11]; exact fun _ z => z) (hFs_at hk) hd hw
  · exact va_getN (ref := C) (host := "HuntedEye") hC.1.1 hC.1.2.1 (Ts := gdw) (fun w hw => hC.w hw) h5 hC.1.2.2.2.1 hC.2.2.2.1 hS.1 q e2 h3 k h8 (va_Nw.use rfl (hC.2.2.2.2.1.1 _ h12)) (by rw [h11]; exact fun _ z => z) (hFs_at hk) hd hw
theorem g_put {idx t n k : Nat} {ty : FieldType} {v : hV} {m1 : hM} (hd : Dc mt pc (.putfield idx) 3 nx) (hf : Fl mt.1.cls idx t k ty false) (hn1 : ∀ ad, narrow ty (ev ad v) = ev ad v) (hfit : ∀ ad, fits ty (ev ad v) = true) (h1v : fld m1 t n k = v) (h1o : ∀ c, c ≠ k → fld m1 t n c = fld m t n c) (h1c : ∀ (ad : Nat → Nat → Nat) (ca : Nat → ClassId) (q2 : Nat × Nat), q2 ≠ (t, n) → hCell ad ca m1 q2 = hCell ad ca m q2) (h : G mt d nx L S m1 R) : G mt d pc L (v :: .inr (.inr (t, n)) :: S) m R := by
  intro r m2 hR l D ad ca p e s mi args below meth c H locs ls hC hS
  obtain ⟨hd, rfl⟩ := hd
  obtain ⟨ci, C, T, N, ty0, h1, h2, h3, h4, h5, h6, h7, h8, h9, h10, h11, h12⟩ := hf
  have hn : n < sCnt t := hS.tl.hd
  obtain ⟨q, e1, e2⟩ := emb_at ad ca m h1 hn
  rw [hCell_ob h2] at e2
  have hk : k < (hFs ad m t n).length := by rw [hFs, List.length_map, List.length_range, h4]; exact h8
  have hde : parseFieldDescriptor (T k).2.2.1 = some ty := by rw [← h9]; exact h6 k h8
  have fin : ∀ (H1 : Heap) (locs1 : List Loc), va_P D vwCl ((emb ad ca m).set q (ad t n, .inr (ci, (hFs ad m t n).set k (ev ad v)))) H1 → va_D (hA ad) ((emb ad ca m).set q (ad t n, .inr (ci, (hFs ad m t n).set k (ev ad v)))) → va_S (hA ad) s.heap H1 locs1 → W p l e (hRm d) s mi args below meth c H1 locs1 0 0 (MQ below (hQ D ad ca r m2) args s 0 0 (hA ad)) (F0 mi (pc + 3) ls (S.map (ev ad))) := by
    intro H1 locs1 hP1 _ hS1
    rw [hFs_set (m2 := m1) (by rw [h1v]) h1o, ← hCell_ob (ad := ad) (ca := ca) (m := m1) (n := n) h2, emb_set ad ca m m1 hS.2.1 e1 (h1c ad ca)] at hP1
    exact h r m2 hR l D ad ca p e s mi args below meth c H1 locs1 ls hC (hS.tl.tl.me hP1 hS1)
  rcases h12 with h12 | h12
  · exact va_put (ref := C) hC.1.1 hC.1.2.1 (Ts := gdw) (fun w hw => hC.w hw) h5 ty0 h6 h7 hC.1.2.2.2.1 hC.2.2.2.1 hS.1 hS.2.1 hS.2.2.1 q e2 h3 k h8 (hC.w h12) (by rw [h11]; exact fun _ z => z) h10 hde (hn1 ad) (hfit ad) hk hd fin
  · exact va_putN (ref := C) (host := "HuntedEye") hC.1.1 hC.1.2.1 (Ts := gdw) (fun w hw => hC.w hw) h5 ty0 h6 h7 hC.1.2.2.2.1 hC.2.2.2.1 hS.1 hS.2.1 hS.2.2.1 q e2 h3 k h8 (va_Nw.use rfl (hC.2.2.2.2.1.1 _ h12)) (by rw [h11]; exact fun _ z => z) h10 hde (hn1 ad) (hfit ad) hk hd fin
theorem fld_I {m : hM} {t n k z : Nat} (hk : sFk t k = .inl z) (hz : z ≠ 1) : fld m t n k = .inl (m.1 t n k) := by
  unfold fld
  rw [hk]
  split
  · rename_i e; cases e
  · rename_i e; cases e; exact absurd rfl hz
  · rfl
theorem fld_L {m : hM} {t n k : Nat} (hk : sFk t k = .inl 1) : fld m t n k = .inr (.inl (m.2 t n k)) := by
  unfold fld
  rw [hk]
  rfl
theorem uI_at (m : hM) (t n k : Nat) (x : Int32) : (uI m t n k x).1 t n k = x := if_pos ⟨rfl, rfl, rfl⟩
theorem uL_at (m : hM) (t n k : Nat) (x : Int64) : (uL m t n k x).2 t n k = x := if_pos ⟨rfl, rfl, rfl⟩
theorem g_putI {idx t n k : Nat} {x : Int32} {K : hM → hR} (hd : Dc mt pc (.putfield idx) 3 nx) (hf : Fl mt.1.cls idx t k .int false) (hk : sFk t k = .inl 0) (h : ∀ m1, G mt d nx L S m1 (K m1)) : G mt d pc L (.inl x :: .inr (.inr (t, n)) :: S) m (stI m t n k x K) :=
  g_put (m1 := uI m t n k x) hd hf (fun _ => rfl) (fun _ => rfl) (by rw [fld_I hk (by decide), uI_at]) (fun c hc => fld_uI _ _ _ (fun e => hc e.2.2)) (fun ad ca q2 h2 => hCell_uI q2 h2) (h _)
theorem g_putZ {idx t n k : Nat} {x : Int32} {K : hM → hR} (hd : Dc mt pc (.putfield idx) 3 nx) (hf : Fl mt.1.cls idx t k .boolean false) (hk : sFk t k = .inl 2) (h : ∀ m1, G mt d nx L S m1 (K m1)) : G mt d pc L (.inl x :: .inr (.inr (t, n)) :: S) m (stZ m t n k x K) := by
  unfold stZ
  split
  · rename_i hx
    exact g_put (m1 := uI m t n k x) hd hf (fun _ => nz_bool hx) (fun _ => fz_bool hx) (by rw [fld_I hk (by decide), uI_at]) (fun c hc => fld_uI _ _ _ (fun e => hc e.2.2)) (fun ad ca q2 h2 => hCell_uI q2 h2) (h _)
  · exact g_none
theorem g_putL {idx t n k : Nat} {x : Int64} {K : hM → hR} (hd : Dc mt pc (.putfield idx) 3 nx) (hf : Fl mt.1.cls idx t k .long false) (hk : sFk t k = .inl 1) (h : ∀ m1, G mt d nx L S m1 (K m1)) : G mt d pc L (.inr (.inl x) :: .inr (.inr (t, n)) :: S) m (stL m t n k x K) :=
  g_put (m1 := uL m t n k x) hd hf (fun _ => rfl) (fun _ => rfl) (by rw [fld_L hk, uL_at]) (fun c hc => fld_uL _ _ _ (fun e => hc e.2.2)) (fun ad ca q2 h2 => hCell_uL q2 h2) (h _)
theorem g_iald {t n : Nat} {i : Int32} {K : Int32 → hR} (hd : Dc mt pc .iaload 1 nx) (h : ∀ x, G mt d nx L (.inl x :: S) m (K x)) : G mt d pc L (.inl i :: .inr (.inr (t, n)) :: S) m (ald m t n i K) := by
  intro r m2 hR l D ad ca p e s mi args below meth c H locs ls hC hS
  obtain ⟨hd, rfl⟩ := hd
  unfold ald at hR
  split at hR
  · rename_i hc
    have hn : n < sCnt t := hS.tl.hd
    obtain ⟨q, e1, e2⟩ := emb_at ad ca m (iaOK_lt hc.1) hn
    rw [hCell_ia hc.1] at e2
    exact va_iald hC.1.1 hC.1.2.1 hC.2.2.2.1 hS.1 q 0 e2 rfl (inb_in hc.2) hd (h _ r m2 hR l D ad ca p e s mi args below meth c H locs ls hC (hS.tl.tl.pi _))
  · cases hR
theorem g_zald {t n : Nat} {i : Int32} {K : Int32 → hR} (hd : Dc mt pc .baload 1 nx) (h : ∀ x, G mt d nx L (.inl x :: S) m (K x)) : G mt d pc L (.inl i :: .inr (.inr (t, n)) :: S) m (zald m t n i K) := by
  intro r m2 hR l D ad ca p e s mi args below meth c H locs ls hC hS
  obtain ⟨hd, rfl⟩ := hd
  unfold zald at hR
  split at hR
  · rename_i hc
    have hn : n < sCnt t := hS.tl.hd
    obtain ⟨q, e1, e2⟩ := emb_at ad ca m (zaOK_lt hc.1) hn
    rw [hCell_za hc.1] at e2
    exact va_zald hC.1.1 hC.1.2.1 hC.2.2.2.1 hS.1 q 1 e2 rfl (inb_in hc.2) hd (h _ r m2 hR l D ad ca p e s mi args below meth c H locs ls hC (hS.tl.tl.pi _))
  · cases hR
theorem g_iast {t n : Nat} {i x : Int32} {K : hM → hR} (hd : Dc mt pc .iastore 1 nx) (h : ∀ m1, G mt d nx L S m1 (K m1)) : G mt d pc L (.inl x :: .inl i :: .inr (.inr (t, n)) :: S) m (ast m t n i x K) := by
  intro r m2 hR l D ad ca p e s mi args below meth c H locs ls hC hS
  obtain ⟨hd, rfl⟩ := hd
  unfold ast at hR
  split at hR
  · rename_i hc
    have hn : n < sCnt t := hS.tl.tl.hd
    obtain ⟨q, e1, e2⟩ := emb_at ad ca m (iaOK_lt hc.1) hn
    rw [hCell_ia hc.1] at e2
    exact va_iast hC.1.1 hC.1.2.1 hC.2.2.2.1 hS.1 hS.2.1 hS.2.2.1 q 0 e2 rfl (inb_in hc.2) hd (fun H1 locs1 hP1 _ hS1 => h _ r m2 hR l D ad ca p e s mi args below meth c H1 locs1 ls hC (hS.tl.tl.tl.me (emb_row hS.2.1 e1 (by rw [hCell_ia hc.1, uI_row]) hP1) hS1))
  · cases hR
theorem g_zast {t n : Nat} {i x : Int32} {K : hM → hR} (hd : Dc mt pc .bastore 1 nx) (h : ∀ m1, G mt d nx L S m1 (K m1)) : G mt d pc L (.inl x :: .inl i :: .inr (.inr (t, n)) :: S) m (zast m t n i x K) := by
  intro r m2 hR l D ad ca p e s mi args below meth c H locs ls hC hS
  obtain ⟨hd, rfl⟩ := hd
  unfold zast at hR
  split at hR
  · rename_i hc
    have hn : n < sCnt t := hS.tl.tl.hd
    obtain ⟨q, e1, e2⟩ := emb_at ad ca m (zaOK_lt hc.1) hn
    rw [hCell_za hc.1] at e2
    have hx : vp_nar .boolean x = x := by rcases hc.2.2 with rfl | rfl <;> decide
    exact va_zast hC.1.1 hC.1.2.1 hC.2.2.2.1 hS.1 hS.2.1 hS.2.2.1 q 1 e2 rfl (inb_in hc.2.1) hd (fun H1 locs1 hP1 _ hS1 => h _ r m2 hR l D ad ca p e s mi args below meth c H1 locs1 ls hC (hS.tl.tl.tl.me (emb_row hS.2.1 e1 (by rw [hCell_za hc.1, uI_row, hx]) hP1) hS1))
  · cases hR
theorem raOK_cases {t : Nat} (h : raOK t = true) : t = 35 ∨ t = 38 ∨ t = 39 := by
  simp only [raOK, Bool.or_eq_true, beq_iff_eq] at h
  exact h
theorem g_aald {t : Nat} {i : Int32} {K : Nat → hR} (f : Nat → Nat × Nat) (hf : ∀ j, sEl t j = f j) (hd : Dc mt pc .aaload 1 nx) (h : ∀ j, G mt d nx L (.inr (.inr (f j)) :: S) m (K j)) : G mt d pc L (.inl i :: .inr (.inr (t, 0)) :: S) m (aal t i K) := by
  intro r m2 hR l D ad ca p e s mi args below meth c H locs ls hC hS
  obtain ⟨hd, rfl⟩ := hd
  unfold aal at hR
  split at hR
  · rename_i hc
    have hl : i.toNatClampNeg < sLen t 0 := inb_lt hc.2
    have hv : hVal (.inr (.inr (f i.toNatClampNeg))) := by
      show (f i.toNatClampNeg).2 < sCnt (f i.toNatClampNeg).1
      rw [← hf]
      rcases raOK_cases hc.1 with rfl | rfl | rfl
      · have hl : i.toNatClampNeg < 5 := hl
        show 42 + i.toNatClampNeg < 47
        omega
      · have hl : i.toNatClampNeg < 4 := hl
        show i.toNatClampNeg < 5
        omega
      · have hl : i.toNatClampNeg < 40 := hl
        show i.toNatClampNeg < 47
        omega
    have hw := h _ r m2 hR l D ad ca p e s mi args below meth c H locs ls hC (hS.tl.tl.pu hv)
    have he : ev ad (.inr (.inr (f i.toNatClampNeg))) = va_rf (some (ad (sEl t i.toNatClampNeg).1 (sEl t i.toNatClampNeg).2)) := by rw [hf]; rfl
    rcases raOK_cases hc.1 with rfl | rfl | rfl
    · obtain ⟨q, e1, e2⟩ := emb_at ad ca m (t := 35) (n := 0) (by decide) (by decide)
      exact va_aldq hC.1.1 hC.1.2.1 hC.2.2.2.1 hS.1 q 2 (f := fun j => some (ad (sEl 35 j).1 (sEl 35 j).2)) e2 rfl (inb_in hc.2) hd (by rw [List.map_cons, he] at hw; exact hw)
    · obtain ⟨q, e1, e2⟩ := emb_at ad ca m (t := 38) (n := 0) (by decide) (by decide)
      exact va_aldq hC.1.1 hC.1.2.1 hC.2.2.2.1 hS.1 q 3 (f := fun j => some (ad (sEl 38 j).1 (sEl 38 j).2)) e2 rfl (inb_in hc.2) hd (by rw [List.map_cons, he] at hw; exact hw)
    · obtain ⟨q, e1, e2⟩ := emb_at ad ca m (t := 39) (n := 0) (by decide) (by decide)
      exact va_aldq hC.1.1 hC.1.2.1 hC.2.2.2.1 hS.1 q 2 (f := fun j => some (ad (sEl 39 j).1 (sEl 39 j).2)) e2 rfl (inb_in hc.2) hd (by rw [List.map_cons, he] at hw; exact hw)
  · cases hR
def alenJ (t n : Nat) (K : Int32 → hR) : hR := if iaOK t = true then K (Int32.ofNat (sLen t n)) else none
theorem g_alen {t n : Nat} {K : Int32 → hR} (hd : Dc mt pc .arraylength 1 nx) (h : ∀ v, G mt d nx L (.inl v :: S) m (K v)) : G mt d pc L (.inr (.inr (t, n)) :: S) m (alenJ t n K) := by
  intro r m2 hR l D ad ca p e s mi args below meth c H locs ls hC hS
  obtain ⟨hd, rfl⟩ := hd
  unfold alenJ at hR
  split at hR
  · rename_i hc
    have hn : n < sCnt t := hS.hd
    obtain ⟨q, e1, e2⟩ := emb_at ad ca m (iaOK_lt hc) hn
    rw [hCell_ia hc] at e2
    exact va_alen hC.1.1 hC.1.2.1 hC.2.2.2.1 hS.1 q 0 e2 (ty := .int) rfl rfl hd (h _ r m2 hR l D ad ca p e s mi args below meth c H locs ls hC (hS.tl.pi _))
  · cases hR
end Rows
end
section
/-! calls -/
def calI (q : hR) (k : Int32 → hM → hR) : hR := match q with
  | some (some (.inl x), m1) => k x m1
  | _ => none
def calL (q : hR) (k : Int64 → hM → hR) : hR := match q with
  | some (some (.inr (.inl x)), m1) => k x m1
  | _ => none
def calV (q : hR) (k : hM → hR) : hR := match q with
  | some (none, m1) => k m1
  | _ => none
def calA (t0 : Nat) (q : hR) (k : Nat → hM → hR) : hR := match q with
  | some (some (.inr (.inr (t, n))), m1) => if t = t0 ∧ n < sCnt t0 then k n m1 else none
  | _ => none
theorem h_call {p : Program} {l : Launch} {e : Env} {R : Room} {s : State} {mi : MethodId} {args : Array Value} {below : List Frame} {meth : Method} {c : Code} {H : Heap} {locs : List Loc} {pc : Nat} {ls : Array Slot} {st0 rest : List Value} {D : va_G} {ad : Nat → Nat → Nat} {ca : Nat → ClassId} {r : Option hV} {m1 : hM} {a : Array Value} {Q : State → Prop}
    (hr : va_Run p l e R s mi args below meth c H locs 0 0 0 0 (F0 mi pc ls st0) rest (hQ D ad ca r m1 a) (hA ad)) (hS : va_S (hA ad) s.heap H locs)
    (kk : ∀ (H1 : Heap) (locs1 : List Loc), va_P D vwCl (emb ad ca m1) H1 → va_S (hA ad) s.heap H1 locs1 → W p l e R s mi args below meth c H1 locs1 0 0 Q (F0 mi (pc + 3) ls ((r.map (ev ad)).toList ++ rest))) : W p l e R s mi args below meth c H locs 0 0 Q (F0 mi pc ls st0) := by
  intro T hT X
  obtain ⟨v, st₀, t, T', Lx, h0, X', hL, e1, e2, ⟨hv, hp, hz, hk⟩, st⟩ := hr T hT X
  cases hv
  rw [h0] at hz hk
  obtain ⟨t2, a1, b1⟩ := kk T'.heap (locs ++ Lx) (by rw [e1]; exact hp)
    ⟨Nat.le_trans hS.1 (by rw [e1]; exact hz), fun q h1 h2 => by rw [e1, hk q (Nat.lt_of_lt_of_le h1 hS.1) h2]; exact hS.2.1 q h1 h2, fun q hq => by
      rcases List.mem_append.mp hq with h | h
      · exact hS.2.2 q h
      · exact hL q h⟩ T' rfl X'
  exact ⟨t2, st t2 a1, b1⟩
/-- a call that goes: which arguments, what stays on the stack -/
def Ck (mt : hMt) (d pc nx : Nat) (S0 S as : List hV) (mtf : hMt) (df : Nat) : Prop := (pc + 3 = nx ∧ (∀ v ∈ as, v ∈ S0) ∧ ∀ v ∈ S, v ∈ S0) ∧
  ∀ (L : hL) (m : hM) (l : Launch) (D : va_G) (ad : Nat → Nat → Nat) (ca : Nat → ClassId) (p : Program) (e : Env) (s : State) (mi : MethodId) (args : Array Value) (below : List Frame) (meth : Method) (c : Code) (H : Heap) (locs : List Loc) (ls : Array Slot) (r : Option hV) (m1 : hM),
    HC mt D ad ca p s mi args meth c → HS mt D ad ca s m L S0 H locs ls → Met l mtf.1 (hWs mtf) (hRm df) (va_Pc (as.map (ev ad)) (hWd D ad ca m)) (hQ D ad ca r m1) 0 0 (hA ad) →
    va_Run p l e (hRm d) s mi args below meth c H locs 0 0 0 0 (F0 mi pc ls (S0.map (ev ad))) (S.map (ev ad)) (hQ D ad ca r m1 (as.map (ev ad)).toArray) (hA ad)
def Mi (mt : hMt) : Prop := Cond.code mt.1 mt.2.1 mt.2.2.1 mt.2.2.2 ∈ gdw ∧ Cond.initialized mt.1.cls ∈ gdw ∧ mt.1.cls ≠ "java/lang/invoke/MethodHandle" ∧ mt.1.cls ≠ "java/lang/invoke/VarHandle" ∧ 8 + (mt.2.2.1 + 11) ≤ 80
def MiV (mt : hMt) : Prop := Mi mt ∧ Cond.instanceMethod mt.1 ∈ gdw ∧ Cond.selects mt.1.cls mt.1 mt.1 ∈ gdw
def MiS (mt : hMt) : Prop := Mi mt ∧ Cond.static mt.1 ∈ gdw
def Lk (own : String) (idx : Nat) (mtf : hMt) : Prop := Cond.methodLink own idx mtf.1 ∈ gdw ∨ (own, idx, mtf.1) ∈ nwM
/-- the receiver is of that class -/
def Rc (t : Nat) (C : String) : Prop := ∀ (o : Nat) (D : va_G) (ad : Nat → Nat → Nat) (ca : Nat → ClassId) (m : hM) (s : State) (H : Heap) (locs : List Loc), o < sCnt t → va_K D vwCl (hTy ca) s → va_P D vwCl (emb ad ca m) H → hZ ad (hA ad) s s.heap → va_S (hA ad) s.heap H locs → ∃ cell : Cell, H[ad t o]? = some cell ∧ cell.vm.isStatics = false ∧ s.vm.findClass C = some cell.cls
theorem rc_ob {t ci : Nat} {C : String} {T : u_T} {N : Nat} (ht : t < 61) (h1 : sCls t = some ci) (h2 : vwCl[ci]? = some (C, T, N)) : Rc t C := by
  intro o D ad ca m s H locs ho hK hP hz hS
  obtain ⟨q, e1, e2⟩ := emb_at ad ca m ht ho
  rw [hCell_ob h1] at e2
  exact va_recv hK hP h2 e2
theorem hWs_good (mt mtf : hMt) (h : Cond.code mtf.1 mtf.2.1 mtf.2.2.1 mtf.2.2.2 ∈ gdw) : GoodIn (hWs mt) (hWs mtf) := by
  intro w hw
  have hg : w ∈ gdw := by
    rcases List.mem_cons.mp hw with rfl | hw
    · exact h
    · exact hw
  exact ⟨List.mem_cons_of_mem _ hg, good_of_word (gdw_good hg)⟩
theorem hPc_blind {as : List hV} {D : va_G} {ad : Nat → Nat → Nat} {ca : Nat → ClassId} {m : hM} : FrameBlind (va_Pc (as.map (ev ad)) (hWd D ad ca m)) := by
  intro a U g mk h
  obtain ⟨h1, h2, h3, h4, h5⟩ := h
  exact ⟨h1, h2, va_K.moved (u := U) (U := U.calling g mk a) (Vm.Alike.refl U.vm) h3, h4, hZ_same (s := U) (U := U.calling g mk a) rfl h5⟩
theorem hPc_at {mt : hMt} {D : va_G} {ad : Nat → Nat → Nat} {ca : Nat → ClassId} {p : Program} {s : State} {mi : MethodId} {args : Array Value} {meth : Method} {c : Code} {m : hM} {L : hL} {S : List hV} {H : Heap} {locs : List Loc} {ls : Array Slot} (as : List hV) (hC : HC mt D ad ca p s mi args meth c) (hS : HS mt D ad ca s m L S H locs ls) (U : State) (hU : U.heap = H) (hW : s.WarmedH U.vm) : va_Pc (as.map (ev ad)) (hWd D ad ca m) (as.map (ev ad)).toArray U :=
  ⟨rfl, by rw [hU]; exact hS.1, va_K.moved hW.alike hC.2.2.2.1, hS.2.1, by rw [hU]; exact hZ_warm hW (hZ_kept hC.2.2.2.2 hS.2.2.1.2.1)⟩
theorem cat_room {mi : MethodId} {pc : Nat} {ls : Array Slot} {st : List Value} (ad : Nat → Nat → Nat) {S : List hV} (h : (S.map vcat).sum ≤ 8) : 2 * (F0 mi pc ls st).monitorRoom + ((S.map (ev ad)).map fun v => v.category).sum ≤ 8 := lv_room (by rw [ev_cats]; exact h)
theorem ck_V {mt mtf : hMt} {d df pc nx idx n t o : Nat} {S0 S As : List hV} (hd : Dc mt pc (.invokevirtual idx) 3 nx) (hM : MiV mtf) (hl : Lk mt.1.cls idx mtf) (hrc : Rc t mtf.1.cls) (hS0 : S0 = As.reverse ++ .inr (.inr (t, o)) :: S) (hp : (parseMethodDescriptor mtf.1.desc).map (fun d => d.parameters.length) = some n) (hn : As.length = n) (hdf : df + 1 ≤ d) (hst : (S.map vcat).sum ≤ 8) : Ck mt d pc nx S0 S (.inr (.inr (t, o)) :: As) mtf df := by
  refine ⟨⟨hd.2, fun v hv => ?_, fun v hv => ?_⟩, ?_⟩
  · rw [hS0]
    rcases List.mem_cons.mp hv with rfl | hv
    · exact List.mem_append_right _ List.mem_cons_self
    · exact List.mem_append_left _ (List.mem_reverse.mpr hv)
  · rw [hS0]
    exact List.mem_append_right _ (List.mem_cons_of_mem _ hv)
  · intro L m l D ad ca p e s mi args below meth c H locs ls r m1 hC hS hMet
    have ho : o < sCnt t := by
      have := hS.2.2.2.2.2 (.inr (.inr (t, o))) (by rw [hS0]; exact List.mem_append_right _ List.mem_cons_self)
      exact this
    have hR : (hRm df).frames + 1 ≤ (hRm d).frames ∧ 8 + (mtf.2.2.1 + 11) + (hRm df).locals ≤ (hRm d).locals := ⟨hdf, by
      have h1 := hM.1.2.2.2.2
      show 8 + (mtf.2.2.1 + 11) + 80 * df ≤ 80 * d
      omega⟩
    have hpre : PreV s H mtf.1.cls (ad t o) (va_Pc (((.inr (.inr (t, o)) : hV) :: As).map (ev ad)) (hWd D ad ca m)) (As.map (ev ad)) := ⟨hPc_blind, hrc o D ad ca m s H locs ho hC.2.2.2.1 hS.1 hC.2.2.2.2 hS.2.2.1, fun U hU hW => hPc_at _ hC hS U hU hW⟩
    have hstk : S0.map (ev ad) = (As.map (ev ad)).reverse ++ .ref (ad t o) :: S.map (ev ad) := by rw [hS0, List.map_append, List.map_reverse]; rfl
    have hlen : (As.map (ev ad)).length = n := by rw [List.length_map]; exact hn
    have hsz : (F0 mi pc ls (S0.map (ev ad))).locals.size = mt.2.2.1 := hS.2.2.2.1.1
    have hini : (Cond.initialized mtf.1.cls).before args s = true := hC.w hM.1.2.1
    rcases hl with hl | hl
    · exact va_runV (C := mtf.1.cls) hC.1 hMet ⟨callB_of n hC.1.2.2.2.2 (hWs_good mt mtf hM.1.1) rfl rfl rfl hini (hC.w hl) ⟨hM.1.2.2.1, hM.1.2.2.2.1, hp⟩ hR, hC.w hM.2.1, hC.w hM.2.2⟩ hpre rfl hlen hsz hstk (cat_room ad hst) hd.1 ⟨Nat.zero_le _, Nat.zero_le _⟩
    · exact va_runVN (C := mtf.1.cls) (host := "HuntedEye") hC.1 hMet ⟨va_cnB n hC.1.2.2.2.2 (hWs_good mt mtf hM.1.1) rfl rfl rfl (hC.2.2.2.2.1.2 _ hl) hini ⟨hM.1.2.2.1, hM.1.2.2.2.1, hp⟩ hR, hC.w hM.2.1, hC.w hM.2.2⟩ hpre rfl hlen hsz hstk (cat_room ad hst) hd.1 ⟨Nat.zero_le _, Nat.zero_le _⟩
theorem ck_S {mt mtf : hMt} {d df pc nx idx n : Nat} {S0 S As : List hV} (hd : Dc mt pc (.invokestatic idx) 3 nx) (hM : MiS mtf) (hl : Lk mt.1.cls idx mtf) (hS0 : S0 = As.reverse ++ S) (hp : (parseMethodDescriptor mtf.1.desc).map (fun d => d.parameters.length) = some n) (hn : As.length = n) (hdf : df + 1 ≤ d) (hst : (S.map vcat).sum ≤ 8) : Ck mt d pc nx S0 S As mtf df := by
  refine ⟨⟨hd.2, fun v hv => ?_, fun v hv => ?_⟩, ?_⟩
  · rw [hS0]
    exact List.mem_append_left _ (List.mem_reverse.mpr hv)
  · rw [hS0]
    exact List.mem_append_right _ hv
  · intro L m l D ad ca p e s mi args below meth c H locs ls r m1 hC hS hMet
    have hR : (hRm df).frames + 1 ≤ (hRm d).frames ∧ 8 + (mtf.2.2.1 + 11) + (hRm df).locals ≤ (hRm d).locals := ⟨hdf, by
      have h1 := hM.1.2.2.2.2
      show 8 + (mtf.2.2.1 + 11) + 80 * df ≤ 80 * d
      omega⟩
    have hpre : PreS s H (va_Pc (As.map (ev ad)) (hWd D ad ca m)) (As.map (ev ad)) := ⟨hPc_blind, fun U hU hW => hPc_at _ hC hS U hU hW⟩
    have hstk : S0.map (ev ad) = (As.map (ev ad)).reverse ++ S.map (ev ad) := by rw [hS0, List.map_append, List.map_reverse]
    have hlen : (As.map (ev ad)).length = n := by rw [List.length_map]; exact hn
    have hsz : (F0 mi pc ls (S0.map (ev ad))).locals.size = mt.2.2.1 := hS.2.2.2.1.1
    have hini : (Cond.initialized mtf.1.cls).before args s = true := hC.w hM.1.2.1
    rcases hl with hl | hl
    · exact va_runS hC.1 hMet ⟨callB_of n hC.1.2.2.2.2 (hWs_good mt mtf hM.1.1) rfl rfl rfl hini (hC.w hl) ⟨hM.1.2.2.1, hM.1.2.2.2.1, hp⟩ hR, hC.w hM.2⟩ hpre rfl hlen hsz hstk (cat_room ad hst) hd.1 ⟨Nat.zero_le _, Nat.zero_le _⟩
    · exact va_runSN (host := "HuntedEye") hC.1 hMet ⟨va_cnB n hC.1.2.2.2.2 (hWs_good mt mtf hM.1.1) rfl rfl rfl (hC.2.2.2.2.1.2 _ hl) hini ⟨hM.1.2.2.1, hM.1.2.2.2.1, hp⟩ hR, hC.w hM.2, trivial⟩ hpre rfl hlen hsz hstk (cat_room ad hst) hd.1 ⟨Nat.zero_le _, Nat.zero_le _⟩
section Rows
variable {mt mtf : hMt} {d df pc nx : Nat} {L : hL} {S0 S as : List hV} {m : hM} {J : hR}
/-- behind the call: the locals as they were, the memory as the callee left it -/
theorem HS.beh {D : va_G} {ad : Nat → Nat → Nat} {ca : Nat → ClassId} {s : State} {H H1 : Heap} {locs locs1 : List Loc} {ls : Array Slot} {m1 : hM} (hS : HS mt D ad ca s m L S0 H locs ls) (hs : ∀ v ∈ S, v ∈ S0) (h1 : va_P D vwCl (emb ad ca m1) H1) (h2 : va_S (hA ad) s.heap H1 locs1) : HS mt D ad ca s m1 L S H1 locs1 ls :=
  ⟨h1, emb_addr ad ca m m1 hS.2.1, h2, hS.2.2.2.1, hS.2.2.2.2.1, fun v hv => hS.2.2.2.2.2 v (hs v hv)⟩
theorem g_calI {k : Int32 → hM → hR} (ck : Ck mt d pc nx S0 S as mtf df) (cn : Cn mtf df as m J) (h : ∀ x m1, G mt d nx L (.inl x :: S) m1 (k x m1)) : G mt d pc L S0 m (calI J k) := by
  intro r m2 hR l D ad ca p e s mi args below meth c H locs ls hC hS
  obtain ⟨⟨rfl, hc1, hc2⟩, ck⟩ := ck
  unfold calI at hR
  split at hR
  · rename_i x m1
    refine h_call (ck L m l D ad ca p e s mi args below meth c H locs ls (some (.inl x)) m1 hC hS (cn _ _ rfl (fun v hv => hS.2.2.2.2.2 v (hc1 v hv)) l D ad ca)) hS.2.2.1 (fun H1 locs1 hP1 hS1 => ?_)
    exact h x m1 r m2 hR l D ad ca p e s mi args below meth c H1 locs1 ls hC ((hS.beh hc2 hP1 hS1).pi x)
  · cases hR
theorem g_calL {k : Int64 → hM → hR} (ck : Ck mt d pc nx S0 S as mtf df) (cn : Cn mtf df as m J) (h : ∀ x m1, G mt d nx L (.inr (.inl x) :: S) m1 (k x m1)) : G mt d pc L S0 m (calL J k) := by
  intro r m2 hR l D ad ca p e s mi args below meth c H locs ls hC hS
  obtain ⟨⟨rfl, hc1, hc2⟩, ck⟩ := ck
  unfold calL at hR
  split at hR
  · rename_i x m1
    refine h_call (ck L m l D ad ca p e s mi args below meth c H locs ls (some (.inr (.inl x))) m1 hC hS (cn _ _ rfl (fun v hv => hS.2.2.2.2.2 v (hc1 v hv)) l D ad ca)) hS.2.2.1 (fun H1 locs1 hP1 hS1 => ?_)
    exact h x m1 r m2 hR l D ad ca p e s mi args below meth c H1 locs1 ls hC ((hS.beh hc2 hP1 hS1).pl x)
  · cases hR
theorem g_calV {k : hM → hR} (ck : Ck mt d pc nx S0 S as mtf df) (cn : Cn mtf df as m J) (h : ∀ m1, G mt d nx L S m1 (k m1)) : G mt d pc L S0 m (calV J k) := by
  intro r m2 hR l D ad ca p e s mi args below meth c H locs ls hC hS
  obtain ⟨⟨rfl, hc1, hc2⟩, ck⟩ := ck
  unfold calV at hR
  split at hR
  · rename_i m1
    refine h_call (ck L m l D ad ca p e s mi args below meth c H locs ls none m1 hC hS (cn _ _ rfl (fun v hv => hS.2.2.2.2.2 v (hc1 v hv)) l D ad ca)) hS.2.2.1 (fun H1 locs1 hP1 hS1 => ?_)
    exact h m1 r m2 hR l D ad ca p e s mi args below meth c H1 locs1 ls hC (hS.beh hc2 hP1 hS1)
  · cases hR
theorem g_calA {t0 : Nat} {k : Nat → hM → hR} (ck : Ck mt d pc nx S0 S as mtf df) (cn : Cn mtf df as m J) (h : ∀ x m1, G mt d nx L (.inr (.inr (t0, x)) :: S) m1 (k x m1)) : G mt d pc L S0 m (calA t0 J k) := by
  intro r m2 hR l D ad ca p e s mi args below meth c H locs ls hC hS
  obtain ⟨⟨rfl, hc1, hc2⟩, ck⟩ := ck
  unfold calA at hR
  split at hR
  · rename_i t n m1
    split at hR
    · rename_i hq
      obtain ⟨rfl, hq⟩ := hq
      refine h_call (ck L m l D ad ca p e s mi args below meth c H locs ls (some (.inr (.inr (t, n)))) m1 hC hS (cn _ _ rfl (fun v hv => hS.2.2.2.2.2 v (hc1 v hv)) l D ad ca)) hS.2.2.1 (fun H1 locs1 hP1 hS1 => ?_)
      exact h n m1 r m2 hR l D ad ca p e s mi args below meth c H1 locs1 ls hC ((hS.beh hc2 hP1 hS1).pu hq)
    · cases hR
  · cases hR
/-- System.arraycopy over ints -/
def acp (m : hM) (t0 n0 : Nat) (sp : Int32) (t1 n1 : Nat) (dp n : Int32) (K : hM → hR) : hR :=
  if (iaOK t0 = true ∧ iaOK t1 = true) ∧ ¬ sp < 0 ∧ ¬ dp < 0 ∧ ¬ n < 0 ∧ sp.toNatClampNeg + n.toNatClampNeg ≤ sLen t0 n0 ∧ dp.toNatClampNeg + n.toNatClampNeg ≤ sLen t1 n1 then K (uR m t1 n1 (va_cpy (m.1 t0 n0) (m.1 t1 n1) sp.toNatClampNeg dp.toNatClampNeg n.toNatClampNeg)) else none
theorem uR_row (m : hM) (t n : Nat) (f : Nat → Int32) : (uR m t n f).1 t n = f := by
  funext c
  exact if_pos ⟨rfl, rfl⟩
def acW : Prop := Cond.native arraycopyName ∈ gdw ∧ Cond.static arraycopyName ∈ gdw ∧ Cond.initialized "java/lang/System" ∈ gdw
theorem g_acp {t0 n0 t1 n1 idx : Nat} {sp dp n : Int32} {K : hM → hR} (hd : Dc mt pc (.invokestatic idx) 3 nx) (hl : Cond.methodLink mt.1.cls idx arraycopyName ∈ gdw) (hw : acW) (hdd : 1 ≤ d) (hst : (S.map vcat).sum ≤ 8) (h : ∀ m1, G mt d nx L S m1 (K m1)) : G mt d pc L (.inl n :: .inl dp :: .inr (.inr (t1, n1)) :: .inl sp :: .inr (.inr (t0, n0)) :: S) m (acp m t0 n0 sp t1 n1 dp n K) := by
  intro r m2 hR l D ad ca p e s mi args below meth c H locs ls hC hS
  obtain ⟨hd, rfl⟩ := hd
  unfold acp at hR
  split at hR
  · rename_i hc
    obtain ⟨⟨hc0, hc1⟩, h1, h2, h3, h4, h5⟩ := hc
    have hn1 : n1 < sCnt t1 := hS.tl.tl.hd
    have hn0 : n0 < sCnt t0 := hS.tl.tl.tl.tl.hd
    obtain ⟨q0, e0, f0⟩ := emb_at ad ca m (iaOK_lt hc0) hn0
    obtain ⟨q1, e1, f1⟩ := emb_at ad ca m (iaOK_lt hc1) hn1
    rw [hCell_ia hc0] at f0
    rw [hCell_ia hc1] at f1
    refine va_copyi hC.1.1 hC.1.2.1 (hC.1.2.2.1.trans hS.2.2.2.1.1.symm) hC.1.2.2.2.1 (hC.w hl) (hC.w hw.1) (hC.w hw.2.1) (hC.w hw.2.2) hC.2.2.2.1 hS.1 hS.2.1 hS.2.2.1 q0 q1 0 0 f0 f1 (ty := .int) rfl rfl rfl h1 h2 h3 h4 h5 (fun _ _ => rfl) hdd ?_ hd (fun H1 locs1 hP1 _ hS1 => ?_)
    · rw [ev_cats]
      have e9 : nativeFrameWords "java/lang/System" "arraycopy" 5 + 11 ≤ 72 := by decide
      show _ ≤ 80 * d
      omega
    · have e2 : (emb ad ca m).set q1 (ad t1 n1, .inl (ca 0, sLen t1 n1, .inl (va_cpy (m.1 t0 n0) (m.1 t1 n1) sp.toNatClampNeg dp.toNatClampNeg n.toNatClampNeg))) = emb ad ca (uR m t1 n1 (va_cpy (m.1 t0 n0) (m.1 t1 n1) sp.toNatClampNeg dp.toNatClampNeg n.toNatClampNeg)) := by
        rw [← emb_set ad ca m (uR m t1 n1 (va_cpy (m.1 t0 n0) (m.1 t1 n1) sp.toNatClampNeg dp.toNatClampNeg n.toNatClampNeg)) hS.2.1 e1 (fun q2 z => hCell_uR q2 z), hCell_ia hc1, uR_row]
      rw [e2] at hP1
      exact h _ r m2 hR l D ad ca p e s mi args below meth c H1 locs1 ls hC (hS.tl.tl.tl.tl.tl.me hP1 hS1)
  · cases hR
end Rows
end
section
/-! facts of the tables, by program -/
section
variable {mt : hMt} {d pc nx : Nat} {L : hL} {S : List hV} {m : hM}
theorem g_idivx {x y : Int32} {k : Int32 → hR} (hd : Dc mt pc .idiv 1 nx) (h : ∀ z, G mt d nx L (.inl z :: S) m (k z)) : G mt d pc L (.inl y :: .inl x :: S) m (jidiv x y k) := g_idiv hd (h _)
theorem g_iremx {x y : Int32} {k : Int32 → hR} (hd : Dc mt pc .irem 1 nx) (h : ∀ z, G mt d nx L (.inl z :: S) m (k z)) : G mt d pc L (.inl y :: .inl x :: S) m (jirem x y k) := g_irem hd (h _)
theorem g_lremx {x y : Int64} {k : Int64 → hR} (hd : Dc mt pc .lrem 1 nx) (h : ∀ z, G mt d nx L (.inr (.inl z) :: S) m (k z)) : G mt d pc L (.inr (.inl y) :: .inr (.inl x) :: S) m (jlrem x y k) := g_lrem hd (h _)
end
def FU : Nat := 100000
theorem wdX0 : ∀ w ∈ u_ws RX0 TX0 2, w ∈ gdw := by
  have h : ∀ w ∈ u_ws RX0 TX0 2, w ∈ lw_tbl ∧ goodWord w = true := by decide +kernel
  exact fun w hw => List.mem_filter.mpr (h w hw)
theorem wdX1 : ∀ w ∈ u_ws RX1 TX1 6, w ∈ gdw := by
  have h : ∀ w ∈ u_ws RX1 TX1 6, w ∈ lw_tbl ∧ goodWord w = true := by decide +kernel
  exact fun w hw => List.mem_filter.mpr (h w hw)
theorem wdX3 : ∀ w ∈ u_ws RX3 TX3 5, w ∈ gdw := by
  have h : ∀ w ∈ u_ws RX3 TX3 5, w ∈ lw_tbl ∧ goodWord w = true := by decide +kernel
  exact fun w hw => List.mem_filter.mpr (h w hw)
theorem wdX4 : ∀ w ∈ u_ws RX4 TX4 3, w ∈ gdw := by
  have h : ∀ w ∈ u_ws RX4 TX4 3, w ∈ lw_tbl ∧ goodWord w = true := by decide +kernel
  exact fun w hw => List.mem_filter.mpr (h w hw)
theorem wdX5 : ∀ w ∈ u_ws RX5 TX5 3, w ∈ gdw := by
  have h : ∀ w ∈ u_ws RX5 TX5 3, w ∈ lw_tbl ∧ goodWord w = true := by decide +kernel
  exact fun w hw => List.mem_filter.mpr (h w hw)
theorem wdX6 : ∀ w ∈ u_ws RX6 TX6 8, w ∈ gdw := by
  have h : ∀ w ∈ u_ws RX6 TX6 8, w ∈ lw_tbl ∧ goodWord w = true := by decide +kernel
  exact fun w hw => List.mem_filter.mpr (h w hw)
theorem wdX7 : ∀ w ∈ u_ws RX7 TX7 4, w ∈ gdw := by
  have h : ∀ w ∈ u_ws RX7 TX7 4, w ∈ lw_tbl ∧ goodWord w = true := by decide +kernel
  exact fun w hw => List.mem_filter.mpr (h w hw)
theorem wdX8 : ∀ w ∈ u_ws RX8 TX8 18, w ∈ gdw := by
  have h : ∀ w ∈ u_ws RX8 TX8 18, w ∈ lw_tbl ∧ goodWord w = true := by decide +kernel
  exact fun w hw => List.mem_filter.mpr (h w hw)
theorem wdX10 : ∀ w ∈ u_ws RX10 TX10 15, w ∈ gdw := by
  have h : ∀ w ∈ u_ws RX10 TX10 15, w ∈ lw_tbl ∧ goodWord w = true := by decide +kernel
  exact fun w hw => List.mem_filter.mpr (h w hw)
theorem wdX11 : ∀ w ∈ u_ws RX11 TX11 18, w ∈ gdw := by
  have h : ∀ w ∈ u_ws RX11 TX11 18, w ∈ lw_tbl ∧ goodWord w = true := by decide +kernel
  exact fun w hw => List.mem_filter.mpr (h w hw)
theorem wdX12 : ∀ w ∈ u_ws RX12 TX12 40, w ∈ gdw := by
  have h : ∀ w ∈ u_ws RX12 TX12 40, w ∈ lw_tbl ∧ goodWord w = true := by decide +kernel
  exact fun w hw => List.mem_filter.mpr (h w hw)
theorem fX11_10 : Fl RX11 10 0 0 (tyX11 0) true := ⟨9, RX11, TX11, 18, tyX11, by decide, rfl, rfl, rfl, wdX11, tyX11_ok, nmX11, by decide, rfl, rfl, rfl, Or.inl (gdw_of (i := 463) (by decide +kernel) (by decide +kernel))⟩
theorem fX11_19 : Fl RX11 19 0 1 (tyX11 1) true := ⟨9, RX11, TX11, 18, tyX11, by decide, rfl, rfl, rfl, wdX11, tyX11_ok, nmX11, by decide, rfl, rfl, rfl, Or.inl (gdw_of (i := 464) (by decide +kernel) (by decide +kernel))⟩
theorem fX11_25 : Fl RX11 25 0 2 (tyX11 2) true := ⟨9, RX11, TX11, 18, tyX11, by decide, rfl, rfl, rfl, wdX11, tyX11_ok, nmX11, by decide, rfl, rfl, rfl, Or.inl (gdw_of (i := 465) (by decide +kernel) (by decide +kernel))⟩
theorem fX11_32 : Fl RX11 32 0 3 (tyX11 3) true := ⟨9, RX11, TX11, 18, tyX11, by decide, rfl, rfl, rfl, wdX11, tyX11_ok, nmX11, by decide, rfl, rfl, rfl, Or.inl (gdw_of (i := 466) (by decide +kernel) (by decide +kernel))⟩
theorem fX11_36 : Fl RX11 36 0 4 (tyX11 4) true := ⟨9, RX11, TX11, 18, tyX11, by decide, rfl, rfl, rfl, wdX11, tyX11_ok, nmX11, by decide, rfl, rfl, rfl, Or.inl (gdw_of (i := 467) (by decide +kernel) (by decide +kernel))⟩
theorem fX11_45 : Fl RX11 45 0 5 (tyX11 5) true := ⟨9, RX11, TX11, 18, tyX11, by decide, rfl, rfl, rfl, wdX11, tyX11_ok, nmX11, by decide, rfl, rfl, rfl, Or.inl (gdw_of (i := 468) (by decide +kernel) (by decide +kernel))⟩
theorem fX11_49 : Fl RX11 49 0 6 (tyX11 6) true := ⟨9, RX11, TX11, 18, tyX11, by decide, rfl, rfl, rfl, wdX11, tyX11_ok, nmX11, by decide, rfl, rfl, rfl, Or.inl (gdw_of (i := 469) (by decide +kernel) (by decide +kernel))⟩
theorem fX11_52 : Fl RX11 52 0 7 (tyX11 7) true := ⟨9, RX11, TX11, 18, tyX11, by decide, rfl, rfl, rfl, wdX11, tyX11_ok, nmX11, by decide, rfl, rfl, rfl, Or.inl (gdw_of (i := 470) (by decide +kernel) (by decide +kernel))⟩
theorem fX11_58 : Fl RX11 58 0 8 (tyX11 8) true := ⟨9, RX11, TX11, 18, tyX11, by decide, rfl, rfl, rfl, wdX11, tyX11_ok, nmX11, by decide, rfl, rfl, rfl, Or.inl (gdw_of (i := 471) (by decide +kernel) (by decide +kernel))⟩
theorem fX11_65 : Fl RX11 65 0 9 (tyX11 9) true := ⟨9, RX11, TX11, 18, tyX11, by decide, rfl, rfl, rfl, wdX11, tyX11_ok, nmX11, by decide, rfl, rfl, rfl, Or.inl (gdw_of (i := 472) (by decide +kernel) (by decide +kernel))⟩
theorem fX11_72 : Fl RX11 72 0 10 (tyX11 10) true := ⟨9, RX11, TX11, 18, tyX11, by decide, rfl, rfl, rfl, wdX11, tyX11_ok, nmX11, by decide, rfl, rfl, rfl, Or.inl (gdw_of (i := 473) (by decide +kernel) (by decide +kernel))⟩
theorem fX11_76 : Fl RX11 76 0 11 (tyX11 11) true := ⟨9, RX11, TX11, 18, tyX11, by decide, rfl, rfl, rfl, wdX11, tyX11_ok, nmX11, by decide, rfl, rfl, rfl, Or.inl (gdw_of (i := 474) (by decide +kernel) (by decide +kernel))⟩
theorem fX11_80 : Fl RX11 80 0 17 .int false := ⟨9, RX11, TX11, 18, tyX11, by decide, rfl, rfl, rfl, wdX11, tyX11_ok, nmX11, by decide, rfl, rfl, rfl, Or.inl (gdw_of (i := 480) (by decide +kernel) (by decide +kernel))⟩
theorem fX11_106 : Fl RX11 106 0 12 .boolean false := ⟨9, RX11, TX11, 18, tyX11, by decide, rfl, rfl, rfl, wdX11, tyX11_ok, nmX11, by decide, rfl, rfl, rfl, Or.inl (gdw_of (i := 475) (by decide +kernel) (by decide +kernel))⟩
theorem fX11_137 : Fl RX11 137 12 0 (tyX8 0) true := ⟨7, RX8, TX8, 18, tyX8, by decide, rfl, rfl, rfl, wdX8, tyX8_ok, nmX8, by decide, rfl, rfl, rfl, Or.inr (by decide +kernel)⟩
theorem fX11_140 : Fl RX11 140 12 1 (tyX8 1) true := ⟨7, RX8, TX8, 18, tyX8, by decide, rfl, rfl, rfl, wdX8, tyX8_ok, nmX8, by decide, rfl, rfl, rfl, Or.inr (by decide +kernel)⟩
theorem fX11_153 : Fl RX11 153 12 6 .int false := ⟨7, RX8, TX8, 18, tyX8, by decide, rfl, rfl, rfl, wdX8, tyX8_ok, nmX8, by decide, rfl, rfl, rfl, Or.inr (by decide +kernel)⟩
theorem fX11_162 : Fl RX11 162 0 14 .int false := ⟨9, RX11, TX11, 18, tyX11, by decide, rfl, rfl, rfl, wdX11, tyX11_ok, nmX11, by decide, rfl, rfl, rfl, Or.inl (gdw_of (i := 477) (by decide +kernel) (by decide +kernel))⟩
theorem fX11_165 : Fl RX11 165 1 4 .int false := ⟨5, RX6, TX6, 8, tyX6, by decide, rfl, rfl, rfl, wdX6, tyX6_ok, nmX6, by decide, rfl, rfl, rfl, Or.inr (by decide +kernel)⟩
theorem fX11_168 : Fl RX11 168 0 16 .int false := ⟨9, RX11, TX11, 18, tyX11, by decide, rfl, rfl, rfl, wdX11, tyX11_ok, nmX11, by decide, rfl, rfl, rfl, Or.inl (gdw_of (i := 479) (by decide +kernel) (by decide +kernel))⟩
theorem fX11_181 : Fl RX11 181 12 17 .long false := ⟨7, RX8, TX8, 18, tyX8, by decide, rfl, rfl, rfl, wdX8, tyX8_ok, nmX8, by decide, rfl, rfl, rfl, Or.inr (by decide +kernel)⟩
theorem fX11_189 : Fl RX11 189 0 15 .int false := ⟨9, RX11, TX11, 18, tyX11, by decide, rfl, rfl, rfl, wdX11, tyX11_ok, nmX11, by decide, rfl, rfl, rfl, Or.inl (gdw_of (i := 478) (by decide +kernel) (by decide +kernel))⟩
theorem fX11_200 : Fl RX11 200 0 13 .boolean false := ⟨9, RX11, TX11, 18, tyX11, by decide, rfl, rfl, rfl, wdX11, tyX11_ok, nmX11, by decide, rfl, rfl, rfl, Or.inl (gdw_of (i := 476) (by decide +kernel) (by decide +kernel))⟩
theorem fX11_213 : Fl RX11 213 12 5 (tyX8 5) true := ⟨7, RX8, TX8, 18, tyX8, by decide, rfl, rfl, rfl, wdX8, tyX8_ok, nmX8, by decide, rfl, rfl, rfl, Or.inr (by decide +kernel)⟩
theorem fX11_217 : Fl RX11 217 18 3 .int false := ⟨8, RX10, TX10, 15, tyX10, by decide, rfl, rfl, rfl, wdX10, tyX10_ok, nmX10, by decide, rfl, rfl, rfl, Or.inr (by decide +kernel)⟩
theorem fX11_222 : Fl RX11 222 8 3 .int false := ⟨6, RX7, TX7, 4, tyX7, by decide, rfl, rfl, rfl, wdX7, tyX7_ok, nmX7, by decide, rfl, rfl, rfl, Or.inr (by decide +kernel)⟩
theorem fX11_229 : Fl RX11 229 8 0 (tyX7 0) true := ⟨6, RX7, TX7, 4, tyX7, by decide, rfl, rfl, rfl, wdX7, tyX7_ok, nmX7, by decide, rfl, rfl, rfl, Or.inr (by decide +kernel)⟩
theorem fX11_232 : Fl RX11 232 8 1 (tyX7 1) true := ⟨6, RX7, TX7, 4, tyX7, by decide, rfl, rfl, rfl, wdX7, tyX7_ok, nmX7, by decide, rfl, rfl, rfl, Or.inr (by decide +kernel)⟩
theorem fX11_235 : Fl RX11 235 8 2 (tyX7 2) true := ⟨6, RX7, TX7, 4, tyX7, by decide, rfl, rfl, rfl, wdX7, tyX7_ok, nmX7, by decide, rfl, rfl, rfl, Or.inr (by decide +kernel)⟩
theorem fX11_301 : Fl RX11 301 24 3 .int false := ⟨2, RX3, TX3, 5, tyX3, by decide, rfl, rfl, rfl, wdX3, tyX3_ok, nmX3, by decide, rfl, rfl, rfl, Or.inr (by decide +kernel)⟩
theorem fX11_304 : Fl RX11 304 24 4 .int false := ⟨2, RX3, TX3, 5, tyX3, by decide, rfl, rfl, rfl, wdX3, tyX3_ok, nmX3, by decide, rfl, rfl, rfl, Or.inr (by decide +kernel)⟩
theorem fX11_316 : Fl RX11 316 18 10 .int false := ⟨8, RX10, TX10, 15, tyX10, by decide, rfl, rfl, rfl, wdX10, tyX10_ok, nmX10, by decide, rfl, rfl, rfl, Or.inr (by decide +kernel)⟩
theorem fX11_322 : Fl RX11 322 18 5 .int false := ⟨8, RX10, TX10, 15, tyX10, by decide, rfl, rfl, rfl, wdX10, tyX10_ok, nmX10, by decide, rfl, rfl, rfl, Or.inr (by decide +kernel)⟩
theorem fX11_325 : Fl RX11 325 18 2 .boolean false := ⟨8, RX10, TX10, 15, tyX10, by decide, rfl, rfl, rfl, wdX10, tyX10_ok, nmX10, by decide, rfl, rfl, rfl, Or.inr (by decide +kernel)⟩
theorem fX11_328 : Fl RX11 328 12 7 .int false := ⟨7, RX8, TX8, 18, tyX8, by decide, rfl, rfl, rfl, wdX8, tyX8_ok, nmX8, by decide, rfl, rfl, rfl, Or.inr (by decide +kernel)⟩
theorem fX11_331 : Fl RX11 331 12 9 .int false := ⟨7, RX8, TX8, 18, tyX8, by decide, rfl, rfl, rfl, wdX8, tyX8_ok, nmX8, by decide, rfl, rfl, rfl, Or.inr (by decide +kernel)⟩
theorem fX11_344 : Fl RX11 344 1 2 (tyX6 2) true := ⟨5, RX6, TX6, 8, tyX6, by decide, rfl, rfl, rfl, wdX6, tyX6_ok, nmX6, by decide, rfl, rfl, rfl, Or.inr (by decide +kernel)⟩
theorem fX11_354 : Fl RX11 354 1 3 (tyX6 3) true := ⟨5, RX6, TX6, 8, tyX6, by decide, rfl, rfl, rfl, wdX6, tyX6_ok, nmX6, by decide, rfl, rfl, rfl, Or.inr (by decide +kernel)⟩
theorem fX11_371 : Fl RX11 371 12 15 .boolean false := ⟨7, RX8, TX8, 18, tyX8, by decide, rfl, rfl, rfl, wdX8, tyX8_ok, nmX8, by decide, rfl, rfl, rfl, Or.inr (by decide +kernel)⟩
theorem fX11_374 : Fl RX11 374 12 16 .boolean false := ⟨7, RX8, TX8, 18, tyX8, by decide, rfl, rfl, rfl, wdX8, tyX8_ok, nmX8, by decide, rfl, rfl, rfl, Or.inr (by decide +kernel)⟩
theorem fX11_377 : Fl RX11 377 12 12 .int false := ⟨7, RX8, TX8, 18, tyX8, by decide, rfl, rfl, rfl, wdX8, tyX8_ok, nmX8, by decide, rfl, rfl, rfl, Or.inr (by decide +kernel)⟩
theorem fX11_380 : Fl RX11 380 12 13 .int false := ⟨7, RX8, TX8, 18, tyX8, by decide, rfl, rfl, rfl, wdX8, tyX8_ok, nmX8, by decide, rfl, rfl, rfl, Or.inr (by decide +kernel)⟩
theorem fX0_13 : Fl RX0 13 34 0 (tyX0 0) true := ⟨0, RX0, TX0, 2, tyX0, by decide, rfl, rfl, rfl, wdX0, tyX0_ok, nmX0, by decide, rfl, rfl, rfl, Or.inl (gdw_of (i := 455) (by decide +kernel) (by decide +kernel))⟩
theorem fX0_17 : Fl RX0 17 34 1 (tyX0 1) true := ⟨0, RX0, TX0, 2, tyX0, by decide, rfl, rfl, rfl, wdX0, tyX0_ok, nmX0, by decide, rfl, rfl, rfl, Or.inl (gdw_of (i := 456) (by decide +kernel) (by decide +kernel))⟩
theorem fX0_30 : Fl RX0 30 12 15 .boolean false := ⟨7, RX8, TX8, 18, tyX8, by decide, rfl, rfl, rfl, wdX8, tyX8_ok, nmX8, by decide, rfl, rfl, rfl, Or.inr (by decide +kernel)⟩
theorem fX0_38 : Fl RX0 38 12 16 .boolean false := ⟨7, RX8, TX8, 18, tyX8, by decide, rfl, rfl, rfl, wdX8, tyX8_ok, nmX8, by decide, rfl, rfl, rfl, Or.inr (by decide +kernel)⟩
theorem fX0_41 : Fl RX0 41 12 11 .int false := ⟨7, RX8, TX8, 18, tyX8, by decide, rfl, rfl, rfl, wdX8, tyX8_ok, nmX8, by decide, rfl, rfl, rfl, Or.inr (by decide +kernel)⟩
theorem fX0_65 : Fl RX0 65 12 0 (tyX8 0) true := ⟨7, RX8, TX8, 18, tyX8, by decide, rfl, rfl, rfl, wdX8, tyX8_ok, nmX8, by decide, rfl, rfl, rfl, Or.inr (by decide +kernel)⟩
theorem fX0_85 : Fl RX0 85 12 12 .int false := ⟨7, RX8, TX8, 18, tyX8, by decide, rfl, rfl, rfl, wdX8, tyX8_ok, nmX8, by decide, rfl, rfl, rfl, Or.inr (by decide +kernel)⟩
theorem fX1_11 : Fl RX1 11 28 0 (tyX1 0) true := ⟨1, RX1, TX1, 6, tyX1, by decide, rfl, rfl, rfl, wdX1, tyX1_ok, nmX1, by decide, rfl, rfl, rfl, Or.inl (gdw_of (i := 428) (by decide +kernel) (by decide +kernel))⟩
theorem fX1_15 : Fl RX1 15 28 1 (tyX1 1) true := ⟨1, RX1, TX1, 6, tyX1, by decide, rfl, rfl, rfl, wdX1, tyX1_ok, nmX1, by decide, rfl, rfl, rfl, Or.inl (gdw_of (i := 429) (by decide +kernel) (by decide +kernel))⟩
theorem fX1_18 : Fl RX1 18 28 2 (tyX1 2) true := ⟨1, RX1, TX1, 6, tyX1, by decide, rfl, rfl, rfl, wdX1, tyX1_ok, nmX1, by decide, rfl, rfl, rfl, Or.inl (gdw_of (i := 430) (by decide +kernel) (by decide +kernel))⟩
theorem fX1_21 : Fl RX1 21 28 3 (tyX1 3) true := ⟨1, RX1, TX1, 6, tyX1, by decide, rfl, rfl, rfl, wdX1, tyX1_ok, nmX1, by decide, rfl, rfl, rfl, Or.inl (gdw_of (i := 431) (by decide +kernel) (by decide +kernel))⟩
theorem fX1_24 : Fl RX1 24 28 4 (tyX1 4) true := ⟨1, RX1, TX1, 6, tyX1, by decide, rfl, rfl, rfl, wdX1, tyX1_ok, nmX1, by decide, rfl, rfl, rfl, Or.inl (gdw_of (i := 432) (by decide +kernel) (by decide +kernel))⟩
theorem fX1_33 : Fl RX1 33 28 5 .int false := ⟨1, RX1, TX1, 6, tyX1, by decide, rfl, rfl, rfl, wdX1, tyX1_ok, nmX1, by decide, rfl, rfl, rfl, Or.inl (gdw_of (i := 433) (by decide +kernel) (by decide +kernel))⟩
theorem fX1_52 : Fl RX1 52 12 0 (tyX8 0) true := ⟨7, RX8, TX8, 18, tyX8, by decide, rfl, rfl, rfl, wdX8, tyX8_ok, nmX8, by decide, rfl, rfl, rfl, Or.inr (by decide +kernel)⟩
theorem fX1_57 : Fl RX1 57 12 7 .int false := ⟨7, RX8, TX8, 18, tyX8, by decide, rfl, rfl, rfl, wdX8, tyX8_ok, nmX8, by decide, rfl, rfl, rfl, Or.inr (by decide +kernel)⟩
theorem fX3_9 : Fl RX3 9 24 0 (tyX3 0) true := ⟨2, RX3, TX3, 5, tyX3, by decide, rfl, rfl, rfl, wdX3, tyX3_ok, nmX3, by decide, rfl, rfl, rfl, Or.inl (gdw_of (i := 404) (by decide +kernel) (by decide +kernel))⟩
theorem fX3_15 : Fl RX3 15 24 1 (tyX3 1) true := ⟨2, RX3, TX3, 5, tyX3, by decide, rfl, rfl, rfl, wdX3, tyX3_ok, nmX3, by decide, rfl, rfl, rfl, Or.inl (gdw_of (i := 405) (by decide +kernel) (by decide +kernel))⟩
theorem fX3_18 : Fl RX3 18 24 2 (tyX3 2) true := ⟨2, RX3, TX3, 5, tyX3, by decide, rfl, rfl, rfl, wdX3, tyX3_ok, nmX3, by decide, rfl, rfl, rfl, Or.inl (gdw_of (i := 406) (by decide +kernel) (by decide +kernel))⟩
theorem fX3_44 : Fl RX3 44 12 0 (tyX8 0) true := ⟨7, RX8, TX8, 18, tyX8, by decide, rfl, rfl, rfl, wdX8, tyX8_ok, nmX8, by decide, rfl, rfl, rfl, Or.inr (by decide +kernel)⟩
theorem fX3_85 : Fl RX3 85 12 7 .int false := ⟨7, RX8, TX8, 18, tyX8, by decide, rfl, rfl, rfl, wdX8, tyX8_ok, nmX8, by decide, rfl, rfl, rfl, Or.inr (by decide +kernel)⟩
theorem fX3_96 : Fl RX3 96 12 9 .int false := ⟨7, RX8, TX8, 18, tyX8, by decide, rfl, rfl, rfl, wdX8, tyX8_ok, nmX8, by decide, rfl, rfl, rfl, Or.inr (by decide +kernel)⟩
theorem fX3_105 : Fl RX3 105 24 3 .int false := ⟨2, RX3, TX3, 5, tyX3, by decide, rfl, rfl, rfl, wdX3, tyX3_ok, nmX3, by decide, rfl, rfl, rfl, Or.inl (gdw_of (i := 407) (by decide +kernel) (by decide +kernel))⟩
theorem fX3_108 : Fl RX3 108 24 4 .int false := ⟨2, RX3, TX3, 5, tyX3, by decide, rfl, rfl, rfl, wdX3, tyX3_ok, nmX3, by decide, rfl, rfl, rfl, Or.inl (gdw_of (i := 409) (by decide +kernel) (by decide +kernel))⟩
theorem fX4_9 : Fl RX4 9 4 0 (tyX4 0) true := ⟨3, RX4, TX4, 3, tyX4, by decide, rfl, rfl, rfl, wdX4, tyX4_ok, nmX4, by decide, rfl, rfl, rfl, Or.inl (gdw_of (i := 154) (by decide +kernel) (by decide +kernel))⟩
theorem fX4_15 : Fl RX4 15 4 1 (tyX4 1) true := ⟨3, RX4, TX4, 3, tyX4, by decide, rfl, rfl, rfl, wdX4, tyX4_ok, nmX4, by decide, rfl, rfl, rfl, Or.inl (gdw_of (i := 155) (by decide +kernel) (by decide +kernel))⟩
theorem fX4_18 : Fl RX4 18 4 2 (tyX4 2) true := ⟨3, RX4, TX4, 3, tyX4, by decide, rfl, rfl, rfl, wdX4, tyX4_ok, nmX4, by decide, rfl, rfl, rfl, Or.inl (gdw_of (i := 156) (by decide +kernel) (by decide +kernel))⟩
theorem fX5_15 : Fl RX5 15 20 0 (tyX5 0) true := ⟨4, RX5, TX5, 3, tyX5, by decide, rfl, rfl, rfl, wdX5, tyX5_ok, nmX5, by decide, rfl, rfl, rfl, Or.inl (gdw_of (i := 388) (by decide +kernel) (by decide +kernel))⟩
theorem fX5_21 : Fl RX5 21 20 1 (tyX5 1) true := ⟨4, RX5, TX5, 3, tyX5, by decide, rfl, rfl, rfl, wdX5, tyX5_ok, nmX5, by decide, rfl, rfl, rfl, Or.inl (gdw_of (i := 389) (by decide +kernel) (by decide +kernel))⟩
theorem fX5_24 : Fl RX5 24 20 2 (tyX5 2) true := ⟨4, RX5, TX5, 3, tyX5, by decide, rfl, rfl, rfl, wdX5, tyX5_ok, nmX5, by decide, rfl, rfl, rfl, Or.inl (gdw_of (i := 390) (by decide +kernel) (by decide +kernel))⟩
theorem fX5_34 : Fl RX5 34 18 9 .int false := ⟨8, RX10, TX10, 15, tyX10, by decide, rfl, rfl, rfl, wdX10, tyX10_ok, nmX10, by decide, rfl, rfl, rfl, Or.inr (by decide +kernel)⟩
theorem fX5_40 : Fl RX5 40 18 10 .int false := ⟨8, RX10, TX10, 15, tyX10, by decide, rfl, rfl, rfl, wdX10, tyX10_ok, nmX10, by decide, rfl, rfl, rfl, Or.inr (by decide +kernel)⟩
theorem fX5_43 : Fl RX5 43 18 13 .int false := ⟨8, RX10, TX10, 15, tyX10, by decide, rfl, rfl, rfl, wdX10, tyX10_ok, nmX10, by decide, rfl, rfl, rfl, Or.inr (by decide +kernel)⟩
theorem fX6_9 : Fl RX6 9 1 0 (tyX6 0) true := ⟨5, RX6, TX6, 8, tyX6, by decide, rfl, rfl, rfl, wdX6, tyX6_ok, nmX6, by decide, rfl, rfl, rfl, Or.inl (gdw_of (i := 190) (by decide +kernel) (by decide +kernel))⟩
theorem fX6_15 : Fl RX6 15 1 1 (tyX6 1) true := ⟨5, RX6, TX6, 8, tyX6, by decide, rfl, rfl, rfl, wdX6, tyX6_ok, nmX6, by decide, rfl, rfl, rfl, Or.inl (gdw_of (i := 191) (by decide +kernel) (by decide +kernel))⟩
theorem fX6_22 : Fl RX6 22 1 2 (tyX6 2) true := ⟨5, RX6, TX6, 8, tyX6, by decide, rfl, rfl, rfl, wdX6, tyX6_ok, nmX6, by decide, rfl, rfl, rfl, Or.inl (gdw_of (i := 192) (by decide +kernel) (by decide +kernel))⟩
theorem fX6_29 : Fl RX6 29 1 3 (tyX6 3) true := ⟨5, RX6, TX6, 8, tyX6, by decide, rfl, rfl, rfl, wdX6, tyX6_ok, nmX6, by decide, rfl, rfl, rfl, Or.inl (gdw_of (i := 194) (by decide +kernel) (by decide +kernel))⟩
theorem fX6_37 : Fl RX6 37 1 4 .int false := ⟨5, RX6, TX6, 8, tyX6, by decide, rfl, rfl, rfl, wdX6, tyX6_ok, nmX6, by decide, rfl, rfl, rfl, Or.inl (gdw_of (i := 196) (by decide +kernel) (by decide +kernel))⟩
theorem fX6_49 : Fl RX6 49 1 5 .int false := ⟨5, RX6, TX6, 8, tyX6, by decide, rfl, rfl, rfl, wdX6, tyX6_ok, nmX6, by decide, rfl, rfl, rfl, Or.inl (gdw_of (i := 198) (by decide +kernel) (by decide +kernel))⟩
theorem fX6_52 : Fl RX6 52 1 6 .int false := ⟨5, RX6, TX6, 8, tyX6, by decide, rfl, rfl, rfl, wdX6, tyX6_ok, nmX6, by decide, rfl, rfl, rfl, Or.inl (gdw_of (i := 199) (by decide +kernel) (by decide +kernel))⟩
theorem fX6_66 : Fl RX6 66 8 3 .int false := ⟨6, RX7, TX7, 4, tyX7, by decide, rfl, rfl, rfl, wdX7, tyX7_ok, nmX7, by decide, rfl, rfl, rfl, Or.inr (by decide +kernel)⟩
theorem fX6_113 : Fl RX6 113 1 7 .int false := ⟨5, RX6, TX6, 8, tyX6, by decide, rfl, rfl, rfl, wdX6, tyX6_ok, nmX6, by decide, rfl, rfl, rfl, Or.inl (gdw_of (i := 200) (by decide +kernel) (by decide +kernel))⟩
theorem fX7_9 : Fl RX7 9 8 0 (tyX7 0) true := ⟨6, RX7, TX7, 4, tyX7, by decide, rfl, rfl, rfl, wdX7, tyX7_ok, nmX7, by decide, rfl, rfl, rfl, Or.inl (gdw_of (i := 172) (by decide +kernel) (by decide +kernel))⟩
theorem fX7_15 : Fl RX7 15 8 1 (tyX7 1) true := ⟨6, RX7, TX7, 4, tyX7, by decide, rfl, rfl, rfl, wdX7, tyX7_ok, nmX7, by decide, rfl, rfl, rfl, Or.inl (gdw_of (i := 174) (by decide +kernel) (by decide +kernel))⟩
theorem fX7_18 : Fl RX7 18 8 2 (tyX7 2) true := ⟨6, RX7, TX7, 4, tyX7, by decide, rfl, rfl, rfl, wdX7, tyX7_ok, nmX7, by decide, rfl, rfl, rfl, Or.inl (gdw_of (i := 176) (by decide +kernel) (by decide +kernel))⟩
theorem fX7_21 : Fl RX7 21 8 3 .int false := ⟨6, RX7, TX7, 4, tyX7, by decide, rfl, rfl, rfl, wdX7, tyX7_ok, nmX7, by decide, rfl, rfl, rfl, Or.inl (gdw_of (i := 178) (by decide +kernel) (by decide +kernel))⟩
theorem fX8_9 : Fl RX8 9 12 0 (tyX8 0) true := ⟨7, RX8, TX8, 18, tyX8, by decide, rfl, rfl, rfl, wdX8, tyX8_ok, nmX8, by decide, rfl, rfl, rfl, Or.inl (gdw_of (i := 302) (by decide +kernel) (by decide +kernel))⟩
theorem fX8_15 : Fl RX8 15 12 1 (tyX8 1) true := ⟨7, RX8, TX8, 18, tyX8, by decide, rfl, rfl, rfl, wdX8, tyX8_ok, nmX8, by decide, rfl, rfl, rfl, Or.inl (gdw_of (i := 307) (by decide +kernel) (by decide +kernel))⟩
theorem fX8_18 : Fl RX8 18 12 2 (tyX8 2) true := ⟨7, RX8, TX8, 18, tyX8, by decide, rfl, rfl, rfl, wdX8, tyX8_ok, nmX8, by decide, rfl, rfl, rfl, Or.inl (gdw_of (i := 309) (by decide +kernel) (by decide +kernel))⟩
theorem fX8_21 : Fl RX8 21 12 3 (tyX8 3) true := ⟨7, RX8, TX8, 18, tyX8, by decide, rfl, rfl, rfl, wdX8, tyX8_ok, nmX8, by decide, rfl, rfl, rfl, Or.inl (gdw_of (i := 310) (by decide +kernel) (by decide +kernel))⟩
theorem fX8_24 : Fl RX8 24 12 4 (tyX8 4) true := ⟨7, RX8, TX8, 18, tyX8, by decide, rfl, rfl, rfl, wdX8, tyX8_ok, nmX8, by decide, rfl, rfl, rfl, Or.inl (gdw_of (i := 311) (by decide +kernel) (by decide +kernel))⟩
theorem fX8_30 : Fl RX8 30 12 5 (tyX8 5) true := ⟨7, RX8, TX8, 18, tyX8, by decide, rfl, rfl, rfl, wdX8, tyX8_ok, nmX8, by decide, rfl, rfl, rfl, Or.inl (gdw_of (i := 312) (by decide +kernel) (by decide +kernel))⟩
theorem fX8_41 : Fl RX8 41 12 6 .int false := ⟨7, RX8, TX8, 18, tyX8, by decide, rfl, rfl, rfl, wdX8, tyX8_ok, nmX8, by decide, rfl, rfl, rfl, Or.inl (gdw_of (i := 314) (by decide +kernel) (by decide +kernel))⟩
theorem fX8_45 : Fl RX8 45 12 7 .int false := ⟨7, RX8, TX8, 18, tyX8, by decide, rfl, rfl, rfl, wdX8, tyX8_ok, nmX8, by decide, rfl, rfl, rfl, Or.inl (gdw_of (i := 316) (by decide +kernel) (by decide +kernel))⟩
theorem fX8_48 : Fl RX8 48 12 8 .int false := ⟨7, RX8, TX8, 18, tyX8, by decide, rfl, rfl, rfl, wdX8, tyX8_ok, nmX8, by decide, rfl, rfl, rfl, Or.inl (gdw_of (i := 320) (by decide +kernel) (by decide +kernel))⟩
theorem fX8_57 : Fl RX8 57 12 9 .int false := ⟨7, RX8, TX8, 18, tyX8, by decide, rfl, rfl, rfl, wdX8, tyX8_ok, nmX8, by decide, rfl, rfl, rfl, Or.inl (gdw_of (i := 321) (by decide +kernel) (by decide +kernel))⟩
theorem fX8_60 : Fl RX8 60 12 10 .int false := ⟨7, RX8, TX8, 18, tyX8, by decide, rfl, rfl, rfl, wdX8, tyX8_ok, nmX8, by decide, rfl, rfl, rfl, Or.inl (gdw_of (i := 324) (by decide +kernel) (by decide +kernel))⟩
theorem fX8_63 : Fl RX8 63 12 11 .int false := ⟨7, RX8, TX8, 18, tyX8, by decide, rfl, rfl, rfl, wdX8, tyX8_ok, nmX8, by decide, rfl, rfl, rfl, Or.inl (gdw_of (i := 325) (by decide +kernel) (by decide +kernel))⟩
theorem fX8_66 : Fl RX8 66 12 12 .int false := ⟨7, RX8, TX8, 18, tyX8, by decide, rfl, rfl, rfl, wdX8, tyX8_ok, nmX8, by decide, rfl, rfl, rfl, Or.inl (gdw_of (i := 327) (by decide +kernel) (by decide +kernel))⟩
theorem fX8_69 : Fl RX8 69 12 13 .int false := ⟨7, RX8, TX8, 18, tyX8, by decide, rfl, rfl, rfl, wdX8, tyX8_ok, nmX8, by decide, rfl, rfl, rfl, Or.inl (gdw_of (i := 330) (by decide +kernel) (by decide +kernel))⟩
theorem fX8_72 : Fl RX8 72 12 14 .int false := ⟨7, RX8, TX8, 18, tyX8, by decide, rfl, rfl, rfl, wdX8, tyX8_ok, nmX8, by decide, rfl, rfl, rfl, Or.inl (gdw_of (i := 332) (by decide +kernel) (by decide +kernel))⟩
theorem fX8_75 : Fl RX8 75 12 15 .boolean false := ⟨7, RX8, TX8, 18, tyX8, by decide, rfl, rfl, rfl, wdX8, tyX8_ok, nmX8, by decide, rfl, rfl, rfl, Or.inl (gdw_of (i := 333) (by decide +kernel) (by decide +kernel))⟩
theorem fX8_79 : Fl RX8 79 12 16 .boolean false := ⟨7, RX8, TX8, 18, tyX8, by decide, rfl, rfl, rfl, wdX8, tyX8_ok, nmX8, by decide, rfl, rfl, rfl, Or.inl (gdw_of (i := 336) (by decide +kernel) (by decide +kernel))⟩
theorem fX8_82 : Fl RX8 82 12 17 .long false := ⟨7, RX8, TX8, 18, tyX8, by decide, rfl, rfl, rfl, wdX8, tyX8_ok, nmX8, by decide, rfl, rfl, rfl, Or.inl (gdw_of (i := 339) (by decide +kernel) (by decide +kernel))⟩
theorem fX8_96 : Fl RX8 96 18 2 .boolean false := ⟨8, RX10, TX10, 15, tyX10, by decide, rfl, rfl, rfl, wdX10, tyX10_ok, nmX10, by decide, rfl, rfl, rfl, Or.inr (by decide +kernel)⟩
theorem fX8_99 : Fl RX8 99 18 0 .int false := ⟨8, RX10, TX10, 15, tyX10, by decide, rfl, rfl, rfl, wdX10, tyX10_ok, nmX10, by decide, rfl, rfl, rfl, Or.inr (by decide +kernel)⟩
theorem fX8_102 : Fl RX8 102 18 1 .int false := ⟨8, RX10, TX10, 15, tyX10, by decide, rfl, rfl, rfl, wdX10, tyX10_ok, nmX10, by decide, rfl, rfl, rfl, Or.inr (by decide +kernel)⟩
theorem fX8_105 : Fl RX8 105 18 3 .int false := ⟨8, RX10, TX10, 15, tyX10, by decide, rfl, rfl, rfl, wdX10, tyX10_ok, nmX10, by decide, rfl, rfl, rfl, Or.inr (by decide +kernel)⟩
theorem fX8_108 : Fl RX8 108 18 4 .int false := ⟨8, RX10, TX10, 15, tyX10, by decide, rfl, rfl, rfl, wdX10, tyX10_ok, nmX10, by decide, rfl, rfl, rfl, Or.inr (by decide +kernel)⟩
theorem fX8_111 : Fl RX8 111 18 5 .int false := ⟨8, RX10, TX10, 15, tyX10, by decide, rfl, rfl, rfl, wdX10, tyX10_ok, nmX10, by decide, rfl, rfl, rfl, Or.inr (by decide +kernel)⟩
theorem fX8_114 : Fl RX8 114 18 6 .int false := ⟨8, RX10, TX10, 15, tyX10, by decide, rfl, rfl, rfl, wdX10, tyX10_ok, nmX10, by decide, rfl, rfl, rfl, Or.inr (by decide +kernel)⟩
theorem fX8_117 : Fl RX8 117 18 7 .int false := ⟨8, RX10, TX10, 15, tyX10, by decide, rfl, rfl, rfl, wdX10, tyX10_ok, nmX10, by decide, rfl, rfl, rfl, Or.inr (by decide +kernel)⟩
theorem fX8_120 : Fl RX8 120 18 8 .int false := ⟨8, RX10, TX10, 15, tyX10, by decide, rfl, rfl, rfl, wdX10, tyX10_ok, nmX10, by decide, rfl, rfl, rfl, Or.inr (by decide +kernel)⟩
theorem fX8_202 : Fl RX8 202 18 9 .int false := ⟨8, RX10, TX10, 15, tyX10, by decide, rfl, rfl, rfl, wdX10, tyX10_ok, nmX10, by decide, rfl, rfl, rfl, Or.inr (by decide +kernel)⟩
theorem fX8_205 : Fl RX8 205 18 10 .int false := ⟨8, RX10, TX10, 15, tyX10, by decide, rfl, rfl, rfl, wdX10, tyX10_ok, nmX10, by decide, rfl, rfl, rfl, Or.inr (by decide +kernel)⟩
theorem fX8_208 : Fl RX8 208 18 12 .int false := ⟨8, RX10, TX10, 15, tyX10, by decide, rfl, rfl, rfl, wdX10, tyX10_ok, nmX10, by decide, rfl, rfl, rfl, Or.inr (by decide +kernel)⟩
theorem fX8_211 : Fl RX8 211 18 13 .int false := ⟨8, RX10, TX10, 15, tyX10, by decide, rfl, rfl, rfl, wdX10, tyX10_ok, nmX10, by decide, rfl, rfl, rfl, Or.inr (by decide +kernel)⟩
theorem fX8_229 : Fl RX8 229 18 11 .int false := ⟨8, RX10, TX10, 15, tyX10, by decide, rfl, rfl, rfl, wdX10, tyX10_ok, nmX10, by decide, rfl, rfl, rfl, Or.inr (by decide +kernel)⟩
theorem fX8_231 : Fl RX8 231 18 14 (tyX10 14) true := ⟨8, RX10, TX10, 15, tyX10, by decide, rfl, rfl, rfl, wdX10, tyX10_ok, nmX10, by decide, rfl, rfl, rfl, Or.inr (by decide +kernel)⟩
theorem fX10_9 : Fl RX10 9 18 14 (tyX10 14) true := ⟨8, RX10, TX10, 15, tyX10, by decide, rfl, rfl, rfl, wdX10, tyX10_ok, nmX10, by decide, rfl, rfl, rfl, Or.inl (gdw_of (i := 269) (by decide +kernel) (by decide +kernel))⟩
theorem fX10_15 : Fl RX10 15 18 0 .int false := ⟨8, RX10, TX10, 15, tyX10, by decide, rfl, rfl, rfl, wdX10, tyX10_ok, nmX10, by decide, rfl, rfl, rfl, Or.inl (gdw_of (i := 234) (by decide +kernel) (by decide +kernel))⟩
theorem fX10_19 : Fl RX10 19 18 1 .int false := ⟨8, RX10, TX10, 15, tyX10, by decide, rfl, rfl, rfl, wdX10, tyX10_ok, nmX10, by decide, rfl, rfl, rfl, Or.inl (gdw_of (i := 236) (by decide +kernel) (by decide +kernel))⟩
theorem fX10_22 : Fl RX10 22 18 2 .boolean false := ⟨8, RX10, TX10, 15, tyX10, by decide, rfl, rfl, rfl, wdX10, tyX10_ok, nmX10, by decide, rfl, rfl, rfl, Or.inl (gdw_of (i := 238) (by decide +kernel) (by decide +kernel))⟩
theorem fX10_26 : Fl RX10 26 18 3 .int false := ⟨8, RX10, TX10, 15, tyX10, by decide, rfl, rfl, rfl, wdX10, tyX10_ok, nmX10, by decide, rfl, rfl, rfl, Or.inl (gdw_of (i := 241) (by decide +kernel) (by decide +kernel))⟩
theorem fX10_29 : Fl RX10 29 18 4 .int false := ⟨8, RX10, TX10, 15, tyX10, by decide, rfl, rfl, rfl, wdX10, tyX10_ok, nmX10, by decide, rfl, rfl, rfl, Or.inl (gdw_of (i := 244) (by decide +kernel) (by decide +kernel))⟩
theorem fX10_32 : Fl RX10 32 18 5 .int false := ⟨8, RX10, TX10, 15, tyX10, by decide, rfl, rfl, rfl, wdX10, tyX10_ok, nmX10, by decide, rfl, rfl, rfl, Or.inl (gdw_of (i := 246) (by decide +kernel) (by decide +kernel))⟩
theorem fX10_35 : Fl RX10 35 18 6 .int false := ⟨8, RX10, TX10, 15, tyX10, by decide, rfl, rfl, rfl, wdX10, tyX10_ok, nmX10, by decide, rfl, rfl, rfl, Or.inl (gdw_of (i := 249) (by decide +kernel) (by decide +kernel))⟩
theorem fX10_38 : Fl RX10 38 18 7 .int false := ⟨8, RX10, TX10, 15, tyX10, by decide, rfl, rfl, rfl, wdX10, tyX10_ok, nmX10, by decide, rfl, rfl, rfl, Or.inl (gdw_of (i := 251) (by decide +kernel) (by decide +kernel))⟩
theorem fX10_41 : Fl RX10 41 18 8 .int false := ⟨8, RX10, TX10, 15, tyX10, by decide, rfl, rfl, rfl, wdX10, tyX10_ok, nmX10, by decide, rfl, rfl, rfl, Or.inl (gdw_of (i := 253) (by decide +kernel) (by decide +kernel))⟩
theorem fX10_44 : Fl RX10 44 18 9 .int false := ⟨8, RX10, TX10, 15, tyX10, by decide, rfl, rfl, rfl, wdX10, tyX10_ok, nmX10, by decide, rfl, rfl, rfl, Or.inl (gdw_of (i := 255) (by decide +kernel) (by decide +kernel))⟩
theorem fX10_47 : Fl RX10 47 18 10 .int false := ⟨8, RX10, TX10, 15, tyX10, by decide, rfl, rfl, rfl, wdX10, tyX10_ok, nmX10, by decide, rfl, rfl, rfl, Or.inl (gdw_of (i := 258) (by decide +kernel) (by decide +kernel))⟩
theorem fX10_50 : Fl RX10 50 18 11 .int false := ⟨8, RX10, TX10, 15, tyX10, by decide, rfl, rfl, rfl, wdX10, tyX10_ok, nmX10, by decide, rfl, rfl, rfl, Or.inl (gdw_of (i := 262) (by decide +kernel) (by decide +kernel))⟩
theorem fX10_53 : Fl RX10 53 18 12 .int false := ⟨8, RX10, TX10, 15, tyX10, by decide, rfl, rfl, rfl, wdX10, tyX10_ok, nmX10, by decide, rfl, rfl, rfl, Or.inl (gdw_of (i := 264) (by decide +kernel) (by decide +kernel))⟩
theorem fX10_56 : Fl RX10 56 18 13 .int false := ⟨8, RX10, TX10, 15, tyX10, by decide, rfl, rfl, rfl, wdX10, tyX10_ok, nmX10, by decide, rfl, rfl, rfl, Or.inl (gdw_of (i := 266) (by decide +kernel) (by decide +kernel))⟩
theorem fX12_9 : Fl RX12 9 40 1 (tyX12 1) true := ⟨10, RX12, TX12, 40, tyX12, by decide, rfl, rfl, rfl, wdX12, tyX12_ok, nmX12, by decide, rfl, rfl, rfl, Or.inl (gdw_of (i := 1409) (by decide +kernel) (by decide +kernel))⟩
theorem fX12_13 : Fl RX12 13 40 9 (tyX12 9) true := ⟨10, RX12, TX12, 40, tyX12, by decide, rfl, rfl, rfl, wdX12, tyX12_ok, nmX12, by decide, rfl, rfl, rfl, Or.inl (gdw_of (i := 1417) (by decide +kernel) (by decide +kernel))⟩
theorem fX12_16 : Fl RX12 16 40 10 (tyX12 10) true := ⟨10, RX12, TX12, 40, tyX12, by decide, rfl, rfl, rfl, wdX12, tyX12_ok, nmX12, by decide, rfl, rfl, rfl, Or.inl (gdw_of (i := 1418) (by decide +kernel) (by decide +kernel))⟩
theorem fX12_19 : Fl RX12 19 40 11 (tyX12 11) true := ⟨10, RX12, TX12, 40, tyX12, by decide, rfl, rfl, rfl, wdX12, tyX12_ok, nmX12, by decide, rfl, rfl, rfl, Or.inl (gdw_of (i := 1419) (by decide +kernel) (by decide +kernel))⟩
theorem fX12_22 : Fl RX12 22 40 12 (tyX12 12) true := ⟨10, RX12, TX12, 40, tyX12, by decide, rfl, rfl, rfl, wdX12, tyX12_ok, nmX12, by decide, rfl, rfl, rfl, Or.inl (gdw_of (i := 1420) (by decide +kernel) (by decide +kernel))⟩
theorem fX12_25 : Fl RX12 25 40 13 (tyX12 13) true := ⟨10, RX12, TX12, 40, tyX12, by decide, rfl, rfl, rfl, wdX12, tyX12_ok, nmX12, by decide, rfl, rfl, rfl, Or.inl (gdw_of (i := 1421) (by decide +kernel) (by decide +kernel))⟩
theorem fX12_28 : Fl RX12 28 40 14 (tyX12 14) true := ⟨10, RX12, TX12, 40, tyX12, by decide, rfl, rfl, rfl, wdX12, tyX12_ok, nmX12, by decide, rfl, rfl, rfl, Or.inl (gdw_of (i := 1422) (by decide +kernel) (by decide +kernel))⟩
theorem fX12_31 : Fl RX12 31 40 16 (tyX12 16) true := ⟨10, RX12, TX12, 40, tyX12, by decide, rfl, rfl, rfl, wdX12, tyX12_ok, nmX12, by decide, rfl, rfl, rfl, Or.inl (gdw_of (i := 1424) (by decide +kernel) (by decide +kernel))⟩
theorem fX12_34 : Fl RX12 34 40 17 (tyX12 17) true := ⟨10, RX12, TX12, 40, tyX12, by decide, rfl, rfl, rfl, wdX12, tyX12_ok, nmX12, by decide, rfl, rfl, rfl, Or.inl (gdw_of (i := 1425) (by decide +kernel) (by decide +kernel))⟩
theorem fX12_37 : Fl RX12 37 40 19 (tyX12 19) true := ⟨10, RX12, TX12, 40, tyX12, by decide, rfl, rfl, rfl, wdX12, tyX12_ok, nmX12, by decide, rfl, rfl, rfl, Or.inl (gdw_of (i := 1427) (by decide +kernel) (by decide +kernel))⟩
theorem fX12_40 : Fl RX12 40 40 20 (tyX12 20) true := ⟨10, RX12, TX12, 40, tyX12, by decide, rfl, rfl, rfl, wdX12, tyX12_ok, nmX12, by decide, rfl, rfl, rfl, Or.inl (gdw_of (i := 1428) (by decide +kernel) (by decide +kernel))⟩
theorem fX12_43 : Fl RX12 43 40 21 .int false := ⟨10, RX12, TX12, 40, tyX12, by decide, rfl, rfl, rfl, wdX12, tyX12_ok, nmX12, by decide, rfl, rfl, rfl, Or.inl (gdw_of (i := 1429) (by decide +kernel) (by decide +kernel))⟩
theorem fX12_47 : Fl RX12 47 40 22 .int false := ⟨10, RX12, TX12, 40, tyX12, by decide, rfl, rfl, rfl, wdX12, tyX12_ok, nmX12, by decide, rfl, rfl, rfl, Or.inl (gdw_of (i := 1430) (by decide +kernel) (by decide +kernel))⟩
theorem fX12_51 : Fl RX12 51 40 23 .int false := ⟨10, RX12, TX12, 40, tyX12, by decide, rfl, rfl, rfl, wdX12, tyX12_ok, nmX12, by decide, rfl, rfl, rfl, Or.inl (gdw_of (i := 1431) (by decide +kernel) (by decide +kernel))⟩
theorem fX12_54 : Fl RX12 54 40 27 (tyX12 27) true := ⟨10, RX12, TX12, 40, tyX12, by decide, rfl, rfl, rfl, wdX12, tyX12_ok, nmX12, by decide, rfl, rfl, rfl, Or.inl (gdw_of (i := 1435) (by decide +kernel) (by decide +kernel))⟩
theorem fX12_57 : Fl RX12 57 40 30 (tyX12 30) true := ⟨10, RX12, TX12, 40, tyX12, by decide, rfl, rfl, rfl, wdX12, tyX12_ok, nmX12, by decide, rfl, rfl, rfl, Or.inl (gdw_of (i := 1438) (by decide +kernel) (by decide +kernel))⟩
theorem fX12_60 : Fl RX12 60 40 33 (tyX12 33) true := ⟨10, RX12, TX12, 40, tyX12, by decide, rfl, rfl, rfl, wdX12, tyX12_ok, nmX12, by decide, rfl, rfl, rfl, Or.inl (gdw_of (i := 1441) (by decide +kernel) (by decide +kernel))⟩
theorem fX12_63 : Fl RX12 63 40 34 (tyX12 34) true := ⟨10, RX12, TX12, 40, tyX12, by decide, rfl, rfl, rfl, wdX12, tyX12_ok, nmX12, by decide, rfl, rfl, rfl, Or.inl (gdw_of (i := 1442) (by decide +kernel) (by decide +kernel))⟩
theorem fX12_66 : Fl RX12 66 40 35 (tyX12 35) true := ⟨10, RX12, TX12, 40, tyX12, by decide, rfl, rfl, rfl, wdX12, tyX12_ok, nmX12, by decide, rfl, rfl, rfl, Or.inl (gdw_of (i := 1443) (by decide +kernel) (by decide +kernel))⟩
theorem fX12_70 : Fl RX12 70 40 36 (tyX12 36) true := ⟨10, RX12, TX12, 40, tyX12, by decide, rfl, rfl, rfl, wdX12, tyX12_ok, nmX12, by decide, rfl, rfl, rfl, Or.inl (gdw_of (i := 1444) (by decide +kernel) (by decide +kernel))⟩
theorem fX12_73 : Fl RX12 73 40 37 (tyX12 37) true := ⟨10, RX12, TX12, 40, tyX12, by decide, rfl, rfl, rfl, wdX12, tyX12_ok, nmX12, by decide, rfl, rfl, rfl, Or.inl (gdw_of (i := 1445) (by decide +kernel) (by decide +kernel))⟩
theorem fX12_76 : Fl RX12 76 40 38 (tyX12 38) true := ⟨10, RX12, TX12, 40, tyX12, by decide, rfl, rfl, rfl, wdX12, tyX12_ok, nmX12, by decide, rfl, rfl, rfl, Or.inl (gdw_of (i := 1446) (by decide +kernel) (by decide +kernel))⟩
theorem fX12_79 : Fl RX12 79 40 0 .int false := ⟨10, RX12, TX12, 40, tyX12, by decide, rfl, rfl, rfl, wdX12, tyX12_ok, nmX12, by decide, rfl, rfl, rfl, Or.inl (gdw_of (i := 1408) (by decide +kernel) (by decide +kernel))⟩
theorem fX12_86 : Fl RX12 86 40 2 .int false := ⟨10, RX12, TX12, 40, tyX12, by decide, rfl, rfl, rfl, wdX12, tyX12_ok, nmX12, by decide, rfl, rfl, rfl, Or.inl (gdw_of (i := 1410) (by decide +kernel) (by decide +kernel))⟩
theorem fX12_93 : Fl RX12 93 40 3 .int false := ⟨10, RX12, TX12, 40, tyX12, by decide, rfl, rfl, rfl, wdX12, tyX12_ok, nmX12, by decide, rfl, rfl, rfl, Or.inl (gdw_of (i := 1411) (by decide +kernel) (by decide +kernel))⟩
theorem fX12_96 : Fl RX12 96 40 5 .int false := ⟨10, RX12, TX12, 40, tyX12, by decide, rfl, rfl, rfl, wdX12, tyX12_ok, nmX12, by decide, rfl, rfl, rfl, Or.inl (gdw_of (i := 1413) (by decide +kernel) (by decide +kernel))⟩
theorem fX12_99 : Fl RX12 99 40 8 .long false := ⟨10, RX12, TX12, 40, tyX12, by decide, rfl, rfl, rfl, wdX12, tyX12_ok, nmX12, by decide, rfl, rfl, rfl, Or.inl (gdw_of (i := 1416) (by decide +kernel) (by decide +kernel))⟩
theorem fX12_119 : Fl RX12 119 40 7 .int false := ⟨10, RX12, TX12, 40, tyX12, by decide, rfl, rfl, rfl, wdX12, tyX12_ok, nmX12, by decide, rfl, rfl, rfl, Or.inl (gdw_of (i := 1415) (by decide +kernel) (by decide +kernel))⟩
theorem fX12_122 : Fl RX12 122 40 6 .int false := ⟨10, RX12, TX12, 40, tyX12, by decide, rfl, rfl, rfl, wdX12, tyX12_ok, nmX12, by decide, rfl, rfl, rfl, Or.inl (gdw_of (i := 1414) (by decide +kernel) (by decide +kernel))⟩
theorem fX12_132 : Fl RX12 132 40 4 .int false := ⟨10, RX12, TX12, 40, tyX12, by decide, rfl, rfl, rfl, wdX12, tyX12_ok, nmX12, by decide, rfl, rfl, rfl, Or.inl (gdw_of (i := 1412) (by decide +kernel) (by decide +kernel))⟩
theorem fX12_203 : Fl RX12 203 40 15 .boolean false := ⟨10, RX12, TX12, 40, tyX12, by decide, rfl, rfl, rfl, wdX12, tyX12_ok, nmX12, by decide, rfl, rfl, rfl, Or.inl (gdw_of (i := 1423) (by decide +kernel) (by decide +kernel))⟩
theorem fX12_207 : Fl RX12 207 40 28 .int false := ⟨10, RX12, TX12, 40, tyX12, by decide, rfl, rfl, rfl, wdX12, tyX12_ok, nmX12, by decide, rfl, rfl, rfl, Or.inl (gdw_of (i := 1436) (by decide +kernel) (by decide +kernel))⟩
theorem fX12_210 : Fl RX12 210 40 39 .boolean false := ⟨10, RX12, TX12, 40, tyX12, by decide, rfl, rfl, rfl, wdX12, tyX12_ok, nmX12, by decide, rfl, rfl, rfl, Or.inl (gdw_of (i := 1447) (by decide +kernel) (by decide +kernel))⟩
theorem fX12_219 : Fl RX12 219 40 18 .int false := ⟨10, RX12, TX12, 40, tyX12, by decide, rfl, rfl, rfl, wdX12, tyX12_ok, nmX12, by decide, rfl, rfl, rfl, Or.inl (gdw_of (i := 1426) (by decide +kernel) (by decide +kernel))⟩
theorem fX12_256 : Fl RX12 256 40 24 .boolean false := ⟨10, RX12, TX12, 40, tyX12, by decide, rfl, rfl, rfl, wdX12, tyX12_ok, nmX12, by decide, rfl, rfl, rfl, Or.inl (gdw_of (i := 1432) (by decide +kernel) (by decide +kernel))⟩
theorem fX12_294 : Fl RX12 294 40 25 .int false := ⟨10, RX12, TX12, 40, tyX12, by decide, rfl, rfl, rfl, wdX12, tyX12_ok, nmX12, by decide, rfl, rfl, rfl, Or.inl (gdw_of (i := 1433) (by decide +kernel) (by decide +kernel))⟩
theorem fX12_298 : Fl RX12 298 40 26 .int false := ⟨10, RX12, TX12, 40, tyX12, by decide, rfl, rfl, rfl, wdX12, tyX12_ok, nmX12, by decide, rfl, rfl, rfl, Or.inl (gdw_of (i := 1434) (by decide +kernel) (by decide +kernel))⟩
theorem fX12_331 : Fl RX12 331 40 29 .long false := ⟨10, RX12, TX12, 40, tyX12, by decide, rfl, rfl, rfl, wdX12, tyX12_ok, nmX12, by decide, rfl, rfl, rfl, Or.inl (gdw_of (i := 1437) (by decide +kernel) (by decide +kernel))⟩
theorem fX12_340 : Fl RX12 340 40 31 .int false := ⟨10, RX12, TX12, 40, tyX12, by decide, rfl, rfl, rfl, wdX12, tyX12_ok, nmX12, by decide, rfl, rfl, rfl, Or.inl (gdw_of (i := 1439) (by decide +kernel) (by decide +kernel))⟩
theorem fX12_343 : Fl RX12 343 40 32 .int false := ⟨10, RX12, TX12, 40, tyX12, by decide, rfl, rfl, rfl, wdX12, tyX12_ok, nmX12, by decide, rfl, rfl, rfl, Or.inl (gdw_of (i := 1440) (by decide +kernel) (by decide +kernel))⟩
theorem cX11_118 : Cond.constant RX11 118 (-1000000000) ∈ gdw := gdw_of (i := 752) (by decide +kernel) (by decide +kernel)
theorem cX11_436 : Cond.constantLong RX11 436 6364136223846793005 ∈ gdw := gdw_of (i := 941) (by decide +kernel) (by decide +kernel)
theorem cX11_438 : Cond.constantLong RX11 438 1442695040888963407 ∈ gdw := gdw_of (i := 942) (by decide +kernel) (by decide +kernel)
theorem cX1_85 : Cond.constant RX1 85 (-1000000000) ∈ gdw := gdw_of (i := 1223) (by decide +kernel) (by decide +kernel)
theorem cX3_61 : Cond.constant RX3 61 1000000000 ∈ gdw := gdw_of (i := 877) (by decide +kernel) (by decide +kernel)
theorem cX3_67 : Cond.constant RX3 67 (-1000000000) ∈ gdw := gdw_of (i := 888) (by decide +kernel) (by decide +kernel)
theorem cX5_45 : Cond.constant RX5 45 (-1000000000) ∈ gdw := gdw_of (i := 808) (by decide +kernel) (by decide +kernel)
theorem cX6_153 : Cond.constant RX6 153 100000 ∈ gdw := gdw_of (i := 642) (by decide +kernel) (by decide +kernel)
theorem cX7_29 : Cond.constant RX7 29 (-1000000000) ∈ gdw := gdw_of (i := 682) (by decide +kernel) (by decide +kernel)
theorem cX8_123 : Cond.constant RX8 123 (-1000000000) ∈ gdw := gdw_of (i := 774) (by decide +kernel) (by decide +kernel)
theorem cX12_50 : Cond.constant RX12 50 (-1000000000) ∈ gdw := gdw_of (i := 1407) (by decide +kernel) (by decide +kernel)
theorem cX12_111 : Cond.constantLong RX12 111 32 ∈ gdw := gdw_of (i := 1573) (by decide +kernel) (by decide +kernel)
theorem cX12_113 : Cond.constantLong RX12 113 97 ∈ gdw := gdw_of (i := 1574) (by decide +kernel) (by decide +kernel)
theorem cX12_118 : Cond.constant RX12 118 1000000 ∈ gdw := gdw_of (i := 1582) (by decide +kernel) (by decide +kernel)
theorem cX12_135 : Cond.constantLong RX12 135 96 ∈ gdw := gdw_of (i := 1593) (by decide +kernel) (by decide +kernel)
theorem cX12_137 : Cond.constantLong RX12 137 1024 ∈ gdw := gdw_of (i := 1597) (by decide +kernel) (by decide +kernel)
theorem cX12_222 : Cond.constantLong RX12 222 4294967295 ∈ gdw := gdw_of (i := 1688) (by decide +kernel) (by decide +kernel)
theorem cX12_224 : Cond.constantLong RX12 224 6364136223846793005 ∈ gdw := gdw_of (i := 1689) (by decide +kernel) (by decide +kernel)
theorem cX12_226 : Cond.constantLong RX12 226 1442695040888963407 ∈ gdw := gdw_of (i := 1690) (by decide +kernel) (by decide +kernel)
theorem cX12_293 : Cond.constant RX12 293 2147483647 ∈ gdw := gdw_of (i := 1778) (by decide +kernel) (by decide +kernel)
theorem cX12_297 : Cond.constant RX12 297 (-2147483648) ∈ gdw := gdw_of (i := 1779) (by decide +kernel) (by decide +kernel)
theorem rc_0 : Rc 0 RX11 := rc_ob (by decide) rfl rfl
theorem rc_1 : Rc 1 RX6 := rc_ob (by decide) rfl rfl
theorem rc_4 : Rc 4 RX4 := rc_ob (by decide) rfl rfl
theorem rc_8 : Rc 8 RX7 := rc_ob (by decide) rfl rfl
theorem rc_12 : Rc 12 RX8 := rc_ob (by decide) rfl rfl
theorem rc_18 : Rc 18 RX10 := rc_ob (by decide) rfl rfl
theorem rc_20 : Rc 20 RX5 := rc_ob (by decide) rfl rfl
theorem rc_24 : Rc 24 RX3 := rc_ob (by decide) rfl rfl
theorem rc_28 : Rc 28 RX1 := rc_ob (by decide) rfl rfl
theorem rc_34 : Rc 34 RX0 := rc_ob (by decide) rfl rfl
theorem rc_40 : Rc 40 RX12 := rc_ob (by decide) rfl rfl
theorem acW_ok : acW := ⟨gdw_of (i := 713) (by decide +kernel) (by decide +kernel), gdw_of (i := 712) (by decide +kernel) (by decide +kernel), gdw_of (i := 129) (by decide +kernel) (by decide +kernel)⟩
theorem lX0_68 : Cond.methodLink RX0 68 arraycopyName ∈ gdw := gdw_of (i := 1273) (by decide +kernel) (by decide +kernel)
theorem lX4_35 : Cond.methodLink RX4 35 arraycopyName ∈ gdw := gdw_of (i := 711) (by decide +kernel) (by decide +kernel)
theorem lX7_34 : Cond.methodLink RX7 34 arraycopyName ∈ gdw := gdw_of (i := 742) (by decide +kernel) (by decide +kernel)
theorem lX8_86 : Cond.methodLink RX8 86 arraycopyName ∈ gdw := gdw_of (i := 907) (by decide +kernel) (by decide +kernel)
theorem lX10_59 : Cond.methodLink RX10 59 arraycopyName ∈ gdw := gdw_of (i := 912) (by decide +kernel) (by decide +kernel)
end
section
abbrev mJ9_floorDiv_7cf53 : hMt := (yJ9_floorDiv_7cf53, cJ9_floorDiv_7cf53, 3, some .int)
def tJ9_floorDiv_7cf53 : hTb := [(0, .iload_n 0, 1, 1), (1, .iload_n 1, 1, 2), (2, .idiv, 1, 3), (3, .istore_n 2, 1, 4), (4, .iload_n 0, 1, 5), (5, .iload_n 1, 1, 6), (6, .ixor, 1, 7), (7, .ifCond .ge 14, 3, 10), (10, .iload_n 2, 1, 11), (11, .iload_n 1, 1, 12), (12, .imul, 1, 13), (13, .iload_n 0, 1, 14), (14, .if_icmp .eq 7, 3, 17), (17, .iload_n 2, 1, 18), (18, .iconst 1, 1, 19), (19, .isub, 1, 20), (20, .ireturn, 1, 21), (21, .iload_n 2, 1, 22), (22, .ireturn, 1, 23)]
theorem ktJ9_floorDiv_7cf53 : TbOK mJ9_floorDiv_7cf53 tJ9_floorDiv_7cf53 := by
  unfold TbOK
  decide +kernel
theorem kdJ9_floorDiv_7cf53 (k : Nat) {pc : Nat} {i : Instr} {len nx : Nat} (hk : tJ9_floorDiv_7cf53[k]? = some (pc, i, len, nx)) : Dc mJ9_floorDiv_7cf53 pc i len nx := dc_of ktJ9_floorDiv_7cf53 k hk
theorem iJ9_floorDiv_7cf53 : MiS mJ9_floorDiv_7cf53 := ⟨⟨gdw_of (i := 1163) (by decide +kernel) (by decide +kernel), gdw_of (i := 117) (by decide +kernel) (by decide +kernel), by decide, by decide, by decide⟩, gdw_of (i := 1162) (by decide +kernel) (by decide +kernel)⟩
abbrev mJ9_floorMod_7cf53 : hMt := (yJ9_floorMod_7cf53, cJ9_floorMod_7cf53, 3, some .int)
def tJ9_floorMod_7cf53 : hTb := [(0, .iload_n 0, 1, 1), (1, .iload_n 1, 1, 2), (2, .irem, 1, 3), (3, .istore_n 2, 1, 4), (4, .iload_n 0, 1, 5), (5, .iload_n 1, 1, 6), (6, .ixor, 1, 7), (7, .ifCond .ge 11, 3, 10), (10, .iload_n 2, 1, 11), (11, .ifCond .eq 7, 3, 14), (14, .iload_n 2, 1, 15), (15, .iload_n 1, 1, 16), (16, .iadd, 1, 17), (17, .ireturn, 1, 18), (18, .iload_n 2, 1, 19), (19, .ireturn, 1, 20)]
theorem ktJ9_floorMod_7cf53 : TbOK mJ9_floorMod_7cf53 tJ9_floorMod_7cf53 := by
  unfold TbOK
  decide +kernel
theorem kdJ9_floorMod_7cf53 (k : Nat) {pc : Nat} {i : Instr} {len nx : Nat} (hk : tJ9_floorMod_7cf53[k]? = some (pc, i, len, nx)) : Dc mJ9_floorMod_7cf53 pc i len nx := dc_of ktJ9_floorMod_7cf53 k hk
theorem iJ9_floorMod_7cf53 : MiS mJ9_floorMod_7cf53 := ⟨⟨gdw_of (i := 807) (by decide +kernel) (by decide +kernel), gdw_of (i := 117) (by decide +kernel) (by decide +kernel), by decide, by decide, by decide⟩, gdw_of (i := 806) (by decide +kernel) (by decide +kernel)⟩
abbrev mJ9_max_7cf53 : hMt := (yJ9_max_7cf53, cJ9_max_7cf53, 2, some .int)
def tJ9_max_7cf53 : hTb := [(0, .iload_n 0, 1, 1), (1, .iload_n 1, 1, 2), (2, .if_icmp .lt 7, 3, 5), (5, .iload_n 0, 1, 6), (6, .goto 4, 3, 9), (9, .iload_n 1, 1, 10), (10, .ireturn, 1, 11)]
theorem ktJ9_max_7cf53 : TbOK mJ9_max_7cf53 tJ9_max_7cf53 := by
  unfold TbOK
  decide +kernel
theorem kdJ9_max_7cf53 (k : Nat) {pc : Nat} {i : Instr} {len nx : Nat} (hk : tJ9_max_7cf53[k]? = some (pc, i, len, nx)) : Dc mJ9_max_7cf53 pc i len nx := dc_of ktJ9_max_7cf53 k hk
theorem iJ9_max_7cf53 : MiS mJ9_max_7cf53 := ⟨⟨gdw_of (i := 387) (by decide +kernel) (by decide +kernel), gdw_of (i := 117) (by decide +kernel) (by decide +kernel), by decide, by decide, by decide⟩, gdw_of (i := 386) (by decide +kernel) (by decide +kernel)⟩
abbrev mJ9_min_7cf53 : hMt := (yJ9_min_7cf53, cJ9_min_7cf53, 2, some .int)
def tJ9_min_7cf53 : hTb := [(0, .iload_n 0, 1, 1), (1, .iload_n 1, 1, 2), (2, .if_icmp .gt 7, 3, 5), (5, .iload_n 0, 1, 6), (6, .goto 4, 3, 9), (9, .iload_n 1, 1, 10), (10, .ireturn, 1, 11)]
theorem ktJ9_min_7cf53 : TbOK mJ9_min_7cf53 tJ9_min_7cf53 := by
  unfold TbOK
  decide +kernel
theorem kdJ9_min_7cf53 (k : Nat) {pc : Nat} {i : Instr} {len nx : Nat} (hk : tJ9_min_7cf53[k]? = some (pc, i, len, nx)) : Dc mJ9_min_7cf53 pc i len nx := dc_of ktJ9_min_7cf53 k hk
theorem iJ9_min_7cf53 : MiS mJ9_min_7cf53 := ⟨⟨gdw_of (i := 645) (by decide +kernel) (by decide +kernel), gdw_of (i := 117) (by decide +kernel) (by decide +kernel), by decide, by decide, by decide⟩, gdw_of (i := 644) (by decide +kernel) (by decide +kernel)⟩
abbrev mX11_within : hMt := (yX11_within, cX11_within, 3, some .boolean)
def tX11_within : hTb := [(0, .iload_n 0, 1, 1), (1, .iload_n 1, 1, 2), (2, .if_icmp .lt 12, 3, 5), (5, .iload_n 0, 1, 6), (6, .iload_n 2, 1, 7), (7, .if_icmp .gt 7, 3, 10), (10, .iconst 1, 1, 11), (11, .goto 4, 3, 14), (14, .iconst 0, 1, 15), (15, .ireturn, 1, 16)]
theorem ktX11_within : TbOK mX11_within tX11_within := by
  unfold TbOK
  decide +kernel
theorem kdX11_within (k : Nat) {pc : Nat} {i : Instr} {len nx : Nat} (hk : tX11_within[k]? = some (pc, i, len, nx)) : Dc mX11_within pc i len nx := dc_of ktX11_within k hk
theorem iX11_within : MiS mX11_within := ⟨⟨gdw_of (i := 535) (by decide +kernel) (by decide +kernel), gdw_of (i := 110) (by decide +kernel) (by decide +kernel), by decide, by decide, by decide⟩, gdw_of (i := 534) (by decide +kernel) (by decide +kernel)⟩
abbrev mX11_signOf : hMt := (yX11_signOf, cX11_signOf, 1, some .int)
def tX11_signOf : hTb := [(0, .iload_n 0, 1, 1), (1, .ifCond .le 7, 3, 4), (4, .iconst 1, 1, 5), (5, .goto 12, 3, 8), (8, .iload_n 0, 1, 9), (9, .ifCond .ge 7, 3, 12), (12, .iconst (-1), 1, 13), (13, .goto 4, 3, 16), (16, .iconst 0, 1, 17), (17, .ireturn, 1, 18)]
theorem ktX11_signOf : TbOK mX11_signOf tX11_signOf := by
  unfold TbOK
  decide +kernel
theorem kdX11_signOf (k : Nat) {pc : Nat} {i : Instr} {len nx : Nat} (hk : tX11_signOf[k]? = some (pc, i, len, nx)) : Dc mX11_signOf pc i len nx := dc_of ktX11_signOf k hk
theorem iX11_signOf : MiS mX11_signOf := ⟨⟨gdw_of (i := 975) (by decide +kernel) (by decide +kernel), gdw_of (i := 110) (by decide +kernel) (by decide +kernel), by decide, by decide, by decide⟩, gdw_of (i := 974) (by decide +kernel) (by decide +kernel)⟩
abbrev mX11_sizeOf : hMt := (yX11_sizeOf, cX11_sizeOf, 1, some .int)
def tX11_sizeOf : hTb := [(0, .iload_n 0, 1, 1), (1, .ifCond .ge 8, 3, 4), (4, .iload_n 0, 1, 5), (5, .ineg, 1, 6), (6, .goto 4, 3, 9), (9, .iload_n 0, 1, 10), (10, .ireturn, 1, 11)]
theorem ktX11_sizeOf : TbOK mX11_sizeOf tX11_sizeOf := by
  unfold TbOK
  decide +kernel
theorem kdX11_sizeOf (k : Nat) {pc : Nat} {i : Instr} {len nx : Nat} (hk : tX11_sizeOf[k]? = some (pc, i, len, nx)) : Dc mX11_sizeOf pc i len nx := dc_of ktX11_sizeOf k hk
theorem iX11_sizeOf : MiS mX11_sizeOf := ⟨⟨gdw_of (i := 982) (by decide +kernel) (by decide +kernel), gdw_of (i := 110) (by decide +kernel) (by decide +kernel), by decide, by decide, by decide⟩, gdw_of (i := 981) (by decide +kernel) (by decide +kernel)⟩
abbrev mX11_bitSign : hMt := (yX11_bitSign, cX11_bitSign, 2, some .int)
def tX11_bitSign : hTb := [(0, .iload_n 0, 1, 1), (1, .iload_n 1, 1, 2), (2, .ishr, 1, 3), (3, .iconst 1, 1, 4), (4, .iand, 1, 5), (5, .iconst 1, 1, 6), (6, .if_icmp .ne 7, 3, 9), (9, .iconst 1, 1, 10), (10, .goto 4, 3, 13), (13, .iconst (-1), 1, 14), (14, .ireturn, 1, 15)]
theorem ktX11_bitSign : TbOK mX11_bitSign tX11_bitSign := by
  unfold TbOK
  decide +kernel
theorem kdX11_bitSign (k : Nat) {pc : Nat} {i : Instr} {len nx : Nat} (hk : tX11_bitSign[k]? = some (pc, i, len, nx)) : Dc mX11_bitSign pc i len nx := dc_of ktX11_bitSign k hk
theorem iX11_bitSign : MiS mX11_bitSign := ⟨⟨gdw_of (i := 866) (by decide +kernel) (by decide +kernel), gdw_of (i := 110) (by decide +kernel) (by decide +kernel), by decide, by decide, by decide⟩, gdw_of (i := 865) (by decide +kernel) (by decide +kernel)⟩
abbrev mX11_turned : hMt := (yX11_turned, cX11_turned, 2, some .long)
def tX11_turned : hTb := [(0, .lload_n 0, 1, 1), (1, .ldc2_w 436, 3, 4), (4, .lmul, 1, 5), (5, .ldc2_w 438, 3, 8), (8, .ladd, 1, 9), (9, .lreturn, 1, 10)]
theorem ktX11_turned : TbOK mX11_turned tX11_turned := by
  unfold TbOK
  decide +kernel
theorem kdX11_turned (k : Nat) {pc : Nat} {i : Instr} {len nx : Nat} (hk : tX11_turned[k]? = some (pc, i, len, nx)) : Dc mX11_turned pc i len nx := dc_of ktX11_turned k hk
theorem iX11_turned : MiS mX11_turned := ⟨⟨gdw_of (i := 940) (by decide +kernel) (by decide +kernel), gdw_of (i := 110) (by decide +kernel) (by decide +kernel), by decide, by decide, by decide⟩, gdw_of (i := 939) (by decide +kernel) (by decide +kernel)⟩
abbrev mX11_drawn : hMt := (yX11_drawn, cX11_drawn, 3, some .int)
def tX11_drawn : hTb := [(0, .iload_n 2, 1, 1), (1, .ifCond .le 14, 3, 4), (4, .lload_n 0, 1, 5), (5, .bipush 33, 2, 7), (7, .lushr, 1, 8), (8, .iload_n 2, 1, 9), (9, .i2l, 1, 10), (10, .lrem, 1, 11), (11, .l2i, 1, 12), (12, .goto 4, 3, 15), (15, .iconst 0, 1, 16), (16, .ireturn, 1, 17)]
theorem ktX11_drawn : TbOK mX11_drawn tX11_drawn := by
  unfold TbOK
  decide +kernel
theorem kdX11_drawn (k : Nat) {pc : Nat} {i : Instr} {len nx : Nat} (hk : tX11_drawn[k]? = some (pc, i, len, nx)) : Dc mX11_drawn pc i len nx := dc_of ktX11_drawn k hk
theorem iX11_drawn : MiS mX11_drawn := ⟨⟨gdw_of (i := 945) (by decide +kernel) (by decide +kernel), gdw_of (i := 110) (by decide +kernel) (by decide +kernel), by decide, by decide, by decide⟩, gdw_of (i := 944) (by decide +kernel) (by decide +kernel)⟩
abbrev mX11_push : hMt := (yX11_push, cX11_push, 3, none)
def tX11_push : hTb := [(0, .aload_n 0, 1, 1), (1, .arraylength, 1, 2), (2, .iconst 1, 1, 3), (3, .isub, 1, 4), (4, .istore_n 2, 1, 5), (5, .iload_n 2, 1, 6), (6, .ifCond .le 17, 3, 9), (9, .aload_n 0, 1, 10), (10, .iload_n 2, 1, 11), (11, .aload_n 0, 1, 12), (12, .iload_n 2, 1, 13), (13, .iconst 1, 1, 14), (14, .isub, 1, 15), (15, .iaload, 1, 16), (16, .iastore, 1, 17), (17, .iinc 2 (-1), 3, 20), (20, .goto (-15), 3, 23), (23, .aload_n 0, 1, 24), (24, .arraylength, 1, 25), (25, .ifCond .le 7, 3, 28), (28, .aload_n 0, 1, 29), (29, .iconst 0, 1, 30), (30, .iload_n 1, 1, 31), (31, .iastore, 1, 32), (32, .return_, 1, 33)]
theorem ktX11_push : TbOK mX11_push tX11_push := by
  unfold TbOK
  decide +kernel
theorem kdX11_push (k : Nat) {pc : Nat} {i : Instr} {len nx : Nat} (hk : tX11_push[k]? = some (pc, i, len, nx)) : Dc mX11_push pc i len nx := dc_of ktX11_push k hk
theorem iX11_push : MiS mX11_push := ⟨⟨gdw_of (i := 933) (by decide +kernel) (by decide +kernel), gdw_of (i := 110) (by decide +kernel) (by decide +kernel), by decide, by decide, by decide⟩, gdw_of (i := 932) (by decide +kernel) (by decide +kernel)⟩
abbrev mX11_moved : hMt := (yX11_moved, cX11_moved, 5, some .int)
def tX11_moved : hTb := [(0, .iload_n 0, 1, 1), (1, .iload_n 1, 1, 2), (2, .iadd, 1, 3), (3, .istore 4, 2, 5), (5, .iload 4, 2, 7), (7, .iload_n 2, 1, 8), (8, .if_icmp .ge 7, 3, 11), (11, .iload_n 2, 1, 12), (12, .goto 15, 3, 15), (15, .iload 4, 2, 17), (17, .iload_n 3, 1, 18), (18, .if_icmp .le 7, 3, 21), (21, .iload_n 3, 1, 22), (22, .goto 5, 3, 25), (25, .iload 4, 2, 27), (27, .ireturn, 1, 28)]
theorem ktX11_moved : TbOK mX11_moved tX11_moved := by
  unfold TbOK
  decide +kernel
theorem kdX11_moved (k : Nat) {pc : Nat} {i : Instr} {len nx : Nat} (hk : tX11_moved[k]? = some (pc, i, len, nx)) : Dc mX11_moved pc i len nx := dc_of ktX11_moved k hk
theorem iX11_moved : MiS mX11_moved := ⟨⟨gdw_of (i := 998) (by decide +kernel) (by decide +kernel), gdw_of (i := 110) (by decide +kernel) (by decide +kernel), by decide, by decide, by decide⟩, gdw_of (i := 997) (by decide +kernel) (by decide +kernel)⟩
theorem lX11_110 : Lk RX11 110 mX11_within := Or.inl (gdw_of (i := 737) (by decide +kernel) (by decide +kernel))
theorem lX11_260 : Lk RX11 260 mJ9_floorDiv_7cf53 := Or.inl (gdw_of (i := 1161) (by decide +kernel) (by decide +kernel))
theorem lX11_319 : Lk RX11 319 mX11_sizeOf := Or.inl (gdw_of (i := 1292) (by decide +kernel) (by decide +kernel))
theorem lX11_361 : Lk RX11 361 mJ9_min_7cf53 := Or.inl (gdw_of (i := 796) (by decide +kernel) (by decide +kernel))
theorem lX11_419 : Lk RX11 419 mX11_turned := Or.inl (gdw_of (i := 1090) (by decide +kernel) (by decide +kernel))
theorem lX11_422 : Lk RX11 422 mX11_drawn := Or.inl (gdw_of (i := 1091) (by decide +kernel) (by decide +kernel))
theorem lX11_433 : Lk RX11 433 mX11_bitSign := Or.inl (gdw_of (i := 882) (by decide +kernel) (by decide +kernel))
theorem lX0_61 : Lk RX0 61 mX11_within := Or.inr (by decide +kernel)
theorem lX0_74 : Lk RX0 74 mX11_sizeOf := Or.inr (by decide +kernel)
theorem lX1_65 : Lk RX1 65 mX11_bitSign := Or.inr (by decide +kernel)
theorem lX1_76 : Lk RX1 76 mJ9_max_7cf53 := Or.inl (gdw_of (i := 1214) (by decide +kernel) (by decide +kernel))
theorem lX3_30 : Lk RX3 30 mX11_bitSign := Or.inr (by decide +kernel)
theorem lX3_62 : Lk RX3 62 mJ9_min_7cf53 := Or.inl (gdw_of (i := 883) (by decide +kernel) (by decide +kernel))
theorem lX3_68 : Lk RX3 68 mJ9_max_7cf53 := Or.inl (gdw_of (i := 889) (by decide +kernel) (by decide +kernel))
theorem lX3_92 : Lk RX3 92 mX11_within := Or.inr (by decide +kernel)
theorem lX3_99 : Lk RX3 99 mJ9_floorDiv_7cf53 := Or.inl (gdw_of (i := 1178) (by decide +kernel) (by decide +kernel))
theorem lX3_102 : Lk RX3 102 mX11_sizeOf := Or.inr (by decide +kernel)
theorem lX4_31 : Lk RX4 31 mX11_within := Or.inr (by decide +kernel)
theorem lX5_9 : Lk RX5 9 mJ9_max_7cf53 := Or.inl (gdw_of (i := 385) (by decide +kernel) (by decide +kernel))
theorem lX5_27 : Lk RX5 27 mJ9_floorMod_7cf53 := Or.inl (gdw_of (i := 805) (by decide +kernel) (by decide +kernel))
theorem lX6_45 : Lk RX6 45 mX11_within := Or.inr (by decide +kernel)
theorem lX6_154 : Lk RX6 154 mJ9_min_7cf53 := Or.inl (gdw_of (i := 643) (by decide +kernel) (by decide +kernel))
theorem lX7_25 : Lk RX7 25 mX11_within := Or.inr (by decide +kernel)
theorem lX8_124 : Lk RX8 124 mX11_within := Or.inr (by decide +kernel)
theorem lX8_147 : Lk RX8 147 mX11_push := Or.inr (by decide +kernel)
theorem lX8_157 : Lk RX8 157 mX11_turned := Or.inr (by decide +kernel)
theorem lX8_161 : Lk RX8 161 mX11_drawn := Or.inr (by decide +kernel)
theorem lX8_178 : Lk RX8 178 mX11_signOf := Or.inr (by decide +kernel)
theorem lX8_184 : Lk RX8 184 mX11_sizeOf := Or.inr (by decide +kernel)
theorem lX8_214 : Lk RX8 214 mJ9_max_7cf53 := Or.inl (gdw_of (i := 1016) (by decide +kernel) (by decide +kernel))
theorem lX8_245 : Lk RX8 245 mX11_moved := Or.inr (by decide +kernel)
theorem lX10_65 : Lk RX10 65 mJ9_min_7cf53 := Or.inl (gdw_of (i := 987) (by decide +kernel) (by decide +kernel))
theorem lX10_71 : Lk RX10 71 mJ9_max_7cf53 := Or.inl (gdw_of (i := 1011) (by decide +kernel) (by decide +kernel))
theorem lX10_77 : Lk RX10 77 mX11_bitSign := Or.inr (by decide +kernel)
theorem lX12_234 : Lk RX12 234 mJ9_min_7cf53 := Or.inl (gdw_of (i := 1710) (by decide +kernel) (by decide +kernel))
theorem lX12_253 : Lk RX12 253 mJ9_max_7cf53 := Or.inl (gdw_of (i := 1699) (by decide +kernel) (by decide +kernel))
theorem lX12_368 : Lk RX12 368 mJ9_floorDiv_7cf53 := Or.inl (gdw_of (i := 1884) (by decide +kernel) (by decide +kernel))
def JJ9_floorDiv_7cf53 (a1 : Int32) (a2 : Int32) (m : hM) : hR :=
  jidiv a1 a2 fun x1 =>
  if 0 ≤ (a1 ^^^ a2) then (some (some (.inl x1), m)) else (if (x1 * a2) = a1 then (some (some (.inl x1), m)) else (some (some (.inl (x1 - 1)), m)))
set_option maxRecDepth 20000 in
theorem CJ9_floorDiv_7cf53 (a1 : Int32) (a2 : Int32) (m : hM) : Cn mJ9_floorDiv_7cf53 0 [.inl a1, .inl a2] m (JJ9_floorDiv_7cf53 a1 a2 m) := by
  refine cn_of (by decide +kernel) (by simp only [List.map, vcat, List.sum_cons, List.sum_nil]; decide) ?_
  unfold JJ9_floorDiv_7cf53
  show G mJ9_floorDiv_7cf53 0 0 [(0, .inl a1), (1, .inl a2)] [] m _
  refine g_iload_n 0 (kdJ9_floorDiv_7cf53 0 rfl) rfl ?_
  refine g_iload_n 1 (kdJ9_floorDiv_7cf53 1 rfl) rfl ?_
  refine g_idivx (kdJ9_floorDiv_7cf53 2 rfl) (fun x1 => ?_)
  refine g_istore_n (L2 := [(2, .inl x1), (0, .inl a1), (1, .inl a2)]) (kdJ9_floorDiv_7cf53 3 rfl) rfl (by decide) ?_
  refine g_iload_n 1 (kdJ9_floorDiv_7cf53 4 rfl) rfl ?_
  refine g_iload_n 2 (kdJ9_floorDiv_7cf53 5 rfl) rfl ?_
  refine g_ixor (kdJ9_floorDiv_7cf53 6 rfl) ?_
  refine g_if_ge (tgt := 21) (kdJ9_floorDiv_7cf53 7 rfl) (by decide) (fun _ => ?_) (fun _ => ?_)
  · refine g_iload_n 0 (kdJ9_floorDiv_7cf53 17 rfl) rfl ?_
    exact g_iret rfl (kdJ9_floorDiv_7cf53 18 rfl)
  · refine g_iload_n 0 (kdJ9_floorDiv_7cf53 8 rfl) rfl ?_
    refine g_iload_n 2 (kdJ9_floorDiv_7cf53 9 rfl) rfl ?_
    refine g_imul (kdJ9_floorDiv_7cf53 10 rfl) ?_
    refine g_iload_n 1 (kdJ9_floorDiv_7cf53 11 rfl) rfl ?_
    refine g_icmp_eq (tgt := 21) (kdJ9_floorDiv_7cf53 12 rfl) (by decide) (fun _ => ?_) (fun _ => ?_)
    · refine g_iload_n 0 (kdJ9_floorDiv_7cf53 17 rfl) rfl ?_
      exact g_iret rfl (kdJ9_floorDiv_7cf53 18 rfl)
    · refine g_iload_n 0 (kdJ9_floorDiv_7cf53 13 rfl) rfl ?_
      refine g_iconst (v := 1) (kdJ9_floorDiv_7cf53 14 rfl) (by decide) ?_
      refine g_isub (kdJ9_floorDiv_7cf53 15 rfl) ?_
      exact g_iret rfl (kdJ9_floorDiv_7cf53 16 rfl)
def JJ9_floorMod_7cf53 (a1 : Int32) (a2 : Int32) (m : hM) : hR :=
  jirem a1 a2 fun x1 =>
  if 0 ≤ (a1 ^^^ a2) then (some (some (.inl x1), m)) else (if x1 = 0 then (some (some (.inl x1), m)) else (some (some (.inl (x1 + a2)), m)))
set_option maxRecDepth 20000 in
theorem CJ9_floorMod_7cf53 (a1 : Int32) (a2 : Int32) (m : hM) : Cn mJ9_floorMod_7cf53 0 [.inl a1, .inl a2] m (JJ9_floorMod_7cf53 a1 a2 m) := by
  refine cn_of (by decide +kernel) (by simp only [List.map, vcat, List.sum_cons, List.sum_nil]; decide) ?_
  unfold JJ9_floorMod_7cf53
  show G mJ9_floorMod_7cf53 0 0 [(0, .inl a1), (1, .inl a2)] [] m _
  refine g_iload_n 0 (kdJ9_floorMod_7cf53 0 rfl) rfl ?_
  refine g_iload_n 1 (kdJ9_floorMod_7cf53 1 rfl) rfl ?_
  refine g_iremx (kdJ9_floorMod_7cf53 2 rfl) (fun x1 => ?_)
  refine g_istore_n (L2 := [(2, .inl x1), (0, .inl a1), (1, .inl a2)]) (kdJ9_floorMod_7cf53 3 rfl) rfl (by decide) ?_
  refine g_iload_n 1 (kdJ9_floorMod_7cf53 4 rfl) rfl ?_
  refine g_iload_n 2 (kdJ9_floorMod_7cf53 5 rfl) rfl ?_
  refine g_ixor (kdJ9_floorMod_7cf53 6 rfl) ?_
  refine g_if_ge (tgt := 18) (kdJ9_floorMod_7cf53 7 rfl) (by decide) (fun _ => ?_) (fun _ => ?_)
  · refine g_iload_n 0 (kdJ9_floorMod_7cf53 14 rfl) rfl ?_
    exact g_iret rfl (kdJ9_floorMod_7cf53 15 rfl)
  · refine g_iload_n 0 (kdJ9_floorMod_7cf53 8 rfl) rfl ?_
    refine g_if_eq (tgt := 18) (kdJ9_floorMod_7cf53 9 rfl) (by decide) (fun _ => ?_) (fun _ => ?_)
    · refine g_iload_n 0 (kdJ9_floorMod_7cf53 14 rfl) rfl ?_
      exact g_iret rfl (kdJ9_floorMod_7cf53 15 rfl)
    · refine g_iload_n 0 (kdJ9_floorMod_7cf53 10 rfl) rfl ?_
      refine g_iload_n 2 (kdJ9_floorMod_7cf53 11 rfl) rfl ?_
      refine g_iadd (kdJ9_floorMod_7cf53 12 rfl) ?_
      exact g_iret rfl (kdJ9_floorMod_7cf53 13 rfl)
def JJ9_max_7cf53 (a1 : Int32) (a2 : Int32) (m : hM) : hR :=
  if a1 < a2 then (some (some (.inl a2), m)) else (some (some (.inl a1), m))
set_option maxRecDepth 20000 in
theorem CJ9_max_7cf53 (a1 : Int32) (a2 : Int32) (m : hM) : Cn mJ9_max_7cf53 0 [.inl a1, .inl a2] m (JJ9_max_7cf53 a1 a2 m) := by
  refine cn_of (by decide +kernel) (by simp only [List.map, vcat, List.sum_cons, List.sum_nil]; decide) ?_
  unfold JJ9_max_7cf53
  show G mJ9_max_7cf53 0 0 [(0, .inl a1), (1, .inl a2)] [] m _
  refine g_iload_n 0 (kdJ9_max_7cf53 0 rfl) rfl ?_
  refine g_iload_n 1 (kdJ9_max_7cf53 1 rfl) rfl ?_
  refine g_icmp_lt (tgt := 9) (kdJ9_max_7cf53 2 rfl) (by decide) (fun _ => ?_) (fun _ => ?_)
  · refine g_iload_n 1 (kdJ9_max_7cf53 5 rfl) rfl ?_
    exact g_iret rfl (kdJ9_max_7cf53 6 rfl)
  · refine g_iload_n 0 (kdJ9_max_7cf53 3 rfl) rfl ?_
    refine g_goto (tgt := 10) (kdJ9_max_7cf53 4 rfl) (by decide) ?_
    exact g_iret rfl (kdJ9_max_7cf53 6 rfl)
def JJ9_min_7cf53 (a1 : Int32) (a2 : Int32) (m : hM) : hR :=
  if a2 < a1 then (some (some (.inl a2), m)) else (some (some (.inl a1), m))
set_option maxRecDepth 20000 in
theorem CJ9_min_7cf53 (a1 : Int32) (a2 : Int32) (m : hM) : Cn mJ9_min_7cf53 0 [.inl a1, .inl a2] m (JJ9_min_7cf53 a1 a2 m) := by
  refine cn_of (by decide +kernel) (by simp only [List.map, vcat, List.sum_cons, List.sum_nil]; decide) ?_
  unfold JJ9_min_7cf53
  show G mJ9_min_7cf53 0 0 [(0, .inl a1), (1, .inl a2)] [] m _
  refine g_iload_n 0 (kdJ9_min_7cf53 0 rfl) rfl ?_
  refine g_iload_n 1 (kdJ9_min_7cf53 1 rfl) rfl ?_
  refine g_icmp_gt (tgt := 9) (kdJ9_min_7cf53 2 rfl) (by decide) (fun _ => ?_) (fun _ => ?_)
  · refine g_iload_n 1 (kdJ9_min_7cf53 5 rfl) rfl ?_
    exact g_iret rfl (kdJ9_min_7cf53 6 rfl)
  · refine g_iload_n 0 (kdJ9_min_7cf53 3 rfl) rfl ?_
    refine g_goto (tgt := 10) (kdJ9_min_7cf53 4 rfl) (by decide) ?_
    exact g_iret rfl (kdJ9_min_7cf53 6 rfl)
def JX11_within (a1 : Int32) (a2 : Int32) (a3 : Int32) (m : hM) : hR :=
  if a1 < a2 then (jretZ 0 m) else (if a3 < a1 then (jretZ 0 m) else (jretZ 1 m))
set_option maxRecDepth 20000 in
theorem CX11_within (a1 : Int32) (a2 : Int32) (a3 : Int32) (m : hM) : Cn mX11_within 0 [.inl a1, .inl a2, .inl a3] m (JX11_within a1 a2 a3 m) := by
  refine cn_of (by decide +kernel) (by simp only [List.map, vcat, List.sum_cons, List.sum_nil]; decide) ?_
  unfold JX11_within
  show G mX11_within 0 0 [(0, .inl a1), (1, .inl a2), (2, .inl a3)] [] m _
  refine g_iload_n 0 (kdX11_within 0 rfl) rfl ?_
  refine g_iload_n 1 (kdX11_within 1 rfl) rfl ?_
  refine g_icmp_lt (tgt := 14) (kdX11_within 2 rfl) (by decide) (fun _ => ?_) (fun _ => ?_)
  · refine g_iconst (v := 0) (kdX11_within 8 rfl) (by decide) ?_
    exact g_zret rfl (kdX11_within 9 rfl)
  · refine g_iload_n 0 (kdX11_within 3 rfl) rfl ?_
    refine g_iload_n 2 (kdX11_within 4 rfl) rfl ?_
    refine g_icmp_gt (tgt := 14) (kdX11_within 5 rfl) (by decide) (fun _ => ?_) (fun _ => ?_)
    · refine g_iconst (v := 0) (kdX11_within 8 rfl) (by decide) ?_
      exact g_zret rfl (kdX11_within 9 rfl)
    · refine g_iconst (v := 1) (kdX11_within 6 rfl) (by decide) ?_
      refine g_goto (tgt := 15) (kdX11_within 7 rfl) (by decide) ?_
      exact g_zret rfl (kdX11_within 9 rfl)
def JX11_signOf (a1 : Int32) (m : hM) : hR :=
  if a1 ≤ 0 then (if 0 ≤ a1 then (some (some (.inl 0), m)) else (some (some (.inl (-1)), m))) else (some (some (.inl 1), m))
set_option maxRecDepth 20000 in
theorem CX11_signOf (a1 : Int32) (m : hM) : Cn mX11_signOf 0 [.inl a1] m (JX11_signOf a1 m) := by
  refine cn_of (by decide +kernel) (by simp only [List.map, vcat, List.sum_cons, List.sum_nil]; decide) ?_
  unfold JX11_signOf
  show G mX11_signOf 0 0 [(0, .inl a1)] [] m _
  refine g_iload_n 0 (kdX11_signOf 0 rfl) rfl ?_
  refine g_if_le (tgt := 8) (kdX11_signOf 1 rfl) (by decide) (fun _ => ?_) (fun _ => ?_)
  · refine g_iload_n 0 (kdX11_signOf 4 rfl) rfl ?_
    refine g_if_ge (tgt := 16) (kdX11_signOf 5 rfl) (by decide) (fun _ => ?_) (fun _ => ?_)
    · refine g_iconst (v := 0) (kdX11_signOf 8 rfl) (by decide) ?_
      exact g_iret rfl (kdX11_signOf 9 rfl)
    · refine g_iconst (v := (-1)) (kdX11_signOf 6 rfl) (by decide) ?_
      refine g_goto (tgt := 17) (kdX11_signOf 7 rfl) (by decide) ?_
      exact g_iret rfl (kdX11_signOf 9 rfl)
  · refine g_iconst (v := 1) (kdX11_signOf 2 rfl) (by decide) ?_
    refine g_goto (tgt := 17) (kdX11_signOf 3 rfl) (by decide) ?_
    exact g_iret rfl (kdX11_signOf 9 rfl)
def JX11_sizeOf (a1 : Int32) (m : hM) : hR :=
  if 0 ≤ a1 then (some (some (.inl a1), m)) else (some (some (.inl (-a1)), m))
set_option maxRecDepth 20000 in
theorem CX11_sizeOf (a1 : Int32) (m : hM) : Cn mX11_sizeOf 0 [.inl a1] m (JX11_sizeOf a1 m) := by
  refine cn_of (by decide +kernel) (by simp only [List.map, vcat, List.sum_cons, List.sum_nil]; decide) ?_
  unfold JX11_sizeOf
  show G mX11_sizeOf 0 0 [(0, .inl a1)] [] m _
  refine g_iload_n 0 (kdX11_sizeOf 0 rfl) rfl ?_
  refine g_if_ge (tgt := 9) (kdX11_sizeOf 1 rfl) (by decide) (fun _ => ?_) (fun _ => ?_)
  · refine g_iload_n 0 (kdX11_sizeOf 5 rfl) rfl ?_
    exact g_iret rfl (kdX11_sizeOf 6 rfl)
  · refine g_iload_n 0 (kdX11_sizeOf 2 rfl) rfl ?_
    refine g_ineg (kdX11_sizeOf 3 rfl) ?_
    refine g_goto (tgt := 10) (kdX11_sizeOf 4 rfl) (by decide) ?_
    exact g_iret rfl (kdX11_sizeOf 6 rfl)
def JX11_bitSign (a1 : Int32) (a2 : Int32) (m : hM) : hR :=
  if ((a1 >>> (a2 &&& 31)) &&& 1) = 1 then (some (some (.inl 1), m)) else (some (some (.inl (-1)), m))
set_option maxRecDepth 20000 in
theorem CX11_bitSign (a1 : Int32) (a2 : Int32) (m : hM) : Cn mX11_bitSign 0 [.inl a1, .inl a2] m (JX11_bitSign a1 a2 m) := by
  refine cn_of (by decide +kernel) (by simp only [List.map, vcat, List.sum_cons, List.sum_nil]; decide) ?_
  unfold JX11_bitSign
  show G mX11_bitSign 0 0 [(0, .inl a1), (1, .inl a2)] [] m _
  refine g_iload_n 0 (kdX11_bitSign 0 rfl) rfl ?_
  refine g_iload_n 1 (kdX11_bitSign 1 rfl) rfl ?_
  refine g_ishr (kdX11_bitSign 2 rfl) ?_
  refine g_iconst (v := 1) (kdX11_bitSign 3 rfl) (by decide) ?_
  refine g_iand (kdX11_bitSign 4 rfl) ?_
  refine g_iconst (v := 1) (kdX11_bitSign 5 rfl) (by decide) ?_
  refine g_icmp_ne (tgt := 13) (kdX11_bitSign 6 rfl) (by decide) (fun _ => ?_) (fun _ => ?_)
  · refine g_iconst (v := (-1)) (kdX11_bitSign 9 rfl) (by decide) ?_
    exact g_iret rfl (kdX11_bitSign 10 rfl)
  · refine g_iconst (v := 1) (kdX11_bitSign 7 rfl) (by decide) ?_
    refine g_goto (tgt := 14) (kdX11_bitSign 8 rfl) (by decide) ?_
    exact g_iret rfl (kdX11_bitSign 10 rfl)
def JX11_turned (a1 : Int64) (m : hM) : hR :=
  some (some (.inr (.inl ((a1 * 6364136223846793005) + 1442695040888963407))), m)
set_option maxRecDepth 20000 in
theorem CX11_turned (a1 : Int64) (m : hM) : Cn mX11_turned 0 [.inr (.inl a1)] m (JX11_turned a1 m) := by
  refine cn_of (by decide +kernel) (by simp only [List.map, vcat, List.sum_cons, List.sum_nil]; decide) ?_
  unfold JX11_turned
  show G mX11_turned 0 0 [(0, .inr (.inl a1))] [] m _
  refine g_lload_n 0 (kdX11_turned 0 rfl) rfl ?_
  refine g_ldc2 (kdX11_turned 1 rfl) cX11_436 ?_
  refine g_lmul (kdX11_turned 2 rfl) ?_
  refine g_ldc2 (kdX11_turned 3 rfl) cX11_438 ?_
  refine g_ladd (kdX11_turned 4 rfl) ?_
  exact g_lret rfl (kdX11_turned 5 rfl)
def JX11_drawn (a1 : Int64) (a2 : Int32) (m : hM) : hR :=
  if a2 ≤ 0 then (some (some (.inl 0), m)) else (jlrem (jlushr a1 (33 : Int32)) a2.toInt64 fun x1 =>
  some (some (.inl x1.toInt32), m))
set_option maxRecDepth 20000 in
theorem CX11_drawn (a1 : Int64) (a2 : Int32) (m : hM) : Cn mX11_drawn 0 [.inr (.inl a1), .inl a2] m (JX11_drawn a1 a2 m) := by
  refine cn_of (by decide +kernel) (by simp only [List.map, vcat, List.sum_cons, List.sum_nil]; decide) ?_
  unfold JX11_drawn
  show G mX11_drawn 0 0 [(0, .inr (.inl a1)), (2, .inl a2)] [] m _
  refine g_iload_n 1 (kdX11_drawn 0 rfl) rfl ?_
  refine g_if_le (tgt := 15) (kdX11_drawn 1 rfl) (by decide) (fun _ => ?_) (fun _ => ?_)
  · refine g_iconst (v := 0) (kdX11_drawn 10 rfl) (by decide) ?_
    exact g_iret rfl (kdX11_drawn 11 rfl)
  · refine g_lload_n 0 (kdX11_drawn 2 rfl) rfl ?_
    refine g_bipush (v := 33) (kdX11_drawn 3 rfl) (by decide) ?_
    refine g_lushr (kdX11_drawn 4 rfl) ?_
    refine g_iload_n 1 (kdX11_drawn 5 rfl) rfl ?_
    refine g_i2l (kdX11_drawn 6 rfl) ?_
    refine g_lremx (kdX11_drawn 7 rfl) (fun x1 => ?_)
    refine g_l2i (kdX11_drawn 8 rfl) ?_
    refine g_goto (tgt := 16) (kdX11_drawn 9 rfl) (by decide) ?_
    exact g_iret rfl (kdX11_drawn 11 rfl)
def bJX11_push_5 (K5 : Int32 → hM → hR) (K23 : hM → hR) (u0 : Nat) (w0 : Nat) (v1 : Int32) (v2 : Int32) (m : hM) : hR :=
  if v2 ≤ 0 then (K23 m) else (ald m u0 w0 (v2 - 1) fun x3 =>
  ast m u0 w0 v2 x3 fun m4 =>
  K5 (v2 + (-1)) m4)
set_option maxRecDepth 20000 in
theorem BbJX11_push_5 (K5 : Int32 → hM → hR) (K23 : hM → hR) (u0 : Nat) (w0 : Nat) (v1 : Int32) (h5 : ∀ (v2 : Int32) (m : hM), G mX11_push 0 5 [(0, .inr (.inr (u0, w0))), (1, .inl v1), (2, .inl v2)] [] m (K5 v2 m)) (h23 : ∀ (m : hM), G mX11_push 0 23 [(0, .inr (.inr (u0, w0))), (1, .inl v1)] [] m (K23 m)) (v2 : Int32) (m : hM) : G mX11_push 0 5 [(0, .inr (.inr (u0, w0))), (1, .inl v1), (2, .inl v2)] [] m (bJX11_push_5 K5 K23 u0 w0 v1 v2 m) := by
  unfold bJX11_push_5
  refine g_iload_n 2 (kdX11_push 5 rfl) rfl ?_
  refine g_if_le (tgt := 23) (kdX11_push 6 rfl) (by decide) (fun _ => ?_) (fun _ => ?_)
  · exact g_fgt [0, 1] rfl (h23 m)
  · refine g_aload_n 0 (kdX11_push 7 rfl) rfl ?_
    refine g_iload_n 2 (kdX11_push 8 rfl) rfl ?_
    refine g_aload_n 0 (kdX11_push 9 rfl) rfl ?_
    refine g_iload_n 2 (kdX11_push 10 rfl) rfl ?_
    refine g_iconst (v := 1) (kdX11_push 11 rfl) (by decide) ?_
    refine g_isub (kdX11_push 12 rfl) ?_
    refine g_iald (kdX11_push 13 rfl) (fun x3 => ?_)
    refine g_iast (kdX11_push 14 rfl) (fun m4 => ?_)
    refine g_iinc (v := v2 + (-1)) (L2 := [(2, .inl (v2 + (-1))), (0, .inr (.inr (u0, w0))), (1, .inl v1)]) 2 (kdX11_push 15 rfl) rfl rfl rfl (by decide) ?_
    refine g_goto (tgt := 5) (kdX11_push 16 rfl) (by decide) ?_
    exact g_fgt [1, 2, 0] rfl (h5 (v2 + (-1)) m4)
def JX11_push_5 (K23 : hM → hR) (u0 : Nat) (w0 : Nat) (v1 : Int32) : Nat → Int32 → hM → hR
  | 0, _, _ => none
  | f + 1, v2, m => bJX11_push_5 (fun v2 m => JX11_push_5 K23 u0 w0 v1 f v2 m) K23 u0 w0 v1 v2 m
theorem BJX11_push_5 (K23 : hM → hR) (u0 : Nat) (w0 : Nat) (v1 : Int32) (h23 : ∀ (m : hM), G mX11_push 0 23 [(0, .inr (.inr (u0, w0))), (1, .inl v1)] [] m (K23 m)) : ∀ (f : Nat) (v2 : Int32) (m : hM), G mX11_push 0 5 [(0, .inr (.inr (u0, w0))), (1, .inl v1), (2, .inl v2)] [] m (JX11_push_5 K23 u0 w0 v1 f v2 m)
  | 0, _, _ => g_none
  | f + 1, v2, m => BbJX11_push_5  _ K23 u0 w0 v1 (fun v2 m => BJX11_push_5  K23 u0 w0 v1 h23 f v2 m) h23 v2 m
def JX11_push (t1 : Nat) (n1 : Nat) (a2 : Int32) (m : hM) : hR :=
  alenJ t1 n1 fun x1 =>
  lt (x1 - 1) fun x2 =>
  JX11_push_5 (fun m5 => alenJ t1 n1 fun x6 =>
  if x6 ≤ 0 then (some (none, m5)) else (ast m5 t1 n1 0 a2 fun m7 =>
  some (none, m7))) t1 n1 a2 FU x2 m
set_option maxRecDepth 20000 in
theorem CX11_push (t1 : Nat) (n1 : Nat) (a2 : Int32) (m : hM) : Cn mX11_push 0 [.inr (.inr (t1, n1)), .inl a2] m (JX11_push t1 n1 a2 m) := by
  refine cn_of (by decide +kernel) (by simp only [List.map, vcat, List.sum_cons, List.sum_nil]; decide) ?_
  unfold JX11_push
  show G mX11_push 0 0 [(0, .inr (.inr (t1, n1))), (1, .inl a2)] [] m _
  refine g_aload_n 0 (kdX11_push 0 rfl) rfl ?_
  refine g_alen (kdX11_push 1 rfl) (fun x1 => ?_)
  refine g_iconst (v := 1) (kdX11_push 2 rfl) (by decide) ?_
  refine g_isub (kdX11_push 3 rfl) ?_
  refine g_lt (fun x2 => ?_)
  refine g_istore_n (L2 := [(2, .inl x2), (0, .inr (.inr (t1, n1))), (1, .inl a2)]) (kdX11_push 4 rfl) rfl (by decide) ?_
  refine g_fgt [1, 2, 0] rfl (BJX11_push_5  _ t1 n1 a2 ?_ FU x2 m)
  · intro m5
    refine g_aload_n 0 (kdX11_push 17 rfl) rfl ?_
    refine g_alen (kdX11_push 18 rfl) (fun x6 => ?_)
    refine g_if_le (tgt := 32) (kdX11_push 19 rfl) (by decide) (fun _ => ?_) (fun _ => ?_)
    · exact g_vret rfl (kdX11_push 24 rfl)
    · refine g_aload_n 0 (kdX11_push 20 rfl) rfl ?_
      refine g_iconst (v := 0) (kdX11_push 21 rfl) (by decide) ?_
      refine g_iload_n 1 (kdX11_push 22 rfl) rfl ?_
      refine g_iast (kdX11_push 23 rfl) (fun m7 => ?_)
      exact g_vret rfl (kdX11_push 24 rfl)
def JX11_moved (a1 : Int32) (a2 : Int32) (a3 : Int32) (a4 : Int32) (m : hM) : hR :=
  lt (a1 + a2) fun x1 =>
  if a3 ≤ x1 then (if x1 ≤ a4 then (some (some (.inl x1), m)) else (some (some (.inl a4), m))) else (some (some (.inl a3), m))
set_option maxRecDepth 20000 in
theorem CX11_moved (a1 : Int32) (a2 : Int32) (a3 : Int32) (a4 : Int32) (m : hM) : Cn mX11_moved 0 [.inl a1, .inl a2, .inl a3, .inl a4] m (JX11_moved a1 a2 a3 a4 m) := by
  refine cn_of (by decide +kernel) (by simp only [List.map, vcat, List.sum_cons, List.sum_nil]; decide) ?_
  unfold JX11_moved
  show G mX11_moved 0 0 [(0, .inl a1), (1, .inl a2), (2, .inl a3), (3, .inl a4)] [] m _
  refine g_iload_n 0 (kdX11_moved 0 rfl) rfl ?_
  refine g_iload_n 1 (kdX11_moved 1 rfl) rfl ?_
  refine g_iadd (kdX11_moved 2 rfl) ?_
  refine g_lt (fun x1 => ?_)
  refine g_istore (L2 := [(4, .inl x1), (0, .inl a1), (1, .inl a2), (2, .inl a3), (3, .inl a4)]) (kdX11_moved 3 rfl) rfl (by decide) ?_
  refine g_iload 0 (kdX11_moved 4 rfl) rfl ?_
  refine g_iload_n 3 (kdX11_moved 5 rfl) rfl ?_
  refine g_icmp_ge (tgt := 15) (kdX11_moved 6 rfl) (by decide) (fun _ => ?_) (fun _ => ?_)
  · refine g_iload 0 (kdX11_moved 9 rfl) rfl ?_
    refine g_iload_n 4 (kdX11_moved 10 rfl) rfl ?_
    refine g_icmp_le (tgt := 25) (kdX11_moved 11 rfl) (by decide) (fun _ => ?_) (fun _ => ?_)
    · refine g_iload 0 (kdX11_moved 14 rfl) rfl ?_
      exact g_iret rfl (kdX11_moved 15 rfl)
    · refine g_iload_n 4 (kdX11_moved 12 rfl) rfl ?_
      refine g_goto (tgt := 27) (kdX11_moved 13 rfl) (by decide) ?_
      exact g_iret rfl (kdX11_moved 15 rfl)
  · refine g_iload_n 3 (kdX11_moved 7 rfl) rfl ?_
    refine g_goto (tgt := 27) (kdX11_moved 8 rfl) (by decide) ?_
    exact g_iret rfl (kdX11_moved 15 rfl)
end
