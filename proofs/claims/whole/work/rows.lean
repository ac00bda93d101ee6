section
-- ===== PART A: goes FIRST, ahead of the names: the tables' words, and 'selects' of the private methods out of them =====
/-- a private method of a class that the tables say can be made, by its rows of tables_1 -/
def lw_okq (q : MethodName × Nat) : Prop := (q.1.cls ≠ "java/lang/invoke/MethodHandle" ∧ q.1.cls ≠ "java/lang/invoke/VarHandle") ∧ Cond.instantiable q.1.cls q.2 ∈ tables_1 ∧ Cond.privateMethod q.1 ∈ tables_1 ∧ Cond.instanceMethod q.1 ∈ tables_1
theorem lw_p0 : lw_okq (⟨"CountLearners$LabelledRows", "startAnew", "()V"⟩, 10) := ⟨⟨by decide +kernel, by decide +kernel⟩, List.mem_of_getElem? (i := 21) (by decide +kernel), List.mem_of_getElem? (i := 169) (by decide +kernel), List.mem_of_getElem? (i := 170) (by decide +kernel)⟩
theorem lw_p1 : lw_okq (⟨"CountLearners$LabelledRows", "tally", "()V"⟩, 10) := ⟨⟨by decide +kernel, by decide +kernel⟩, List.mem_of_getElem? (i := 21) (by decide +kernel), List.mem_of_getElem? (i := 174) (by decide +kernel), List.mem_of_getElem? (i := 175) (by decide +kernel)⟩
theorem lw_p2 : lw_okq (⟨"CountLearners$LabelledRows", "tallyRow", "(II)V"⟩, 10) := ⟨⟨by decide +kernel, by decide +kernel⟩, List.mem_of_getElem? (i := 21) (by decide +kernel), List.mem_of_getElem? (i := 178) (by decide +kernel), List.mem_of_getElem? (i := 179) (by decide +kernel)⟩
theorem lw_p3 : lw_okq (⟨"CountLearners$TextTables", "fillFirst", "()V"⟩, 5) := ⟨⟨by decide +kernel, by decide +kernel⟩, List.mem_of_getElem? (i := 59) (by decide +kernel), List.mem_of_getElem? (i := 318) (by decide +kernel), List.mem_of_getElem? (i := 319) (by decide +kernel)⟩
theorem lw_p4 : lw_okq (⟨"CountLearners$TextTables", "countBehind", "(II)V"⟩, 5) := ⟨⟨by decide +kernel, by decide +kernel⟩, List.mem_of_getElem? (i := 59) (by decide +kernel), List.mem_of_getElem? (i := 322) (by decide +kernel), List.mem_of_getElem? (i := 323) (by decide +kernel)⟩
theorem lw_p5 : lw_okq (⟨"CountLearners$TextTables", "putAbove", "()V"⟩, 5) := ⟨⟨by decide +kernel, by decide +kernel⟩, List.mem_of_getElem? (i := 59) (by decide +kernel), List.mem_of_getElem? (i := 327) (by decide +kernel), List.mem_of_getElem? (i := 328) (by decide +kernel)⟩
theorem lw_p6 : lw_okq (⟨"CountLearners$TextTables", "takeCounts", "(I)V"⟩, 5) := ⟨⟨by decide +kernel, by decide +kernel⟩, List.mem_of_getElem? (i := 59) (by decide +kernel), List.mem_of_getElem? (i := 331) (by decide +kernel), List.mem_of_getElem? (i := 332) (by decide +kernel)⟩
theorem lw_p7 : lw_okq (⟨"CountLearners$TextTables", "handDown", "(IIJ)V"⟩, 5) := ⟨⟨by decide +kernel, by decide +kernel⟩, List.mem_of_getElem? (i := 59) (by decide +kernel), List.mem_of_getElem? (i := 335) (by decide +kernel), List.mem_of_getElem? (i := 336) (by decide +kernel)⟩
theorem lw_p8 : lw_okq (⟨"CountLearners$HiddenStates", "bestOnward", "(II)I"⟩, 8) := ⟨⟨by decide +kernel, by decide +kernel⟩, List.mem_of_getElem? (i := 82) (by decide +kernel), List.mem_of_getElem? (i := 407) (by decide +kernel), List.mem_of_getElem? (i := 408) (by decide +kernel)⟩
theorem lw_p9 : lw_okq (⟨"CountLearners$HiddenStates", "weightOnward", "(III)J"⟩, 8) := ⟨⟨by decide +kernel, by decide +kernel⟩, List.mem_of_getElem? (i := 82) (by decide +kernel), List.mem_of_getElem? (i := 411) (by decide +kernel), List.mem_of_getElem? (i := 412) (by decide +kernel)⟩
theorem lw_p10 : lw_okq (⟨"CountLearners$HiddenStates", "shown", "(III)I"⟩, 8) := ⟨⟨by decide +kernel, by decide +kernel⟩, List.mem_of_getElem? (i := 82) (by decide +kernel), List.mem_of_getElem? (i := 415) (by decide +kernel), List.mem_of_getElem? (i := 416) (by decide +kernel)⟩
theorem lw_p11 : lw_okq (⟨"CountLearners$HiddenStates", "bestStart", "()I"⟩, 8) := ⟨⟨by decide +kernel, by decide +kernel⟩, List.mem_of_getElem? (i := 82) (by decide +kernel), List.mem_of_getElem? (i := 419) (by decide +kernel), List.mem_of_getElem? (i := 420) (by decide +kernel)⟩
theorem lw_p12 : lw_okq (⟨"CountLearners$HiddenStates", "sumInto", "(I)J"⟩, 8) := ⟨⟨by decide +kernel, by decide +kernel⟩, List.mem_of_getElem? (i := 82) (by decide +kernel), List.mem_of_getElem? (i := 439) (by decide +kernel), List.mem_of_getElem? (i := 440) (by decide +kernel)⟩
theorem lw_p13 : lw_okq (⟨"CountLearners$HiddenStates", "countBestPath", "(I)V"⟩, 8) := ⟨⟨by decide +kernel, by decide +kernel⟩, List.mem_of_getElem? (i := 82) (by decide +kernel), List.mem_of_getElem? (i := 452) (by decide +kernel), List.mem_of_getElem? (i := 453) (by decide +kernel)⟩
theorem lw_p14 : lw_okq (⟨"CountLearners$WordRules", "countSet", "(I)V"⟩, 4) := ⟨⟨by decide +kernel, by decide +kernel⟩, List.mem_of_getElem? (i := 116) (by decide +kernel), List.mem_of_getElem? (i := 473) (by decide +kernel), List.mem_of_getElem? (i := 474) (by decide +kernel)⟩
theorem lw_p15 : lw_okq (⟨"CountLearners$WordRules", "countPairs", "(II)V"⟩, 4) := ⟨⟨by decide +kernel, by decide +kernel⟩, List.mem_of_getElem? (i := 116) (by decide +kernel), List.mem_of_getElem? (i := 477) (by decide +kernel), List.mem_of_getElem? (i := 478) (by decide +kernel)⟩
def lw_privs_1 : List (MethodName × Nat) := [(⟨"CountLearners$LabelledRows", "startAnew", "()V"⟩, 10), (⟨"CountLearners$LabelledRows", "tally", "()V"⟩, 10), (⟨"CountLearners$LabelledRows", "tallyRow", "(II)V"⟩, 10), (⟨"CountLearners$TextTables", "fillFirst", "()V"⟩, 5), (⟨"CountLearners$TextTables", "countBehind", "(II)V"⟩, 5), (⟨"CountLearners$TextTables", "putAbove", "()V"⟩, 5), (⟨"CountLearners$TextTables", "takeCounts", "(I)V"⟩, 5), (⟨"CountLearners$TextTables", "handDown", "(IIJ)V"⟩, 5), (⟨"CountLearners$HiddenStates", "bestOnward", "(II)I"⟩, 8), (⟨"CountLearners$HiddenStates", "weightOnward", "(III)J"⟩, 8), (⟨"CountLearners$HiddenStates", "shown", "(III)I"⟩, 8), (⟨"CountLearners$HiddenStates", "bestStart", "()I"⟩, 8), (⟨"CountLearners$HiddenStates", "sumInto", "(I)J"⟩, 8), (⟨"CountLearners$HiddenStates", "countBestPath", "(I)V"⟩, 8), (⟨"CountLearners$WordRules", "countSet", "(I)V"⟩, 4), (⟨"CountLearners$WordRules", "countPairs", "(II)V"⟩, 4)]
theorem lw_r1 : ∀ q ∈ lw_privs_1, lw_okq q := List.forall_mem_cons.mpr ⟨lw_p0, List.forall_mem_cons.mpr ⟨lw_p1, List.forall_mem_cons.mpr ⟨lw_p2, List.forall_mem_cons.mpr ⟨lw_p3, List.forall_mem_cons.mpr ⟨lw_p4, List.forall_mem_cons.mpr ⟨lw_p5, List.forall_mem_cons.mpr ⟨lw_p6, List.forall_mem_cons.mpr ⟨lw_p7, List.forall_mem_cons.mpr ⟨lw_p8, List.forall_mem_cons.mpr ⟨lw_p9, List.forall_mem_cons.mpr ⟨lw_p10, List.forall_mem_cons.mpr ⟨lw_p11, List.forall_mem_cons.mpr ⟨lw_p12, List.forall_mem_cons.mpr ⟨lw_p13, List.forall_mem_cons.mpr ⟨lw_p14, List.forall_mem_cons.mpr ⟨lw_p15, fun _ h => absurd h List.not_mem_nil⟩⟩⟩⟩⟩⟩⟩⟩⟩⟩⟩⟩⟩⟩⟩⟩
theorem lw_p16 : lw_okq (⟨"CountLearners$WordRules", "keyOf", "(I)I"⟩, 4) := ⟨⟨by decide +kernel, by decide +kernel⟩, List.mem_of_getElem? (i := 116) (by decide +kernel), List.mem_of_getElem? (i := 481) (by decide +kernel), List.mem_of_getElem? (i := 482) (by decide +kernel)⟩
theorem lw_p17 : lw_okq (⟨"CountLearners$WordRules", "insert", "(I)V"⟩, 4) := ⟨⟨by decide +kernel, by decide +kernel⟩, List.mem_of_getElem? (i := 116) (by decide +kernel), List.mem_of_getElem? (i := 485) (by decide +kernel), List.mem_of_getElem? (i := 486) (by decide +kernel)⟩
theorem lw_p18 : lw_okq (⟨"java/lang/Throwable", "fillInStackTrace", "(I)Ljava/lang/Throwable;"⟩, 6) := ⟨⟨by decide +kernel, by decide +kernel⟩, List.mem_of_getElem? (i := 564) (by decide +kernel), List.mem_of_getElem? (i := 562) (by decide +kernel), List.mem_of_getElem? (i := 563) (by decide +kernel)⟩
theorem lw_p19 : lw_okq (⟨"CountLearnersModel", "forget", "()V"⟩, 25) := ⟨⟨by decide +kernel, by decide +kernel⟩, List.mem_of_getElem? (i := 605) (by decide +kernel), List.mem_of_getElem? (i := 701) (by decide +kernel), List.mem_of_getElem? (i := 702) (by decide +kernel)⟩
theorem lw_p20 : lw_okq (⟨"CountLearnersModel", "isRow", "(I)Z"⟩, 25) := ⟨⟨by decide +kernel, by decide +kernel⟩, List.mem_of_getElem? (i := 605) (by decide +kernel), List.mem_of_getElem? (i := 709) (by decide +kernel), List.mem_of_getElem? (i := 710) (by decide +kernel)⟩
theorem lw_p21 : lw_okq (⟨"CountLearnersModel", "rowsOf", "(I)I"⟩, 25) := ⟨⟨by decide +kernel, by decide +kernel⟩, List.mem_of_getElem? (i := 605) (by decide +kernel), List.mem_of_getElem? (i := 725) (by decide +kernel), List.mem_of_getElem? (i := 726) (by decide +kernel)⟩
theorem lw_p22 : lw_okq (⟨"CountLearnersModel", "asLabel", "(I)I"⟩, 25) := ⟨⟨by decide +kernel, by decide +kernel⟩, List.mem_of_getElem? (i := 605) (by decide +kernel), List.mem_of_getElem? (i := 729) (by decide +kernel), List.mem_of_getElem? (i := 730) (by decide +kernel)⟩
theorem lw_p23 : lw_okq (⟨"CountLearnersModel", "timesOf", "(II)I"⟩, 25) := ⟨⟨by decide +kernel, by decide +kernel⟩, List.mem_of_getElem? (i := 605) (by decide +kernel), List.mem_of_getElem? (i := 733) (by decide +kernel), List.mem_of_getElem? (i := 734) (by decide +kernel)⟩
theorem lw_p24 : lw_okq (⟨"CountLearnersModel", "shareBelow", "(I)J"⟩, 25) := ⟨⟨by decide +kernel, by decide +kernel⟩, List.mem_of_getElem? (i := 605) (by decide +kernel), List.mem_of_getElem? (i := 742) (by decide +kernel), List.mem_of_getElem? (i := 743) (by decide +kernel)⟩
theorem lw_p25 : lw_okq (⟨"CountLearnersModel", "shareAbove", "(II)J"⟩, 25) := ⟨⟨by decide +kernel, by decide +kernel⟩, List.mem_of_getElem? (i := 605) (by decide +kernel), List.mem_of_getElem? (i := 747) (by decide +kernel), List.mem_of_getElem? (i := 748) (by decide +kernel)⟩
theorem lw_p26 : lw_okq (⟨"CountLearnersModel", "weighRow", "(II)V"⟩, 25) := ⟨⟨by decide +kernel, by decide +kernel⟩, List.mem_of_getElem? (i := 605) (by decide +kernel), List.mem_of_getElem? (i := 761) (by decide +kernel), List.mem_of_getElem? (i := 762) (by decide +kernel)⟩
theorem lw_p27 : lw_okq (⟨"CountLearnersModel", "bestOf", "(I)I"⟩, 25) := ⟨⟨by decide +kernel, by decide +kernel⟩, List.mem_of_getElem? (i := 605) (by decide +kernel), List.mem_of_getElem? (i := 769) (by decide +kernel), List.mem_of_getElem? (i := 770) (by decide +kernel)⟩
theorem lw_p28 : lw_okq (⟨"CountLearnersModel", "round", "()Z"⟩, 25) := ⟨⟨by decide +kernel, by decide +kernel⟩, List.mem_of_getElem? (i := 605) (by decide +kernel), List.mem_of_getElem? (i := 780) (by decide +kernel), List.mem_of_getElem? (i := 781) (by decide +kernel)⟩
theorem lw_p29 : lw_okq (⟨"CountLearnersModel", "table", "(II)V"⟩, 25) := ⟨⟨by decide +kernel, by decide +kernel⟩, List.mem_of_getElem? (i := 605) (by decide +kernel), List.mem_of_getElem? (i := 799) (by decide +kernel), List.mem_of_getElem? (i := 800) (by decide +kernel)⟩
theorem lw_p30 : lw_okq (⟨"CountLearnersModel", "first", "()V"⟩, 25) := ⟨⟨by decide +kernel, by decide +kernel⟩, List.mem_of_getElem? (i := 605) (by decide +kernel), List.mem_of_getElem? (i := 803) (by decide +kernel), List.mem_of_getElem? (i := 804) (by decide +kernel)⟩
theorem lw_p31 : lw_okq (⟨"CountLearnersModel", "count", "(II)I"⟩, 25) := ⟨⟨by decide +kernel, by decide +kernel⟩, List.mem_of_getElem? (i := 605) (by decide +kernel), List.mem_of_getElem? (i := 807) (by decide +kernel), List.mem_of_getElem? (i := 808) (by decide +kernel)⟩
def lw_privs_2 : List (MethodName × Nat) := [(⟨"CountLearners$WordRules", "keyOf", "(I)I"⟩, 4), (⟨"CountLearners$WordRules", "insert", "(I)V"⟩, 4), (⟨"java/lang/Throwable", "fillInStackTrace", "(I)Ljava/lang/Throwable;"⟩, 6), (⟨"CountLearnersModel", "forget", "()V"⟩, 25), (⟨"CountLearnersModel", "isRow", "(I)Z"⟩, 25), (⟨"CountLearnersModel", "rowsOf", "(I)I"⟩, 25), (⟨"CountLearnersModel", "asLabel", "(I)I"⟩, 25), (⟨"CountLearnersModel", "timesOf", "(II)I"⟩, 25), (⟨"CountLearnersModel", "shareBelow", "(I)J"⟩, 25), (⟨"CountLearnersModel", "shareAbove", "(II)J"⟩, 25), (⟨"CountLearnersModel", "weighRow", "(II)V"⟩, 25), (⟨"CountLearnersModel", "bestOf", "(I)I"⟩, 25), (⟨"CountLearnersModel", "round", "()Z"⟩, 25), (⟨"CountLearnersModel", "table", "(II)V"⟩, 25), (⟨"CountLearnersModel", "first", "()V"⟩, 25), (⟨"CountLearnersModel", "count", "(II)I"⟩, 25)]
theorem lw_r2 : ∀ q ∈ lw_privs_2, lw_okq q := List.forall_mem_cons.mpr ⟨lw_p16, List.forall_mem_cons.mpr ⟨lw_p17, List.forall_mem_cons.mpr ⟨lw_p18, List.forall_mem_cons.mpr ⟨lw_p19, List.forall_mem_cons.mpr ⟨lw_p20, List.forall_mem_cons.mpr ⟨lw_p21, List.forall_mem_cons.mpr ⟨lw_p22, List.forall_mem_cons.mpr ⟨lw_p23, List.forall_mem_cons.mpr ⟨lw_p24, List.forall_mem_cons.mpr ⟨lw_p25, List.forall_mem_cons.mpr ⟨lw_p26, List.forall_mem_cons.mpr ⟨lw_p27, List.forall_mem_cons.mpr ⟨lw_p28, List.forall_mem_cons.mpr ⟨lw_p29, List.forall_mem_cons.mpr ⟨lw_p30, List.forall_mem_cons.mpr ⟨lw_p31, fun _ h => absurd h List.not_mem_nil⟩⟩⟩⟩⟩⟩⟩⟩⟩⟩⟩⟩⟩⟩⟩⟩
theorem lw_p32 : lw_okq (⟨"CountLearnersModel", "above", "(I)V"⟩, 25) := ⟨⟨by decide +kernel, by decide +kernel⟩, List.mem_of_getElem? (i := 605) (by decide +kernel), List.mem_of_getElem? (i := 811) (by decide +kernel), List.mem_of_getElem? (i := 812) (by decide +kernel)⟩
theorem lw_p33 : lw_okq (⟨"CountLearnersModel", "bestPathOf", "(I)I"⟩, 25) := ⟨⟨by decide +kernel, by decide +kernel⟩, List.mem_of_getElem? (i := 605) (by decide +kernel), List.mem_of_getElem? (i := 832) (by decide +kernel), List.mem_of_getElem? (i := 833) (by decide +kernel)⟩
theorem lw_p34 : lw_okq (⟨"CountLearnersModel", "paths", "(I)I"⟩, 25) := ⟨⟨by decide +kernel, by decide +kernel⟩, List.mem_of_getElem? (i := 605) (by decide +kernel), List.mem_of_getElem? (i := 836) (by decide +kernel), List.mem_of_getElem? (i := 837) (by decide +kernel)⟩
theorem lw_p35 : lw_okq (⟨"CountLearnersModel", "weighPath", "(II)J"⟩, 25) := ⟨⟨by decide +kernel, by decide +kernel⟩, List.mem_of_getElem? (i := 605) (by decide +kernel), List.mem_of_getElem? (i := 840) (by decide +kernel), List.mem_of_getElem? (i := 841) (by decide +kernel)⟩
theorem lw_p36 : lw_okq (⟨"CountLearnersModel", "stateOf", "(III)I"⟩, 25) := ⟨⟨by decide +kernel, by decide +kernel⟩, List.mem_of_getElem? (i := 605) (by decide +kernel), List.mem_of_getElem? (i := 844) (by decide +kernel), List.mem_of_getElem? (i := 845) (by decide +kernel)⟩
theorem lw_p37 : lw_okq (⟨"CountLearnersModel", "sum", "(III)J"⟩, 25) := ⟨⟨by decide +kernel, by decide +kernel⟩, List.mem_of_getElem? (i := 605) (by decide +kernel), List.mem_of_getElem? (i := 852) (by decide +kernel), List.mem_of_getElem? (i := 853) (by decide +kernel)⟩
theorem lw_p38 : lw_okq (⟨"CountLearnersModel", "learnt", "()Z"⟩, 25) := ⟨⟨by decide +kernel, by decide +kernel⟩, List.mem_of_getElem? (i := 605) (by decide +kernel), List.mem_of_getElem? (i := 864) (by decide +kernel), List.mem_of_getElem? (i := 865) (by decide +kernel)⟩
theorem lw_p39 : lw_okq (⟨"CountLearnersModel", "countPath", "(II)V"⟩, 25) := ⟨⟨by decide +kernel, by decide +kernel⟩, List.mem_of_getElem? (i := 605) (by decide +kernel), List.mem_of_getElem? (i := 868) (by decide +kernel), List.mem_of_getElem? (i := 869) (by decide +kernel)⟩
theorem lw_p40 : lw_okq (⟨"CountLearnersModel", "rules", "()I"⟩, 25) := ⟨⟨by decide +kernel, by decide +kernel⟩, List.mem_of_getElem? (i := 605) (by decide +kernel), List.mem_of_getElem? (i := 876) (by decide +kernel), List.mem_of_getElem? (i := 877) (by decide +kernel)⟩
theorem lw_p41 : lw_okq (⟨"CountLearnersModel", "isRule", "(I)Z"⟩, 25) := ⟨⟨by decide +kernel, by decide +kernel⟩, List.mem_of_getElem? (i := 605) (by decide +kernel), List.mem_of_getElem? (i := 880) (by decide +kernel), List.mem_of_getElem? (i := 881) (by decide +kernel)⟩
theorem lw_p42 : lw_okq (⟨"CountLearnersModel", "support", "(II)I"⟩, 25) := ⟨⟨by decide +kernel, by decide +kernel⟩, List.mem_of_getElem? (i := 605) (by decide +kernel), List.mem_of_getElem? (i := 884) (by decide +kernel), List.mem_of_getElem? (i := 885) (by decide +kernel)⟩
theorem lw_p43 : lw_okq (⟨"CountLearnersModel", "has", "(II)Z"⟩, 25) := ⟨⟨by decide +kernel, by decide +kernel⟩, List.mem_of_getElem? (i := 605) (by decide +kernel), List.mem_of_getElem? (i := 888) (by decide +kernel), List.mem_of_getElem? (i := 889) (by decide +kernel)⟩
theorem lw_p44 : lw_okq (⟨"CountLearnersModel", "ruleAt", "(I)I"⟩, 25) := ⟨⟨by decide +kernel, by decide +kernel⟩, List.mem_of_getElem? (i := 605) (by decide +kernel), List.mem_of_getElem? (i := 892) (by decide +kernel), List.mem_of_getElem? (i := 893) (by decide +kernel)⟩
theorem lw_p45 : lw_okq (⟨"CountLearnersModel", "isAhead", "(II)Z"⟩, 25) := ⟨⟨by decide +kernel, by decide +kernel⟩, List.mem_of_getElem? (i := 605) (by decide +kernel), List.mem_of_getElem? (i := 896) (by decide +kernel), List.mem_of_getElem? (i := 897) (by decide +kernel)⟩
def lw_privs_3 : List (MethodName × Nat) := [(⟨"CountLearnersModel", "above", "(I)V"⟩, 25), (⟨"CountLearnersModel", "bestPathOf", "(I)I"⟩, 25), (⟨"CountLearnersModel", "paths", "(I)I"⟩, 25), (⟨"CountLearnersModel", "weighPath", "(II)J"⟩, 25), (⟨"CountLearnersModel", "stateOf", "(III)I"⟩, 25), (⟨"CountLearnersModel", "sum", "(III)J"⟩, 25), (⟨"CountLearnersModel", "learnt", "()Z"⟩, 25), (⟨"CountLearnersModel", "countPath", "(II)V"⟩, 25), (⟨"CountLearnersModel", "rules", "()I"⟩, 25), (⟨"CountLearnersModel", "isRule", "(I)Z"⟩, 25), (⟨"CountLearnersModel", "support", "(II)I"⟩, 25), (⟨"CountLearnersModel", "has", "(II)Z"⟩, 25), (⟨"CountLearnersModel", "ruleAt", "(I)I"⟩, 25), (⟨"CountLearnersModel", "isAhead", "(II)Z"⟩, 25)]
theorem lw_r3 : ∀ q ∈ lw_privs_3, lw_okq q := List.forall_mem_cons.mpr ⟨lw_p32, List.forall_mem_cons.mpr ⟨lw_p33, List.forall_mem_cons.mpr ⟨lw_p34, List.forall_mem_cons.mpr ⟨lw_p35, List.forall_mem_cons.mpr ⟨lw_p36, List.forall_mem_cons.mpr ⟨lw_p37, List.forall_mem_cons.mpr ⟨lw_p38, List.forall_mem_cons.mpr ⟨lw_p39, List.forall_mem_cons.mpr ⟨lw_p40, List.forall_mem_cons.mpr ⟨lw_p41, List.forall_mem_cons.mpr ⟨lw_p42, List.forall_mem_cons.mpr ⟨lw_p43, List.forall_mem_cons.mpr ⟨lw_p44, List.forall_mem_cons.mpr ⟨lw_p45, fun _ h => absurd h List.not_mem_nil⟩⟩⟩⟩⟩⟩⟩⟩⟩⟩⟩⟩⟩⟩
def lw_privs : List (MethodName × Nat) := lw_privs_1 ++ (lw_privs_2 ++ (lw_privs_3))
def lw_tbl : List Cond := k2_sels lw_privs ++ tables_1
theorem lw_privs_ok : ∀ q ∈ lw_privs, lw_okq q := by
  show ∀ q ∈ lw_privs_1 ++ (lw_privs_2 ++ (lw_privs_3)), lw_okq q
  exact List.forall_mem_append.mpr ⟨lw_r1, List.forall_mem_append.mpr ⟨lw_r2, lw_r3⟩⟩
-- ===== end of PART A; then your names; then what follows =====
end
section
/-! ===== BEGIN words of one list among another's, by their places ===== -/
theorem goodIn_r {big : List Cond} (ws : List Cond) (ps : List Nat) (hp : ws = ps.filterMap (fun i => big[i]?)) (h : ws.all goodWord = true) : GoodIn big ws := by
  intro w hw
  have h1 := List.all_eq_true.mp h w hw
  rw [hp] at hw
  obtain ⟨i, -, hi⟩ := List.mem_filterMap.mp hw
  have hm : w ∈ big := by first | exact List.mem_of_getElem? hi | exact List.getElem?_mem hi
  exact ⟨hm, good_of_word h1⟩
theorem goodIn_app {big a b : List Cond} (ha : GoodIn big a) (hb : GoodIn big b) : GoodIn big (a ++ b) := fun w h => (List.mem_append.mp h).elim (ha w) (hb w)
theorem goodIn_ca {big a b : List Cond} {c : Cond} (ha : GoodIn big (c :: a)) (hb : GoodIn big b) : GoodIn big (c :: (a ++ b)) := fun w h => (List.mem_cons.mp h).elim (fun e => ha w (List.mem_cons.mpr (Or.inl e))) (fun h => (List.mem_append.mp h).elim (fun h => ha w (List.mem_cons.mpr (Or.inr h))) (hb w))
theorem goodIn_sub {big ws : List Cond} (hm : ∀ w ∈ ws, w ∈ big) (h : ws.all goodWord = true) : GoodIn big ws := fun w hw => ⟨hm w hw, good_of_word (List.all_eq_true.mp h w hw)⟩
/-! ===== END ===== -/

/-! ===== BEGIN exceptions that leave a method, and their catching by the caller (launches without stack traces) ===== -/
section VXA
/-! The laws vx_back, vx_callV, vx_callS, vx_callSW, vx_throw0, vx_throwS follow proofs of the library, with one case more: JvmDerived/Free/Laws.lean (Back.of_free), Shelf42/LK1.lean (callV, callS), Shelf/KitTraced.lean (throwNew0V, throwNewS). -/
/-- where a method has thrown q: the class by its name, the cell, what was written, the world -/
def vx_T (XC : String → State → State → Prop) (st : State) (q : Addr) (t : State) (mc ms : Nat) (free : Addr → Prop) : Prop :=
  ∃ (E : String) (ce : Cell) (L : List Loc), XC E st t ∧ t.heap[q]? = some ce ∧ ce.vm = .none ∧ st.vm.findClass E = some ce.cls ∧ st.WarmedH t.vm ∧ st.sameButNew ({ t with vm := st.vm } : State) L mc ms ∧ ∀ z ∈ L, free z.base
def vx_Q (Qc : Array Value → State → Outcome → State → Prop) (XC : String → State → State → Prop) (mc ms : Nat) (free : Addr → Prop) : Array Value → State → Outcome → State → Prop := fun a st o t =>
  (Qc a st o t ∧ ∃ L, FrameEnd st o t L mc ms ∧ ∀ q ∈ L, free q.base) ∨ ∃ q, o = .threw q ∧ vx_T XC st q t mc ms free
/-- a callee that returns or throws -/
def vx_Met (l : Launch) (y : MethodName) (ws : List Cond) (rm : Room) (Pc : Array Value → State → Prop) (Qc : Array Value → State → Outcome → State → Prop) (XC : String → State → State → Prop) (mc ms : Nat) (free : Addr → Prop) : Prop :=
  MetFree l y (headSpec ws rm) Pc (fun _ _ _ _ _ => True) (vx_Q Qc XC mc ms free)
def vx_Post (XC : String → State → State → Prop) (mc ms : Nat) (free : Addr → Prop) : Pt → Array Value → Addr → Pt → Prop := fun A a q B =>
  ∃ (g : JFrame) (mk : MethodId) (t : State) (L : List Loc) (E : String) (ce : Cell), B.U.heap = t.heap ∧ B.U.vm = t.vm ∧ XC E (A.U.calling g mk a) t ∧ t.heap[q]? = some ce ∧ ce.vm = .none ∧ A.U.vm.findClass E = some ce.cls ∧ B.locs = A.locs ++ L ∧ (∀ z ∈ L, free z.base) ∧ B.cells = A.cells + mc ∧ B.slots = A.slots + ms
def vx_Back (l : Launch) (R : Room) (p : Program) (e : Env) (below : List Frame) (s : State) (sargs : Array Value) (y : MethodName) (len W9 : Nat)
    (Pre : Pt → Array Value → Prop) (Post : Pt → Array Value → Option Value → Pt → Prop) (PostX : Pt → Array Value → Addr → Pt → Prop) : Prop :=
  ∀ (m : MethodId) (meth : Method) (c : Code) (A : Pt) (g : JFrame) (ig : Instr) (mk : MethodId) (a : Array Value),
    Stand p l e R s m sargs below meth c A.U A.locs A.cells A.slots → g.method = m → g.locals.size = c.maxLocals → decode c.code g.pc = .ok (ig, len) →
    2 * g.monitorRoom + (g.stack.map fun v => v.category).sum ≤ W9 → A.U.methodNamed? y = some mk → Pre A a →
    (∃ (v : Option Value) (B : Pt), Stand p l e R s m sargs below meth c B.U B.locs B.cells B.slots ∧ Post A a v B ∧
      Steps p.tables e below (doInvoke e (A.U.setTop g) [] mk a).1 (B.U.setTop { g with pc := g.pc + len, stack := v.toList ++ g.stack })) ∨
    (∃ (q : Addr) (B : Pt), Stand p l e R s m sargs below meth c B.U B.locs B.cells B.slots ∧ PostX A a q B ∧
      Steps p.tables e below (doInvoke e (A.U.setTop g) [] mk a).1 ((B.U.setTop g).pushFrame (.throwing q)))
section Payer
variable {l : Launch} {R : Room} {p : Program} {e : Env} {below : List Frame} {s : State} {sargs : Array Value} {y : MethodName} {len W9 : Nat}
theorem vx_back {ws : List Cond} {rm : Room} {Pc : Array Value → State → Prop} {Qc : Array Value → State → Outcome → State → Prop} {XC : String → State → State → Prop} {mc ms : Nat} {free : Addr → Prop} {bytes : ByteArray} {maxL : Nat} {ret : Option FieldType}
    (hM : vx_Met l y ws rm Pc Qc XC mc ms free) (hblind : FrameBlind Pc) (hrc : rm.cells = mc) (hrs : rm.slots = ms)
    (hframes : rm.frames + 1 ≤ R.frames) (hlocals : W9 + (maxL + 11) + rm.locals ≤ R.locals)
    (hws : ∀ w ∈ ws, ∀ a' U, s.WarmedH U.vm → w.before a' U = true) (hcode : Cond.code y bytes maxL ret ∈ ws) (hinit : ∀ a' U, s.WarmedH U.vm → (Cond.initialized y.cls).before a' U = true) :
    vx_Back l R p e below s sargs y len W9 (PreOf R mc ms Pc) (PostOf Qc mc ms free) (vx_Post XC mc ms free) := by
  intro m meth c A g ig mk a X hg hsize hdg hW hn hp
  have h1 : (headSpec ws rm).pre.before a A.U = true := atoms_intro fun w hw => hws w hw _ _ X.warmed
  have h2 : (Cond.code y bytes maxL ret).before a A.U = true := hws _ hcode _ _ X.warmed
  have h3 : (Cond.initialized y.cls).before a A.U = true := hinit _ _ X.warmed
  have h4 : A.cells + (headSpec ws rm).room.cells ≤ R.cells := by rw [show (headSpec ws rm).room.cells = mc from hrc]; exact hp.1
  have h5 : A.slots + (headSpec ws rm).room.slots ≤ R.slots := by rw [show (headSpec ws rm).room.slots = ms from hrs]; exact hp.2.1
  have hPc : Pc a (A.U.calling g mk a) := hblind _ _ _ _ hp.2.2
  obtain ⟨U, Ls, c0, s0⟩ := A
  dsimp only [Pt.U, Pt.locs, Pt.cells, Pt.slots] at h1 h2 h3 h4 h5 X hn hPc ⊢
  obtain ⟨methY, cY, hmY, hcY, -, hlY, -, -, -, -⟩ := Cond.code_spec hn h2
  obtain ⟨kY, hkY, -⟩ := className_of_methodNamed hn
  have hinitY : kY.init = .initialized := Cond.initialized_spec (findClass_of_methodNamed hn) hkY h3
  have h : At U g.method c below := by rw [hg]; exact X.here
  have hlocals9 : W9 + (maxL + 11) + (headSpec ws rm).room.locals ≤ R.locals := hlocals
  have happ : (headSpec ws rm).appliesLoose y e.platform (U.calling g mk a) = true :=
    Spec.appliesLoose_calling (g := g) h hdg hn hkY hinitY
      (X.room_calling (g := g) (R' := (headSpec ws rm).room) hsize hmY hcY hframes (by rw [hlY]; omega) h4 h5) h1
  obtain ⟨mid, hmid⟩ := h.above
  have hfr : (U.setTop g).frames = (.java g :: mid) ++ below := by rw [State.frames_setTop' g h.top, hmid]; rfl
  obtain ⟨o, s₂, hsteps, -, hend, hq⟩ := Steps.callFree hM p X.admits X.cas X.clock (acts := []) hfr happ hPc trivial
  have hq' : vx_Q Qc XC mc ms free a (U.calling g mk a) o s₂ := hq
  rw [State.frames_setTop' g h.top] at hend
  obtain ⟨g₀, hg0⟩ := Option.isSome_iff_exists.mp h.top
  obtain ⟨r, hr⟩ := State.topJava?_eq_some.mp hg0
  have hr' : (({ U with heap := s₂.heap, slotsUsed := s₂.slotsUsed } : State).setVm s₂.vm).frames = .java g₀ :: r := hr
  rcases hq' with ⟨hqc, L, hfe, hL⟩ | ⟨q, rfl, E, ce, L, hx, hce, hcv, hcl, hW₂, hsm, hL⟩
  · obtain ⟨⟨v, rfl⟩, hW₂, e2, q2, q3, q4, q5, q6⟩ := id hfe
    have e3 : s₂ = ({ (U.calling g mk a).setFrames s₂.frames with heap := s₂.heap, slotsUsed := s₂.slotsUsed } : State).setVm s₂.vm := by
      have : s₂ = ({ s₂ with vm := (U.calling g mk a).vm } : State).setVm s₂.vm := rfl
      rw [e2] at this
      exact this
    obtain ⟨c₂, i₂, len₂, hc₂, hd₂, hf₂⟩ := hend
    have hW' : U.WarmedH s₂.vm := hW₂
    have hcc : c₂ = c := by
      have h1 : s₂.code? g.method = U.code? g.method := by
        rw [State.code?_eq, State.code?_eq, hW'.alike.method?]
      exact Option.some.inj (hc₂.symm.trans (h1.trans h.code))
    subst hcc
    have hlen : len₂ = len := by rw [hdg] at hd₂; cases hd₂; rfl
    subst hlen
    have hs₂ : s₂ = (({ U with heap := s₂.heap, slotsUsed := s₂.slotsUsed } : State).setVm s₂.vm).setTop { g with pc := g.pc + len₂, stack := v.toList ++ g.stack } := by
      refine e3.trans ?_
      rw [hf₂, State.calling_eq h.top, State.setFrames_setFrames, State.setTop_of_frames _ hr', hr]
      rfl
    have hsame : U.sameButNew ({ U with heap := s₂.heap, slotsUsed := s₂.slotsUsed } : State) L mc ms := by
      refine ⟨?_, q2, q3, q4, q5, q6⟩
      obtain ⟨t, ht, -⟩ := State.frames_cons hr
      show ({ U with heap := s₂.heap, slotsUsed := s₂.slotsUsed } : State) = { U.setFrames U.frames with heap := s₂.heap, slotsUsed := s₂.slotsUsed }
      rw [State.setFrames_self ht]
    subst hg
    refine Or.inl ⟨v, ⟨(({ U with heap := s₂.heap, slotsUsed := s₂.slotsUsed } : State).setVm s₂.vm), Ls ++ L, c0 + mc, s0 + ms⟩,
      ⟨X.admits, X.cas, X.clock, X.frames, X.room, X.hears, X.method, X.code, (X.here.setHeapUsed s₂.heap s₂.slotsUsed).setVm hW'.alike, X.tail, State.WarmedH.trans X.warmed hW', X.limits, X.bytes, X.same.trans (hsame.setVm s.vm)⟩,
      ⟨g, mk, s₂, L, rfl, rfl, hqc, rfl, hL, rfl, rfl⟩, ?_⟩
    show Steps p.tables e below _ ((({ U with heap := s₂.heap, slotsUsed := s₂.slotsUsed } : State).setVm s₂.vm).setTop { g with pc := g.pc + len₂, stack := v.toList ++ g.stack })
    rw [← hs₂]
    exact hsteps
  · obtain ⟨e2, q2, q3, q4, q5, q6⟩ := id hsm
    have e3 : s₂ = ({ (U.calling g mk a).setFrames s₂.frames with heap := s₂.heap, slotsUsed := s₂.slotsUsed } : State).setVm s₂.vm := by
      have : s₂ = ({ s₂ with vm := (U.calling g mk a).vm } : State).setVm s₂.vm := rfl
      rw [e2] at this
      exact this
    have hf₂ : s₂.frames = .throwing q :: .java g :: U.frames.tail := hend
    have hW' : U.WarmedH s₂.vm := hW₂
    have hs₂ : s₂ = ((({ U with heap := s₂.heap, slotsUsed := s₂.slotsUsed } : State).setVm s₂.vm).setTop g).pushFrame (.throwing q) := by
      refine e3.trans ?_
      rw [hf₂, State.calling_eq h.top, State.setFrames_setFrames, State.pushFrame, State.frames_setTop _ hr', State.setTop_of_frames _ hr', State.setFrames_setFrames, hr]
      rfl
    have hsame : U.sameButNew ({ U with heap := s₂.heap, slotsUsed := s₂.slotsUsed } : State) L mc ms := by
      refine ⟨?_, q2, q3, q4, q5, q6⟩
      obtain ⟨t, ht, -⟩ := State.frames_cons hr
      show ({ U with heap := s₂.heap, slotsUsed := s₂.slotsUsed } : State) = { U.setFrames U.frames with heap := s₂.heap, slotsUsed := s₂.slotsUsed }
      rw [State.setFrames_self ht]
    subst hg
    refine Or.inr ⟨q, ⟨(({ U with heap := s₂.heap, slotsUsed := s₂.slotsUsed } : State).setVm s₂.vm), Ls ++ L, c0 + mc, s0 + ms⟩,
      ⟨X.admits, X.cas, X.clock, X.frames, X.room, X.hears, X.method, X.code, (X.here.setHeapUsed s₂.heap s₂.slotsUsed).setVm hW'.alike, X.tail, State.WarmedH.trans X.warmed hW', X.limits, X.bytes, X.same.trans (hsame.setVm s.vm)⟩,
      ⟨g, mk, s₂, L, E, ce, rfl, rfl, hx, hce, hcv, hcl, rfl, hL, rfl, rfl⟩, ?_⟩
    show Steps p.tables e below _ (((({ U with heap := s₂.heap, slotsUsed := s₂.slotsUsed } : State).setVm s₂.vm).setTop g).pushFrame (.throwing q))
    rw [← hs₂]
    exact hsteps
end Payer
section Calls
variable {p : Program} {l : Launch} {e : Env} {R : Room} {s : State} {m : MethodId} {args : Array Value} {below : List Frame} {meth : Method} {c : Code} {T : State} {locs : List Loc} {cells slots : Nat}
theorem vx_callV (X : Stand p l e R s m args below meth c T locs cells slots) (hexec : p.tables.exec = Jvm.exec) {own C : String} {index : Nat} {y : MethodName} {bytes : ByteArray} {maxL : Nat} {ret : Option FieldType}
    (hown : s.vm.findClass own = some m.cls) (hlink : (Cond.methodLink own index y).before args s = true) (hinst : (Cond.instanceMethod y).before args s = true) (hsel : (Cond.selects C y y).before args s = true)
    (hcode : (Cond.code y bytes maxL ret).before args s = true) (hy : y.cls ≠ "java/lang/invoke/MethodHandle" ∧ y.cls ≠ "java/lang/invoke/VarHandle")
    {W9 : Nat} {Pre : Pt → Array Value → Prop} {Post : Pt → Array Value → Option Value → Pt → Prop} {PostX : Pt → Array Value → Addr → Pt → Prop} (hK : vx_Back l R p e below s args y 3 W9 Pre Post PostX)
    {b : Addr} {cellB : Cell} (hcell : T.heap[b]? = some cellB) (hobj : cellB.vm.isStatics = false) (hcls : s.vm.findClass C = some cellB.cls)
    {g : JFrame} (hg : g.method = m) (hsize : g.locals.size = c.maxLocals) {argsL rest : List Value} (hlen : ∀ sig, parseMethodDescriptor y.desc = some sig → argsL.length = sig.parameters.length)
    (hstack : g.stack = argsL.reverse ++ .ref b :: rest) (hW : 2 * g.monitorRoom + (rest.map fun v => v.category).sum ≤ W9) (hdg : decode c.code g.pc = .ok (.invokevirtual index, 3))
    (hpre : ∀ vm₁, s.WarmedH vm₁ → Pre ⟨T.setVm vm₁, locs, cells, slots⟩ (Value.ref b :: argsL).toArray) :
    (∃ (v : Option Value) (vm₁ : Vm) (B : Pt), s.WarmedH vm₁ ∧ Stand p l e R s m args below meth c B.U B.locs B.cells B.slots ∧ Post ⟨T.setVm vm₁, locs, cells, slots⟩ (Value.ref b :: argsL).toArray v B ∧
      ∀ target, Steps p.tables e below (B.U.setTop { g with pc := g.pc + 3, stack := v.toList ++ rest }) target → Steps p.tables e below (T.setTop g) target) ∨
    (∃ (q : Addr) (vm₁ : Vm) (B : Pt), s.WarmedH vm₁ ∧ Stand p l e R s m args below meth c B.U B.locs B.cells B.slots ∧ PostX ⟨T.setVm vm₁, locs, cells, slots⟩ (Value.ref b :: argsL).toArray q B ∧
      Steps p.tables e below (T.setTop g) ((B.U.setTop { g with stack := rest }).pushFrame (.throwing q))) := by
  obtain ⟨mk, methM, hnamed, hmethM, hstM, habM⟩ := Cond.instanceMethod_spec hinst
  obtain ⟨methM', cM, hmethM', -, -, -, -, -, -, hsigM⟩ := Cond.code_spec hnamed hcode
  cases hmethM.symm.trans hmethM'
  obtain ⟨c2, r2, m2, q1, q2, q3, q4, kP, hkP, hkPi⟩ := Cond.selects_spec hsel
  cases hcls.symm.trans q1
  cases (State.methodFound?_of_named hnamed hy).symm.trans q2
  cases hnamed.symm.trans q3
  have hselP : selectMethod e.platform s.vm cellB.cls mk = .method mk := by rw [Launch.admits_selectMethod X.admits]; exact q4
  obtain ⟨vm₁, X₁, hstep₁⟩ := X.invokevirtual hexec hown hlink hnamed hmethM hstM hkP hkPi hy (a := b) (cell := cellB) hcell
    (fun z h => by rw [h] at hobj; cases hobj) hselP hmethM habM hkP hkPi (g := g) hg (argsL := argsL) (rest := rest) (hlen _ hsigM) hstack hdg
  rcases hK m meth c ⟨T.setVm vm₁, locs, cells, slots⟩ { g with stack := rest } (.invokevirtual index) mk (Value.ref b :: argsL).toArray X₁ hg hsize hdg hW (X₁.named hnamed) (hpre vm₁ X₁.warmed) with ⟨v, B, X', hpost, hsteps⟩ | ⟨q, B, X', hpost, hsteps⟩
  · exact Or.inl ⟨v, vm₁, B, X₁.warmed, X', hpost, fun target h => hstep₁ _ fun acts => by rw [doInvoke_state]; exact hsteps.trans h⟩
  · exact Or.inr ⟨q, vm₁, B, X₁.warmed, X', hpost, hstep₁ _ fun acts => by rw [doInvoke_state]; exact hsteps⟩
theorem vx_callS (X : Stand p l e R s m args below meth c T locs cells slots) (hexec : p.tables.exec = Jvm.exec) {own : String} {index : Nat} {y : MethodName} {bytes : ByteArray} {maxL : Nat} {ret : Option FieldType}
    (hown : s.vm.findClass own = some m.cls) (hlink : (Cond.methodLink own index y).before args s = true) (hstat : (Cond.static y).before args s = true) (hinit : (Cond.initialized y.cls).before args s = true)
    (hcode : (Cond.code y bytes maxL ret).before args s = true) (hy : y.cls ≠ "java/lang/invoke/MethodHandle" ∧ y.cls ≠ "java/lang/invoke/VarHandle")
    {W9 : Nat} {Pre : Pt → Array Value → Prop} {Post : Pt → Array Value → Option Value → Pt → Prop} {PostX : Pt → Array Value → Addr → Pt → Prop} (hK : vx_Back l R p e below s args y 3 W9 Pre Post PostX)
    {g : JFrame} (hg : g.method = m) (hsize : g.locals.size = c.maxLocals) {argsL rest : List Value} (hlen : ∀ sig, parseMethodDescriptor y.desc = some sig → argsL.length = sig.parameters.length)
    (hstack : g.stack = argsL.reverse ++ rest) (hW : 2 * g.monitorRoom + (rest.map fun v => v.category).sum ≤ W9) (hdg : decode c.code g.pc = .ok (.invokestatic index, 3))
    (hpre : ∀ vm₁, s.WarmedH vm₁ → Pre ⟨T.setVm vm₁, locs, cells, slots⟩ argsL.toArray) :
    (∃ (v : Option Value) (vm₁ : Vm) (B : Pt), s.WarmedH vm₁ ∧ Stand p l e R s m args below meth c B.U B.locs B.cells B.slots ∧ Post ⟨T.setVm vm₁, locs, cells, slots⟩ argsL.toArray v B ∧
      ∀ target, Steps p.tables e below (B.U.setTop { g with pc := g.pc + 3, stack := v.toList ++ rest }) target → Steps p.tables e below (T.setTop g) target) ∨
    (∃ (q : Addr) (vm₁ : Vm) (B : Pt), s.WarmedH vm₁ ∧ Stand p l e R s m args below meth c B.U B.locs B.cells B.slots ∧ PostX ⟨T.setVm vm₁, locs, cells, slots⟩ argsL.toArray q B ∧
      Steps p.tables e below (T.setTop g) ((B.U.setTop { g with stack := rest }).pushFrame (.throwing q))) := by
  obtain ⟨mk, hnamed⟩ := Cond.code_named hcode
  obtain ⟨methM, cM, hmethM, -, -, -, -, -, -, hsigM⟩ := Cond.code_spec hnamed hcode
  have hstatic : methM.isStatic = true := Cond.static_spec hnamed hmethM hstat
  obtain ⟨kP, hkP, -⟩ := className_of_methodNamed hnamed
  have hinitP : kP.init = .initialized := Cond.initialized_spec (findClass_of_methodNamed hnamed) hkP hinit
  obtain ⟨vm₁, X₁, hstep₁⟩ := X.invokestatic hexec hown hlink hnamed hmethM hstatic hkP hinitP hy (g := g) hg (argsL := argsL) (rest := rest) (hlen _ hsigM) hstack hdg
  rcases hK m meth c ⟨T.setVm vm₁, locs, cells, slots⟩ { g with stack := rest } (.invokestatic index) mk argsL.toArray X₁ hg hsize hdg hW (X₁.named hnamed) (hpre vm₁ X₁.warmed) with ⟨v, B, X', hpost, hsteps⟩ | ⟨q, B, X', hpost, hsteps⟩
  · exact Or.inl ⟨v, vm₁, B, X₁.warmed, X', hpost, fun target h => hstep₁ _ fun acts => by rw [doInvoke_state]; exact hsteps.trans h⟩
  · exact Or.inr ⟨q, vm₁, B, X₁.warmed, X', hpost, hstep₁ _ fun acts => by rw [doInvoke_state]; exact hsteps⟩
end Calls
theorem vx_cls {s : State} {T : State} {vm₁ : Vm} {E : String} {k : ClassId} (hW : s.WarmedH vm₁) (h : (T.setVm vm₁).vm.findClass E = some k) : s.vm.findClass E = some k := by
  have h1 : vm₁.findClass E = some k := h
  rw [hW.alike.findClass] at h1
  exact h1
/-- the method's frame g, with q thrown over it -/
def vx_W (p : Program) (l : Launch) (e : Env) (R : Room) (s : State) (m : MethodId) (args : Array Value) (below : List Frame) (meth : Method) (c : Code) (H : Heap) (locs : List Loc) (cells slots : Nat) (Q : State → Prop) (g : JFrame) (q : Addr) : Prop :=
  ∀ T : State, T.heap = H → Stand p l e R s m args below meth c T locs cells slots → ∃ t, Steps p.tables e below ((T.setTop g).pushFrame (.throwing q)) t ∧ Q t
def vx_Run (p : Program) (l : Launch) (e : Env) (R : Room) (s : State) (m : MethodId) (args : Array Value) (below : List Frame) (meth : Method) (c : Code) (H : Heap) (locs : List Loc) (cells slots mc ms : Nat) (g : JFrame) (rest : List Value) (Qa : State → Outcome → State → Prop) (XC : String → State → State → Prop) (free : Addr → Prop) : Prop :=
  ∀ T : State, T.heap = H → Stand p l e R s m args below meth c T locs cells slots →
    (∃ (v : Option Value) (st₀ t T' : State) (L : List Loc), st₀.heap = H ∧ Stand p l e R s m args below meth c T' (locs ++ L) (cells + mc) (slots + ms) ∧ (∀ q ∈ L, free q.base) ∧ T'.heap = t.heap ∧ T'.vm = t.vm ∧ Qa st₀ (.returned v) t ∧
      Goes p e below T g T' { g with pc := g.pc + 3, stack := v.toList ++ rest }) ∨
    (∃ (q : Addr) (st₀ t T' : State) (L : List Loc) (E : String) (ce : Cell), st₀.heap = H ∧ Stand p l e R s m args below meth c T' (locs ++ L) (cells + mc) (slots + ms) ∧ (∀ z ∈ L, free z.base) ∧ T'.heap = t.heap ∧ T'.vm = t.vm ∧ XC E st₀ t ∧ t.heap[q]? = some ce ∧ ce.vm = .none ∧ s.vm.findClass E = some ce.cls ∧
      Steps p.tables e below (T.setTop g) ((T'.setTop { g with stack := rest }).pushFrame (.throwing q)))
def vx_X {S : Type} (px : S → Prop) (B : String → S → State → Prop) (A : Nat → Prop) : String → State → State → Prop := fun E st t => ∃ u : S, px u ∧ B E u t ∧ va_F A st t
section Runs
variable {p : Program} {l : Launch} {e : Env} {R : Room} {s : State} {m : MethodId} {args : Array Value} {below : List Frame} {meth : Method} {c : Code} {H : Heap} {locs : List Loc} {cells slots : Nat}
variable {y : MethodName} {bytes cc : ByteArray} {maxL nL mc ms n index : Nat} {ret : Option FieldType} {ws : List Cond} {rm : Room} {Pc : Array Value → State → Prop} {Qc : Array Value → State → Outcome → State → Prop} {XC : String → State → State → Prop} {free : Addr → Prop} {Ts : List Cond} {own C : String} {b : Addr} {As rest : List Value} {g : JFrame}
theorem vx_callBack (cb : CallB R s args own index y bytes maxL ret ws rm mc ms n) (hM : vx_Met l y ws rm Pc Qc XC mc ms free) (hbl : FrameBlind Pc) : vx_Back l R p e below s args y 3 8 (PreOf R mc ms Pc) (PostOf Qc mc ms free) (vx_Post XC mc ms free) := by
  obtain ⟨hrc, hrs, hfr, hlo, hws, hcw, -, hini, -⟩ := cb
  exact vx_back (bytes := bytes) (maxL := maxL) (ret := ret) hM hbl hrc hrs hfr hlo hws hcw (fun a' U hW => word_at hW (Or.inl (by first | rfl | simp [Cond.onTables, Cond.keeps, Cond.steady])) hini)
theorem vx_runV (S : CallFix p m c cc nL s args Ts own) (hM : vx_Met l y ws rm Pc Qc XC mc ms free) (cw : CallW R s args own C index y bytes maxL ret ws rm mc ms n) (hp : PreV s H C b Pc As)
    (hg : g.method = m) (hn : As.length = n) (hsize : g.locals.size = nL) (hstack : g.stack = As.reverse ++ .ref b :: rest) (hW : 2 * g.monitorRoom + (rest.map fun v => v.category).sum ≤ 8) (hdg : decode cc g.pc = .ok (.invokevirtual index, 3)) (hf : cells + mc ≤ R.cells ∧ slots + ms ≤ R.slots) :
    vx_Run p l e R s m args below meth c H locs cells slots mc ms g rest (Qc (Value.ref b :: As).toArray) XC free := by
  have hK : vx_Back l R p e below s args y 3 8 (PreOf R mc ms Pc) (PostOf Qc mc ms free) (vx_Post XC mc ms free) := vx_callBack cw.1 hM hp.1
  obtain ⟨⟨-, -, -, -, -, -, hcode, -, hy, hlen, hl⟩, hin, hse⟩ := cw
  obtain ⟨hx, hb, hml, ho, -⟩ := S
  obtain ⟨-, ⟨cellB, hcB, hoB, hclB⟩, hPc⟩ := hp
  intro T hT X
  rcases vx_callV X hx (C := C) (bytes := bytes) (maxL := maxL) (ret := ret) ho hl hin hse hcode hy hK (by rw [hT]; exact hcB) hoB hclB hg (hsize.trans hml.symm) (argsL := As) (rest := rest) (fun sig h => hn.trans (hlen sig h)) hstack hW (by rw [hb]; exact hdg)
    (fun vm₁ hW₁ => ⟨hf.1, hf.2, hPc (T.setVm vm₁) hT hW₁⟩) with ⟨v, vm₁, ⟨U', l2, c2, s2⟩, hW₁, X', ⟨g', mk, t, L, e1, e2, hq, h1, hL, h2, h3⟩, st⟩ | ⟨q, vm₁, ⟨U', l2, c2, s2⟩, hW₁, X', ⟨g', mk, t, L, E, ce, e1, e2, hq, hce, hcv, hcl, h1, hL, h2, h3⟩, st⟩
  · dsimp only [Pt.U, Pt.locs, Pt.cells, Pt.slots] at X' e1 e2 h1 h2 h3 st
    subst h1; subst h2; subst h3
    exact Or.inl ⟨v, (T.setVm vm₁).calling g' mk (Value.ref b :: As).toArray, t, U', L, hT, X', hL, e1, e2, hq, st⟩
  · dsimp only [Pt.U, Pt.locs, Pt.cells, Pt.slots] at X' e1 e2 h1 h2 h3 st hcl
    subst h1; subst h2; subst h3
    exact Or.inr ⟨q, (T.setVm vm₁).calling g' mk (Value.ref b :: As).toArray, t, U', L, E, ce, hT, X', hL, e1, e2, hq, hce, hcv, vx_cls hW₁ hcl, st⟩
theorem vx_runS (S : CallFix p m c cc nL s args Ts own) (hM : vx_Met l y ws rm Pc Qc XC mc ms free) (cw : CallB R s args own index y bytes maxL ret ws rm mc ms n ∧ (Cond.static y).before args s = true) (hp : PreS s H Pc As)
    (hg : g.method = m) (hn : As.length = n) (hsize : g.locals.size = nL) (hstack : g.stack = As.reverse ++ rest) (hW : 2 * g.monitorRoom + (rest.map fun v => v.category).sum ≤ 8) (hdg : decode cc g.pc = .ok (.invokestatic index, 3)) (hf : cells + mc ≤ R.cells ∧ slots + ms ≤ R.slots) :
    vx_Run p l e R s m args below meth c H locs cells slots mc ms g rest (Qc As.toArray) XC free := by
  have hK : vx_Back l R p e below s args y 3 8 (PreOf R mc ms Pc) (PostOf Qc mc ms free) (vx_Post XC mc ms free) := vx_callBack cw.1 hM hp.1
  obtain ⟨⟨-, -, -, -, -, -, hcode, hini, hy, hlen, hl⟩, hstt⟩ := cw
  obtain ⟨hx, hb, hml, ho, -⟩ := S
  intro T hT X
  rcases vx_callS X hx (bytes := bytes) (maxL := maxL) (ret := ret) ho hl hstt hini hcode hy hK hg (hsize.trans hml.symm) (argsL := As) (rest := rest) (fun sig h => hn.trans (hlen sig h)) hstack hW (by rw [hb]; exact hdg)
    (fun vm₁ hW₁ => ⟨hf.1, hf.2, hp.2 (T.setVm vm₁) hT hW₁⟩) with ⟨v, vm₁, ⟨U', l2, c2, s2⟩, hW₁, X', ⟨g', mk, t, L, e1, e2, hq, h1, hL, h2, h3⟩, st⟩ | ⟨q, vm₁, ⟨U', l2, c2, s2⟩, hW₁, X', ⟨g', mk, t, L, E, ce, e1, e2, hq, hce, hcv, hcl, h1, hL, h2, h3⟩, st⟩
  · dsimp only [Pt.U, Pt.locs, Pt.cells, Pt.slots] at X' e1 e2 h1 h2 h3 st
    subst h1; subst h2; subst h3
    exact Or.inl ⟨v, (T.setVm vm₁).calling g' mk As.toArray, t, U', L, hT, X', hL, e1, e2, hq, st⟩
  · dsimp only [Pt.U, Pt.locs, Pt.cells, Pt.slots] at X' e1 e2 h1 h2 h3 st hcl
    subst h1; subst h2; subst h3
    exact Or.inr ⟨q, (T.setVm vm₁).calling g' mk As.toArray, t, U', L, E, ce, hT, X', hL, e1, e2, hq, hce, hcv, vx_cls hW₁ hcl, st⟩
end Runs
section Rows
variable {p : Program} {l : Launch} {e : Env} {R : Room} {s : State} {m : MethodId} {args : Array Value} {below : List Frame} {meth : Method} {c : Code} {H : Heap} {locs : List Loc} {cells slots : Nat} {Q : State → Prop}
variable {mc ms : Nat} {free : Addr → Prop} {A0 A1 : Nat → Prop} {H0 : Heap} {a : Array Value} {pc : Nat} {ls : Array Slot} {st0 rest : List Value}
theorem vx_keep {st₀ t T' : State} {L : List Loc} (h0 : st₀.heap = H) (e1 : T'.heap = t.heap) (hS : va_S A0 H0 H locs) (hA : ∀ q, q < H.size → A1 q → A0 q) (hf : ∀ q, free q → A0 q) (hL : ∀ q ∈ L, free q.base) (hF : va_F A1 st₀ t) :
    H.size ≤ T'.heap.size ∧ (∀ q : Nat, q < H.size → ¬ A1 q → T'.heap[q]? = H[q]?) ∧ va_S A0 H0 T'.heap (locs ++ L) := by
  obtain ⟨hz, hk⟩ := hF
  rw [h0] at hz hk
  exact ⟨by rw [e1]; exact hz, fun q h1 h2 => by rw [e1]; exact hk q h1 h2,
    ⟨Nat.le_trans hS.1 (by rw [e1]; exact hz), fun q h1 h2 => by rw [e1, hk q (Nat.lt_of_lt_of_le h1 hS.1) (fun z => h2 (hA q (Nat.lt_of_lt_of_le h1 hS.1) z))]; exact hS.2.1 q h1 h2, fun q hq => by
      rcases List.mem_append.mp hq with h | h
      · exact hS.2.2 q h
      · exact hf _ (hL q h)⟩⟩
theorem vx_calli {S SX : Type} {post : Int32 → S → Prop} {px : SX → Prop} {B : S → State → Prop} {BX : String → SX → State → Prop} {AX : Nat → Prop} (hr : vx_Run p l e R s m args below meth c H locs cells slots mc ms (F0 m pc ls st0) rest (va_Qi post B A1 a) (vx_X px BX AX) free) (hS : va_S A0 H0 H locs) (hA : ∀ q, q < H.size → A1 q → A0 q) (hf : ∀ q, free q → A0 q) (hAX : ∀ q, q < H.size → AX q → A0 q)
    (kx : ∀ (E : String) (ce : Cell) (q9 : Addr) (u : SX) (t : State) (H1 : Heap) (locs1 : List Loc), t.heap = H1 → s.vm.Alike t.vm → px u → BX E u t → H.size ≤ H1.size → (∀ q : Nat, q < H.size → ¬ AX q → H1[q]? = H[q]?) → va_S A0 H0 H1 locs1 → H1[q9]? = some ce → ce.vm = .none → s.vm.findClass E = some ce.cls → vx_W p l e R s m args below meth c H1 locs1 (cells + mc) (slots + ms) Q (F0 m pc ls rest) q9)
    (kk : ∀ (r : Int32) (u : S) (t : State) (H1 : Heap) (locs1 : List Loc), t.heap = H1 → s.vm.Alike t.vm → post r u → B u t → H.size ≤ H1.size → (∀ q : Nat, q < H.size → ¬ A1 q → H1[q]? = H[q]?) → va_S A0 H0 H1 locs1 → W p l e R s m args below meth c H1 locs1 (cells + mc) (slots + ms) Q (F0 m (pc + 3) ls (.int r :: rest))) : W p l e R s m args below meth c H locs cells slots Q (F0 m pc ls st0) := by
  intro T hT X
  rcases hr T hT X with ⟨v, st₀, t, T', L, h0, X', hL, e1, e2, ⟨⟨r, u, hv, hp, hb⟩, hF⟩, st⟩ | ⟨q, st₀, t, T', L, E, ce, h0, X', hL, e1, e2, ⟨u, hp, hb, hF⟩, hce, hcv, hcl, st⟩
  · cases hv
    obtain ⟨k1, k2, k3⟩ := vx_keep h0 e1 hS hA hf hL hF
    obtain ⟨t2, a1, b1⟩ := kk r u t T'.heap (locs ++ L) e1.symm (by rw [← e2]; exact X'.warmed.alike) hp hb k1 k2 k3 T' rfl X'
    exact ⟨t2, st t2 a1, b1⟩
  · obtain ⟨k1, k2, k3⟩ := vx_keep h0 e1 hS hAX hf hL hF
    obtain ⟨t2, a1, b1⟩ := kx E ce q u t T'.heap (locs ++ L) e1.symm (by rw [← e2]; exact X'.warmed.alike) hp hb k1 k2 k3 (by rw [e1]; exact hce) hcv hcl T' rfl X'
    exact ⟨t2, st.trans a1, b1⟩
theorem vx_calll {S SX : Type} {post : Int64 → S → Prop} {px : SX → Prop} {B : S → State → Prop} {BX : String → SX → State → Prop} {AX : Nat → Prop} (hr : vx_Run p l e R s m args below meth c H locs cells slots mc ms (F0 m pc ls st0) rest (va_Ql post B A1 a) (vx_X px BX AX) free) (hS : va_S A0 H0 H locs) (hA : ∀ q, q < H.size → A1 q → A0 q) (hf : ∀ q, free q → A0 q) (hAX : ∀ q, q < H.size → AX q → A0 q)
    (kx : ∀ (E : String) (ce : Cell) (q9 : Addr) (u : SX) (t : State) (H1 : Heap) (locs1 : List Loc), t.heap = H1 → s.vm.Alike t.vm → px u → BX E u t → H.size ≤ H1.size → (∀ q : Nat, q < H.size → ¬ AX q → H1[q]? = H[q]?) → va_S A0 H0 H1 locs1 → H1[q9]? = some ce → ce.vm = .none → s.vm.findClass E = some ce.cls → vx_W p l e R s m args below meth c H1 locs1 (cells + mc) (slots + ms) Q (F0 m pc ls rest) q9)
    (kk : ∀ (r : Int64) (u : S) (t : State) (H1 : Heap) (locs1 : List Loc), t.heap = H1 → s.vm.Alike t.vm → post r u → B u t → H.size ≤ H1.size → (∀ q : Nat, q < H.size → ¬ A1 q → H1[q]? = H[q]?) → va_S A0 H0 H1 locs1 → W p l e R s m args below meth c H1 locs1 (cells + mc) (slots + ms) Q (F0 m (pc + 3) ls (.long r :: rest))) : W p l e R s m args below meth c H locs cells slots Q (F0 m pc ls st0) := by
  intro T hT X
  rcases hr T hT X with ⟨v, st₀, t, T', L, h0, X', hL, e1, e2, ⟨⟨r, u, hv, hp, hb⟩, hF⟩, st⟩ | ⟨q, st₀, t, T', L, E, ce, h0, X', hL, e1, e2, ⟨u, hp, hb, hF⟩, hce, hcv, hcl, st⟩
  · cases hv
    obtain ⟨k1, k2, k3⟩ := vx_keep h0 e1 hS hA hf hL hF
    obtain ⟨t2, a1, b1⟩ := kk r u t T'.heap (locs ++ L) e1.symm (by rw [← e2]; exact X'.warmed.alike) hp hb k1 k2 k3 T' rfl X'
    exact ⟨t2, st t2 a1, b1⟩
  · obtain ⟨k1, k2, k3⟩ := vx_keep h0 e1 hS hAX hf hL hF
    obtain ⟨t2, a1, b1⟩ := kx E ce q u t T'.heap (locs ++ L) e1.symm (by rw [← e2]; exact X'.warmed.alike) hp hb k1 k2 k3 (by rw [e1]; exact hce) hcv hcl T' rfl X'
    exact ⟨t2, st.trans a1, b1⟩
theorem vx_callf {S SX : Type} {post : UInt32 → S → Prop} {px : SX → Prop} {B : S → State → Prop} {BX : String → SX → State → Prop} {AX : Nat → Prop} (hr : vx_Run p l e R s m args below meth c H locs cells slots mc ms (F0 m pc ls st0) rest (va_Qf post B A1 a) (vx_X px BX AX) free) (hS : va_S A0 H0 H locs) (hA : ∀ q, q < H.size → A1 q → A0 q) (hf : ∀ q, free q → A0 q) (hAX : ∀ q, q < H.size → AX q → A0 q)
    (kx : ∀ (E : String) (ce : Cell) (q9 : Addr) (u : SX) (t : State) (H1 : Heap) (locs1 : List Loc), t.heap = H1 → s.vm.Alike t.vm → px u → BX E u t → H.size ≤ H1.size → (∀ q : Nat, q < H.size → ¬ AX q → H1[q]? = H[q]?) → va_S A0 H0 H1 locs1 → H1[q9]? = some ce → ce.vm = .none → s.vm.findClass E = some ce.cls → vx_W p l e R s m args below meth c H1 locs1 (cells + mc) (slots + ms) Q (F0 m pc ls rest) q9)
    (kk : ∀ (r : UInt32) (u : S) (t : State) (H1 : Heap) (locs1 : List Loc), t.heap = H1 → s.vm.Alike t.vm → post r u → B u t → H.size ≤ H1.size → (∀ q : Nat, q < H.size → ¬ A1 q → H1[q]? = H[q]?) → va_S A0 H0 H1 locs1 → W p l e R s m args below meth c H1 locs1 (cells + mc) (slots + ms) Q (F0 m (pc + 3) ls (.float r :: rest))) : W p l e R s m args below meth c H locs cells slots Q (F0 m pc ls st0) := by
  intro T hT X
  rcases hr T hT X with ⟨v, st₀, t, T', L, h0, X', hL, e1, e2, ⟨⟨r, u, hv, hp, hb⟩, hF⟩, st⟩ | ⟨q, st₀, t, T', L, E, ce, h0, X', hL, e1, e2, ⟨u, hp, hb, hF⟩, hce, hcv, hcl, st⟩
  · cases hv
    obtain ⟨k1, k2, k3⟩ := vx_keep h0 e1 hS hA hf hL hF
    obtain ⟨t2, a1, b1⟩ := kk r u t T'.heap (locs ++ L) e1.symm (by rw [← e2]; exact X'.warmed.alike) hp hb k1 k2 k3 T' rfl X'
    exact ⟨t2, st t2 a1, b1⟩
  · obtain ⟨k1, k2, k3⟩ := vx_keep h0 e1 hS hAX hf hL hF
    obtain ⟨t2, a1, b1⟩ := kx E ce q u t T'.heap (locs ++ L) e1.symm (by rw [← e2]; exact X'.warmed.alike) hp hb k1 k2 k3 (by rw [e1]; exact hce) hcv hcl T' rfl X'
    exact ⟨t2, st.trans a1, b1⟩
theorem vx_calld {S SX : Type} {post : UInt64 → S → Prop} {px : SX → Prop} {B : S → State → Prop} {BX : String → SX → State → Prop} {AX : Nat → Prop} (hr : vx_Run p l e R s m args below meth c H locs cells slots mc ms (F0 m pc ls st0) rest (va_Qd post B A1 a) (vx_X px BX AX) free) (hS : va_S A0 H0 H locs) (hA : ∀ q, q < H.size → A1 q → A0 q) (hf : ∀ q, free q → A0 q) (hAX : ∀ q, q < H.size → AX q → A0 q)
    (kx : ∀ (E : String) (ce : Cell) (q9 : Addr) (u : SX) (t : State) (H1 : Heap) (locs1 : List Loc), t.heap = H1 → s.vm.Alike t.vm → px u → BX E u t → H.size ≤ H1.size → (∀ q : Nat, q < H.size → ¬ AX q → H1[q]? = H[q]?) → va_S A0 H0 H1 locs1 → H1[q9]? = some ce → ce.vm = .none → s.vm.findClass E = some ce.cls → vx_W p l e R s m args below meth c H1 locs1 (cells + mc) (slots + ms) Q (F0 m pc ls rest) q9)
    (kk : ∀ (r : UInt64) (u : S) (t : State) (H1 : Heap) (locs1 : List Loc), t.heap = H1 → s.vm.Alike t.vm → post r u → B u t → H.size ≤ H1.size → (∀ q : Nat, q < H.size → ¬ A1 q → H1[q]? = H[q]?) → va_S A0 H0 H1 locs1 → W p l e R s m args below meth c H1 locs1 (cells + mc) (slots + ms) Q (F0 m (pc + 3) ls (.double r :: rest))) : W p l e R s m args below meth c H locs cells slots Q (F0 m pc ls st0) := by
  intro T hT X
  rcases hr T hT X with ⟨v, st₀, t, T', L, h0, X', hL, e1, e2, ⟨⟨r, u, hv, hp, hb⟩, hF⟩, st⟩ | ⟨q, st₀, t, T', L, E, ce, h0, X', hL, e1, e2, ⟨u, hp, hb, hF⟩, hce, hcv, hcl, st⟩
  · cases hv
    obtain ⟨k1, k2, k3⟩ := vx_keep h0 e1 hS hA hf hL hF
    obtain ⟨t2, a1, b1⟩ := kk r u t T'.heap (locs ++ L) e1.symm (by rw [← e2]; exact X'.warmed.alike) hp hb k1 k2 k3 T' rfl X'
    exact ⟨t2, st t2 a1, b1⟩
  · obtain ⟨k1, k2, k3⟩ := vx_keep h0 e1 hS hAX hf hL hF
    obtain ⟨t2, a1, b1⟩ := kx E ce q u t T'.heap (locs ++ L) e1.symm (by rw [← e2]; exact X'.warmed.alike) hp hb k1 k2 k3 (by rw [e1]; exact hce) hcv hcl T' rfl X'
    exact ⟨t2, st.trans a1, b1⟩
theorem vx_callv {S SX : Type} {post : S → Prop} {px : SX → Prop} {B : S → State → Prop} {BX : String → SX → State → Prop} {AX : Nat → Prop} (hr : vx_Run p l e R s m args below meth c H locs cells slots mc ms (F0 m pc ls st0) rest (va_Qv post B A1 a) (vx_X px BX AX) free) (hS : va_S A0 H0 H locs) (hA : ∀ q, q < H.size → A1 q → A0 q) (hf : ∀ q, free q → A0 q) (hAX : ∀ q, q < H.size → AX q → A0 q)
    (kx : ∀ (E : String) (ce : Cell) (q9 : Addr) (u : SX) (t : State) (H1 : Heap) (locs1 : List Loc), t.heap = H1 → s.vm.Alike t.vm → px u → BX E u t → H.size ≤ H1.size → (∀ q : Nat, q < H.size → ¬ AX q → H1[q]? = H[q]?) → va_S A0 H0 H1 locs1 → H1[q9]? = some ce → ce.vm = .none → s.vm.findClass E = some ce.cls → vx_W p l e R s m args below meth c H1 locs1 (cells + mc) (slots + ms) Q (F0 m pc ls rest) q9)
    (kk : ∀ (u : S) (t : State) (H1 : Heap) (locs1 : List Loc), t.heap = H1 → s.vm.Alike t.vm → post u → B u t → H.size ≤ H1.size → (∀ q : Nat, q < H.size → ¬ A1 q → H1[q]? = H[q]?) → va_S A0 H0 H1 locs1 → W p l e R s m args below meth c H1 locs1 (cells + mc) (slots + ms) Q (F0 m (pc + 3) ls (rest))) : W p l e R s m args below meth c H locs cells slots Q (F0 m pc ls st0) := by
  intro T hT X
  rcases hr T hT X with ⟨v, st₀, t, T', L, h0, X', hL, e1, e2, ⟨⟨u, hv, hp, hb⟩, hF⟩, st⟩ | ⟨q, st₀, t, T', L, E, ce, h0, X', hL, e1, e2, ⟨u, hp, hb, hF⟩, hce, hcv, hcl, st⟩
  · cases hv
    obtain ⟨k1, k2, k3⟩ := vx_keep h0 e1 hS hA hf hL hF
    obtain ⟨t2, a1, b1⟩ := kk u t T'.heap (locs ++ L) e1.symm (by rw [← e2]; exact X'.warmed.alike) hp hb k1 k2 k3 T' rfl X'
    exact ⟨t2, st t2 a1, b1⟩
  · obtain ⟨k1, k2, k3⟩ := vx_keep h0 e1 hS hAX hf hL hF
    obtain ⟨t2, a1, b1⟩ := kx E ce q u t T'.heap (locs ++ L) e1.symm (by rw [← e2]; exact X'.warmed.alike) hp hb k1 k2 k3 (by rw [e1]; exact hce) hcv hcl T' rfl X'
    exact ⟨t2, st.trans a1, b1⟩
/-- caught by the row x of this method's table; the rows ahead don't take it -/
theorem vx_catch {own name : String} {E : String} {ce : Cell} {q : Addr} (hown : s.vm.findClass own = some m.cls) (pre : List ExceptionTableEntry) (x : ExceptionTableEntry) (suf : List ExceptionTableEntry) (hsplit : c.exceptionTable.toList = pre ++ x :: suf)
    (hpass : ∀ z ∈ pre, covers z pc = false ∨ (z.catchType ≠ 0 ∧ ∃ nm : String, (Cond.classLink own z.catchType nm).before args s = true ∧ va_Nc E nm s)) (hx : covers x pc = true) (h0 : x.catchType ≠ 0)
    (hlink : (Cond.classLink own x.catchType name).before args s = true) (hcast : (Cond.castable E name).before args s = true) (hcell : H[q]? = some ce) (hv : ce.vm = .none) (hcl : s.vm.findClass E = some ce.cls)
    (kk : W p l e R s m args below meth c H locs cells slots Q (F0 m x.handlerPc ls [.ref q])) : vx_W p l e R s m args below meth c H locs cells slots Q (F0 m pc ls rest) q := by
  sorry
end Rows
section Ends
variable {p : Program} {l : Launch} {e : Env} {R : Room} {s : State} {m : MethodId} {args : Array Value} {below : List Frame} {meth : Method} {c : Code} {H : Heap} {locs : List Loc} {cells slots : Nat} {Q : State → Prop}
variable {mc ms : Nat} {free : Addr → Prop} {A0 A1 : Nat → Prop} {H0 : Heap} {a : Array Value} {ls : Array Slot} {st0 rest : List Value}
variable {Qc : Array Value → State → Outcome → State → Prop} {XC : String → State → State → Prop}
/-- what a body that may throw owes at its end -/
def vx_MQ (below : List Frame) (Qc : Array Value → State → Outcome → State → Prop) (XC : String → State → State → Prop) (a : Array Value) (s : State) (mc ms : Nat) (free : Addr → Prop) : State → Prop := fun t =>
  ∃ o, t.status = .running ∧ Ended t below o ∧ vx_Q Qc XC mc ms free a s o t
theorem vx_ret {g : JFrame} {mc ms : Nat} (k : W p l e R s m args below meth c H locs cells slots (MQ below Qc args s mc ms free) g) : W p l e R s m args below meth c H locs cells slots (vx_MQ below Qc XC args s mc ms free) g := by
  intro T hT X
  obtain ⟨t, a1, o, b1, b2, b3, b4⟩ := k T hT X
  exact ⟨t, a1, o, b1, b2, Or.inl ⟨b3, b4⟩⟩
/-- not caught here: it goes on to the caller -/
theorem vx_widen {g : JFrame} {q : Addr} {k n : Nat} (h1 : cells ≤ k) (h2 : slots ≤ n) (kk : vx_W p l e R s m args below meth c H locs k n Q g q) : vx_W p l e R s m args below meth c H locs cells slots Q g q := fun T hT X => kk T hT (stand_widen X h1 h2)
theorem vx_out {pc : Nat} {E : String} {ce : Cell} {q : Addr} {mc ms : Nat} (hout : ∀ x ∈ c.exceptionTable.toList, covers x pc = false) (hlocks : meth.locks = false) (hcell : H[q]? = some ce) (hv : ce.vm = .none) (hcl : s.vm.findClass E = some ce.cls)
    (hx : ∀ t : State, t.heap = H → s.vm.Alike t.vm → XC E s t) (hf : ∀ z ∈ locs, free z.base) (hc : cells ≤ mc) (hs : slots ≤ ms) :
    vx_W p l e R s m args below meth c H locs cells slots (vx_MQ below Qc XC args s mc ms free) (F0 m pc ls rest) q := by
  intro T hT X
  obtain ⟨st1, hrun, hend, hW, hsm⟩ := X.leaveThrown q (g := F0 m pc ls rest) rfl rfl rfl hout hlocks
  have hcell9 : (T.setFrames (.throwing q :: below)).heap[q]? = some ce := by
    show T.heap[q]? = some ce
    rw [hT]; exact hcell
  exact ⟨_, st1, .threw q, hrun, hend, Or.inr ⟨q, rfl, E, ce, locs, hx _ hT hW.alike, hcell9, hv, hcl, hW, hsm.mono hc hs, hf⟩⟩
theorem vx_frame {U : State} {k n : Nat} (h : s.sameButNew ({ U with vm := s.vm } : State) locs k n) : s.heap.size ≤ U.heap.size ∧ ∀ q : Nat, q < s.heap.size → (∀ z ∈ locs, z.base ≠ q) → U.heap[q]? = s.heap[q]? := by
  obtain ⟨-, h2, -, -, -, h6⟩ := h
  refine ⟨h2, fun q hq hz => ?_⟩
  obtain ⟨c9, e1, e2, e3, e4⟩ := h6 q _ (Array.getElem?_eq_getElem hq)
  have hs : c9.slots = (s.heap[q]).slots := Array.ext_getElem? fun i => e4 i fun hm => hz _ hm rfl
  have h9 : c9 = s.heap[q] := by
    rw [hs] at e2
    exact e2
  have e5 : U.heap[q]? = some c9 := e1
  rw [e5, h9, Array.getElem?_eq_getElem hq]
/-- the words of a throw but the four that speak of the heap -/
def vx_no (w : Cond) : Bool := decide (w ≠ .isRef (.static Bundle.tN "UNASSIGNED_STACK" Bundle.steD)) && decide (w ≠ .isRef (.static Bundle.tN "SUPPRESSED_SENTINEL" Bundle.listD)) && decide (w ≠ .laysStatic Bundle.tN "UNASSIGNED_STACK" Bundle.steD) && decide (w ≠ .laysStatic Bundle.tN "SUPPRESSED_SENTINEL" Bundle.listD)
def vx_at0 (own : String) (ic : Nat) (X : String) (names : List String) : List Cond := (Bundle.ownAtoms0 own ic X names).filter vx_no
def vx_atS (own : String) (ic : Nat) (X : String) (names : List String) : List Cond := (Bundle.ownAtoms own ic X names).filter vx_no
/-- a word that the tables alone decide, or a good one -/
def vx_ot (w : Cond) : Bool := w.onTables || goodWord w
theorem vx_ot_at {args a' : Array Value} {s U : State} {w : Cond} (hW : s.WarmedH U.vm) (hvm : s.vm = U.vm) (hg : vx_ot w = true) (h : w.before args s = true) : w.before a' U = true := by
  simp only [vx_ot, Bool.or_eq_true] at hg
  rcases hg with hg | hg
  · exact va_tabs hg hvm h
  · exact word_at hW (good_of_word hg) h
/-- a list's words: the good ones out of the method's own list, the others by premises of their own -/
theorem vx_hat {args : Array Value} {s : State} {L B : List Cond} (h1 : ∀ w ∈ L.filter goodWord, w.before args s = true) (h2 : ∀ w ∈ L.filter (fun w => !goodWord w), w ∈ B) (h3 : ∀ w ∈ B, w.before args s = true) : ∀ w ∈ L, w.before args s = true := by
  intro w hw
  by_cases g : goodWord w = true
  · exact h1 w (List.mem_filter.mpr ⟨hw, g⟩)
  · refine h3 w (h2 w (List.mem_filter.mpr ⟨hw, ?_⟩))
    show (!goodWord w) = true
    cases hgw : goodWord w
    · rfl
    · exact absurd hgw g
theorem vx_c {args : Array Value} {s : State} {w : Cond} {B : List Cond} (h : w.before args s = true) (t : ∀ w ∈ B, w.before args s = true) : ∀ w' ∈ w :: B, w'.before args s = true := fun w' h' => (List.mem_cons.mp h').elim (fun e => by rw [e]; exact h) (t w')
theorem vx_n {args : Array Value} {s : State} : ∀ w ∈ ([] : List Cond), w.before args s = true := fun _ h => nomatch h
theorem vx_own {args : Array Value} {s : State} {L : List Cond} (h1 : ∀ w ∈ L.filter vx_no, w.before args s = true)
    (hU : (Cond.isRef (.static Bundle.tN "UNASSIGNED_STACK" Bundle.steD)).before args s = true) (hN : (Cond.isRef (.static Bundle.tN "SUPPRESSED_SENTINEL" Bundle.listD)).before args s = true)
    (lU : (Cond.laysStatic Bundle.tN "UNASSIGNED_STACK" Bundle.steD).before args s = true) (lN : (Cond.laysStatic Bundle.tN "SUPPRESSED_SENTINEL" Bundle.listD).before args s = true) : ∀ w ∈ L, w.before args s = true := by
  intro w hw
  by_cases e1 : w = .isRef (.static Bundle.tN "UNASSIGNED_STACK" Bundle.steD)
  · rw [e1]; exact hU
  · by_cases e2 : w = .isRef (.static Bundle.tN "SUPPRESSED_SENTINEL" Bundle.listD)
    · rw [e2]; exact hN
    · by_cases e3 : w = .laysStatic Bundle.tN "UNASSIGNED_STACK" Bundle.steD
      · rw [e3]; exact lU
      · by_cases e4 : w = .laysStatic Bundle.tN "SUPPRESSED_SENTINEL" Bundle.listD
        · rw [e4]; exact lN
        · exact h1 w (List.mem_filter.mpr ⟨hw, by unfold vx_no; rw [decide_eq_true e1, decide_eq_true e2, decide_eq_true e3, decide_eq_true e4]; rfl⟩)
/-- where a static field lies, its class's statics cell in H -/
def vx_L (C n d : String) (A : Nat → Prop) (U : State) (H : Heap) : Prop := ∃ (c : ClassId) (k : Class) (i : Nat) (f : Field) (a : Nat) (cell : Cell), U.vm.findClass C = some c ∧ U.fieldFound? C n d = some (c, k, i, f) ∧ f.isStatic = true ∧ k.statics = some a ∧ H[a]? = some cell ∧ cell.vm.isStatics = true ∧ cell.cls = c ∧ f.slot < cell.slots.size ∧ k.staticTypes[f.slot]? = some f.type ∧ ¬ A a
theorem vx_L.moved {C n d : String} {A : Nat → Prop} {u U : State} {H : Heap} (hvm : u.vm.Alike U.vm) (h : vx_L C n d A u H) : vx_L C n d A U H := by
  obtain ⟨c, k, i, f, a, cell, h1, h2, h3, h4, h5, h6, h7, h8, h9, h10⟩ := h
  obtain ⟨k', hi', he⟩ := State.fieldFound?_setVm hvm h2
  exact ⟨c, k', i, f, a, cell, by rw [hvm.findClass]; exact h1, hi', h3, by rw [he]; exact h4, h5, h6, h7, h8, by rw [he]; exact h9, h10⟩
theorem vx_L.kept {C n d : String} {A : Nat → Prop} {U : State} {H H1 : Heap} (h : vx_L C n d A U H) (hq : ∀ a : Nat, a < H.size → ¬ A a → H1[a]? = H[a]?) : vx_L C n d A U H1 := by
  obtain ⟨c, k, i, f, a, cell, h1, h2, h3, h4, h5, h6, h7, h8, h9, h10⟩ := h
  exact ⟨c, k, i, f, a, cell, h1, h2, h3, h4, by rw [hq a (Array.getElem?_eq_some_iff.mp h5).1 h10]; exact h5, h6, h7, h8, h9, h10⟩
theorem vx_L.narrow {C n d : String} {A B : Nat → Prop} {U : State} {H : Heap} (h : vx_L C n d A U H) (hAB : ∀ q, B q → A q) : vx_L C n d B U H := by
  obtain ⟨c, k, i, f, a, cell, h1, h2, h3, h4, h5, h6, h7, h8, h9, h10⟩ := h
  exact ⟨c, k, i, f, a, cell, h1, h2, h3, h4, h5, h6, h7, h8, h9, fun z => h10 (hAB _ z)⟩
theorem vx_L.word {C n d : String} {A : Nat → Prop} {s : State} {args : Array Value} (h : vx_L C n d A s s.heap) : (Cond.laysStatic C n d).before args s = true := by
  obtain ⟨c, k, i, f, a, cell, h1, h2, h3, h4, h5, h6, h7, h8, h9, -⟩ := h
  show (Cond.laysStatic C n d).holds args s none s [] = true
  exact Cond.laysStatic_of h1 h2 h3 h4 h5 h6 h7 h8 h9
/-- .. and what it holds: null or some reference -/
def vx_Zq (C n d : String) (A : Nat → Prop) (U : State) (H : Heap) : Prop := va_Zq C n d A U H ∧ vx_L C n d A U H
theorem vx_Zq.moved {C n d : String} {A : Nat → Prop} {u U : State} {H : Heap} (hvm : u.vm.Alike U.vm) (h : vx_Zq C n d A u H) : vx_Zq C n d A U H := ⟨va_Zq.moved hvm h.1, vx_L.moved hvm h.2⟩
theorem vx_Zq.kept {C n d : String} {A : Nat → Prop} {U : State} {H H1 : Heap} (h : vx_Zq C n d A U H) (hq : ∀ a : Nat, a < H.size → ¬ A a → H1[a]? = H[a]?) : vx_Zq C n d A U H1 := ⟨va_Zq.kept h.1 hq, vx_L.kept h.2 hq⟩
theorem vx_Zq.narrow {C n d : String} {A B : Nat → Prop} {U : State} {H : Heap} (h : vx_Zq C n d A U H) (hAB : ∀ q, B q → A q) : vx_Zq C n d B U H := ⟨va_Zq.narrow h.1 hAB, vx_L.narrow h.2 hAB⟩
theorem vx_Zqof {args : Array Value} {s : State} {C n d : String} {A : Nat → Prop} (hl : (Cond.laysStatic C n d).before args s = true) (hini : (Cond.initialized C).before args s = true) (h : (Cond.isRef (.static C n d)).before args s = true) (hA : ∀ a : Nat, a < s.heap.size → ¬ A a) : vx_Zq C n d A s s.heap := by
  refine ⟨va_Zqof hl hini h hA, ?_⟩
  obtain ⟨c, k, i, f, a, cell, h1, h2, h3, h4, h5, h6, h7, h8, h9⟩ := Cond.laysStatic_spec hl
  exact ⟨c, k, i, f, a, cell, h1, h2, h3, h4, h5, h6, h7, h8, h9, hA a (Array.getElem?_eq_some_iff.mp h5).1⟩
theorem vx_isRef {C n d : String} {v : Value} {A : Nat → Prop} {s : State} {args : Array Value} (h : va_Z C n d v A s s.heap) (hv : v.isRef = true) : (Cond.isRef (.static C n d)).before args s = true := by
  obtain ⟨cf, kf, fi, f, a, cell, h1, h2, h3, h4, h5, h6, h7, -⟩ := h
  have he : (Term.static C n d).eval args s none [] s = some v := by
    simp [Term.eval, State.fieldNamed?, h1, h2, h4, h5, h6, h7]
  simp only [Cond.before, Cond.holds, Cond.value, he]
  cases v <;> simp_all [Value.isRef]
theorem vx_isRefq {C n d : String} {A : Nat → Prop} {s : State} {args : Array Value} (h : va_Zq C n d A s s.heap) : (Cond.isRef (.static C n d)).before args s = true := by
  rcases h with h | ⟨t, h⟩
  · exact vx_isRef h rfl
  · exact vx_isRef h rfl
/-- the same frame, seen from here: as if the method were called anew in this heap -/
theorem vx_rebase {T : State} (X : Stand p l e R s m args below meth c T locs cells slots) {R' : Room} (hf : R'.frames ≤ R.frames) (hl : R'.locals ≤ R.locals) (hc : cells + R'.cells ≤ R.cells) (hs : slots + R'.slots ≤ R.slots) :
    Stand p l e R' ((T.setVm s.vm).setFrames (.invoking m args :: below)) m args below meth c T [] 0 0 := by
  have htop : (T.setVm s.vm).topJava?.isSome := X.here.top
  have hF : ((T.setVm s.vm).setFrames (.invoking m args :: below)).frames = .invoking m args :: below := State.frames_setFrames _ (State.cur_lt_of_top htop)
  obtain ⟨g₀, hg0⟩ := Option.isSome_iff_exists.mp htop
  obtain ⟨r, hr⟩ := State.topJava?_eq_some.mp hg0
  have hl9 : e.platform.stackLimits (T.setVm s.vm).me = e.platform.stackLimits s.me := X.limits
  have hb9 : (T.setVm s.vm).me.stackBytes = s.me.stackBytes := X.bytes
  refine ⟨X.admits, X.cas, X.clock, hF, ?_, X.hears, X.method, X.code, X.here, X.tail, X.warmed, ?_, ?_, ?_⟩
  · have h := X.room
    have hU : ((T.setVm s.vm).setFrames (.invoking m args :: below)).localsInUse = s.localsInUse := by
      rw [State.localsInUse_invoking hF (meth := meth) (c := c) X.method X.code, State.localsInUse_invoking X.frames X.method X.code]
    simp only [State.hasRoom, Bool.and_eq_true, decide_eq_true_eq] at h ⊢
    obtain ⟨⟨⟨⟨h1, h2, h3, h4, h5, h6⟩, h7⟩, h8⟩, h9⟩ := h
    rw [X.frames, List.length_cons] at h2 h3
    have q1 := X.heapSize
    have q2 := X.used
    simp only [hF, hU, List.length_cons, State.stackLimits_setFrames, State.stackBytes_setFrames, hl9, hb9]
    refine ⟨⟨⟨⟨by omega, by omega, by omega, by omega, by omega, h6⟩, ?_⟩, ?_⟩, X.book⟩
    · show T.heap.size + R'.cells ≤ e.platform.maxCells
      omega
    · show T.slotsUsed + R'.slots ≤ e.platform.maxSlots
      omega
  · rw [State.stackLimits_setFrames]; rfl
  · rw [State.stackBytes_setFrames]; rfl
  · refine ⟨?_, Nat.le_refl _, Nat.le_refl _, ?_, ?_, fun a c9 h9 => ⟨c9, h9, rfl, rfl, fun _ _ => rfl⟩⟩
    · obtain ⟨t, ht, -⟩ := State.frames_cons hr
      show T.setVm s.vm = { ((T.setVm s.vm).setFrames (.invoking m args :: below)).setFrames (T.setVm s.vm).frames with heap := T.heap, slotsUsed := T.slotsUsed }
      rw [State.setFrames_setFrames, State.setFrames_self ht]
      rfl
    · show T.slotsUsed = T.slotsUsed + ((T.heap.toList.drop T.heap.size).map (·.slots.size)).sum
      rw [List.drop_eq_nil_of_le (Nat.le_of_eq Array.length_toList)]
      rfl
    · show ((T.heap.toList.drop T.heap.size).map (·.slots.size)).sum ≤ 0
      rw [List.drop_eq_nil_of_le (Nat.le_of_eq Array.length_toList)]
      exact Nat.le_refl _
/-- 'throw new E()': new; dup; invokespecial; athrow -/
theorem vx_throw0 {cc : ByteArray} {pc : Nat} (hexec : p.tables.exec = Jvm.exec) (hb : c.code = cc) (hl : l.stackTraces = false) {own cls : String} {names : List String} {ik ic mc ms : Nat} {A : Nat → Prop}
    (hown : s.vm.findClass own = some m.cls) (hcls : Bundle.fit cls = true) (hnames : ∀ n ∈ names, Bundle.fit n = true)
    (hk : (Cond.classLink own ik cls).before args s = true) (hini : (Cond.initialized cls).before args s = true) (hat : ∀ w ∈ vx_at0 own ic cls names, w.before args s = true)
    (hgood : ∀ w ∈ Cond.classLink own ik cls :: Cond.initialized cls :: vx_at0 own ic cls names, vx_ot w = true)
    (hU : vx_Zq Bundle.tN "UNASSIGNED_STACK" Bundle.steD A s s.heap) (hN : vx_Zq Bundle.tN "SUPPRESSED_SENTINEL" Bundle.listD A s s.heap) (hS : va_S A s.heap H locs) (hsize : ls.size = c.maxLocals)
    (d0 : decode cc pc = .ok (.new ik, 3)) (d3 : decode cc (pc + 3) = .ok (.dup, 1)) (d4 : decode cc (pc + 4) = .ok (.invokespecial ic, 3)) (d7 : decode cc (pc + 7) = .ok (.athrow, 1))
    (hout : ∀ x ∈ c.exceptionTable.toList, covers x (pc + 7) = false)
    (hRframes : names.length + 3 < R.frames) (hRlocals : (rest.map fun v => v.category).sum + (13 * (names.length + 1) + 42) ≤ R.locals) (hRcells : cells + 1 ≤ R.cells) (hRslots : slots + 6 ≤ R.slots) (hlocks : meth.locks = false)
    (hx : ∀ t : State, s.vm.Alike t.vm → H.size ≤ t.heap.size → (∀ q : Nat, q < H.size → t.heap[q]? = H[q]?) → XC cls s t)
    (hf : ∀ z ∈ locs, free z.base) (hc : cells + 1 ≤ mc) (hs : slots + 6 ≤ ms) :
    W p l e R s m args below meth c H locs cells slots (vx_MQ below Qc XC args s mc ms free) (F0 m pc ls rest) := by
  intro T hT X
  have htr : e.platform.stackTraces = false := (show e.platform.stackTraces = l.stackTraces by rw [X.admits.platform]).trans hl
  have Y := vx_rebase X (R' := { frames := R.frames, locals := R.locals, cells := 1, slots := 6 }) (Nat.le_refl _) (Nat.le_refl _) hRcells hRslots
  obtain ⟨s', hA⟩ : ∃ z, z = (T.setVm s.vm).setFrames (.invoking m args :: below) := ⟨_, rfl⟩
  rw [← hA] at Y
  have hvm : s'.vm = s.vm := by rw [hA]; rfl
  have hhp : s'.heap = H := by rw [hA]; exact hT
  have hW0 : s.WarmedH s'.vm := by rw [hvm]; exact State.WarmedH.refl s
  have hat' : ∀ w ∈ vx_at0 own ic cls names, w.before args s' = true := fun w hw => vx_ot_at hW0 hvm.symm (hgood w (List.mem_cons_of_mem _ (List.mem_cons_of_mem _ hw))) (hat w hw)
  have hk' : (Cond.classLink own ik cls).before args s' = true := vx_ot_at hW0 hvm.symm (hgood _ List.mem_cons_self) hk
  have hini' : (Cond.initialized cls).before args s' = true := vx_ot_at hW0 hvm.symm (hgood _ (List.mem_cons_of_mem _ List.mem_cons_self)) hini
  have hU' : vx_Zq Bundle.tN "UNASSIGNED_STACK" Bundle.steD A s' s'.heap := by rw [hhp]; exact vx_Zq.moved hW0.alike (hU.kept hS.2.1)
  have hN' : vx_Zq Bundle.tN "SUPPRESSED_SENTINEL" Bundle.listD A s' s'.heap := by rw [hhp]; exact vx_Zq.moved hW0.alike (hN.kept hS.2.1)
  have h : ∀ w ∈ Bundle.ownAtoms0 own ic cls names, w.before args s' = true := vx_own hat' (vx_isRefq hU'.1) (vx_isRefq hN'.1) hU'.2.word hN'.2.word
  have hown' : s'.vm.findClass own = some m.cls := by rw [hvm]; exact hown
  have hins : (Cond.instantiable cls 6).before args s' = true := h _ (by simp [Bundle.ownAtoms0])
  obtain ⟨vm₁, cX, kX, hfX, hkX, -, -, X₁, st1⟩ := Y.newCold hexec (own := own) (C := cls) (index := ik) (n := 6) hown' hk' hins hini'
    (g := F0 m pc ls rest) rfl (by rw [hb]; exact d0) (Nat.le_refl _) (Nat.le_refl _)
  generalize hT1 : (T.setVm vm₁).pushCell { cls := cX, slots := kX.instanceTypes.map defaultValue, vm := .none } = T1 at X₁ st1
  have hcat : (Value.ref T.heap.size).category = 1 := rfl
  have hcellA : T1.heap[T.heap.size]? = some (freshCell cX kX) := by rw [← hT1]; exact State.heap_pushCell_size _ _
  have d3' : decode c.code (pc + 3) = .ok (.dup, 1) := by rw [hb]; exact d3
  obtain ⟨U, hsteps, hrun, hend, hW, hsame, ce, hce, hO⟩ := X₁.ctorThrow0 hexec htr (own := own) (cls := cls) (names := names) (ic := ic) hown' hcls hnames h (fun x hx => nomatch hx) hfX hkX hcellA (by rw [hhp, hT]; exact Nat.le_refl _)
    (g := { method := m, pc := pc + 4, locals := ls, stack := .ref T.heap.size :: .ref T.heap.size :: rest, locked := none }) rfl hsize rfl rfl (rest := rest) rfl
    (by rw [hb]; exact d4) (by rw [hb]; exact d7) hout hRframes (by simp only [List.map_cons, List.sum_cons, hcat]; omega) hlocks
  obtain ⟨f1, f2⟩ := vx_frame hsame
  rw [hhp] at f1 f2
  have hWs : s.WarmedH U.vm := State.WarmedH.trans hW0 hW
  have hcl : s.vm.findClass cls = some ce.cls := by
    have h9 := hO.cls
    rw [hvm] at h9
    exact h9
  have hall : s.sameButNew ({ U with vm := s.vm } : State) locs mc ms := by
    subst hA
    obtain ⟨e1, e2⟩ := hsame
    rw [State.setFrames_setFrames] at e1
    have h2 : (T.setVm s.vm).sameButNew ({ U with vm := s.vm } : State) [] (0 + 1) (0 + 6) := ⟨e1, e2⟩
    have h3 := X.same.trans h2
    rw [List.append_nil] at h3
    exact h3.mono hc hs
  refine ⟨U, ?_, .threw T.heap.size, hrun, hend, Or.inr ⟨T.heap.size, rfl, cls, ce, locs, hx U hWs.alike f1 (fun q hq => f2 q hq (fun z hz => nomatch hz)), hce, hO.vm, hcl, hWs, hall, hf⟩⟩
  refine st1 _ ?_
  show Steps p.tables e below (T1.setTop { method := m, pc := pc + 3, locals := ls, stack := .ref T.heap.size :: rest, locked := none }) _
  jvm_step X₁.here [X₁.here.top, hexec, d3', Value.category]
  exact hsteps
/-- 'throw new E("text")': new; dup; ldc; invokespecial; athrow -/
theorem vx_throwS {cc : ByteArray} {pc : Nat} (hexec : p.tables.exec = Jvm.exec) (hb : c.code = cc) (hl : l.stackTraces = false) {own cls text : String} {names : List String} {ik is ic mc ms sa : Nat} {A : Nat → Prop}
    (hown : s.vm.findClass own = some m.cls) (hcls : Bundle.fit cls = true) (hnames : ∀ n ∈ names, Bundle.fit n = true)
    (hk : (Cond.classLink own ik cls).before args s = true) (hini : (Cond.initialized cls).before args s = true) (hstr : vk_R own is text sa s) (hat : ∀ w ∈ vx_atS own ic cls names, w.before args s = true)
    (hgood : ∀ w ∈ Cond.classLink own ik cls :: Cond.initialized cls :: vx_atS own ic cls names, vx_ot w = true)
    (hU : vx_Zq Bundle.tN "UNASSIGNED_STACK" Bundle.steD A s s.heap) (hN : vx_Zq Bundle.tN "SUPPRESSED_SENTINEL" Bundle.listD A s s.heap) (hS : va_S A s.heap H locs) (hsize : ls.size = c.maxLocals)
    (d0 : decode cc pc = .ok (.new ik, 3)) (d3 : decode cc (pc + 3) = .ok (.dup, 1)) (d4 : decode cc (pc + 4) = .ok (.ldc is, 2)) (d6 : decode cc (pc + 6) = .ok (.invokespecial ic, 3)) (d9 : decode cc (pc + 9) = .ok (.athrow, 1))
    (hout : ∀ x ∈ c.exceptionTable.toList, covers x (pc + 9) = false)
    (hRframes : names.length + 3 < R.frames) (hRlocals : (rest.map fun v => v.category).sum + (13 * (names.length + 1) + 43) ≤ R.locals) (hRcells : cells + 1 ≤ R.cells) (hRslots : slots + 6 ≤ R.slots) (hlocks : meth.locks = false)
    (hx : ∀ t : State, s.vm.Alike t.vm → H.size ≤ t.heap.size → (∀ q : Nat, q < H.size → t.heap[q]? = H[q]?) → XC cls s t)
    (hf : ∀ z ∈ locs, free z.base) (hc : cells + 1 ≤ mc) (hs : slots + 6 ≤ ms) :
    W p l e R s m args below meth c H locs cells slots (vx_MQ below Qc XC args s mc ms free) (F0 m pc ls rest) := by
  intro T hT X
  have htr : e.platform.stackTraces = false := (show e.platform.stackTraces = l.stackTraces by rw [X.admits.platform]).trans hl
  have Y := vx_rebase X (R' := { frames := R.frames, locals := R.locals, cells := 1, slots := 6 }) (Nat.le_refl _) (Nat.le_refl _) hRcells hRslots
  obtain ⟨s', hA⟩ : ∃ z, z = (T.setVm s.vm).setFrames (.invoking m args :: below) := ⟨_, rfl⟩
  rw [← hA] at Y
  have hvm : s'.vm = s.vm := by rw [hA]; rfl
  have hhp : s'.heap = H := by rw [hA]; exact hT
  have hW0 : s.WarmedH s'.vm := by rw [hvm]; exact State.WarmedH.refl s
  have hat' : ∀ w ∈ vx_atS own ic cls names, w.before args s' = true := fun w hw => vx_ot_at hW0 hvm.symm (hgood w (List.mem_cons_of_mem _ (List.mem_cons_of_mem _ hw))) (hat w hw)
  have hk' : (Cond.classLink own ik cls).before args s' = true := vx_ot_at hW0 hvm.symm (hgood _ List.mem_cons_self) hk
  have hini' : (Cond.initialized cls).before args s' = true := vx_ot_at hW0 hvm.symm (hgood _ (List.mem_cons_of_mem _ List.mem_cons_self)) hini
  have hU' : vx_Zq Bundle.tN "UNASSIGNED_STACK" Bundle.steD A s' s'.heap := by rw [hhp]; exact vx_Zq.moved hW0.alike (hU.kept hS.2.1)
  have hN' : vx_Zq Bundle.tN "SUPPRESSED_SENTINEL" Bundle.listD A s' s'.heap := by rw [hhp]; exact vx_Zq.moved hW0.alike (hN.kept hS.2.1)
  have h : ∀ w ∈ Bundle.ownAtoms own ic cls names, w.before args s' = true := vx_own hat' (vx_isRefq hU'.1) (vx_isRefq hN'.1) hU'.2.word hN'.2.word
  have hown' : s'.vm.findClass own = some m.cls := by rw [hvm]; exact hown
  have hins : (Cond.instantiable cls 6).before args s' = true := h _ (by simp [Bundle.ownAtoms])
  obtain ⟨vm₁, cX, kX, hfX, hkX, -, -, X₁, st1⟩ := Y.newCold hexec (own := own) (C := cls) (index := ik) (n := 6) hown' hk' hins hini'
    (g := F0 m pc ls rest) rfl (by rw [hb]; exact d0) (Nat.le_refl _) (Nat.le_refl _)
  generalize hT1 : (T.setVm vm₁).pushCell { cls := cX, slots := kX.instanceTypes.map defaultValue, vm := .none } = T1 at X₁ st1
  have hcat : (Value.ref T.heap.size).category = 1 := rfl
  have hcellA : T1.heap[T.heap.size]? = some (freshCell cX kX) := by rw [← hT1]; exact State.heap_pushCell_size _ _
  have d3' : decode c.code (pc + 3) = .ok (.dup, 1) := by rw [hb]; exact d3
  have d4' : decode c.code (pc + 4) = .ok (.ldc is, 2) := by rw [hb]; exact d4
  have hstr' : vk_R own is text sa s' := vk_R.warm hW0 hstr
  obtain ⟨U, hsteps, hrun, hend, hW, hsame, ce, hce, hO⟩ := X₁.ctorThrowS hexec htr (own := own) (cls := cls) (names := names) (ic := ic) hown' hcls hnames h (fun x hx => nomatch hx) hfX hkX hcellA (by rw [hhp, hT]; exact Nat.le_refl _) (msg := .ref sa) rfl
    (g := { method := m, pc := pc + 6, locals := ls, stack := .ref sa :: .ref T.heap.size :: .ref T.heap.size :: rest, locked := none }) rfl hsize rfl rfl (rest := rest) rfl
    (by rw [hb]; exact d6) (by rw [hb]; exact d9) hout hRframes (by simp only [List.map_cons, List.sum_cons, hcat]; omega) hlocks
  obtain ⟨f1, f2⟩ := vx_frame hsame
  rw [hhp] at f1 f2
  have hWs : s.WarmedH U.vm := State.WarmedH.trans hW0 hW
  have hcl : s.vm.findClass cls = some ce.cls := by
    have h9 := hO.cls
    rw [hvm] at h9
    exact h9
  have hall : s.sameButNew ({ U with vm := s.vm } : State) locs mc ms := by
    subst hA
    obtain ⟨e1, e2⟩ := hsame
    rw [State.setFrames_setFrames] at e1
    have h2 : (T.setVm s.vm).sameButNew ({ U with vm := s.vm } : State) [] (0 + 1) (0 + 6) := ⟨e1, e2⟩
    have h3 := X.same.trans h2
    rw [List.append_nil] at h3
    exact h3.mono hc hs
  refine ⟨U, ?_, .threw T.heap.size, hrun, hend, Or.inr ⟨T.heap.size, rfl, cls, ce, locs, hx U hWs.alike f1 (fun q hq => f2 q hq (fun z hz => nomatch hz)), hce, hO.vm, hcl, hWs, hall, hf⟩⟩
  refine st1 _ ?_
  show Steps p.tables e below (T1.setTop { method := m, pc := pc + 3, locals := ls, stack := .ref T.heap.size :: rest, locked := none }) _
  jvm_step X₁.here [X₁.here.top, hexec, d3', Value.category]
  exact X₁.ldcString hexec (own := own) (text := text) (index := is) (a := sa) hown' hstr'.1 hstr'.2
    (g := { method := m, pc := pc + 4, locals := ls, stack := .ref T.heap.size :: .ref T.heap.size :: rest, locked := none }) rfl d4' _ hsteps
/-- 'throw new E("text")', the text by a wide index -/
theorem vx_throwSW {cc : ByteArray} {pc : Nat} (hexec : p.tables.exec = Jvm.exec) (hb : c.code = cc) (hl : l.stackTraces = false) {own cls text : String} {names : List String} {ik is ic mc ms sa : Nat} {A : Nat → Prop}
    (hown : s.vm.findClass own = some m.cls) (hcls : Bundle.fit cls = true) (hnames : ∀ n ∈ names, Bundle.fit n = true)
    (hk : (Cond.classLink own ik cls).before args s = true) (hini : (Cond.initialized cls).before args s = true) (hstr : vk_R own is text sa s) (hat : ∀ w ∈ vx_atS own ic cls names, w.before args s = true)
    (hgood : ∀ w ∈ Cond.classLink own ik cls :: Cond.initialized cls :: vx_atS own ic cls names, vx_ot w = true)
    (hU : vx_Zq Bundle.tN "UNASSIGNED_STACK" Bundle.steD A s s.heap) (hN : vx_Zq Bundle.tN "SUPPRESSED_SENTINEL" Bundle.listD A s s.heap) (hS : va_S A s.heap H locs) (hsize : ls.size = c.maxLocals)
    (d0 : decode cc pc = .ok (.new ik, 3)) (d3 : decode cc (pc + 3) = .ok (.dup, 1)) (d4 : decode cc (pc + 4) = .ok (.ldc_w is, 3)) (d7 : decode cc (pc + 7) = .ok (.invokespecial ic, 3)) (d10 : decode cc (pc + 10) = .ok (.athrow, 1))
    (hout : ∀ x ∈ c.exceptionTable.toList, covers x (pc + 10) = false)
    (hRframes : names.length + 3 < R.frames) (hRlocals : (rest.map fun v => v.category).sum + (13 * (names.length + 1) + 43) ≤ R.locals) (hRcells : cells + 1 ≤ R.cells) (hRslots : slots + 6 ≤ R.slots) (hlocks : meth.locks = false)
    (hx : ∀ t : State, s.vm.Alike t.vm → H.size ≤ t.heap.size → (∀ q : Nat, q < H.size → t.heap[q]? = H[q]?) → XC cls s t)
    (hf : ∀ z ∈ locs, free z.base) (hc : cells + 1 ≤ mc) (hs : slots + 6 ≤ ms) :
    W p l e R s m args below meth c H locs cells slots (vx_MQ below Qc XC args s mc ms free) (F0 m pc ls rest) := by
  intro T hT X
  have htr : e.platform.stackTraces = false := (show e.platform.stackTraces = l.stackTraces by rw [X.admits.platform]).trans hl
  have Y := vx_rebase X (R' := { frames := R.frames, locals := R.locals, cells := 1, slots := 6 }) (Nat.le_refl _) (Nat.le_refl _) hRcells hRslots
  obtain ⟨s', hA⟩ : ∃ z, z = (T.setVm s.vm).setFrames (.invoking m args :: below) := ⟨_, rfl⟩
  rw [← hA] at Y
  have hvm : s'.vm = s.vm := by rw [hA]; rfl
  have hhp : s'.heap = H := by rw [hA]; exact hT
  have hW0 : s.WarmedH s'.vm := by rw [hvm]; exact State.WarmedH.refl s
  have hat' : ∀ w ∈ vx_atS own ic cls names, w.before args s' = true := fun w hw => vx_ot_at hW0 hvm.symm (hgood w (List.mem_cons_of_mem _ (List.mem_cons_of_mem _ hw))) (hat w hw)
  have hk' : (Cond.classLink own ik cls).before args s' = true := vx_ot_at hW0 hvm.symm (hgood _ List.mem_cons_self) hk
  have hini' : (Cond.initialized cls).before args s' = true := vx_ot_at hW0 hvm.symm (hgood _ (List.mem_cons_of_mem _ List.mem_cons_self)) hini
  have hU' : vx_Zq Bundle.tN "UNASSIGNED_STACK" Bundle.steD A s' s'.heap := by rw [hhp]; exact vx_Zq.moved hW0.alike (hU.kept hS.2.1)
  have hN' : vx_Zq Bundle.tN "SUPPRESSED_SENTINEL" Bundle.listD A s' s'.heap := by rw [hhp]; exact vx_Zq.moved hW0.alike (hN.kept hS.2.1)
  have h : ∀ w ∈ Bundle.ownAtoms own ic cls names, w.before args s' = true := vx_own hat' (vx_isRefq hU'.1) (vx_isRefq hN'.1) hU'.2.word hN'.2.word
  have hown' : s'.vm.findClass own = some m.cls := by rw [hvm]; exact hown
  have hins : (Cond.instantiable cls 6).before args s' = true := h _ (by simp [Bundle.ownAtoms])
  obtain ⟨vm₁, cX, kX, hfX, hkX, -, -, X₁, st1⟩ := Y.newCold hexec (own := own) (C := cls) (index := ik) (n := 6) hown' hk' hins hini'
    (g := F0 m pc ls rest) rfl (by rw [hb]; exact d0) (Nat.le_refl _) (Nat.le_refl _)
  generalize hT1 : (T.setVm vm₁).pushCell { cls := cX, slots := kX.instanceTypes.map defaultValue, vm := .none } = T1 at X₁ st1
  have hcat : (Value.ref T.heap.size).category = 1 := rfl
  have hcellA : T1.heap[T.heap.size]? = some (freshCell cX kX) := by rw [← hT1]; exact State.heap_pushCell_size _ _
  have d3' : decode c.code (pc + 3) = .ok (.dup, 1) := by rw [hb]; exact d3
  have d4' : decode c.code (pc + 4) = .ok (.ldc_w is, 3) := by rw [hb]; exact d4
  have hstr' : vk_R own is text sa s' := vk_R.warm hW0 hstr
  obtain ⟨U, hsteps, hrun, hend, hW, hsame, ce, hce, hO⟩ := X₁.ctorThrowS hexec htr (own := own) (cls := cls) (names := names) (ic := ic) hown' hcls hnames h (fun x hx => nomatch hx) hfX hkX hcellA (by rw [hhp, hT]; exact Nat.le_refl _) (msg := .ref sa) rfl
    (g := { method := m, pc := pc + 7, locals := ls, stack := .ref sa :: .ref T.heap.size :: .ref T.heap.size :: rest, locked := none }) rfl hsize rfl rfl (rest := rest) rfl
    (by rw [hb]; exact d7) (by rw [hb]; exact d10) hout hRframes (by simp only [List.map_cons, List.sum_cons, hcat]; omega) hlocks
  obtain ⟨f1, f2⟩ := vx_frame hsame
  rw [hhp] at f1 f2
  have hWs : s.WarmedH U.vm := State.WarmedH.trans hW0 hW
  have hcl : s.vm.findClass cls = some ce.cls := by
    have h9 := hO.cls
    rw [hvm] at h9
    exact h9
  have hall : s.sameButNew ({ U with vm := s.vm } : State) locs mc ms := by
    subst hA
    obtain ⟨e1, e2⟩ := hsame
    rw [State.setFrames_setFrames] at e1
    have h2 : (T.setVm s.vm).sameButNew ({ U with vm := s.vm } : State) [] (0 + 1) (0 + 6) := ⟨e1, e2⟩
    have h3 := X.same.trans h2
    rw [List.append_nil] at h3
    exact h3.mono hc hs
  refine ⟨U, ?_, .threw T.heap.size, hrun, hend, Or.inr ⟨T.heap.size, rfl, cls, ce, locs, hx U hWs.alike f1 (fun q hq => f2 q hq (fun z hz => nomatch hz)), hce, hO.vm, hcl, hWs, hall, hf⟩⟩
  refine st1 _ ?_
  show Steps p.tables e below (T1.setTop { method := m, pc := pc + 3, locals := ls, stack := .ref T.heap.size :: rest, locked := none }) _
  jvm_step X₁.here [X₁.here.top, hexec, d3', Value.category]
  exact X₁.ldcStringW hexec (own := own) (text := text) (index := is) (a := sa) hown' hstr'.1 hstr'.2
    (g := { method := m, pc := pc + 4, locals := ls, stack := .ref T.heap.size :: .ref T.heap.size :: rest, locked := none }) rfl d4' _ hsteps
end Ends
section Bodies
variable {l : Launch}
theorem vx_ofW {y : MethodName} {ws ws' : List Cond} {rm : Room} {Pc : Array Value → State → Prop} {Qc : Array Value → State → Outcome → State → Prop} {XC : String → State → State → Prop} {mc ms : Nat} {free : Addr → Prop} {cc : ByteArray} {maxL : Nat} {ret : Option FieldType}
    (hy : plainName y.cls = true) (hw : ws = Cond.code y cc maxL ret :: ws')
    (body : ∀ p e s m args below meth c s₁, BodyLoose p l y (headSpec ws rm) cc maxL ret e s m args below meth c s₁ → c.maxLocals = maxL → (∀ x ∈ c.exceptionTable.toList, False) → Pc args s →
      W p l e (headSpec ws rm).room s m args below meth c s.heap [] 0 0 (vx_MQ below Qc XC args s mc ms free) (entryFrame m args maxL)) : vx_Met l y ws rm Pc Qc XC mc ms free := by
  refine MetFree.of_bodyS (code := cc) (maxLocals := maxL) (ret := ret) hy ?_ ?_
  · intro args s m h hn
    obtain ⟨meth, c, h1, h2, h3, h4, h5, h6, -, -⟩ := Cond.code_spec hn (atoms_spec (ws := ws) h _ (by rw [hw]; exact List.mem_cons_self))
    exact ⟨meth, c, h1, h2, h3, h4, h5, h6⟩
  · intro p e s m args below meth c s₁ B hml hP _
    have hh0 : s₁.heap = s.heap := by rw [B.state]; rfl
    have ht : ∀ x ∈ c.exceptionTable.toList, False := by
      obtain ⟨meth9, c9, h1, h2, -, -, -, -, h7, -⟩ := Cond.code_spec B.named (atoms_spec (ws := ws) B.pre _ (by rw [hw]; exact List.mem_cons_self))
      cases Option.some.inj (h1.symm.trans B.method)
      cases Option.some.inj (h2.symm.trans (Stand.of_body B).code)
      intro x hx
      rw [Array.isEmpty_iff.mp h7] at hx
      cases hx
    obtain ⟨t, a1, o, b1, b2, b3⟩ := body p e s m args below meth c s₁ B hml ht hP s₁ hh0 (Stand.of_body B)
    exact ⟨t, o, a1, b1, b2, b3⟩
/-- the table of a body with handlers -/
theorem vx_table {p : Program} {x y : MethodName} {S : Spec} {cc bytes : ByteArray} {maxL maxL' : Nat} {ret ret' : Option FieldType} {e : Env} {s s₁ : State} {m : MethodId} {args : Array Value} {below : List Frame} {meth : Method} {c : Code} {hh : List (Nat × Nat × Nat × Nat)}
    (B : BodyLoose p l y S cc maxL ret e s m args below meth c s₁) (h : (Cond.codeWith y bytes maxL' ret' hh).before args s = true) : c.exceptionTable.toList = tableOf hh := by
  obtain ⟨m9, meth9, c9, hn9, h1, h2, -, -, h6, -⟩ := Cond.codeWith_spec h
  cases Option.some.inj (hn9.symm.trans B.named)
  cases Option.some.inj (h1.symm.trans B.method)
  cases Option.some.inj (h2.symm.trans (Stand.of_body B).code)
  rw [← h6, table_eq]
end Bodies
end VXA
/-! ===== END ===== -/
/-! ===== BEGIN a static call of a method with an exception table ===== -/
section VXS
variable {p : Program} {l : Launch} {e : Env} {R : Room} {s : State} {m : MethodId} {args : Array Value} {below : List Frame} {meth : Method} {c : Code} {T : State} {H : Heap} {locs : List Loc} {cells slots : Nat}
abbrev vx_CSW (R : Room) (s : State) (args : Array Value) (own : String) (index : Nat) (y : MethodName) (bytes : ByteArray) (maxL : Nat) (ret : Option FieldType) (hh : List (Nat × Nat × Nat × Nat)) (ws : List Cond) (rm : Room) (mc ms n : Nat) : Prop :=
  (rm.cells = mc ∧ rm.slots = ms ∧ rm.frames + 1 ≤ R.frames ∧ 8 + (maxL + 11) + rm.locals ≤ R.locals ∧ (∀ w ∈ ws, ∀ (a' : Array Value) (U : State), s.WarmedH U.vm → w.before a' U = true) ∧ Cond.codeWith y bytes maxL ret hh ∈ ws) ∧
  (Cond.codeWith y bytes maxL ret hh).before args s = true ∧ (Cond.initialized y.cls).before args s = true ∧ (y.cls ≠ "java/lang/invoke/MethodHandle" ∧ y.cls ≠ "java/lang/invoke/VarHandle") ∧
  (∀ sig, parseMethodDescriptor y.desc = some sig → n = sig.parameters.length) ∧ (Cond.methodLink own index y).before args s = true ∧ (Cond.static y).before args s = true
theorem vx_cwSW {own : String} {index maxL mc ms : Nat} {y : MethodName} {bytes : ByteArray} {ret : Option FieldType} {hh : List (Nat × Nat × Nat × Nat)} {Ts ws ws' : List Cond} {rm : Room} (n : Nat) (ht : ∀ w ∈ Ts, w.before args s = true) (hT : GoodIn Ts (va_wsS own index y ws)) (hw : ws = Cond.codeWith y bytes maxL ret hh :: ws') (hrc : rm.cells = mc) (hrs : rm.slots = ms)
    (hd : y.cls ≠ "java/lang/invoke/MethodHandle" ∧ y.cls ≠ "java/lang/invoke/VarHandle" ∧ (parseMethodDescriptor y.desc).map (fun d => d.parameters.length) = some n) (hR : rm.frames + 1 ≤ R.frames ∧ 8 + (maxL + 11) + rm.locals ≤ R.locals) :
    vx_CSW R s args own index y bytes maxL ret hh ws rm mc ms n := by
  have ok : ∀ w ∈ va_wsS own index y ws, w.before args s = true := fun w h => ht w (hT w h).1
  have hG : GoodIn Ts ws := fun w h => hT w (by unfold va_wsS; exact List.mem_append_right _ h)
  have hc : Cond.codeWith y bytes maxL ret hh ∈ ws := by rw [hw]; exact List.mem_cons_self
  refine ⟨⟨hrc, hrs, hR.1, hR.2, pay_in ht hG, hc⟩, ht _ (hG _ hc).1, ok _ (by simp [va_wsS]), ⟨hd.1, hd.2.1⟩, fun sig h => ?_, ok _ (by simp [va_wsS]), ok _ (by simp [va_wsS])⟩
  have h2 := hd.2.2
  rw [h] at h2
  exact (Option.some.inj h2).symm
theorem vx_callSW (X : Stand p l e R s m args below meth c T locs cells slots) (hexec : p.tables.exec = Jvm.exec) {own : String} {index : Nat} {y : MethodName} {bytes : ByteArray} {maxL : Nat} {ret : Option FieldType} {hh : List (Nat × Nat × Nat × Nat)}
    (hown : s.vm.findClass own = some m.cls) (hlink : (Cond.methodLink own index y).before args s = true) (hstat : (Cond.static y).before args s = true) (hinit : (Cond.initialized y.cls).before args s = true)
    (hcode : (Cond.codeWith y bytes maxL ret hh).before args s = true) (hy : y.cls ≠ "java/lang/invoke/MethodHandle" ∧ y.cls ≠ "java/lang/invoke/VarHandle")
    {W9 : Nat} {Pre : Pt → Array Value → Prop} {Post : Pt → Array Value → Option Value → Pt → Prop} (hK : Back l R p e below s args y 3 W9 Pre Post)
    {g : JFrame} (hg : g.method = m) (hsize : g.locals.size = c.maxLocals) {argsL rest : List Value} (hlen : ∀ sig, parseMethodDescriptor y.desc = some sig → argsL.length = sig.parameters.length)
    (hstack : g.stack = argsL.reverse ++ rest) (hW : 2 * g.monitorRoom + (rest.map fun v => v.category).sum ≤ W9) (hdg : decode c.code g.pc = .ok (.invokestatic index, 3))
    (hpre : ∀ vm₁, s.WarmedH vm₁ → Pre ⟨T.setVm vm₁, locs, cells, slots⟩ argsL.toArray) :
    ∃ (v : Option Value) (vm₁ : Vm) (B : Pt), s.WarmedH vm₁ ∧ Stand p l e R s m args below meth c B.U B.locs B.cells B.slots ∧ Post ⟨T.setVm vm₁, locs, cells, slots⟩ argsL.toArray v B ∧
      ∀ target, Steps p.tables e below (B.U.setTop { g with pc := g.pc + 3, stack := v.toList ++ rest }) target → Steps p.tables e below (T.setTop g) target := by
  obtain ⟨mk, methM, cM, hnamed, hmethM, -, -, -, -, -, -, hsigM⟩ := Cond.codeWith_spec hcode
  have hstatic : methM.isStatic = true := Cond.static_spec hnamed hmethM hstat
  obtain ⟨kP, hkP, -⟩ := className_of_methodNamed hnamed
  have hinitP : kP.init = .initialized := Cond.initialized_spec (findClass_of_methodNamed hnamed) hkP hinit
  obtain ⟨vm₁, X₁, hstep₁⟩ := X.invokestatic hexec hown hlink hnamed hmethM hstatic hkP hinitP hy (g := g) hg (argsL := argsL) (rest := rest) (hlen _ hsigM) hstack hdg
  obtain ⟨v, B, X', hpost, hsteps⟩ := hK m meth c ⟨T.setVm vm₁, locs, cells, slots⟩ { g with stack := rest } (.invokestatic index) mk argsL.toArray X₁ hg hsize hdg hW (X₁.named hnamed) (hpre vm₁ X₁.warmed)
  exact ⟨v, vm₁, B, X₁.warmed, X', hpost, fun target h => hstep₁ _ fun acts => by rw [doInvoke_state]; exact hsteps.trans h⟩
theorem vx_runSW {y : MethodName} {bytes cc : ByteArray} {maxL nL mc ms n index : Nat} {ret : Option FieldType} {hh : List (Nat × Nat × Nat × Nat)} {ws : List Cond} {rm : Room} {Pc : Array Value → State → Prop} {Qc : Array Value → State → Outcome → State → Prop} {free : Addr → Prop} {Ts : List Cond} {own : String} {As rest : List Value} {g : JFrame}
    (S : CallFix p m c cc nL s args Ts own) (hM : Met l y ws rm Pc Qc mc ms free) (cw : vx_CSW R s args own index y bytes maxL ret hh ws rm mc ms n) (hp : PreS s H Pc As)
    (hg : g.method = m) (hn : As.length = n) (hsize : g.locals.size = nL) (hstack : g.stack = As.reverse ++ rest) (hW : 2 * g.monitorRoom + (rest.map fun v => v.category).sum ≤ 8) (hdg : decode cc g.pc = .ok (.invokestatic index, 3)) (hf : cells + mc ≤ R.cells ∧ slots + ms ≤ R.slots) :
    va_Run p l e R s m args below meth c H locs cells slots mc ms g rest (Qc As.toArray) (free) := by
  obtain ⟨⟨hrc, hrs, hfr, hlo, hws, hcw⟩, hcode, hini, hy, hlen, hl, hstt⟩ := cw
  have hK : Back l R p e below s args y 3 8 (PreOf R mc ms Pc) (PostOf Qc mc ms free) := va_backW (hh := hh) (bytes := bytes) (maxL := maxL) (ret := ret) hM hp.1 hrc hrs hfr hlo hws hcw (fun a' U hW => word_at hW (Or.inl (by first | rfl | simp [Cond.onTables, Cond.keeps, Cond.steady])) hini)
  obtain ⟨hx, hb, hml, ho, -⟩ := S
  intro T hT X
  obtain ⟨v, vm₁, ⟨U', l2, c2, s2⟩, hW₁, X', ⟨g', mk, t, L, e1, e2, hq, h1, hL, h2, h3⟩, st⟩ := vx_callSW X hx (hh := hh) (bytes := bytes) (maxL := maxL) (ret := ret) ho hl hstt hini hcode hy hK hg (hsize.trans hml.symm) (argsL := As) (rest := rest) (fun sig h => hn.trans (hlen sig h)) hstack hW (by rw [hb]; exact hdg)
    (fun vm₁ hW₁ => ⟨hf.1, hf.2, hp.2 (T.setVm vm₁) hT hW₁⟩)
  dsimp only [Pt.U, Pt.locs, Pt.cells, Pt.slots] at X' e1 e2 h1 h2 h3 st
  subst h1; subst h2; subst h3
  exact ⟨v, (T.setVm vm₁).calling g' mk As.toArray, t, U', L, hT, X', hL, e1, e2, hq, st⟩
/-- a thing of a world lies in the heap -/
theorem vx_lt {D : va_G} {cl : List vw_C} {ws : va_W} {H1 : Heap} (h : va_P D cl ws H1) {k : Nat} {q : Nat × va_E} (hk : ws[k]? = some q) : q.1 < H1.size := (h k q hk).lt
end VXS
/-! ===== END ===== -/
/-! ===== BEGIN methods with a table of their own: called by a name, returning or throwing ===== -/
section VXH
/-! vx_backW, vx_callVX, vx_callSX, vx_callVW, vx_runVW, vx_runVX, vx_runSX, vx_ofWH follow the same proofs as their sisters above (Free/Laws.lean, Shelf42/LK1.lean); vx_outP calls Shelf42/NT130.lean (outThrough). -/
section
variable {l : Launch} {R : Room} {p : Program} {e : Env} {below : List Frame} {s : State} {sargs : Array Value} {y : MethodName} {len W9 : Nat}
theorem vx_backW {ws : List Cond} {rm : Room} {Pc : Array Value → State → Prop} {Qc : Array Value → State → Outcome → State → Prop} {XC : String → State → State → Prop} {mc ms : Nat} {free : Addr → Prop} {bytes : ByteArray} {maxL : Nat} {ret : Option FieldType} {hh : List (Nat × Nat × Nat × Nat)}
    (hM : vx_Met l y ws rm Pc Qc XC mc ms free) (hblind : FrameBlind Pc) (hrc : rm.cells = mc) (hrs : rm.slots = ms)
    (hframes : rm.frames + 1 ≤ R.frames) (hlocals : W9 + (maxL + 11) + rm.locals ≤ R.locals)
    (hws : ∀ w ∈ ws, ∀ a' U, s.WarmedH U.vm → w.before a' U = true) (hcode : Cond.codeWith y bytes maxL ret hh ∈ ws) (hinit : ∀ a' U, s.WarmedH U.vm → (Cond.initialized y.cls).before a' U = true) :
    vx_Back l R p e below s sargs y len W9 (PreOf R mc ms Pc) (PostOf Qc mc ms free) (vx_Post XC mc ms free) := by
  intro m meth c A g ig mk a X hg hsize hdg hW hn hp
  have h1 : (headSpec ws rm).pre.before a A.U = true := atoms_intro fun w hw => hws w hw _ _ X.warmed
  have h2 : (Cond.codeWith y bytes maxL ret hh).before a A.U = true := hws _ hcode _ _ X.warmed
  have h3 : (Cond.initialized y.cls).before a A.U = true := hinit _ _ X.warmed
  have h4 : A.cells + (headSpec ws rm).room.cells ≤ R.cells := by rw [show (headSpec ws rm).room.cells = mc from hrc]; exact hp.1
  have h5 : A.slots + (headSpec ws rm).room.slots ≤ R.slots := by rw [show (headSpec ws rm).room.slots = ms from hrs]; exact hp.2.1
  have hPc : Pc a (A.U.calling g mk a) := hblind _ _ _ _ hp.2.2
  obtain ⟨U, Ls, c0, s0⟩ := A
  dsimp only [Pt.U, Pt.locs, Pt.cells, Pt.slots] at h1 h2 h3 h4 h5 X hn hPc ⊢
  obtain ⟨m9, methY, cY, hn9, hmY, hcY, -, hlY, -⟩ := Cond.codeWith_spec h2
  cases Option.some.inj (hn9.symm.trans hn)
  obtain ⟨kY, hkY, -⟩ := className_of_methodNamed hn
  have hinitY : kY.init = .initialized := Cond.initialized_spec (findClass_of_methodNamed hn) hkY h3
  have h : At U g.method c below := by rw [hg]; exact X.here
  have hlocals9 : W9 + (maxL + 11) + (headSpec ws rm).room.locals ≤ R.locals := hlocals
  have happ : (headSpec ws rm).appliesLoose y e.platform (U.calling g mk a) = true :=
    Spec.appliesLoose_calling (g := g) h hdg hn hkY hinitY
      (X.room_calling (g := g) (R' := (headSpec ws rm).room) hsize hmY hcY hframes (by rw [hlY]; omega) h4 h5) h1
  obtain ⟨mid, hmid⟩ := h.above
  have hfr : (U.setTop g).frames = (.java g :: mid) ++ below := by rw [State.frames_setTop' g h.top, hmid]; rfl
  obtain ⟨o, s₂, hsteps, -, hend, hq⟩ := Steps.callFree hM p X.admits X.cas X.clock (acts := []) hfr happ hPc trivial
  have hq' : vx_Q Qc XC mc ms free a (U.calling g mk a) o s₂ := hq
  rw [State.frames_setTop' g h.top] at hend
  obtain ⟨g₀, hg0⟩ := Option.isSome_iff_exists.mp h.top
  obtain ⟨r, hr⟩ := State.topJava?_eq_some.mp hg0
  have hr' : (({ U with heap := s₂.heap, slotsUsed := s₂.slotsUsed } : State).setVm s₂.vm).frames = .java g₀ :: r := hr
  rcases hq' with ⟨hqc, L, hfe, hL⟩ | ⟨q, rfl, E, ce, L, hx, hce, hcv, hcl, hW₂, hsm, hL⟩
  · obtain ⟨⟨v, rfl⟩, hW₂, e2, q2, q3, q4, q5, q6⟩ := id hfe
    have e3 : s₂ = ({ (U.calling g mk a).setFrames s₂.frames with heap := s₂.heap, slotsUsed := s₂.slotsUsed } : State).setVm s₂.vm := by
      have : s₂ = ({ s₂ with vm := (U.calling g mk a).vm } : State).setVm s₂.vm := rfl
      rw [e2] at this
      exact this
    obtain ⟨c₂, i₂, len₂, hc₂, hd₂, hf₂⟩ := hend
    have hW' : U.WarmedH s₂.vm := hW₂
    have hcc : c₂ = c := by
      have h1 : s₂.code? g.method = U.code? g.method := by
        rw [State.code?_eq, State.code?_eq, hW'.alike.method?]
      exact Option.some.inj (hc₂.symm.trans (h1.trans h.code))
    subst hcc
    have hlen : len₂ = len := by rw [hdg] at hd₂; cases hd₂; rfl
    subst hlen
    have hs₂ : s₂ = (({ U with heap := s₂.heap, slotsUsed := s₂.slotsUsed } : State).setVm s₂.vm).setTop { g with pc := g.pc + len₂, stack := v.toList ++ g.stack } := by
      refine e3.trans ?_
      rw [hf₂, State.calling_eq h.top, State.setFrames_setFrames, State.setTop_of_frames _ hr', hr]
      rfl
    have hsame : U.sameButNew ({ U with heap := s₂.heap, slotsUsed := s₂.slotsUsed } : State) L mc ms := by
      refine ⟨?_, q2, q3, q4, q5, q6⟩
      obtain ⟨t, ht, -⟩ := State.frames_cons hr
      show ({ U with heap := s₂.heap, slotsUsed := s₂.slotsUsed } : State) = { U.setFrames U.frames with heap := s₂.heap, slotsUsed := s₂.slotsUsed }
      rw [State.setFrames_self ht]
    subst hg
    refine Or.inl ⟨v, ⟨(({ U with heap := s₂.heap, slotsUsed := s₂.slotsUsed } : State).setVm s₂.vm), Ls ++ L, c0 + mc, s0 + ms⟩,
      ⟨X.admits, X.cas, X.clock, X.frames, X.room, X.hears, X.method, X.code, (X.here.setHeapUsed s₂.heap s₂.slotsUsed).setVm hW'.alike, X.tail, State.WarmedH.trans X.warmed hW', X.limits, X.bytes, X.same.trans (hsame.setVm s.vm)⟩,
      ⟨g, mk, s₂, L, rfl, rfl, hqc, rfl, hL, rfl, rfl⟩, ?_⟩
    show Steps p.tables e below _ ((({ U with heap := s₂.heap, slotsUsed := s₂.slotsUsed } : State).setVm s₂.vm).setTop { g with pc := g.pc + len₂, stack := v.toList ++ g.stack })
    rw [← hs₂]
    exact hsteps
  · obtain ⟨e2, q2, q3, q4, q5, q6⟩ := id hsm
    have e3 : s₂ = ({ (U.calling g mk a).setFrames s₂.frames with heap := s₂.heap, slotsUsed := s₂.slotsUsed } : State).setVm s₂.vm := by
      have : s₂ = ({ s₂ with vm := (U.calling g mk a).vm } : State).setVm s₂.vm := rfl
      rw [e2] at this
      exact this
    have hf₂ : s₂.frames = .throwing q :: .java g :: U.frames.tail := hend
    have hW' : U.WarmedH s₂.vm := hW₂
    have hs₂ : s₂ = ((({ U with heap := s₂.heap, slotsUsed := s₂.slotsUsed } : State).setVm s₂.vm).setTop g).pushFrame (.throwing q) := by
      refine e3.trans ?_
      rw [hf₂, State.calling_eq h.top, State.setFrames_setFrames, State.pushFrame, State.frames_setTop _ hr', State.setTop_of_frames _ hr', State.setFrames_setFrames, hr]
      rfl
    have hsame : U.sameButNew ({ U with heap := s₂.heap, slotsUsed := s₂.slotsUsed } : State) L mc ms := by
      refine ⟨?_, q2, q3, q4, q5, q6⟩
      obtain ⟨t, ht, -⟩ := State.frames_cons hr
      show ({ U with heap := s₂.heap, slotsUsed := s₂.slotsUsed } : State) = { U.setFrames U.frames with heap := s₂.heap, slotsUsed := s₂.slotsUsed }
      rw [State.setFrames_self ht]
    subst hg
    refine Or.inr ⟨q, ⟨(({ U with heap := s₂.heap, slotsUsed := s₂.slotsUsed } : State).setVm s₂.vm), Ls ++ L, c0 + mc, s0 + ms⟩,
      ⟨X.admits, X.cas, X.clock, X.frames, X.room, X.hears, X.method, X.code, (X.here.setHeapUsed s₂.heap s₂.slotsUsed).setVm hW'.alike, X.tail, State.WarmedH.trans X.warmed hW', X.limits, X.bytes, X.same.trans (hsame.setVm s.vm)⟩,
      ⟨g, mk, s₂, L, E, ce, rfl, rfl, hx, hce, hcv, hcl, rfl, hL, rfl, rfl⟩, ?_⟩
    show Steps p.tables e below _ (((({ U with heap := s₂.heap, slotsUsed := s₂.slotsUsed } : State).setVm s₂.vm).setTop g).pushFrame (.throwing q))
    rw [← hs₂]
    exact hsteps
end
variable {p : Program} {l : Launch} {e : Env} {R : Room} {s : State} {m : MethodId} {args : Array Value} {below : List Frame} {meth : Method} {c : Code} {T : State} {H : Heap} {locs : List Loc} {cells slots : Nat}
theorem vx_callVX (X : Stand p l e R s m args below meth c T locs cells slots) (hexec : p.tables.exec = Jvm.exec) {own C : String} {index : Nat} {y : MethodName} {bytes : ByteArray} {maxL : Nat} {ret : Option FieldType} {hh : List (Nat × Nat × Nat × Nat)}
    (hown : s.vm.findClass own = some m.cls) (hlink : (Cond.methodLink own index y).before args s = true) (hinst : (Cond.instanceMethod y).before args s = true) (hsel : (Cond.selects C y y).before args s = true)
    (hcode : (Cond.codeWith y bytes maxL ret hh).before args s = true) (hy : y.cls ≠ "java/lang/invoke/MethodHandle" ∧ y.cls ≠ "java/lang/invoke/VarHandle")
    {W9 : Nat} {Pre : Pt → Array Value → Prop} {Post : Pt → Array Value → Option Value → Pt → Prop} {PostX : Pt → Array Value → Addr → Pt → Prop} (hK : vx_Back l R p e below s args y 3 W9 Pre Post PostX)
    {b : Addr} {cellB : Cell} (hcell : T.heap[b]? = some cellB) (hobj : cellB.vm.isStatics = false) (hcls : s.vm.findClass C = some cellB.cls)
    {g : JFrame} (hg : g.method = m) (hsize : g.locals.size = c.maxLocals) {argsL rest : List Value} (hlen : ∀ sig, parseMethodDescriptor y.desc = some sig → argsL.length = sig.parameters.length)
    (hstack : g.stack = argsL.reverse ++ .ref b :: rest) (hW : 2 * g.monitorRoom + (rest.map fun v => v.category).sum ≤ W9) (hdg : decode c.code g.pc = .ok (.invokevirtual index, 3))
    (hpre : ∀ vm₁, s.WarmedH vm₁ → Pre ⟨T.setVm vm₁, locs, cells, slots⟩ (Value.ref b :: argsL).toArray) :
    (∃ (v : Option Value) (vm₁ : Vm) (B : Pt), s.WarmedH vm₁ ∧ Stand p l e R s m args below meth c B.U B.locs B.cells B.slots ∧ Post ⟨T.setVm vm₁, locs, cells, slots⟩ (Value.ref b :: argsL).toArray v B ∧
      ∀ target, Steps p.tables e below (B.U.setTop { g with pc := g.pc + 3, stack := v.toList ++ rest }) target → Steps p.tables e below (T.setTop g) target) ∨
    (∃ (q : Addr) (vm₁ : Vm) (B : Pt), s.WarmedH vm₁ ∧ Stand p l e R s m args below meth c B.U B.locs B.cells B.slots ∧ PostX ⟨T.setVm vm₁, locs, cells, slots⟩ (Value.ref b :: argsL).toArray q B ∧
      Steps p.tables e below (T.setTop g) ((B.U.setTop { g with stack := rest }).pushFrame (.throwing q))) := by
  obtain ⟨mk, methM, hnamed, hmethM, hstM, habM⟩ := Cond.instanceMethod_spec hinst
  obtain ⟨m8, methM', cM, hn8, hmethM', -, -, -, -, -, -, hsigM⟩ := Cond.codeWith_spec hcode
  cases Option.some.inj (hn8.symm.trans hnamed)
  cases hmethM.symm.trans hmethM'
  obtain ⟨c2, r2, m2, q1, q2, q3, q4, kP, hkP, hkPi⟩ := Cond.selects_spec hsel
  cases hcls.symm.trans q1
  cases (State.methodFound?_of_named hnamed hy).symm.trans q2
  cases hnamed.symm.trans q3
  have hselP : selectMethod e.platform s.vm cellB.cls mk = .method mk := by rw [Launch.admits_selectMethod X.admits]; exact q4
  obtain ⟨vm₁, X₁, hstep₁⟩ := X.invokevirtual hexec hown hlink hnamed hmethM hstM hkP hkPi hy (a := b) (cell := cellB) hcell
    (fun z h => by rw [h] at hobj; cases hobj) hselP hmethM habM hkP hkPi (g := g) hg (argsL := argsL) (rest := rest) (hlen _ hsigM) hstack hdg
  rcases hK m meth c ⟨T.setVm vm₁, locs, cells, slots⟩ { g with stack := rest } (.invokevirtual index) mk (Value.ref b :: argsL).toArray X₁ hg hsize hdg hW (X₁.named hnamed) (hpre vm₁ X₁.warmed) with ⟨v, B, X', hpost, hsteps⟩ | ⟨q, B, X', hpost, hsteps⟩
  · exact Or.inl ⟨v, vm₁, B, X₁.warmed, X', hpost, fun target h => hstep₁ _ fun acts => by rw [doInvoke_state]; exact hsteps.trans h⟩
  · exact Or.inr ⟨q, vm₁, B, X₁.warmed, X', hpost, hstep₁ _ fun acts => by rw [doInvoke_state]; exact hsteps⟩
theorem vx_callSX (X : Stand p l e R s m args below meth c T locs cells slots) (hexec : p.tables.exec = Jvm.exec) {own : String} {index : Nat} {y : MethodName} {bytes : ByteArray} {maxL : Nat} {ret : Option FieldType} {hh : List (Nat × Nat × Nat × Nat)}
    (hown : s.vm.findClass own = some m.cls) (hlink : (Cond.methodLink own index y).before args s = true) (hstat : (Cond.static y).before args s = true) (hinit : (Cond.initialized y.cls).before args s = true)
    (hcode : (Cond.codeWith y bytes maxL ret hh).before args s = true) (hy : y.cls ≠ "java/lang/invoke/MethodHandle" ∧ y.cls ≠ "java/lang/invoke/VarHandle")
    {W9 : Nat} {Pre : Pt → Array Value → Prop} {Post : Pt → Array Value → Option Value → Pt → Prop} {PostX : Pt → Array Value → Addr → Pt → Prop} (hK : vx_Back l R p e below s args y 3 W9 Pre Post PostX)
    {g : JFrame} (hg : g.method = m) (hsize : g.locals.size = c.maxLocals) {argsL rest : List Value} (hlen : ∀ sig, parseMethodDescriptor y.desc = some sig → argsL.length = sig.parameters.length)
    (hstack : g.stack = argsL.reverse ++ rest) (hW : 2 * g.monitorRoom + (rest.map fun v => v.category).sum ≤ W9) (hdg : decode c.code g.pc = .ok (.invokestatic index, 3))
    (hpre : ∀ vm₁, s.WarmedH vm₁ → Pre ⟨T.setVm vm₁, locs, cells, slots⟩ argsL.toArray) :
    (∃ (v : Option Value) (vm₁ : Vm) (B : Pt), s.WarmedH vm₁ ∧ Stand p l e R s m args below meth c B.U B.locs B.cells B.slots ∧ Post ⟨T.setVm vm₁, locs, cells, slots⟩ argsL.toArray v B ∧
      ∀ target, Steps p.tables e below (B.U.setTop { g with pc := g.pc + 3, stack := v.toList ++ rest }) target → Steps p.tables e below (T.setTop g) target) ∨
    (∃ (q : Addr) (vm₁ : Vm) (B : Pt), s.WarmedH vm₁ ∧ Stand p l e R s m args below meth c B.U B.locs B.cells B.slots ∧ PostX ⟨T.setVm vm₁, locs, cells, slots⟩ argsL.toArray q B ∧
      Steps p.tables e below (T.setTop g) ((B.U.setTop { g with stack := rest }).pushFrame (.throwing q))) := by
  obtain ⟨mk, methM, cM, hnamed, hmethM, -, -, -, -, -, -, hsigM⟩ := Cond.codeWith_spec hcode
  have hstatic : methM.isStatic = true := Cond.static_spec hnamed hmethM hstat
  obtain ⟨kP, hkP, -⟩ := className_of_methodNamed hnamed
  have hinitP : kP.init = .initialized := Cond.initialized_spec (findClass_of_methodNamed hnamed) hkP hinit
  obtain ⟨vm₁, X₁, hstep₁⟩ := X.invokestatic hexec hown hlink hnamed hmethM hstatic hkP hinitP hy (g := g) hg (argsL := argsL) (rest := rest) (hlen _ hsigM) hstack hdg
  rcases hK m meth c ⟨T.setVm vm₁, locs, cells, slots⟩ { g with stack := rest } (.invokestatic index) mk argsL.toArray X₁ hg hsize hdg hW (X₁.named hnamed) (hpre vm₁ X₁.warmed) with ⟨v, B, X', hpost, hsteps⟩ | ⟨q, B, X', hpost, hsteps⟩
  · exact Or.inl ⟨v, vm₁, B, X₁.warmed, X', hpost, fun target h => hstep₁ _ fun acts => by rw [doInvoke_state]; exact hsteps.trans h⟩
  · exact Or.inr ⟨q, vm₁, B, X₁.warmed, X', hpost, hstep₁ _ fun acts => by rw [doInvoke_state]; exact hsteps⟩
theorem vx_callVW (X : Stand p l e R s m args below meth c T locs cells slots) (hexec : p.tables.exec = Jvm.exec) {own C : String} {index : Nat} {y : MethodName} {bytes : ByteArray} {maxL : Nat} {ret : Option FieldType} {hh : List (Nat × Nat × Nat × Nat)}
    (hown : s.vm.findClass own = some m.cls) (hlink : (Cond.methodLink own index y).before args s = true) (hinst : (Cond.instanceMethod y).before args s = true) (hsel : (Cond.selects C y y).before args s = true)
    (hcode : (Cond.codeWith y bytes maxL ret hh).before args s = true) (hy : y.cls ≠ "java/lang/invoke/MethodHandle" ∧ y.cls ≠ "java/lang/invoke/VarHandle")
    {W9 : Nat} {Pre : Pt → Array Value → Prop} {Post : Pt → Array Value → Option Value → Pt → Prop} (hK : Back l R p e below s args y 3 W9 Pre Post)
    {b : Addr} {cellB : Cell} (hcell : T.heap[b]? = some cellB) (hobj : cellB.vm.isStatics = false) (hcls : s.vm.findClass C = some cellB.cls)
    {g : JFrame} (hg : g.method = m) (hsize : g.locals.size = c.maxLocals) {argsL rest : List Value} (hlen : ∀ sig, parseMethodDescriptor y.desc = some sig → argsL.length = sig.parameters.length)
    (hstack : g.stack = argsL.reverse ++ .ref b :: rest) (hW : 2 * g.monitorRoom + (rest.map fun v => v.category).sum ≤ W9) (hdg : decode c.code g.pc = .ok (.invokevirtual index, 3))
    (hpre : ∀ vm₁, s.WarmedH vm₁ → Pre ⟨T.setVm vm₁, locs, cells, slots⟩ (Value.ref b :: argsL).toArray) :
    ∃ (v : Option Value) (vm₁ : Vm) (B : Pt), s.WarmedH vm₁ ∧ Stand p l e R s m args below meth c B.U B.locs B.cells B.slots ∧ Post ⟨T.setVm vm₁, locs, cells, slots⟩ (Value.ref b :: argsL).toArray v B ∧
      ∀ target, Steps p.tables e below (B.U.setTop { g with pc := g.pc + 3, stack := v.toList ++ rest }) target → Steps p.tables e below (T.setTop g) target := by
  obtain ⟨mk, methM, hnamed, hmethM, hstM, habM⟩ := Cond.instanceMethod_spec hinst
  obtain ⟨m8, methM', cM, hn8, hmethM', -, -, -, -, -, -, hsigM⟩ := Cond.codeWith_spec hcode
  cases Option.some.inj (hn8.symm.trans hnamed)
  cases hmethM.symm.trans hmethM'
  obtain ⟨c2, r2, m2, q1, q2, q3, q4, kP, hkP, hkPi⟩ := Cond.selects_spec hsel
  cases hcls.symm.trans q1
  cases (State.methodFound?_of_named hnamed hy).symm.trans q2
  cases hnamed.symm.trans q3
  have hselP : selectMethod e.platform s.vm cellB.cls mk = .method mk := by rw [Launch.admits_selectMethod X.admits]; exact q4
  obtain ⟨vm₁, X₁, hstep₁⟩ := X.invokevirtual hexec hown hlink hnamed hmethM hstM hkP hkPi hy (a := b) (cell := cellB) hcell
    (fun z h => by rw [h] at hobj; cases hobj) hselP hmethM habM hkP hkPi (g := g) hg (argsL := argsL) (rest := rest) (hlen _ hsigM) hstack hdg
  obtain ⟨v, B, X', hpost, hsteps⟩ := hK m meth c ⟨T.setVm vm₁, locs, cells, slots⟩ { g with stack := rest } (.invokevirtual index) mk (Value.ref b :: argsL).toArray X₁ hg hsize hdg hW (X₁.named hnamed) (hpre vm₁ X₁.warmed)
  exact ⟨v, vm₁, B, X₁.warmed, X', hpost, fun target h => hstep₁ _ fun acts => by rw [doInvoke_state]; exact hsteps.trans h⟩
abbrev vx_CVW (R : Room) (s : State) (args : Array Value) (own C : String) (index : Nat) (y : MethodName) (bytes : ByteArray) (maxL : Nat) (ret : Option FieldType) (hh : List (Nat × Nat × Nat × Nat)) (ws : List Cond) (rm : Room) (mc ms n : Nat) : Prop :=
  (rm.cells = mc ∧ rm.slots = ms ∧ rm.frames + 1 ≤ R.frames ∧ 8 + (maxL + 11) + rm.locals ≤ R.locals ∧ (∀ w ∈ ws, ∀ (a' : Array Value) (U : State), s.WarmedH U.vm → w.before a' U = true) ∧ Cond.codeWith y bytes maxL ret hh ∈ ws) ∧
  (Cond.codeWith y bytes maxL ret hh).before args s = true ∧ (Cond.initialized y.cls).before args s = true ∧ (y.cls ≠ "java/lang/invoke/MethodHandle" ∧ y.cls ≠ "java/lang/invoke/VarHandle") ∧
  (∀ sig, parseMethodDescriptor y.desc = some sig → n = sig.parameters.length) ∧ (Cond.methodLink own index y).before args s = true ∧ (Cond.instanceMethod y).before args s = true ∧ (Cond.selects C y y).before args s = true
theorem vx_cwVW {own C : String} {index maxL mc ms : Nat} {y : MethodName} {bytes : ByteArray} {ret : Option FieldType} {hh : List (Nat × Nat × Nat × Nat)} {Ts ws ws' : List Cond} {rm : Room} (n : Nat) (ht : ∀ w ∈ Ts, w.before args s = true) (hT : GoodIn Ts (wsV own index C y ws)) (hw : ws = Cond.codeWith y bytes maxL ret hh :: ws') (hrc : rm.cells = mc) (hrs : rm.slots = ms)
    (hd : y.cls = C ∧ y.cls ≠ "java/lang/invoke/MethodHandle" ∧ y.cls ≠ "java/lang/invoke/VarHandle" ∧ (parseMethodDescriptor y.desc).map (fun d => d.parameters.length) = some n) (hR : rm.frames + 1 ≤ R.frames ∧ 8 + (maxL + 11) + rm.locals ≤ R.locals) :
    vx_CVW R s args own C index y bytes maxL ret hh ws rm mc ms n := by
  obtain ⟨hC, hd⟩ := hd
  subst hC
  have ok : ∀ w ∈ wsV own index y.cls y ws, w.before args s = true := fun w h => ht w (hT w h).1
  have hG : GoodIn Ts ws := fun w h => hT w (by unfold wsV; exact List.mem_append_right _ h)
  have hc : Cond.codeWith y bytes maxL ret hh ∈ ws := by rw [hw]; exact List.mem_cons_self
  refine ⟨⟨hrc, hrs, hR.1, hR.2, pay_in ht hG, hc⟩, ht _ (hG _ hc).1, ok _ (by simp [wsV]), ⟨hd.1, hd.2.1⟩, fun sig h => ?_, ok _ (by simp [wsV]), ok _ (by simp [wsV]), ok _ (by simp [wsV])⟩
  have h2 := hd.2.2
  rw [h] at h2
  exact (Option.some.inj h2).symm
theorem vx_runVW {y : MethodName} {bytes cc : ByteArray} {maxL nL mc ms n index : Nat} {ret : Option FieldType} {hh : List (Nat × Nat × Nat × Nat)} {ws : List Cond} {rm : Room} {Pc : Array Value → State → Prop} {Qc : Array Value → State → Outcome → State → Prop} {free : Addr → Prop} {Ts : List Cond} {own C : String} {b : Addr} {As rest : List Value} {g : JFrame}
    (S : CallFix p m c cc nL s args Ts own) (hM : Met l y ws rm Pc Qc mc ms free) (cw : vx_CVW R s args own C index y bytes maxL ret hh ws rm mc ms n) (hp : PreV s H C b Pc As)
    (hg : g.method = m) (hn : As.length = n) (hsize : g.locals.size = nL) (hstack : g.stack = As.reverse ++ .ref b :: rest) (hW : 2 * g.monitorRoom + (rest.map fun v => v.category).sum ≤ 8) (hdg : decode cc g.pc = .ok (.invokevirtual index, 3)) (hf : cells + mc ≤ R.cells ∧ slots + ms ≤ R.slots) :
    va_Run p l e R s m args below meth c H locs cells slots mc ms g rest (Qc (Value.ref b :: As).toArray) free := by
  obtain ⟨⟨hrc, hrs, hfr, hlo, hws, hcw⟩, hcode, hini, hy, hlen, hl, hin, hse⟩ := cw
  have hK : Back l R p e below s args y 3 8 (PreOf R mc ms Pc) (PostOf Qc mc ms free) := va_backW (hh := hh) (bytes := bytes) (maxL := maxL) (ret := ret) hM hp.1 hrc hrs hfr hlo hws hcw (fun a' U hW => word_at hW (Or.inl (by first | rfl | simp [Cond.onTables, Cond.keeps, Cond.steady])) hini)
  obtain ⟨hx, hb, hml, ho, -⟩ := S
  obtain ⟨-, ⟨cellB, hcB, hoB, hclB⟩, hPc⟩ := hp
  intro T hT X
  obtain ⟨v, vm₁, ⟨U', l2, c2, s2⟩, hW₁, X', ⟨g', mk, t, L, e1, e2, hq, h1, hL, h2, h3⟩, st⟩ := vx_callVW X hx (C := C) (hh := hh) (bytes := bytes) (maxL := maxL) (ret := ret) ho hl hin hse hcode hy hK (by rw [hT]; exact hcB) hoB hclB hg (hsize.trans hml.symm) (argsL := As) (rest := rest) (fun sig h => hn.trans (hlen sig h)) hstack hW (by rw [hb]; exact hdg)
    (fun vm₁ hW₁ => ⟨hf.1, hf.2, hPc (T.setVm vm₁) hT hW₁⟩)
  dsimp only [Pt.U, Pt.locs, Pt.cells, Pt.slots] at X' e1 e2 h1 h2 h3 st
  subst h1; subst h2; subst h3
  exact ⟨v, (T.setVm vm₁).calling g' mk (Value.ref b :: As).toArray, t, U', L, hT, X', hL, e1, e2, hq, st⟩
section
variable {y : MethodName} {bytes cc : ByteArray} {maxL nL mc ms n index : Nat} {ret : Option FieldType} {ws : List Cond} {rm : Room} {Pc : Array Value → State → Prop} {Qc : Array Value → State → Outcome → State → Prop} {XC : String → State → State → Prop} {free : Addr → Prop} {Ts : List Cond} {own C : String} {b : Addr} {As rest : List Value} {g : JFrame}
theorem vx_runVX {hh : List (Nat × Nat × Nat × Nat)} (S : CallFix p m c cc nL s args Ts own) (hM : vx_Met l y ws rm Pc Qc XC mc ms free) (cw : vx_CVW R s args own C index y bytes maxL ret hh ws rm mc ms n) (hp : PreV s H C b Pc As)
    (hg : g.method = m) (hn : As.length = n) (hsize : g.locals.size = nL) (hstack : g.stack = As.reverse ++ .ref b :: rest) (hW : 2 * g.monitorRoom + (rest.map fun v => v.category).sum ≤ 8) (hdg : decode cc g.pc = .ok (.invokevirtual index, 3)) (hf : cells + mc ≤ R.cells ∧ slots + ms ≤ R.slots) :
    vx_Run p l e R s m args below meth c H locs cells slots mc ms g rest (Qc (Value.ref b :: As).toArray) XC free := by
  obtain ⟨⟨hrc, hrs, hfr, hlo, hws, hcw⟩, hcode, hini, hy, hlen, hl, hin, hse⟩ := cw
  have hK : vx_Back l R p e below s args y 3 8 (PreOf R mc ms Pc) (PostOf Qc mc ms free) (vx_Post XC mc ms free) := vx_backW (hh := hh) (bytes := bytes) (maxL := maxL) (ret := ret) hM hp.1 hrc hrs hfr hlo hws hcw (fun a' U hW => word_at hW (Or.inl (by first | rfl | simp [Cond.onTables, Cond.keeps, Cond.steady])) hini)
  obtain ⟨hx, hb, hml, ho, -⟩ := S
  obtain ⟨-, ⟨cellB, hcB, hoB, hclB⟩, hPc⟩ := hp
  intro T hT X
  rcases vx_callVX X hx (C := C) (hh := hh) (bytes := bytes) (maxL := maxL) (ret := ret) ho hl hin hse hcode hy hK (by rw [hT]; exact hcB) hoB hclB hg (hsize.trans hml.symm) (argsL := As) (rest := rest) (fun sig h => hn.trans (hlen sig h)) hstack hW (by rw [hb]; exact hdg)
    (fun vm₁ hW₁ => ⟨hf.1, hf.2, hPc (T.setVm vm₁) hT hW₁⟩) with ⟨v, vm₁, ⟨U', l2, c2, s2⟩, hW₁, X', ⟨g', mk, t, L, e1, e2, hq, h1, hL, h2, h3⟩, st⟩ | ⟨q, vm₁, ⟨U', l2, c2, s2⟩, hW₁, X', ⟨g', mk, t, L, E, ce, e1, e2, hq, hce, hcv, hcl, h1, hL, h2, h3⟩, st⟩
  · dsimp only [Pt.U, Pt.locs, Pt.cells, Pt.slots] at X' e1 e2 h1 h2 h3 st
    subst h1; subst h2; subst h3
    exact Or.inl ⟨v, (T.setVm vm₁).calling g' mk (Value.ref b :: As).toArray, t, U', L, hT, X', hL, e1, e2, hq, st⟩
  · dsimp only [Pt.U, Pt.locs, Pt.cells, Pt.slots] at X' e1 e2 h1 h2 h3 st hcl
    subst h1; subst h2; subst h3
    exact Or.inr ⟨q, (T.setVm vm₁).calling g' mk (Value.ref b :: As).toArray, t, U', L, E, ce, hT, X', hL, e1, e2, hq, hce, hcv, vx_cls hW₁ hcl, st⟩
theorem vx_runSX {hh : List (Nat × Nat × Nat × Nat)} (S : CallFix p m c cc nL s args Ts own) (hM : vx_Met l y ws rm Pc Qc XC mc ms free) (cw : vx_CSW R s args own index y bytes maxL ret hh ws rm mc ms n) (hp : PreS s H Pc As)
    (hg : g.method = m) (hn : As.length = n) (hsize : g.locals.size = nL) (hstack : g.stack = As.reverse ++ rest) (hW : 2 * g.monitorRoom + (rest.map fun v => v.category).sum ≤ 8) (hdg : decode cc g.pc = .ok (.invokestatic index, 3)) (hf : cells + mc ≤ R.cells ∧ slots + ms ≤ R.slots) :
    vx_Run p l e R s m args below meth c H locs cells slots mc ms g rest (Qc As.toArray) XC free := by
  obtain ⟨⟨hrc, hrs, hfr, hlo, hws, hcw⟩, hcode, hini, hy, hlen, hl, hstt⟩ := cw
  have hK : vx_Back l R p e below s args y 3 8 (PreOf R mc ms Pc) (PostOf Qc mc ms free) (vx_Post XC mc ms free) := vx_backW (hh := hh) (bytes := bytes) (maxL := maxL) (ret := ret) hM hp.1 hrc hrs hfr hlo hws hcw (fun a' U hW => word_at hW (Or.inl (by first | rfl | simp [Cond.onTables, Cond.keeps, Cond.steady])) hini)
  obtain ⟨hx, hb, hml, ho, -⟩ := S
  intro T hT X
  rcases vx_callSX X hx (hh := hh) (bytes := bytes) (maxL := maxL) (ret := ret) ho hl hstt hini hcode hy hK hg (hsize.trans hml.symm) (argsL := As) (rest := rest) (fun sig h => hn.trans (hlen sig h)) hstack hW (by rw [hb]; exact hdg)
    (fun vm₁ hW₁ => ⟨hf.1, hf.2, hp.2 (T.setVm vm₁) hT hW₁⟩) with ⟨v, vm₁, ⟨U', l2, c2, s2⟩, hW₁, X', ⟨g', mk, t, L, e1, e2, hq, h1, hL, h2, h3⟩, st⟩ | ⟨q, vm₁, ⟨U', l2, c2, s2⟩, hW₁, X', ⟨g', mk, t, L, E, ce, e1, e2, hq, hce, hcv, hcl, h1, hL, h2, h3⟩, st⟩
  · dsimp only [Pt.U, Pt.locs, Pt.cells, Pt.slots] at X' e1 e2 h1 h2 h3 st
    subst h1; subst h2; subst h3
    exact Or.inl ⟨v, (T.setVm vm₁).calling g' mk As.toArray, t, U', L, hT, X', hL, e1, e2, hq, st⟩
  · dsimp only [Pt.U, Pt.locs, Pt.cells, Pt.slots] at X' e1 e2 h1 h2 h3 st hcl
    subst h1; subst h2; subst h3
    exact Or.inr ⟨q, (T.setVm vm₁).calling g' mk As.toArray, t, U', L, E, ce, hT, X', hL, e1, e2, hq, hce, hcv, vx_cls hW₁ hcl, st⟩
end
end VXH
theorem vx_ofWH {l : Launch} {y : MethodName} {ws ws' : List Cond} {rm : Room} {Pc : Array Value → State → Prop} {Qc : Array Value → State → Outcome → State → Prop} {XC : String → State → State → Prop} {mc ms : Nat} {free : Addr → Prop} {cc : ByteArray} {maxL : Nat} {ret : Option FieldType} {hh : List (Nat × Nat × Nat × Nat)}
    (hy : plainName y.cls = true) (hw : ws = Cond.codeWith y cc maxL ret hh :: ws')
    (body : ∀ p e s m args below meth c s₁, BodyLoose p l y (headSpec ws rm) cc maxL ret e s m args below meth c s₁ → c.maxLocals = maxL → Pc args s →
      W p l e (headSpec ws rm).room s m args below meth c s.heap [] 0 0 (vx_MQ below Qc XC args s mc ms free) (entryFrame m args maxL)) : vx_Met l y ws rm Pc Qc XC mc ms free := by
  refine MetFree.of_bodyS (code := cc) (maxLocals := maxL) (ret := ret) hy ?_ ?_
  · intro args s m h hn
    obtain ⟨m9, meth, c, hn9, h1, h2, h3, h4, -, h5, h6, -⟩ := Cond.codeWith_spec (atoms_spec (ws := ws) h _ (by rw [hw]; exact List.mem_cons_self))
    cases hn.symm.trans hn9
    exact ⟨meth, c, h1, h2, h3, h4, h5, h6⟩
  · intro p e s m args below meth c s₁ B hml hP _
    have hh0 : s₁.heap = s.heap := by rw [B.state]; rfl
    obtain ⟨t, a1, o, b1, b2, b3⟩ := body p e s m args below meth c s₁ B hml hP s₁ hh0 (Stand.of_body B)
    exact ⟨t, o, a1, b1, b2, b3⟩
/-! ===== END ===== -/
end
section
/-! ===== BEGIN printed: names, fields, word lists, decode rows ===== -/
def RX0 : String := "CountLearners$Fractions"
def TX0 : u_T := fun k => match k with
  | _ => ("", "", "", false)
def tyX0 : Nat → FieldType := fun k => match k with
  | _ => .int
abbrev wsX00 : List Cond := u_ws RX0 TX0 0
theorem nmX0 : ∀ a, a < 0 → ∀ b, b < 0 → a ≠ b → (TX0 a).2.1 ≠ (TX0 b).2.1 := by decide +kernel
theorem tyX0_ok : ∀ k, k < 0 → parseFieldDescriptor (TX0 k).2.2.1 = some (tyX0 k) := by decide +kernel
abbrev cX0_sideOf : ByteArray := prog_2_method_2_code
def yX0_sideOf : MethodName := ⟨RX0, "sideOf", "(JJI)J"⟩
abbrev cX0_commonDivisor : ByteArray := prog_2_method_3_code
def yX0_commonDivisor : MethodName := ⟨RX0, "commonDivisor", "(JJ)J"⟩
abbrev cX0_isAbove : ByteArray := prog_2_method_4_code
def yX0_isAbove : MethodName := ⟨RX0, "isAbove", "(JJJJ)Z"⟩
def RX1 : String := "CountLearners$HiddenStates"
def TX1 : u_T := fun k => match k with
  | 0 => ("CountLearners$HiddenStates", "weights", "[I", true)
  | 1 => ("CountLearners$HiddenStates", "freshWeights", "[I", true)
  | 2 => ("CountLearners$HiddenStates", "signs", "[I", true)
  | 3 => ("CountLearners$HiddenStates", "lengths", "[I", true)
  | 4 => ("CountLearners$HiddenStates", "sums", "[J", true)
  | 5 => ("CountLearners$HiddenStates", "nextSums", "[J", true)
  | 6 => ("CountLearners$HiddenStates", "bestFrom", "[J", true)
  | _ => ("CountLearners$HiddenStates", "bestPath", "[I", true)
def tyX1 : Nat → FieldType := fun k => match k with
  | 0 => .array .int
  | 1 => .array .int
  | 2 => .array .int
  | 3 => .array .int
  | 4 => .array .long
  | 5 => .array .long
  | 6 => .array .long
  | _ => .array .int
abbrev wsX10 : List Cond := u_ws RX1 TX1 8
theorem nmX1 : ∀ a, a < 8 → ∀ b, b < 8 → a ≠ b → (TX1 a).2.1 ≠ (TX1 b).2.1 := by decide +kernel
theorem tyX1_ok : ∀ k, k < 8 → parseFieldDescriptor (TX1 k).2.2.1 = some (tyX1 k) := by decide +kernel
abbrev cX1_init : ByteArray := prog_3_method_1_code
def yX1_init : MethodName := ⟨RX1, "<init>", "()V"⟩
abbrev cX1_isRow : ByteArray := prog_3_method_2_code
def yX1_isRow : MethodName := ⟨RX1, "isRow", "(I)Z"⟩
abbrev cX1_isSign : ByteArray := prog_3_method_3_code
def yX1_isSign : MethodName := ⟨RX1, "isSign", "(I)Z"⟩
abbrev cX1_isState : ByteArray := prog_3_method_4_code
def yX1_isState : MethodName := ⟨RX1, "isState", "(I)Z"⟩
abbrev cX1_placeOf : ByteArray := prog_3_method_5_code
def yX1_placeOf : MethodName := ⟨RX1, "placeOf", "(III)I"⟩
abbrev cX1_moveAt : ByteArray := prog_3_method_6_code
def yX1_moveAt : MethodName := ⟨RX1, "moveAt", "(II)I"⟩
abbrev cX1_showAt : ByteArray := prog_3_method_7_code
def yX1_showAt : MethodName := ⟨RX1, "showAt", "(II)I"⟩
abbrev cX1_reweigh : ByteArray := prog_3_method_8_code
def yX1_reweigh : MethodName := ⟨RX1, "reweigh", "(II)I"⟩
abbrev cX1_isFullRow : ByteArray := prog_3_method_9_code
def yX1_isFullRow : MethodName := ⟨RX1, "isFullRow", "(I)Z"⟩
abbrev cX1_hasPlace : ByteArray := prog_3_method_10_code
def yX1_hasPlace : MethodName := ⟨RX1, "hasPlace", "(II)Z"⟩
abbrev cX1_append : ByteArray := prog_3_method_11_code
def yX1_append : MethodName := ⟨RX1, "append", "(II)I"⟩
abbrev cX1_signsOfAll : ByteArray := prog_3_method_12_code
def yX1_signsOfAll : MethodName := ⟨RX1, "signsOfAll", "()I"⟩
abbrev cX1_totalOf : ByteArray := prog_3_method_13_code
def yX1_totalOf : MethodName := ⟨RX1, "totalOf", "(I)J"⟩
abbrev cX1_totalThrough : ByteArray := prog_3_method_14_code
def yX1_totalThrough : MethodName := ⟨RX1, "totalThrough", "(III)J"⟩
abbrev cX1_sumInto : ByteArray := prog_3_method_15_code
def yX1_sumInto : MethodName := ⟨RX1, "sumInto", "(I)J"⟩
abbrev cX1_shown : ByteArray := prog_3_method_16_code
def yX1_shown : MethodName := ⟨RX1, "shown", "(III)I"⟩
abbrev cX1_findBestPath : ByteArray := prog_3_method_17_code
def yX1_findBestPath : MethodName := ⟨RX1, "findBestPath", "(I)Z"⟩
abbrev cX1_stateOnBestPath : ByteArray := prog_3_method_18_code
def yX1_stateOnBestPath : MethodName := ⟨RX1, "stateOnBestPath", "(I)I"⟩
abbrev cX1_bestStart : ByteArray := prog_3_method_19_code
def yX1_bestStart : MethodName := ⟨RX1, "bestStart", "()I"⟩
abbrev cX1_bestOnward : ByteArray := prog_3_method_20_code
def yX1_bestOnward : MethodName := ⟨RX1, "bestOnward", "(II)I"⟩
abbrev cX1_weightOnward : ByteArray := prog_3_method_21_code
def yX1_weightOnward : MethodName := ⟨RX1, "weightOnward", "(III)J"⟩
abbrev cX1_weighAnew : ByteArray := prog_3_method_22_code
def yX1_weighAnew : MethodName := ⟨RX1, "weighAnew", "()Z"⟩
abbrev cX1_countBestPath : ByteArray := prog_3_method_23_code
def yX1_countBestPath : MethodName := ⟨RX1, "countBestPath", "(I)V"⟩
def RX2 : String := "CountLearners$LabelledRows"
def TX2 : u_T := fun k => match k with
  | 0 => ("CountLearners$LabelledRows", "labels", "[I", true)
  | 1 => ("CountLearners$LabelledRows", "guesses", "[I", true)
  | 2 => ("CountLearners$LabelledRows", "lengths", "[I", true)
  | 3 => ("CountLearners$LabelledRows", "words", "[I", true)
  | 4 => ("CountLearners$LabelledRows", "times", "[I", true)
  | 5 => ("CountLearners$LabelledRows", "totals", "[I", true)
  | 6 => ("CountLearners$LabelledRows", "sizes", "[I", true)
  | 7 => ("CountLearners$LabelledRows", "rowCount", "I", false)
  | 8 => ("CountLearners$LabelledRows", "addedUp", "I", false)
  | _ => ("CountLearners$LabelledRows", "addedDown", "I", false)
def tyX2 : Nat → FieldType := fun k => match k with
  | 0 => .array .int
  | 1 => .array .int
  | 2 => .array .int
  | 3 => .array .int
  | 4 => .array .int
  | 5 => .array .int
  | 6 => .array .int
  | 7 => .int
  | 8 => .int
  | _ => .int
abbrev wsX20 : List Cond := u_ws RX2 TX2 10
theorem nmX2 : ∀ a, a < 10 → ∀ b, b < 10 → a ≠ b → (TX2 a).2.1 ≠ (TX2 b).2.1 := by decide +kernel
theorem tyX2_ok : ∀ k, k < 10 → parseFieldDescriptor (TX2 k).2.2.1 = some (tyX2 k) := by decide +kernel
abbrev cX2_init : ByteArray := prog_4_method_1_code
def yX2_init : MethodName := ⟨RX2, "<init>", "()V"⟩
abbrev cX2_has : ByteArray := prog_4_method_2_code
def yX2_has : MethodName := ⟨RX2, "has", "(I)Z"⟩
abbrev cX2_isFull : ByteArray := prog_4_method_3_code
def yX2_isFull : MethodName := ⟨RX2, "isFull", "()Z"⟩
abbrev cX2_isFullRow : ByteArray := prog_4_method_4_code
def yX2_isFullRow : MethodName := ⟨RX2, "isFullRow", "(I)Z"⟩
abbrev cX2_size : ByteArray := prog_4_method_5_code
def yX2_size : MethodName := ⟨RX2, "size", "()I"⟩
abbrev cX2_labelledRows : ByteArray := prog_4_method_6_code
def yX2_labelledRows : MethodName := ⟨RX2, "labelledRows", "()I"⟩
abbrev cX2_open : ByteArray := prog_4_method_7_code
def yX2_open : MethodName := ⟨RX2, "open", "(I)I"⟩
abbrev cX2_append : ByteArray := prog_4_method_8_code
def yX2_append : MethodName := ⟨RX2, "append", "(II)I"⟩
abbrev cX2_relabel : ByteArray := prog_4_method_9_code
def yX2_relabel : MethodName := ⟨RX2, "relabel", "(II)I"⟩
abbrev cX2_setAddition : ByteArray := prog_4_method_10_code
def yX2_setAddition : MethodName := ⟨RX2, "setAddition", "(II)V"⟩
abbrev cX2_timesIn : ByteArray := prog_4_method_11_code
def yX2_timesIn : MethodName := ⟨RX2, "timesIn", "(II)I"⟩
abbrev cX2_wordsIn : ByteArray := prog_4_method_12_code
def yX2_wordsIn : MethodName := ⟨RX2, "wordsIn", "(I)I"⟩
abbrev cX2_rowsIn : ByteArray := prog_4_method_13_code
def yX2_rowsIn : MethodName := ⟨RX2, "rowsIn", "(I)I"⟩
abbrev cX2_guessOf : ByteArray := prog_4_method_14_code
def yX2_guessOf : MethodName := ⟨RX2, "guessOf", "(I)I"⟩
abbrev cX2_wordSet : ByteArray := prog_4_method_15_code
def yX2_wordSet : MethodName := ⟨RX2, "wordSet", "(I)I"⟩
abbrev cX2_shareUpper : ByteArray := prog_4_method_16_code
def yX2_shareUpper : MethodName := ⟨RX2, "shareUpper", "(II)J"⟩
abbrev cX2_shareLower : ByteArray := prog_4_method_17_code
def yX2_shareLower : MethodName := ⟨RX2, "shareLower", "(I)J"⟩
abbrev cX2_weightUpper : ByteArray := prog_4_method_18_code
def yX2_weightUpper : MethodName := ⟨RX2, "weightUpper", "(II)J"⟩
abbrev cX2_weightLower : ByteArray := prog_4_method_19_code
def yX2_weightLower : MethodName := ⟨RX2, "weightLower", "(II)J"⟩
abbrev cX2_bestLabel : ByteArray := prog_4_method_20_code
def yX2_bestLabel : MethodName := ⟨RX2, "bestLabel", "(I)I"⟩
abbrev cX2_guessAnew : ByteArray := prog_4_method_21_code
def yX2_guessAnew : MethodName := ⟨RX2, "guessAnew", "()Z"⟩
abbrev cX2_startAnew : ByteArray := prog_4_method_22_code
def yX2_startAnew : MethodName := ⟨RX2, "startAnew", "()V"⟩
abbrev cX2_tally : ByteArray := prog_4_method_23_code
def yX2_tally : MethodName := ⟨RX2, "tally", "()V"⟩
abbrev cX2_tallyRow : ByteArray := prog_4_method_24_code
def yX2_tallyRow : MethodName := ⟨RX2, "tallyRow", "(II)V"⟩
def RX3 : String := "CountLearners$TextTables"
def TX3 : u_T := fun k => match k with
  | 0 => ("CountLearners$TextTables", "text", "[I", true)
  | 1 => ("CountLearners$TextTables", "behind", "[I", true)
  | 2 => ("CountLearners$TextTables", "uppers", "[J", true)
  | 3 => ("CountLearners$TextTables", "lower", "J", false)
  | _ => ("CountLearners$TextTables", "textLength", "I", false)
def tyX3 : Nat → FieldType := fun k => match k with
  | 0 => .array .int
  | 1 => .array .int
  | 2 => .array .long
  | 3 => .long
  | _ => .int
abbrev wsX30 : List Cond := u_ws RX3 TX3 5
theorem nmX3 : ∀ a, a < 5 → ∀ b, b < 5 → a ≠ b → (TX3 a).2.1 ≠ (TX3 b).2.1 := by decide +kernel
theorem tyX3_ok : ∀ k, k < 5 → parseFieldDescriptor (TX3 k).2.2.1 = some (tyX3 k) := by decide +kernel
abbrev cX3_init : ByteArray := prog_5_method_1_code
def yX3_init : MethodName := ⟨RX3, "<init>", "()V"⟩
abbrev cX3_isFull : ByteArray := prog_5_method_2_code
def yX3_isFull : MethodName := ⟨RX3, "isFull", "()Z"⟩
abbrev cX3_length : ByteArray := prog_5_method_3_code
def yX3_length : MethodName := ⟨RX3, "length", "()I"⟩
abbrev cX3_append : ByteArray := prog_5_method_4_code
def yX3_append : MethodName := ⟨RX3, "append", "(I)I"⟩
abbrev cX3_upperOf : ByteArray := prog_5_method_5_code
def yX3_upperOf : MethodName := ⟨RX3, "upperOf", "(I)J"⟩
abbrev cX3_lowerOfAll : ByteArray := prog_5_method_6_code
def yX3_lowerOfAll : MethodName := ⟨RX3, "lowerOfAll", "()J"⟩
abbrev cX3_greatest : ByteArray := prog_5_method_7_code
def yX3_greatest : MethodName := ⟨RX3, "greatest", "()I"⟩
abbrev cX3_fill : ByteArray := prog_5_method_8_code
def yX3_fill : MethodName := ⟨RX3, "fill", "(II)V"⟩
abbrev cX3_fillFirst : ByteArray := prog_5_method_9_code
def yX3_fillFirst : MethodName := ⟨RX3, "fillFirst", "()V"⟩
abbrev cX3_countBehind : ByteArray := prog_5_method_10_code
def yX3_countBehind : MethodName := ⟨RX3, "countBehind", "(II)V"⟩
abbrev cX3_putAbove : ByteArray := prog_5_method_11_code
def yX3_putAbove : MethodName := ⟨RX3, "putAbove", "()V"⟩
abbrev cX3_takeCounts : ByteArray := prog_5_method_12_code
def yX3_takeCounts : MethodName := ⟨RX3, "takeCounts", "(I)V"⟩
abbrev cX3_handDown : ByteArray := prog_5_method_13_code
def yX3_handDown : MethodName := ⟨RX3, "handDown", "(IIJ)V"⟩
def RX4 : String := "CountLearners$WordRules"
def TX4 : u_T := fun k => match k with
  | 0 => ("CountLearners$WordRules", "support", "[I", true)
  | 1 => ("CountLearners$WordRules", "having", "[I", true)
  | 2 => ("CountLearners$WordRules", "keys", "[I", true)
  | _ => ("CountLearners$WordRules", "ruleCount", "I", false)
def tyX4 : Nat → FieldType := fun k => match k with
  | 0 => .array .int
  | 1 => .array .int
  | 2 => .array .int
  | _ => .int
abbrev wsX40 : List Cond := u_ws RX4 TX4 4
theorem nmX4 : ∀ a, a < 4 → ∀ b, b < 4 → a ≠ b → (TX4 a).2.1 ≠ (TX4 b).2.1 := by decide +kernel
theorem tyX4_ok : ∀ k, k < 4 → parseFieldDescriptor (TX4 k).2.2.1 = some (tyX4 k) := by decide +kernel
abbrev cX4_init : ByteArray := prog_6_method_1_code
def yX4_init : MethodName := ⟨RX4, "<init>", "()V"⟩
abbrev cX4_has : ByteArray := prog_6_method_2_code
def yX4_has : MethodName := ⟨RX4, "has", "(I)Z"⟩
abbrev cX4_size : ByteArray := prog_6_method_3_code
def yX4_size : MethodName := ⟨RX4, "size", "()I"⟩
abbrev cX4_partOf : ByteArray := prog_6_method_4_code
def yX4_partOf : MethodName := ⟨RX4, "partOf", "(II)I"⟩
abbrev cX4_gather : ByteArray := prog_6_method_5_code
def yX4_gather : MethodName := ⟨RX4, "gather", "(LCountLearners$LabelledRows;)V"⟩
abbrev cX4_countSet : ByteArray := prog_6_method_6_code
def yX4_countSet : MethodName := ⟨RX4, "countSet", "(I)V"⟩
abbrev cX4_countPairs : ByteArray := prog_6_method_7_code
def yX4_countPairs : MethodName := ⟨RX4, "countPairs", "(II)V"⟩
abbrev cX4_keyOf : ByteArray := prog_6_method_8_code
def yX4_keyOf : MethodName := ⟨RX4, "keyOf", "(I)I"⟩
abbrev cX4_insert : ByteArray := prog_6_method_9_code
def yX4_insert : MethodName := ⟨RX4, "insert", "(I)V"⟩
def RX5 : String := "CountLearners"
def TX5 : u_T := fun k => match k with
  | 0 => ("CountLearners", "rows", "LCountLearners$LabelledRows;", true)
  | 1 => ("CountLearners", "tables", "LCountLearners$TextTables;", true)
  | 2 => ("CountLearners", "states", "LCountLearners$HiddenStates;", true)
  | _ => ("CountLearners", "rules", "LCountLearners$WordRules;", true)
def tyX5 : Nat → FieldType := fun k => match k with
  | 0 => .object "CountLearners$LabelledRows"
  | 1 => .object "CountLearners$TextTables"
  | 2 => .object "CountLearners$HiddenStates"
  | _ => .object "CountLearners$WordRules"
abbrev wsX50 : List Cond := u_ws RX5 TX5 4
theorem nmX5 : ∀ a, a < 4 → ∀ b, b < 4 → a ≠ b → (TX5 a).2.1 ≠ (TX5 b).2.1 := by decide +kernel
theorem tyX5_ok : ∀ k, k < 4 → parseFieldDescriptor (TX5 k).2.2.1 = some (tyX5 k) := by decide +kernel
abbrev cX5_init : ByteArray := prog_1_method_1_code
def yX5_init : MethodName := ⟨RX5, "<init>", "()V"⟩
abbrev cX5_row : ByteArray := prog_1_method_2_code
def yX5_row : MethodName := ⟨RX5, "row", "(I)I"⟩
abbrev cX5_word : ByteArray := prog_1_method_3_code
def yX5_word : MethodName := ⟨RX5, "word", "(II)I"⟩
abbrev cX5_label : ByteArray := prog_1_method_4_code
def yX5_label : MethodName := ⟨RX5, "label", "(II)I"⟩
abbrev cX5_addition : ByteArray := prog_1_method_5_code
def yX5_addition : MethodName := ⟨RX5, "addition", "(II)I"⟩
abbrev cX5_counted : ByteArray := prog_1_method_6_code
def yX5_counted : MethodName := ⟨RX5, "counted", "(II)I"⟩
abbrev cX5_share : ByteArray := prog_1_method_7_code
def yX5_share : MethodName := ⟨RX5, "share", "(III)J"⟩
abbrev cX5_weight : ByteArray := prog_1_method_8_code
def yX5_weight : MethodName := ⟨RX5, "weight", "(III)J"⟩
abbrev cX5_best : ByteArray := prog_1_method_9_code
def yX5_best : MethodName := ⟨RX5, "best", "(I)I"⟩
abbrev cX5_rounds : ByteArray := prog_1_method_10_code
def yX5_rounds : MethodName := ⟨RX5, "rounds", "(I)I"⟩
abbrev cX5_guess : ByteArray := prog_1_method_11_code
def yX5_guess : MethodName := ⟨RX5, "guess", "(I)I"⟩
abbrev cX5_text : ByteArray := prog_1_method_12_code
def yX5_text : MethodName := ⟨RX5, "text", "(I)I"⟩
abbrev cX5_next : ByteArray := prog_1_method_13_code
def yX5_next : MethodName := ⟨RX5, "next", "(IIII)J"⟩
abbrev cX5_likely : ByteArray := prog_1_method_14_code
def yX5_likely : MethodName := ⟨RX5, "likely", "(II)I"⟩
abbrev cX5_weigh : ByteArray := prog_1_method_15_code
def yX5_weigh : MethodName := ⟨RX5, "weigh", "(IIII)I"⟩
abbrev cX5_sign : ByteArray := prog_1_method_16_code
def yX5_sign : MethodName := ⟨RX5, "sign", "(II)I"⟩
abbrev cX5_path : ByteArray := prog_1_method_17_code
def yX5_path : MethodName := ⟨RX5, "path", "(II)I"⟩
abbrev cX5_total : ByteArray := prog_1_method_18_code
def yX5_total : MethodName := ⟨RX5, "total", "(I)J"⟩
abbrev cX5_at : ByteArray := prog_1_method_19_code
def yX5_at : MethodName := ⟨RX5, "at", "(IIII)J"⟩
abbrev cX5_learn : ByteArray := prog_1_method_20_code
def yX5_learn : MethodName := ⟨RX5, "learn", "(I)I"⟩
abbrev cX5_rule : ByteArray := prog_1_method_21_code
def yX5_rule : MethodName := ⟨RX5, "rule", "(II)I"⟩
abbrev cX5_count : ByteArray := prog_1_method_22_code
def yX5_count : MethodName := ⟨RX5, "count", "(I)I"⟩
abbrev cX5_isWithin : ByteArray := prog_1_method_23_code
def yX5_isWithin : MethodName := ⟨RX5, "isWithin", "(III)Z"⟩
abbrev cX5_isWord : ByteArray := prog_1_method_24_code
def yX5_isWord : MethodName := ⟨RX5, "isWord", "(I)Z"⟩
abbrev cX5_isLabel : ByteArray := prog_1_method_25_code
def yX5_isLabel : MethodName := ⟨RX5, "isLabel", "(I)Z"⟩
abbrev cX5_isLabelOrNone : ByteArray := prog_1_method_26_code
def yX5_isLabelOrNone : MethodName := ⟨RX5, "isLabelOrNone", "(I)Z"⟩
abbrev cX5_isSide : ByteArray := prog_1_method_27_code
def yX5_isSide : MethodName := ⟨RX5, "isSide", "(I)Z"⟩
abbrev cX5_isTable : ByteArray := prog_1_method_28_code
def yX5_isTable : MethodName := ⟨RX5, "isTable", "(II)Z"⟩
abbrev cX5_setAll : ByteArray := prog_1_method_29_code
def yX5_setAll : MethodName := ⟨RX5, "setAll", "([II)V"⟩
def RX6 : String := "CountLearnersModel"
def TX6 : u_T := fun k => match k with
  | 0 => ("CountLearnersModel", "thrown", "I", false)
  | 1 => ("CountLearnersModel", "rows", "I", false)
  | 2 => ("CountLearnersModel", "labels", "[I", true)
  | 3 => ("CountLearnersModel", "guesses", "[I", true)
  | 4 => ("CountLearnersModel", "comes", "[I", true)
  | 5 => ("CountLearnersModel", "sizes", "[I", true)
  | 6 => ("CountLearnersModel", "words", "[I", true)
  | 7 => ("CountLearnersModel", "up", "I", false)
  | 8 => ("CountLearnersModel", "down", "I", false)
  | 9 => ("CountLearnersModel", "weightAbove", "J", false)
  | 10 => ("CountLearnersModel", "weightBelow", "J", false)
  | 11 => ("CountLearnersModel", "told", "[I", true)
  | 12 => ("CountLearnersModel", "length", "I", false)
  | 13 => ("CountLearnersModel", "behind", "[I", true)
  | 14 => ("CountLearnersModel", "shares", "[J", true)
  | 15 => ("CountLearnersModel", "over", "J", false)
  | 16 => ("CountLearnersModel", "start", "[I", true)
  | 17 => ("CountLearnersModel", "move", "[I", true)
  | 18 => ("CountLearnersModel", "show", "[I", true)
  | 19 => ("CountLearnersModel", "signs", "[I", true)
  | 20 => ("CountLearnersModel", "many", "[I", true)
  | 21 => ("CountLearnersModel", "bestPath", "[I", true)
  | 22 => ("CountLearnersModel", "nextStart", "[I", true)
  | 23 => ("CountLearnersModel", "nextMove", "[I", true)
  | _ => ("CountLearnersModel", "nextShow", "[I", true)
def tyX6 : Nat → FieldType := fun k => match k with
  | 0 => .int
  | 1 => .int
  | 2 => .array .int
  | 3 => .array .int
  | 4 => .array .int
  | 5 => .array .int
  | 6 => .array .int
  | 7 => .int
  | 8 => .int
  | 9 => .long
  | 10 => .long
  | 11 => .array .int
  | 12 => .int
  | 13 => .array .int
  | 14 => .array .long
  | 15 => .long
  | 16 => .array .int
  | 17 => .array .int
  | 18 => .array .int
  | 19 => .array .int
  | 20 => .array .int
  | 21 => .array .int
  | 22 => .array .int
  | 23 => .array .int
  | _ => .array .int
abbrev wsX60 : List Cond := u_ws RX6 TX6 25
theorem nmX6 : ∀ a, a < 25 → ∀ b, b < 25 → a ≠ b → (TX6 a).2.1 ≠ (TX6 b).2.1 := by decide +kernel
theorem tyX6_ok : ∀ k, k < 25 → parseFieldDescriptor (TX6 k).2.2.1 = some (tyX6 k) := by decide +kernel
abbrev cX6_init : ByteArray := prog_8_method_1_code
def yX6_init : MethodName := ⟨RX6, "<init>", "()V"⟩
abbrev cX6_thrown : ByteArray := prog_8_method_2_code
def yX6_thrown : MethodName := ⟨RX6, "thrown", "()I"⟩
abbrev cX6_within : ByteArray := prog_8_method_3_code
def yX6_within : MethodName := ⟨RX6, "within", "(III)Z"⟩
abbrev cX6_measure : ByteArray := prog_8_method_4_code
def yX6_measure : MethodName := ⟨RX6, "measure", "(JJ)J"⟩
abbrev cX6_side : ByteArray := prog_8_method_5_code
def yX6_side : MethodName := ⟨RX6, "side", "(JJI)J"⟩
abbrev cX6_isAbove : ByteArray := prog_8_method_6_code
def yX6_isAbove : MethodName := ⟨RX6, "isAbove", "(JJJJ)Z"⟩
abbrev cX6_isRow : ByteArray := prog_8_method_7_code
def yX6_isRow : MethodName := ⟨RX6, "isRow", "(I)Z"⟩
abbrev cX6_forget : ByteArray := prog_8_method_8_code
def yX6_forget : MethodName := ⟨RX6, "forget", "()V"⟩
abbrev cX6_mayBe : ByteArray := prog_8_method_9_code
def yX6_mayBe : MethodName := ⟨RX6, "mayBe", "(I)Z"⟩
abbrev cX6_row : ByteArray := prog_8_method_10_code
def yX6_row : MethodName := ⟨RX6, "row", "(I)I"⟩
abbrev cX6_word : ByteArray := prog_8_method_11_code
def yX6_word : MethodName := ⟨RX6, "word", "(II)I"⟩
abbrev cX6_label : ByteArray := prog_8_method_12_code
def yX6_label : MethodName := ⟨RX6, "label", "(II)I"⟩
abbrev cX6_addition : ByteArray := prog_8_method_13_code
def yX6_addition : MethodName := ⟨RX6, "addition", "(II)I"⟩
abbrev cX6_asLabel : ByteArray := prog_8_method_14_code
def yX6_asLabel : MethodName := ⟨RX6, "asLabel", "(I)I"⟩
abbrev cX6_rowsOf : ByteArray := prog_8_method_15_code
def yX6_rowsOf : MethodName := ⟨RX6, "rowsOf", "(I)I"⟩
abbrev cX6_timesOf : ByteArray := prog_8_method_16_code
def yX6_timesOf : MethodName := ⟨RX6, "timesOf", "(II)I"⟩
abbrev cX6_counted : ByteArray := prog_8_method_17_code
def yX6_counted : MethodName := ⟨RX6, "counted", "(II)I"⟩
abbrev cX6_shareAbove : ByteArray := prog_8_method_18_code
def yX6_shareAbove : MethodName := ⟨RX6, "shareAbove", "(II)J"⟩
abbrev cX6_shareBelow : ByteArray := prog_8_method_19_code
def yX6_shareBelow : MethodName := ⟨RX6, "shareBelow", "(I)J"⟩
abbrev cX6_share : ByteArray := prog_8_method_20_code
def yX6_share : MethodName := ⟨RX6, "share", "(III)J"⟩
abbrev cX6_weighRow : ByteArray := prog_8_method_21_code
def yX6_weighRow : MethodName := ⟨RX6, "weighRow", "(II)V"⟩
abbrev cX6_weight : ByteArray := prog_8_method_22_code
def yX6_weight : MethodName := ⟨RX6, "weight", "(III)J"⟩
abbrev cX6_bestOf : ByteArray := prog_8_method_23_code
def yX6_bestOf : MethodName := ⟨RX6, "bestOf", "(I)I"⟩
abbrev cX6_best : ByteArray := prog_8_method_24_code
def yX6_best : MethodName := ⟨RX6, "best", "(I)I"⟩
abbrev cX6_round : ByteArray := prog_8_method_25_code
def yX6_round : MethodName := ⟨RX6, "round", "()Z"⟩
abbrev cX6_rounds : ByteArray := prog_8_method_26_code
def yX6_rounds : MethodName := ⟨RX6, "rounds", "(I)I"⟩
abbrev cX6_guess : ByteArray := prog_8_method_27_code
def yX6_guess : MethodName := ⟨RX6, "guess", "(I)I"⟩
abbrev cX6_text : ByteArray := prog_8_method_28_code
def yX6_text : MethodName := ⟨RX6, "text", "(I)I"⟩
abbrev cX6_count : ByteArray := prog_8_method_29_code
def yX6_count : MethodName := ⟨RX6, "count", "(II)I"⟩
abbrev cX6_first : ByteArray := prog_8_method_30_code
def yX6_first : MethodName := ⟨RX6, "first", "()V"⟩
abbrev cX6_above : ByteArray := prog_8_method_31_code
def yX6_above : MethodName := ⟨RX6, "above", "(I)V"⟩
abbrev cX6_table : ByteArray := prog_8_method_32_code
def yX6_table : MethodName := ⟨RX6, "table", "(II)V"⟩
abbrev cX6_isTable : ByteArray := prog_8_method_33_code
def yX6_isTable : MethodName := ⟨RX6, "isTable", "(II)Z"⟩
abbrev cX6_next : ByteArray := prog_8_method_34_code
def yX6_next : MethodName := ⟨RX6, "next", "(IIII)J"⟩
abbrev cX6_likely : ByteArray := prog_8_method_35_code
def yX6_likely : MethodName := ⟨RX6, "likely", "(II)I"⟩
abbrev cX6_weigh : ByteArray := prog_8_method_36_code
def yX6_weigh : MethodName := ⟨RX6, "weigh", "(IIII)I"⟩
abbrev cX6_sign : ByteArray := prog_8_method_37_code
def yX6_sign : MethodName := ⟨RX6, "sign", "(II)I"⟩
abbrev cX6_stateOf : ByteArray := prog_8_method_38_code
def yX6_stateOf : MethodName := ⟨RX6, "stateOf", "(III)I"⟩
abbrev cX6_weighPath : ByteArray := prog_8_method_39_code
def yX6_weighPath : MethodName := ⟨RX6, "weighPath", "(II)J"⟩
abbrev cX6_paths : ByteArray := prog_8_method_40_code
def yX6_paths : MethodName := ⟨RX6, "paths", "(I)I"⟩
abbrev cX6_sum : ByteArray := prog_8_method_41_code
def yX6_sum : MethodName := ⟨RX6, "sum", "(III)J"⟩
abbrev cX6_bestPathOf : ByteArray := prog_8_method_42_code
def yX6_bestPathOf : MethodName := ⟨RX6, "bestPathOf", "(I)I"⟩
abbrev cX6_path : ByteArray := prog_8_method_43_code
def yX6_path : MethodName := ⟨RX6, "path", "(II)I"⟩
abbrev cX6_total : ByteArray := prog_8_method_44_code
def yX6_total : MethodName := ⟨RX6, "total", "(I)J"⟩
abbrev cX6_at : ByteArray := prog_8_method_45_code
def yX6_at : MethodName := ⟨RX6, "at", "(IIII)J"⟩
abbrev cX6_countPath : ByteArray := prog_8_method_46_code
def yX6_countPath : MethodName := ⟨RX6, "countPath", "(II)V"⟩
abbrev cX6_learnt : ByteArray := prog_8_method_47_code
def yX6_learnt : MethodName := ⟨RX6, "learnt", "()Z"⟩
abbrev cX6_learn : ByteArray := prog_8_method_48_code
def yX6_learn : MethodName := ⟨RX6, "learn", "(I)I"⟩
abbrev cX6_has : ByteArray := prog_8_method_49_code
def yX6_has : MethodName := ⟨RX6, "has", "(II)Z"⟩
abbrev cX6_support : ByteArray := prog_8_method_50_code
def yX6_support : MethodName := ⟨RX6, "support", "(II)I"⟩
abbrev cX6_isRule : ByteArray := prog_8_method_51_code
def yX6_isRule : MethodName := ⟨RX6, "isRule", "(I)Z"⟩
abbrev cX6_isAhead : ByteArray := prog_8_method_52_code
def yX6_isAhead : MethodName := ⟨RX6, "isAhead", "(II)Z"⟩
abbrev cX6_rules : ByteArray := prog_8_method_53_code
def yX6_rules : MethodName := ⟨RX6, "rules", "()I"⟩
abbrev cX6_ruleAt : ByteArray := prog_8_method_54_code
def yX6_ruleAt : MethodName := ⟨RX6, "ruleAt", "(I)I"⟩
abbrev cX6_rule : ByteArray := prog_8_method_55_code
def yX6_rule : MethodName := ⟨RX6, "rule", "(II)I"⟩
abbrev cX6_count_ : ByteArray := prog_8_method_56_code
def yX6_count_ : MethodName := ⟨RX6, "count", "(I)I"⟩
def RJ0 : String := "java/lang/String"
def TJ0 : u_T := fun k => match k with
  | _ => ("", "", "", false)
def tyJ0 : Nat → FieldType := fun k => match k with
  | _ => .int
abbrev wsJ00 : List Cond := u_ws RJ0 TJ0 0
theorem nmJ0 : ∀ a, a < 0 → ∀ b, b < 0 → a ≠ b → (TJ0 a).2.1 ≠ (TJ0 b).2.1 := by decide +kernel
theorem tyJ0_ok : ∀ k, k < 0 → parseFieldDescriptor (TJ0 k).2.2.1 = some (tyJ0 k) := by decide +kernel
def RL : String := "CountLearnersLaw"
abbrev cL_share : ByteArray := method_3_code
def yL_share : MethodName := ⟨RL, "share", "(LCountLearners;III[J)I"⟩
abbrev cL_at : ByteArray := method_4_code
def yL_at : MethodName := ⟨RL, "at", "(LCountLearners;IIII[J)I"⟩
abbrev cL_law : ByteArray := code
def yL_law : MethodName := ⟨RL, "law", "([I)Z"⟩
def wsX0_commonDivisor : List Cond := .code yX0_commonDivisor cX0_commonDivisor 11 (some .long) :: ([])
def wsX0_sideOf : List Cond := .code yX0_sideOf cX0_sideOf 7 (some .long) :: ([.methodLink RX0 7 yX0_commonDivisor, .static yX0_commonDivisor, .initialized RX0, .code yX0_commonDivisor cX0_commonDivisor 11 (some .long)])
def wsX0_isAbove : List Cond := .code yX0_isAbove cX0_isAbove 25 (some .boolean) :: ([])
def wsX5_setAll : List Cond := .code yX5_setAll cX5_setAll 3 none :: ([])
def wsX1_init : List Cond := .code yX1_init cX1_init 1 none :: ([.methodLink RX1 5 objectInit, .instanceMethod objectInit, .code objectInit ⟨#[0xb1]⟩ 1 none, .arrayClass .int, .fieldLink RX1 11 "CountLearners$HiddenStates" "weights" "[I", .fieldLink RX1 15 "CountLearners$HiddenStates" "freshWeights" "[I", .fieldLink RX1 18 "CountLearners$HiddenStates" "signs" "[I", .fieldLink RX1 21 "CountLearners$HiddenStates" "lengths" "[I", .arrayClass .long, .fieldLink RX1 24 "CountLearners$HiddenStates" "sums" "[J", .fieldLink RX1 28 "CountLearners$HiddenStates" "nextSums" "[J", .fieldLink RX1 31 "CountLearners$HiddenStates" "bestFrom" "[J", .fieldLink RX1 34 "CountLearners$HiddenStates" "bestPath" "[I", .static yX5_setAll, .initialized RX5, .code yX5_setAll cX5_setAll 3 none] ++ wsX10)
def wsX1_isRow : List Cond := .code yX1_isRow cX1_isRow 1 (some .boolean) :: ([])
def wsX1_isSign : List Cond := .code yX1_isSign cX1_isSign 1 (some .boolean) :: ([])
def wsX1_isState : List Cond := .code yX1_isState cX1_isState 1 (some .boolean) :: ([])
def wsX1_moveAt : List Cond := .code yX1_moveAt cX1_moveAt 2 (some .int) :: ([])
def wsX1_showAt : List Cond := .code yX1_showAt cX1_showAt 2 (some .int) :: ([])
def wsX1_placeOf : List Cond := .code yX1_placeOf cX1_placeOf 3 (some .int) :: ([.methodLink RX1 41 yX1_isState, .static yX1_isState, .initialized RX1, .code yX1_isState cX1_isState 1 (some .boolean), .methodLink RX1 45 yX1_moveAt, .static yX1_moveAt, .code yX1_moveAt cX1_moveAt 2 (some .int), .methodLink RX1 49 yX1_isSign, .static yX1_isSign, .code yX1_isSign cX1_isSign 1 (some .boolean), .methodLink RX1 52 yX1_showAt, .static yX1_showAt, .code yX1_showAt cX1_showAt 2 (some .int)])
def wsX1_reweigh : List Cond := .code yX1_reweigh cX1_reweigh 4 (some .int) :: ([.fieldLink RX1 11 "CountLearners$HiddenStates" "weights" "[I"] ++ wsX10)
def wsX1_isFullRow : List Cond := .code yX1_isFullRow cX1_isFullRow 2 (some .boolean) :: ([.fieldLink RX1 21 "CountLearners$HiddenStates" "lengths" "[I"] ++ wsX10)
def wsX1_hasPlace : List Cond := .code yX1_hasPlace cX1_hasPlace 3 (some .boolean) :: ([.fieldLink RX1 21 "CountLearners$HiddenStates" "lengths" "[I"] ++ wsX10)
def wsX1_append : List Cond := .code yX1_append cX1_append 3 (some .int) :: ([.fieldLink RX1 18 "CountLearners$HiddenStates" "signs" "[I", .fieldLink RX1 21 "CountLearners$HiddenStates" "lengths" "[I"] ++ wsX10)
def wsX1_signsOfAll : List Cond := .code yX1_signsOfAll cX1_signsOfAll 3 (some .int) :: ([.fieldLink RX1 21 "CountLearners$HiddenStates" "lengths" "[I"] ++ wsX10)
def wsX1_shown : List Cond := .code yX1_shown cX1_shown 4 (some .int) :: ([.fieldLink RX1 11 "CountLearners$HiddenStates" "weights" "[I", .fieldLink RX1 18 "CountLearners$HiddenStates" "signs" "[I", .methodLink RX1 52 yX1_showAt, .static yX1_showAt, .initialized RX1, .code yX1_showAt cX1_showAt 2 (some .int)] ++ wsX10)
def wsX1_sumInto : List Cond := .code yX1_sumInto cX1_sumInto 5 (some .long) :: ([.fieldLink RX1 24 "CountLearners$HiddenStates" "sums" "[J", .fieldLink RX1 11 "CountLearners$HiddenStates" "weights" "[I", .methodLink RX1 45 yX1_moveAt, .static yX1_moveAt, .initialized RX1, .code yX1_moveAt cX1_moveAt 2 (some .int)] ++ wsX10)
def wsX1_totalThrough : List Cond := .code yX1_totalThrough cX1_totalThrough 7 (some .long) :: ([.fieldLink RX1 21 "CountLearners$HiddenStates" "lengths" "[I", .fieldLink RX1 24 "CountLearners$HiddenStates" "sums" "[J", .fieldLink RX1 11 "CountLearners$HiddenStates" "weights" "[I", .fieldLink RX1 28 "CountLearners$HiddenStates" "nextSums" "[J", .methodLink RX1 59 yX1_shown, .instanceMethod yX1_shown, .selects RX1 yX1_shown yX1_shown, .initialized RX1, .code yX1_shown cX1_shown 4 (some .int), .fieldLink RX1 18 "CountLearners$HiddenStates" "signs" "[I", .methodLink RX1 52 yX1_showAt, .static yX1_showAt, .code yX1_showAt cX1_showAt 2 (some .int), .methodLink RX1 63 yX1_sumInto, .instanceMethod yX1_sumInto, .selects RX1 yX1_sumInto yX1_sumInto, .code yX1_sumInto cX1_sumInto 5 (some .long), .methodLink RX1 45 yX1_moveAt, .static yX1_moveAt, .code yX1_moveAt cX1_moveAt 2 (some .int)] ++ wsX10)
def wsX1_totalOf : List Cond := .code yX1_totalOf cX1_totalOf 2 (some .long) :: ([.methodLink RX1 55 yX1_totalThrough, .instanceMethod yX1_totalThrough, .selects RX1 yX1_totalThrough yX1_totalThrough, .initialized RX1, .code yX1_totalThrough cX1_totalThrough 7 (some .long), .fieldLink RX1 21 "CountLearners$HiddenStates" "lengths" "[I", .fieldLink RX1 24 "CountLearners$HiddenStates" "sums" "[J", .fieldLink RX1 11 "CountLearners$HiddenStates" "weights" "[I", .fieldLink RX1 28 "CountLearners$HiddenStates" "nextSums" "[J", .methodLink RX1 59 yX1_shown, .instanceMethod yX1_shown, .selects RX1 yX1_shown yX1_shown, .code yX1_shown cX1_shown 4 (some .int), .fieldLink RX1 18 "CountLearners$HiddenStates" "signs" "[I", .methodLink RX1 52 yX1_showAt, .static yX1_showAt, .code yX1_showAt cX1_showAt 2 (some .int), .methodLink RX1 63 yX1_sumInto, .instanceMethod yX1_sumInto, .selects RX1 yX1_sumInto yX1_sumInto, .code yX1_sumInto cX1_sumInto 5 (some .long), .methodLink RX1 45 yX1_moveAt, .static yX1_moveAt, .code yX1_moveAt cX1_moveAt 2 (some .int)] ++ wsX10)
def wsX1_weightOnward : List Cond := .code yX1_weightOnward cX1_weightOnward 4 (some .long) :: ([.fieldLink RX1 11 "CountLearners$HiddenStates" "weights" "[I", .fieldLink RX1 31 "CountLearners$HiddenStates" "bestFrom" "[J", .methodLink RX1 45 yX1_moveAt, .static yX1_moveAt, .initialized RX1, .code yX1_moveAt cX1_moveAt 2 (some .int)] ++ wsX10)
def wsX1_bestOnward : List Cond := .code yX1_bestOnward cX1_bestOnward 5 (some .int) :: ([.methodLink RX1 70 yX1_weightOnward, .instanceMethod yX1_weightOnward, .selects RX1 yX1_weightOnward yX1_weightOnward, .initialized RX1, .code yX1_weightOnward cX1_weightOnward 4 (some .long), .fieldLink RX1 11 "CountLearners$HiddenStates" "weights" "[I", .fieldLink RX1 31 "CountLearners$HiddenStates" "bestFrom" "[J", .methodLink RX1 45 yX1_moveAt, .static yX1_moveAt, .code yX1_moveAt cX1_moveAt 2 (some .int)] ++ wsX10)
def wsX1_bestStart : List Cond := .code yX1_bestStart cX1_bestStart 3 (some .int) :: ([.fieldLink RX1 11 "CountLearners$HiddenStates" "weights" "[I", .fieldLink RX1 31 "CountLearners$HiddenStates" "bestFrom" "[J"] ++ wsX10)
def wsX1_findBestPath_r1 : List Cond := [Cond.fieldLink RX1 21 "CountLearners$HiddenStates" "lengths" "[I", Cond.fieldLink RX1 31 "CountLearners$HiddenStates" "bestFrom" "[J", Cond.fieldLink RX1 34 "CountLearners$HiddenStates" "bestPath" "[I", Cond.fieldLink RX1 11 "CountLearners$HiddenStates" "weights" "[I", Cond.methodLink RX1 67 yX1_bestOnward, Cond.instanceMethod yX1_bestOnward, Cond.selects RX1 yX1_bestOnward yX1_bestOnward, Cond.initialized RX1, Cond.code yX1_bestOnward cX1_bestOnward 5 (some .int), Cond.methodLink RX1 70 yX1_weightOnward, Cond.instanceMethod yX1_weightOnward, Cond.selects RX1 yX1_weightOnward yX1_weightOnward, Cond.code yX1_weightOnward cX1_weightOnward 4 (some .long), Cond.methodLink RX1 45 yX1_moveAt, Cond.static yX1_moveAt, Cond.code yX1_moveAt cX1_moveAt 2 (some .int), Cond.methodLink RX1 59 yX1_shown, Cond.instanceMethod yX1_shown, Cond.selects RX1 yX1_shown yX1_shown, Cond.code yX1_shown cX1_shown 4 (some .int), Cond.fieldLink RX1 18 "CountLearners$HiddenStates" "signs" "[I", Cond.methodLink RX1 52 yX1_showAt, Cond.static yX1_showAt, Cond.code yX1_showAt cX1_showAt 2 (some .int)]
def wsX1_findBestPath_r2 : List Cond := [Cond.methodLink RX1 73 yX1_bestStart, Cond.instanceMethod yX1_bestStart, Cond.selects RX1 yX1_bestStart yX1_bestStart, Cond.code yX1_bestStart cX1_bestStart 3 (some .int)]
def wsX1_findBestPath : List Cond := .code yX1_findBestPath cX1_findBestPath 7 (some .boolean) :: ((wsX1_findBestPath_r1 ++ wsX1_findBestPath_r2) ++ wsX10)
def wsX1_stateOnBestPath : List Cond := .code yX1_stateOnBestPath cX1_stateOnBestPath 2 (some .int) :: ([.fieldLink RX1 34 "CountLearners$HiddenStates" "bestPath" "[I"] ++ wsX10)
def wsX1_countBestPath : List Cond := .code yX1_countBestPath cX1_countBestPath 3 none :: ([.fieldLink RX1 15 "CountLearners$HiddenStates" "freshWeights" "[I", .fieldLink RX1 34 "CountLearners$HiddenStates" "bestPath" "[I", .fieldLink RX1 21 "CountLearners$HiddenStates" "lengths" "[I", .fieldLink RX1 18 "CountLearners$HiddenStates" "signs" "[I", .methodLink RX1 52 yX1_showAt, .static yX1_showAt, .initialized RX1, .code yX1_showAt cX1_showAt 2 (some .int), .methodLink RX1 45 yX1_moveAt, .static yX1_moveAt, .code yX1_moveAt cX1_moveAt 2 (some .int)] ++ wsX10)
def wsX1_weighAnew_r1 : List Cond := [Cond.fieldLink RX1 15 "CountLearners$HiddenStates" "freshWeights" "[I", Cond.fieldLink RX1 11 "CountLearners$HiddenStates" "weights" "[I", Cond.static yX5_setAll, Cond.initialized RX5, Cond.code yX5_setAll cX5_setAll 3 none, Cond.methodLink RX1 77 yX1_findBestPath, Cond.instanceMethod yX1_findBestPath, Cond.selects RX1 yX1_findBestPath yX1_findBestPath, Cond.initialized RX1, Cond.code yX1_findBestPath cX1_findBestPath 7 (some .boolean), Cond.fieldLink RX1 21 "CountLearners$HiddenStates" "lengths" "[I", Cond.fieldLink RX1 31 "CountLearners$HiddenStates" "bestFrom" "[J", Cond.fieldLink RX1 34 "CountLearners$HiddenStates" "bestPath" "[I", Cond.methodLink RX1 67 yX1_bestOnward, Cond.instanceMethod yX1_bestOnward, Cond.selects RX1 yX1_bestOnward yX1_bestOnward, Cond.code yX1_bestOnward cX1_bestOnward 5 (some .int), Cond.methodLink RX1 70 yX1_weightOnward, Cond.instanceMethod yX1_weightOnward, Cond.selects RX1 yX1_weightOnward yX1_weightOnward, Cond.code yX1_weightOnward cX1_weightOnward 4 (some .long), Cond.methodLink RX1 45 yX1_moveAt, Cond.static yX1_moveAt, Cond.code yX1_moveAt cX1_moveAt 2 (some .int)]
def wsX1_weighAnew_r2 : List Cond := [Cond.methodLink RX1 59 yX1_shown, Cond.instanceMethod yX1_shown, Cond.selects RX1 yX1_shown yX1_shown, Cond.code yX1_shown cX1_shown 4 (some .int), Cond.fieldLink RX1 18 "CountLearners$HiddenStates" "signs" "[I", Cond.methodLink RX1 52 yX1_showAt, Cond.static yX1_showAt, Cond.code yX1_showAt cX1_showAt 2 (some .int), Cond.methodLink RX1 73 yX1_bestStart, Cond.instanceMethod yX1_bestStart, Cond.selects RX1 yX1_bestStart yX1_bestStart, Cond.code yX1_bestStart cX1_bestStart 3 (some .int), Cond.methodLink RX1 80 yX1_countBestPath, Cond.instanceMethod yX1_countBestPath, Cond.selects RX1 yX1_countBestPath yX1_countBestPath, Cond.code yX1_countBestPath cX1_countBestPath 3 none]
def wsX1_weighAnew : List Cond := .code yX1_weighAnew cX1_weighAnew 3 (some .boolean) :: ((wsX1_weighAnew_r1 ++ wsX1_weighAnew_r2) ++ wsX10)
def wsX2_init : List Cond := .code yX2_init cX2_init 1 none :: ([.methodLink RX2 3 objectInit, .instanceMethod objectInit, .code objectInit ⟨#[0xb1]⟩ 1 none, .arrayClass .int, .fieldLink RX2 11 "CountLearners$LabelledRows" "labels" "[I", .fieldLink RX2 15 "CountLearners$LabelledRows" "guesses" "[I", .fieldLink RX2 18 "CountLearners$LabelledRows" "lengths" "[I", .fieldLink RX2 21 "CountLearners$LabelledRows" "words" "[I", .fieldLink RX2 24 "CountLearners$LabelledRows" "times" "[I", .fieldLink RX2 27 "CountLearners$LabelledRows" "totals" "[I", .fieldLink RX2 30 "CountLearners$LabelledRows" "sizes" "[I", .fieldLink RX2 33 "CountLearners$LabelledRows" "rowCount" "I", .fieldLink RX2 37 "CountLearners$LabelledRows" "addedUp" "I", .fieldLink RX2 40 "CountLearners$LabelledRows" "addedDown" "I"] ++ wsX20)
def wsX2_has : List Cond := .code yX2_has cX2_has 2 (some .boolean) :: ([.fieldLink RX2 33 "CountLearners$LabelledRows" "rowCount" "I"] ++ wsX20)
def wsX2_isFull : List Cond := .code yX2_isFull cX2_isFull 1 (some .boolean) :: ([.fieldLink RX2 33 "CountLearners$LabelledRows" "rowCount" "I"] ++ wsX20)
def wsX2_isFullRow : List Cond := .code yX2_isFullRow cX2_isFullRow 2 (some .boolean) :: ([.fieldLink RX2 18 "CountLearners$LabelledRows" "lengths" "[I"] ++ wsX20)
def wsX2_size : List Cond := .code yX2_size cX2_size 1 (some .int) :: ([.fieldLink RX2 33 "CountLearners$LabelledRows" "rowCount" "I"] ++ wsX20)
def wsX2_labelledRows : List Cond := .code yX2_labelledRows cX2_labelledRows 3 (some .int) :: ([.fieldLink RX2 33 "CountLearners$LabelledRows" "rowCount" "I", .fieldLink RX2 11 "CountLearners$LabelledRows" "labels" "[I"] ++ wsX20)
def wsX2_tallyRow : List Cond := .code yX2_tallyRow cX2_tallyRow 4 none :: ([.fieldLink RX2 30 "CountLearners$LabelledRows" "sizes" "[I", .fieldLink RX2 27 "CountLearners$LabelledRows" "totals" "[I", .fieldLink RX2 18 "CountLearners$LabelledRows" "lengths" "[I", .fieldLink RX2 24 "CountLearners$LabelledRows" "times" "[I", .fieldLink RX2 21 "CountLearners$LabelledRows" "words" "[I"] ++ wsX20)
def wsX2_tally : List Cond := .code yX2_tally cX2_tally 3 none :: ([.fieldLink RX2 24 "CountLearners$LabelledRows" "times" "[I", .fieldLink RX2 27 "CountLearners$LabelledRows" "totals" "[I", .fieldLink RX2 30 "CountLearners$LabelledRows" "sizes" "[I", .fieldLink RX2 33 "CountLearners$LabelledRows" "rowCount" "I", .fieldLink RX2 11 "CountLearners$LabelledRows" "labels" "[I", .fieldLink RX2 15 "CountLearners$LabelledRows" "guesses" "[I", .static yX5_setAll, .initialized RX5, .code yX5_setAll cX5_setAll 3 none, .methodLink RX2 83 yX2_tallyRow, .instanceMethod yX2_tallyRow, .selects RX2 yX2_tallyRow yX2_tallyRow, .initialized RX2, .code yX2_tallyRow cX2_tallyRow 4 none, .fieldLink RX2 18 "CountLearners$LabelledRows" "lengths" "[I", .fieldLink RX2 21 "CountLearners$LabelledRows" "words" "[I"] ++ wsX20)
def wsX2_startAnew : List Cond := .code yX2_startAnew cX2_startAnew 1 none :: ([.fieldLink RX2 15 "CountLearners$LabelledRows" "guesses" "[I", .static yX5_setAll, .initialized RX5, .code yX5_setAll cX5_setAll 3 none, .methodLink RX2 76 yX2_tally, .instanceMethod yX2_tally, .selects RX2 yX2_tally yX2_tally, .initialized RX2, .code yX2_tally cX2_tally 3 none, .fieldLink RX2 24 "CountLearners$LabelledRows" "times" "[I", .fieldLink RX2 27 "CountLearners$LabelledRows" "totals" "[I", .fieldLink RX2 30 "CountLearners$LabelledRows" "sizes" "[I", .fieldLink RX2 33 "CountLearners$LabelledRows" "rowCount" "I", .fieldLink RX2 11 "CountLearners$LabelledRows" "labels" "[I", .methodLink RX2 83 yX2_tallyRow, .instanceMethod yX2_tallyRow, .selects RX2 yX2_tallyRow yX2_tallyRow, .code yX2_tallyRow cX2_tallyRow 4 none, .fieldLink RX2 18 "CountLearners$LabelledRows" "lengths" "[I", .fieldLink RX2 21 "CountLearners$LabelledRows" "words" "[I"] ++ wsX20)
def wsX2_open : List Cond := .code yX2_open cX2_open 3 (some .int) :: ([.fieldLink RX2 33 "CountLearners$LabelledRows" "rowCount" "I", .fieldLink RX2 11 "CountLearners$LabelledRows" "labels" "[I", .methodLink RX2 43 yX2_startAnew, .instanceMethod yX2_startAnew, .selects RX2 yX2_startAnew yX2_startAnew, .initialized RX2, .code yX2_startAnew cX2_startAnew 1 none, .fieldLink RX2 15 "CountLearners$LabelledRows" "guesses" "[I", .static yX5_setAll, .initialized RX5, .code yX5_setAll cX5_setAll 3 none, .methodLink RX2 76 yX2_tally, .instanceMethod yX2_tally, .selects RX2 yX2_tally yX2_tally, .code yX2_tally cX2_tally 3 none, .fieldLink RX2 24 "CountLearners$LabelledRows" "times" "[I", .fieldLink RX2 27 "CountLearners$LabelledRows" "totals" "[I", .fieldLink RX2 30 "CountLearners$LabelledRows" "sizes" "[I", .methodLink RX2 83 yX2_tallyRow, .instanceMethod yX2_tallyRow, .selects RX2 yX2_tallyRow yX2_tallyRow, .code yX2_tallyRow cX2_tallyRow 4 none, .fieldLink RX2 18 "CountLearners$LabelledRows" "lengths" "[I", .fieldLink RX2 21 "CountLearners$LabelledRows" "words" "[I"] ++ wsX20)
def wsX2_append : List Cond := .code yX2_append cX2_append 3 (some .int) :: ([.fieldLink RX2 21 "CountLearners$LabelledRows" "words" "[I", .fieldLink RX2 18 "CountLearners$LabelledRows" "lengths" "[I", .methodLink RX2 43 yX2_startAnew, .instanceMethod yX2_startAnew, .selects RX2 yX2_startAnew yX2_startAnew, .initialized RX2, .code yX2_startAnew cX2_startAnew 1 none, .fieldLink RX2 15 "CountLearners$LabelledRows" "guesses" "[I", .static yX5_setAll, .initialized RX5, .code yX5_setAll cX5_setAll 3 none, .methodLink RX2 76 yX2_tally, .instanceMethod yX2_tally, .selects RX2 yX2_tally yX2_tally, .code yX2_tally cX2_tally 3 none, .fieldLink RX2 24 "CountLearners$LabelledRows" "times" "[I", .fieldLink RX2 27 "CountLearners$LabelledRows" "totals" "[I", .fieldLink RX2 30 "CountLearners$LabelledRows" "sizes" "[I", .fieldLink RX2 33 "CountLearners$LabelledRows" "rowCount" "I", .fieldLink RX2 11 "CountLearners$LabelledRows" "labels" "[I", .methodLink RX2 83 yX2_tallyRow, .instanceMethod yX2_tallyRow, .selects RX2 yX2_tallyRow yX2_tallyRow, .code yX2_tallyRow cX2_tallyRow 4 none] ++ wsX20)
def wsX2_relabel : List Cond := .code yX2_relabel cX2_relabel 4 (some .int) :: ([.fieldLink RX2 11 "CountLearners$LabelledRows" "labels" "[I", .methodLink RX2 43 yX2_startAnew, .instanceMethod yX2_startAnew, .selects RX2 yX2_startAnew yX2_startAnew, .initialized RX2, .code yX2_startAnew cX2_startAnew 1 none, .fieldLink RX2 15 "CountLearners$LabelledRows" "guesses" "[I", .static yX5_setAll, .initialized RX5, .code yX5_setAll cX5_setAll 3 none, .methodLink RX2 76 yX2_tally, .instanceMethod yX2_tally, .selects RX2 yX2_tally yX2_tally, .code yX2_tally cX2_tally 3 none, .fieldLink RX2 24 "CountLearners$LabelledRows" "times" "[I", .fieldLink RX2 27 "CountLearners$LabelledRows" "totals" "[I", .fieldLink RX2 30 "CountLearners$LabelledRows" "sizes" "[I", .fieldLink RX2 33 "CountLearners$LabelledRows" "rowCount" "I", .methodLink RX2 83 yX2_tallyRow, .instanceMethod yX2_tallyRow, .selects RX2 yX2_tallyRow yX2_tallyRow, .code yX2_tallyRow cX2_tallyRow 4 none, .fieldLink RX2 18 "CountLearners$LabelledRows" "lengths" "[I", .fieldLink RX2 21 "CountLearners$LabelledRows" "words" "[I"] ++ wsX20)
def wsX2_setAddition_r1 : List Cond := [Cond.fieldLink RX2 37 "CountLearners$LabelledRows" "addedUp" "I", Cond.fieldLink RX2 40 "CountLearners$LabelledRows" "addedDown" "I", Cond.methodLink RX2 43 yX2_startAnew, Cond.instanceMethod yX2_startAnew, Cond.selects RX2 yX2_startAnew yX2_startAnew, Cond.initialized RX2, Cond.code yX2_startAnew cX2_startAnew 1 none, Cond.fieldLink RX2 15 "CountLearners$LabelledRows" "guesses" "[I", Cond.static yX5_setAll, Cond.initialized RX5, Cond.code yX5_setAll cX5_setAll 3 none, Cond.methodLink RX2 76 yX2_tally, Cond.instanceMethod yX2_tally, Cond.selects RX2 yX2_tally yX2_tally, Cond.code yX2_tally cX2_tally 3 none, Cond.fieldLink RX2 24 "CountLearners$LabelledRows" "times" "[I", Cond.fieldLink RX2 27 "CountLearners$LabelledRows" "totals" "[I", Cond.fieldLink RX2 30 "CountLearners$LabelledRows" "sizes" "[I", Cond.fieldLink RX2 33 "CountLearners$LabelledRows" "rowCount" "I", Cond.fieldLink RX2 11 "CountLearners$LabelledRows" "labels" "[I", Cond.methodLink RX2 83 yX2_tallyRow, Cond.instanceMethod yX2_tallyRow, Cond.selects RX2 yX2_tallyRow yX2_tallyRow, Cond.code yX2_tallyRow cX2_tallyRow 4 none]
def wsX2_setAddition_r2 : List Cond := [Cond.fieldLink RX2 18 "CountLearners$LabelledRows" "lengths" "[I", Cond.fieldLink RX2 21 "CountLearners$LabelledRows" "words" "[I"]
def wsX2_setAddition : List Cond := .code yX2_setAddition cX2_setAddition 3 none :: ((wsX2_setAddition_r1 ++ wsX2_setAddition_r2) ++ wsX20)
def wsX2_timesIn : List Cond := .code yX2_timesIn cX2_timesIn 3 (some .int) :: ([.fieldLink RX2 24 "CountLearners$LabelledRows" "times" "[I"] ++ wsX20)
def wsX2_wordsIn : List Cond := .code yX2_wordsIn cX2_wordsIn 2 (some .int) :: ([.fieldLink RX2 27 "CountLearners$LabelledRows" "totals" "[I"] ++ wsX20)
def wsX2_rowsIn : List Cond := .code yX2_rowsIn cX2_rowsIn 2 (some .int) :: ([.fieldLink RX2 30 "CountLearners$LabelledRows" "sizes" "[I"] ++ wsX20)
def wsX2_guessOf : List Cond := .code yX2_guessOf cX2_guessOf 2 (some .int) :: ([.fieldLink RX2 15 "CountLearners$LabelledRows" "guesses" "[I"] ++ wsX20)
def wsX2_wordSet : List Cond := .code yX2_wordSet cX2_wordSet 4 (some .int) :: ([.fieldLink RX2 18 "CountLearners$LabelledRows" "lengths" "[I", .fieldLink RX2 21 "CountLearners$LabelledRows" "words" "[I"] ++ wsX20)
def wsX2_shareUpper : List Cond := .code yX2_shareUpper cX2_shareUpper 3 (some .long) :: ([.fieldLink RX2 40 "CountLearners$LabelledRows" "addedDown" "I", .fieldLink RX2 37 "CountLearners$LabelledRows" "addedUp" "I", .methodLink RX2 46 yX2_timesIn, .instanceMethod yX2_timesIn, .selects RX2 yX2_timesIn yX2_timesIn, .initialized RX2, .code yX2_timesIn cX2_timesIn 3 (some .int), .fieldLink RX2 24 "CountLearners$LabelledRows" "times" "[I"] ++ wsX20)
def wsX2_shareLower : List Cond := .code yX2_shareLower cX2_shareLower 2 (some .long) :: ([.fieldLink RX2 27 "CountLearners$LabelledRows" "totals" "[I", .fieldLink RX2 40 "CountLearners$LabelledRows" "addedDown" "I", .constantLong RX2 50 (8), .fieldLink RX2 37 "CountLearners$LabelledRows" "addedUp" "I"] ++ wsX20)
def wsX2_weightUpper : List Cond := .code yX2_weightUpper cX2_weightUpper 6 (some .long) :: ([.fieldLink RX2 30 "CountLearners$LabelledRows" "sizes" "[I", .fieldLink RX2 18 "CountLearners$LabelledRows" "lengths" "[I", .fieldLink RX2 21 "CountLearners$LabelledRows" "words" "[I", .methodLink RX2 52 yX2_shareUpper, .instanceMethod yX2_shareUpper, .selects RX2 yX2_shareUpper yX2_shareUpper, .initialized RX2, .code yX2_shareUpper cX2_shareUpper 3 (some .long), .fieldLink RX2 40 "CountLearners$LabelledRows" "addedDown" "I", .fieldLink RX2 37 "CountLearners$LabelledRows" "addedUp" "I", .methodLink RX2 46 yX2_timesIn, .instanceMethod yX2_timesIn, .selects RX2 yX2_timesIn yX2_timesIn, .code yX2_timesIn cX2_timesIn 3 (some .int), .fieldLink RX2 24 "CountLearners$LabelledRows" "times" "[I"] ++ wsX20)
def wsX2_weightLower : List Cond := .code yX2_weightLower cX2_weightLower 6 (some .long) :: ([.fieldLink RX2 18 "CountLearners$LabelledRows" "lengths" "[I", .methodLink RX2 56 yX2_shareLower, .instanceMethod yX2_shareLower, .selects RX2 yX2_shareLower yX2_shareLower, .initialized RX2, .code yX2_shareLower cX2_shareLower 2 (some .long), .fieldLink RX2 27 "CountLearners$LabelledRows" "totals" "[I", .fieldLink RX2 40 "CountLearners$LabelledRows" "addedDown" "I", .constantLong RX2 50 (8), .fieldLink RX2 37 "CountLearners$LabelledRows" "addedUp" "I"] ++ wsX20)
def wsX2_bestLabel_r1 : List Cond := [Cond.methodLink RX2 60 yX2_weightUpper, Cond.instanceMethod yX2_weightUpper, Cond.selects RX2 yX2_weightUpper yX2_weightUpper, Cond.initialized RX2, Cond.code yX2_weightUpper cX2_weightUpper 6 (some .long), Cond.fieldLink RX2 30 "CountLearners$LabelledRows" "sizes" "[I", Cond.fieldLink RX2 18 "CountLearners$LabelledRows" "lengths" "[I", Cond.fieldLink RX2 21 "CountLearners$LabelledRows" "words" "[I", Cond.methodLink RX2 52 yX2_shareUpper, Cond.instanceMethod yX2_shareUpper, Cond.selects RX2 yX2_shareUpper yX2_shareUpper, Cond.code yX2_shareUpper cX2_shareUpper 3 (some .long), Cond.fieldLink RX2 40 "CountLearners$LabelledRows" "addedDown" "I", Cond.fieldLink RX2 37 "CountLearners$LabelledRows" "addedUp" "I", Cond.methodLink RX2 46 yX2_timesIn, Cond.instanceMethod yX2_timesIn, Cond.selects RX2 yX2_timesIn yX2_timesIn, Cond.code yX2_timesIn cX2_timesIn 3 (some .int), Cond.fieldLink RX2 24 "CountLearners$LabelledRows" "times" "[I", Cond.methodLink RX2 63 yX2_weightLower, Cond.instanceMethod yX2_weightLower, Cond.selects RX2 yX2_weightLower yX2_weightLower, Cond.code yX2_weightLower cX2_weightLower 6 (some .long), Cond.methodLink RX2 56 yX2_shareLower]
def wsX2_bestLabel_r2 : List Cond := [Cond.instanceMethod yX2_shareLower, Cond.selects RX2 yX2_shareLower yX2_shareLower, Cond.code yX2_shareLower cX2_shareLower 2 (some .long), Cond.fieldLink RX2 27 "CountLearners$LabelledRows" "totals" "[I", Cond.constantLong RX2 50 (8), Cond.methodLink RX2 66 yX0_isAbove, Cond.static yX0_isAbove, Cond.initialized RX0, Cond.code yX0_isAbove cX0_isAbove 25 (some .boolean)]
def wsX2_bestLabel : List Cond := .code yX2_bestLabel cX2_bestLabel 12 (some .int) :: ((wsX2_bestLabel_r1 ++ wsX2_bestLabel_r2) ++ wsX20)
def wsX2_guessAnew_r1 : List Cond := [Cond.fieldLink RX2 33 "CountLearners$LabelledRows" "rowCount" "I", Cond.fieldLink RX2 11 "CountLearners$LabelledRows" "labels" "[I", Cond.fieldLink RX2 15 "CountLearners$LabelledRows" "guesses" "[I", Cond.methodLink RX2 72 yX2_bestLabel, Cond.instanceMethod yX2_bestLabel, Cond.selects RX2 yX2_bestLabel yX2_bestLabel, Cond.initialized RX2, Cond.code yX2_bestLabel cX2_bestLabel 12 (some .int), Cond.methodLink RX2 60 yX2_weightUpper, Cond.instanceMethod yX2_weightUpper, Cond.selects RX2 yX2_weightUpper yX2_weightUpper, Cond.code yX2_weightUpper cX2_weightUpper 6 (some .long), Cond.fieldLink RX2 30 "CountLearners$LabelledRows" "sizes" "[I", Cond.fieldLink RX2 18 "CountLearners$LabelledRows" "lengths" "[I", Cond.fieldLink RX2 21 "CountLearners$LabelledRows" "words" "[I", Cond.methodLink RX2 52 yX2_shareUpper, Cond.instanceMethod yX2_shareUpper, Cond.selects RX2 yX2_shareUpper yX2_shareUpper, Cond.code yX2_shareUpper cX2_shareUpper 3 (some .long), Cond.fieldLink RX2 40 "CountLearners$LabelledRows" "addedDown" "I", Cond.fieldLink RX2 37 "CountLearners$LabelledRows" "addedUp" "I", Cond.methodLink RX2 46 yX2_timesIn, Cond.instanceMethod yX2_timesIn, Cond.selects RX2 yX2_timesIn yX2_timesIn]
def wsX2_guessAnew_r2 : List Cond := [Cond.code yX2_timesIn cX2_timesIn 3 (some .int), Cond.fieldLink RX2 24 "CountLearners$LabelledRows" "times" "[I", Cond.methodLink RX2 63 yX2_weightLower, Cond.instanceMethod yX2_weightLower, Cond.selects RX2 yX2_weightLower yX2_weightLower, Cond.code yX2_weightLower cX2_weightLower 6 (some .long), Cond.methodLink RX2 56 yX2_shareLower, Cond.instanceMethod yX2_shareLower, Cond.selects RX2 yX2_shareLower yX2_shareLower, Cond.code yX2_shareLower cX2_shareLower 2 (some .long), Cond.fieldLink RX2 27 "CountLearners$LabelledRows" "totals" "[I", Cond.constantLong RX2 50 (8), Cond.methodLink RX2 66 yX0_isAbove, Cond.static yX0_isAbove, Cond.initialized RX0, Cond.code yX0_isAbove cX0_isAbove 25 (some .boolean), Cond.methodLink RX2 76 yX2_tally, Cond.instanceMethod yX2_tally, Cond.selects RX2 yX2_tally yX2_tally, Cond.code yX2_tally cX2_tally 3 none, Cond.static yX5_setAll, Cond.initialized RX5, Cond.code yX5_setAll cX5_setAll 3 none, Cond.methodLink RX2 83 yX2_tallyRow]
def wsX2_guessAnew_r3 : List Cond := [Cond.instanceMethod yX2_tallyRow, Cond.selects RX2 yX2_tallyRow yX2_tallyRow, Cond.code yX2_tallyRow cX2_tallyRow 4 none]
def wsX2_guessAnew : List Cond := .code yX2_guessAnew cX2_guessAnew 4 (some .boolean) :: ((wsX2_guessAnew_r1 ++ (wsX2_guessAnew_r2 ++ wsX2_guessAnew_r3)) ++ wsX20)
def wsX3_init : List Cond := .code yX3_init cX3_init 1 none :: ([.methodLink RX3 3 objectInit, .instanceMethod objectInit, .code objectInit ⟨#[0xb1]⟩ 1 none, .arrayClass .int, .fieldLink RX3 11 "CountLearners$TextTables" "text" "[I", .fieldLink RX3 15 "CountLearners$TextTables" "behind" "[I", .arrayClass .long, .fieldLink RX3 18 "CountLearners$TextTables" "uppers" "[J", .fieldLink RX3 22 "CountLearners$TextTables" "lower" "J", .fieldLink RX3 26 "CountLearners$TextTables" "textLength" "I"] ++ wsX30)
def wsX3_isFull : List Cond := .code yX3_isFull cX3_isFull 1 (some .boolean) :: ([.fieldLink RX3 26 "CountLearners$TextTables" "textLength" "I"] ++ wsX30)
def wsX3_length : List Cond := .code yX3_length cX3_length 1 (some .int) :: ([.fieldLink RX3 26 "CountLearners$TextTables" "textLength" "I"] ++ wsX30)
def wsX3_append : List Cond := .code yX3_append cX3_append 2 (some .int) :: ([.fieldLink RX3 11 "CountLearners$TextTables" "text" "[I", .fieldLink RX3 26 "CountLearners$TextTables" "textLength" "I"] ++ wsX30)
def wsX3_upperOf : List Cond := .code yX3_upperOf cX3_upperOf 2 (some .long) :: ([.fieldLink RX3 18 "CountLearners$TextTables" "uppers" "[J"] ++ wsX30)
def wsX3_lowerOfAll : List Cond := .code yX3_lowerOfAll cX3_lowerOfAll 1 (some .long) :: ([.fieldLink RX3 22 "CountLearners$TextTables" "lower" "J"] ++ wsX30)
def wsX3_greatest : List Cond := .code yX3_greatest cX3_greatest 3 (some .int) :: ([.fieldLink RX3 18 "CountLearners$TextTables" "uppers" "[J"] ++ wsX30)
def wsX3_fillFirst : List Cond := .code yX3_fillFirst cX3_fillFirst 2 none :: ([.fieldLink RX3 18 "CountLearners$TextTables" "uppers" "[J", .fieldLink RX3 26 "CountLearners$TextTables" "textLength" "I", .fieldLink RX3 11 "CountLearners$TextTables" "text" "[I", .fieldLink RX3 22 "CountLearners$TextTables" "lower" "J"] ++ wsX30)
def wsX3_countBehind : List Cond := .code yX3_countBehind cX3_countBehind 4 none :: ([.fieldLink RX3 15 "CountLearners$TextTables" "behind" "[I", .fieldLink RX3 26 "CountLearners$TextTables" "textLength" "I", .fieldLink RX3 11 "CountLearners$TextTables" "text" "[I", .static yX5_setAll, .initialized RX5, .code yX5_setAll cX5_setAll 3 none] ++ wsX30)
def wsX3_takeCounts : List Cond := .code yX3_takeCounts cX3_takeCounts 3 none :: ([.fieldLink RX3 18 "CountLearners$TextTables" "uppers" "[J", .fieldLink RX3 15 "CountLearners$TextTables" "behind" "[I", .fieldLink RX3 22 "CountLearners$TextTables" "lower" "J"] ++ wsX30)
def wsX3_handDown : List Cond := .code yX3_handDown cX3_handDown 6 none :: ([.fieldLink RX3 15 "CountLearners$TextTables" "behind" "[I", .fieldLink RX3 18 "CountLearners$TextTables" "uppers" "[J", .constantLong RX3 52 (2), .fieldLink RX3 22 "CountLearners$TextTables" "lower" "J"] ++ wsX30)
def wsX3_putAbove : List Cond := .code yX3_putAbove cX3_putAbove 6 none :: ([.fieldLink RX3 15 "CountLearners$TextTables" "behind" "[I", .fieldLink RX3 18 "CountLearners$TextTables" "uppers" "[J", .methodLink RX3 44 yX3_takeCounts, .instanceMethod yX3_takeCounts, .selects RX3 yX3_takeCounts yX3_takeCounts, .initialized RX3, .code yX3_takeCounts cX3_takeCounts 3 none, .fieldLink RX3 22 "CountLearners$TextTables" "lower" "J", .methodLink RX3 48 yX3_handDown, .instanceMethod yX3_handDown, .selects RX3 yX3_handDown yX3_handDown, .code yX3_handDown cX3_handDown 6 none, .constantLong RX3 52 (2)] ++ wsX30)
def wsX3_fill_r1 : List Cond := [Cond.methodLink RX3 30 yX3_fillFirst, Cond.instanceMethod yX3_fillFirst, Cond.selects RX3 yX3_fillFirst yX3_fillFirst, Cond.initialized RX3, Cond.code yX3_fillFirst cX3_fillFirst 2 none, Cond.fieldLink RX3 18 "CountLearners$TextTables" "uppers" "[J", Cond.fieldLink RX3 26 "CountLearners$TextTables" "textLength" "I", Cond.fieldLink RX3 11 "CountLearners$TextTables" "text" "[I", Cond.fieldLink RX3 22 "CountLearners$TextTables" "lower" "J", Cond.methodLink RX3 33 yX3_countBehind, Cond.instanceMethod yX3_countBehind, Cond.selects RX3 yX3_countBehind yX3_countBehind, Cond.code yX3_countBehind cX3_countBehind 4 none, Cond.fieldLink RX3 15 "CountLearners$TextTables" "behind" "[I", Cond.static yX5_setAll, Cond.initialized RX5, Cond.code yX5_setAll cX5_setAll 3 none, Cond.methodLink RX3 37 yX3_putAbove, Cond.instanceMethod yX3_putAbove, Cond.selects RX3 yX3_putAbove yX3_putAbove, Cond.code yX3_putAbove cX3_putAbove 6 none, Cond.methodLink RX3 44 yX3_takeCounts, Cond.instanceMethod yX3_takeCounts, Cond.selects RX3 yX3_takeCounts yX3_takeCounts]
def wsX3_fill_r2 : List Cond := [Cond.code yX3_takeCounts cX3_takeCounts 3 none, Cond.methodLink RX3 48 yX3_handDown, Cond.instanceMethod yX3_handDown, Cond.selects RX3 yX3_handDown yX3_handDown, Cond.code yX3_handDown cX3_handDown 6 none, Cond.constantLong RX3 52 (2)]
def wsX3_fill : List Cond := .code yX3_fill cX3_fill 3 none :: ((wsX3_fill_r1 ++ wsX3_fill_r2) ++ wsX30)
def wsX4_init : List Cond := .code yX4_init cX4_init 1 none :: ([.methodLink RX4 3 objectInit, .instanceMethod objectInit, .code objectInit ⟨#[0xb1]⟩ 1 none, .arrayClass .int, .fieldLink RX4 11 "CountLearners$WordRules" "support" "[I", .fieldLink RX4 15 "CountLearners$WordRules" "having" "[I", .fieldLink RX4 18 "CountLearners$WordRules" "keys" "[I", .fieldLink RX4 21 "CountLearners$WordRules" "ruleCount" "I"] ++ wsX40)
def wsX4_has : List Cond := .code yX4_has cX4_has 2 (some .boolean) :: ([.fieldLink RX4 21 "CountLearners$WordRules" "ruleCount" "I"] ++ wsX40)
def wsX4_size : List Cond := .code yX4_size cX4_size 1 (some .int) :: ([.fieldLink RX4 21 "CountLearners$WordRules" "ruleCount" "I"] ++ wsX40)
def wsX4_partOf : List Cond := .code yX4_partOf cX4_partOf 5 (some .int) :: ([.fieldLink RX4 18 "CountLearners$WordRules" "keys" "[I", .fieldLink RX4 11 "CountLearners$WordRules" "support" "[I", .fieldLink RX4 15 "CountLearners$WordRules" "having" "[I", .methodLink RX4 25 yX0_sideOf, .static yX0_sideOf, .initialized RX0, .code yX0_sideOf cX0_sideOf 7 (some .long), .methodLink RX0 7 yX0_commonDivisor, .static yX0_commonDivisor, .code yX0_commonDivisor cX0_commonDivisor 11 (some .long)] ++ wsX40)
def wsX4_countPairs : List Cond := .code yX4_countPairs cX4_countPairs 4 none :: ([.fieldLink RX4 11 "CountLearners$WordRules" "support" "[I"] ++ wsX40)
def wsX4_countSet : List Cond := .code yX4_countSet cX4_countSet 3 none :: ([.fieldLink RX4 15 "CountLearners$WordRules" "having" "[I", .methodLink RX4 55 yX4_countPairs, .instanceMethod yX4_countPairs, .selects RX4 yX4_countPairs yX4_countPairs, .initialized RX4, .code yX4_countPairs cX4_countPairs 4 none, .fieldLink RX4 11 "CountLearners$WordRules" "support" "[I"] ++ wsX40)
def wsX4_keyOf : List Cond := .code yX4_keyOf cX4_keyOf 3 (some .int) :: ([.fieldLink RX4 11 "CountLearners$WordRules" "support" "[I", .fieldLink RX4 15 "CountLearners$WordRules" "having" "[I"] ++ wsX40)
def wsX4_insert : List Cond := .code yX4_insert cX4_insert 3 none :: ([.fieldLink RX4 21 "CountLearners$WordRules" "ruleCount" "I", .fieldLink RX4 18 "CountLearners$WordRules" "keys" "[I"] ++ wsX40)
def wsX4_gather_r1 : List Cond := [Cond.fieldLink RX4 11 "CountLearners$WordRules" "support" "[I", Cond.fieldLink RX4 15 "CountLearners$WordRules" "having" "[I", Cond.fieldLink RX4 21 "CountLearners$WordRules" "ruleCount" "I", Cond.static yX5_setAll, Cond.initialized RX5, Cond.code yX5_setAll cX5_setAll 3 none, Cond.methodLink RX4 35 yX2_size, Cond.instanceMethod yX2_size, Cond.selects RX2 yX2_size yX2_size, Cond.initialized RX2, Cond.code yX2_size cX2_size 1 (some .int), Cond.fieldLink RX2 33 "CountLearners$LabelledRows" "rowCount" "I", Cond.methodLink RX4 41 yX2_wordSet, Cond.instanceMethod yX2_wordSet, Cond.selects RX2 yX2_wordSet yX2_wordSet, Cond.code yX2_wordSet cX2_wordSet 4 (some .int), Cond.fieldLink RX2 18 "CountLearners$LabelledRows" "lengths" "[I", Cond.fieldLink RX2 21 "CountLearners$LabelledRows" "words" "[I", Cond.methodLink RX4 45 yX4_countSet, Cond.instanceMethod yX4_countSet, Cond.selects RX4 yX4_countSet yX4_countSet, Cond.initialized RX4, Cond.code yX4_countSet cX4_countSet 3 none, Cond.methodLink RX4 55 yX4_countPairs]
def wsX4_gather_r2 : List Cond := [Cond.instanceMethod yX4_countPairs, Cond.selects RX4 yX4_countPairs yX4_countPairs, Cond.code yX4_countPairs cX4_countPairs 4 none, Cond.methodLink RX4 49 yX4_keyOf, Cond.instanceMethod yX4_keyOf, Cond.selects RX4 yX4_keyOf yX4_keyOf, Cond.code yX4_keyOf cX4_keyOf 3 (some .int), Cond.methodLink RX4 52 yX4_insert, Cond.instanceMethod yX4_insert, Cond.selects RX4 yX4_insert yX4_insert, Cond.code yX4_insert cX4_insert 3 none, Cond.fieldLink RX4 18 "CountLearners$WordRules" "keys" "[I"]
def wsX4_gather : List Cond := .code yX4_gather cX4_gather 3 none :: ((wsX4_gather_r1 ++ wsX4_gather_r2) ++ wsX40 ++ wsX20)
def wsX5_init_r1 : List Cond := [Cond.methodLink RX5 1 objectInit, Cond.instanceMethod objectInit, Cond.code objectInit ⟨#[0xb1]⟩ 1 none, Cond.classLink RX5 7 RX2, Cond.instantiable RX2 10, Cond.initialized RX2, Cond.fieldLink RX5 10 "CountLearners" "rows" "LCountLearners$LabelledRows;", Cond.classLink RX5 16 RX3, Cond.instantiable RX3 5, Cond.initialized RX3, Cond.fieldLink RX5 19 "CountLearners" "tables" "LCountLearners$TextTables;", Cond.classLink RX5 23 RX1, Cond.instantiable RX1 8, Cond.initialized RX1, Cond.fieldLink RX5 26 "CountLearners" "states" "LCountLearners$HiddenStates;", Cond.classLink RX5 30 RX4, Cond.instantiable RX4 4, Cond.initialized RX4, Cond.fieldLink RX5 33 "CountLearners" "rules" "LCountLearners$WordRules;", Cond.instanceMethod yX2_init, Cond.code yX2_init cX2_init 1 none, Cond.methodLink RX2 3 objectInit, Cond.arrayClass .int, Cond.fieldLink RX2 11 "CountLearners$LabelledRows" "labels" "[I"]
def wsX5_init_r2 : List Cond := [Cond.fieldLink RX2 15 "CountLearners$LabelledRows" "guesses" "[I", Cond.fieldLink RX2 18 "CountLearners$LabelledRows" "lengths" "[I", Cond.fieldLink RX2 21 "CountLearners$LabelledRows" "words" "[I", Cond.fieldLink RX2 24 "CountLearners$LabelledRows" "times" "[I", Cond.fieldLink RX2 27 "CountLearners$LabelledRows" "totals" "[I", Cond.fieldLink RX2 30 "CountLearners$LabelledRows" "sizes" "[I", Cond.fieldLink RX2 33 "CountLearners$LabelledRows" "rowCount" "I", Cond.fieldLink RX2 37 "CountLearners$LabelledRows" "addedUp" "I", Cond.fieldLink RX2 40 "CountLearners$LabelledRows" "addedDown" "I", Cond.instanceMethod yX3_init, Cond.code yX3_init cX3_init 1 none, Cond.methodLink RX3 3 objectInit, Cond.fieldLink RX3 11 "CountLearners$TextTables" "text" "[I", Cond.fieldLink RX3 15 "CountLearners$TextTables" "behind" "[I", Cond.arrayClass .long, Cond.fieldLink RX3 18 "CountLearners$TextTables" "uppers" "[J", Cond.fieldLink RX3 22 "CountLearners$TextTables" "lower" "J", Cond.fieldLink RX3 26 "CountLearners$TextTables" "textLength" "I", Cond.methodLink RX5 25 yX1_init, Cond.instanceMethod yX1_init, Cond.code yX1_init cX1_init 1 none, Cond.methodLink RX1 5 objectInit, Cond.fieldLink RX1 11 "CountLearners$HiddenStates" "weights" "[I", Cond.fieldLink RX1 15 "CountLearners$HiddenStates" "freshWeights" "[I"]
def wsX5_init_r3 : List Cond := [Cond.fieldLink RX1 18 "CountLearners$HiddenStates" "signs" "[I", Cond.fieldLink RX1 21 "CountLearners$HiddenStates" "lengths" "[I", Cond.fieldLink RX1 24 "CountLearners$HiddenStates" "sums" "[J", Cond.fieldLink RX1 28 "CountLearners$HiddenStates" "nextSums" "[J", Cond.fieldLink RX1 31 "CountLearners$HiddenStates" "bestFrom" "[J", Cond.fieldLink RX1 34 "CountLearners$HiddenStates" "bestPath" "[I", Cond.static yX5_setAll, Cond.initialized RX5, Cond.code yX5_setAll cX5_setAll 3 none, Cond.instanceMethod yX4_init, Cond.code yX4_init cX4_init 1 none, Cond.methodLink RX4 3 objectInit, Cond.fieldLink RX4 11 "CountLearners$WordRules" "support" "[I", Cond.fieldLink RX4 15 "CountLearners$WordRules" "having" "[I", Cond.fieldLink RX4 18 "CountLearners$WordRules" "keys" "[I", Cond.fieldLink RX4 21 "CountLearners$WordRules" "ruleCount" "I"]
def wsX5_init : List Cond := .code yX5_init cX5_init 1 none :: ((wsX5_init_r1 ++ (wsX5_init_r2 ++ wsX5_init_r3)) ++ wsX20 ++ wsX50 ++ wsX30 ++ wsX10 ++ wsX40)
def wsX5_isWithin : List Cond := .code yX5_isWithin cX5_isWithin 3 (some .boolean) :: ([])
def wsX5_isLabel : List Cond := .code yX5_isLabel cX5_isLabel 1 (some .boolean) :: ([.methodLink RX5 65 yX5_isWithin, .static yX5_isWithin, .initialized RX5, .code yX5_isWithin cX5_isWithin 3 (some .boolean)])
def wsX5_isLabelOrNone : List Cond := .code yX5_isLabelOrNone cX5_isLabelOrNone 1 (some .boolean) :: ([.methodLink RX5 73 yX5_isLabel, .static yX5_isLabel, .initialized RX5, .code yX5_isLabel cX5_isLabel 1 (some .boolean), .methodLink RX5 65 yX5_isWithin, .static yX5_isWithin, .code yX5_isWithin cX5_isWithin 3 (some .boolean)])
def wsX5_row_r1 : List Cond := [Cond.fieldLink RX5 10 "CountLearners" "rows" "LCountLearners$LabelledRows;", Cond.methodLink RX5 37 yX5_isLabelOrNone, Cond.static yX5_isLabelOrNone, Cond.initialized RX5, Cond.code yX5_isLabelOrNone cX5_isLabelOrNone 1 (some .boolean), Cond.methodLink RX5 73 yX5_isLabel, Cond.static yX5_isLabel, Cond.code yX5_isLabel cX5_isLabel 1 (some .boolean), Cond.methodLink RX5 65 yX5_isWithin, Cond.static yX5_isWithin, Cond.code yX5_isWithin cX5_isWithin 3 (some .boolean), Cond.methodLink RX5 41 yX2_isFull, Cond.instanceMethod yX2_isFull, Cond.selects RX2 yX2_isFull yX2_isFull, Cond.initialized RX2, Cond.code yX2_isFull cX2_isFull 1 (some .boolean), Cond.fieldLink RX2 33 "CountLearners$LabelledRows" "rowCount" "I", Cond.methodLink RX5 45 yX2_open, Cond.instanceMethod yX2_open, Cond.selects RX2 yX2_open yX2_open, Cond.code yX2_open cX2_open 3 (some .int), Cond.fieldLink RX2 11 "CountLearners$LabelledRows" "labels" "[I", Cond.methodLink RX2 43 yX2_startAnew, Cond.instanceMethod yX2_startAnew]
def wsX5_row_r2 : List Cond := [Cond.selects RX2 yX2_startAnew yX2_startAnew, Cond.code yX2_startAnew cX2_startAnew 1 none, Cond.fieldLink RX2 15 "CountLearners$LabelledRows" "guesses" "[I", Cond.static yX5_setAll, Cond.code yX5_setAll cX5_setAll 3 none, Cond.methodLink RX2 76 yX2_tally, Cond.instanceMethod yX2_tally, Cond.selects RX2 yX2_tally yX2_tally, Cond.code yX2_tally cX2_tally 3 none, Cond.fieldLink RX2 24 "CountLearners$LabelledRows" "times" "[I", Cond.fieldLink RX2 27 "CountLearners$LabelledRows" "totals" "[I", Cond.fieldLink RX2 30 "CountLearners$LabelledRows" "sizes" "[I", Cond.methodLink RX2 83 yX2_tallyRow, Cond.instanceMethod yX2_tallyRow, Cond.selects RX2 yX2_tallyRow yX2_tallyRow, Cond.code yX2_tallyRow cX2_tallyRow 4 none, Cond.fieldLink RX2 18 "CountLearners$LabelledRows" "lengths" "[I", Cond.fieldLink RX2 21 "CountLearners$LabelledRows" "words" "[I"]
def wsX5_row : List Cond := .code yX5_row cX5_row 2 (some .int) :: ((wsX5_row_r1 ++ wsX5_row_r2) ++ wsX50 ++ wsX20)
def wsX5_isWord : List Cond := .code yX5_isWord cX5_isWord 1 (some .boolean) :: ([.methodLink RX5 65 yX5_isWithin, .static yX5_isWithin, .initialized RX5, .code yX5_isWithin cX5_isWithin 3 (some .boolean)])
def wsX5_word_r1 : List Cond := [Cond.fieldLink RX5 10 "CountLearners" "rows" "LCountLearners$LabelledRows;", Cond.methodLink RX5 49 yX2_has, Cond.instanceMethod yX2_has, Cond.selects RX2 yX2_has yX2_has, Cond.initialized RX2, Cond.code yX2_has cX2_has 2 (some .boolean), Cond.fieldLink RX2 33 "CountLearners$LabelledRows" "rowCount" "I", Cond.methodLink RX5 52 yX5_isWord, Cond.static yX5_isWord, Cond.initialized RX5, Cond.code yX5_isWord cX5_isWord 1 (some .boolean), Cond.methodLink RX5 65 yX5_isWithin, Cond.static yX5_isWithin, Cond.code yX5_isWithin cX5_isWithin 3 (some .boolean), Cond.methodLink RX5 55 yX2_isFullRow, Cond.instanceMethod yX2_isFullRow, Cond.selects RX2 yX2_isFullRow yX2_isFullRow, Cond.code yX2_isFullRow cX2_isFullRow 2 (some .boolean), Cond.fieldLink RX2 18 "CountLearners$LabelledRows" "lengths" "[I", Cond.methodLink RX5 58 yX2_append, Cond.instanceMethod yX2_append, Cond.selects RX2 yX2_append yX2_append, Cond.code yX2_append cX2_append 3 (some .int), Cond.fieldLink RX2 21 "CountLearners$LabelledRows" "words" "[I"]
def wsX5_word_r2 : List Cond := [Cond.methodLink RX2 43 yX2_startAnew, Cond.instanceMethod yX2_startAnew, Cond.selects RX2 yX2_startAnew yX2_startAnew, Cond.code yX2_startAnew cX2_startAnew 1 none, Cond.fieldLink RX2 15 "CountLearners$LabelledRows" "guesses" "[I", Cond.static yX5_setAll, Cond.code yX5_setAll cX5_setAll 3 none, Cond.methodLink RX2 76 yX2_tally, Cond.instanceMethod yX2_tally, Cond.selects RX2 yX2_tally yX2_tally, Cond.code yX2_tally cX2_tally 3 none, Cond.fieldLink RX2 24 "CountLearners$LabelledRows" "times" "[I", Cond.fieldLink RX2 27 "CountLearners$LabelledRows" "totals" "[I", Cond.fieldLink RX2 30 "CountLearners$LabelledRows" "sizes" "[I", Cond.fieldLink RX2 11 "CountLearners$LabelledRows" "labels" "[I", Cond.methodLink RX2 83 yX2_tallyRow, Cond.instanceMethod yX2_tallyRow, Cond.selects RX2 yX2_tallyRow yX2_tallyRow, Cond.code yX2_tallyRow cX2_tallyRow 4 none]
def wsX5_word : List Cond := .code yX5_word cX5_word 3 (some .int) :: ((wsX5_word_r1 ++ wsX5_word_r2) ++ wsX50 ++ wsX20)
def wsX5_label_r1 : List Cond := [Cond.fieldLink RX5 10 "CountLearners" "rows" "LCountLearners$LabelledRows;", Cond.methodLink RX5 49 yX2_has, Cond.instanceMethod yX2_has, Cond.selects RX2 yX2_has yX2_has, Cond.initialized RX2, Cond.code yX2_has cX2_has 2 (some .boolean), Cond.fieldLink RX2 33 "CountLearners$LabelledRows" "rowCount" "I", Cond.methodLink RX5 37 yX5_isLabelOrNone, Cond.static yX5_isLabelOrNone, Cond.initialized RX5, Cond.code yX5_isLabelOrNone cX5_isLabelOrNone 1 (some .boolean), Cond.methodLink RX5 73 yX5_isLabel, Cond.static yX5_isLabel, Cond.code yX5_isLabel cX5_isLabel 1 (some .boolean), Cond.methodLink RX5 65 yX5_isWithin, Cond.static yX5_isWithin, Cond.code yX5_isWithin cX5_isWithin 3 (some .boolean), Cond.methodLink RX5 62 yX2_relabel, Cond.instanceMethod yX2_relabel, Cond.selects RX2 yX2_relabel yX2_relabel, Cond.code yX2_relabel cX2_relabel 4 (some .int), Cond.fieldLink RX2 11 "CountLearners$LabelledRows" "labels" "[I", Cond.methodLink RX2 43 yX2_startAnew, Cond.instanceMethod yX2_startAnew]
def wsX5_label_r2 : List Cond := [Cond.selects RX2 yX2_startAnew yX2_startAnew, Cond.code yX2_startAnew cX2_startAnew 1 none, Cond.fieldLink RX2 15 "CountLearners$LabelledRows" "guesses" "[I", Cond.static yX5_setAll, Cond.code yX5_setAll cX5_setAll 3 none, Cond.methodLink RX2 76 yX2_tally, Cond.instanceMethod yX2_tally, Cond.selects RX2 yX2_tally yX2_tally, Cond.code yX2_tally cX2_tally 3 none, Cond.fieldLink RX2 24 "CountLearners$LabelledRows" "times" "[I", Cond.fieldLink RX2 27 "CountLearners$LabelledRows" "totals" "[I", Cond.fieldLink RX2 30 "CountLearners$LabelledRows" "sizes" "[I", Cond.methodLink RX2 83 yX2_tallyRow, Cond.instanceMethod yX2_tallyRow, Cond.selects RX2 yX2_tallyRow yX2_tallyRow, Cond.code yX2_tallyRow cX2_tallyRow 4 none, Cond.fieldLink RX2 18 "CountLearners$LabelledRows" "lengths" "[I", Cond.fieldLink RX2 21 "CountLearners$LabelledRows" "words" "[I"]
def wsX5_label : List Cond := .code yX5_label cX5_label 3 (some .int) :: ((wsX5_label_r1 ++ wsX5_label_r2) ++ wsX50 ++ wsX20)
def wsX5_addition_r1 : List Cond := [Cond.fieldLink RX5 10 "CountLearners" "rows" "LCountLearners$LabelledRows;", Cond.methodLink RX5 65 yX5_isWithin, Cond.static yX5_isWithin, Cond.initialized RX5, Cond.code yX5_isWithin cX5_isWithin 3 (some .boolean), Cond.methodLink RX5 69 yX2_setAddition, Cond.instanceMethod yX2_setAddition, Cond.selects RX2 yX2_setAddition yX2_setAddition, Cond.initialized RX2, Cond.code yX2_setAddition cX2_setAddition 3 none, Cond.fieldLink RX2 37 "CountLearners$LabelledRows" "addedUp" "I", Cond.fieldLink RX2 40 "CountLearners$LabelledRows" "addedDown" "I", Cond.methodLink RX2 43 yX2_startAnew, Cond.instanceMethod yX2_startAnew, Cond.selects RX2 yX2_startAnew yX2_startAnew, Cond.code yX2_startAnew cX2_startAnew 1 none, Cond.fieldLink RX2 15 "CountLearners$LabelledRows" "guesses" "[I", Cond.static yX5_setAll, Cond.code yX5_setAll cX5_setAll 3 none, Cond.methodLink RX2 76 yX2_tally, Cond.instanceMethod yX2_tally, Cond.selects RX2 yX2_tally yX2_tally, Cond.code yX2_tally cX2_tally 3 none, Cond.fieldLink RX2 24 "CountLearners$LabelledRows" "times" "[I"]
def wsX5_addition_r2 : List Cond := [Cond.fieldLink RX2 27 "CountLearners$LabelledRows" "totals" "[I", Cond.fieldLink RX2 30 "CountLearners$LabelledRows" "sizes" "[I", Cond.fieldLink RX2 33 "CountLearners$LabelledRows" "rowCount" "I", Cond.fieldLink RX2 11 "CountLearners$LabelledRows" "labels" "[I", Cond.methodLink RX2 83 yX2_tallyRow, Cond.instanceMethod yX2_tallyRow, Cond.selects RX2 yX2_tallyRow yX2_tallyRow, Cond.code yX2_tallyRow cX2_tallyRow 4 none, Cond.fieldLink RX2 18 "CountLearners$LabelledRows" "lengths" "[I", Cond.fieldLink RX2 21 "CountLearners$LabelledRows" "words" "[I"]
def wsX5_addition : List Cond := .code yX5_addition cX5_addition 3 (some .int) :: ((wsX5_addition_r1 ++ wsX5_addition_r2) ++ wsX50 ++ wsX20)
def wsX5_counted_r1 : List Cond := [Cond.fieldLink RX5 10 "CountLearners" "rows" "LCountLearners$LabelledRows;", Cond.methodLink RX5 73 yX5_isLabel, Cond.static yX5_isLabel, Cond.initialized RX5, Cond.code yX5_isLabel cX5_isLabel 1 (some .boolean), Cond.methodLink RX5 65 yX5_isWithin, Cond.static yX5_isWithin, Cond.code yX5_isWithin cX5_isWithin 3 (some .boolean), Cond.methodLink RX5 52 yX5_isWord, Cond.static yX5_isWord, Cond.code yX5_isWord cX5_isWord 1 (some .boolean), Cond.methodLink RX5 76 yX2_timesIn, Cond.instanceMethod yX2_timesIn, Cond.selects RX2 yX2_timesIn yX2_timesIn, Cond.initialized RX2, Cond.code yX2_timesIn cX2_timesIn 3 (some .int), Cond.fieldLink RX2 24 "CountLearners$LabelledRows" "times" "[I", Cond.methodLink RX5 79 yX2_wordsIn, Cond.instanceMethod yX2_wordsIn, Cond.selects RX2 yX2_wordsIn yX2_wordsIn, Cond.code yX2_wordsIn cX2_wordsIn 2 (some .int), Cond.fieldLink RX2 27 "CountLearners$LabelledRows" "totals" "[I", Cond.methodLink RX5 82 yX2_rowsIn, Cond.instanceMethod yX2_rowsIn]
def wsX5_counted_r2 : List Cond := [Cond.selects RX2 yX2_rowsIn yX2_rowsIn, Cond.code yX2_rowsIn cX2_rowsIn 2 (some .int), Cond.fieldLink RX2 30 "CountLearners$LabelledRows" "sizes" "[I"]
def wsX5_counted : List Cond := .code yX5_counted cX5_counted 3 (some .int) :: ((wsX5_counted_r1 ++ wsX5_counted_r2) ++ wsX50 ++ wsX20)
def wsX5_isSide : List Cond := .code yX5_isSide cX5_isSide 1 (some .boolean) :: ([.methodLink RX5 65 yX5_isWithin, .static yX5_isWithin, .initialized RX5, .code yX5_isWithin cX5_isWithin 3 (some .boolean)])
def wsX5_share_r1 : List Cond := [Cond.classLink RX5 94 "java/lang/ArithmeticException", Cond.initialized "java/lang/ArithmeticException", Cond.constantLong RX5 88 (-2), Cond.fieldLink RX5 10 "CountLearners" "rows" "LCountLearners$LabelledRows;", Cond.methodLink RX5 73 yX5_isLabel, Cond.static yX5_isLabel, Cond.initialized RX5, Cond.code yX5_isLabel cX5_isLabel 1 (some .boolean), Cond.methodLink RX5 65 yX5_isWithin, Cond.static yX5_isWithin, Cond.code yX5_isWithin cX5_isWithin 3 (some .boolean), Cond.methodLink RX5 52 yX5_isWord, Cond.static yX5_isWord, Cond.code yX5_isWord cX5_isWord 1 (some .boolean), Cond.methodLink RX5 85 yX5_isSide, Cond.static yX5_isSide, Cond.code yX5_isSide cX5_isSide 1 (some .boolean), Cond.methodLink RX5 90 yX2_shareLower, Cond.instanceMethod yX2_shareLower, Cond.selects RX2 yX2_shareLower yX2_shareLower, Cond.initialized RX2, Cond.code yX2_shareLower cX2_shareLower 2 (some .long), Cond.fieldLink RX2 27 "CountLearners$LabelledRows" "totals" "[I", Cond.fieldLink RX2 40 "CountLearners$LabelledRows" "addedDown" "I"]
def wsX5_share_r2 : List Cond := [Cond.constantLong RX2 50 (8), Cond.fieldLink RX2 37 "CountLearners$LabelledRows" "addedUp" "I", Cond.methodLink RX5 101 yX2_shareUpper, Cond.instanceMethod yX2_shareUpper, Cond.selects RX2 yX2_shareUpper yX2_shareUpper, Cond.code yX2_shareUpper cX2_shareUpper 3 (some .long), Cond.methodLink RX2 46 yX2_timesIn, Cond.instanceMethod yX2_timesIn, Cond.selects RX2 yX2_timesIn yX2_timesIn, Cond.code yX2_timesIn cX2_timesIn 3 (some .int), Cond.fieldLink RX2 24 "CountLearners$LabelledRows" "times" "[I", Cond.methodLink RX5 105 yX0_sideOf, Cond.static yX0_sideOf, Cond.initialized RX0, Cond.code yX0_sideOf cX0_sideOf 7 (some .long), Cond.methodLink RX0 7 yX0_commonDivisor, Cond.static yX0_commonDivisor, Cond.code yX0_commonDivisor cX0_commonDivisor 11 (some .long)]
def wsX5_share : List Cond := .code yX5_share cX5_share 6 (some .long) :: ((wsX5_share_r1 ++ wsX5_share_r2) ++ wsX50 ++ wsX20 ++ (vx_atS RX5 98 "java/lang/ArithmeticException" ["java/lang/RuntimeException", "java/lang/Exception"]).filter goodWord)
def wsX5_weight_r1 : List Cond := [Cond.fieldLink RX5 10 "CountLearners" "rows" "LCountLearners$LabelledRows;", Cond.constantLong RX5 88 (-2), Cond.methodLink RX5 49 yX2_has, Cond.instanceMethod yX2_has, Cond.selects RX2 yX2_has yX2_has, Cond.initialized RX2, Cond.code yX2_has cX2_has 2 (some .boolean), Cond.fieldLink RX2 33 "CountLearners$LabelledRows" "rowCount" "I", Cond.methodLink RX5 73 yX5_isLabel, Cond.static yX5_isLabel, Cond.initialized RX5, Cond.code yX5_isLabel cX5_isLabel 1 (some .boolean), Cond.methodLink RX5 65 yX5_isWithin, Cond.static yX5_isWithin, Cond.code yX5_isWithin cX5_isWithin 3 (some .boolean), Cond.methodLink RX5 85 yX5_isSide, Cond.static yX5_isSide, Cond.code yX5_isSide cX5_isSide 1 (some .boolean), Cond.methodLink RX5 111 yX2_weightUpper, Cond.instanceMethod yX2_weightUpper, Cond.selects RX2 yX2_weightUpper yX2_weightUpper, Cond.code yX2_weightUpper cX2_weightUpper 6 (some .long), Cond.fieldLink RX2 30 "CountLearners$LabelledRows" "sizes" "[I", Cond.fieldLink RX2 18 "CountLearners$LabelledRows" "lengths" "[I"]
def wsX5_weight_r2 : List Cond := [Cond.fieldLink RX2 21 "CountLearners$LabelledRows" "words" "[I", Cond.methodLink RX2 52 yX2_shareUpper, Cond.instanceMethod yX2_shareUpper, Cond.selects RX2 yX2_shareUpper yX2_shareUpper, Cond.code yX2_shareUpper cX2_shareUpper 3 (some .long), Cond.fieldLink RX2 40 "CountLearners$LabelledRows" "addedDown" "I", Cond.fieldLink RX2 37 "CountLearners$LabelledRows" "addedUp" "I", Cond.methodLink RX2 46 yX2_timesIn, Cond.instanceMethod yX2_timesIn, Cond.selects RX2 yX2_timesIn yX2_timesIn, Cond.code yX2_timesIn cX2_timesIn 3 (some .int), Cond.fieldLink RX2 24 "CountLearners$LabelledRows" "times" "[I", Cond.methodLink RX5 114 yX2_weightLower, Cond.instanceMethod yX2_weightLower, Cond.selects RX2 yX2_weightLower yX2_weightLower, Cond.code yX2_weightLower cX2_weightLower 6 (some .long), Cond.methodLink RX2 56 yX2_shareLower, Cond.instanceMethod yX2_shareLower, Cond.selects RX2 yX2_shareLower yX2_shareLower, Cond.code yX2_shareLower cX2_shareLower 2 (some .long), Cond.fieldLink RX2 27 "CountLearners$LabelledRows" "totals" "[I", Cond.constantLong RX2 50 (8), Cond.methodLink RX5 105 yX0_sideOf, Cond.static yX0_sideOf]
def wsX5_weight_r3 : List Cond := [Cond.initialized RX0, Cond.code yX0_sideOf cX0_sideOf 7 (some .long), Cond.methodLink RX0 7 yX0_commonDivisor, Cond.static yX0_commonDivisor, Cond.code yX0_commonDivisor cX0_commonDivisor 11 (some .long)]
def wsX5_weight : List Cond := .code yX5_weight cX5_weight 4 (some .long) :: ((wsX5_weight_r1 ++ (wsX5_weight_r2 ++ wsX5_weight_r3)) ++ wsX50 ++ wsX20)
def wsX5_best_r1 : List Cond := [Cond.fieldLink RX5 10 "CountLearners" "rows" "LCountLearners$LabelledRows;", Cond.methodLink RX5 49 yX2_has, Cond.instanceMethod yX2_has, Cond.selects RX2 yX2_has yX2_has, Cond.initialized RX2, Cond.code yX2_has cX2_has 2 (some .boolean), Cond.fieldLink RX2 33 "CountLearners$LabelledRows" "rowCount" "I", Cond.methodLink RX5 117 yX2_bestLabel, Cond.instanceMethod yX2_bestLabel, Cond.selects RX2 yX2_bestLabel yX2_bestLabel, Cond.code yX2_bestLabel cX2_bestLabel 12 (some .int), Cond.methodLink RX2 60 yX2_weightUpper, Cond.instanceMethod yX2_weightUpper, Cond.selects RX2 yX2_weightUpper yX2_weightUpper, Cond.code yX2_weightUpper cX2_weightUpper 6 (some .long), Cond.fieldLink RX2 30 "CountLearners$LabelledRows" "sizes" "[I", Cond.fieldLink RX2 18 "CountLearners$LabelledRows" "lengths" "[I", Cond.fieldLink RX2 21 "CountLearners$LabelledRows" "words" "[I", Cond.methodLink RX2 52 yX2_shareUpper, Cond.instanceMethod yX2_shareUpper, Cond.selects RX2 yX2_shareUpper yX2_shareUpper, Cond.code yX2_shareUpper cX2_shareUpper 3 (some .long), Cond.fieldLink RX2 40 "CountLearners$LabelledRows" "addedDown" "I", Cond.fieldLink RX2 37 "CountLearners$LabelledRows" "addedUp" "I"]
def wsX5_best_r2 : List Cond := [Cond.methodLink RX2 46 yX2_timesIn, Cond.instanceMethod yX2_timesIn, Cond.selects RX2 yX2_timesIn yX2_timesIn, Cond.code yX2_timesIn cX2_timesIn 3 (some .int), Cond.fieldLink RX2 24 "CountLearners$LabelledRows" "times" "[I", Cond.methodLink RX2 63 yX2_weightLower, Cond.instanceMethod yX2_weightLower, Cond.selects RX2 yX2_weightLower yX2_weightLower, Cond.code yX2_weightLower cX2_weightLower 6 (some .long), Cond.methodLink RX2 56 yX2_shareLower, Cond.instanceMethod yX2_shareLower, Cond.selects RX2 yX2_shareLower yX2_shareLower, Cond.code yX2_shareLower cX2_shareLower 2 (some .long), Cond.fieldLink RX2 27 "CountLearners$LabelledRows" "totals" "[I", Cond.constantLong RX2 50 (8), Cond.methodLink RX2 66 yX0_isAbove, Cond.static yX0_isAbove, Cond.initialized RX0, Cond.code yX0_isAbove cX0_isAbove 25 (some .boolean)]
def wsX5_best : List Cond := .code yX5_best cX5_best 2 (some .int) :: ((wsX5_best_r1 ++ wsX5_best_r2) ++ wsX50 ++ wsX20)
def wsX5_rounds_r1 : List Cond := [Cond.fieldLink RX5 10 "CountLearners" "rows" "LCountLearners$LabelledRows;", Cond.methodLink RX5 65 yX5_isWithin, Cond.static yX5_isWithin, Cond.initialized RX5, Cond.code yX5_isWithin cX5_isWithin 3 (some .boolean), Cond.methodLink RX5 120 yX2_guessAnew, Cond.instanceMethod yX2_guessAnew, Cond.selects RX2 yX2_guessAnew yX2_guessAnew, Cond.initialized RX2, Cond.code yX2_guessAnew cX2_guessAnew 4 (some .boolean), Cond.fieldLink RX2 33 "CountLearners$LabelledRows" "rowCount" "I", Cond.fieldLink RX2 11 "CountLearners$LabelledRows" "labels" "[I", Cond.fieldLink RX2 15 "CountLearners$LabelledRows" "guesses" "[I", Cond.methodLink RX2 72 yX2_bestLabel, Cond.instanceMethod yX2_bestLabel, Cond.selects RX2 yX2_bestLabel yX2_bestLabel, Cond.code yX2_bestLabel cX2_bestLabel 12 (some .int), Cond.methodLink RX2 60 yX2_weightUpper, Cond.instanceMethod yX2_weightUpper, Cond.selects RX2 yX2_weightUpper yX2_weightUpper, Cond.code yX2_weightUpper cX2_weightUpper 6 (some .long), Cond.fieldLink RX2 30 "CountLearners$LabelledRows" "sizes" "[I", Cond.fieldLink RX2 18 "CountLearners$LabelledRows" "lengths" "[I", Cond.fieldLink RX2 21 "CountLearners$LabelledRows" "words" "[I"]
def wsX5_rounds_r2 : List Cond := [Cond.methodLink RX2 52 yX2_shareUpper, Cond.instanceMethod yX2_shareUpper, Cond.selects RX2 yX2_shareUpper yX2_shareUpper, Cond.code yX2_shareUpper cX2_shareUpper 3 (some .long), Cond.fieldLink RX2 40 "CountLearners$LabelledRows" "addedDown" "I", Cond.fieldLink RX2 37 "CountLearners$LabelledRows" "addedUp" "I", Cond.methodLink RX2 46 yX2_timesIn, Cond.instanceMethod yX2_timesIn, Cond.selects RX2 yX2_timesIn yX2_timesIn, Cond.code yX2_timesIn cX2_timesIn 3 (some .int), Cond.fieldLink RX2 24 "CountLearners$LabelledRows" "times" "[I", Cond.methodLink RX2 63 yX2_weightLower, Cond.instanceMethod yX2_weightLower, Cond.selects RX2 yX2_weightLower yX2_weightLower, Cond.code yX2_weightLower cX2_weightLower 6 (some .long), Cond.methodLink RX2 56 yX2_shareLower, Cond.instanceMethod yX2_shareLower, Cond.selects RX2 yX2_shareLower yX2_shareLower, Cond.code yX2_shareLower cX2_shareLower 2 (some .long), Cond.fieldLink RX2 27 "CountLearners$LabelledRows" "totals" "[I", Cond.constantLong RX2 50 (8), Cond.methodLink RX2 66 yX0_isAbove, Cond.static yX0_isAbove, Cond.initialized RX0]
def wsX5_rounds_r3 : List Cond := [Cond.code yX0_isAbove cX0_isAbove 25 (some .boolean), Cond.methodLink RX2 76 yX2_tally, Cond.instanceMethod yX2_tally, Cond.selects RX2 yX2_tally yX2_tally, Cond.code yX2_tally cX2_tally 3 none, Cond.static yX5_setAll, Cond.code yX5_setAll cX5_setAll 3 none, Cond.methodLink RX2 83 yX2_tallyRow, Cond.instanceMethod yX2_tallyRow, Cond.selects RX2 yX2_tallyRow yX2_tallyRow, Cond.code yX2_tallyRow cX2_tallyRow 4 none]
def wsX5_rounds : List Cond := .code yX5_rounds cX5_rounds 4 (some .int) :: ((wsX5_rounds_r1 ++ (wsX5_rounds_r2 ++ wsX5_rounds_r3)) ++ wsX50 ++ wsX20)
def wsX5_guess : List Cond := .code yX5_guess cX5_guess 2 (some .int) :: ([.fieldLink RX5 10 "CountLearners" "rows" "LCountLearners$LabelledRows;", .methodLink RX5 49 yX2_has, .instanceMethod yX2_has, .selects RX2 yX2_has yX2_has, .initialized RX2, .code yX2_has cX2_has 2 (some .boolean), .fieldLink RX2 33 "CountLearners$LabelledRows" "rowCount" "I", .methodLink RX5 123 yX2_guessOf, .instanceMethod yX2_guessOf, .selects RX2 yX2_guessOf yX2_guessOf, .code yX2_guessOf cX2_guessOf 2 (some .int), .fieldLink RX2 15 "CountLearners$LabelledRows" "guesses" "[I"] ++ wsX50 ++ wsX20)
def wsX5_text : List Cond := .code yX5_text cX5_text 2 (some .int) :: ([.fieldLink RX5 19 "CountLearners" "tables" "LCountLearners$TextTables;", .methodLink RX5 52 yX5_isWord, .static yX5_isWord, .initialized RX5, .code yX5_isWord cX5_isWord 1 (some .boolean), .methodLink RX5 65 yX5_isWithin, .static yX5_isWithin, .code yX5_isWithin cX5_isWithin 3 (some .boolean), .methodLink RX5 126 yX3_isFull, .instanceMethod yX3_isFull, .selects RX3 yX3_isFull yX3_isFull, .initialized RX3, .code yX3_isFull cX3_isFull 1 (some .boolean), .fieldLink RX3 26 "CountLearners$TextTables" "textLength" "I", .methodLink RX5 127 yX3_append, .instanceMethod yX3_append, .selects RX3 yX3_append yX3_append, .code yX3_append cX3_append 2 (some .int), .fieldLink RX3 11 "CountLearners$TextTables" "text" "[I"] ++ wsX50 ++ wsX30)
def wsX5_isTable : List Cond := .code yX5_isTable cX5_isTable 2 (some .boolean) :: ([.methodLink RX5 52 yX5_isWord, .static yX5_isWord, .initialized RX5, .code yX5_isWord cX5_isWord 1 (some .boolean), .methodLink RX5 65 yX5_isWithin, .static yX5_isWithin, .code yX5_isWithin cX5_isWithin 3 (some .boolean)])
def wsX5_next_r1 : List Cond := [Cond.constantLong RX5 88 (-2), Cond.fieldLink RX5 19 "CountLearners" "tables" "LCountLearners$TextTables;", Cond.methodLink RX5 129 yX5_isTable, Cond.static yX5_isTable, Cond.initialized RX5, Cond.code yX5_isTable cX5_isTable 2 (some .boolean), Cond.methodLink RX5 52 yX5_isWord, Cond.static yX5_isWord, Cond.code yX5_isWord cX5_isWord 1 (some .boolean), Cond.methodLink RX5 65 yX5_isWithin, Cond.static yX5_isWithin, Cond.code yX5_isWithin cX5_isWithin 3 (some .boolean), Cond.methodLink RX5 85 yX5_isSide, Cond.static yX5_isSide, Cond.code yX5_isSide cX5_isSide 1 (some .boolean), Cond.methodLink RX5 133 yX3_fill, Cond.instanceMethod yX3_fill, Cond.selects RX3 yX3_fill yX3_fill, Cond.initialized RX3, Cond.code yX3_fill cX3_fill 3 none, Cond.methodLink RX3 30 yX3_fillFirst, Cond.instanceMethod yX3_fillFirst, Cond.selects RX3 yX3_fillFirst yX3_fillFirst, Cond.code yX3_fillFirst cX3_fillFirst 2 none]
def wsX5_next_r2 : List Cond := [Cond.fieldLink RX3 18 "CountLearners$TextTables" "uppers" "[J", Cond.fieldLink RX3 26 "CountLearners$TextTables" "textLength" "I", Cond.fieldLink RX3 11 "CountLearners$TextTables" "text" "[I", Cond.fieldLink RX3 22 "CountLearners$TextTables" "lower" "J", Cond.methodLink RX3 33 yX3_countBehind, Cond.instanceMethod yX3_countBehind, Cond.selects RX3 yX3_countBehind yX3_countBehind, Cond.code yX3_countBehind cX3_countBehind 4 none, Cond.fieldLink RX3 15 "CountLearners$TextTables" "behind" "[I", Cond.static yX5_setAll, Cond.code yX5_setAll cX5_setAll 3 none, Cond.methodLink RX3 37 yX3_putAbove, Cond.instanceMethod yX3_putAbove, Cond.selects RX3 yX3_putAbove yX3_putAbove, Cond.code yX3_putAbove cX3_putAbove 6 none, Cond.methodLink RX3 44 yX3_takeCounts, Cond.instanceMethod yX3_takeCounts, Cond.selects RX3 yX3_takeCounts yX3_takeCounts, Cond.code yX3_takeCounts cX3_takeCounts 3 none, Cond.methodLink RX3 48 yX3_handDown, Cond.instanceMethod yX3_handDown, Cond.selects RX3 yX3_handDown yX3_handDown, Cond.code yX3_handDown cX3_handDown 6 none, Cond.constantLong RX3 52 (2)]
def wsX5_next_r3 : List Cond := [Cond.methodLink RX5 136 yX3_upperOf, Cond.instanceMethod yX3_upperOf, Cond.selects RX3 yX3_upperOf yX3_upperOf, Cond.code yX3_upperOf cX3_upperOf 2 (some .long), Cond.methodLink RX5 139 yX3_lowerOfAll, Cond.instanceMethod yX3_lowerOfAll, Cond.selects RX3 yX3_lowerOfAll yX3_lowerOfAll, Cond.code yX3_lowerOfAll cX3_lowerOfAll 1 (some .long), Cond.methodLink RX5 105 yX0_sideOf, Cond.static yX0_sideOf, Cond.initialized RX0, Cond.code yX0_sideOf cX0_sideOf 7 (some .long), Cond.methodLink RX0 7 yX0_commonDivisor, Cond.static yX0_commonDivisor, Cond.code yX0_commonDivisor cX0_commonDivisor 11 (some .long)]
def wsX5_next : List Cond := .code yX5_next cX5_next 5 (some .long) :: ((wsX5_next_r1 ++ (wsX5_next_r2 ++ wsX5_next_r3)) ++ wsX50 ++ wsX30)
def wsX5_likely_r1 : List Cond := [Cond.fieldLink RX5 19 "CountLearners" "tables" "LCountLearners$TextTables;", Cond.methodLink RX5 129 yX5_isTable, Cond.static yX5_isTable, Cond.initialized RX5, Cond.code yX5_isTable cX5_isTable 2 (some .boolean), Cond.methodLink RX5 52 yX5_isWord, Cond.static yX5_isWord, Cond.code yX5_isWord cX5_isWord 1 (some .boolean), Cond.methodLink RX5 65 yX5_isWithin, Cond.static yX5_isWithin, Cond.code yX5_isWithin cX5_isWithin 3 (some .boolean), Cond.methodLink RX5 133 yX3_fill, Cond.instanceMethod yX3_fill, Cond.selects RX3 yX3_fill yX3_fill, Cond.initialized RX3, Cond.code yX3_fill cX3_fill 3 none, Cond.methodLink RX3 30 yX3_fillFirst, Cond.instanceMethod yX3_fillFirst, Cond.selects RX3 yX3_fillFirst yX3_fillFirst, Cond.code yX3_fillFirst cX3_fillFirst 2 none, Cond.fieldLink RX3 18 "CountLearners$TextTables" "uppers" "[J", Cond.fieldLink RX3 26 "CountLearners$TextTables" "textLength" "I", Cond.fieldLink RX3 11 "CountLearners$TextTables" "text" "[I", Cond.fieldLink RX3 22 "CountLearners$TextTables" "lower" "J"]
def wsX5_likely_r2 : List Cond := [Cond.methodLink RX3 33 yX3_countBehind, Cond.instanceMethod yX3_countBehind, Cond.selects RX3 yX3_countBehind yX3_countBehind, Cond.code yX3_countBehind cX3_countBehind 4 none, Cond.fieldLink RX3 15 "CountLearners$TextTables" "behind" "[I", Cond.static yX5_setAll, Cond.code yX5_setAll cX5_setAll 3 none, Cond.methodLink RX3 37 yX3_putAbove, Cond.instanceMethod yX3_putAbove, Cond.selects RX3 yX3_putAbove yX3_putAbove, Cond.code yX3_putAbove cX3_putAbove 6 none, Cond.methodLink RX3 44 yX3_takeCounts, Cond.instanceMethod yX3_takeCounts, Cond.selects RX3 yX3_takeCounts yX3_takeCounts, Cond.code yX3_takeCounts cX3_takeCounts 3 none, Cond.methodLink RX3 48 yX3_handDown, Cond.instanceMethod yX3_handDown, Cond.selects RX3 yX3_handDown yX3_handDown, Cond.code yX3_handDown cX3_handDown 6 none, Cond.constantLong RX3 52 (2), Cond.methodLink RX5 143 yX3_greatest, Cond.instanceMethod yX3_greatest, Cond.selects RX3 yX3_greatest yX3_greatest, Cond.code yX3_greatest cX3_greatest 3 (some .int)]
def wsX5_likely : List Cond := .code yX5_likely cX5_likely 3 (some .int) :: ((wsX5_likely_r1 ++ wsX5_likely_r2) ++ wsX50 ++ wsX30)
def wsX5_weigh_r1 : List Cond := [Cond.fieldLink RX5 26 "CountLearners" "states" "LCountLearners$HiddenStates;", Cond.methodLink RX5 147 yX1_placeOf, Cond.static yX1_placeOf, Cond.initialized RX1, Cond.code yX1_placeOf cX1_placeOf 3 (some .int), Cond.methodLink RX1 41 yX1_isState, Cond.static yX1_isState, Cond.code yX1_isState cX1_isState 1 (some .boolean), Cond.methodLink RX1 45 yX1_moveAt, Cond.static yX1_moveAt, Cond.code yX1_moveAt cX1_moveAt 2 (some .int), Cond.methodLink RX1 49 yX1_isSign, Cond.static yX1_isSign, Cond.code yX1_isSign cX1_isSign 1 (some .boolean), Cond.methodLink RX1 52 yX1_showAt, Cond.static yX1_showAt, Cond.code yX1_showAt cX1_showAt 2 (some .int), Cond.methodLink RX5 65 yX5_isWithin, Cond.static yX5_isWithin, Cond.initialized RX5, Cond.code yX5_isWithin cX5_isWithin 3 (some .boolean), Cond.methodLink RX5 151 yX1_reweigh, Cond.instanceMethod yX1_reweigh, Cond.selects RX1 yX1_reweigh yX1_reweigh]
def wsX5_weigh_r2 : List Cond := [Cond.code yX1_reweigh cX1_reweigh 4 (some .int), Cond.fieldLink RX1 11 "CountLearners$HiddenStates" "weights" "[I"]
def wsX5_weigh : List Cond := .code yX5_weigh cX5_weigh 6 (some .int) :: ((wsX5_weigh_r1 ++ wsX5_weigh_r2) ++ wsX50 ++ wsX10)
def wsX5_sign : List Cond := .code yX5_sign cX5_sign 3 (some .int) :: ([.fieldLink RX5 26 "CountLearners" "states" "LCountLearners$HiddenStates;", .methodLink RX5 154 yX1_isRow, .static yX1_isRow, .initialized RX1, .code yX1_isRow cX1_isRow 1 (some .boolean), .methodLink RX5 157 yX1_isSign, .static yX1_isSign, .code yX1_isSign cX1_isSign 1 (some .boolean), .methodLink RX5 160 yX1_isFullRow, .instanceMethod yX1_isFullRow, .selects RX1 yX1_isFullRow yX1_isFullRow, .code yX1_isFullRow cX1_isFullRow 2 (some .boolean), .fieldLink RX1 21 "CountLearners$HiddenStates" "lengths" "[I", .methodLink RX5 161 yX1_append, .instanceMethod yX1_append, .selects RX1 yX1_append yX1_append, .code yX1_append cX1_append 3 (some .int), .fieldLink RX1 18 "CountLearners$HiddenStates" "signs" "[I"] ++ wsX50 ++ wsX10)
def wsX5_path_r1 : List Cond := [Cond.fieldLink RX5 26 "CountLearners" "states" "LCountLearners$HiddenStates;", Cond.methodLink RX5 154 yX1_isRow, Cond.static yX1_isRow, Cond.initialized RX1, Cond.code yX1_isRow cX1_isRow 1 (some .boolean), Cond.methodLink RX5 162 yX1_hasPlace, Cond.instanceMethod yX1_hasPlace, Cond.selects RX1 yX1_hasPlace yX1_hasPlace, Cond.code yX1_hasPlace cX1_hasPlace 3 (some .boolean), Cond.fieldLink RX1 21 "CountLearners$HiddenStates" "lengths" "[I", Cond.methodLink RX5 165 yX1_findBestPath, Cond.instanceMethod yX1_findBestPath, Cond.selects RX1 yX1_findBestPath yX1_findBestPath, Cond.code yX1_findBestPath cX1_findBestPath 7 (some .boolean), Cond.fieldLink RX1 31 "CountLearners$HiddenStates" "bestFrom" "[J", Cond.fieldLink RX1 34 "CountLearners$HiddenStates" "bestPath" "[I", Cond.fieldLink RX1 11 "CountLearners$HiddenStates" "weights" "[I", Cond.methodLink RX1 67 yX1_bestOnward, Cond.instanceMethod yX1_bestOnward, Cond.selects RX1 yX1_bestOnward yX1_bestOnward, Cond.code yX1_bestOnward cX1_bestOnward 5 (some .int), Cond.methodLink RX1 70 yX1_weightOnward, Cond.instanceMethod yX1_weightOnward, Cond.selects RX1 yX1_weightOnward yX1_weightOnward]
def wsX5_path_r2 : List Cond := [Cond.code yX1_weightOnward cX1_weightOnward 4 (some .long), Cond.methodLink RX1 45 yX1_moveAt, Cond.static yX1_moveAt, Cond.code yX1_moveAt cX1_moveAt 2 (some .int), Cond.methodLink RX1 59 yX1_shown, Cond.instanceMethod yX1_shown, Cond.selects RX1 yX1_shown yX1_shown, Cond.code yX1_shown cX1_shown 4 (some .int), Cond.fieldLink RX1 18 "CountLearners$HiddenStates" "signs" "[I", Cond.methodLink RX1 52 yX1_showAt, Cond.static yX1_showAt, Cond.code yX1_showAt cX1_showAt 2 (some .int), Cond.methodLink RX1 73 yX1_bestStart, Cond.instanceMethod yX1_bestStart, Cond.selects RX1 yX1_bestStart yX1_bestStart, Cond.code yX1_bestStart cX1_bestStart 3 (some .int), Cond.methodLink RX5 168 yX1_stateOnBestPath, Cond.instanceMethod yX1_stateOnBestPath, Cond.selects RX1 yX1_stateOnBestPath yX1_stateOnBestPath, Cond.code yX1_stateOnBestPath cX1_stateOnBestPath 2 (some .int)]
def wsX5_path : List Cond := .code yX5_path cX5_path 3 (some .int) :: ((wsX5_path_r1 ++ wsX5_path_r2) ++ wsX50 ++ wsX10)
def wsX5_total_r1 : List Cond := [Cond.fieldLink RX5 26 "CountLearners" "states" "LCountLearners$HiddenStates;", Cond.constantLong RX5 88 (-2), Cond.methodLink RX5 154 yX1_isRow, Cond.static yX1_isRow, Cond.initialized RX1, Cond.code yX1_isRow cX1_isRow 1 (some .boolean), Cond.methodLink RX5 171 yX1_totalOf, Cond.instanceMethod yX1_totalOf, Cond.selects RX1 yX1_totalOf yX1_totalOf, Cond.code yX1_totalOf cX1_totalOf 2 (some .long), Cond.methodLink RX1 55 yX1_totalThrough, Cond.instanceMethod yX1_totalThrough, Cond.selects RX1 yX1_totalThrough yX1_totalThrough, Cond.code yX1_totalThrough cX1_totalThrough 7 (some .long), Cond.fieldLink RX1 21 "CountLearners$HiddenStates" "lengths" "[I", Cond.fieldLink RX1 24 "CountLearners$HiddenStates" "sums" "[J", Cond.fieldLink RX1 11 "CountLearners$HiddenStates" "weights" "[I", Cond.fieldLink RX1 28 "CountLearners$HiddenStates" "nextSums" "[J", Cond.methodLink RX1 59 yX1_shown, Cond.instanceMethod yX1_shown, Cond.selects RX1 yX1_shown yX1_shown, Cond.code yX1_shown cX1_shown 4 (some .int), Cond.fieldLink RX1 18 "CountLearners$HiddenStates" "signs" "[I", Cond.methodLink RX1 52 yX1_showAt]
def wsX5_total_r2 : List Cond := [Cond.static yX1_showAt, Cond.code yX1_showAt cX1_showAt 2 (some .int), Cond.methodLink RX1 63 yX1_sumInto, Cond.instanceMethod yX1_sumInto, Cond.selects RX1 yX1_sumInto yX1_sumInto, Cond.code yX1_sumInto cX1_sumInto 5 (some .long), Cond.methodLink RX1 45 yX1_moveAt, Cond.static yX1_moveAt, Cond.code yX1_moveAt cX1_moveAt 2 (some .int)]
def wsX5_total : List Cond := .code yX5_total cX5_total 2 (some .long) :: ((wsX5_total_r1 ++ wsX5_total_r2) ++ wsX50 ++ wsX10)
def wsX5_at_r1 : List Cond := [Cond.classLink RX5 94 "java/lang/ArithmeticException", Cond.initialized "java/lang/ArithmeticException", Cond.fieldLink RX5 26 "CountLearners" "states" "LCountLearners$HiddenStates;", Cond.constantLong RX5 88 (-2), Cond.methodLink RX5 154 yX1_isRow, Cond.static yX1_isRow, Cond.initialized RX1, Cond.code yX1_isRow cX1_isRow 1 (some .boolean), Cond.methodLink RX5 162 yX1_hasPlace, Cond.instanceMethod yX1_hasPlace, Cond.selects RX1 yX1_hasPlace yX1_hasPlace, Cond.code yX1_hasPlace cX1_hasPlace 3 (some .boolean), Cond.fieldLink RX1 21 "CountLearners$HiddenStates" "lengths" "[I", Cond.methodLink RX5 174 yX1_isState, Cond.static yX1_isState, Cond.code yX1_isState cX1_isState 1 (some .boolean), Cond.methodLink RX5 85 yX5_isSide, Cond.static yX5_isSide, Cond.initialized RX5, Cond.code yX5_isSide cX5_isSide 1 (some .boolean), Cond.methodLink RX5 65 yX5_isWithin, Cond.static yX5_isWithin, Cond.code yX5_isWithin cX5_isWithin 3 (some .boolean), Cond.methodLink RX5 171 yX1_totalOf]
def wsX5_at_r2 : List Cond := [Cond.instanceMethod yX1_totalOf, Cond.selects RX1 yX1_totalOf yX1_totalOf, Cond.code yX1_totalOf cX1_totalOf 2 (some .long), Cond.methodLink RX1 55 yX1_totalThrough, Cond.instanceMethod yX1_totalThrough, Cond.selects RX1 yX1_totalThrough yX1_totalThrough, Cond.code yX1_totalThrough cX1_totalThrough 7 (some .long), Cond.fieldLink RX1 24 "CountLearners$HiddenStates" "sums" "[J", Cond.fieldLink RX1 11 "CountLearners$HiddenStates" "weights" "[I", Cond.fieldLink RX1 28 "CountLearners$HiddenStates" "nextSums" "[J", Cond.methodLink RX1 59 yX1_shown, Cond.instanceMethod yX1_shown, Cond.selects RX1 yX1_shown yX1_shown, Cond.code yX1_shown cX1_shown 4 (some .int), Cond.fieldLink RX1 18 "CountLearners$HiddenStates" "signs" "[I", Cond.methodLink RX1 52 yX1_showAt, Cond.static yX1_showAt, Cond.code yX1_showAt cX1_showAt 2 (some .int), Cond.methodLink RX1 63 yX1_sumInto, Cond.instanceMethod yX1_sumInto, Cond.selects RX1 yX1_sumInto yX1_sumInto, Cond.code yX1_sumInto cX1_sumInto 5 (some .long), Cond.methodLink RX1 45 yX1_moveAt, Cond.static yX1_moveAt]
def wsX5_at_r3 : List Cond := [Cond.code yX1_moveAt cX1_moveAt 2 (some .int), Cond.methodLink RX5 179 yX1_totalThrough, Cond.methodLink RX5 105 yX0_sideOf, Cond.static yX0_sideOf, Cond.initialized RX0, Cond.code yX0_sideOf cX0_sideOf 7 (some .long), Cond.methodLink RX0 7 yX0_commonDivisor, Cond.static yX0_commonDivisor, Cond.code yX0_commonDivisor cX0_commonDivisor 11 (some .long)]
def wsX5_at : List Cond := .code yX5_at cX5_at 7 (some .long) :: ((wsX5_at_r1 ++ (wsX5_at_r2 ++ wsX5_at_r3)) ++ wsX50 ++ wsX10 ++ (vx_atS RX5 98 "java/lang/ArithmeticException" ["java/lang/RuntimeException", "java/lang/Exception"]).filter goodWord)
def wsX5_learn_r1 : List Cond := [Cond.fieldLink RX5 26 "CountLearners" "states" "LCountLearners$HiddenStates;", Cond.methodLink RX5 65 yX5_isWithin, Cond.static yX5_isWithin, Cond.initialized RX5, Cond.code yX5_isWithin cX5_isWithin 3 (some .boolean), Cond.methodLink RX5 183 yX1_weighAnew, Cond.instanceMethod yX1_weighAnew, Cond.selects RX1 yX1_weighAnew yX1_weighAnew, Cond.initialized RX1, Cond.code yX1_weighAnew cX1_weighAnew 3 (some .boolean), Cond.fieldLink RX1 15 "CountLearners$HiddenStates" "freshWeights" "[I", Cond.fieldLink RX1 11 "CountLearners$HiddenStates" "weights" "[I", Cond.static yX5_setAll, Cond.code yX5_setAll cX5_setAll 3 none, Cond.methodLink RX1 77 yX1_findBestPath, Cond.instanceMethod yX1_findBestPath, Cond.selects RX1 yX1_findBestPath yX1_findBestPath, Cond.code yX1_findBestPath cX1_findBestPath 7 (some .boolean), Cond.fieldLink RX1 21 "CountLearners$HiddenStates" "lengths" "[I", Cond.fieldLink RX1 31 "CountLearners$HiddenStates" "bestFrom" "[J", Cond.fieldLink RX1 34 "CountLearners$HiddenStates" "bestPath" "[I", Cond.methodLink RX1 67 yX1_bestOnward, Cond.instanceMethod yX1_bestOnward, Cond.selects RX1 yX1_bestOnward yX1_bestOnward]
def wsX5_learn_r2 : List Cond := [Cond.code yX1_bestOnward cX1_bestOnward 5 (some .int), Cond.methodLink RX1 70 yX1_weightOnward, Cond.instanceMethod yX1_weightOnward, Cond.selects RX1 yX1_weightOnward yX1_weightOnward, Cond.code yX1_weightOnward cX1_weightOnward 4 (some .long), Cond.methodLink RX1 45 yX1_moveAt, Cond.static yX1_moveAt, Cond.code yX1_moveAt cX1_moveAt 2 (some .int), Cond.methodLink RX1 59 yX1_shown, Cond.instanceMethod yX1_shown, Cond.selects RX1 yX1_shown yX1_shown, Cond.code yX1_shown cX1_shown 4 (some .int), Cond.fieldLink RX1 18 "CountLearners$HiddenStates" "signs" "[I", Cond.methodLink RX1 52 yX1_showAt, Cond.static yX1_showAt, Cond.code yX1_showAt cX1_showAt 2 (some .int), Cond.methodLink RX1 73 yX1_bestStart, Cond.instanceMethod yX1_bestStart, Cond.selects RX1 yX1_bestStart yX1_bestStart, Cond.code yX1_bestStart cX1_bestStart 3 (some .int), Cond.methodLink RX1 80 yX1_countBestPath, Cond.instanceMethod yX1_countBestPath, Cond.selects RX1 yX1_countBestPath yX1_countBestPath, Cond.code yX1_countBestPath cX1_countBestPath 3 none]
def wsX5_learn : List Cond := .code yX5_learn cX5_learn 4 (some .int) :: ((wsX5_learn_r1 ++ wsX5_learn_r2) ++ wsX50 ++ wsX10)
def wsX5_rule_r1 : List Cond := [Cond.fieldLink RX5 33 "CountLearners" "rules" "LCountLearners$WordRules;", Cond.fieldLink RX5 10 "CountLearners" "rows" "LCountLearners$LabelledRows;", Cond.methodLink RX5 65 yX5_isWithin, Cond.static yX5_isWithin, Cond.initialized RX5, Cond.code yX5_isWithin cX5_isWithin 3 (some .boolean), Cond.methodLink RX5 186 yX4_gather, Cond.instanceMethod yX4_gather, Cond.selects RX4 yX4_gather yX4_gather, Cond.initialized RX4, Cond.code yX4_gather cX4_gather 3 none, Cond.fieldLink RX4 11 "CountLearners$WordRules" "support" "[I", Cond.fieldLink RX4 15 "CountLearners$WordRules" "having" "[I", Cond.fieldLink RX4 21 "CountLearners$WordRules" "ruleCount" "I", Cond.static yX5_setAll, Cond.code yX5_setAll cX5_setAll 3 none, Cond.methodLink RX4 35 yX2_size, Cond.instanceMethod yX2_size, Cond.selects RX2 yX2_size yX2_size, Cond.initialized RX2, Cond.code yX2_size cX2_size 1 (some .int), Cond.fieldLink RX2 33 "CountLearners$LabelledRows" "rowCount" "I", Cond.methodLink RX4 41 yX2_wordSet, Cond.instanceMethod yX2_wordSet]
def wsX5_rule_r2 : List Cond := [Cond.selects RX2 yX2_wordSet yX2_wordSet, Cond.code yX2_wordSet cX2_wordSet 4 (some .int), Cond.fieldLink RX2 18 "CountLearners$LabelledRows" "lengths" "[I", Cond.fieldLink RX2 21 "CountLearners$LabelledRows" "words" "[I", Cond.methodLink RX4 45 yX4_countSet, Cond.instanceMethod yX4_countSet, Cond.selects RX4 yX4_countSet yX4_countSet, Cond.code yX4_countSet cX4_countSet 3 none, Cond.methodLink RX4 55 yX4_countPairs, Cond.instanceMethod yX4_countPairs, Cond.selects RX4 yX4_countPairs yX4_countPairs, Cond.code yX4_countPairs cX4_countPairs 4 none, Cond.methodLink RX4 49 yX4_keyOf, Cond.instanceMethod yX4_keyOf, Cond.selects RX4 yX4_keyOf yX4_keyOf, Cond.code yX4_keyOf cX4_keyOf 3 (some .int), Cond.methodLink RX4 52 yX4_insert, Cond.instanceMethod yX4_insert, Cond.selects RX4 yX4_insert yX4_insert, Cond.code yX4_insert cX4_insert 3 none, Cond.fieldLink RX4 18 "CountLearners$WordRules" "keys" "[I", Cond.methodLink RX5 190 yX4_has, Cond.instanceMethod yX4_has, Cond.selects RX4 yX4_has yX4_has]
def wsX5_rule_r3 : List Cond := [Cond.code yX4_has cX4_has 2 (some .boolean), Cond.methodLink RX5 191 yX4_partOf, Cond.instanceMethod yX4_partOf, Cond.selects RX4 yX4_partOf yX4_partOf, Cond.code yX4_partOf cX4_partOf 5 (some .int), Cond.methodLink RX4 25 yX0_sideOf, Cond.static yX0_sideOf, Cond.initialized RX0, Cond.code yX0_sideOf cX0_sideOf 7 (some .long), Cond.methodLink RX0 7 yX0_commonDivisor, Cond.static yX0_commonDivisor, Cond.code yX0_commonDivisor cX0_commonDivisor 11 (some .long)]
def wsX5_rule : List Cond := .code yX5_rule cX5_rule 3 (some .int) :: ((wsX5_rule_r1 ++ (wsX5_rule_r2 ++ wsX5_rule_r3)) ++ wsX50 ++ wsX40 ++ wsX20)
def wsX5_count_r1 : List Cond := [Cond.fieldLink RX5 10 "CountLearners" "rows" "LCountLearners$LabelledRows;", Cond.fieldLink RX5 19 "CountLearners" "tables" "LCountLearners$TextTables;", Cond.fieldLink RX5 33 "CountLearners" "rules" "LCountLearners$WordRules;", Cond.fieldLink RX5 26 "CountLearners" "states" "LCountLearners$HiddenStates;", Cond.methodLink RX5 194 yX2_size, Cond.instanceMethod yX2_size, Cond.selects RX2 yX2_size yX2_size, Cond.initialized RX2, Cond.code yX2_size cX2_size 1 (some .int), Cond.fieldLink RX2 33 "CountLearners$LabelledRows" "rowCount" "I", Cond.methodLink RX5 197 yX2_labelledRows, Cond.instanceMethod yX2_labelledRows, Cond.selects RX2 yX2_labelledRows yX2_labelledRows, Cond.code yX2_labelledRows cX2_labelledRows 3 (some .int), Cond.fieldLink RX2 11 "CountLearners$LabelledRows" "labels" "[I", Cond.methodLink RX5 200 yX3_length, Cond.instanceMethod yX3_length, Cond.selects RX3 yX3_length yX3_length, Cond.initialized RX3, Cond.code yX3_length cX3_length 1 (some .int), Cond.fieldLink RX3 26 "CountLearners$TextTables" "textLength" "I", Cond.methodLink RX5 186 yX4_gather, Cond.instanceMethod yX4_gather, Cond.selects RX4 yX4_gather yX4_gather]
def wsX5_count_r2 : List Cond := [Cond.initialized RX4, Cond.code yX4_gather cX4_gather 3 none, Cond.fieldLink RX4 11 "CountLearners$WordRules" "support" "[I", Cond.fieldLink RX4 15 "CountLearners$WordRules" "having" "[I", Cond.fieldLink RX4 21 "CountLearners$WordRules" "ruleCount" "I", Cond.static yX5_setAll, Cond.initialized RX5, Cond.code yX5_setAll cX5_setAll 3 none, Cond.methodLink RX4 35 yX2_size, Cond.methodLink RX4 41 yX2_wordSet, Cond.instanceMethod yX2_wordSet, Cond.selects RX2 yX2_wordSet yX2_wordSet, Cond.code yX2_wordSet cX2_wordSet 4 (some .int), Cond.fieldLink RX2 18 "CountLearners$LabelledRows" "lengths" "[I", Cond.fieldLink RX2 21 "CountLearners$LabelledRows" "words" "[I", Cond.methodLink RX4 45 yX4_countSet, Cond.instanceMethod yX4_countSet, Cond.selects RX4 yX4_countSet yX4_countSet, Cond.code yX4_countSet cX4_countSet 3 none, Cond.methodLink RX4 55 yX4_countPairs, Cond.instanceMethod yX4_countPairs, Cond.selects RX4 yX4_countPairs yX4_countPairs, Cond.code yX4_countPairs cX4_countPairs 4 none, Cond.methodLink RX4 49 yX4_keyOf]
def wsX5_count_r3 : List Cond := [Cond.instanceMethod yX4_keyOf, Cond.selects RX4 yX4_keyOf yX4_keyOf, Cond.code yX4_keyOf cX4_keyOf 3 (some .int), Cond.methodLink RX4 52 yX4_insert, Cond.instanceMethod yX4_insert, Cond.selects RX4 yX4_insert yX4_insert, Cond.code yX4_insert cX4_insert 3 none, Cond.fieldLink RX4 18 "CountLearners$WordRules" "keys" "[I", Cond.methodLink RX5 203 yX4_size, Cond.instanceMethod yX4_size, Cond.selects RX4 yX4_size yX4_size, Cond.code yX4_size cX4_size 1 (some .int), Cond.methodLink RX5 204 yX1_signsOfAll, Cond.instanceMethod yX1_signsOfAll, Cond.selects RX1 yX1_signsOfAll yX1_signsOfAll, Cond.initialized RX1, Cond.code yX1_signsOfAll cX1_signsOfAll 3 (some .int), Cond.fieldLink RX1 21 "CountLearners$HiddenStates" "lengths" "[I"]
def wsX5_count : List Cond := .code yX5_count cX5_count 2 (some .int) :: ((wsX5_count_r1 ++ (wsX5_count_r2 ++ wsX5_count_r3)) ++ wsX50 ++ wsX20 ++ wsX30 ++ wsX40 ++ wsX10)
def wsX6_init : List Cond := .code yX6_init cX6_init 2 none :: ([.methodLink RX6 1 objectInit, .instanceMethod objectInit, .code objectInit ⟨#[0xb1]⟩ 1 none, .arrayClass .int, .fieldLink RX6 7 "CountLearnersModel" "labels" "[I", .fieldLink RX6 13 "CountLearnersModel" "guesses" "[I", .fieldLink RX6 16 "CountLearnersModel" "comes" "[I", .fieldLink RX6 19 "CountLearnersModel" "sizes" "[I", .fieldLink RX6 22 "CountLearnersModel" "words" "[I", .fieldLink RX6 25 "CountLearnersModel" "up" "I", .fieldLink RX6 29 "CountLearnersModel" "down" "I", .fieldLink RX6 32 "CountLearnersModel" "told" "[I", .fieldLink RX6 35 "CountLearnersModel" "behind" "[I", .arrayClass .long, .fieldLink RX6 38 "CountLearnersModel" "shares" "[J", .fieldLink RX6 42 "CountLearnersModel" "start" "[I", .fieldLink RX6 45 "CountLearnersModel" "move" "[I", .fieldLink RX6 48 "CountLearnersModel" "show" "[I", .fieldLink RX6 51 "CountLearnersModel" "signs" "[I", .fieldLink RX6 54 "CountLearnersModel" "many" "[I", .fieldLink RX6 57 "CountLearnersModel" "bestPath" "[I", .fieldLink RX6 60 "CountLearnersModel" "nextStart" "[I", .fieldLink RX6 63 "CountLearnersModel" "nextMove" "[I", .fieldLink RX6 66 "CountLearnersModel" "nextShow" "[I"] ++ wsX60)
def wsX6_thrown : List Cond := .code yX6_thrown cX6_thrown 1 (some .int) :: ([.fieldLink RX6 69 "CountLearnersModel" "thrown" "I"] ++ wsX60)
def wsX6_within : List Cond := .code yX6_within cX6_within 3 (some .boolean) :: ([])
def wsX6_measure : List Cond := .code yX6_measure cX6_measure 10 (some .long) :: ([])
def wsX6_side : List Cond := .code yX6_side cX6_side 7 (some .long) :: ([.methodLink RX6 72 yX6_measure, .static yX6_measure, .initialized RX6, .code yX6_measure cX6_measure 10 (some .long)])
def wsX6_isAbove : List Cond := .code yX6_isAbove cX6_isAbove 23 (some .boolean) :: ([])
def wsX6_isRow : List Cond := .code yX6_isRow cX6_isRow 2 (some .boolean) :: ([.fieldLink RX6 76 "CountLearnersModel" "rows" "I", .methodLink RX6 79 yX6_within, .static yX6_within, .initialized RX6, .code yX6_within cX6_within 3 (some .boolean)] ++ wsX60)
def wsX6_forget : List Cond := .code yX6_forget cX6_forget 2 none :: ([.fieldLink RX6 13 "CountLearnersModel" "guesses" "[I"] ++ wsX60)
def wsX6_mayBe : List Cond := .code yX6_mayBe cX6_mayBe 1 (some .boolean) :: ([.methodLink RX6 79 yX6_within, .static yX6_within, .initialized RX6, .code yX6_within cX6_within 3 (some .boolean)])
def wsX6_row : List Cond := .code yX6_row cX6_row 2 (some .int) :: ([.fieldLink RX6 69 "CountLearnersModel" "thrown" "I", .fieldLink RX6 76 "CountLearnersModel" "rows" "I", .fieldLink RX6 7 "CountLearnersModel" "labels" "[I", .fieldLink RX6 19 "CountLearnersModel" "sizes" "[I", .methodLink RX6 83 yX6_mayBe, .static yX6_mayBe, .initialized RX6, .code yX6_mayBe cX6_mayBe 1 (some .boolean), .methodLink RX6 79 yX6_within, .static yX6_within, .code yX6_within cX6_within 3 (some .boolean), .methodLink RX6 87 yX6_forget, .instanceMethod yX6_forget, .selects RX6 yX6_forget yX6_forget, .code yX6_forget cX6_forget 2 none, .fieldLink RX6 13 "CountLearnersModel" "guesses" "[I"] ++ wsX60)
def wsX6_word : List Cond := .code yX6_word cX6_word 3 (some .int) :: ([.fieldLink RX6 69 "CountLearnersModel" "thrown" "I", .fieldLink RX6 19 "CountLearnersModel" "sizes" "[I", .fieldLink RX6 22 "CountLearnersModel" "words" "[I", .methodLink RX6 90 yX6_isRow, .instanceMethod yX6_isRow, .selects RX6 yX6_isRow yX6_isRow, .initialized RX6, .code yX6_isRow cX6_isRow 2 (some .boolean), .fieldLink RX6 76 "CountLearnersModel" "rows" "I", .methodLink RX6 79 yX6_within, .static yX6_within, .code yX6_within cX6_within 3 (some .boolean), .methodLink RX6 87 yX6_forget, .instanceMethod yX6_forget, .selects RX6 yX6_forget yX6_forget, .code yX6_forget cX6_forget 2 none, .fieldLink RX6 13 "CountLearnersModel" "guesses" "[I"] ++ wsX60)
def wsX6_label : List Cond := .code yX6_label cX6_label 4 (some .int) :: ([.fieldLink RX6 69 "CountLearnersModel" "thrown" "I", .fieldLink RX6 7 "CountLearnersModel" "labels" "[I", .methodLink RX6 90 yX6_isRow, .instanceMethod yX6_isRow, .selects RX6 yX6_isRow yX6_isRow, .initialized RX6, .code yX6_isRow cX6_isRow 2 (some .boolean), .fieldLink RX6 76 "CountLearnersModel" "rows" "I", .methodLink RX6 79 yX6_within, .static yX6_within, .code yX6_within cX6_within 3 (some .boolean), .methodLink RX6 83 yX6_mayBe, .static yX6_mayBe, .code yX6_mayBe cX6_mayBe 1 (some .boolean), .methodLink RX6 87 yX6_forget, .instanceMethod yX6_forget, .selects RX6 yX6_forget yX6_forget, .code yX6_forget cX6_forget 2 none, .fieldLink RX6 13 "CountLearnersModel" "guesses" "[I"] ++ wsX60)
def wsX6_addition : List Cond := .code yX6_addition cX6_addition 3 (some .int) :: ([.fieldLink RX6 69 "CountLearnersModel" "thrown" "I", .fieldLink RX6 25 "CountLearnersModel" "up" "I", .fieldLink RX6 29 "CountLearnersModel" "down" "I", .methodLink RX6 79 yX6_within, .static yX6_within, .initialized RX6, .code yX6_within cX6_within 3 (some .boolean), .methodLink RX6 87 yX6_forget, .instanceMethod yX6_forget, .selects RX6 yX6_forget yX6_forget, .code yX6_forget cX6_forget 2 none, .fieldLink RX6 13 "CountLearnersModel" "guesses" "[I"] ++ wsX60)
def wsX6_asLabel : List Cond := .code yX6_asLabel cX6_asLabel 2 (some .int) :: ([.fieldLink RX6 7 "CountLearnersModel" "labels" "[I", .fieldLink RX6 13 "CountLearnersModel" "guesses" "[I"] ++ wsX60)
def wsX6_rowsOf : List Cond := .code yX6_rowsOf cX6_rowsOf 4 (some .int) :: ([.fieldLink RX6 76 "CountLearnersModel" "rows" "I", .methodLink RX6 93 yX6_asLabel, .instanceMethod yX6_asLabel, .selects RX6 yX6_asLabel yX6_asLabel, .initialized RX6, .code yX6_asLabel cX6_asLabel 2 (some .int), .fieldLink RX6 7 "CountLearnersModel" "labels" "[I", .fieldLink RX6 13 "CountLearnersModel" "guesses" "[I"] ++ wsX60)
def wsX6_timesOf : List Cond := .code yX6_timesOf cX6_timesOf 6 (some .int) :: ([.fieldLink RX6 76 "CountLearnersModel" "rows" "I", .fieldLink RX6 19 "CountLearnersModel" "sizes" "[I", .fieldLink RX6 22 "CountLearnersModel" "words" "[I", .methodLink RX6 93 yX6_asLabel, .instanceMethod yX6_asLabel, .selects RX6 yX6_asLabel yX6_asLabel, .initialized RX6, .code yX6_asLabel cX6_asLabel 2 (some .int), .fieldLink RX6 7 "CountLearnersModel" "labels" "[I", .fieldLink RX6 13 "CountLearnersModel" "guesses" "[I"] ++ wsX60)
def wsX6_counted : List Cond := .code yX6_counted cX6_counted 3 (some .int) :: ([.fieldLink RX6 69 "CountLearnersModel" "thrown" "I", .methodLink RX6 79 yX6_within, .static yX6_within, .initialized RX6, .code yX6_within cX6_within 3 (some .boolean), .methodLink RX6 97 yX6_rowsOf, .instanceMethod yX6_rowsOf, .selects RX6 yX6_rowsOf yX6_rowsOf, .code yX6_rowsOf cX6_rowsOf 4 (some .int), .fieldLink RX6 76 "CountLearnersModel" "rows" "I", .methodLink RX6 93 yX6_asLabel, .instanceMethod yX6_asLabel, .selects RX6 yX6_asLabel yX6_asLabel, .code yX6_asLabel cX6_asLabel 2 (some .int), .fieldLink RX6 7 "CountLearnersModel" "labels" "[I", .fieldLink RX6 13 "CountLearnersModel" "guesses" "[I", .methodLink RX6 100 yX6_timesOf, .instanceMethod yX6_timesOf, .selects RX6 yX6_timesOf yX6_timesOf, .code yX6_timesOf cX6_timesOf 6 (some .int), .fieldLink RX6 19 "CountLearnersModel" "sizes" "[I", .fieldLink RX6 22 "CountLearnersModel" "words" "[I"] ++ wsX60)
def wsX6_shareAbove : List Cond := .code yX6_shareAbove cX6_shareAbove 3 (some .long) :: ([.fieldLink RX6 29 "CountLearnersModel" "down" "I", .fieldLink RX6 25 "CountLearnersModel" "up" "I", .methodLink RX6 100 yX6_timesOf, .instanceMethod yX6_timesOf, .selects RX6 yX6_timesOf yX6_timesOf, .initialized RX6, .code yX6_timesOf cX6_timesOf 6 (some .int), .fieldLink RX6 76 "CountLearnersModel" "rows" "I", .fieldLink RX6 19 "CountLearnersModel" "sizes" "[I", .fieldLink RX6 22 "CountLearnersModel" "words" "[I", .methodLink RX6 93 yX6_asLabel, .instanceMethod yX6_asLabel, .selects RX6 yX6_asLabel yX6_asLabel, .code yX6_asLabel cX6_asLabel 2 (some .int), .fieldLink RX6 7 "CountLearnersModel" "labels" "[I", .fieldLink RX6 13 "CountLearnersModel" "guesses" "[I"] ++ wsX60)
def wsX6_shareBelow : List Cond := .code yX6_shareBelow cX6_shareBelow 2 (some .long) :: ([.fieldLink RX6 29 "CountLearnersModel" "down" "I", .constantLong RX6 104 (8), .fieldLink RX6 25 "CountLearnersModel" "up" "I", .methodLink RX6 100 yX6_timesOf, .instanceMethod yX6_timesOf, .selects RX6 yX6_timesOf yX6_timesOf, .initialized RX6, .code yX6_timesOf cX6_timesOf 6 (some .int), .fieldLink RX6 76 "CountLearnersModel" "rows" "I", .fieldLink RX6 19 "CountLearnersModel" "sizes" "[I", .fieldLink RX6 22 "CountLearnersModel" "words" "[I", .methodLink RX6 93 yX6_asLabel, .instanceMethod yX6_asLabel, .selects RX6 yX6_asLabel yX6_asLabel, .code yX6_asLabel cX6_asLabel 2 (some .int), .fieldLink RX6 7 "CountLearnersModel" "labels" "[I", .fieldLink RX6 13 "CountLearnersModel" "guesses" "[I"] ++ wsX60)
def wsX6_share_r1 : List Cond := [Cond.fieldLink RX6 69 "CountLearnersModel" "thrown" "I", Cond.constantLong RX6 106 (-2), Cond.methodLink RX6 79 yX6_within, Cond.static yX6_within, Cond.initialized RX6, Cond.code yX6_within cX6_within 3 (some .boolean), Cond.methodLink RX6 108 yX6_shareBelow, Cond.instanceMethod yX6_shareBelow, Cond.selects RX6 yX6_shareBelow yX6_shareBelow, Cond.code yX6_shareBelow cX6_shareBelow 2 (some .long), Cond.fieldLink RX6 29 "CountLearnersModel" "down" "I", Cond.constantLong RX6 104 (8), Cond.fieldLink RX6 25 "CountLearnersModel" "up" "I", Cond.methodLink RX6 100 yX6_timesOf, Cond.instanceMethod yX6_timesOf, Cond.selects RX6 yX6_timesOf yX6_timesOf, Cond.code yX6_timesOf cX6_timesOf 6 (some .int), Cond.fieldLink RX6 76 "CountLearnersModel" "rows" "I", Cond.fieldLink RX6 19 "CountLearnersModel" "sizes" "[I", Cond.fieldLink RX6 22 "CountLearnersModel" "words" "[I", Cond.methodLink RX6 93 yX6_asLabel, Cond.instanceMethod yX6_asLabel, Cond.selects RX6 yX6_asLabel yX6_asLabel, Cond.code yX6_asLabel cX6_asLabel 2 (some .int)]
def wsX6_share_r2 : List Cond := [Cond.fieldLink RX6 7 "CountLearnersModel" "labels" "[I", Cond.fieldLink RX6 13 "CountLearnersModel" "guesses" "[I", Cond.methodLink RX6 112 yX6_shareAbove, Cond.instanceMethod yX6_shareAbove, Cond.selects RX6 yX6_shareAbove yX6_shareAbove, Cond.code yX6_shareAbove cX6_shareAbove 3 (some .long), Cond.methodLink RX6 116 yX6_side, Cond.static yX6_side, Cond.code yX6_side cX6_side 7 (some .long), Cond.methodLink RX6 72 yX6_measure, Cond.static yX6_measure, Cond.code yX6_measure cX6_measure 10 (some .long)]
def wsX6_share : List Cond := .code yX6_share cX6_share 4 (some .long) :: ((wsX6_share_r1 ++ wsX6_share_r2) ++ wsX60)
def wsX6_weighRow_r1 : List Cond := [Cond.fieldLink RX6 120 "CountLearnersModel" "weightAbove" "J", Cond.fieldLink RX6 124 "CountLearnersModel" "weightBelow" "J", Cond.fieldLink RX6 19 "CountLearnersModel" "sizes" "[I", Cond.fieldLink RX6 22 "CountLearnersModel" "words" "[I", Cond.methodLink RX6 97 yX6_rowsOf, Cond.instanceMethod yX6_rowsOf, Cond.selects RX6 yX6_rowsOf yX6_rowsOf, Cond.initialized RX6, Cond.code yX6_rowsOf cX6_rowsOf 4 (some .int), Cond.fieldLink RX6 76 "CountLearnersModel" "rows" "I", Cond.methodLink RX6 93 yX6_asLabel, Cond.instanceMethod yX6_asLabel, Cond.selects RX6 yX6_asLabel yX6_asLabel, Cond.code yX6_asLabel cX6_asLabel 2 (some .int), Cond.fieldLink RX6 7 "CountLearnersModel" "labels" "[I", Cond.fieldLink RX6 13 "CountLearnersModel" "guesses" "[I", Cond.methodLink RX6 108 yX6_shareBelow, Cond.instanceMethod yX6_shareBelow, Cond.selects RX6 yX6_shareBelow yX6_shareBelow, Cond.code yX6_shareBelow cX6_shareBelow 2 (some .long), Cond.fieldLink RX6 29 "CountLearnersModel" "down" "I", Cond.constantLong RX6 104 (8), Cond.fieldLink RX6 25 "CountLearnersModel" "up" "I", Cond.methodLink RX6 100 yX6_timesOf]
def wsX6_weighRow_r2 : List Cond := [Cond.instanceMethod yX6_timesOf, Cond.selects RX6 yX6_timesOf yX6_timesOf, Cond.code yX6_timesOf cX6_timesOf 6 (some .int), Cond.methodLink RX6 112 yX6_shareAbove, Cond.instanceMethod yX6_shareAbove, Cond.selects RX6 yX6_shareAbove yX6_shareAbove, Cond.code yX6_shareAbove cX6_shareAbove 3 (some .long)]
def wsX6_weighRow : List Cond := .code yX6_weighRow cX6_weighRow 6 none :: ((wsX6_weighRow_r1 ++ wsX6_weighRow_r2) ++ wsX60)
def wsX6_weight_r1 : List Cond := [Cond.fieldLink RX6 69 "CountLearnersModel" "thrown" "I", Cond.constantLong RX6 106 (-2), Cond.fieldLink RX6 120 "CountLearnersModel" "weightAbove" "J", Cond.fieldLink RX6 124 "CountLearnersModel" "weightBelow" "J", Cond.methodLink RX6 90 yX6_isRow, Cond.instanceMethod yX6_isRow, Cond.selects RX6 yX6_isRow yX6_isRow, Cond.initialized RX6, Cond.code yX6_isRow cX6_isRow 2 (some .boolean), Cond.fieldLink RX6 76 "CountLearnersModel" "rows" "I", Cond.methodLink RX6 79 yX6_within, Cond.static yX6_within, Cond.code yX6_within cX6_within 3 (some .boolean), Cond.methodLink RX6 127 yX6_weighRow, Cond.instanceMethod yX6_weighRow, Cond.selects RX6 yX6_weighRow yX6_weighRow, Cond.code yX6_weighRow cX6_weighRow 6 none, Cond.fieldLink RX6 19 "CountLearnersModel" "sizes" "[I", Cond.fieldLink RX6 22 "CountLearnersModel" "words" "[I", Cond.methodLink RX6 97 yX6_rowsOf, Cond.instanceMethod yX6_rowsOf, Cond.selects RX6 yX6_rowsOf yX6_rowsOf, Cond.code yX6_rowsOf cX6_rowsOf 4 (some .int), Cond.methodLink RX6 93 yX6_asLabel]
def wsX6_weight_r2 : List Cond := [Cond.instanceMethod yX6_asLabel, Cond.selects RX6 yX6_asLabel yX6_asLabel, Cond.code yX6_asLabel cX6_asLabel 2 (some .int), Cond.fieldLink RX6 7 "CountLearnersModel" "labels" "[I", Cond.fieldLink RX6 13 "CountLearnersModel" "guesses" "[I", Cond.methodLink RX6 108 yX6_shareBelow, Cond.instanceMethod yX6_shareBelow, Cond.selects RX6 yX6_shareBelow yX6_shareBelow, Cond.code yX6_shareBelow cX6_shareBelow 2 (some .long), Cond.fieldLink RX6 29 "CountLearnersModel" "down" "I", Cond.constantLong RX6 104 (8), Cond.fieldLink RX6 25 "CountLearnersModel" "up" "I", Cond.methodLink RX6 100 yX6_timesOf, Cond.instanceMethod yX6_timesOf, Cond.selects RX6 yX6_timesOf yX6_timesOf, Cond.code yX6_timesOf cX6_timesOf 6 (some .int), Cond.methodLink RX6 112 yX6_shareAbove, Cond.instanceMethod yX6_shareAbove, Cond.selects RX6 yX6_shareAbove yX6_shareAbove, Cond.code yX6_shareAbove cX6_shareAbove 3 (some .long), Cond.methodLink RX6 116 yX6_side, Cond.static yX6_side, Cond.code yX6_side cX6_side 7 (some .long), Cond.methodLink RX6 72 yX6_measure]
def wsX6_weight_r3 : List Cond := [Cond.static yX6_measure, Cond.code yX6_measure cX6_measure 10 (some .long)]
def wsX6_weight : List Cond := .code yX6_weight cX6_weight 4 (some .long) :: ((wsX6_weight_r1 ++ (wsX6_weight_r2 ++ wsX6_weight_r3)) ++ wsX60)
def wsX6_bestOf_r1 : List Cond := [Cond.fieldLink RX6 120 "CountLearnersModel" "weightAbove" "J", Cond.fieldLink RX6 124 "CountLearnersModel" "weightBelow" "J", Cond.methodLink RX6 127 yX6_weighRow, Cond.instanceMethod yX6_weighRow, Cond.selects RX6 yX6_weighRow yX6_weighRow, Cond.initialized RX6, Cond.code yX6_weighRow cX6_weighRow 6 none, Cond.fieldLink RX6 19 "CountLearnersModel" "sizes" "[I", Cond.fieldLink RX6 22 "CountLearnersModel" "words" "[I", Cond.methodLink RX6 97 yX6_rowsOf, Cond.instanceMethod yX6_rowsOf, Cond.selects RX6 yX6_rowsOf yX6_rowsOf, Cond.code yX6_rowsOf cX6_rowsOf 4 (some .int), Cond.fieldLink RX6 76 "CountLearnersModel" "rows" "I", Cond.methodLink RX6 93 yX6_asLabel, Cond.instanceMethod yX6_asLabel, Cond.selects RX6 yX6_asLabel yX6_asLabel, Cond.code yX6_asLabel cX6_asLabel 2 (some .int), Cond.fieldLink RX6 7 "CountLearnersModel" "labels" "[I", Cond.fieldLink RX6 13 "CountLearnersModel" "guesses" "[I", Cond.methodLink RX6 108 yX6_shareBelow, Cond.instanceMethod yX6_shareBelow, Cond.selects RX6 yX6_shareBelow yX6_shareBelow, Cond.code yX6_shareBelow cX6_shareBelow 2 (some .long)]
def wsX6_bestOf_r2 : List Cond := [Cond.fieldLink RX6 29 "CountLearnersModel" "down" "I", Cond.constantLong RX6 104 (8), Cond.fieldLink RX6 25 "CountLearnersModel" "up" "I", Cond.methodLink RX6 100 yX6_timesOf, Cond.instanceMethod yX6_timesOf, Cond.selects RX6 yX6_timesOf yX6_timesOf, Cond.code yX6_timesOf cX6_timesOf 6 (some .int), Cond.methodLink RX6 112 yX6_shareAbove, Cond.instanceMethod yX6_shareAbove, Cond.selects RX6 yX6_shareAbove yX6_shareAbove, Cond.code yX6_shareAbove cX6_shareAbove 3 (some .long), Cond.methodLink RX6 131 yX6_isAbove, Cond.static yX6_isAbove, Cond.code yX6_isAbove cX6_isAbove 23 (some .boolean)]
def wsX6_bestOf : List Cond := .code yX6_bestOf cX6_bestOf 8 (some .int) :: ((wsX6_bestOf_r1 ++ wsX6_bestOf_r2) ++ wsX60)
def wsX6_best_r1 : List Cond := [Cond.fieldLink RX6 69 "CountLearnersModel" "thrown" "I", Cond.methodLink RX6 90 yX6_isRow, Cond.instanceMethod yX6_isRow, Cond.selects RX6 yX6_isRow yX6_isRow, Cond.initialized RX6, Cond.code yX6_isRow cX6_isRow 2 (some .boolean), Cond.fieldLink RX6 76 "CountLearnersModel" "rows" "I", Cond.methodLink RX6 79 yX6_within, Cond.static yX6_within, Cond.code yX6_within cX6_within 3 (some .boolean), Cond.methodLink RX6 135 yX6_bestOf, Cond.instanceMethod yX6_bestOf, Cond.selects RX6 yX6_bestOf yX6_bestOf, Cond.code yX6_bestOf cX6_bestOf 8 (some .int), Cond.fieldLink RX6 120 "CountLearnersModel" "weightAbove" "J", Cond.fieldLink RX6 124 "CountLearnersModel" "weightBelow" "J", Cond.methodLink RX6 127 yX6_weighRow, Cond.instanceMethod yX6_weighRow, Cond.selects RX6 yX6_weighRow yX6_weighRow, Cond.code yX6_weighRow cX6_weighRow 6 none, Cond.fieldLink RX6 19 "CountLearnersModel" "sizes" "[I", Cond.fieldLink RX6 22 "CountLearnersModel" "words" "[I", Cond.methodLink RX6 97 yX6_rowsOf, Cond.instanceMethod yX6_rowsOf]
def wsX6_best_r2 : List Cond := [Cond.selects RX6 yX6_rowsOf yX6_rowsOf, Cond.code yX6_rowsOf cX6_rowsOf 4 (some .int), Cond.methodLink RX6 93 yX6_asLabel, Cond.instanceMethod yX6_asLabel, Cond.selects RX6 yX6_asLabel yX6_asLabel, Cond.code yX6_asLabel cX6_asLabel 2 (some .int), Cond.fieldLink RX6 7 "CountLearnersModel" "labels" "[I", Cond.fieldLink RX6 13 "CountLearnersModel" "guesses" "[I", Cond.methodLink RX6 108 yX6_shareBelow, Cond.instanceMethod yX6_shareBelow, Cond.selects RX6 yX6_shareBelow yX6_shareBelow, Cond.code yX6_shareBelow cX6_shareBelow 2 (some .long), Cond.fieldLink RX6 29 "CountLearnersModel" "down" "I", Cond.constantLong RX6 104 (8), Cond.fieldLink RX6 25 "CountLearnersModel" "up" "I", Cond.methodLink RX6 100 yX6_timesOf, Cond.instanceMethod yX6_timesOf, Cond.selects RX6 yX6_timesOf yX6_timesOf, Cond.code yX6_timesOf cX6_timesOf 6 (some .int), Cond.methodLink RX6 112 yX6_shareAbove, Cond.instanceMethod yX6_shareAbove, Cond.selects RX6 yX6_shareAbove yX6_shareAbove, Cond.code yX6_shareAbove cX6_shareAbove 3 (some .long), Cond.methodLink RX6 131 yX6_isAbove]
def wsX6_best_r3 : List Cond := [Cond.static yX6_isAbove, Cond.code yX6_isAbove cX6_isAbove 23 (some .boolean)]
def wsX6_best : List Cond := .code yX6_best cX6_best 2 (some .int) :: ((wsX6_best_r1 ++ (wsX6_best_r2 ++ wsX6_best_r3)) ++ wsX60)
def wsX6_round_r1 : List Cond := [Cond.fieldLink RX6 76 "CountLearnersModel" "rows" "I", Cond.fieldLink RX6 16 "CountLearnersModel" "comes" "[I", Cond.fieldLink RX6 7 "CountLearnersModel" "labels" "[I", Cond.fieldLink RX6 13 "CountLearnersModel" "guesses" "[I", Cond.methodLink RX6 135 yX6_bestOf, Cond.instanceMethod yX6_bestOf, Cond.selects RX6 yX6_bestOf yX6_bestOf, Cond.initialized RX6, Cond.code yX6_bestOf cX6_bestOf 8 (some .int), Cond.fieldLink RX6 120 "CountLearnersModel" "weightAbove" "J", Cond.fieldLink RX6 124 "CountLearnersModel" "weightBelow" "J", Cond.methodLink RX6 127 yX6_weighRow, Cond.instanceMethod yX6_weighRow, Cond.selects RX6 yX6_weighRow yX6_weighRow, Cond.code yX6_weighRow cX6_weighRow 6 none, Cond.fieldLink RX6 19 "CountLearnersModel" "sizes" "[I", Cond.fieldLink RX6 22 "CountLearnersModel" "words" "[I", Cond.methodLink RX6 97 yX6_rowsOf, Cond.instanceMethod yX6_rowsOf, Cond.selects RX6 yX6_rowsOf yX6_rowsOf, Cond.code yX6_rowsOf cX6_rowsOf 4 (some .int), Cond.methodLink RX6 93 yX6_asLabel, Cond.instanceMethod yX6_asLabel, Cond.selects RX6 yX6_asLabel yX6_asLabel]
def wsX6_round_r2 : List Cond := [Cond.code yX6_asLabel cX6_asLabel 2 (some .int), Cond.methodLink RX6 108 yX6_shareBelow, Cond.instanceMethod yX6_shareBelow, Cond.selects RX6 yX6_shareBelow yX6_shareBelow, Cond.code yX6_shareBelow cX6_shareBelow 2 (some .long), Cond.fieldLink RX6 29 "CountLearnersModel" "down" "I", Cond.constantLong RX6 104 (8), Cond.fieldLink RX6 25 "CountLearnersModel" "up" "I", Cond.methodLink RX6 100 yX6_timesOf, Cond.instanceMethod yX6_timesOf, Cond.selects RX6 yX6_timesOf yX6_timesOf, Cond.code yX6_timesOf cX6_timesOf 6 (some .int), Cond.methodLink RX6 112 yX6_shareAbove, Cond.instanceMethod yX6_shareAbove, Cond.selects RX6 yX6_shareAbove yX6_shareAbove, Cond.code yX6_shareAbove cX6_shareAbove 3 (some .long), Cond.methodLink RX6 131 yX6_isAbove, Cond.static yX6_isAbove, Cond.code yX6_isAbove cX6_isAbove 23 (some .boolean)]
def wsX6_round : List Cond := .code yX6_round cX6_round 3 (some .boolean) :: ((wsX6_round_r1 ++ wsX6_round_r2) ++ wsX60)
def wsX6_rounds_r1 : List Cond := [Cond.fieldLink RX6 69 "CountLearnersModel" "thrown" "I", Cond.methodLink RX6 79 yX6_within, Cond.static yX6_within, Cond.initialized RX6, Cond.code yX6_within cX6_within 3 (some .boolean), Cond.methodLink RX6 138 yX6_round, Cond.instanceMethod yX6_round, Cond.selects RX6 yX6_round yX6_round, Cond.code yX6_round cX6_round 3 (some .boolean), Cond.fieldLink RX6 76 "CountLearnersModel" "rows" "I", Cond.fieldLink RX6 16 "CountLearnersModel" "comes" "[I", Cond.fieldLink RX6 7 "CountLearnersModel" "labels" "[I", Cond.fieldLink RX6 13 "CountLearnersModel" "guesses" "[I", Cond.methodLink RX6 135 yX6_bestOf, Cond.instanceMethod yX6_bestOf, Cond.selects RX6 yX6_bestOf yX6_bestOf, Cond.code yX6_bestOf cX6_bestOf 8 (some .int), Cond.fieldLink RX6 120 "CountLearnersModel" "weightAbove" "J", Cond.fieldLink RX6 124 "CountLearnersModel" "weightBelow" "J", Cond.methodLink RX6 127 yX6_weighRow, Cond.instanceMethod yX6_weighRow, Cond.selects RX6 yX6_weighRow yX6_weighRow, Cond.code yX6_weighRow cX6_weighRow 6 none, Cond.fieldLink RX6 19 "CountLearnersModel" "sizes" "[I"]
def wsX6_rounds_r2 : List Cond := [Cond.fieldLink RX6 22 "CountLearnersModel" "words" "[I", Cond.methodLink RX6 97 yX6_rowsOf, Cond.instanceMethod yX6_rowsOf, Cond.selects RX6 yX6_rowsOf yX6_rowsOf, Cond.code yX6_rowsOf cX6_rowsOf 4 (some .int), Cond.methodLink RX6 93 yX6_asLabel, Cond.instanceMethod yX6_asLabel, Cond.selects RX6 yX6_asLabel yX6_asLabel, Cond.code yX6_asLabel cX6_asLabel 2 (some .int), Cond.methodLink RX6 108 yX6_shareBelow, Cond.instanceMethod yX6_shareBelow, Cond.selects RX6 yX6_shareBelow yX6_shareBelow, Cond.code yX6_shareBelow cX6_shareBelow 2 (some .long), Cond.fieldLink RX6 29 "CountLearnersModel" "down" "I", Cond.constantLong RX6 104 (8), Cond.fieldLink RX6 25 "CountLearnersModel" "up" "I", Cond.methodLink RX6 100 yX6_timesOf, Cond.instanceMethod yX6_timesOf, Cond.selects RX6 yX6_timesOf yX6_timesOf, Cond.code yX6_timesOf cX6_timesOf 6 (some .int), Cond.methodLink RX6 112 yX6_shareAbove, Cond.instanceMethod yX6_shareAbove, Cond.selects RX6 yX6_shareAbove yX6_shareAbove, Cond.code yX6_shareAbove cX6_shareAbove 3 (some .long)]
def wsX6_rounds_r3 : List Cond := [Cond.methodLink RX6 131 yX6_isAbove, Cond.static yX6_isAbove, Cond.code yX6_isAbove cX6_isAbove 23 (some .boolean)]
def wsX6_rounds : List Cond := .code yX6_rounds cX6_rounds 3 (some .int) :: ((wsX6_rounds_r1 ++ (wsX6_rounds_r2 ++ wsX6_rounds_r3)) ++ wsX60)
def wsX6_guess : List Cond := .code yX6_guess cX6_guess 2 (some .int) :: ([.fieldLink RX6 69 "CountLearnersModel" "thrown" "I", .fieldLink RX6 13 "CountLearnersModel" "guesses" "[I", .methodLink RX6 90 yX6_isRow, .instanceMethod yX6_isRow, .selects RX6 yX6_isRow yX6_isRow, .initialized RX6, .code yX6_isRow cX6_isRow 2 (some .boolean), .fieldLink RX6 76 "CountLearnersModel" "rows" "I", .methodLink RX6 79 yX6_within, .static yX6_within, .code yX6_within cX6_within 3 (some .boolean)] ++ wsX60)
def wsX6_text : List Cond := .code yX6_text cX6_text 2 (some .int) :: ([.fieldLink RX6 69 "CountLearnersModel" "thrown" "I", .fieldLink RX6 142 "CountLearnersModel" "length" "I", .fieldLink RX6 32 "CountLearnersModel" "told" "[I", .methodLink RX6 79 yX6_within, .static yX6_within, .initialized RX6, .code yX6_within cX6_within 3 (some .boolean)] ++ wsX60)
def wsX6_count : List Cond := .code yX6_count cX6_count 5 (some .int) :: ([.fieldLink RX6 35 "CountLearnersModel" "behind" "[I", .fieldLink RX6 142 "CountLearnersModel" "length" "I", .fieldLink RX6 32 "CountLearnersModel" "told" "[I"] ++ wsX60)
def wsX6_first : List Cond := .code yX6_first cX6_first 2 none :: ([.fieldLink RX6 38 "CountLearnersModel" "shares" "[J", .fieldLink RX6 142 "CountLearnersModel" "length" "I", .fieldLink RX6 32 "CountLearnersModel" "told" "[I", .constantLong RX6 104 (8), .fieldLink RX6 145 "CountLearnersModel" "over" "J"] ++ wsX60)
def wsX6_above : List Cond := .code yX6_above cX6_above 6 none :: ([.fieldLink RX6 35 "CountLearnersModel" "behind" "[I", .fieldLink RX6 38 "CountLearnersModel" "shares" "[J", .constantLong RX6 148 (2), .fieldLink RX6 145 "CountLearnersModel" "over" "J"] ++ wsX60)
def wsX6_table : List Cond := .code yX6_table cX6_table 3 none :: ([.methodLink RX6 150 yX6_first, .instanceMethod yX6_first, .selects RX6 yX6_first yX6_first, .initialized RX6, .code yX6_first cX6_first 2 none, .fieldLink RX6 38 "CountLearnersModel" "shares" "[J", .fieldLink RX6 142 "CountLearnersModel" "length" "I", .fieldLink RX6 32 "CountLearnersModel" "told" "[I", .constantLong RX6 104 (8), .fieldLink RX6 145 "CountLearnersModel" "over" "J", .methodLink RX6 153 yX6_count, .instanceMethod yX6_count, .selects RX6 yX6_count yX6_count, .code yX6_count cX6_count 5 (some .int), .fieldLink RX6 35 "CountLearnersModel" "behind" "[I", .methodLink RX6 156 yX6_above, .instanceMethod yX6_above, .selects RX6 yX6_above yX6_above, .code yX6_above cX6_above 6 none, .constantLong RX6 148 (2)] ++ wsX60)
def wsX6_isTable : List Cond := .code yX6_isTable cX6_isTable 2 (some .boolean) :: ([.methodLink RX6 79 yX6_within, .static yX6_within, .initialized RX6, .code yX6_within cX6_within 3 (some .boolean)])
def wsX6_next_r1 : List Cond := [Cond.fieldLink RX6 69 "CountLearnersModel" "thrown" "I", Cond.constantLong RX6 106 (-2), Cond.fieldLink RX6 38 "CountLearnersModel" "shares" "[J", Cond.fieldLink RX6 145 "CountLearnersModel" "over" "J", Cond.methodLink RX6 160 yX6_isTable, Cond.static yX6_isTable, Cond.initialized RX6, Cond.code yX6_isTable cX6_isTable 2 (some .boolean), Cond.methodLink RX6 79 yX6_within, Cond.static yX6_within, Cond.code yX6_within cX6_within 3 (some .boolean), Cond.methodLink RX6 164 yX6_table, Cond.instanceMethod yX6_table, Cond.selects RX6 yX6_table yX6_table, Cond.code yX6_table cX6_table 3 none, Cond.methodLink RX6 150 yX6_first, Cond.instanceMethod yX6_first, Cond.selects RX6 yX6_first yX6_first, Cond.code yX6_first cX6_first 2 none, Cond.fieldLink RX6 142 "CountLearnersModel" "length" "I", Cond.fieldLink RX6 32 "CountLearnersModel" "told" "[I", Cond.constantLong RX6 104 (8), Cond.methodLink RX6 153 yX6_count, Cond.instanceMethod yX6_count]
def wsX6_next_r2 : List Cond := [Cond.selects RX6 yX6_count yX6_count, Cond.code yX6_count cX6_count 5 (some .int), Cond.fieldLink RX6 35 "CountLearnersModel" "behind" "[I", Cond.methodLink RX6 156 yX6_above, Cond.instanceMethod yX6_above, Cond.selects RX6 yX6_above yX6_above, Cond.code yX6_above cX6_above 6 none, Cond.constantLong RX6 148 (2), Cond.methodLink RX6 116 yX6_side, Cond.static yX6_side, Cond.code yX6_side cX6_side 7 (some .long), Cond.methodLink RX6 72 yX6_measure, Cond.static yX6_measure, Cond.code yX6_measure cX6_measure 10 (some .long)]
def wsX6_next : List Cond := .code yX6_next cX6_next 5 (some .long) :: ((wsX6_next_r1 ++ wsX6_next_r2) ++ wsX60)
def wsX6_likely_r1 : List Cond := [Cond.fieldLink RX6 69 "CountLearnersModel" "thrown" "I", Cond.fieldLink RX6 38 "CountLearnersModel" "shares" "[J", Cond.methodLink RX6 160 yX6_isTable, Cond.static yX6_isTable, Cond.initialized RX6, Cond.code yX6_isTable cX6_isTable 2 (some .boolean), Cond.methodLink RX6 79 yX6_within, Cond.static yX6_within, Cond.code yX6_within cX6_within 3 (some .boolean), Cond.methodLink RX6 164 yX6_table, Cond.instanceMethod yX6_table, Cond.selects RX6 yX6_table yX6_table, Cond.code yX6_table cX6_table 3 none, Cond.methodLink RX6 150 yX6_first, Cond.instanceMethod yX6_first, Cond.selects RX6 yX6_first yX6_first, Cond.code yX6_first cX6_first 2 none, Cond.fieldLink RX6 142 "CountLearnersModel" "length" "I", Cond.fieldLink RX6 32 "CountLearnersModel" "told" "[I", Cond.constantLong RX6 104 (8), Cond.fieldLink RX6 145 "CountLearnersModel" "over" "J", Cond.methodLink RX6 153 yX6_count, Cond.instanceMethod yX6_count, Cond.selects RX6 yX6_count yX6_count]
def wsX6_likely_r2 : List Cond := [Cond.code yX6_count cX6_count 5 (some .int), Cond.fieldLink RX6 35 "CountLearnersModel" "behind" "[I", Cond.methodLink RX6 156 yX6_above, Cond.instanceMethod yX6_above, Cond.selects RX6 yX6_above yX6_above, Cond.code yX6_above cX6_above 6 none, Cond.constantLong RX6 148 (2)]
def wsX6_likely : List Cond := .code yX6_likely cX6_likely 5 (some .int) :: ((wsX6_likely_r1 ++ wsX6_likely_r2) ++ wsX60)
def wsX6_weigh : List Cond := .code yX6_weigh cX6_weigh 7 (some .int) :: ([.fieldLink RX6 69 "CountLearnersModel" "thrown" "I", .fieldLink RX6 42 "CountLearnersModel" "start" "[I", .fieldLink RX6 45 "CountLearnersModel" "move" "[I", .fieldLink RX6 48 "CountLearnersModel" "show" "[I", .methodLink RX6 79 yX6_within, .static yX6_within, .initialized RX6, .code yX6_within cX6_within 3 (some .boolean)] ++ wsX60)
def wsX6_sign : List Cond := .code yX6_sign cX6_sign 3 (some .int) :: ([.fieldLink RX6 69 "CountLearnersModel" "thrown" "I", .fieldLink RX6 54 "CountLearnersModel" "many" "[I", .fieldLink RX6 51 "CountLearnersModel" "signs" "[I", .methodLink RX6 79 yX6_within, .static yX6_within, .initialized RX6, .code yX6_within cX6_within 3 (some .boolean)] ++ wsX60)
def wsX6_stateOf : List Cond := .code yX6_stateOf cX6_stateOf 4 (some .int) :: ([.fieldLink RX6 54 "CountLearnersModel" "many" "[I"] ++ wsX60)
def wsX6_weighPath : List Cond := .code yX6_weighPath cX6_weighPath 7 (some .long) :: ([.fieldLink RX6 54 "CountLearnersModel" "many" "[I", .fieldLink RX6 42 "CountLearnersModel" "start" "[I", .fieldLink RX6 45 "CountLearnersModel" "move" "[I", .fieldLink RX6 48 "CountLearnersModel" "show" "[I", .fieldLink RX6 51 "CountLearnersModel" "signs" "[I", .methodLink RX6 167 yX6_stateOf, .instanceMethod yX6_stateOf, .selects RX6 yX6_stateOf yX6_stateOf, .initialized RX6, .code yX6_stateOf cX6_stateOf 4 (some .int)] ++ wsX60)
def wsX6_paths : List Cond := .code yX6_paths cX6_paths 2 (some .int) :: ([.fieldLink RX6 54 "CountLearnersModel" "many" "[I"] ++ wsX60)
def wsX6_sum : List Cond := .code yX6_sum cX6_sum 7 (some .long) :: ([.methodLink RX6 171 yX6_paths, .instanceMethod yX6_paths, .selects RX6 yX6_paths yX6_paths, .initialized RX6, .code yX6_paths cX6_paths 2 (some .int), .fieldLink RX6 54 "CountLearnersModel" "many" "[I", .methodLink RX6 167 yX6_stateOf, .instanceMethod yX6_stateOf, .selects RX6 yX6_stateOf yX6_stateOf, .code yX6_stateOf cX6_stateOf 4 (some .int), .methodLink RX6 174 yX6_weighPath, .instanceMethod yX6_weighPath, .selects RX6 yX6_weighPath yX6_weighPath, .code yX6_weighPath cX6_weighPath 7 (some .long), .fieldLink RX6 42 "CountLearnersModel" "start" "[I", .fieldLink RX6 45 "CountLearnersModel" "move" "[I", .fieldLink RX6 48 "CountLearnersModel" "show" "[I", .fieldLink RX6 51 "CountLearnersModel" "signs" "[I"] ++ wsX60)
def wsX6_bestPathOf : List Cond := .code yX6_bestPathOf cX6_bestPathOf 8 (some .int) :: ([.methodLink RX6 171 yX6_paths, .instanceMethod yX6_paths, .selects RX6 yX6_paths yX6_paths, .initialized RX6, .code yX6_paths cX6_paths 2 (some .int), .fieldLink RX6 54 "CountLearnersModel" "many" "[I", .methodLink RX6 174 yX6_weighPath, .instanceMethod yX6_weighPath, .selects RX6 yX6_weighPath yX6_weighPath, .code yX6_weighPath cX6_weighPath 7 (some .long), .fieldLink RX6 42 "CountLearnersModel" "start" "[I", .fieldLink RX6 45 "CountLearnersModel" "move" "[I", .fieldLink RX6 48 "CountLearnersModel" "show" "[I", .fieldLink RX6 51 "CountLearnersModel" "signs" "[I", .methodLink RX6 167 yX6_stateOf, .instanceMethod yX6_stateOf, .selects RX6 yX6_stateOf yX6_stateOf, .code yX6_stateOf cX6_stateOf 4 (some .int)] ++ wsX60)
def wsX6_path_r1 : List Cond := [Cond.fieldLink RX6 69 "CountLearnersModel" "thrown" "I", Cond.fieldLink RX6 54 "CountLearnersModel" "many" "[I", Cond.methodLink RX6 79 yX6_within, Cond.static yX6_within, Cond.initialized RX6, Cond.code yX6_within cX6_within 3 (some .boolean), Cond.methodLink RX6 177 yX6_bestPathOf, Cond.instanceMethod yX6_bestPathOf, Cond.selects RX6 yX6_bestPathOf yX6_bestPathOf, Cond.code yX6_bestPathOf cX6_bestPathOf 8 (some .int), Cond.methodLink RX6 171 yX6_paths, Cond.instanceMethod yX6_paths, Cond.selects RX6 yX6_paths yX6_paths, Cond.code yX6_paths cX6_paths 2 (some .int), Cond.methodLink RX6 174 yX6_weighPath, Cond.instanceMethod yX6_weighPath, Cond.selects RX6 yX6_weighPath yX6_weighPath, Cond.code yX6_weighPath cX6_weighPath 7 (some .long), Cond.fieldLink RX6 42 "CountLearnersModel" "start" "[I", Cond.fieldLink RX6 45 "CountLearnersModel" "move" "[I", Cond.fieldLink RX6 48 "CountLearnersModel" "show" "[I", Cond.fieldLink RX6 51 "CountLearnersModel" "signs" "[I", Cond.methodLink RX6 167 yX6_stateOf, Cond.instanceMethod yX6_stateOf]
def wsX6_path_r2 : List Cond := [Cond.selects RX6 yX6_stateOf yX6_stateOf, Cond.code yX6_stateOf cX6_stateOf 4 (some .int)]
def wsX6_path : List Cond := .code yX6_path cX6_path 4 (some .int) :: ((wsX6_path_r1 ++ wsX6_path_r2) ++ wsX60)
def wsX6_total_r1 : List Cond := [Cond.fieldLink RX6 69 "CountLearnersModel" "thrown" "I", Cond.constantLong RX6 106 (-2), Cond.methodLink RX6 79 yX6_within, Cond.static yX6_within, Cond.initialized RX6, Cond.code yX6_within cX6_within 3 (some .boolean), Cond.methodLink RX6 180 yX6_sum, Cond.instanceMethod yX6_sum, Cond.selects RX6 yX6_sum yX6_sum, Cond.code yX6_sum cX6_sum 7 (some .long), Cond.methodLink RX6 171 yX6_paths, Cond.instanceMethod yX6_paths, Cond.selects RX6 yX6_paths yX6_paths, Cond.code yX6_paths cX6_paths 2 (some .int), Cond.fieldLink RX6 54 "CountLearnersModel" "many" "[I", Cond.methodLink RX6 167 yX6_stateOf, Cond.instanceMethod yX6_stateOf, Cond.selects RX6 yX6_stateOf yX6_stateOf, Cond.code yX6_stateOf cX6_stateOf 4 (some .int), Cond.methodLink RX6 174 yX6_weighPath, Cond.instanceMethod yX6_weighPath, Cond.selects RX6 yX6_weighPath yX6_weighPath, Cond.code yX6_weighPath cX6_weighPath 7 (some .long), Cond.fieldLink RX6 42 "CountLearnersModel" "start" "[I"]
def wsX6_total_r2 : List Cond := [Cond.fieldLink RX6 45 "CountLearnersModel" "move" "[I", Cond.fieldLink RX6 48 "CountLearnersModel" "show" "[I", Cond.fieldLink RX6 51 "CountLearnersModel" "signs" "[I"]
def wsX6_total : List Cond := .code yX6_total cX6_total 2 (some .long) :: ((wsX6_total_r1 ++ wsX6_total_r2) ++ wsX60)
def wsX6_at_r1 : List Cond := [Cond.fieldLink RX6 69 "CountLearnersModel" "thrown" "I", Cond.fieldLink RX6 54 "CountLearnersModel" "many" "[I", Cond.constantLong RX6 106 (-2), Cond.methodLink RX6 79 yX6_within, Cond.static yX6_within, Cond.initialized RX6, Cond.code yX6_within cX6_within 3 (some .boolean), Cond.methodLink RX6 180 yX6_sum, Cond.instanceMethod yX6_sum, Cond.selects RX6 yX6_sum yX6_sum, Cond.code yX6_sum cX6_sum 7 (some .long), Cond.methodLink RX6 171 yX6_paths, Cond.instanceMethod yX6_paths, Cond.selects RX6 yX6_paths yX6_paths, Cond.code yX6_paths cX6_paths 2 (some .int), Cond.methodLink RX6 167 yX6_stateOf, Cond.instanceMethod yX6_stateOf, Cond.selects RX6 yX6_stateOf yX6_stateOf, Cond.code yX6_stateOf cX6_stateOf 4 (some .int), Cond.methodLink RX6 174 yX6_weighPath, Cond.instanceMethod yX6_weighPath, Cond.selects RX6 yX6_weighPath yX6_weighPath, Cond.code yX6_weighPath cX6_weighPath 7 (some .long), Cond.fieldLink RX6 42 "CountLearnersModel" "start" "[I"]
def wsX6_at_r2 : List Cond := [Cond.fieldLink RX6 45 "CountLearnersModel" "move" "[I", Cond.fieldLink RX6 48 "CountLearnersModel" "show" "[I", Cond.fieldLink RX6 51 "CountLearnersModel" "signs" "[I", Cond.methodLink RX6 116 yX6_side, Cond.static yX6_side, Cond.code yX6_side cX6_side 7 (some .long), Cond.methodLink RX6 72 yX6_measure, Cond.static yX6_measure, Cond.code yX6_measure cX6_measure 10 (some .long)]
def wsX6_at : List Cond := .code yX6_at cX6_at 7 (some .long) :: ((wsX6_at_r1 ++ wsX6_at_r2) ++ wsX60)
def wsX6_countPath : List Cond := .code yX6_countPath cX6_countPath 5 none :: ([.fieldLink RX6 54 "CountLearnersModel" "many" "[I", .fieldLink RX6 60 "CountLearnersModel" "nextStart" "[I", .fieldLink RX6 63 "CountLearnersModel" "nextMove" "[I", .fieldLink RX6 66 "CountLearnersModel" "nextShow" "[I", .fieldLink RX6 51 "CountLearnersModel" "signs" "[I", .methodLink RX6 167 yX6_stateOf, .instanceMethod yX6_stateOf, .selects RX6 yX6_stateOf yX6_stateOf, .initialized RX6, .code yX6_stateOf cX6_stateOf 4 (some .int)] ++ wsX60)
def wsX6_learnt_r1 : List Cond := [Cond.fieldLink RX6 60 "CountLearnersModel" "nextStart" "[I", Cond.fieldLink RX6 63 "CountLearnersModel" "nextMove" "[I", Cond.fieldLink RX6 66 "CountLearnersModel" "nextShow" "[I", Cond.fieldLink RX6 57 "CountLearnersModel" "bestPath" "[I", Cond.fieldLink RX6 42 "CountLearnersModel" "start" "[I", Cond.fieldLink RX6 45 "CountLearnersModel" "move" "[I", Cond.fieldLink RX6 48 "CountLearnersModel" "show" "[I", Cond.methodLink RX6 177 yX6_bestPathOf, Cond.instanceMethod yX6_bestPathOf, Cond.selects RX6 yX6_bestPathOf yX6_bestPathOf, Cond.initialized RX6, Cond.code yX6_bestPathOf cX6_bestPathOf 8 (some .int), Cond.methodLink RX6 171 yX6_paths, Cond.instanceMethod yX6_paths, Cond.selects RX6 yX6_paths yX6_paths, Cond.code yX6_paths cX6_paths 2 (some .int), Cond.fieldLink RX6 54 "CountLearnersModel" "many" "[I", Cond.methodLink RX6 174 yX6_weighPath, Cond.instanceMethod yX6_weighPath, Cond.selects RX6 yX6_weighPath yX6_weighPath, Cond.code yX6_weighPath cX6_weighPath 7 (some .long), Cond.fieldLink RX6 51 "CountLearnersModel" "signs" "[I", Cond.methodLink RX6 167 yX6_stateOf, Cond.instanceMethod yX6_stateOf]
def wsX6_learnt_r2 : List Cond := [Cond.selects RX6 yX6_stateOf yX6_stateOf, Cond.code yX6_stateOf cX6_stateOf 4 (some .int), Cond.methodLink RX6 184 yX6_countPath, Cond.instanceMethod yX6_countPath, Cond.selects RX6 yX6_countPath yX6_countPath, Cond.code yX6_countPath cX6_countPath 5 none]
def wsX6_learnt : List Cond := .code yX6_learnt cX6_learnt 3 (some .boolean) :: ((wsX6_learnt_r1 ++ wsX6_learnt_r2) ++ wsX60)
def wsX6_learn_r1 : List Cond := [Cond.fieldLink RX6 69 "CountLearnersModel" "thrown" "I", Cond.methodLink RX6 79 yX6_within, Cond.static yX6_within, Cond.initialized RX6, Cond.code yX6_within cX6_within 3 (some .boolean), Cond.methodLink RX6 187 yX6_learnt, Cond.instanceMethod yX6_learnt, Cond.selects RX6 yX6_learnt yX6_learnt, Cond.code yX6_learnt cX6_learnt 3 (some .boolean), Cond.fieldLink RX6 60 "CountLearnersModel" "nextStart" "[I", Cond.fieldLink RX6 63 "CountLearnersModel" "nextMove" "[I", Cond.fieldLink RX6 66 "CountLearnersModel" "nextShow" "[I", Cond.fieldLink RX6 57 "CountLearnersModel" "bestPath" "[I", Cond.fieldLink RX6 42 "CountLearnersModel" "start" "[I", Cond.fieldLink RX6 45 "CountLearnersModel" "move" "[I", Cond.fieldLink RX6 48 "CountLearnersModel" "show" "[I", Cond.methodLink RX6 177 yX6_bestPathOf, Cond.instanceMethod yX6_bestPathOf, Cond.selects RX6 yX6_bestPathOf yX6_bestPathOf, Cond.code yX6_bestPathOf cX6_bestPathOf 8 (some .int), Cond.methodLink RX6 171 yX6_paths, Cond.instanceMethod yX6_paths, Cond.selects RX6 yX6_paths yX6_paths, Cond.code yX6_paths cX6_paths 2 (some .int)]
def wsX6_learn_r2 : List Cond := [Cond.fieldLink RX6 54 "CountLearnersModel" "many" "[I", Cond.methodLink RX6 174 yX6_weighPath, Cond.instanceMethod yX6_weighPath, Cond.selects RX6 yX6_weighPath yX6_weighPath, Cond.code yX6_weighPath cX6_weighPath 7 (some .long), Cond.fieldLink RX6 51 "CountLearnersModel" "signs" "[I", Cond.methodLink RX6 167 yX6_stateOf, Cond.instanceMethod yX6_stateOf, Cond.selects RX6 yX6_stateOf yX6_stateOf, Cond.code yX6_stateOf cX6_stateOf 4 (some .int), Cond.methodLink RX6 184 yX6_countPath, Cond.instanceMethod yX6_countPath, Cond.selects RX6 yX6_countPath yX6_countPath, Cond.code yX6_countPath cX6_countPath 5 none]
def wsX6_learn : List Cond := .code yX6_learn cX6_learn 3 (some .int) :: ((wsX6_learn_r1 ++ wsX6_learn_r2) ++ wsX60)
def wsX6_has : List Cond := .code yX6_has cX6_has 5 (some .boolean) :: ([.fieldLink RX6 19 "CountLearnersModel" "sizes" "[I", .fieldLink RX6 22 "CountLearnersModel" "words" "[I"] ++ wsX60)
def wsX6_support : List Cond := .code yX6_support cX6_support 5 (some .int) :: ([.fieldLink RX6 76 "CountLearnersModel" "rows" "I", .methodLink RX6 190 yX6_has, .instanceMethod yX6_has, .selects RX6 yX6_has yX6_has, .initialized RX6, .code yX6_has cX6_has 5 (some .boolean), .fieldLink RX6 19 "CountLearnersModel" "sizes" "[I", .fieldLink RX6 22 "CountLearnersModel" "words" "[I"] ++ wsX60)
def wsX6_isRule : List Cond := .code yX6_isRule cX6_isRule 2 (some .boolean) :: ([.methodLink RX6 193 yX6_support, .instanceMethod yX6_support, .selects RX6 yX6_support yX6_support, .initialized RX6, .code yX6_support cX6_support 5 (some .int), .fieldLink RX6 76 "CountLearnersModel" "rows" "I", .methodLink RX6 190 yX6_has, .instanceMethod yX6_has, .selects RX6 yX6_has yX6_has, .code yX6_has cX6_has 5 (some .boolean), .fieldLink RX6 19 "CountLearnersModel" "sizes" "[I", .fieldLink RX6 22 "CountLearnersModel" "words" "[I"] ++ wsX60)
def wsX6_isAhead : List Cond := .code yX6_isAhead cX6_isAhead 7 (some .boolean) :: ([.methodLink RX6 193 yX6_support, .instanceMethod yX6_support, .selects RX6 yX6_support yX6_support, .initialized RX6, .code yX6_support cX6_support 5 (some .int), .fieldLink RX6 76 "CountLearnersModel" "rows" "I", .methodLink RX6 190 yX6_has, .instanceMethod yX6_has, .selects RX6 yX6_has yX6_has, .code yX6_has cX6_has 5 (some .boolean), .fieldLink RX6 19 "CountLearnersModel" "sizes" "[I", .fieldLink RX6 22 "CountLearnersModel" "words" "[I"] ++ wsX60)
def wsX6_rules : List Cond := .code yX6_rules cX6_rules 3 (some .int) :: ([.methodLink RX6 196 yX6_isRule, .instanceMethod yX6_isRule, .selects RX6 yX6_isRule yX6_isRule, .initialized RX6, .code yX6_isRule cX6_isRule 2 (some .boolean), .methodLink RX6 193 yX6_support, .instanceMethod yX6_support, .selects RX6 yX6_support yX6_support, .code yX6_support cX6_support 5 (some .int), .fieldLink RX6 76 "CountLearnersModel" "rows" "I", .methodLink RX6 190 yX6_has, .instanceMethod yX6_has, .selects RX6 yX6_has yX6_has, .code yX6_has cX6_has 5 (some .boolean), .fieldLink RX6 19 "CountLearnersModel" "sizes" "[I", .fieldLink RX6 22 "CountLearnersModel" "words" "[I"] ++ wsX60)
def wsX6_ruleAt : List Cond := .code yX6_ruleAt cX6_ruleAt 5 (some .int) :: ([.methodLink RX6 196 yX6_isRule, .instanceMethod yX6_isRule, .selects RX6 yX6_isRule yX6_isRule, .initialized RX6, .code yX6_isRule cX6_isRule 2 (some .boolean), .methodLink RX6 193 yX6_support, .instanceMethod yX6_support, .selects RX6 yX6_support yX6_support, .code yX6_support cX6_support 5 (some .int), .fieldLink RX6 76 "CountLearnersModel" "rows" "I", .methodLink RX6 190 yX6_has, .instanceMethod yX6_has, .selects RX6 yX6_has yX6_has, .code yX6_has cX6_has 5 (some .boolean), .fieldLink RX6 19 "CountLearnersModel" "sizes" "[I", .fieldLink RX6 22 "CountLearnersModel" "words" "[I", .methodLink RX6 199 yX6_isAhead, .instanceMethod yX6_isAhead, .selects RX6 yX6_isAhead yX6_isAhead, .code yX6_isAhead cX6_isAhead 7 (some .boolean)] ++ wsX60)
def wsX6_rule_r1 : List Cond := [Cond.fieldLink RX6 69 "CountLearnersModel" "thrown" "I", Cond.methodLink RX6 79 yX6_within, Cond.static yX6_within, Cond.initialized RX6, Cond.code yX6_within cX6_within 3 (some .boolean), Cond.methodLink RX6 202 yX6_rules, Cond.instanceMethod yX6_rules, Cond.selects RX6 yX6_rules yX6_rules, Cond.code yX6_rules cX6_rules 3 (some .int), Cond.methodLink RX6 196 yX6_isRule, Cond.instanceMethod yX6_isRule, Cond.selects RX6 yX6_isRule yX6_isRule, Cond.code yX6_isRule cX6_isRule 2 (some .boolean), Cond.methodLink RX6 193 yX6_support, Cond.instanceMethod yX6_support, Cond.selects RX6 yX6_support yX6_support, Cond.code yX6_support cX6_support 5 (some .int), Cond.fieldLink RX6 76 "CountLearnersModel" "rows" "I", Cond.methodLink RX6 190 yX6_has, Cond.instanceMethod yX6_has, Cond.selects RX6 yX6_has yX6_has, Cond.code yX6_has cX6_has 5 (some .boolean), Cond.fieldLink RX6 19 "CountLearnersModel" "sizes" "[I", Cond.fieldLink RX6 22 "CountLearnersModel" "words" "[I"]
def wsX6_rule_r2 : List Cond := [Cond.methodLink RX6 206 yX6_ruleAt, Cond.instanceMethod yX6_ruleAt, Cond.selects RX6 yX6_ruleAt yX6_ruleAt, Cond.code yX6_ruleAt cX6_ruleAt 5 (some .int), Cond.methodLink RX6 199 yX6_isAhead, Cond.instanceMethod yX6_isAhead, Cond.selects RX6 yX6_isAhead yX6_isAhead, Cond.code yX6_isAhead cX6_isAhead 7 (some .boolean), Cond.methodLink RX6 116 yX6_side, Cond.static yX6_side, Cond.code yX6_side cX6_side 7 (some .long), Cond.methodLink RX6 72 yX6_measure, Cond.static yX6_measure, Cond.code yX6_measure cX6_measure 10 (some .long)]
def wsX6_rule : List Cond := .code yX6_rule cX6_rule 5 (some .int) :: ((wsX6_rule_r1 ++ wsX6_rule_r2) ++ wsX60)
def wsX6_count_ : List Cond := .code yX6_count_ cX6_count_ 4 (some .int) :: ([.fieldLink RX6 69 "CountLearnersModel" "thrown" "I", .fieldLink RX6 76 "CountLearnersModel" "rows" "I", .fieldLink RX6 7 "CountLearnersModel" "labels" "[I", .fieldLink RX6 142 "CountLearnersModel" "length" "I", .fieldLink RX6 54 "CountLearnersModel" "many" "[I", .methodLink RX6 202 yX6_rules, .instanceMethod yX6_rules, .selects RX6 yX6_rules yX6_rules, .initialized RX6, .code yX6_rules cX6_rules 3 (some .int), .methodLink RX6 196 yX6_isRule, .instanceMethod yX6_isRule, .selects RX6 yX6_isRule yX6_isRule, .code yX6_isRule cX6_isRule 2 (some .boolean), .methodLink RX6 193 yX6_support, .instanceMethod yX6_support, .selects RX6 yX6_support yX6_support, .code yX6_support cX6_support 5 (some .int), .methodLink RX6 190 yX6_has, .instanceMethod yX6_has, .selects RX6 yX6_has yX6_has, .code yX6_has cX6_has 5 (some .boolean), .fieldLink RX6 19 "CountLearnersModel" "sizes" "[I", .fieldLink RX6 22 "CountLearnersModel" "words" "[I"] ++ wsX60)
def wsL_share_r1 : List Cond := [Cond.classLink RL 13 "java/lang/ArithmeticException", Cond.methodLink RL 7 yX5_share, Cond.instanceMethod yX5_share, Cond.selects RX5 yX5_share yX5_share, Cond.initialized RX5, Cond.code yX5_share cX5_share 6 (some .long), Cond.classLink RX5 94 "java/lang/ArithmeticException", Cond.initialized "java/lang/ArithmeticException", Cond.constantLong RX5 88 (-2), Cond.fieldLink RX5 10 "CountLearners" "rows" "LCountLearners$LabelledRows;", Cond.methodLink RX5 73 yX5_isLabel, Cond.static yX5_isLabel, Cond.code yX5_isLabel cX5_isLabel 1 (some .boolean), Cond.methodLink RX5 65 yX5_isWithin, Cond.static yX5_isWithin, Cond.code yX5_isWithin cX5_isWithin 3 (some .boolean), Cond.methodLink RX5 52 yX5_isWord, Cond.static yX5_isWord, Cond.code yX5_isWord cX5_isWord 1 (some .boolean), Cond.methodLink RX5 85 yX5_isSide, Cond.static yX5_isSide, Cond.code yX5_isSide cX5_isSide 1 (some .boolean), Cond.methodLink RX5 90 yX2_shareLower, Cond.instanceMethod yX2_shareLower]
def wsL_share_r2 : List Cond := [Cond.selects RX2 yX2_shareLower yX2_shareLower, Cond.initialized RX2, Cond.code yX2_shareLower cX2_shareLower 2 (some .long), Cond.fieldLink RX2 27 "CountLearners$LabelledRows" "totals" "[I", Cond.fieldLink RX2 40 "CountLearners$LabelledRows" "addedDown" "I", Cond.constantLong RX2 50 (8), Cond.fieldLink RX2 37 "CountLearners$LabelledRows" "addedUp" "I", Cond.methodLink RX5 101 yX2_shareUpper, Cond.instanceMethod yX2_shareUpper, Cond.selects RX2 yX2_shareUpper yX2_shareUpper, Cond.code yX2_shareUpper cX2_shareUpper 3 (some .long), Cond.methodLink RX2 46 yX2_timesIn, Cond.instanceMethod yX2_timesIn, Cond.selects RX2 yX2_timesIn yX2_timesIn, Cond.code yX2_timesIn cX2_timesIn 3 (some .int), Cond.fieldLink RX2 24 "CountLearners$LabelledRows" "times" "[I", Cond.methodLink RX5 105 yX0_sideOf, Cond.static yX0_sideOf, Cond.initialized RX0, Cond.code yX0_sideOf cX0_sideOf 7 (some .long), Cond.methodLink RX0 7 yX0_commonDivisor, Cond.static yX0_commonDivisor, Cond.code yX0_commonDivisor cX0_commonDivisor 11 (some .long)]
def wsL_share : List Cond := .codeWith yL_share cL_share 6 (some .int) [(0, 11, 14, 13)] :: ((wsL_share_r1 ++ wsL_share_r2) ++ wsX50 ++ wsX20 ++ (vx_atS RX5 98 "java/lang/ArithmeticException" ["java/lang/RuntimeException", "java/lang/Exception"]).filter goodWord)
def wsL_at_r1 : List Cond := [Cond.classLink RL 13 "java/lang/ArithmeticException", Cond.methodLink RL 15 yX5_at, Cond.instanceMethod yX5_at, Cond.selects RX5 yX5_at yX5_at, Cond.initialized RX5, Cond.code yX5_at cX5_at 7 (some .long), Cond.classLink RX5 94 "java/lang/ArithmeticException", Cond.initialized "java/lang/ArithmeticException", Cond.fieldLink RX5 26 "CountLearners" "states" "LCountLearners$HiddenStates;", Cond.constantLong RX5 88 (-2), Cond.methodLink RX5 154 yX1_isRow, Cond.static yX1_isRow, Cond.initialized RX1, Cond.code yX1_isRow cX1_isRow 1 (some .boolean), Cond.methodLink RX5 162 yX1_hasPlace, Cond.instanceMethod yX1_hasPlace, Cond.selects RX1 yX1_hasPlace yX1_hasPlace, Cond.code yX1_hasPlace cX1_hasPlace 3 (some .boolean), Cond.fieldLink RX1 21 "CountLearners$HiddenStates" "lengths" "[I", Cond.methodLink RX5 174 yX1_isState, Cond.static yX1_isState, Cond.code yX1_isState cX1_isState 1 (some .boolean), Cond.methodLink RX5 85 yX5_isSide, Cond.static yX5_isSide]
def wsL_at_r2 : List Cond := [Cond.code yX5_isSide cX5_isSide 1 (some .boolean), Cond.methodLink RX5 65 yX5_isWithin, Cond.static yX5_isWithin, Cond.code yX5_isWithin cX5_isWithin 3 (some .boolean), Cond.methodLink RX5 171 yX1_totalOf, Cond.instanceMethod yX1_totalOf, Cond.selects RX1 yX1_totalOf yX1_totalOf, Cond.code yX1_totalOf cX1_totalOf 2 (some .long), Cond.methodLink RX1 55 yX1_totalThrough, Cond.instanceMethod yX1_totalThrough, Cond.selects RX1 yX1_totalThrough yX1_totalThrough, Cond.code yX1_totalThrough cX1_totalThrough 7 (some .long), Cond.fieldLink RX1 24 "CountLearners$HiddenStates" "sums" "[J", Cond.fieldLink RX1 11 "CountLearners$HiddenStates" "weights" "[I", Cond.fieldLink RX1 28 "CountLearners$HiddenStates" "nextSums" "[J", Cond.methodLink RX1 59 yX1_shown, Cond.instanceMethod yX1_shown, Cond.selects RX1 yX1_shown yX1_shown, Cond.code yX1_shown cX1_shown 4 (some .int), Cond.fieldLink RX1 18 "CountLearners$HiddenStates" "signs" "[I", Cond.methodLink RX1 52 yX1_showAt, Cond.static yX1_showAt, Cond.code yX1_showAt cX1_showAt 2 (some .int), Cond.methodLink RX1 63 yX1_sumInto]
def wsL_at_r3 : List Cond := [Cond.instanceMethod yX1_sumInto, Cond.selects RX1 yX1_sumInto yX1_sumInto, Cond.code yX1_sumInto cX1_sumInto 5 (some .long), Cond.methodLink RX1 45 yX1_moveAt, Cond.static yX1_moveAt, Cond.code yX1_moveAt cX1_moveAt 2 (some .int), Cond.methodLink RX5 179 yX1_totalThrough, Cond.methodLink RX5 105 yX0_sideOf, Cond.static yX0_sideOf, Cond.initialized RX0, Cond.code yX0_sideOf cX0_sideOf 7 (some .long), Cond.methodLink RX0 7 yX0_commonDivisor, Cond.static yX0_commonDivisor, Cond.code yX0_commonDivisor cX0_commonDivisor 11 (some .long)]
def wsL_at : List Cond := .codeWith yL_at cL_at 7 (some .int) [(0, 13, 16, 13)] :: ((wsL_at_r1 ++ (wsL_at_r2 ++ wsL_at_r3)) ++ wsX50 ++ wsX10 ++ (vx_atS RX5 98 "java/lang/ArithmeticException" ["java/lang/RuntimeException", "java/lang/Exception"]).filter goodWord)
def wsL_law0_r1 : List Cond := [Cond.classLink RL 8 RX5, Cond.instantiable RX5 4, Cond.initialized RX5, Cond.classLink RL 20 RX6, Cond.instantiable RX6 25, Cond.initialized RX6, Cond.arrayClass .long, Cond.methodLink RL 19 yX5_init, Cond.instanceMethod yX5_init, Cond.code yX5_init cX5_init 1 none, Cond.methodLink RX5 1 objectInit, Cond.instanceMethod objectInit, Cond.code objectInit ⟨#[0xb1]⟩ 1 none, Cond.classLink RX5 7 RX2, Cond.instantiable RX2 10, Cond.initialized RX2, Cond.fieldLink RX5 10 "CountLearners" "rows" "LCountLearners$LabelledRows;", Cond.classLink RX5 16 RX3, Cond.instantiable RX3 5, Cond.initialized RX3, Cond.fieldLink RX5 19 "CountLearners" "tables" "LCountLearners$TextTables;", Cond.classLink RX5 23 RX1, Cond.instantiable RX1 8, Cond.initialized RX1]
def wsL_law0_r2 : List Cond := [Cond.fieldLink RX5 26 "CountLearners" "states" "LCountLearners$HiddenStates;", Cond.classLink RX5 30 RX4, Cond.instantiable RX4 4, Cond.initialized RX4, Cond.fieldLink RX5 33 "CountLearners" "rules" "LCountLearners$WordRules;", Cond.instanceMethod yX2_init, Cond.code yX2_init cX2_init 1 none, Cond.methodLink RX2 3 objectInit, Cond.arrayClass .int, Cond.fieldLink RX2 11 "CountLearners$LabelledRows" "labels" "[I", Cond.fieldLink RX2 15 "CountLearners$LabelledRows" "guesses" "[I", Cond.fieldLink RX2 18 "CountLearners$LabelledRows" "lengths" "[I", Cond.fieldLink RX2 21 "CountLearners$LabelledRows" "words" "[I", Cond.fieldLink RX2 24 "CountLearners$LabelledRows" "times" "[I", Cond.fieldLink RX2 27 "CountLearners$LabelledRows" "totals" "[I", Cond.fieldLink RX2 30 "CountLearners$LabelledRows" "sizes" "[I", Cond.fieldLink RX2 33 "CountLearners$LabelledRows" "rowCount" "I", Cond.fieldLink RX2 37 "CountLearners$LabelledRows" "addedUp" "I", Cond.fieldLink RX2 40 "CountLearners$LabelledRows" "addedDown" "I", Cond.instanceMethod yX3_init, Cond.code yX3_init cX3_init 1 none, Cond.methodLink RX3 3 objectInit, Cond.fieldLink RX3 11 "CountLearners$TextTables" "text" "[I", Cond.fieldLink RX3 15 "CountLearners$TextTables" "behind" "[I"]
def wsL_law0_r3 : List Cond := [Cond.fieldLink RX3 18 "CountLearners$TextTables" "uppers" "[J", Cond.fieldLink RX3 22 "CountLearners$TextTables" "lower" "J", Cond.fieldLink RX3 26 "CountLearners$TextTables" "textLength" "I", Cond.methodLink RX5 25 yX1_init, Cond.instanceMethod yX1_init, Cond.code yX1_init cX1_init 1 none, Cond.methodLink RX1 5 objectInit, Cond.fieldLink RX1 11 "CountLearners$HiddenStates" "weights" "[I", Cond.fieldLink RX1 15 "CountLearners$HiddenStates" "freshWeights" "[I", Cond.fieldLink RX1 18 "CountLearners$HiddenStates" "signs" "[I", Cond.fieldLink RX1 21 "CountLearners$HiddenStates" "lengths" "[I", Cond.fieldLink RX1 24 "CountLearners$HiddenStates" "sums" "[J", Cond.fieldLink RX1 28 "CountLearners$HiddenStates" "nextSums" "[J", Cond.fieldLink RX1 31 "CountLearners$HiddenStates" "bestFrom" "[J", Cond.fieldLink RX1 34 "CountLearners$HiddenStates" "bestPath" "[I", Cond.static yX5_setAll, Cond.code yX5_setAll cX5_setAll 3 none, Cond.instanceMethod yX4_init, Cond.code yX4_init cX4_init 1 none, Cond.methodLink RX4 3 objectInit, Cond.fieldLink RX4 11 "CountLearners$WordRules" "support" "[I", Cond.fieldLink RX4 15 "CountLearners$WordRules" "having" "[I", Cond.fieldLink RX4 18 "CountLearners$WordRules" "keys" "[I", Cond.fieldLink RX4 21 "CountLearners$WordRules" "ruleCount" "I"]
def wsL_law0_r4 : List Cond := [Cond.methodLink RL 22 yX6_init, Cond.instanceMethod yX6_init, Cond.code yX6_init cX6_init 2 none, Cond.methodLink RX6 1 objectInit, Cond.fieldLink RX6 7 "CountLearnersModel" "labels" "[I", Cond.fieldLink RX6 13 "CountLearnersModel" "guesses" "[I", Cond.fieldLink RX6 16 "CountLearnersModel" "comes" "[I", Cond.fieldLink RX6 19 "CountLearnersModel" "sizes" "[I", Cond.fieldLink RX6 22 "CountLearnersModel" "words" "[I", Cond.fieldLink RX6 25 "CountLearnersModel" "up" "I", Cond.fieldLink RX6 29 "CountLearnersModel" "down" "I", Cond.fieldLink RX6 32 "CountLearnersModel" "told" "[I", Cond.fieldLink RX6 35 "CountLearnersModel" "behind" "[I", Cond.fieldLink RX6 38 "CountLearnersModel" "shares" "[J", Cond.fieldLink RX6 42 "CountLearnersModel" "start" "[I", Cond.fieldLink RX6 45 "CountLearnersModel" "move" "[I", Cond.fieldLink RX6 48 "CountLearnersModel" "show" "[I", Cond.fieldLink RX6 51 "CountLearnersModel" "signs" "[I", Cond.fieldLink RX6 54 "CountLearnersModel" "many" "[I", Cond.fieldLink RX6 57 "CountLearnersModel" "bestPath" "[I", Cond.fieldLink RX6 60 "CountLearnersModel" "nextStart" "[I", Cond.fieldLink RX6 63 "CountLearnersModel" "nextMove" "[I", Cond.fieldLink RX6 66 "CountLearnersModel" "nextShow" "[I", Cond.methodLink RL 23 yX5_row]
def wsL_law0_r5 : List Cond := [Cond.instanceMethod yX5_row, Cond.selects RX5 yX5_row yX5_row, Cond.code yX5_row cX5_row 2 (some .int), Cond.methodLink RX5 37 yX5_isLabelOrNone, Cond.static yX5_isLabelOrNone, Cond.code yX5_isLabelOrNone cX5_isLabelOrNone 1 (some .boolean), Cond.methodLink RX5 73 yX5_isLabel, Cond.static yX5_isLabel, Cond.code yX5_isLabel cX5_isLabel 1 (some .boolean), Cond.methodLink RX5 65 yX5_isWithin, Cond.static yX5_isWithin, Cond.code yX5_isWithin cX5_isWithin 3 (some .boolean), Cond.methodLink RX5 41 yX2_isFull, Cond.instanceMethod yX2_isFull, Cond.selects RX2 yX2_isFull yX2_isFull, Cond.code yX2_isFull cX2_isFull 1 (some .boolean), Cond.methodLink RX5 45 yX2_open, Cond.instanceMethod yX2_open, Cond.selects RX2 yX2_open yX2_open, Cond.code yX2_open cX2_open 3 (some .int), Cond.methodLink RX2 43 yX2_startAnew, Cond.instanceMethod yX2_startAnew, Cond.selects RX2 yX2_startAnew yX2_startAnew, Cond.code yX2_startAnew cX2_startAnew 1 none]
def wsL_law0_r6 : List Cond := [Cond.methodLink RX2 76 yX2_tally, Cond.instanceMethod yX2_tally, Cond.selects RX2 yX2_tally yX2_tally, Cond.code yX2_tally cX2_tally 3 none, Cond.methodLink RX2 83 yX2_tallyRow, Cond.instanceMethod yX2_tallyRow, Cond.selects RX2 yX2_tallyRow yX2_tallyRow, Cond.code yX2_tallyRow cX2_tallyRow 4 none, Cond.methodLink RL 27 yX6_row, Cond.instanceMethod yX6_row, Cond.selects RX6 yX6_row yX6_row, Cond.code yX6_row cX6_row 2 (some .int), Cond.fieldLink RX6 69 "CountLearnersModel" "thrown" "I", Cond.fieldLink RX6 76 "CountLearnersModel" "rows" "I", Cond.methodLink RX6 83 yX6_mayBe, Cond.static yX6_mayBe, Cond.code yX6_mayBe cX6_mayBe 1 (some .boolean), Cond.methodLink RX6 79 yX6_within, Cond.static yX6_within, Cond.code yX6_within cX6_within 3 (some .boolean), Cond.methodLink RX6 87 yX6_forget, Cond.instanceMethod yX6_forget, Cond.selects RX6 yX6_forget yX6_forget, Cond.code yX6_forget cX6_forget 2 none]
def wsL_law0_r7 : List Cond := [Cond.methodLink RL 28 yX5_word, Cond.instanceMethod yX5_word, Cond.selects RX5 yX5_word yX5_word, Cond.code yX5_word cX5_word 3 (some .int), Cond.methodLink RX5 49 yX2_has, Cond.instanceMethod yX2_has, Cond.selects RX2 yX2_has yX2_has, Cond.code yX2_has cX2_has 2 (some .boolean), Cond.methodLink RX5 52 yX5_isWord, Cond.static yX5_isWord, Cond.code yX5_isWord cX5_isWord 1 (some .boolean), Cond.methodLink RX5 55 yX2_isFullRow, Cond.instanceMethod yX2_isFullRow, Cond.selects RX2 yX2_isFullRow yX2_isFullRow, Cond.code yX2_isFullRow cX2_isFullRow 2 (some .boolean), Cond.methodLink RX5 58 yX2_append, Cond.instanceMethod yX2_append, Cond.selects RX2 yX2_append yX2_append, Cond.code yX2_append cX2_append 3 (some .int), Cond.methodLink RL 32 yX6_word, Cond.instanceMethod yX6_word, Cond.selects RX6 yX6_word yX6_word, Cond.code yX6_word cX6_word 3 (some .int), Cond.methodLink RX6 90 yX6_isRow]
def wsL_law0_r8 : List Cond := [Cond.instanceMethod yX6_isRow, Cond.selects RX6 yX6_isRow yX6_isRow, Cond.code yX6_isRow cX6_isRow 2 (some .boolean), Cond.methodLink RL 33 yX5_label, Cond.instanceMethod yX5_label, Cond.selects RX5 yX5_label yX5_label, Cond.code yX5_label cX5_label 3 (some .int), Cond.methodLink RX5 62 yX2_relabel, Cond.instanceMethod yX2_relabel, Cond.selects RX2 yX2_relabel yX2_relabel, Cond.code yX2_relabel cX2_relabel 4 (some .int), Cond.methodLink RL 36 yX6_label, Cond.instanceMethod yX6_label, Cond.selects RX6 yX6_label yX6_label, Cond.code yX6_label cX6_label 4 (some .int), Cond.methodLink RL 37 yX5_addition, Cond.instanceMethod yX5_addition, Cond.selects RX5 yX5_addition yX5_addition, Cond.code yX5_addition cX5_addition 3 (some .int), Cond.methodLink RX5 69 yX2_setAddition, Cond.instanceMethod yX2_setAddition, Cond.selects RX2 yX2_setAddition yX2_setAddition, Cond.code yX2_setAddition cX2_setAddition 3 none, Cond.methodLink RL 40 yX6_addition]
def wsL_law0_r9 : List Cond := [Cond.instanceMethod yX6_addition, Cond.selects RX6 yX6_addition yX6_addition, Cond.code yX6_addition cX6_addition 3 (some .int), Cond.methodLink RL 41 yX5_counted, Cond.instanceMethod yX5_counted, Cond.selects RX5 yX5_counted yX5_counted, Cond.code yX5_counted cX5_counted 3 (some .int), Cond.methodLink RX5 76 yX2_timesIn, Cond.instanceMethod yX2_timesIn, Cond.selects RX2 yX2_timesIn yX2_timesIn, Cond.code yX2_timesIn cX2_timesIn 3 (some .int), Cond.methodLink RX5 79 yX2_wordsIn, Cond.instanceMethod yX2_wordsIn, Cond.selects RX2 yX2_wordsIn yX2_wordsIn, Cond.code yX2_wordsIn cX2_wordsIn 2 (some .int), Cond.methodLink RX5 82 yX2_rowsIn, Cond.instanceMethod yX2_rowsIn, Cond.selects RX2 yX2_rowsIn yX2_rowsIn, Cond.code yX2_rowsIn cX2_rowsIn 2 (some .int), Cond.methodLink RL 44 yX6_counted, Cond.instanceMethod yX6_counted, Cond.selects RX6 yX6_counted yX6_counted, Cond.code yX6_counted cX6_counted 3 (some .int), Cond.methodLink RX6 97 yX6_rowsOf]
def wsL_law0_r10 : List Cond := [Cond.instanceMethod yX6_rowsOf, Cond.selects RX6 yX6_rowsOf yX6_rowsOf, Cond.code yX6_rowsOf cX6_rowsOf 4 (some .int), Cond.methodLink RX6 93 yX6_asLabel, Cond.instanceMethod yX6_asLabel, Cond.selects RX6 yX6_asLabel yX6_asLabel, Cond.code yX6_asLabel cX6_asLabel 2 (some .int), Cond.methodLink RX6 100 yX6_timesOf, Cond.instanceMethod yX6_timesOf, Cond.selects RX6 yX6_timesOf yX6_timesOf, Cond.code yX6_timesOf cX6_timesOf 6 (some .int), Cond.methodLink RL 45 yL_share, Cond.static yL_share, Cond.initialized RL, Cond.codeWith yL_share cL_share 6 (some .int) [(0, 11, 14, 13)], Cond.classLink RL 13 "java/lang/ArithmeticException", Cond.methodLink RL 7 yX5_share, Cond.instanceMethod yX5_share, Cond.selects RX5 yX5_share yX5_share, Cond.code yX5_share cX5_share 6 (some .long), Cond.classLink RX5 94 "java/lang/ArithmeticException", Cond.initialized "java/lang/ArithmeticException", Cond.constantLong RX5 88 (-2), Cond.methodLink RX5 85 yX5_isSide]
def wsL_law0_r11 : List Cond := [Cond.static yX5_isSide, Cond.code yX5_isSide cX5_isSide 1 (some .boolean), Cond.methodLink RX5 90 yX2_shareLower, Cond.instanceMethod yX2_shareLower, Cond.selects RX2 yX2_shareLower yX2_shareLower, Cond.code yX2_shareLower cX2_shareLower 2 (some .long), Cond.constantLong RX2 50 (8), Cond.methodLink RX5 101 yX2_shareUpper, Cond.instanceMethod yX2_shareUpper, Cond.selects RX2 yX2_shareUpper yX2_shareUpper, Cond.code yX2_shareUpper cX2_shareUpper 3 (some .long), Cond.methodLink RX2 46 yX2_timesIn, Cond.methodLink RX5 105 yX0_sideOf, Cond.static yX0_sideOf, Cond.initialized RX0, Cond.code yX0_sideOf cX0_sideOf 7 (some .long), Cond.methodLink RX0 7 yX0_commonDivisor, Cond.static yX0_commonDivisor, Cond.code yX0_commonDivisor cX0_commonDivisor 11 (some .long), Cond.methodLink RL 50 yX6_share, Cond.instanceMethod yX6_share, Cond.selects RX6 yX6_share yX6_share, Cond.code yX6_share cX6_share 4 (some .long), Cond.constantLong RX6 106 (-2)]
def wsL_law0_r12 : List Cond := [Cond.methodLink RX6 108 yX6_shareBelow, Cond.instanceMethod yX6_shareBelow, Cond.selects RX6 yX6_shareBelow yX6_shareBelow, Cond.code yX6_shareBelow cX6_shareBelow 2 (some .long), Cond.constantLong RX6 104 (8), Cond.methodLink RX6 112 yX6_shareAbove, Cond.instanceMethod yX6_shareAbove, Cond.selects RX6 yX6_shareAbove yX6_shareAbove, Cond.code yX6_shareAbove cX6_shareAbove 3 (some .long), Cond.methodLink RX6 116 yX6_side, Cond.static yX6_side, Cond.code yX6_side cX6_side 7 (some .long), Cond.methodLink RX6 72 yX6_measure, Cond.static yX6_measure, Cond.code yX6_measure cX6_measure 10 (some .long), Cond.methodLink RL 51 yX6_thrown, Cond.instanceMethod yX6_thrown, Cond.selects RX6 yX6_thrown yX6_thrown, Cond.code yX6_thrown cX6_thrown 1 (some .int), Cond.methodLink RL 55 yX5_weight, Cond.instanceMethod yX5_weight, Cond.selects RX5 yX5_weight yX5_weight, Cond.code yX5_weight cX5_weight 4 (some .long), Cond.methodLink RX5 111 yX2_weightUpper]
def wsL_law0_r13 : List Cond := [Cond.instanceMethod yX2_weightUpper, Cond.selects RX2 yX2_weightUpper yX2_weightUpper, Cond.code yX2_weightUpper cX2_weightUpper 6 (some .long), Cond.methodLink RX2 52 yX2_shareUpper, Cond.methodLink RX5 114 yX2_weightLower, Cond.instanceMethod yX2_weightLower, Cond.selects RX2 yX2_weightLower yX2_weightLower, Cond.code yX2_weightLower cX2_weightLower 6 (some .long), Cond.methodLink RX2 56 yX2_shareLower, Cond.methodLink RL 58 yX6_weight, Cond.instanceMethod yX6_weight, Cond.selects RX6 yX6_weight yX6_weight, Cond.code yX6_weight cX6_weight 4 (some .long), Cond.fieldLink RX6 120 "CountLearnersModel" "weightAbove" "J", Cond.fieldLink RX6 124 "CountLearnersModel" "weightBelow" "J", Cond.methodLink RX6 127 yX6_weighRow, Cond.instanceMethod yX6_weighRow, Cond.selects RX6 yX6_weighRow yX6_weighRow, Cond.code yX6_weighRow cX6_weighRow 6 none, Cond.methodLink RL 59 yX5_best, Cond.instanceMethod yX5_best, Cond.selects RX5 yX5_best yX5_best, Cond.code yX5_best cX5_best 2 (some .int), Cond.methodLink RX5 117 yX2_bestLabel]
def wsL_law0_r14 : List Cond := [Cond.instanceMethod yX2_bestLabel, Cond.selects RX2 yX2_bestLabel yX2_bestLabel, Cond.code yX2_bestLabel cX2_bestLabel 12 (some .int), Cond.methodLink RX2 60 yX2_weightUpper, Cond.methodLink RX2 63 yX2_weightLower, Cond.methodLink RX2 66 yX0_isAbove, Cond.static yX0_isAbove, Cond.code yX0_isAbove cX0_isAbove 25 (some .boolean), Cond.methodLink RL 62 yX6_best, Cond.instanceMethod yX6_best, Cond.selects RX6 yX6_best yX6_best, Cond.code yX6_best cX6_best 2 (some .int), Cond.methodLink RX6 135 yX6_bestOf, Cond.instanceMethod yX6_bestOf, Cond.selects RX6 yX6_bestOf yX6_bestOf, Cond.code yX6_bestOf cX6_bestOf 8 (some .int), Cond.methodLink RX6 131 yX6_isAbove, Cond.static yX6_isAbove, Cond.code yX6_isAbove cX6_isAbove 23 (some .boolean), Cond.methodLink RL 63 yX5_rounds, Cond.instanceMethod yX5_rounds, Cond.selects RX5 yX5_rounds yX5_rounds, Cond.code yX5_rounds cX5_rounds 4 (some .int), Cond.methodLink RX5 120 yX2_guessAnew]
def wsL_law0_r15 : List Cond := [Cond.instanceMethod yX2_guessAnew, Cond.selects RX2 yX2_guessAnew yX2_guessAnew, Cond.code yX2_guessAnew cX2_guessAnew 4 (some .boolean), Cond.methodLink RX2 72 yX2_bestLabel, Cond.methodLink RL 66 yX6_rounds, Cond.instanceMethod yX6_rounds, Cond.selects RX6 yX6_rounds yX6_rounds, Cond.code yX6_rounds cX6_rounds 3 (some .int), Cond.methodLink RX6 138 yX6_round, Cond.instanceMethod yX6_round, Cond.selects RX6 yX6_round yX6_round, Cond.code yX6_round cX6_round 3 (some .boolean), Cond.methodLink RL 67 yX5_guess, Cond.instanceMethod yX5_guess, Cond.selects RX5 yX5_guess yX5_guess, Cond.code yX5_guess cX5_guess 2 (some .int), Cond.methodLink RX5 123 yX2_guessOf, Cond.instanceMethod yX2_guessOf, Cond.selects RX2 yX2_guessOf yX2_guessOf, Cond.code yX2_guessOf cX2_guessOf 2 (some .int), Cond.methodLink RL 70 yX6_guess, Cond.instanceMethod yX6_guess, Cond.selects RX6 yX6_guess yX6_guess, Cond.code yX6_guess cX6_guess 2 (some .int)]
def wsL_law0_r16 : List Cond := [Cond.methodLink RL 71 yX5_text, Cond.instanceMethod yX5_text, Cond.selects RX5 yX5_text yX5_text, Cond.code yX5_text cX5_text 2 (some .int), Cond.methodLink RX5 126 yX3_isFull, Cond.instanceMethod yX3_isFull, Cond.selects RX3 yX3_isFull yX3_isFull, Cond.code yX3_isFull cX3_isFull 1 (some .boolean), Cond.methodLink RX5 127 yX3_append, Cond.instanceMethod yX3_append, Cond.selects RX3 yX3_append yX3_append, Cond.code yX3_append cX3_append 2 (some .int), Cond.methodLink RL 74 yX6_text, Cond.instanceMethod yX6_text, Cond.selects RX6 yX6_text yX6_text, Cond.code yX6_text cX6_text 2 (some .int), Cond.fieldLink RX6 142 "CountLearnersModel" "length" "I", Cond.methodLink RL 75 yX5_next, Cond.instanceMethod yX5_next, Cond.selects RX5 yX5_next yX5_next, Cond.code yX5_next cX5_next 5 (some .long), Cond.methodLink RX5 129 yX5_isTable, Cond.static yX5_isTable, Cond.code yX5_isTable cX5_isTable 2 (some .boolean)]
def wsL_law0_r17 : List Cond := [Cond.methodLink RX5 133 yX3_fill, Cond.instanceMethod yX3_fill, Cond.selects RX3 yX3_fill yX3_fill, Cond.code yX3_fill cX3_fill 3 none, Cond.methodLink RX3 30 yX3_fillFirst, Cond.instanceMethod yX3_fillFirst, Cond.selects RX3 yX3_fillFirst yX3_fillFirst, Cond.code yX3_fillFirst cX3_fillFirst 2 none, Cond.methodLink RX3 33 yX3_countBehind, Cond.instanceMethod yX3_countBehind, Cond.selects RX3 yX3_countBehind yX3_countBehind, Cond.code yX3_countBehind cX3_countBehind 4 none, Cond.methodLink RX3 37 yX3_putAbove, Cond.instanceMethod yX3_putAbove, Cond.selects RX3 yX3_putAbove yX3_putAbove, Cond.code yX3_putAbove cX3_putAbove 6 none, Cond.methodLink RX3 44 yX3_takeCounts, Cond.instanceMethod yX3_takeCounts, Cond.selects RX3 yX3_takeCounts yX3_takeCounts, Cond.code yX3_takeCounts cX3_takeCounts 3 none, Cond.methodLink RX3 48 yX3_handDown, Cond.instanceMethod yX3_handDown, Cond.selects RX3 yX3_handDown yX3_handDown, Cond.code yX3_handDown cX3_handDown 6 none]
def wsL_law0_r18 : List Cond := [Cond.constantLong RX3 52 (2), Cond.methodLink RX5 136 yX3_upperOf, Cond.instanceMethod yX3_upperOf, Cond.selects RX3 yX3_upperOf yX3_upperOf, Cond.code yX3_upperOf cX3_upperOf 2 (some .long), Cond.methodLink RX5 139 yX3_lowerOfAll, Cond.instanceMethod yX3_lowerOfAll, Cond.selects RX3 yX3_lowerOfAll yX3_lowerOfAll, Cond.code yX3_lowerOfAll cX3_lowerOfAll 1 (some .long), Cond.methodLink RL 78 yX6_next, Cond.instanceMethod yX6_next, Cond.selects RX6 yX6_next yX6_next, Cond.code yX6_next cX6_next 5 (some .long), Cond.fieldLink RX6 145 "CountLearnersModel" "over" "J", Cond.methodLink RX6 160 yX6_isTable, Cond.static yX6_isTable, Cond.code yX6_isTable cX6_isTable 2 (some .boolean), Cond.methodLink RX6 164 yX6_table, Cond.instanceMethod yX6_table, Cond.selects RX6 yX6_table yX6_table, Cond.code yX6_table cX6_table 3 none, Cond.methodLink RX6 150 yX6_first, Cond.instanceMethod yX6_first, Cond.selects RX6 yX6_first yX6_first]
def wsL_law0_r19 : List Cond := [Cond.code yX6_first cX6_first 2 none, Cond.methodLink RX6 153 yX6_count, Cond.instanceMethod yX6_count, Cond.selects RX6 yX6_count yX6_count, Cond.code yX6_count cX6_count 5 (some .int), Cond.methodLink RX6 156 yX6_above, Cond.instanceMethod yX6_above, Cond.selects RX6 yX6_above yX6_above, Cond.code yX6_above cX6_above 6 none, Cond.constantLong RX6 148 (2), Cond.methodLink RL 79 yX5_likely, Cond.instanceMethod yX5_likely, Cond.selects RX5 yX5_likely yX5_likely, Cond.code yX5_likely cX5_likely 3 (some .int), Cond.methodLink RX5 143 yX3_greatest, Cond.instanceMethod yX3_greatest, Cond.selects RX3 yX3_greatest yX3_greatest, Cond.code yX3_greatest cX3_greatest 3 (some .int), Cond.methodLink RL 82 yX6_likely, Cond.instanceMethod yX6_likely, Cond.selects RX6 yX6_likely yX6_likely, Cond.code yX6_likely cX6_likely 5 (some .int), Cond.methodLink RL 83 yX5_weigh, Cond.instanceMethod yX5_weigh]
def wsL_law0_r20 : List Cond := [Cond.selects RX5 yX5_weigh yX5_weigh, Cond.code yX5_weigh cX5_weigh 6 (some .int), Cond.methodLink RX5 147 yX1_placeOf, Cond.static yX1_placeOf, Cond.code yX1_placeOf cX1_placeOf 3 (some .int), Cond.methodLink RX1 41 yX1_isState, Cond.static yX1_isState, Cond.code yX1_isState cX1_isState 1 (some .boolean), Cond.methodLink RX1 45 yX1_moveAt, Cond.static yX1_moveAt, Cond.code yX1_moveAt cX1_moveAt 2 (some .int), Cond.methodLink RX1 49 yX1_isSign, Cond.static yX1_isSign, Cond.code yX1_isSign cX1_isSign 1 (some .boolean), Cond.methodLink RX1 52 yX1_showAt, Cond.static yX1_showAt, Cond.code yX1_showAt cX1_showAt 2 (some .int), Cond.methodLink RX5 151 yX1_reweigh, Cond.instanceMethod yX1_reweigh, Cond.selects RX1 yX1_reweigh yX1_reweigh, Cond.code yX1_reweigh cX1_reweigh 4 (some .int), Cond.methodLink RL 87 yX6_weigh, Cond.instanceMethod yX6_weigh, Cond.selects RX6 yX6_weigh yX6_weigh]
def wsL_law0_r21 : List Cond := [Cond.code yX6_weigh cX6_weigh 7 (some .int), Cond.methodLink RL 88 yX5_sign, Cond.instanceMethod yX5_sign, Cond.selects RX5 yX5_sign yX5_sign, Cond.code yX5_sign cX5_sign 3 (some .int), Cond.methodLink RX5 154 yX1_isRow, Cond.static yX1_isRow, Cond.code yX1_isRow cX1_isRow 1 (some .boolean), Cond.methodLink RX5 157 yX1_isSign, Cond.methodLink RX5 160 yX1_isFullRow, Cond.instanceMethod yX1_isFullRow, Cond.selects RX1 yX1_isFullRow yX1_isFullRow, Cond.code yX1_isFullRow cX1_isFullRow 2 (some .boolean), Cond.methodLink RX5 161 yX1_append, Cond.instanceMethod yX1_append, Cond.selects RX1 yX1_append yX1_append, Cond.code yX1_append cX1_append 3 (some .int), Cond.methodLink RL 91 yX6_sign, Cond.instanceMethod yX6_sign, Cond.selects RX6 yX6_sign yX6_sign, Cond.code yX6_sign cX6_sign 3 (some .int), Cond.methodLink RL 92 yX5_path, Cond.instanceMethod yX5_path, Cond.selects RX5 yX5_path yX5_path]
def wsL_law0_r22 : List Cond := [Cond.code yX5_path cX5_path 3 (some .int), Cond.methodLink RX5 162 yX1_hasPlace, Cond.instanceMethod yX1_hasPlace, Cond.selects RX1 yX1_hasPlace yX1_hasPlace, Cond.code yX1_hasPlace cX1_hasPlace 3 (some .boolean), Cond.methodLink RX5 165 yX1_findBestPath, Cond.instanceMethod yX1_findBestPath, Cond.selects RX1 yX1_findBestPath yX1_findBestPath, Cond.code yX1_findBestPath cX1_findBestPath 7 (some .boolean), Cond.methodLink RX1 67 yX1_bestOnward, Cond.instanceMethod yX1_bestOnward, Cond.selects RX1 yX1_bestOnward yX1_bestOnward, Cond.code yX1_bestOnward cX1_bestOnward 5 (some .int), Cond.methodLink RX1 70 yX1_weightOnward, Cond.instanceMethod yX1_weightOnward, Cond.selects RX1 yX1_weightOnward yX1_weightOnward, Cond.code yX1_weightOnward cX1_weightOnward 4 (some .long), Cond.methodLink RX1 59 yX1_shown, Cond.instanceMethod yX1_shown, Cond.selects RX1 yX1_shown yX1_shown, Cond.code yX1_shown cX1_shown 4 (some .int), Cond.methodLink RX1 73 yX1_bestStart, Cond.instanceMethod yX1_bestStart, Cond.selects RX1 yX1_bestStart yX1_bestStart]
def wsL_law0_r23 : List Cond := [Cond.code yX1_bestStart cX1_bestStart 3 (some .int), Cond.methodLink RX5 168 yX1_stateOnBestPath, Cond.instanceMethod yX1_stateOnBestPath, Cond.selects RX1 yX1_stateOnBestPath yX1_stateOnBestPath, Cond.code yX1_stateOnBestPath cX1_stateOnBestPath 2 (some .int), Cond.methodLink RL 95 yX6_path, Cond.instanceMethod yX6_path, Cond.selects RX6 yX6_path yX6_path, Cond.code yX6_path cX6_path 4 (some .int), Cond.methodLink RX6 177 yX6_bestPathOf, Cond.instanceMethod yX6_bestPathOf, Cond.selects RX6 yX6_bestPathOf yX6_bestPathOf, Cond.code yX6_bestPathOf cX6_bestPathOf 8 (some .int), Cond.methodLink RX6 171 yX6_paths, Cond.instanceMethod yX6_paths, Cond.selects RX6 yX6_paths yX6_paths, Cond.code yX6_paths cX6_paths 2 (some .int), Cond.methodLink RX6 174 yX6_weighPath, Cond.instanceMethod yX6_weighPath, Cond.selects RX6 yX6_weighPath yX6_weighPath, Cond.code yX6_weighPath cX6_weighPath 7 (some .long), Cond.methodLink RX6 167 yX6_stateOf, Cond.instanceMethod yX6_stateOf, Cond.selects RX6 yX6_stateOf yX6_stateOf]
def wsL_law0_r24 : List Cond := [Cond.code yX6_stateOf cX6_stateOf 4 (some .int), Cond.methodLink RL 96 yX5_total, Cond.instanceMethod yX5_total, Cond.selects RX5 yX5_total yX5_total, Cond.code yX5_total cX5_total 2 (some .long), Cond.methodLink RX5 171 yX1_totalOf, Cond.instanceMethod yX1_totalOf, Cond.selects RX1 yX1_totalOf yX1_totalOf, Cond.code yX1_totalOf cX1_totalOf 2 (some .long), Cond.methodLink RX1 55 yX1_totalThrough, Cond.instanceMethod yX1_totalThrough, Cond.selects RX1 yX1_totalThrough yX1_totalThrough, Cond.code yX1_totalThrough cX1_totalThrough 7 (some .long), Cond.methodLink RX1 63 yX1_sumInto, Cond.instanceMethod yX1_sumInto, Cond.selects RX1 yX1_sumInto yX1_sumInto, Cond.code yX1_sumInto cX1_sumInto 5 (some .long), Cond.methodLink RL 100 yX6_total, Cond.instanceMethod yX6_total, Cond.selects RX6 yX6_total yX6_total, Cond.code yX6_total cX6_total 2 (some .long), Cond.methodLink RX6 180 yX6_sum, Cond.instanceMethod yX6_sum, Cond.selects RX6 yX6_sum yX6_sum]
def wsL_law0_r25 : List Cond := [Cond.code yX6_sum cX6_sum 7 (some .long), Cond.methodLink RL 101 yL_at, Cond.static yL_at, Cond.codeWith yL_at cL_at 7 (some .int) [(0, 13, 16, 13)], Cond.methodLink RL 15 yX5_at, Cond.instanceMethod yX5_at, Cond.selects RX5 yX5_at yX5_at, Cond.code yX5_at cX5_at 7 (some .long), Cond.methodLink RX5 174 yX1_isState, Cond.methodLink RX5 179 yX1_totalThrough, Cond.methodLink RL 104 yX6_at, Cond.instanceMethod yX6_at, Cond.selects RX6 yX6_at yX6_at, Cond.code yX6_at cX6_at 7 (some .long), Cond.methodLink RL 105 yX5_learn, Cond.instanceMethod yX5_learn, Cond.selects RX5 yX5_learn yX5_learn, Cond.code yX5_learn cX5_learn 4 (some .int), Cond.methodLink RX5 183 yX1_weighAnew, Cond.instanceMethod yX1_weighAnew, Cond.selects RX1 yX1_weighAnew yX1_weighAnew, Cond.code yX1_weighAnew cX1_weighAnew 3 (some .boolean), Cond.methodLink RX1 77 yX1_findBestPath, Cond.methodLink RX1 80 yX1_countBestPath]
def wsL_law0_r26 : List Cond := [Cond.instanceMethod yX1_countBestPath, Cond.selects RX1 yX1_countBestPath yX1_countBestPath, Cond.code yX1_countBestPath cX1_countBestPath 3 none, Cond.methodLink RL 108 yX6_learn, Cond.instanceMethod yX6_learn, Cond.selects RX6 yX6_learn yX6_learn, Cond.code yX6_learn cX6_learn 3 (some .int), Cond.methodLink RX6 187 yX6_learnt, Cond.instanceMethod yX6_learnt, Cond.selects RX6 yX6_learnt yX6_learnt, Cond.code yX6_learnt cX6_learnt 3 (some .boolean), Cond.methodLink RX6 184 yX6_countPath, Cond.instanceMethod yX6_countPath, Cond.selects RX6 yX6_countPath yX6_countPath, Cond.code yX6_countPath cX6_countPath 5 none, Cond.methodLink RL 109 yX5_rule, Cond.instanceMethod yX5_rule, Cond.selects RX5 yX5_rule yX5_rule, Cond.code yX5_rule cX5_rule 3 (some .int), Cond.methodLink RX5 186 yX4_gather, Cond.instanceMethod yX4_gather, Cond.selects RX4 yX4_gather yX4_gather, Cond.code yX4_gather cX4_gather 3 none, Cond.methodLink RX4 35 yX2_size]
def wsL_law0_r27 : List Cond := [Cond.instanceMethod yX2_size, Cond.selects RX2 yX2_size yX2_size, Cond.code yX2_size cX2_size 1 (some .int), Cond.methodLink RX4 41 yX2_wordSet, Cond.instanceMethod yX2_wordSet, Cond.selects RX2 yX2_wordSet yX2_wordSet, Cond.code yX2_wordSet cX2_wordSet 4 (some .int), Cond.methodLink RX4 45 yX4_countSet, Cond.instanceMethod yX4_countSet, Cond.selects RX4 yX4_countSet yX4_countSet, Cond.code yX4_countSet cX4_countSet 3 none, Cond.methodLink RX4 55 yX4_countPairs, Cond.instanceMethod yX4_countPairs, Cond.selects RX4 yX4_countPairs yX4_countPairs, Cond.code yX4_countPairs cX4_countPairs 4 none, Cond.methodLink RX4 49 yX4_keyOf, Cond.instanceMethod yX4_keyOf, Cond.selects RX4 yX4_keyOf yX4_keyOf, Cond.code yX4_keyOf cX4_keyOf 3 (some .int), Cond.methodLink RX4 52 yX4_insert, Cond.instanceMethod yX4_insert, Cond.selects RX4 yX4_insert yX4_insert, Cond.code yX4_insert cX4_insert 3 none, Cond.methodLink RX5 190 yX4_has]
def wsL_law0_r28 : List Cond := [Cond.instanceMethod yX4_has, Cond.selects RX4 yX4_has yX4_has, Cond.code yX4_has cX4_has 2 (some .boolean), Cond.methodLink RX5 191 yX4_partOf, Cond.instanceMethod yX4_partOf, Cond.selects RX4 yX4_partOf yX4_partOf, Cond.code yX4_partOf cX4_partOf 5 (some .int), Cond.methodLink RX4 25 yX0_sideOf, Cond.methodLink RL 112 yX6_rule, Cond.instanceMethod yX6_rule, Cond.selects RX6 yX6_rule yX6_rule, Cond.code yX6_rule cX6_rule 5 (some .int), Cond.methodLink RX6 202 yX6_rules, Cond.instanceMethod yX6_rules, Cond.selects RX6 yX6_rules yX6_rules, Cond.code yX6_rules cX6_rules 3 (some .int), Cond.methodLink RX6 196 yX6_isRule, Cond.instanceMethod yX6_isRule, Cond.selects RX6 yX6_isRule yX6_isRule, Cond.code yX6_isRule cX6_isRule 2 (some .boolean), Cond.methodLink RX6 193 yX6_support, Cond.instanceMethod yX6_support, Cond.selects RX6 yX6_support yX6_support, Cond.code yX6_support cX6_support 5 (some .int)]
def wsL_law0_r29 : List Cond := [Cond.methodLink RX6 190 yX6_has, Cond.instanceMethod yX6_has, Cond.selects RX6 yX6_has yX6_has, Cond.code yX6_has cX6_has 5 (some .boolean), Cond.methodLink RX6 206 yX6_ruleAt, Cond.instanceMethod yX6_ruleAt, Cond.selects RX6 yX6_ruleAt yX6_ruleAt, Cond.code yX6_ruleAt cX6_ruleAt 5 (some .int), Cond.methodLink RX6 199 yX6_isAhead, Cond.instanceMethod yX6_isAhead, Cond.selects RX6 yX6_isAhead yX6_isAhead, Cond.code yX6_isAhead cX6_isAhead 7 (some .boolean), Cond.methodLink RL 113 yX5_count, Cond.instanceMethod yX5_count, Cond.selects RX5 yX5_count yX5_count, Cond.code yX5_count cX5_count 2 (some .int), Cond.methodLink RX5 194 yX2_size, Cond.methodLink RX5 197 yX2_labelledRows, Cond.instanceMethod yX2_labelledRows, Cond.selects RX2 yX2_labelledRows yX2_labelledRows, Cond.code yX2_labelledRows cX2_labelledRows 3 (some .int), Cond.methodLink RX5 200 yX3_length, Cond.instanceMethod yX3_length, Cond.selects RX3 yX3_length yX3_length]
def wsL_law0_r30 : List Cond := [Cond.code yX3_length cX3_length 1 (some .int), Cond.methodLink RX5 203 yX4_size, Cond.instanceMethod yX4_size, Cond.selects RX4 yX4_size yX4_size, Cond.code yX4_size cX4_size 1 (some .int), Cond.methodLink RX5 204 yX1_signsOfAll, Cond.instanceMethod yX1_signsOfAll, Cond.selects RX1 yX1_signsOfAll yX1_signsOfAll, Cond.code yX1_signsOfAll cX1_signsOfAll 3 (some .int), Cond.methodLink RL 116 yX6_count_, Cond.instanceMethod yX6_count_, Cond.selects RX6 yX6_count_ yX6_count_, Cond.code yX6_count_ cX6_count_ 4 (some .int)]
end
section
set_option maxRecDepth 20000 in
theorem ggX0_sideOf_X0_commonDivisor : GoodIn wsX0_sideOf wsX0_commonDivisor := goodIn_r _ [4] (by decide +kernel) (by decide +kernel)
set_option maxRecDepth 20000 in
theorem gX0_sideOf_X0_commonDivisor : GoodIn wsX0_sideOf (va_wsS RX0 7 yX0_commonDivisor wsX0_commonDivisor) := goodIn_app (goodIn_of _ (by decide +kernel)) ggX0_sideOf_X0_commonDivisor
theorem dX0_sideOf_0 : decode cX0_sideOf 0 = .ok (.lload_n 0, 1) := by decide +kernel
theorem dX0_sideOf_1 : decode cX0_sideOf 1 = .ok (.lconst 0, 1) := by decide +kernel
theorem dX0_sideOf_2 : decode cX0_sideOf 2 = .ok (.lcmp, 1) := by decide +kernel
theorem dX0_sideOf_3 : decode cX0_sideOf 3 = .ok (.ifCond .le 9, 3) := by decide +kernel
theorem dX0_sideOf_6 : decode cX0_sideOf 6 = .ok (.lload_n 2, 1) := by decide +kernel
theorem dX0_sideOf_7 : decode cX0_sideOf 7 = .ok (.lconst 0, 1) := by decide +kernel
theorem dX0_sideOf_8 : decode cX0_sideOf 8 = .ok (.lcmp, 1) := by decide +kernel
theorem dX0_sideOf_9 : decode cX0_sideOf 9 = .ok (.ifCond .gt 14, 3) := by decide +kernel
theorem dX0_sideOf_12 : decode cX0_sideOf 12 = .ok (.iload 4, 2) := by decide +kernel
theorem dX0_sideOf_14 : decode cX0_sideOf 14 = .ok (.ifCond .ne 7, 3) := by decide +kernel
theorem dX0_sideOf_17 : decode cX0_sideOf 17 = .ok (.lconst 0, 1) := by decide +kernel
theorem dX0_sideOf_18 : decode cX0_sideOf 18 = .ok (.goto 4, 3) := by decide +kernel
theorem dX0_sideOf_21 : decode cX0_sideOf 21 = .ok (.lconst 1, 1) := by decide +kernel
theorem dX0_sideOf_22 : decode cX0_sideOf 22 = .ok (.lreturn, 1) := by decide +kernel
theorem dX0_sideOf_23 : decode cX0_sideOf 23 = .ok (.lload_n 0, 1) := by decide +kernel
theorem dX0_sideOf_24 : decode cX0_sideOf 24 = .ok (.lload_n 2, 1) := by decide +kernel
theorem dX0_sideOf_25 : decode cX0_sideOf 25 = .ok (.invokestatic 7, 3) := by decide +kernel
theorem dX0_sideOf_28 : decode cX0_sideOf 28 = .ok (.lstore 5, 2) := by decide +kernel
theorem dX0_sideOf_30 : decode cX0_sideOf 30 = .ok (.lload 5, 2) := by decide +kernel
theorem dX0_sideOf_32 : decode cX0_sideOf 32 = .ok (.lconst 0, 1) := by decide +kernel
theorem dX0_sideOf_33 : decode cX0_sideOf 33 = .ok (.lcmp, 1) := by decide +kernel
theorem dX0_sideOf_34 : decode cX0_sideOf 34 = .ok (.ifCond .gt 14, 3) := by decide +kernel
theorem dX0_sideOf_37 : decode cX0_sideOf 37 = .ok (.iload 4, 2) := by decide +kernel
theorem dX0_sideOf_39 : decode cX0_sideOf 39 = .ok (.ifCond .ne 7, 3) := by decide +kernel
theorem dX0_sideOf_42 : decode cX0_sideOf 42 = .ok (.lload_n 0, 1) := by decide +kernel
theorem dX0_sideOf_43 : decode cX0_sideOf 43 = .ok (.goto 4, 3) := by decide +kernel
theorem dX0_sideOf_46 : decode cX0_sideOf 46 = .ok (.lload_n 2, 1) := by decide +kernel
theorem dX0_sideOf_47 : decode cX0_sideOf 47 = .ok (.lreturn, 1) := by decide +kernel
theorem dX0_sideOf_48 : decode cX0_sideOf 48 = .ok (.iload 4, 2) := by decide +kernel
theorem dX0_sideOf_50 : decode cX0_sideOf 50 = .ok (.ifCond .ne 7, 3) := by decide +kernel
theorem dX0_sideOf_53 : decode cX0_sideOf 53 = .ok (.lload_n 0, 1) := by decide +kernel
theorem dX0_sideOf_54 : decode cX0_sideOf 54 = .ok (.goto 4, 3) := by decide +kernel
theorem dX0_sideOf_57 : decode cX0_sideOf 57 = .ok (.lload_n 2, 1) := by decide +kernel
theorem dX0_sideOf_58 : decode cX0_sideOf 58 = .ok (.lload 5, 2) := by decide +kernel
theorem dX0_sideOf_60 : decode cX0_sideOf 60 = .ok (.ldiv, 1) := by decide +kernel
theorem dX0_sideOf_61 : decode cX0_sideOf 61 = .ok (.lreturn, 1) := by decide +kernel
theorem dX0_commonDivisor_0 : decode cX0_commonDivisor 0 = .ok (.lload_n 0, 1) := by decide +kernel
theorem dX0_commonDivisor_1 : decode cX0_commonDivisor 1 = .ok (.lstore 4, 2) := by decide +kernel
theorem dX0_commonDivisor_3 : decode cX0_commonDivisor 3 = .ok (.lload_n 2, 1) := by decide +kernel
theorem dX0_commonDivisor_4 : decode cX0_commonDivisor 4 = .ok (.lstore 6, 2) := by decide +kernel
theorem dX0_commonDivisor_6 : decode cX0_commonDivisor 6 = .ok (.iconst 0, 1) := by decide +kernel
theorem dX0_commonDivisor_7 : decode cX0_commonDivisor 7 = .ok (.istore 8, 2) := by decide +kernel
theorem dX0_commonDivisor_9 : decode cX0_commonDivisor 9 = .ok (.iload 8, 2) := by decide +kernel
theorem dX0_commonDivisor_11 : decode cX0_commonDivisor 11 = .ok (.sipush 200, 3) := by decide +kernel
theorem dX0_commonDivisor_14 : decode cX0_commonDivisor 14 = .ok (.if_icmp .ge 31, 3) := by decide +kernel
theorem dX0_commonDivisor_17 : decode cX0_commonDivisor 17 = .ok (.lload 6, 2) := by decide +kernel
theorem dX0_commonDivisor_19 : decode cX0_commonDivisor 19 = .ok (.lconst 0, 1) := by decide +kernel
theorem dX0_commonDivisor_20 : decode cX0_commonDivisor 20 = .ok (.lcmp, 1) := by decide +kernel
theorem dX0_commonDivisor_21 : decode cX0_commonDivisor 21 = .ok (.ifCond .eq 24, 3) := by decide +kernel
theorem dX0_commonDivisor_24 : decode cX0_commonDivisor 24 = .ok (.lload 4, 2) := by decide +kernel
theorem dX0_commonDivisor_26 : decode cX0_commonDivisor 26 = .ok (.lload 6, 2) := by decide +kernel
theorem dX0_commonDivisor_28 : decode cX0_commonDivisor 28 = .ok (.lrem, 1) := by decide +kernel
theorem dX0_commonDivisor_29 : decode cX0_commonDivisor 29 = .ok (.lstore 9, 2) := by decide +kernel
theorem dX0_commonDivisor_31 : decode cX0_commonDivisor 31 = .ok (.lload 6, 2) := by decide +kernel
theorem dX0_commonDivisor_33 : decode cX0_commonDivisor 33 = .ok (.lstore 4, 2) := by decide +kernel
theorem dX0_commonDivisor_35 : decode cX0_commonDivisor 35 = .ok (.lload 9, 2) := by decide +kernel
theorem dX0_commonDivisor_37 : decode cX0_commonDivisor 37 = .ok (.lstore 6, 2) := by decide +kernel
theorem dX0_commonDivisor_39 : decode cX0_commonDivisor 39 = .ok (.iinc 8 1, 3) := by decide +kernel
theorem dX0_commonDivisor_42 : decode cX0_commonDivisor 42 = .ok (.goto (-33), 3) := by decide +kernel
theorem dX0_commonDivisor_45 : decode cX0_commonDivisor 45 = .ok (.lload 4, 2) := by decide +kernel
theorem dX0_commonDivisor_47 : decode cX0_commonDivisor 47 = .ok (.lreturn, 1) := by decide +kernel
theorem dX0_isAbove_0 : decode cX0_isAbove 0 = .ok (.lload_n 0, 1) := by decide +kernel
theorem dX0_isAbove_1 : decode cX0_isAbove 1 = .ok (.lstore 8, 2) := by decide +kernel
theorem dX0_isAbove_3 : decode cX0_isAbove 3 = .ok (.lload_n 2, 1) := by decide +kernel
theorem dX0_isAbove_4 : decode cX0_isAbove 4 = .ok (.lstore 10, 2) := by decide +kernel
theorem dX0_isAbove_6 : decode cX0_isAbove 6 = .ok (.lload 4, 2) := by decide +kernel
theorem dX0_isAbove_8 : decode cX0_isAbove 8 = .ok (.lstore 12, 2) := by decide +kernel
theorem dX0_isAbove_10 : decode cX0_isAbove 10 = .ok (.lload 6, 2) := by decide +kernel
theorem dX0_isAbove_12 : decode cX0_isAbove 12 = .ok (.lstore 14, 2) := by decide +kernel
theorem dX0_isAbove_14 : decode cX0_isAbove 14 = .ok (.iconst 0, 1) := by decide +kernel
theorem dX0_isAbove_15 : decode cX0_isAbove 15 = .ok (.istore 16, 2) := by decide +kernel
theorem dX0_isAbove_17 : decode cX0_isAbove 17 = .ok (.iload 16, 2) := by decide +kernel
theorem dX0_isAbove_19 : decode cX0_isAbove 19 = .ok (.sipush 200, 3) := by decide +kernel
theorem dX0_isAbove_22 : decode cX0_isAbove 22 = .ok (.if_icmp .ge 117, 3) := by decide +kernel
theorem dX0_isAbove_25 : decode cX0_isAbove 25 = .ok (.lload 10, 2) := by decide +kernel
theorem dX0_isAbove_27 : decode cX0_isAbove 27 = .ok (.lconst 0, 1) := by decide +kernel
theorem dX0_isAbove_28 : decode cX0_isAbove 28 = .ok (.lcmp, 1) := by decide +kernel
theorem dX0_isAbove_29 : decode cX0_isAbove 29 = .ok (.ifCond .le 110, 3) := by decide +kernel
theorem dX0_isAbove_32 : decode cX0_isAbove 32 = .ok (.lload 14, 2) := by decide +kernel
theorem dX0_isAbove_34 : decode cX0_isAbove 34 = .ok (.lconst 0, 1) := by decide +kernel
theorem dX0_isAbove_35 : decode cX0_isAbove 35 = .ok (.lcmp, 1) := by decide +kernel
theorem dX0_isAbove_36 : decode cX0_isAbove 36 = .ok (.ifCond .le 103, 3) := by decide +kernel
theorem dX0_isAbove_39 : decode cX0_isAbove 39 = .ok (.lload 8, 2) := by decide +kernel
theorem dX0_isAbove_41 : decode cX0_isAbove 41 = .ok (.lload 10, 2) := by decide +kernel
theorem dX0_isAbove_43 : decode cX0_isAbove 43 = .ok (.ldiv, 1) := by decide +kernel
theorem dX0_isAbove_44 : decode cX0_isAbove 44 = .ok (.lstore 17, 2) := by decide +kernel
theorem dX0_isAbove_46 : decode cX0_isAbove 46 = .ok (.lload 12, 2) := by decide +kernel
theorem dX0_isAbove_48 : decode cX0_isAbove 48 = .ok (.lload 14, 2) := by decide +kernel
theorem dX0_isAbove_50 : decode cX0_isAbove 50 = .ok (.ldiv, 1) := by decide +kernel
theorem dX0_isAbove_51 : decode cX0_isAbove 51 = .ok (.lstore 19, 2) := by decide +kernel
theorem dX0_isAbove_53 : decode cX0_isAbove 53 = .ok (.lload 17, 2) := by decide +kernel
theorem dX0_isAbove_55 : decode cX0_isAbove 55 = .ok (.lload 19, 2) := by decide +kernel
theorem dX0_isAbove_57 : decode cX0_isAbove 57 = .ok (.lcmp, 1) := by decide +kernel
theorem dX0_isAbove_58 : decode cX0_isAbove 58 = .ok (.ifCond .eq 17, 3) := by decide +kernel
theorem dX0_isAbove_61 : decode cX0_isAbove 61 = .ok (.lload 17, 2) := by decide +kernel
theorem dX0_isAbove_63 : decode cX0_isAbove 63 = .ok (.lload 19, 2) := by decide +kernel
theorem dX0_isAbove_65 : decode cX0_isAbove 65 = .ok (.lcmp, 1) := by decide +kernel
theorem dX0_isAbove_66 : decode cX0_isAbove 66 = .ok (.ifCond .le 7, 3) := by decide +kernel
theorem dX0_isAbove_69 : decode cX0_isAbove 69 = .ok (.iconst 1, 1) := by decide +kernel
theorem dX0_isAbove_70 : decode cX0_isAbove 70 = .ok (.goto 4, 3) := by decide +kernel
theorem dX0_isAbove_73 : decode cX0_isAbove 73 = .ok (.iconst 0, 1) := by decide +kernel
theorem dX0_isAbove_74 : decode cX0_isAbove 74 = .ok (.ireturn, 1) := by decide +kernel
theorem dX0_isAbove_75 : decode cX0_isAbove 75 = .ok (.lload 8, 2) := by decide +kernel
theorem dX0_isAbove_77 : decode cX0_isAbove 77 = .ok (.lload 10, 2) := by decide +kernel
theorem dX0_isAbove_79 : decode cX0_isAbove 79 = .ok (.lrem, 1) := by decide +kernel
theorem dX0_isAbove_80 : decode cX0_isAbove 80 = .ok (.lstore 21, 2) := by decide +kernel
theorem dX0_isAbove_82 : decode cX0_isAbove 82 = .ok (.lload 12, 2) := by decide +kernel
theorem dX0_isAbove_84 : decode cX0_isAbove 84 = .ok (.lload 14, 2) := by decide +kernel
theorem dX0_isAbove_86 : decode cX0_isAbove 86 = .ok (.lrem, 1) := by decide +kernel
theorem dX0_isAbove_87 : decode cX0_isAbove 87 = .ok (.lstore 23, 2) := by decide +kernel
theorem dX0_isAbove_89 : decode cX0_isAbove 89 = .ok (.lload 21, 2) := by decide +kernel
theorem dX0_isAbove_91 : decode cX0_isAbove 91 = .ok (.lconst 0, 1) := by decide +kernel
theorem dX0_isAbove_92 : decode cX0_isAbove 92 = .ok (.lcmp, 1) := by decide +kernel
theorem dX0_isAbove_93 : decode cX0_isAbove 93 = .ok (.ifCond .eq 10, 3) := by decide +kernel
theorem dX0_isAbove_96 : decode cX0_isAbove 96 = .ok (.lload 23, 2) := by decide +kernel
theorem dX0_isAbove_98 : decode cX0_isAbove 98 = .ok (.lconst 0, 1) := by decide +kernel
theorem dX0_isAbove_99 : decode cX0_isAbove 99 = .ok (.lcmp, 1) := by decide +kernel
theorem dX0_isAbove_100 : decode cX0_isAbove 100 = .ok (.ifCond .ne 17, 3) := by decide +kernel
theorem dX0_isAbove_103 : decode cX0_isAbove 103 = .ok (.lload 21, 2) := by decide +kernel
theorem dX0_isAbove_105 : decode cX0_isAbove 105 = .ok (.lload 23, 2) := by decide +kernel
theorem dX0_isAbove_107 : decode cX0_isAbove 107 = .ok (.lcmp, 1) := by decide +kernel
theorem dX0_isAbove_108 : decode cX0_isAbove 108 = .ok (.ifCond .le 7, 3) := by decide +kernel
theorem dX0_isAbove_111 : decode cX0_isAbove 111 = .ok (.iconst 1, 1) := by decide +kernel
theorem dX0_isAbove_112 : decode cX0_isAbove 112 = .ok (.goto 4, 3) := by decide +kernel
theorem dX0_isAbove_115 : decode cX0_isAbove 115 = .ok (.iconst 0, 1) := by decide +kernel
theorem dX0_isAbove_116 : decode cX0_isAbove 116 = .ok (.ireturn, 1) := by decide +kernel
theorem dX0_isAbove_117 : decode cX0_isAbove 117 = .ok (.lload 14, 2) := by decide +kernel
theorem dX0_isAbove_119 : decode cX0_isAbove 119 = .ok (.lstore 8, 2) := by decide +kernel
theorem dX0_isAbove_121 : decode cX0_isAbove 121 = .ok (.lload 10, 2) := by decide +kernel
theorem dX0_isAbove_123 : decode cX0_isAbove 123 = .ok (.lstore 12, 2) := by decide +kernel
theorem dX0_isAbove_125 : decode cX0_isAbove 125 = .ok (.lload 23, 2) := by decide +kernel
theorem dX0_isAbove_127 : decode cX0_isAbove 127 = .ok (.lstore 10, 2) := by decide +kernel
theorem dX0_isAbove_129 : decode cX0_isAbove 129 = .ok (.lload 21, 2) := by decide +kernel
theorem dX0_isAbove_131 : decode cX0_isAbove 131 = .ok (.lstore 14, 2) := by decide +kernel
theorem dX0_isAbove_133 : decode cX0_isAbove 133 = .ok (.iinc 16 1, 3) := by decide +kernel
theorem dX0_isAbove_136 : decode cX0_isAbove 136 = .ok (.goto (-119), 3) := by decide +kernel
theorem dX0_isAbove_139 : decode cX0_isAbove 139 = .ok (.iconst 0, 1) := by decide +kernel
theorem dX0_isAbove_140 : decode cX0_isAbove 140 = .ok (.ireturn, 1) := by decide +kernel
set_option maxRecDepth 20000 in
theorem ggX1_init_X5_setAll : GoodIn wsX1_init wsX5_setAll := goodIn_r _ [16] (by decide +kernel) (by decide +kernel)
set_option maxRecDepth 20000 in
theorem gX1_init_X5_setAll_n37 : GoodIn wsX1_init (wsX5_setAll) := ggX1_init_X5_setAll
theorem dX1_init_0 : decode cX1_init 0 = .ok (.aload_n 0, 1) := by decide +kernel
theorem dX1_init_1 : decode cX1_init 1 = .ok (.invokespecial 5, 3) := by decide +kernel
theorem dX1_init_4 : decode cX1_init 4 = .ok (.aload_n 0, 1) := by decide +kernel
theorem dX1_init_5 : decode cX1_init 5 = .ok (.bipush 36, 2) := by decide +kernel
theorem dX1_init_7 : decode cX1_init 7 = .ok (.newarray .int, 2) := by decide +kernel
theorem dX1_init_9 : decode cX1_init 9 = .ok (.putfield 11, 3) := by decide +kernel
theorem dX1_init_12 : decode cX1_init 12 = .ok (.aload_n 0, 1) := by decide +kernel
theorem dX1_init_13 : decode cX1_init 13 = .ok (.bipush 36, 2) := by decide +kernel
theorem dX1_init_15 : decode cX1_init 15 = .ok (.newarray .int, 2) := by decide +kernel
theorem dX1_init_17 : decode cX1_init 17 = .ok (.putfield 15, 3) := by decide +kernel
theorem dX1_init_20 : decode cX1_init 20 = .ok (.aload_n 0, 1) := by decide +kernel
theorem dX1_init_21 : decode cX1_init 21 = .ok (.bipush 20, 2) := by decide +kernel
theorem dX1_init_23 : decode cX1_init 23 = .ok (.newarray .int, 2) := by decide +kernel
theorem dX1_init_25 : decode cX1_init 25 = .ok (.putfield 18, 3) := by decide +kernel
theorem dX1_init_28 : decode cX1_init 28 = .ok (.aload_n 0, 1) := by decide +kernel
theorem dX1_init_29 : decode cX1_init 29 = .ok (.iconst 4, 1) := by decide +kernel
theorem dX1_init_30 : decode cX1_init 30 = .ok (.newarray .int, 2) := by decide +kernel
theorem dX1_init_32 : decode cX1_init 32 = .ok (.putfield 21, 3) := by decide +kernel
theorem dX1_init_35 : decode cX1_init 35 = .ok (.aload_n 0, 1) := by decide +kernel
theorem dX1_init_36 : decode cX1_init 36 = .ok (.iconst 4, 1) := by decide +kernel
theorem dX1_init_37 : decode cX1_init 37 = .ok (.newarray .long, 2) := by decide +kernel
theorem dX1_init_39 : decode cX1_init 39 = .ok (.putfield 24, 3) := by decide +kernel
theorem dX1_init_42 : decode cX1_init 42 = .ok (.aload_n 0, 1) := by decide +kernel
theorem dX1_init_43 : decode cX1_init 43 = .ok (.iconst 4, 1) := by decide +kernel
theorem dX1_init_44 : decode cX1_init 44 = .ok (.newarray .long, 2) := by decide +kernel
theorem dX1_init_46 : decode cX1_init 46 = .ok (.putfield 28, 3) := by decide +kernel
theorem dX1_init_49 : decode cX1_init 49 = .ok (.aload_n 0, 1) := by decide +kernel
theorem dX1_init_50 : decode cX1_init 50 = .ok (.bipush 20, 2) := by decide +kernel
theorem dX1_init_52 : decode cX1_init 52 = .ok (.newarray .long, 2) := by decide +kernel
theorem dX1_init_54 : decode cX1_init 54 = .ok (.putfield 31, 3) := by decide +kernel
theorem dX1_init_57 : decode cX1_init 57 = .ok (.aload_n 0, 1) := by decide +kernel
theorem dX1_init_58 : decode cX1_init 58 = .ok (.iconst 5, 1) := by decide +kernel
theorem dX1_init_59 : decode cX1_init 59 = .ok (.newarray .int, 2) := by decide +kernel
theorem dX1_init_61 : decode cX1_init 61 = .ok (.putfield 34, 3) := by decide +kernel
theorem dX1_init_64 : decode cX1_init 64 = .ok (.aload_n 0, 1) := by decide +kernel
theorem dX1_init_65 : decode cX1_init 65 = .ok (.getfield 11, 3) := by decide +kernel
theorem dX1_init_68 : decode cX1_init 68 = .ok (.iconst 1, 1) := by decide +kernel
theorem dX1_init_69 : decode cX1_init 69 = .ok (.invokestatic 37, 3) := by decide +kernel
theorem dX1_init_72 : decode cX1_init 72 = .ok (.return_, 1) := by decide +kernel
theorem dX1_isRow_0 : decode cX1_isRow 0 = .ok (.iload_n 0, 1) := by decide +kernel
theorem dX1_isRow_1 : decode cX1_isRow 1 = .ok (.ifCond .lt 12, 3) := by decide +kernel
theorem dX1_isRow_4 : decode cX1_isRow 4 = .ok (.iload_n 0, 1) := by decide +kernel
theorem dX1_isRow_5 : decode cX1_isRow 5 = .ok (.iconst 4, 1) := by decide +kernel
theorem dX1_isRow_6 : decode cX1_isRow 6 = .ok (.if_icmp .ge 7, 3) := by decide +kernel
theorem dX1_isRow_9 : decode cX1_isRow 9 = .ok (.iconst 1, 1) := by decide +kernel
theorem dX1_isRow_10 : decode cX1_isRow 10 = .ok (.goto 4, 3) := by decide +kernel
theorem dX1_isRow_13 : decode cX1_isRow 13 = .ok (.iconst 0, 1) := by decide +kernel
theorem dX1_isRow_14 : decode cX1_isRow 14 = .ok (.ireturn, 1) := by decide +kernel
theorem dX1_isSign_0 : decode cX1_isSign 0 = .ok (.iload_n 0, 1) := by decide +kernel
theorem dX1_isSign_1 : decode cX1_isSign 1 = .ok (.ifCond .lt 12, 3) := by decide +kernel
theorem dX1_isSign_4 : decode cX1_isSign 4 = .ok (.iload_n 0, 1) := by decide +kernel
theorem dX1_isSign_5 : decode cX1_isSign 5 = .ok (.iconst 4, 1) := by decide +kernel
theorem dX1_isSign_6 : decode cX1_isSign 6 = .ok (.if_icmp .ge 7, 3) := by decide +kernel
theorem dX1_isSign_9 : decode cX1_isSign 9 = .ok (.iconst 1, 1) := by decide +kernel
theorem dX1_isSign_10 : decode cX1_isSign 10 = .ok (.goto 4, 3) := by decide +kernel
theorem dX1_isSign_13 : decode cX1_isSign 13 = .ok (.iconst 0, 1) := by decide +kernel
theorem dX1_isSign_14 : decode cX1_isSign 14 = .ok (.ireturn, 1) := by decide +kernel
theorem dX1_isState_0 : decode cX1_isState 0 = .ok (.iload_n 0, 1) := by decide +kernel
theorem dX1_isState_1 : decode cX1_isState 1 = .ok (.ifCond .lt 12, 3) := by decide +kernel
theorem dX1_isState_4 : decode cX1_isState 4 = .ok (.iload_n 0, 1) := by decide +kernel
theorem dX1_isState_5 : decode cX1_isState 5 = .ok (.iconst 4, 1) := by decide +kernel
theorem dX1_isState_6 : decode cX1_isState 6 = .ok (.if_icmp .ge 7, 3) := by decide +kernel
theorem dX1_isState_9 : decode cX1_isState 9 = .ok (.iconst 1, 1) := by decide +kernel
theorem dX1_isState_10 : decode cX1_isState 10 = .ok (.goto 4, 3) := by decide +kernel
theorem dX1_isState_13 : decode cX1_isState 13 = .ok (.iconst 0, 1) := by decide +kernel
theorem dX1_isState_14 : decode cX1_isState 14 = .ok (.ireturn, 1) := by decide +kernel
set_option maxRecDepth 20000 in
theorem ggX1_placeOf_X1_isState : GoodIn wsX1_placeOf wsX1_isState := goodIn_r _ [4] (by decide +kernel) (by decide +kernel)
set_option maxRecDepth 20000 in
theorem gX1_placeOf_X1_isState : GoodIn wsX1_placeOf (va_wsS RX1 41 yX1_isState wsX1_isState) := goodIn_app (goodIn_of _ (by decide +kernel)) ggX1_placeOf_X1_isState
set_option maxRecDepth 20000 in
theorem ggX1_placeOf_X1_moveAt : GoodIn wsX1_placeOf wsX1_moveAt := goodIn_r _ [7] (by decide +kernel) (by decide +kernel)
set_option maxRecDepth 20000 in
theorem gX1_placeOf_X1_moveAt : GoodIn wsX1_placeOf (va_wsS RX1 45 yX1_moveAt wsX1_moveAt) := goodIn_app (goodIn_of _ (by decide +kernel)) ggX1_placeOf_X1_moveAt
set_option maxRecDepth 20000 in
theorem ggX1_placeOf_X1_isSign : GoodIn wsX1_placeOf wsX1_isSign := goodIn_r _ [10] (by decide +kernel) (by decide +kernel)
set_option maxRecDepth 20000 in
theorem gX1_placeOf_X1_isSign : GoodIn wsX1_placeOf (va_wsS RX1 49 yX1_isSign wsX1_isSign) := goodIn_app (goodIn_of _ (by decide +kernel)) ggX1_placeOf_X1_isSign
set_option maxRecDepth 20000 in
theorem ggX1_placeOf_X1_showAt : GoodIn wsX1_placeOf wsX1_showAt := goodIn_r _ [13] (by decide +kernel) (by decide +kernel)
set_option maxRecDepth 20000 in
theorem gX1_placeOf_X1_showAt : GoodIn wsX1_placeOf (va_wsS RX1 52 yX1_showAt wsX1_showAt) := goodIn_app (goodIn_of _ (by decide +kernel)) ggX1_placeOf_X1_showAt
theorem dX1_placeOf_0 : decode cX1_placeOf 0 = .ok (.iload_n 1, 1) := by decide +kernel
theorem dX1_placeOf_1 : decode cX1_placeOf 1 = .ok (.invokestatic 41, 3) := by decide +kernel
theorem dX1_placeOf_4 : decode cX1_placeOf 4 = .ok (.ifCond .ne 5, 3) := by decide +kernel
theorem dX1_placeOf_7 : decode cX1_placeOf 7 = .ok (.iconst (-1), 1) := by decide +kernel
theorem dX1_placeOf_8 : decode cX1_placeOf 8 = .ok (.ireturn, 1) := by decide +kernel
theorem dX1_placeOf_9 : decode cX1_placeOf 9 = .ok (.iload_n 0, 1) := by decide +kernel
theorem dX1_placeOf_10 : decode cX1_placeOf 10 = .ok (.ifCond .ne 5, 3) := by decide +kernel
theorem dX1_placeOf_13 : decode cX1_placeOf 13 = .ok (.iload_n 1, 1) := by decide +kernel
theorem dX1_placeOf_14 : decode cX1_placeOf 14 = .ok (.ireturn, 1) := by decide +kernel
theorem dX1_placeOf_15 : decode cX1_placeOf 15 = .ok (.iload_n 0, 1) := by decide +kernel
theorem dX1_placeOf_16 : decode cX1_placeOf 16 = .ok (.iconst 1, 1) := by decide +kernel
theorem dX1_placeOf_17 : decode cX1_placeOf 17 = .ok (.if_icmp .ne 16, 3) := by decide +kernel
theorem dX1_placeOf_20 : decode cX1_placeOf 20 = .ok (.iload_n 2, 1) := by decide +kernel
theorem dX1_placeOf_21 : decode cX1_placeOf 21 = .ok (.invokestatic 41, 3) := by decide +kernel
theorem dX1_placeOf_24 : decode cX1_placeOf 24 = .ok (.ifCond .eq 9, 3) := by decide +kernel
theorem dX1_placeOf_27 : decode cX1_placeOf 27 = .ok (.iload_n 1, 1) := by decide +kernel
theorem dX1_placeOf_28 : decode cX1_placeOf 28 = .ok (.iload_n 2, 1) := by decide +kernel
theorem dX1_placeOf_29 : decode cX1_placeOf 29 = .ok (.invokestatic 45, 3) := by decide +kernel
theorem dX1_placeOf_32 : decode cX1_placeOf 32 = .ok (.ireturn, 1) := by decide +kernel
theorem dX1_placeOf_33 : decode cX1_placeOf 33 = .ok (.iload_n 0, 1) := by decide +kernel
theorem dX1_placeOf_34 : decode cX1_placeOf 34 = .ok (.iconst 2, 1) := by decide +kernel
theorem dX1_placeOf_35 : decode cX1_placeOf 35 = .ok (.if_icmp .ne 18, 3) := by decide +kernel
theorem dX1_placeOf_38 : decode cX1_placeOf 38 = .ok (.iload_n 2, 1) := by decide +kernel
theorem dX1_placeOf_39 : decode cX1_placeOf 39 = .ok (.invokestatic 49, 3) := by decide +kernel
theorem dX1_placeOf_42 : decode cX1_placeOf 42 = .ok (.ifCond .eq 11, 3) := by decide +kernel
theorem dX1_placeOf_45 : decode cX1_placeOf 45 = .ok (.iload_n 1, 1) := by decide +kernel
theorem dX1_placeOf_46 : decode cX1_placeOf 46 = .ok (.iload_n 2, 1) := by decide +kernel
theorem dX1_placeOf_47 : decode cX1_placeOf 47 = .ok (.invokestatic 52, 3) := by decide +kernel
theorem dX1_placeOf_50 : decode cX1_placeOf 50 = .ok (.goto 4, 3) := by decide +kernel
theorem dX1_placeOf_53 : decode cX1_placeOf 53 = .ok (.iconst (-1), 1) := by decide +kernel
theorem dX1_placeOf_54 : decode cX1_placeOf 54 = .ok (.ireturn, 1) := by decide +kernel
theorem dX1_moveAt_0 : decode cX1_moveAt 0 = .ok (.iconst 4, 1) := by decide +kernel
theorem dX1_moveAt_1 : decode cX1_moveAt 1 = .ok (.iload_n 0, 1) := by decide +kernel
theorem dX1_moveAt_2 : decode cX1_moveAt 2 = .ok (.iconst 4, 1) := by decide +kernel
theorem dX1_moveAt_3 : decode cX1_moveAt 3 = .ok (.imul, 1) := by decide +kernel
theorem dX1_moveAt_4 : decode cX1_moveAt 4 = .ok (.iadd, 1) := by decide +kernel
theorem dX1_moveAt_5 : decode cX1_moveAt 5 = .ok (.iload_n 1, 1) := by decide +kernel
theorem dX1_moveAt_6 : decode cX1_moveAt 6 = .ok (.iadd, 1) := by decide +kernel
theorem dX1_moveAt_7 : decode cX1_moveAt 7 = .ok (.ireturn, 1) := by decide +kernel
theorem dX1_showAt_0 : decode cX1_showAt 0 = .ok (.bipush 20, 2) := by decide +kernel
theorem dX1_showAt_2 : decode cX1_showAt 2 = .ok (.iload_n 0, 1) := by decide +kernel
theorem dX1_showAt_3 : decode cX1_showAt 3 = .ok (.iconst 4, 1) := by decide +kernel
theorem dX1_showAt_4 : decode cX1_showAt 4 = .ok (.imul, 1) := by decide +kernel
theorem dX1_showAt_5 : decode cX1_showAt 5 = .ok (.iadd, 1) := by decide +kernel
theorem dX1_showAt_6 : decode cX1_showAt 6 = .ok (.iload_n 1, 1) := by decide +kernel
theorem dX1_showAt_7 : decode cX1_showAt 7 = .ok (.iadd, 1) := by decide +kernel
theorem dX1_showAt_8 : decode cX1_showAt 8 = .ok (.ireturn, 1) := by decide +kernel
theorem dX1_reweigh_0 : decode cX1_reweigh 0 = .ok (.aload_n 0, 1) := by decide +kernel
theorem dX1_reweigh_1 : decode cX1_reweigh 1 = .ok (.getfield 11, 3) := by decide +kernel
theorem dX1_reweigh_4 : decode cX1_reweigh 4 = .ok (.iload_n 1, 1) := by decide +kernel
theorem dX1_reweigh_5 : decode cX1_reweigh 5 = .ok (.iaload, 1) := by decide +kernel
theorem dX1_reweigh_6 : decode cX1_reweigh 6 = .ok (.istore_n 3, 1) := by decide +kernel
theorem dX1_reweigh_7 : decode cX1_reweigh 7 = .ok (.iload_n 2, 1) := by decide +kernel
theorem dX1_reweigh_8 : decode cX1_reweigh 8 = .ok (.iconst (-1), 1) := by decide +kernel
theorem dX1_reweigh_9 : decode cX1_reweigh 9 = .ok (.if_icmp .eq 10, 3) := by decide +kernel
theorem dX1_reweigh_12 : decode cX1_reweigh 12 = .ok (.aload_n 0, 1) := by decide +kernel
theorem dX1_reweigh_13 : decode cX1_reweigh 13 = .ok (.getfield 11, 3) := by decide +kernel
theorem dX1_reweigh_16 : decode cX1_reweigh 16 = .ok (.iload_n 1, 1) := by decide +kernel
theorem dX1_reweigh_17 : decode cX1_reweigh 17 = .ok (.iload_n 2, 1) := by decide +kernel
theorem dX1_reweigh_18 : decode cX1_reweigh 18 = .ok (.iastore, 1) := by decide +kernel
theorem dX1_reweigh_19 : decode cX1_reweigh 19 = .ok (.iload_n 3, 1) := by decide +kernel
theorem dX1_reweigh_20 : decode cX1_reweigh 20 = .ok (.ireturn, 1) := by decide +kernel
theorem dX1_isFullRow_0 : decode cX1_isFullRow 0 = .ok (.aload_n 0, 1) := by decide +kernel
theorem dX1_isFullRow_1 : decode cX1_isFullRow 1 = .ok (.getfield 21, 3) := by decide +kernel
theorem dX1_isFullRow_4 : decode cX1_isFullRow 4 = .ok (.iload_n 1, 1) := by decide +kernel
theorem dX1_isFullRow_5 : decode cX1_isFullRow 5 = .ok (.iaload, 1) := by decide +kernel
theorem dX1_isFullRow_6 : decode cX1_isFullRow 6 = .ok (.iconst 5, 1) := by decide +kernel
theorem dX1_isFullRow_7 : decode cX1_isFullRow 7 = .ok (.if_icmp .lt 7, 3) := by decide +kernel
theorem dX1_isFullRow_10 : decode cX1_isFullRow 10 = .ok (.iconst 1, 1) := by decide +kernel
theorem dX1_isFullRow_11 : decode cX1_isFullRow 11 = .ok (.goto 4, 3) := by decide +kernel
theorem dX1_isFullRow_14 : decode cX1_isFullRow 14 = .ok (.iconst 0, 1) := by decide +kernel
theorem dX1_isFullRow_15 : decode cX1_isFullRow 15 = .ok (.ireturn, 1) := by decide +kernel
theorem dX1_hasPlace_0 : decode cX1_hasPlace 0 = .ok (.iload_n 2, 1) := by decide +kernel
theorem dX1_hasPlace_1 : decode cX1_hasPlace 1 = .ok (.ifCond .lt 17, 3) := by decide +kernel
theorem dX1_hasPlace_4 : decode cX1_hasPlace 4 = .ok (.iload_n 2, 1) := by decide +kernel
theorem dX1_hasPlace_5 : decode cX1_hasPlace 5 = .ok (.aload_n 0, 1) := by decide +kernel
theorem dX1_hasPlace_6 : decode cX1_hasPlace 6 = .ok (.getfield 21, 3) := by decide +kernel
theorem dX1_hasPlace_9 : decode cX1_hasPlace 9 = .ok (.iload_n 1, 1) := by decide +kernel
theorem dX1_hasPlace_10 : decode cX1_hasPlace 10 = .ok (.iaload, 1) := by decide +kernel
theorem dX1_hasPlace_11 : decode cX1_hasPlace 11 = .ok (.if_icmp .ge 7, 3) := by decide +kernel
theorem dX1_hasPlace_14 : decode cX1_hasPlace 14 = .ok (.iconst 1, 1) := by decide +kernel
theorem dX1_hasPlace_15 : decode cX1_hasPlace 15 = .ok (.goto 4, 3) := by decide +kernel
theorem dX1_hasPlace_18 : decode cX1_hasPlace 18 = .ok (.iconst 0, 1) := by decide +kernel
theorem dX1_hasPlace_19 : decode cX1_hasPlace 19 = .ok (.ireturn, 1) := by decide +kernel
theorem dX1_append_0 : decode cX1_append 0 = .ok (.aload_n 0, 1) := by decide +kernel
theorem dX1_append_1 : decode cX1_append 1 = .ok (.getfield 18, 3) := by decide +kernel
theorem dX1_append_4 : decode cX1_append 4 = .ok (.iload_n 1, 1) := by decide +kernel
theorem dX1_append_5 : decode cX1_append 5 = .ok (.iconst 5, 1) := by decide +kernel
theorem dX1_append_6 : decode cX1_append 6 = .ok (.imul, 1) := by decide +kernel
theorem dX1_append_7 : decode cX1_append 7 = .ok (.aload_n 0, 1) := by decide +kernel
theorem dX1_append_8 : decode cX1_append 8 = .ok (.getfield 21, 3) := by decide +kernel
theorem dX1_append_11 : decode cX1_append 11 = .ok (.iload_n 1, 1) := by decide +kernel
theorem dX1_append_12 : decode cX1_append 12 = .ok (.iaload, 1) := by decide +kernel
theorem dX1_append_13 : decode cX1_append 13 = .ok (.iadd, 1) := by decide +kernel
theorem dX1_append_14 : decode cX1_append 14 = .ok (.iload_n 2, 1) := by decide +kernel
theorem dX1_append_15 : decode cX1_append 15 = .ok (.iastore, 1) := by decide +kernel
theorem dX1_append_16 : decode cX1_append 16 = .ok (.aload_n 0, 1) := by decide +kernel
theorem dX1_append_17 : decode cX1_append 17 = .ok (.getfield 21, 3) := by decide +kernel
theorem dX1_append_20 : decode cX1_append 20 = .ok (.iload_n 1, 1) := by decide +kernel
theorem dX1_append_21 : decode cX1_append 21 = .ok (.dup2, 1) := by decide +kernel
theorem dX1_append_22 : decode cX1_append 22 = .ok (.iaload, 1) := by decide +kernel
theorem dX1_append_23 : decode cX1_append 23 = .ok (.iconst 1, 1) := by decide +kernel
theorem dX1_append_24 : decode cX1_append 24 = .ok (.iadd, 1) := by decide +kernel
theorem dX1_append_25 : decode cX1_append 25 = .ok (.iastore, 1) := by decide +kernel
theorem dX1_append_26 : decode cX1_append 26 = .ok (.aload_n 0, 1) := by decide +kernel
theorem dX1_append_27 : decode cX1_append 27 = .ok (.getfield 21, 3) := by decide +kernel
theorem dX1_append_30 : decode cX1_append 30 = .ok (.iload_n 1, 1) := by decide +kernel
theorem dX1_append_31 : decode cX1_append 31 = .ok (.iaload, 1) := by decide +kernel
theorem dX1_append_32 : decode cX1_append 32 = .ok (.ireturn, 1) := by decide +kernel
theorem dX1_signsOfAll_0 : decode cX1_signsOfAll 0 = .ok (.iconst 0, 1) := by decide +kernel
theorem dX1_signsOfAll_1 : decode cX1_signsOfAll 1 = .ok (.istore_n 1, 1) := by decide +kernel
theorem dX1_signsOfAll_2 : decode cX1_signsOfAll 2 = .ok (.iconst 0, 1) := by decide +kernel
theorem dX1_signsOfAll_3 : decode cX1_signsOfAll 3 = .ok (.istore_n 2, 1) := by decide +kernel
theorem dX1_signsOfAll_4 : decode cX1_signsOfAll 4 = .ok (.iload_n 2, 1) := by decide +kernel
theorem dX1_signsOfAll_5 : decode cX1_signsOfAll 5 = .ok (.iconst 4, 1) := by decide +kernel
theorem dX1_signsOfAll_6 : decode cX1_signsOfAll 6 = .ok (.if_icmp .ge 18, 3) := by decide +kernel
theorem dX1_signsOfAll_9 : decode cX1_signsOfAll 9 = .ok (.iload_n 1, 1) := by decide +kernel
theorem dX1_signsOfAll_10 : decode cX1_signsOfAll 10 = .ok (.aload_n 0, 1) := by decide +kernel
theorem dX1_signsOfAll_11 : decode cX1_signsOfAll 11 = .ok (.getfield 21, 3) := by decide +kernel
theorem dX1_signsOfAll_14 : decode cX1_signsOfAll 14 = .ok (.iload_n 2, 1) := by decide +kernel
theorem dX1_signsOfAll_15 : decode cX1_signsOfAll 15 = .ok (.iaload, 1) := by decide +kernel
theorem dX1_signsOfAll_16 : decode cX1_signsOfAll 16 = .ok (.iadd, 1) := by decide +kernel
theorem dX1_signsOfAll_17 : decode cX1_signsOfAll 17 = .ok (.istore_n 1, 1) := by decide +kernel
theorem dX1_signsOfAll_18 : decode cX1_signsOfAll 18 = .ok (.iinc 2 1, 3) := by decide +kernel
theorem dX1_signsOfAll_21 : decode cX1_signsOfAll 21 = .ok (.goto (-17), 3) := by decide +kernel
theorem dX1_signsOfAll_24 : decode cX1_signsOfAll 24 = .ok (.iload_n 1, 1) := by decide +kernel
theorem dX1_signsOfAll_25 : decode cX1_signsOfAll 25 = .ok (.ireturn, 1) := by decide +kernel
set_option maxRecDepth 20000 in
theorem ggX1_totalOf_X1_totalThrough : GoodIn wsX1_totalOf wsX1_totalThrough := goodIn_r _ [5, 6, 7, 8, 9, 10, 11, 12, 4, 13, 14, 15, 16, 17, 18, 19, 20, 21, 22, 23, 24, 25, 26, 27, 28, 29, 30, 31, 32] (by decide +kernel) (by decide +kernel)
set_option maxRecDepth 20000 in
theorem gX1_totalOf_X1_totalThrough : GoodIn wsX1_totalOf (wsV RX1 55 RX1 yX1_totalThrough wsX1_totalThrough) := goodIn_app (goodIn_of _ (by decide +kernel)) ggX1_totalOf_X1_totalThrough
theorem dX1_totalOf_0 : decode cX1_totalOf 0 = .ok (.aload_n 0, 1) := by decide +kernel
theorem dX1_totalOf_1 : decode cX1_totalOf 1 = .ok (.iload_n 1, 1) := by decide +kernel
theorem dX1_totalOf_2 : decode cX1_totalOf 2 = .ok (.iconst (-1), 1) := by decide +kernel
theorem dX1_totalOf_3 : decode cX1_totalOf 3 = .ok (.iconst (-1), 1) := by decide +kernel
theorem dX1_totalOf_4 : decode cX1_totalOf 4 = .ok (.invokevirtual 55, 3) := by decide +kernel
theorem dX1_totalOf_7 : decode cX1_totalOf 7 = .ok (.lreturn, 1) := by decide +kernel
set_option maxRecDepth 20000 in
theorem ggX1_totalThrough_X1_shown : GoodIn wsX1_totalThrough wsX1_shown := goodIn_r _ [9, 3, 10, 11, 12, 8, 13, 21, 22, 23, 24, 25, 26, 27, 28] (by decide +kernel) (by decide +kernel)
set_option maxRecDepth 20000 in
theorem gX1_totalThrough_X1_shown : GoodIn wsX1_totalThrough (wsV RX1 59 RX1 yX1_shown wsX1_shown) := goodIn_app (goodIn_of _ (by decide +kernel)) ggX1_totalThrough_X1_shown
set_option maxRecDepth 20000 in
theorem ggX1_totalThrough_X1_sumInto : GoodIn wsX1_totalThrough wsX1_sumInto := goodIn_r _ [17, 2, 3, 18, 19, 8, 20, 21, 22, 23, 24, 25, 26, 27, 28] (by decide +kernel) (by decide +kernel)
set_option maxRecDepth 20000 in
theorem gX1_totalThrough_X1_sumInto : GoodIn wsX1_totalThrough (wsV RX1 63 RX1 yX1_sumInto wsX1_sumInto) := goodIn_app (goodIn_of _ (by decide +kernel)) ggX1_totalThrough_X1_sumInto
theorem dX1_totalThrough_0 : decode cX1_totalThrough 0 = .ok (.aload_n 0, 1) := by decide +kernel
theorem dX1_totalThrough_1 : decode cX1_totalThrough 1 = .ok (.getfield 21, 3) := by decide +kernel
theorem dX1_totalThrough_4 : decode cX1_totalThrough 4 = .ok (.iload_n 1, 1) := by decide +kernel
theorem dX1_totalThrough_5 : decode cX1_totalThrough 5 = .ok (.iaload, 1) := by decide +kernel
theorem dX1_totalThrough_6 : decode cX1_totalThrough 6 = .ok (.ifCond .ne 5, 3) := by decide +kernel
theorem dX1_totalThrough_9 : decode cX1_totalThrough 9 = .ok (.lconst 0, 1) := by decide +kernel
theorem dX1_totalThrough_10 : decode cX1_totalThrough 10 = .ok (.lreturn, 1) := by decide +kernel
theorem dX1_totalThrough_11 : decode cX1_totalThrough 11 = .ok (.iconst 0, 1) := by decide +kernel
theorem dX1_totalThrough_12 : decode cX1_totalThrough 12 = .ok (.istore 4, 2) := by decide +kernel
theorem dX1_totalThrough_14 : decode cX1_totalThrough 14 = .ok (.iload 4, 2) := by decide +kernel
theorem dX1_totalThrough_16 : decode cX1_totalThrough 16 = .ok (.iconst 4, 1) := by decide +kernel
theorem dX1_totalThrough_17 : decode cX1_totalThrough 17 = .ok (.if_icmp .ge 48, 3) := by decide +kernel
theorem dX1_totalThrough_20 : decode cX1_totalThrough 20 = .ok (.aload_n 0, 1) := by decide +kernel
theorem dX1_totalThrough_21 : decode cX1_totalThrough 21 = .ok (.getfield 24, 3) := by decide +kernel
theorem dX1_totalThrough_24 : decode cX1_totalThrough 24 = .ok (.iload 4, 2) := by decide +kernel
theorem dX1_totalThrough_26 : decode cX1_totalThrough 26 = .ok (.iload_n 2, 1) := by decide +kernel
theorem dX1_totalThrough_27 : decode cX1_totalThrough 27 = .ok (.ifCond .ne 13, 3) := by decide +kernel
theorem dX1_totalThrough_30 : decode cX1_totalThrough 30 = .ok (.iload 4, 2) := by decide +kernel
theorem dX1_totalThrough_32 : decode cX1_totalThrough 32 = .ok (.iload_n 3, 1) := by decide +kernel
theorem dX1_totalThrough_33 : decode cX1_totalThrough 33 = .ok (.if_icmp .eq 7, 3) := by decide +kernel
theorem dX1_totalThrough_36 : decode cX1_totalThrough 36 = .ok (.lconst 0, 1) := by decide +kernel
theorem dX1_totalThrough_37 : decode cX1_totalThrough 37 = .ok (.goto 21, 3) := by decide +kernel
theorem dX1_totalThrough_40 : decode cX1_totalThrough 40 = .ok (.aload_n 0, 1) := by decide +kernel
theorem dX1_totalThrough_41 : decode cX1_totalThrough 41 = .ok (.getfield 11, 3) := by decide +kernel
theorem dX1_totalThrough_44 : decode cX1_totalThrough 44 = .ok (.iload 4, 2) := by decide +kernel
theorem dX1_totalThrough_46 : decode cX1_totalThrough 46 = .ok (.iaload, 1) := by decide +kernel
theorem dX1_totalThrough_47 : decode cX1_totalThrough 47 = .ok (.i2l, 1) := by decide +kernel
theorem dX1_totalThrough_48 : decode cX1_totalThrough 48 = .ok (.aload_n 0, 1) := by decide +kernel
theorem dX1_totalThrough_49 : decode cX1_totalThrough 49 = .ok (.iload_n 1, 1) := by decide +kernel
theorem dX1_totalThrough_50 : decode cX1_totalThrough 50 = .ok (.iconst 0, 1) := by decide +kernel
theorem dX1_totalThrough_51 : decode cX1_totalThrough 51 = .ok (.iload 4, 2) := by decide +kernel
theorem dX1_totalThrough_53 : decode cX1_totalThrough 53 = .ok (.invokevirtual 59, 3) := by decide +kernel
theorem dX1_totalThrough_56 : decode cX1_totalThrough 56 = .ok (.i2l, 1) := by decide +kernel
theorem dX1_totalThrough_57 : decode cX1_totalThrough 57 = .ok (.lmul, 1) := by decide +kernel
theorem dX1_totalThrough_58 : decode cX1_totalThrough 58 = .ok (.lastore, 1) := by decide +kernel
theorem dX1_totalThrough_59 : decode cX1_totalThrough 59 = .ok (.iinc 4 1, 3) := by decide +kernel
theorem dX1_totalThrough_62 : decode cX1_totalThrough 62 = .ok (.goto (-48), 3) := by decide +kernel
theorem dX1_totalThrough_65 : decode cX1_totalThrough 65 = .ok (.iconst 1, 1) := by decide +kernel
theorem dX1_totalThrough_66 : decode cX1_totalThrough 66 = .ok (.istore 4, 2) := by decide +kernel
theorem dX1_totalThrough_68 : decode cX1_totalThrough 68 = .ok (.iload 4, 2) := by decide +kernel
theorem dX1_totalThrough_70 : decode cX1_totalThrough 70 = .ok (.aload_n 0, 1) := by decide +kernel
theorem dX1_totalThrough_71 : decode cX1_totalThrough 71 = .ok (.getfield 21, 3) := by decide +kernel
theorem dX1_totalThrough_74 : decode cX1_totalThrough 74 = .ok (.iload_n 1, 1) := by decide +kernel
theorem dX1_totalThrough_75 : decode cX1_totalThrough 75 = .ok (.iaload, 1) := by decide +kernel
theorem dX1_totalThrough_76 : decode cX1_totalThrough 76 = .ok (.if_icmp .ge 93, 3) := by decide +kernel
theorem dX1_totalThrough_79 : decode cX1_totalThrough 79 = .ok (.iconst 0, 1) := by decide +kernel
theorem dX1_totalThrough_80 : decode cX1_totalThrough 80 = .ok (.istore 5, 2) := by decide +kernel
theorem dX1_totalThrough_82 : decode cX1_totalThrough 82 = .ok (.iload 5, 2) := by decide +kernel
theorem dX1_totalThrough_84 : decode cX1_totalThrough 84 = .ok (.iconst 4, 1) := by decide +kernel
theorem dX1_totalThrough_85 : decode cX1_totalThrough 85 = .ok (.if_icmp .ge 49, 3) := by decide +kernel
theorem dX1_totalThrough_88 : decode cX1_totalThrough 88 = .ok (.aload_n 0, 1) := by decide +kernel
theorem dX1_totalThrough_89 : decode cX1_totalThrough 89 = .ok (.getfield 28, 3) := by decide +kernel
theorem dX1_totalThrough_92 : decode cX1_totalThrough 92 = .ok (.iload 5, 2) := by decide +kernel
theorem dX1_totalThrough_94 : decode cX1_totalThrough 94 = .ok (.iload_n 2, 1) := by decide +kernel
theorem dX1_totalThrough_95 : decode cX1_totalThrough 95 = .ok (.iload 4, 2) := by decide +kernel
theorem dX1_totalThrough_97 : decode cX1_totalThrough 97 = .ok (.if_icmp .ne 13, 3) := by decide +kernel
theorem dX1_totalThrough_100 : decode cX1_totalThrough 100 = .ok (.iload 5, 2) := by decide +kernel
theorem dX1_totalThrough_102 : decode cX1_totalThrough 102 = .ok (.iload_n 3, 1) := by decide +kernel
theorem dX1_totalThrough_103 : decode cX1_totalThrough 103 = .ok (.if_icmp .eq 7, 3) := by decide +kernel
theorem dX1_totalThrough_106 : decode cX1_totalThrough 106 = .ok (.lconst 0, 1) := by decide +kernel
theorem dX1_totalThrough_107 : decode cX1_totalThrough 107 = .ok (.goto 20, 3) := by decide +kernel
theorem dX1_totalThrough_110 : decode cX1_totalThrough 110 = .ok (.aload_n 0, 1) := by decide +kernel
theorem dX1_totalThrough_111 : decode cX1_totalThrough 111 = .ok (.iload 5, 2) := by decide +kernel
theorem dX1_totalThrough_113 : decode cX1_totalThrough 113 = .ok (.invokevirtual 63, 3) := by decide +kernel
theorem dX1_totalThrough_116 : decode cX1_totalThrough 116 = .ok (.aload_n 0, 1) := by decide +kernel
theorem dX1_totalThrough_117 : decode cX1_totalThrough 117 = .ok (.iload_n 1, 1) := by decide +kernel
theorem dX1_totalThrough_118 : decode cX1_totalThrough 118 = .ok (.iload 4, 2) := by decide +kernel
theorem dX1_totalThrough_120 : decode cX1_totalThrough 120 = .ok (.iload 5, 2) := by decide +kernel
theorem dX1_totalThrough_122 : decode cX1_totalThrough 122 = .ok (.invokevirtual 59, 3) := by decide +kernel
theorem dX1_totalThrough_125 : decode cX1_totalThrough 125 = .ok (.i2l, 1) := by decide +kernel
theorem dX1_totalThrough_126 : decode cX1_totalThrough 126 = .ok (.lmul, 1) := by decide +kernel
theorem dX1_totalThrough_127 : decode cX1_totalThrough 127 = .ok (.lastore, 1) := by decide +kernel
theorem dX1_totalThrough_128 : decode cX1_totalThrough 128 = .ok (.iinc 5 1, 3) := by decide +kernel
theorem dX1_totalThrough_131 : decode cX1_totalThrough 131 = .ok (.goto (-49), 3) := by decide +kernel
theorem dX1_totalThrough_134 : decode cX1_totalThrough 134 = .ok (.iconst 0, 1) := by decide +kernel
theorem dX1_totalThrough_135 : decode cX1_totalThrough 135 = .ok (.istore 5, 2) := by decide +kernel
theorem dX1_totalThrough_137 : decode cX1_totalThrough 137 = .ok (.iload 5, 2) := by decide +kernel
theorem dX1_totalThrough_139 : decode cX1_totalThrough 139 = .ok (.iconst 4, 1) := by decide +kernel
theorem dX1_totalThrough_140 : decode cX1_totalThrough 140 = .ok (.if_icmp .ge 23, 3) := by decide +kernel
theorem dX1_totalThrough_143 : decode cX1_totalThrough 143 = .ok (.aload_n 0, 1) := by decide +kernel
theorem dX1_totalThrough_144 : decode cX1_totalThrough 144 = .ok (.getfield 24, 3) := by decide +kernel
theorem dX1_totalThrough_147 : decode cX1_totalThrough 147 = .ok (.iload 5, 2) := by decide +kernel
theorem dX1_totalThrough_149 : decode cX1_totalThrough 149 = .ok (.aload_n 0, 1) := by decide +kernel
theorem dX1_totalThrough_150 : decode cX1_totalThrough 150 = .ok (.getfield 28, 3) := by decide +kernel
theorem dX1_totalThrough_153 : decode cX1_totalThrough 153 = .ok (.iload 5, 2) := by decide +kernel
theorem dX1_totalThrough_155 : decode cX1_totalThrough 155 = .ok (.laload, 1) := by decide +kernel
theorem dX1_totalThrough_156 : decode cX1_totalThrough 156 = .ok (.lastore, 1) := by decide +kernel
theorem dX1_totalThrough_157 : decode cX1_totalThrough 157 = .ok (.iinc 5 1, 3) := by decide +kernel
theorem dX1_totalThrough_160 : decode cX1_totalThrough 160 = .ok (.goto (-23), 3) := by decide +kernel
theorem dX1_totalThrough_163 : decode cX1_totalThrough 163 = .ok (.iinc 4 1, 3) := by decide +kernel
theorem dX1_totalThrough_166 : decode cX1_totalThrough 166 = .ok (.goto (-98), 3) := by decide +kernel
theorem dX1_totalThrough_169 : decode cX1_totalThrough 169 = .ok (.lconst 0, 1) := by decide +kernel
theorem dX1_totalThrough_170 : decode cX1_totalThrough 170 = .ok (.lstore 4, 2) := by decide +kernel
theorem dX1_totalThrough_172 : decode cX1_totalThrough 172 = .ok (.iconst 0, 1) := by decide +kernel
theorem dX1_totalThrough_173 : decode cX1_totalThrough 173 = .ok (.istore 6, 2) := by decide +kernel
theorem dX1_totalThrough_175 : decode cX1_totalThrough 175 = .ok (.iload 6, 2) := by decide +kernel
theorem dX1_totalThrough_177 : decode cX1_totalThrough 177 = .ok (.iconst 4, 1) := by decide +kernel
theorem dX1_totalThrough_178 : decode cX1_totalThrough 178 = .ok (.if_icmp .ge 21, 3) := by decide +kernel
theorem dX1_totalThrough_181 : decode cX1_totalThrough 181 = .ok (.lload 4, 2) := by decide +kernel
theorem dX1_totalThrough_183 : decode cX1_totalThrough 183 = .ok (.aload_n 0, 1) := by decide +kernel
theorem dX1_totalThrough_184 : decode cX1_totalThrough 184 = .ok (.getfield 24, 3) := by decide +kernel
theorem dX1_totalThrough_187 : decode cX1_totalThrough 187 = .ok (.iload 6, 2) := by decide +kernel
theorem dX1_totalThrough_189 : decode cX1_totalThrough 189 = .ok (.laload, 1) := by decide +kernel
theorem dX1_totalThrough_190 : decode cX1_totalThrough 190 = .ok (.ladd, 1) := by decide +kernel
theorem dX1_totalThrough_191 : decode cX1_totalThrough 191 = .ok (.lstore 4, 2) := by decide +kernel
theorem dX1_totalThrough_193 : decode cX1_totalThrough 193 = .ok (.iinc 6 1, 3) := by decide +kernel
theorem dX1_totalThrough_196 : decode cX1_totalThrough 196 = .ok (.goto (-21), 3) := by decide +kernel
theorem dX1_totalThrough_199 : decode cX1_totalThrough 199 = .ok (.lload 4, 2) := by decide +kernel
theorem dX1_totalThrough_201 : decode cX1_totalThrough 201 = .ok (.lreturn, 1) := by decide +kernel
set_option maxRecDepth 20000 in
theorem ggX1_sumInto_X1_moveAt : GoodIn wsX1_sumInto wsX1_moveAt := goodIn_r _ [6] (by decide +kernel) (by decide +kernel)
set_option maxRecDepth 20000 in
theorem gX1_sumInto_X1_moveAt : GoodIn wsX1_sumInto (va_wsS RX1 45 yX1_moveAt wsX1_moveAt) := goodIn_app (goodIn_of _ (by decide +kernel)) ggX1_sumInto_X1_moveAt
theorem dX1_sumInto_0 : decode cX1_sumInto 0 = .ok (.lconst 0, 1) := by decide +kernel
theorem dX1_sumInto_1 : decode cX1_sumInto 1 = .ok (.lstore_n 2, 1) := by decide +kernel
theorem dX1_sumInto_2 : decode cX1_sumInto 2 = .ok (.iconst 0, 1) := by decide +kernel
theorem dX1_sumInto_3 : decode cX1_sumInto 3 = .ok (.istore 4, 2) := by decide +kernel
theorem dX1_sumInto_5 : decode cX1_sumInto 5 = .ok (.iload 4, 2) := by decide +kernel
theorem dX1_sumInto_7 : decode cX1_sumInto 7 = .ok (.iconst 4, 1) := by decide +kernel
theorem dX1_sumInto_8 : decode cX1_sumInto 8 = .ok (.if_icmp .ge 32, 3) := by decide +kernel
theorem dX1_sumInto_11 : decode cX1_sumInto 11 = .ok (.lload_n 2, 1) := by decide +kernel
theorem dX1_sumInto_12 : decode cX1_sumInto 12 = .ok (.aload_n 0, 1) := by decide +kernel
theorem dX1_sumInto_13 : decode cX1_sumInto 13 = .ok (.getfield 24, 3) := by decide +kernel
theorem dX1_sumInto_16 : decode cX1_sumInto 16 = .ok (.iload 4, 2) := by decide +kernel
theorem dX1_sumInto_18 : decode cX1_sumInto 18 = .ok (.laload, 1) := by decide +kernel
theorem dX1_sumInto_19 : decode cX1_sumInto 19 = .ok (.aload_n 0, 1) := by decide +kernel
theorem dX1_sumInto_20 : decode cX1_sumInto 20 = .ok (.getfield 11, 3) := by decide +kernel
theorem dX1_sumInto_23 : decode cX1_sumInto 23 = .ok (.iload 4, 2) := by decide +kernel
theorem dX1_sumInto_25 : decode cX1_sumInto 25 = .ok (.iload_n 1, 1) := by decide +kernel
theorem dX1_sumInto_26 : decode cX1_sumInto 26 = .ok (.invokestatic 45, 3) := by decide +kernel
theorem dX1_sumInto_29 : decode cX1_sumInto 29 = .ok (.iaload, 1) := by decide +kernel
theorem dX1_sumInto_30 : decode cX1_sumInto 30 = .ok (.i2l, 1) := by decide +kernel
theorem dX1_sumInto_31 : decode cX1_sumInto 31 = .ok (.lmul, 1) := by decide +kernel
theorem dX1_sumInto_32 : decode cX1_sumInto 32 = .ok (.ladd, 1) := by decide +kernel
theorem dX1_sumInto_33 : decode cX1_sumInto 33 = .ok (.lstore_n 2, 1) := by decide +kernel
theorem dX1_sumInto_34 : decode cX1_sumInto 34 = .ok (.iinc 4 1, 3) := by decide +kernel
theorem dX1_sumInto_37 : decode cX1_sumInto 37 = .ok (.goto (-32), 3) := by decide +kernel
theorem dX1_sumInto_40 : decode cX1_sumInto 40 = .ok (.lload_n 2, 1) := by decide +kernel
theorem dX1_sumInto_41 : decode cX1_sumInto 41 = .ok (.lreturn, 1) := by decide +kernel
set_option maxRecDepth 20000 in
theorem ggX1_shown_X1_showAt : GoodIn wsX1_shown wsX1_showAt := goodIn_r _ [6] (by decide +kernel) (by decide +kernel)
set_option maxRecDepth 20000 in
theorem gX1_shown_X1_showAt : GoodIn wsX1_shown (va_wsS RX1 52 yX1_showAt wsX1_showAt) := goodIn_app (goodIn_of _ (by decide +kernel)) ggX1_shown_X1_showAt
theorem dX1_shown_0 : decode cX1_shown 0 = .ok (.aload_n 0, 1) := by decide +kernel
theorem dX1_shown_1 : decode cX1_shown 1 = .ok (.getfield 11, 3) := by decide +kernel
theorem dX1_shown_4 : decode cX1_shown 4 = .ok (.iload_n 3, 1) := by decide +kernel
theorem dX1_shown_5 : decode cX1_shown 5 = .ok (.aload_n 0, 1) := by decide +kernel
theorem dX1_shown_6 : decode cX1_shown 6 = .ok (.getfield 18, 3) := by decide +kernel
theorem dX1_shown_9 : decode cX1_shown 9 = .ok (.iload_n 1, 1) := by decide +kernel
theorem dX1_shown_10 : decode cX1_shown 10 = .ok (.iconst 5, 1) := by decide +kernel
theorem dX1_shown_11 : decode cX1_shown 11 = .ok (.imul, 1) := by decide +kernel
theorem dX1_shown_12 : decode cX1_shown 12 = .ok (.iload_n 2, 1) := by decide +kernel
theorem dX1_shown_13 : decode cX1_shown 13 = .ok (.iadd, 1) := by decide +kernel
theorem dX1_shown_14 : decode cX1_shown 14 = .ok (.iaload, 1) := by decide +kernel
theorem dX1_shown_15 : decode cX1_shown 15 = .ok (.invokestatic 52, 3) := by decide +kernel
theorem dX1_shown_18 : decode cX1_shown 18 = .ok (.iaload, 1) := by decide +kernel
theorem dX1_shown_19 : decode cX1_shown 19 = .ok (.ireturn, 1) := by decide +kernel
set_option maxRecDepth 20000 in
theorem ggX1_findBestPath_X1_bestOnward : GoodIn wsX1_findBestPath wsX1_bestOnward := goodIn_r _ [9, 10, 11, 12, 8, 13, 4, 2, 14, 15, 16, 29, 30, 31, 32, 33, 34, 35, 36] (by decide +kernel) (by decide +kernel)
set_option maxRecDepth 20000 in
theorem gX1_findBestPath_X1_bestOnward : GoodIn wsX1_findBestPath (wsV RX1 67 RX1 yX1_bestOnward wsX1_bestOnward) := goodIn_app (goodIn_of _ (by decide +kernel)) ggX1_findBestPath_X1_bestOnward
set_option maxRecDepth 20000 in
theorem ggX1_findBestPath_X1_weightOnward : GoodIn wsX1_findBestPath wsX1_weightOnward := goodIn_r _ [13, 4, 2, 14, 15, 8, 16, 29, 30, 31, 32, 33, 34, 35, 36] (by decide +kernel) (by decide +kernel)
set_option maxRecDepth 20000 in
theorem gX1_findBestPath_X1_weightOnward : GoodIn wsX1_findBestPath (wsV RX1 70 RX1 yX1_weightOnward wsX1_weightOnward) := goodIn_app (goodIn_of _ (by decide +kernel)) ggX1_findBestPath_X1_weightOnward
set_option maxRecDepth 20000 in
theorem ggX1_findBestPath_X1_shown : GoodIn wsX1_findBestPath wsX1_shown := goodIn_r _ [20, 4, 21, 22, 23, 8, 24, 29, 30, 31, 32, 33, 34, 35, 36] (by decide +kernel) (by decide +kernel)
set_option maxRecDepth 20000 in
theorem gX1_findBestPath_X1_shown : GoodIn wsX1_findBestPath (wsV RX1 59 RX1 yX1_shown wsX1_shown) := goodIn_app (goodIn_of _ (by decide +kernel)) ggX1_findBestPath_X1_shown
set_option maxRecDepth 20000 in
theorem ggX1_findBestPath_X1_bestStart : GoodIn wsX1_findBestPath wsX1_bestStart := goodIn_r _ [28, 4, 2, 29, 30, 31, 32, 33, 34, 35, 36] (by decide +kernel) (by decide +kernel)
set_option maxRecDepth 20000 in
theorem gX1_findBestPath_X1_bestStart : GoodIn wsX1_findBestPath (wsV RX1 73 RX1 yX1_bestStart wsX1_bestStart) := goodIn_app (goodIn_of _ (by decide +kernel)) ggX1_findBestPath_X1_bestStart
theorem dX1_findBestPath_0 : decode cX1_findBestPath 0 = .ok (.aload_n 0, 1) := by decide +kernel
theorem dX1_findBestPath_1 : decode cX1_findBestPath 1 = .ok (.getfield 21, 3) := by decide +kernel
theorem dX1_findBestPath_4 : decode cX1_findBestPath 4 = .ok (.iload_n 1, 1) := by decide +kernel
theorem dX1_findBestPath_5 : decode cX1_findBestPath 5 = .ok (.iaload, 1) := by decide +kernel
theorem dX1_findBestPath_6 : decode cX1_findBestPath 6 = .ok (.istore_n 2, 1) := by decide +kernel
theorem dX1_findBestPath_7 : decode cX1_findBestPath 7 = .ok (.iload_n 2, 1) := by decide +kernel
theorem dX1_findBestPath_8 : decode cX1_findBestPath 8 = .ok (.ifCond .ne 5, 3) := by decide +kernel
theorem dX1_findBestPath_11 : decode cX1_findBestPath 11 = .ok (.iconst 0, 1) := by decide +kernel
theorem dX1_findBestPath_12 : decode cX1_findBestPath 12 = .ok (.ireturn, 1) := by decide +kernel
theorem dX1_findBestPath_13 : decode cX1_findBestPath 13 = .ok (.iload_n 2, 1) := by decide +kernel
theorem dX1_findBestPath_14 : decode cX1_findBestPath 14 = .ok (.iconst 1, 1) := by decide +kernel
theorem dX1_findBestPath_15 : decode cX1_findBestPath 15 = .ok (.isub, 1) := by decide +kernel
theorem dX1_findBestPath_16 : decode cX1_findBestPath 16 = .ok (.istore_n 3, 1) := by decide +kernel
theorem dX1_findBestPath_17 : decode cX1_findBestPath 17 = .ok (.iload_n 3, 1) := by decide +kernel
theorem dX1_findBestPath_18 : decode cX1_findBestPath 18 = .ok (.ifCond .lt 74, 3) := by decide +kernel
theorem dX1_findBestPath_21 : decode cX1_findBestPath 21 = .ok (.iconst 0, 1) := by decide +kernel
theorem dX1_findBestPath_22 : decode cX1_findBestPath 22 = .ok (.istore 4, 2) := by decide +kernel
theorem dX1_findBestPath_24 : decode cX1_findBestPath 24 = .ok (.iload 4, 2) := by decide +kernel
theorem dX1_findBestPath_26 : decode cX1_findBestPath 26 = .ok (.iconst 4, 1) := by decide +kernel
theorem dX1_findBestPath_27 : decode cX1_findBestPath 27 = .ok (.if_icmp .ge 59, 3) := by decide +kernel
theorem dX1_findBestPath_30 : decode cX1_findBestPath 30 = .ok (.iload_n 3, 1) := by decide +kernel
theorem dX1_findBestPath_31 : decode cX1_findBestPath 31 = .ok (.iload_n 2, 1) := by decide +kernel
theorem dX1_findBestPath_32 : decode cX1_findBestPath 32 = .ok (.iconst 1, 1) := by decide +kernel
theorem dX1_findBestPath_33 : decode cX1_findBestPath 33 = .ok (.isub, 1) := by decide +kernel
theorem dX1_findBestPath_34 : decode cX1_findBestPath 34 = .ok (.if_icmp .ne 7, 3) := by decide +kernel
theorem dX1_findBestPath_37 : decode cX1_findBestPath 37 = .ok (.lconst 1, 1) := by decide +kernel
theorem dX1_findBestPath_38 : decode cX1_findBestPath 38 = .ok (.goto 17, 3) := by decide +kernel
theorem dX1_findBestPath_41 : decode cX1_findBestPath 41 = .ok (.aload_n 0, 1) := by decide +kernel
theorem dX1_findBestPath_42 : decode cX1_findBestPath 42 = .ok (.iload_n 3, 1) := by decide +kernel
theorem dX1_findBestPath_43 : decode cX1_findBestPath 43 = .ok (.iload 4, 2) := by decide +kernel
theorem dX1_findBestPath_45 : decode cX1_findBestPath 45 = .ok (.aload_n 0, 1) := by decide +kernel
theorem dX1_findBestPath_46 : decode cX1_findBestPath 46 = .ok (.iload_n 3, 1) := by decide +kernel
theorem dX1_findBestPath_47 : decode cX1_findBestPath 47 = .ok (.iload 4, 2) := by decide +kernel
theorem dX1_findBestPath_49 : decode cX1_findBestPath 49 = .ok (.invokevirtual 67, 3) := by decide +kernel
theorem dX1_findBestPath_52 : decode cX1_findBestPath 52 = .ok (.invokevirtual 70, 3) := by decide +kernel
theorem dX1_findBestPath_55 : decode cX1_findBestPath 55 = .ok (.lstore 5, 2) := by decide +kernel
theorem dX1_findBestPath_57 : decode cX1_findBestPath 57 = .ok (.aload_n 0, 1) := by decide +kernel
theorem dX1_findBestPath_58 : decode cX1_findBestPath 58 = .ok (.getfield 31, 3) := by decide +kernel
theorem dX1_findBestPath_61 : decode cX1_findBestPath 61 = .ok (.iload_n 3, 1) := by decide +kernel
theorem dX1_findBestPath_62 : decode cX1_findBestPath 62 = .ok (.iconst 4, 1) := by decide +kernel
theorem dX1_findBestPath_63 : decode cX1_findBestPath 63 = .ok (.imul, 1) := by decide +kernel
theorem dX1_findBestPath_64 : decode cX1_findBestPath 64 = .ok (.iload 4, 2) := by decide +kernel
theorem dX1_findBestPath_66 : decode cX1_findBestPath 66 = .ok (.iadd, 1) := by decide +kernel
theorem dX1_findBestPath_67 : decode cX1_findBestPath 67 = .ok (.aload_n 0, 1) := by decide +kernel
theorem dX1_findBestPath_68 : decode cX1_findBestPath 68 = .ok (.iload_n 1, 1) := by decide +kernel
theorem dX1_findBestPath_69 : decode cX1_findBestPath 69 = .ok (.iload_n 3, 1) := by decide +kernel
theorem dX1_findBestPath_70 : decode cX1_findBestPath 70 = .ok (.iload 4, 2) := by decide +kernel
theorem dX1_findBestPath_72 : decode cX1_findBestPath 72 = .ok (.invokevirtual 59, 3) := by decide +kernel
theorem dX1_findBestPath_75 : decode cX1_findBestPath 75 = .ok (.i2l, 1) := by decide +kernel
theorem dX1_findBestPath_76 : decode cX1_findBestPath 76 = .ok (.lload 5, 2) := by decide +kernel
theorem dX1_findBestPath_78 : decode cX1_findBestPath 78 = .ok (.lmul, 1) := by decide +kernel
theorem dX1_findBestPath_79 : decode cX1_findBestPath 79 = .ok (.lastore, 1) := by decide +kernel
theorem dX1_findBestPath_80 : decode cX1_findBestPath 80 = .ok (.iinc 4 1, 3) := by decide +kernel
theorem dX1_findBestPath_83 : decode cX1_findBestPath 83 = .ok (.goto (-59), 3) := by decide +kernel
theorem dX1_findBestPath_86 : decode cX1_findBestPath 86 = .ok (.iinc 3 (-1), 3) := by decide +kernel
theorem dX1_findBestPath_89 : decode cX1_findBestPath 89 = .ok (.goto (-72), 3) := by decide +kernel
theorem dX1_findBestPath_92 : decode cX1_findBestPath 92 = .ok (.aload_n 0, 1) := by decide +kernel
theorem dX1_findBestPath_93 : decode cX1_findBestPath 93 = .ok (.invokevirtual 73, 3) := by decide +kernel
theorem dX1_findBestPath_96 : decode cX1_findBestPath 96 = .ok (.istore_n 3, 1) := by decide +kernel
theorem dX1_findBestPath_97 : decode cX1_findBestPath 97 = .ok (.aload_n 0, 1) := by decide +kernel
theorem dX1_findBestPath_98 : decode cX1_findBestPath 98 = .ok (.getfield 34, 3) := by decide +kernel
theorem dX1_findBestPath_101 : decode cX1_findBestPath 101 = .ok (.iconst 0, 1) := by decide +kernel
theorem dX1_findBestPath_102 : decode cX1_findBestPath 102 = .ok (.iload_n 3, 1) := by decide +kernel
theorem dX1_findBestPath_103 : decode cX1_findBestPath 103 = .ok (.iastore, 1) := by decide +kernel
theorem dX1_findBestPath_104 : decode cX1_findBestPath 104 = .ok (.iconst 1, 1) := by decide +kernel
theorem dX1_findBestPath_105 : decode cX1_findBestPath 105 = .ok (.istore 4, 2) := by decide +kernel
theorem dX1_findBestPath_107 : decode cX1_findBestPath 107 = .ok (.iload 4, 2) := by decide +kernel
theorem dX1_findBestPath_109 : decode cX1_findBestPath 109 = .ok (.iload_n 2, 1) := by decide +kernel
theorem dX1_findBestPath_110 : decode cX1_findBestPath 110 = .ok (.if_icmp .ge 33, 3) := by decide +kernel
theorem dX1_findBestPath_113 : decode cX1_findBestPath 113 = .ok (.aload_n 0, 1) := by decide +kernel
theorem dX1_findBestPath_114 : decode cX1_findBestPath 114 = .ok (.getfield 34, 3) := by decide +kernel
theorem dX1_findBestPath_117 : decode cX1_findBestPath 117 = .ok (.iload 4, 2) := by decide +kernel
theorem dX1_findBestPath_119 : decode cX1_findBestPath 119 = .ok (.aload_n 0, 1) := by decide +kernel
theorem dX1_findBestPath_120 : decode cX1_findBestPath 120 = .ok (.iload 4, 2) := by decide +kernel
theorem dX1_findBestPath_122 : decode cX1_findBestPath 122 = .ok (.iconst 1, 1) := by decide +kernel
theorem dX1_findBestPath_123 : decode cX1_findBestPath 123 = .ok (.isub, 1) := by decide +kernel
theorem dX1_findBestPath_124 : decode cX1_findBestPath 124 = .ok (.aload_n 0, 1) := by decide +kernel
theorem dX1_findBestPath_125 : decode cX1_findBestPath 125 = .ok (.getfield 34, 3) := by decide +kernel
theorem dX1_findBestPath_128 : decode cX1_findBestPath 128 = .ok (.iload 4, 2) := by decide +kernel
theorem dX1_findBestPath_130 : decode cX1_findBestPath 130 = .ok (.iconst 1, 1) := by decide +kernel
theorem dX1_findBestPath_131 : decode cX1_findBestPath 131 = .ok (.isub, 1) := by decide +kernel
theorem dX1_findBestPath_132 : decode cX1_findBestPath 132 = .ok (.iaload, 1) := by decide +kernel
theorem dX1_findBestPath_133 : decode cX1_findBestPath 133 = .ok (.invokevirtual 67, 3) := by decide +kernel
theorem dX1_findBestPath_136 : decode cX1_findBestPath 136 = .ok (.iastore, 1) := by decide +kernel
theorem dX1_findBestPath_137 : decode cX1_findBestPath 137 = .ok (.iinc 4 1, 3) := by decide +kernel
theorem dX1_findBestPath_140 : decode cX1_findBestPath 140 = .ok (.goto (-33), 3) := by decide +kernel
theorem dX1_findBestPath_143 : decode cX1_findBestPath 143 = .ok (.aload_n 0, 1) := by decide +kernel
theorem dX1_findBestPath_144 : decode cX1_findBestPath 144 = .ok (.getfield 11, 3) := by decide +kernel
theorem dX1_findBestPath_147 : decode cX1_findBestPath 147 = .ok (.iload_n 3, 1) := by decide +kernel
theorem dX1_findBestPath_148 : decode cX1_findBestPath 148 = .ok (.iaload, 1) := by decide +kernel
theorem dX1_findBestPath_149 : decode cX1_findBestPath 149 = .ok (.i2l, 1) := by decide +kernel
theorem dX1_findBestPath_150 : decode cX1_findBestPath 150 = .ok (.aload_n 0, 1) := by decide +kernel
theorem dX1_findBestPath_151 : decode cX1_findBestPath 151 = .ok (.getfield 31, 3) := by decide +kernel
theorem dX1_findBestPath_154 : decode cX1_findBestPath 154 = .ok (.iload_n 3, 1) := by decide +kernel
theorem dX1_findBestPath_155 : decode cX1_findBestPath 155 = .ok (.laload, 1) := by decide +kernel
theorem dX1_findBestPath_156 : decode cX1_findBestPath 156 = .ok (.lmul, 1) := by decide +kernel
theorem dX1_findBestPath_157 : decode cX1_findBestPath 157 = .ok (.lconst 0, 1) := by decide +kernel
theorem dX1_findBestPath_158 : decode cX1_findBestPath 158 = .ok (.lcmp, 1) := by decide +kernel
theorem dX1_findBestPath_159 : decode cX1_findBestPath 159 = .ok (.ifCond .le 7, 3) := by decide +kernel
theorem dX1_findBestPath_162 : decode cX1_findBestPath 162 = .ok (.iconst 1, 1) := by decide +kernel
theorem dX1_findBestPath_163 : decode cX1_findBestPath 163 = .ok (.goto 4, 3) := by decide +kernel
theorem dX1_findBestPath_166 : decode cX1_findBestPath 166 = .ok (.iconst 0, 1) := by decide +kernel
theorem dX1_findBestPath_167 : decode cX1_findBestPath 167 = .ok (.ireturn, 1) := by decide +kernel
theorem dX1_stateOnBestPath_0 : decode cX1_stateOnBestPath 0 = .ok (.aload_n 0, 1) := by decide +kernel
theorem dX1_stateOnBestPath_1 : decode cX1_stateOnBestPath 1 = .ok (.getfield 34, 3) := by decide +kernel
theorem dX1_stateOnBestPath_4 : decode cX1_stateOnBestPath 4 = .ok (.iload_n 1, 1) := by decide +kernel
theorem dX1_stateOnBestPath_5 : decode cX1_stateOnBestPath 5 = .ok (.iaload, 1) := by decide +kernel
theorem dX1_stateOnBestPath_6 : decode cX1_stateOnBestPath 6 = .ok (.ireturn, 1) := by decide +kernel
theorem dX1_bestStart_0 : decode cX1_bestStart 0 = .ok (.iconst 0, 1) := by decide +kernel
theorem dX1_bestStart_1 : decode cX1_bestStart 1 = .ok (.istore_n 1, 1) := by decide +kernel
theorem dX1_bestStart_2 : decode cX1_bestStart 2 = .ok (.iconst 1, 1) := by decide +kernel
theorem dX1_bestStart_3 : decode cX1_bestStart 3 = .ok (.istore_n 2, 1) := by decide +kernel
theorem dX1_bestStart_4 : decode cX1_bestStart 4 = .ok (.iload_n 2, 1) := by decide +kernel
theorem dX1_bestStart_5 : decode cX1_bestStart 5 = .ok (.iconst 4, 1) := by decide +kernel
theorem dX1_bestStart_6 : decode cX1_bestStart 6 = .ok (.if_icmp .ge 43, 3) := by decide +kernel
theorem dX1_bestStart_9 : decode cX1_bestStart 9 = .ok (.aload_n 0, 1) := by decide +kernel
theorem dX1_bestStart_10 : decode cX1_bestStart 10 = .ok (.getfield 11, 3) := by decide +kernel
theorem dX1_bestStart_13 : decode cX1_bestStart 13 = .ok (.iload_n 2, 1) := by decide +kernel
theorem dX1_bestStart_14 : decode cX1_bestStart 14 = .ok (.iaload, 1) := by decide +kernel
theorem dX1_bestStart_15 : decode cX1_bestStart 15 = .ok (.i2l, 1) := by decide +kernel
theorem dX1_bestStart_16 : decode cX1_bestStart 16 = .ok (.aload_n 0, 1) := by decide +kernel
theorem dX1_bestStart_17 : decode cX1_bestStart 17 = .ok (.getfield 31, 3) := by decide +kernel
theorem dX1_bestStart_20 : decode cX1_bestStart 20 = .ok (.iload_n 2, 1) := by decide +kernel
theorem dX1_bestStart_21 : decode cX1_bestStart 21 = .ok (.laload, 1) := by decide +kernel
theorem dX1_bestStart_22 : decode cX1_bestStart 22 = .ok (.lmul, 1) := by decide +kernel
theorem dX1_bestStart_23 : decode cX1_bestStart 23 = .ok (.aload_n 0, 1) := by decide +kernel
theorem dX1_bestStart_24 : decode cX1_bestStart 24 = .ok (.getfield 11, 3) := by decide +kernel
theorem dX1_bestStart_27 : decode cX1_bestStart 27 = .ok (.iload_n 1, 1) := by decide +kernel
theorem dX1_bestStart_28 : decode cX1_bestStart 28 = .ok (.iaload, 1) := by decide +kernel
theorem dX1_bestStart_29 : decode cX1_bestStart 29 = .ok (.i2l, 1) := by decide +kernel
theorem dX1_bestStart_30 : decode cX1_bestStart 30 = .ok (.aload_n 0, 1) := by decide +kernel
theorem dX1_bestStart_31 : decode cX1_bestStart 31 = .ok (.getfield 31, 3) := by decide +kernel
theorem dX1_bestStart_34 : decode cX1_bestStart 34 = .ok (.iload_n 1, 1) := by decide +kernel
theorem dX1_bestStart_35 : decode cX1_bestStart 35 = .ok (.laload, 1) := by decide +kernel
theorem dX1_bestStart_36 : decode cX1_bestStart 36 = .ok (.lmul, 1) := by decide +kernel
theorem dX1_bestStart_37 : decode cX1_bestStart 37 = .ok (.lcmp, 1) := by decide +kernel
theorem dX1_bestStart_38 : decode cX1_bestStart 38 = .ok (.ifCond .le 5, 3) := by decide +kernel
theorem dX1_bestStart_41 : decode cX1_bestStart 41 = .ok (.iload_n 2, 1) := by decide +kernel
theorem dX1_bestStart_42 : decode cX1_bestStart 42 = .ok (.istore_n 1, 1) := by decide +kernel
theorem dX1_bestStart_43 : decode cX1_bestStart 43 = .ok (.iinc 2 1, 3) := by decide +kernel
theorem dX1_bestStart_46 : decode cX1_bestStart 46 = .ok (.goto (-42), 3) := by decide +kernel
theorem dX1_bestStart_49 : decode cX1_bestStart 49 = .ok (.iload_n 1, 1) := by decide +kernel
theorem dX1_bestStart_50 : decode cX1_bestStart 50 = .ok (.ireturn, 1) := by decide +kernel
set_option maxRecDepth 20000 in
theorem ggX1_bestOnward_X1_weightOnward : GoodIn wsX1_bestOnward wsX1_weightOnward := goodIn_r _ [5, 6, 7, 8, 9, 4, 10, 11, 12, 13, 14, 15, 16, 17, 18] (by decide +kernel) (by decide +kernel)
set_option maxRecDepth 20000 in
theorem gX1_bestOnward_X1_weightOnward : GoodIn wsX1_bestOnward (wsV RX1 70 RX1 yX1_weightOnward wsX1_weightOnward) := goodIn_app (goodIn_of _ (by decide +kernel)) ggX1_bestOnward_X1_weightOnward
theorem dX1_bestOnward_0 : decode cX1_bestOnward 0 = .ok (.iconst 0, 1) := by decide +kernel
theorem dX1_bestOnward_1 : decode cX1_bestOnward 1 = .ok (.istore_n 3, 1) := by decide +kernel
theorem dX1_bestOnward_2 : decode cX1_bestOnward 2 = .ok (.iconst 1, 1) := by decide +kernel
theorem dX1_bestOnward_3 : decode cX1_bestOnward 3 = .ok (.istore 4, 2) := by decide +kernel
theorem dX1_bestOnward_5 : decode cX1_bestOnward 5 = .ok (.iload 4, 2) := by decide +kernel
theorem dX1_bestOnward_7 : decode cX1_bestOnward 7 = .ok (.iconst 4, 1) := by decide +kernel
theorem dX1_bestOnward_8 : decode cX1_bestOnward 8 = .ok (.if_icmp .ge 31, 3) := by decide +kernel
theorem dX1_bestOnward_11 : decode cX1_bestOnward 11 = .ok (.aload_n 0, 1) := by decide +kernel
theorem dX1_bestOnward_12 : decode cX1_bestOnward 12 = .ok (.iload_n 1, 1) := by decide +kernel
theorem dX1_bestOnward_13 : decode cX1_bestOnward 13 = .ok (.iload_n 2, 1) := by decide +kernel
theorem dX1_bestOnward_14 : decode cX1_bestOnward 14 = .ok (.iload 4, 2) := by decide +kernel
theorem dX1_bestOnward_16 : decode cX1_bestOnward 16 = .ok (.invokevirtual 70, 3) := by decide +kernel
theorem dX1_bestOnward_19 : decode cX1_bestOnward 19 = .ok (.aload_n 0, 1) := by decide +kernel
theorem dX1_bestOnward_20 : decode cX1_bestOnward 20 = .ok (.iload_n 1, 1) := by decide +kernel
theorem dX1_bestOnward_21 : decode cX1_bestOnward 21 = .ok (.iload_n 2, 1) := by decide +kernel
theorem dX1_bestOnward_22 : decode cX1_bestOnward 22 = .ok (.iload_n 3, 1) := by decide +kernel
theorem dX1_bestOnward_23 : decode cX1_bestOnward 23 = .ok (.invokevirtual 70, 3) := by decide +kernel
theorem dX1_bestOnward_26 : decode cX1_bestOnward 26 = .ok (.lcmp, 1) := by decide +kernel
theorem dX1_bestOnward_27 : decode cX1_bestOnward 27 = .ok (.ifCond .le 6, 3) := by decide +kernel
theorem dX1_bestOnward_30 : decode cX1_bestOnward 30 = .ok (.iload 4, 2) := by decide +kernel
theorem dX1_bestOnward_32 : decode cX1_bestOnward 32 = .ok (.istore_n 3, 1) := by decide +kernel
theorem dX1_bestOnward_33 : decode cX1_bestOnward 33 = .ok (.iinc 4 1, 3) := by decide +kernel
theorem dX1_bestOnward_36 : decode cX1_bestOnward 36 = .ok (.goto (-31), 3) := by decide +kernel
theorem dX1_bestOnward_39 : decode cX1_bestOnward 39 = .ok (.iload_n 3, 1) := by decide +kernel
theorem dX1_bestOnward_40 : decode cX1_bestOnward 40 = .ok (.ireturn, 1) := by decide +kernel
set_option maxRecDepth 20000 in
theorem ggX1_weightOnward_X1_moveAt : GoodIn wsX1_weightOnward wsX1_moveAt := goodIn_r _ [6] (by decide +kernel) (by decide +kernel)
set_option maxRecDepth 20000 in
theorem gX1_weightOnward_X1_moveAt : GoodIn wsX1_weightOnward (va_wsS RX1 45 yX1_moveAt wsX1_moveAt) := goodIn_app (goodIn_of _ (by decide +kernel)) ggX1_weightOnward_X1_moveAt
theorem dX1_weightOnward_0 : decode cX1_weightOnward 0 = .ok (.aload_n 0, 1) := by decide +kernel
theorem dX1_weightOnward_1 : decode cX1_weightOnward 1 = .ok (.getfield 11, 3) := by decide +kernel
theorem dX1_weightOnward_4 : decode cX1_weightOnward 4 = .ok (.iload_n 2, 1) := by decide +kernel
theorem dX1_weightOnward_5 : decode cX1_weightOnward 5 = .ok (.iload_n 3, 1) := by decide +kernel
theorem dX1_weightOnward_6 : decode cX1_weightOnward 6 = .ok (.invokestatic 45, 3) := by decide +kernel
theorem dX1_weightOnward_9 : decode cX1_weightOnward 9 = .ok (.iaload, 1) := by decide +kernel
theorem dX1_weightOnward_10 : decode cX1_weightOnward 10 = .ok (.i2l, 1) := by decide +kernel
theorem dX1_weightOnward_11 : decode cX1_weightOnward 11 = .ok (.aload_n 0, 1) := by decide +kernel
theorem dX1_weightOnward_12 : decode cX1_weightOnward 12 = .ok (.getfield 31, 3) := by decide +kernel
theorem dX1_weightOnward_15 : decode cX1_weightOnward 15 = .ok (.iload_n 1, 1) := by decide +kernel
theorem dX1_weightOnward_16 : decode cX1_weightOnward 16 = .ok (.iconst 1, 1) := by decide +kernel
theorem dX1_weightOnward_17 : decode cX1_weightOnward 17 = .ok (.iadd, 1) := by decide +kernel
theorem dX1_weightOnward_18 : decode cX1_weightOnward 18 = .ok (.iconst 4, 1) := by decide +kernel
theorem dX1_weightOnward_19 : decode cX1_weightOnward 19 = .ok (.imul, 1) := by decide +kernel
theorem dX1_weightOnward_20 : decode cX1_weightOnward 20 = .ok (.iload_n 3, 1) := by decide +kernel
theorem dX1_weightOnward_21 : decode cX1_weightOnward 21 = .ok (.iadd, 1) := by decide +kernel
theorem dX1_weightOnward_22 : decode cX1_weightOnward 22 = .ok (.laload, 1) := by decide +kernel
theorem dX1_weightOnward_23 : decode cX1_weightOnward 23 = .ok (.lmul, 1) := by decide +kernel
theorem dX1_weightOnward_24 : decode cX1_weightOnward 24 = .ok (.lreturn, 1) := by decide +kernel
set_option maxRecDepth 20000 in
theorem ggX1_weighAnew_X5_setAll : GoodIn wsX1_weighAnew wsX5_setAll := goodIn_r _ [5] (by decide +kernel) (by decide +kernel)
set_option maxRecDepth 20000 in
theorem gX1_weighAnew_X5_setAll_n37 : GoodIn wsX1_weighAnew (wsX5_setAll) := ggX1_weighAnew_X5_setAll
set_option maxRecDepth 20000 in
theorem ggX1_weighAnew_X1_findBestPath : GoodIn wsX1_weighAnew wsX1_findBestPath := goodIn_r _ [10, 11, 12, 13, 2, 14, 15, 16, 9, 17, 18, 19, 20, 21, 22, 23, 24, 25, 26, 27, 28, 29, 30, 31, 32, 33, 34, 35, 36, 41, 42, 43, 44, 45, 46, 47, 48] (by decide +kernel) (by decide +kernel)
set_option maxRecDepth 20000 in
theorem gX1_weighAnew_X1_findBestPath : GoodIn wsX1_weighAnew (wsV RX1 77 RX1 yX1_findBestPath wsX1_findBestPath) := goodIn_app (goodIn_of _ (by decide +kernel)) ggX1_weighAnew_X1_findBestPath
set_option maxRecDepth 20000 in
theorem ggX1_weighAnew_X1_countBestPath : GoodIn wsX1_weighAnew wsX1_countBestPath := goodIn_r _ [40, 1, 13, 11, 29, 30, 31, 9, 32, 22, 23, 24, 41, 42, 43, 44, 45, 46, 47, 48] (by decide +kernel) (by decide +kernel)
set_option maxRecDepth 20000 in
theorem gX1_weighAnew_X1_countBestPath : GoodIn wsX1_weighAnew (wsV RX1 80 RX1 yX1_countBestPath wsX1_countBestPath) := goodIn_app (goodIn_of _ (by decide +kernel)) ggX1_weighAnew_X1_countBestPath
theorem dX1_weighAnew_0 : decode cX1_weighAnew 0 = .ok (.aload_n 0, 1) := by decide +kernel
theorem dX1_weighAnew_1 : decode cX1_weighAnew 1 = .ok (.getfield 15, 3) := by decide +kernel
theorem dX1_weighAnew_4 : decode cX1_weighAnew 4 = .ok (.iconst 1, 1) := by decide +kernel
theorem dX1_weighAnew_5 : decode cX1_weighAnew 5 = .ok (.invokestatic 37, 3) := by decide +kernel
theorem dX1_weighAnew_8 : decode cX1_weighAnew 8 = .ok (.iconst 0, 1) := by decide +kernel
theorem dX1_weighAnew_9 : decode cX1_weighAnew 9 = .ok (.istore_n 1, 1) := by decide +kernel
theorem dX1_weighAnew_10 : decode cX1_weighAnew 10 = .ok (.iload_n 1, 1) := by decide +kernel
theorem dX1_weighAnew_11 : decode cX1_weighAnew 11 = .ok (.iconst 4, 1) := by decide +kernel
theorem dX1_weighAnew_12 : decode cX1_weighAnew 12 = .ok (.if_icmp .ge 22, 3) := by decide +kernel
theorem dX1_weighAnew_15 : decode cX1_weighAnew 15 = .ok (.aload_n 0, 1) := by decide +kernel
theorem dX1_weighAnew_16 : decode cX1_weighAnew 16 = .ok (.iload_n 1, 1) := by decide +kernel
theorem dX1_weighAnew_17 : decode cX1_weighAnew 17 = .ok (.invokevirtual 77, 3) := by decide +kernel
theorem dX1_weighAnew_20 : decode cX1_weighAnew 20 = .ok (.ifCond .eq 8, 3) := by decide +kernel
theorem dX1_weighAnew_23 : decode cX1_weighAnew 23 = .ok (.aload_n 0, 1) := by decide +kernel
theorem dX1_weighAnew_24 : decode cX1_weighAnew 24 = .ok (.iload_n 1, 1) := by decide +kernel
theorem dX1_weighAnew_25 : decode cX1_weighAnew 25 = .ok (.invokevirtual 80, 3) := by decide +kernel
theorem dX1_weighAnew_28 : decode cX1_weighAnew 28 = .ok (.iinc 1 1, 3) := by decide +kernel
theorem dX1_weighAnew_31 : decode cX1_weighAnew 31 = .ok (.goto (-21), 3) := by decide +kernel
theorem dX1_weighAnew_34 : decode cX1_weighAnew 34 = .ok (.iconst 0, 1) := by decide +kernel
theorem dX1_weighAnew_35 : decode cX1_weighAnew 35 = .ok (.istore_n 1, 1) := by decide +kernel
theorem dX1_weighAnew_36 : decode cX1_weighAnew 36 = .ok (.iconst 0, 1) := by decide +kernel
theorem dX1_weighAnew_37 : decode cX1_weighAnew 37 = .ok (.istore_n 2, 1) := by decide +kernel
theorem dX1_weighAnew_38 : decode cX1_weighAnew 38 = .ok (.iload_n 2, 1) := by decide +kernel
theorem dX1_weighAnew_39 : decode cX1_weighAnew 39 = .ok (.bipush 36, 2) := by decide +kernel
theorem dX1_weighAnew_41 : decode cX1_weighAnew 41 = .ok (.if_icmp .ge 46, 3) := by decide +kernel
theorem dX1_weighAnew_44 : decode cX1_weighAnew 44 = .ok (.iload_n 1, 1) := by decide +kernel
theorem dX1_weighAnew_45 : decode cX1_weighAnew 45 = .ok (.ifCond .ne 18, 3) := by decide +kernel
theorem dX1_weighAnew_48 : decode cX1_weighAnew 48 = .ok (.aload_n 0, 1) := by decide +kernel
theorem dX1_weighAnew_49 : decode cX1_weighAnew 49 = .ok (.getfield 11, 3) := by decide +kernel
theorem dX1_weighAnew_52 : decode cX1_weighAnew 52 = .ok (.iload_n 2, 1) := by decide +kernel
theorem dX1_weighAnew_53 : decode cX1_weighAnew 53 = .ok (.iaload, 1) := by decide +kernel
theorem dX1_weighAnew_54 : decode cX1_weighAnew 54 = .ok (.aload_n 0, 1) := by decide +kernel
theorem dX1_weighAnew_55 : decode cX1_weighAnew 55 = .ok (.getfield 15, 3) := by decide +kernel
theorem dX1_weighAnew_58 : decode cX1_weighAnew 58 = .ok (.iload_n 2, 1) := by decide +kernel
theorem dX1_weighAnew_59 : decode cX1_weighAnew 59 = .ok (.iaload, 1) := by decide +kernel
theorem dX1_weighAnew_60 : decode cX1_weighAnew 60 = .ok (.if_icmp .eq 7, 3) := by decide +kernel
theorem dX1_weighAnew_63 : decode cX1_weighAnew 63 = .ok (.iconst 1, 1) := by decide +kernel
theorem dX1_weighAnew_64 : decode cX1_weighAnew 64 = .ok (.goto 4, 3) := by decide +kernel
theorem dX1_weighAnew_67 : decode cX1_weighAnew 67 = .ok (.iconst 0, 1) := by decide +kernel
theorem dX1_weighAnew_68 : decode cX1_weighAnew 68 = .ok (.istore_n 1, 1) := by decide +kernel
theorem dX1_weighAnew_69 : decode cX1_weighAnew 69 = .ok (.aload_n 0, 1) := by decide +kernel
theorem dX1_weighAnew_70 : decode cX1_weighAnew 70 = .ok (.getfield 11, 3) := by decide +kernel
theorem dX1_weighAnew_73 : decode cX1_weighAnew 73 = .ok (.iload_n 2, 1) := by decide +kernel
theorem dX1_weighAnew_74 : decode cX1_weighAnew 74 = .ok (.aload_n 0, 1) := by decide +kernel
theorem dX1_weighAnew_75 : decode cX1_weighAnew 75 = .ok (.getfield 15, 3) := by decide +kernel
theorem dX1_weighAnew_78 : decode cX1_weighAnew 78 = .ok (.iload_n 2, 1) := by decide +kernel
theorem dX1_weighAnew_79 : decode cX1_weighAnew 79 = .ok (.iaload, 1) := by decide +kernel
theorem dX1_weighAnew_80 : decode cX1_weighAnew 80 = .ok (.iastore, 1) := by decide +kernel
theorem dX1_weighAnew_81 : decode cX1_weighAnew 81 = .ok (.iinc 2 1, 3) := by decide +kernel
theorem dX1_weighAnew_84 : decode cX1_weighAnew 84 = .ok (.goto (-46), 3) := by decide +kernel
theorem dX1_weighAnew_87 : decode cX1_weighAnew 87 = .ok (.iload_n 1, 1) := by decide +kernel
theorem dX1_weighAnew_88 : decode cX1_weighAnew 88 = .ok (.ireturn, 1) := by decide +kernel
set_option maxRecDepth 20000 in
theorem ggX1_countBestPath_X1_showAt : GoodIn wsX1_countBestPath wsX1_showAt := goodIn_r _ [8] (by decide +kernel) (by decide +kernel)
set_option maxRecDepth 20000 in
theorem gX1_countBestPath_X1_showAt : GoodIn wsX1_countBestPath (va_wsS RX1 52 yX1_showAt wsX1_showAt) := goodIn_app (goodIn_of _ (by decide +kernel)) ggX1_countBestPath_X1_showAt
set_option maxRecDepth 20000 in
theorem ggX1_countBestPath_X1_moveAt : GoodIn wsX1_countBestPath wsX1_moveAt := goodIn_r _ [11] (by decide +kernel) (by decide +kernel)
set_option maxRecDepth 20000 in
theorem gX1_countBestPath_X1_moveAt : GoodIn wsX1_countBestPath (va_wsS RX1 45 yX1_moveAt wsX1_moveAt) := goodIn_app (goodIn_of _ (by decide +kernel)) ggX1_countBestPath_X1_moveAt
theorem dX1_countBestPath_0 : decode cX1_countBestPath 0 = .ok (.aload_n 0, 1) := by decide +kernel
theorem dX1_countBestPath_1 : decode cX1_countBestPath 1 = .ok (.getfield 15, 3) := by decide +kernel
theorem dX1_countBestPath_4 : decode cX1_countBestPath 4 = .ok (.aload_n 0, 1) := by decide +kernel
theorem dX1_countBestPath_5 : decode cX1_countBestPath 5 = .ok (.getfield 34, 3) := by decide +kernel
theorem dX1_countBestPath_8 : decode cX1_countBestPath 8 = .ok (.iconst 0, 1) := by decide +kernel
theorem dX1_countBestPath_9 : decode cX1_countBestPath 9 = .ok (.iaload, 1) := by decide +kernel
theorem dX1_countBestPath_10 : decode cX1_countBestPath 10 = .ok (.dup2, 1) := by decide +kernel
theorem dX1_countBestPath_11 : decode cX1_countBestPath 11 = .ok (.iaload, 1) := by decide +kernel
theorem dX1_countBestPath_12 : decode cX1_countBestPath 12 = .ok (.iconst 1, 1) := by decide +kernel
theorem dX1_countBestPath_13 : decode cX1_countBestPath 13 = .ok (.iadd, 1) := by decide +kernel
theorem dX1_countBestPath_14 : decode cX1_countBestPath 14 = .ok (.iastore, 1) := by decide +kernel
theorem dX1_countBestPath_15 : decode cX1_countBestPath 15 = .ok (.iconst 0, 1) := by decide +kernel
theorem dX1_countBestPath_16 : decode cX1_countBestPath 16 = .ok (.istore_n 2, 1) := by decide +kernel
theorem dX1_countBestPath_17 : decode cX1_countBestPath 17 = .ok (.iload_n 2, 1) := by decide +kernel
theorem dX1_countBestPath_18 : decode cX1_countBestPath 18 = .ok (.aload_n 0, 1) := by decide +kernel
theorem dX1_countBestPath_19 : decode cX1_countBestPath 19 = .ok (.getfield 21, 3) := by decide +kernel
theorem dX1_countBestPath_22 : decode cX1_countBestPath 22 = .ok (.iload_n 1, 1) := by decide +kernel
theorem dX1_countBestPath_23 : decode cX1_countBestPath 23 = .ok (.iaload, 1) := by decide +kernel
theorem dX1_countBestPath_24 : decode cX1_countBestPath 24 = .ok (.if_icmp .ge 67, 3) := by decide +kernel
theorem dX1_countBestPath_27 : decode cX1_countBestPath 27 = .ok (.aload_n 0, 1) := by decide +kernel
theorem dX1_countBestPath_28 : decode cX1_countBestPath 28 = .ok (.getfield 15, 3) := by decide +kernel
theorem dX1_countBestPath_31 : decode cX1_countBestPath 31 = .ok (.aload_n 0, 1) := by decide +kernel
theorem dX1_countBestPath_32 : decode cX1_countBestPath 32 = .ok (.getfield 34, 3) := by decide +kernel
theorem dX1_countBestPath_35 : decode cX1_countBestPath 35 = .ok (.iload_n 2, 1) := by decide +kernel
theorem dX1_countBestPath_36 : decode cX1_countBestPath 36 = .ok (.iaload, 1) := by decide +kernel
theorem dX1_countBestPath_37 : decode cX1_countBestPath 37 = .ok (.aload_n 0, 1) := by decide +kernel
theorem dX1_countBestPath_38 : decode cX1_countBestPath 38 = .ok (.getfield 18, 3) := by decide +kernel
theorem dX1_countBestPath_41 : decode cX1_countBestPath 41 = .ok (.iload_n 1, 1) := by decide +kernel
theorem dX1_countBestPath_42 : decode cX1_countBestPath 42 = .ok (.iconst 5, 1) := by decide +kernel
theorem dX1_countBestPath_43 : decode cX1_countBestPath 43 = .ok (.imul, 1) := by decide +kernel
theorem dX1_countBestPath_44 : decode cX1_countBestPath 44 = .ok (.iload_n 2, 1) := by decide +kernel
theorem dX1_countBestPath_45 : decode cX1_countBestPath 45 = .ok (.iadd, 1) := by decide +kernel
theorem dX1_countBestPath_46 : decode cX1_countBestPath 46 = .ok (.iaload, 1) := by decide +kernel
theorem dX1_countBestPath_47 : decode cX1_countBestPath 47 = .ok (.invokestatic 52, 3) := by decide +kernel
theorem dX1_countBestPath_50 : decode cX1_countBestPath 50 = .ok (.dup2, 1) := by decide +kernel
theorem dX1_countBestPath_51 : decode cX1_countBestPath 51 = .ok (.iaload, 1) := by decide +kernel
theorem dX1_countBestPath_52 : decode cX1_countBestPath 52 = .ok (.iconst 1, 1) := by decide +kernel
theorem dX1_countBestPath_53 : decode cX1_countBestPath 53 = .ok (.iadd, 1) := by decide +kernel
theorem dX1_countBestPath_54 : decode cX1_countBestPath 54 = .ok (.iastore, 1) := by decide +kernel
theorem dX1_countBestPath_55 : decode cX1_countBestPath 55 = .ok (.iload_n 2, 1) := by decide +kernel
theorem dX1_countBestPath_56 : decode cX1_countBestPath 56 = .ok (.ifCond .le 29, 3) := by decide +kernel
theorem dX1_countBestPath_59 : decode cX1_countBestPath 59 = .ok (.aload_n 0, 1) := by decide +kernel
theorem dX1_countBestPath_60 : decode cX1_countBestPath 60 = .ok (.getfield 15, 3) := by decide +kernel
theorem dX1_countBestPath_63 : decode cX1_countBestPath 63 = .ok (.aload_n 0, 1) := by decide +kernel
theorem dX1_countBestPath_64 : decode cX1_countBestPath 64 = .ok (.getfield 34, 3) := by decide +kernel
theorem dX1_countBestPath_67 : decode cX1_countBestPath 67 = .ok (.iload_n 2, 1) := by decide +kernel
theorem dX1_countBestPath_68 : decode cX1_countBestPath 68 = .ok (.iconst 1, 1) := by decide +kernel
theorem dX1_countBestPath_69 : decode cX1_countBestPath 69 = .ok (.isub, 1) := by decide +kernel
theorem dX1_countBestPath_70 : decode cX1_countBestPath 70 = .ok (.iaload, 1) := by decide +kernel
theorem dX1_countBestPath_71 : decode cX1_countBestPath 71 = .ok (.aload_n 0, 1) := by decide +kernel
theorem dX1_countBestPath_72 : decode cX1_countBestPath 72 = .ok (.getfield 34, 3) := by decide +kernel
theorem dX1_countBestPath_75 : decode cX1_countBestPath 75 = .ok (.iload_n 2, 1) := by decide +kernel
theorem dX1_countBestPath_76 : decode cX1_countBestPath 76 = .ok (.iaload, 1) := by decide +kernel
theorem dX1_countBestPath_77 : decode cX1_countBestPath 77 = .ok (.invokestatic 45, 3) := by decide +kernel
theorem dX1_countBestPath_80 : decode cX1_countBestPath 80 = .ok (.dup2, 1) := by decide +kernel
theorem dX1_countBestPath_81 : decode cX1_countBestPath 81 = .ok (.iaload, 1) := by decide +kernel
theorem dX1_countBestPath_82 : decode cX1_countBestPath 82 = .ok (.iconst 1, 1) := by decide +kernel
theorem dX1_countBestPath_83 : decode cX1_countBestPath 83 = .ok (.iadd, 1) := by decide +kernel
theorem dX1_countBestPath_84 : decode cX1_countBestPath 84 = .ok (.iastore, 1) := by decide +kernel
theorem dX1_countBestPath_85 : decode cX1_countBestPath 85 = .ok (.iinc 2 1, 3) := by decide +kernel
theorem dX1_countBestPath_88 : decode cX1_countBestPath 88 = .ok (.goto (-71), 3) := by decide +kernel
theorem dX1_countBestPath_91 : decode cX1_countBestPath 91 = .ok (.return_, 1) := by decide +kernel
theorem dX2_init_0 : decode cX2_init 0 = .ok (.aload_n 0, 1) := by decide +kernel
theorem dX2_init_1 : decode cX2_init 1 = .ok (.invokespecial 3, 3) := by decide +kernel
theorem dX2_init_4 : decode cX2_init 4 = .ok (.aload_n 0, 1) := by decide +kernel
theorem dX2_init_5 : decode cX2_init 5 = .ok (.bipush 40, 2) := by decide +kernel
theorem dX2_init_7 : decode cX2_init 7 = .ok (.newarray .int, 2) := by decide +kernel
theorem dX2_init_9 : decode cX2_init 9 = .ok (.putfield 11, 3) := by decide +kernel
theorem dX2_init_12 : decode cX2_init 12 = .ok (.aload_n 0, 1) := by decide +kernel
theorem dX2_init_13 : decode cX2_init 13 = .ok (.bipush 40, 2) := by decide +kernel
theorem dX2_init_15 : decode cX2_init 15 = .ok (.newarray .int, 2) := by decide +kernel
theorem dX2_init_17 : decode cX2_init 17 = .ok (.putfield 15, 3) := by decide +kernel
theorem dX2_init_20 : decode cX2_init 20 = .ok (.aload_n 0, 1) := by decide +kernel
theorem dX2_init_21 : decode cX2_init 21 = .ok (.bipush 40, 2) := by decide +kernel
theorem dX2_init_23 : decode cX2_init 23 = .ok (.newarray .int, 2) := by decide +kernel
theorem dX2_init_25 : decode cX2_init 25 = .ok (.putfield 18, 3) := by decide +kernel
theorem dX2_init_28 : decode cX2_init 28 = .ok (.aload_n 0, 1) := by decide +kernel
theorem dX2_init_29 : decode cX2_init 29 = .ok (.sipush 240, 3) := by decide +kernel
theorem dX2_init_32 : decode cX2_init 32 = .ok (.newarray .int, 2) := by decide +kernel
theorem dX2_init_34 : decode cX2_init 34 = .ok (.putfield 21, 3) := by decide +kernel
theorem dX2_init_37 : decode cX2_init 37 = .ok (.aload_n 0, 1) := by decide +kernel
theorem dX2_init_38 : decode cX2_init 38 = .ok (.bipush 32, 2) := by decide +kernel
theorem dX2_init_40 : decode cX2_init 40 = .ok (.newarray .int, 2) := by decide +kernel
theorem dX2_init_42 : decode cX2_init 42 = .ok (.putfield 24, 3) := by decide +kernel
theorem dX2_init_45 : decode cX2_init 45 = .ok (.aload_n 0, 1) := by decide +kernel
theorem dX2_init_46 : decode cX2_init 46 = .ok (.iconst 4, 1) := by decide +kernel
theorem dX2_init_47 : decode cX2_init 47 = .ok (.newarray .int, 2) := by decide +kernel
theorem dX2_init_49 : decode cX2_init 49 = .ok (.putfield 27, 3) := by decide +kernel
theorem dX2_init_52 : decode cX2_init 52 = .ok (.aload_n 0, 1) := by decide +kernel
theorem dX2_init_53 : decode cX2_init 53 = .ok (.iconst 4, 1) := by decide +kernel
theorem dX2_init_54 : decode cX2_init 54 = .ok (.newarray .int, 2) := by decide +kernel
theorem dX2_init_56 : decode cX2_init 56 = .ok (.putfield 30, 3) := by decide +kernel
theorem dX2_init_59 : decode cX2_init 59 = .ok (.aload_n 0, 1) := by decide +kernel
theorem dX2_init_60 : decode cX2_init 60 = .ok (.iconst 0, 1) := by decide +kernel
theorem dX2_init_61 : decode cX2_init 61 = .ok (.putfield 33, 3) := by decide +kernel
theorem dX2_init_64 : decode cX2_init 64 = .ok (.aload_n 0, 1) := by decide +kernel
theorem dX2_init_65 : decode cX2_init 65 = .ok (.iconst 1, 1) := by decide +kernel
theorem dX2_init_66 : decode cX2_init 66 = .ok (.putfield 37, 3) := by decide +kernel
theorem dX2_init_69 : decode cX2_init 69 = .ok (.aload_n 0, 1) := by decide +kernel
theorem dX2_init_70 : decode cX2_init 70 = .ok (.iconst 1, 1) := by decide +kernel
theorem dX2_init_71 : decode cX2_init 71 = .ok (.putfield 40, 3) := by decide +kernel
theorem dX2_init_74 : decode cX2_init 74 = .ok (.return_, 1) := by decide +kernel
theorem dX2_has_0 : decode cX2_has 0 = .ok (.iload_n 1, 1) := by decide +kernel
theorem dX2_has_1 : decode cX2_has 1 = .ok (.ifCond .lt 15, 3) := by decide +kernel
theorem dX2_has_4 : decode cX2_has 4 = .ok (.iload_n 1, 1) := by decide +kernel
theorem dX2_has_5 : decode cX2_has 5 = .ok (.aload_n 0, 1) := by decide +kernel
theorem dX2_has_6 : decode cX2_has 6 = .ok (.getfield 33, 3) := by decide +kernel
theorem dX2_has_9 : decode cX2_has 9 = .ok (.if_icmp .ge 7, 3) := by decide +kernel
theorem dX2_has_12 : decode cX2_has 12 = .ok (.iconst 1, 1) := by decide +kernel
theorem dX2_has_13 : decode cX2_has 13 = .ok (.goto 4, 3) := by decide +kernel
theorem dX2_has_16 : decode cX2_has 16 = .ok (.iconst 0, 1) := by decide +kernel
theorem dX2_has_17 : decode cX2_has 17 = .ok (.ireturn, 1) := by decide +kernel
theorem dX2_isFull_0 : decode cX2_isFull 0 = .ok (.aload_n 0, 1) := by decide +kernel
theorem dX2_isFull_1 : decode cX2_isFull 1 = .ok (.getfield 33, 3) := by decide +kernel
theorem dX2_isFull_4 : decode cX2_isFull 4 = .ok (.bipush 40, 2) := by decide +kernel
theorem dX2_isFull_6 : decode cX2_isFull 6 = .ok (.if_icmp .lt 7, 3) := by decide +kernel
theorem dX2_isFull_9 : decode cX2_isFull 9 = .ok (.iconst 1, 1) := by decide +kernel
theorem dX2_isFull_10 : decode cX2_isFull 10 = .ok (.goto 4, 3) := by decide +kernel
theorem dX2_isFull_13 : decode cX2_isFull 13 = .ok (.iconst 0, 1) := by decide +kernel
theorem dX2_isFull_14 : decode cX2_isFull 14 = .ok (.ireturn, 1) := by decide +kernel
theorem dX2_isFullRow_0 : decode cX2_isFullRow 0 = .ok (.aload_n 0, 1) := by decide +kernel
theorem dX2_isFullRow_1 : decode cX2_isFullRow 1 = .ok (.getfield 18, 3) := by decide +kernel
theorem dX2_isFullRow_4 : decode cX2_isFullRow 4 = .ok (.iload_n 1, 1) := by decide +kernel
theorem dX2_isFullRow_5 : decode cX2_isFullRow 5 = .ok (.iaload, 1) := by decide +kernel
theorem dX2_isFullRow_6 : decode cX2_isFullRow 6 = .ok (.bipush 6, 2) := by decide +kernel
theorem dX2_isFullRow_8 : decode cX2_isFullRow 8 = .ok (.if_icmp .lt 7, 3) := by decide +kernel
theorem dX2_isFullRow_11 : decode cX2_isFullRow 11 = .ok (.iconst 1, 1) := by decide +kernel
theorem dX2_isFullRow_12 : decode cX2_isFullRow 12 = .ok (.goto 4, 3) := by decide +kernel
theorem dX2_isFullRow_15 : decode cX2_isFullRow 15 = .ok (.iconst 0, 1) := by decide +kernel
theorem dX2_isFullRow_16 : decode cX2_isFullRow 16 = .ok (.ireturn, 1) := by decide +kernel
theorem dX2_size_0 : decode cX2_size 0 = .ok (.aload_n 0, 1) := by decide +kernel
theorem dX2_size_1 : decode cX2_size 1 = .ok (.getfield 33, 3) := by decide +kernel
theorem dX2_size_4 : decode cX2_size 4 = .ok (.ireturn, 1) := by decide +kernel
theorem dX2_labelledRows_0 : decode cX2_labelledRows 0 = .ok (.iconst 0, 1) := by decide +kernel
theorem dX2_labelledRows_1 : decode cX2_labelledRows 1 = .ok (.istore_n 1, 1) := by decide +kernel
theorem dX2_labelledRows_2 : decode cX2_labelledRows 2 = .ok (.iconst 0, 1) := by decide +kernel
theorem dX2_labelledRows_3 : decode cX2_labelledRows 3 = .ok (.istore_n 2, 1) := by decide +kernel
theorem dX2_labelledRows_4 : decode cX2_labelledRows 4 = .ok (.iload_n 2, 1) := by decide +kernel
theorem dX2_labelledRows_5 : decode cX2_labelledRows 5 = .ok (.aload_n 0, 1) := by decide +kernel
theorem dX2_labelledRows_6 : decode cX2_labelledRows 6 = .ok (.getfield 33, 3) := by decide +kernel
theorem dX2_labelledRows_9 : decode cX2_labelledRows 9 = .ok (.if_icmp .ge 22, 3) := by decide +kernel
theorem dX2_labelledRows_12 : decode cX2_labelledRows 12 = .ok (.aload_n 0, 1) := by decide +kernel
theorem dX2_labelledRows_13 : decode cX2_labelledRows 13 = .ok (.getfield 11, 3) := by decide +kernel
theorem dX2_labelledRows_16 : decode cX2_labelledRows 16 = .ok (.iload_n 2, 1) := by decide +kernel
theorem dX2_labelledRows_17 : decode cX2_labelledRows 17 = .ok (.iaload, 1) := by decide +kernel
theorem dX2_labelledRows_18 : decode cX2_labelledRows 18 = .ok (.iconst (-1), 1) := by decide +kernel
theorem dX2_labelledRows_19 : decode cX2_labelledRows 19 = .ok (.if_icmp .eq 6, 3) := by decide +kernel
theorem dX2_labelledRows_22 : decode cX2_labelledRows 22 = .ok (.iinc 1 1, 3) := by decide +kernel
theorem dX2_labelledRows_25 : decode cX2_labelledRows 25 = .ok (.iinc 2 1, 3) := by decide +kernel
theorem dX2_labelledRows_28 : decode cX2_labelledRows 28 = .ok (.goto (-24), 3) := by decide +kernel
theorem dX2_labelledRows_31 : decode cX2_labelledRows 31 = .ok (.iload_n 1, 1) := by decide +kernel
theorem dX2_labelledRows_32 : decode cX2_labelledRows 32 = .ok (.ireturn, 1) := by decide +kernel
set_option maxRecDepth 20000 in
theorem ggX2_open_X2_startAnew : GoodIn wsX2_open wsX2_startAnew := goodIn_r _ [7, 8, 9, 10, 11, 12, 13, 14, 6, 15, 16, 17, 18, 1, 2, 19, 20, 21, 22, 23, 24, 25, 26, 27, 28, 29, 30, 31, 32, 33, 34] (by decide +kernel) (by decide +kernel)
set_option maxRecDepth 20000 in
theorem gX2_open_X2_startAnew : GoodIn wsX2_open (wsV RX2 43 RX2 yX2_startAnew wsX2_startAnew) := goodIn_app (goodIn_of _ (by decide +kernel)) ggX2_open_X2_startAnew
theorem dX2_open_0 : decode cX2_open 0 = .ok (.aload_n 0, 1) := by decide +kernel
theorem dX2_open_1 : decode cX2_open 1 = .ok (.getfield 33, 3) := by decide +kernel
theorem dX2_open_4 : decode cX2_open 4 = .ok (.istore_n 2, 1) := by decide +kernel
theorem dX2_open_5 : decode cX2_open 5 = .ok (.aload_n 0, 1) := by decide +kernel
theorem dX2_open_6 : decode cX2_open 6 = .ok (.getfield 11, 3) := by decide +kernel
theorem dX2_open_9 : decode cX2_open 9 = .ok (.iload_n 2, 1) := by decide +kernel
theorem dX2_open_10 : decode cX2_open 10 = .ok (.iload_n 1, 1) := by decide +kernel
theorem dX2_open_11 : decode cX2_open 11 = .ok (.iastore, 1) := by decide +kernel
theorem dX2_open_12 : decode cX2_open 12 = .ok (.aload_n 0, 1) := by decide +kernel
theorem dX2_open_13 : decode cX2_open 13 = .ok (.dup, 1) := by decide +kernel
theorem dX2_open_14 : decode cX2_open 14 = .ok (.getfield 33, 3) := by decide +kernel
theorem dX2_open_17 : decode cX2_open 17 = .ok (.iconst 1, 1) := by decide +kernel
theorem dX2_open_18 : decode cX2_open 18 = .ok (.iadd, 1) := by decide +kernel
theorem dX2_open_19 : decode cX2_open 19 = .ok (.putfield 33, 3) := by decide +kernel
theorem dX2_open_22 : decode cX2_open 22 = .ok (.aload_n 0, 1) := by decide +kernel
theorem dX2_open_23 : decode cX2_open 23 = .ok (.invokevirtual 43, 3) := by decide +kernel
theorem dX2_open_26 : decode cX2_open 26 = .ok (.iload_n 2, 1) := by decide +kernel
theorem dX2_open_27 : decode cX2_open 27 = .ok (.ireturn, 1) := by decide +kernel
set_option maxRecDepth 20000 in
theorem ggX2_append_X2_startAnew : GoodIn wsX2_append wsX2_startAnew := goodIn_r _ [7, 8, 9, 10, 11, 12, 13, 14, 6, 15, 16, 17, 18, 19, 20, 21, 22, 23, 24, 2, 1, 25, 26, 27, 28, 29, 30, 31, 32, 33, 34] (by decide +kernel) (by decide +kernel)
set_option maxRecDepth 20000 in
theorem gX2_append_X2_startAnew : GoodIn wsX2_append (wsV RX2 43 RX2 yX2_startAnew wsX2_startAnew) := goodIn_app (goodIn_of _ (by decide +kernel)) ggX2_append_X2_startAnew
theorem dX2_append_0 : decode cX2_append 0 = .ok (.aload_n 0, 1) := by decide +kernel
theorem dX2_append_1 : decode cX2_append 1 = .ok (.getfield 21, 3) := by decide +kernel
theorem dX2_append_4 : decode cX2_append 4 = .ok (.iload_n 1, 1) := by decide +kernel
theorem dX2_append_5 : decode cX2_append 5 = .ok (.bipush 6, 2) := by decide +kernel
theorem dX2_append_7 : decode cX2_append 7 = .ok (.imul, 1) := by decide +kernel
theorem dX2_append_8 : decode cX2_append 8 = .ok (.aload_n 0, 1) := by decide +kernel
theorem dX2_append_9 : decode cX2_append 9 = .ok (.getfield 18, 3) := by decide +kernel
theorem dX2_append_12 : decode cX2_append 12 = .ok (.iload_n 1, 1) := by decide +kernel
theorem dX2_append_13 : decode cX2_append 13 = .ok (.iaload, 1) := by decide +kernel
theorem dX2_append_14 : decode cX2_append 14 = .ok (.iadd, 1) := by decide +kernel
theorem dX2_append_15 : decode cX2_append 15 = .ok (.iload_n 2, 1) := by decide +kernel
theorem dX2_append_16 : decode cX2_append 16 = .ok (.iastore, 1) := by decide +kernel
theorem dX2_append_17 : decode cX2_append 17 = .ok (.aload_n 0, 1) := by decide +kernel
theorem dX2_append_18 : decode cX2_append 18 = .ok (.getfield 18, 3) := by decide +kernel
theorem dX2_append_21 : decode cX2_append 21 = .ok (.iload_n 1, 1) := by decide +kernel
theorem dX2_append_22 : decode cX2_append 22 = .ok (.dup2, 1) := by decide +kernel
theorem dX2_append_23 : decode cX2_append 23 = .ok (.iaload, 1) := by decide +kernel
theorem dX2_append_24 : decode cX2_append 24 = .ok (.iconst 1, 1) := by decide +kernel
theorem dX2_append_25 : decode cX2_append 25 = .ok (.iadd, 1) := by decide +kernel
theorem dX2_append_26 : decode cX2_append 26 = .ok (.iastore, 1) := by decide +kernel
theorem dX2_append_27 : decode cX2_append 27 = .ok (.aload_n 0, 1) := by decide +kernel
theorem dX2_append_28 : decode cX2_append 28 = .ok (.invokevirtual 43, 3) := by decide +kernel
theorem dX2_append_31 : decode cX2_append 31 = .ok (.aload_n 0, 1) := by decide +kernel
theorem dX2_append_32 : decode cX2_append 32 = .ok (.getfield 18, 3) := by decide +kernel
theorem dX2_append_35 : decode cX2_append 35 = .ok (.iload_n 1, 1) := by decide +kernel
theorem dX2_append_36 : decode cX2_append 36 = .ok (.iaload, 1) := by decide +kernel
theorem dX2_append_37 : decode cX2_append 37 = .ok (.ireturn, 1) := by decide +kernel
set_option maxRecDepth 20000 in
theorem ggX2_relabel_X2_startAnew : GoodIn wsX2_relabel wsX2_startAnew := goodIn_r _ [6, 7, 8, 9, 10, 11, 12, 13, 5, 14, 15, 16, 17, 18, 1, 19, 20, 21, 22, 23, 24, 25, 26, 27, 28, 29, 30, 31, 32, 33, 34] (by decide +kernel) (by decide +kernel)
set_option maxRecDepth 20000 in
theorem gX2_relabel_X2_startAnew : GoodIn wsX2_relabel (wsV RX2 43 RX2 yX2_startAnew wsX2_startAnew) := goodIn_app (goodIn_of _ (by decide +kernel)) ggX2_relabel_X2_startAnew
theorem dX2_relabel_0 : decode cX2_relabel 0 = .ok (.aload_n 0, 1) := by decide +kernel
theorem dX2_relabel_1 : decode cX2_relabel 1 = .ok (.getfield 11, 3) := by decide +kernel
theorem dX2_relabel_4 : decode cX2_relabel 4 = .ok (.iload_n 1, 1) := by decide +kernel
theorem dX2_relabel_5 : decode cX2_relabel 5 = .ok (.iaload, 1) := by decide +kernel
theorem dX2_relabel_6 : decode cX2_relabel 6 = .ok (.istore_n 3, 1) := by decide +kernel
theorem dX2_relabel_7 : decode cX2_relabel 7 = .ok (.aload_n 0, 1) := by decide +kernel
theorem dX2_relabel_8 : decode cX2_relabel 8 = .ok (.getfield 11, 3) := by decide +kernel
theorem dX2_relabel_11 : decode cX2_relabel 11 = .ok (.iload_n 1, 1) := by decide +kernel
theorem dX2_relabel_12 : decode cX2_relabel 12 = .ok (.iload_n 2, 1) := by decide +kernel
theorem dX2_relabel_13 : decode cX2_relabel 13 = .ok (.iastore, 1) := by decide +kernel
theorem dX2_relabel_14 : decode cX2_relabel 14 = .ok (.aload_n 0, 1) := by decide +kernel
theorem dX2_relabel_15 : decode cX2_relabel 15 = .ok (.invokevirtual 43, 3) := by decide +kernel
theorem dX2_relabel_18 : decode cX2_relabel 18 = .ok (.iload_n 3, 1) := by decide +kernel
theorem dX2_relabel_19 : decode cX2_relabel 19 = .ok (.ireturn, 1) := by decide +kernel
set_option maxRecDepth 20000 in
theorem ggX2_setAddition_X2_startAnew : GoodIn wsX2_setAddition wsX2_startAnew := goodIn_r _ [7, 8, 9, 10, 11, 12, 13, 14, 6, 15, 16, 17, 18, 19, 20, 21, 22, 23, 24, 25, 26, 27, 28, 29, 30, 31, 32, 33, 34, 35, 36] (by decide +kernel) (by decide +kernel)
end
section
set_option maxRecDepth 20000 in
theorem gX2_setAddition_X2_startAnew : GoodIn wsX2_setAddition (wsV RX2 43 RX2 yX2_startAnew wsX2_startAnew) := goodIn_app (goodIn_of _ (by decide +kernel)) ggX2_setAddition_X2_startAnew
theorem dX2_setAddition_0 : decode cX2_setAddition 0 = .ok (.aload_n 0, 1) := by decide +kernel
theorem dX2_setAddition_1 : decode cX2_setAddition 1 = .ok (.iload_n 1, 1) := by decide +kernel
theorem dX2_setAddition_2 : decode cX2_setAddition 2 = .ok (.putfield 37, 3) := by decide +kernel
theorem dX2_setAddition_5 : decode cX2_setAddition 5 = .ok (.aload_n 0, 1) := by decide +kernel
theorem dX2_setAddition_6 : decode cX2_setAddition 6 = .ok (.iload_n 2, 1) := by decide +kernel
theorem dX2_setAddition_7 : decode cX2_setAddition 7 = .ok (.putfield 40, 3) := by decide +kernel
theorem dX2_setAddition_10 : decode cX2_setAddition 10 = .ok (.aload_n 0, 1) := by decide +kernel
theorem dX2_setAddition_11 : decode cX2_setAddition 11 = .ok (.invokevirtual 43, 3) := by decide +kernel
theorem dX2_setAddition_14 : decode cX2_setAddition 14 = .ok (.return_, 1) := by decide +kernel
theorem dX2_timesIn_0 : decode cX2_timesIn 0 = .ok (.aload_n 0, 1) := by decide +kernel
theorem dX2_timesIn_1 : decode cX2_timesIn 1 = .ok (.getfield 24, 3) := by decide +kernel
theorem dX2_timesIn_4 : decode cX2_timesIn 4 = .ok (.iload_n 1, 1) := by decide +kernel
theorem dX2_timesIn_5 : decode cX2_timesIn 5 = .ok (.bipush 8, 2) := by decide +kernel
theorem dX2_timesIn_7 : decode cX2_timesIn 7 = .ok (.imul, 1) := by decide +kernel
theorem dX2_timesIn_8 : decode cX2_timesIn 8 = .ok (.iload_n 2, 1) := by decide +kernel
theorem dX2_timesIn_9 : decode cX2_timesIn 9 = .ok (.iadd, 1) := by decide +kernel
theorem dX2_timesIn_10 : decode cX2_timesIn 10 = .ok (.iaload, 1) := by decide +kernel
theorem dX2_timesIn_11 : decode cX2_timesIn 11 = .ok (.ireturn, 1) := by decide +kernel
theorem dX2_wordsIn_0 : decode cX2_wordsIn 0 = .ok (.aload_n 0, 1) := by decide +kernel
theorem dX2_wordsIn_1 : decode cX2_wordsIn 1 = .ok (.getfield 27, 3) := by decide +kernel
theorem dX2_wordsIn_4 : decode cX2_wordsIn 4 = .ok (.iload_n 1, 1) := by decide +kernel
theorem dX2_wordsIn_5 : decode cX2_wordsIn 5 = .ok (.iaload, 1) := by decide +kernel
theorem dX2_wordsIn_6 : decode cX2_wordsIn 6 = .ok (.ireturn, 1) := by decide +kernel
theorem dX2_rowsIn_0 : decode cX2_rowsIn 0 = .ok (.aload_n 0, 1) := by decide +kernel
theorem dX2_rowsIn_1 : decode cX2_rowsIn 1 = .ok (.getfield 30, 3) := by decide +kernel
theorem dX2_rowsIn_4 : decode cX2_rowsIn 4 = .ok (.iload_n 1, 1) := by decide +kernel
theorem dX2_rowsIn_5 : decode cX2_rowsIn 5 = .ok (.iaload, 1) := by decide +kernel
theorem dX2_rowsIn_6 : decode cX2_rowsIn 6 = .ok (.ireturn, 1) := by decide +kernel
theorem dX2_guessOf_0 : decode cX2_guessOf 0 = .ok (.aload_n 0, 1) := by decide +kernel
theorem dX2_guessOf_1 : decode cX2_guessOf 1 = .ok (.getfield 15, 3) := by decide +kernel
theorem dX2_guessOf_4 : decode cX2_guessOf 4 = .ok (.iload_n 1, 1) := by decide +kernel
theorem dX2_guessOf_5 : decode cX2_guessOf 5 = .ok (.iaload, 1) := by decide +kernel
theorem dX2_guessOf_6 : decode cX2_guessOf 6 = .ok (.ireturn, 1) := by decide +kernel
theorem dX2_wordSet_0 : decode cX2_wordSet 0 = .ok (.iconst 0, 1) := by decide +kernel
theorem dX2_wordSet_1 : decode cX2_wordSet 1 = .ok (.istore_n 2, 1) := by decide +kernel
theorem dX2_wordSet_2 : decode cX2_wordSet 2 = .ok (.iconst 0, 1) := by decide +kernel
theorem dX2_wordSet_3 : decode cX2_wordSet 3 = .ok (.istore_n 3, 1) := by decide +kernel
theorem dX2_wordSet_4 : decode cX2_wordSet 4 = .ok (.iload_n 3, 1) := by decide +kernel
theorem dX2_wordSet_5 : decode cX2_wordSet 5 = .ok (.aload_n 0, 1) := by decide +kernel
theorem dX2_wordSet_6 : decode cX2_wordSet 6 = .ok (.getfield 18, 3) := by decide +kernel
theorem dX2_wordSet_9 : decode cX2_wordSet 9 = .ok (.iload_n 1, 1) := by decide +kernel
theorem dX2_wordSet_10 : decode cX2_wordSet 10 = .ok (.iaload, 1) := by decide +kernel
theorem dX2_wordSet_11 : decode cX2_wordSet 11 = .ok (.if_icmp .ge 25, 3) := by decide +kernel
theorem dX2_wordSet_14 : decode cX2_wordSet 14 = .ok (.iload_n 2, 1) := by decide +kernel
theorem dX2_wordSet_15 : decode cX2_wordSet 15 = .ok (.iconst 1, 1) := by decide +kernel
theorem dX2_wordSet_16 : decode cX2_wordSet 16 = .ok (.aload_n 0, 1) := by decide +kernel
theorem dX2_wordSet_17 : decode cX2_wordSet 17 = .ok (.getfield 21, 3) := by decide +kernel
theorem dX2_wordSet_20 : decode cX2_wordSet 20 = .ok (.iload_n 1, 1) := by decide +kernel
theorem dX2_wordSet_21 : decode cX2_wordSet 21 = .ok (.bipush 6, 2) := by decide +kernel
theorem dX2_wordSet_23 : decode cX2_wordSet 23 = .ok (.imul, 1) := by decide +kernel
theorem dX2_wordSet_24 : decode cX2_wordSet 24 = .ok (.iload_n 3, 1) := by decide +kernel
theorem dX2_wordSet_25 : decode cX2_wordSet 25 = .ok (.iadd, 1) := by decide +kernel
theorem dX2_wordSet_26 : decode cX2_wordSet 26 = .ok (.iaload, 1) := by decide +kernel
theorem dX2_wordSet_27 : decode cX2_wordSet 27 = .ok (.ishl, 1) := by decide +kernel
theorem dX2_wordSet_28 : decode cX2_wordSet 28 = .ok (.ior, 1) := by decide +kernel
theorem dX2_wordSet_29 : decode cX2_wordSet 29 = .ok (.istore_n 2, 1) := by decide +kernel
theorem dX2_wordSet_30 : decode cX2_wordSet 30 = .ok (.iinc 3 1, 3) := by decide +kernel
theorem dX2_wordSet_33 : decode cX2_wordSet 33 = .ok (.goto (-29), 3) := by decide +kernel
theorem dX2_wordSet_36 : decode cX2_wordSet 36 = .ok (.iload_n 2, 1) := by decide +kernel
theorem dX2_wordSet_37 : decode cX2_wordSet 37 = .ok (.ireturn, 1) := by decide +kernel
set_option maxRecDepth 20000 in
theorem ggX2_shareUpper_X2_timesIn : GoodIn wsX2_shareUpper wsX2_timesIn := goodIn_r _ [7, 8, 9, 10, 11, 12, 13, 14, 15, 16, 17, 18] (by decide +kernel) (by decide +kernel)
set_option maxRecDepth 20000 in
theorem gX2_shareUpper_X2_timesIn : GoodIn wsX2_shareUpper (wsV RX2 46 RX2 yX2_timesIn wsX2_timesIn) := goodIn_app (goodIn_of _ (by decide +kernel)) ggX2_shareUpper_X2_timesIn
theorem dX2_shareUpper_0 : decode cX2_shareUpper 0 = .ok (.aload_n 0, 1) := by decide +kernel
theorem dX2_shareUpper_1 : decode cX2_shareUpper 1 = .ok (.iload_n 1, 1) := by decide +kernel
theorem dX2_shareUpper_2 : decode cX2_shareUpper 2 = .ok (.iload_n 2, 1) := by decide +kernel
theorem dX2_shareUpper_3 : decode cX2_shareUpper 3 = .ok (.invokevirtual 46, 3) := by decide +kernel
theorem dX2_shareUpper_6 : decode cX2_shareUpper 6 = .ok (.i2l, 1) := by decide +kernel
theorem dX2_shareUpper_7 : decode cX2_shareUpper 7 = .ok (.aload_n 0, 1) := by decide +kernel
theorem dX2_shareUpper_8 : decode cX2_shareUpper 8 = .ok (.getfield 40, 3) := by decide +kernel
theorem dX2_shareUpper_11 : decode cX2_shareUpper 11 = .ok (.i2l, 1) := by decide +kernel
theorem dX2_shareUpper_12 : decode cX2_shareUpper 12 = .ok (.lmul, 1) := by decide +kernel
theorem dX2_shareUpper_13 : decode cX2_shareUpper 13 = .ok (.aload_n 0, 1) := by decide +kernel
theorem dX2_shareUpper_14 : decode cX2_shareUpper 14 = .ok (.getfield 37, 3) := by decide +kernel
theorem dX2_shareUpper_17 : decode cX2_shareUpper 17 = .ok (.i2l, 1) := by decide +kernel
theorem dX2_shareUpper_18 : decode cX2_shareUpper 18 = .ok (.ladd, 1) := by decide +kernel
theorem dX2_shareUpper_19 : decode cX2_shareUpper 19 = .ok (.lreturn, 1) := by decide +kernel
theorem dX2_shareLower_0 : decode cX2_shareLower 0 = .ok (.aload_n 0, 1) := by decide +kernel
theorem dX2_shareLower_1 : decode cX2_shareLower 1 = .ok (.getfield 27, 3) := by decide +kernel
theorem dX2_shareLower_4 : decode cX2_shareLower 4 = .ok (.iload_n 1, 1) := by decide +kernel
theorem dX2_shareLower_5 : decode cX2_shareLower 5 = .ok (.iaload, 1) := by decide +kernel
theorem dX2_shareLower_6 : decode cX2_shareLower 6 = .ok (.i2l, 1) := by decide +kernel
theorem dX2_shareLower_7 : decode cX2_shareLower 7 = .ok (.aload_n 0, 1) := by decide +kernel
theorem dX2_shareLower_8 : decode cX2_shareLower 8 = .ok (.getfield 40, 3) := by decide +kernel
theorem dX2_shareLower_11 : decode cX2_shareLower 11 = .ok (.i2l, 1) := by decide +kernel
theorem dX2_shareLower_12 : decode cX2_shareLower 12 = .ok (.lmul, 1) := by decide +kernel
theorem dX2_shareLower_13 : decode cX2_shareLower 13 = .ok (.ldc2_w 50, 3) := by decide +kernel
theorem dX2_shareLower_16 : decode cX2_shareLower 16 = .ok (.aload_n 0, 1) := by decide +kernel
theorem dX2_shareLower_17 : decode cX2_shareLower 17 = .ok (.getfield 37, 3) := by decide +kernel
theorem dX2_shareLower_20 : decode cX2_shareLower 20 = .ok (.i2l, 1) := by decide +kernel
theorem dX2_shareLower_21 : decode cX2_shareLower 21 = .ok (.lmul, 1) := by decide +kernel
theorem dX2_shareLower_22 : decode cX2_shareLower 22 = .ok (.ladd, 1) := by decide +kernel
theorem dX2_shareLower_23 : decode cX2_shareLower 23 = .ok (.lreturn, 1) := by decide +kernel
set_option maxRecDepth 20000 in
theorem ggX2_weightUpper_X2_shareUpper : GoodIn wsX2_weightUpper wsX2_shareUpper := goodIn_r _ [8, 9, 10, 11, 12, 13, 7, 14, 15, 16, 17, 18, 19, 20, 21, 22, 23, 24, 25] (by decide +kernel) (by decide +kernel)
set_option maxRecDepth 20000 in
theorem gX2_weightUpper_X2_shareUpper : GoodIn wsX2_weightUpper (wsV RX2 52 RX2 yX2_shareUpper wsX2_shareUpper) := goodIn_app (goodIn_of _ (by decide +kernel)) ggX2_weightUpper_X2_shareUpper
theorem dX2_weightUpper_0 : decode cX2_weightUpper 0 = .ok (.aload_n 0, 1) := by decide +kernel
theorem dX2_weightUpper_1 : decode cX2_weightUpper 1 = .ok (.getfield 30, 3) := by decide +kernel
theorem dX2_weightUpper_4 : decode cX2_weightUpper 4 = .ok (.iload_n 2, 1) := by decide +kernel
theorem dX2_weightUpper_5 : decode cX2_weightUpper 5 = .ok (.iaload, 1) := by decide +kernel
theorem dX2_weightUpper_6 : decode cX2_weightUpper 6 = .ok (.i2l, 1) := by decide +kernel
theorem dX2_weightUpper_7 : decode cX2_weightUpper 7 = .ok (.lstore_n 3, 1) := by decide +kernel
theorem dX2_weightUpper_8 : decode cX2_weightUpper 8 = .ok (.iconst 0, 1) := by decide +kernel
theorem dX2_weightUpper_9 : decode cX2_weightUpper 9 = .ok (.istore 5, 2) := by decide +kernel
theorem dX2_weightUpper_11 : decode cX2_weightUpper 11 = .ok (.iload 5, 2) := by decide +kernel
theorem dX2_weightUpper_13 : decode cX2_weightUpper 13 = .ok (.aload_n 0, 1) := by decide +kernel
theorem dX2_weightUpper_14 : decode cX2_weightUpper 14 = .ok (.getfield 18, 3) := by decide +kernel
theorem dX2_weightUpper_17 : decode cX2_weightUpper 17 = .ok (.iload_n 1, 1) := by decide +kernel
theorem dX2_weightUpper_18 : decode cX2_weightUpper 18 = .ok (.iaload, 1) := by decide +kernel
theorem dX2_weightUpper_19 : decode cX2_weightUpper 19 = .ok (.if_icmp .ge 29, 3) := by decide +kernel
theorem dX2_weightUpper_22 : decode cX2_weightUpper 22 = .ok (.lload_n 3, 1) := by decide +kernel
theorem dX2_weightUpper_23 : decode cX2_weightUpper 23 = .ok (.aload_n 0, 1) := by decide +kernel
theorem dX2_weightUpper_24 : decode cX2_weightUpper 24 = .ok (.iload_n 2, 1) := by decide +kernel
theorem dX2_weightUpper_25 : decode cX2_weightUpper 25 = .ok (.aload_n 0, 1) := by decide +kernel
theorem dX2_weightUpper_26 : decode cX2_weightUpper 26 = .ok (.getfield 21, 3) := by decide +kernel
theorem dX2_weightUpper_29 : decode cX2_weightUpper 29 = .ok (.iload_n 1, 1) := by decide +kernel
theorem dX2_weightUpper_30 : decode cX2_weightUpper 30 = .ok (.bipush 6, 2) := by decide +kernel
theorem dX2_weightUpper_32 : decode cX2_weightUpper 32 = .ok (.imul, 1) := by decide +kernel
theorem dX2_weightUpper_33 : decode cX2_weightUpper 33 = .ok (.iload 5, 2) := by decide +kernel
theorem dX2_weightUpper_35 : decode cX2_weightUpper 35 = .ok (.iadd, 1) := by decide +kernel
theorem dX2_weightUpper_36 : decode cX2_weightUpper 36 = .ok (.iaload, 1) := by decide +kernel
theorem dX2_weightUpper_37 : decode cX2_weightUpper 37 = .ok (.invokevirtual 52, 3) := by decide +kernel
theorem dX2_weightUpper_40 : decode cX2_weightUpper 40 = .ok (.lmul, 1) := by decide +kernel
theorem dX2_weightUpper_41 : decode cX2_weightUpper 41 = .ok (.lstore_n 3, 1) := by decide +kernel
theorem dX2_weightUpper_42 : decode cX2_weightUpper 42 = .ok (.iinc 5 1, 3) := by decide +kernel
theorem dX2_weightUpper_45 : decode cX2_weightUpper 45 = .ok (.goto (-34), 3) := by decide +kernel
theorem dX2_weightUpper_48 : decode cX2_weightUpper 48 = .ok (.lload_n 3, 1) := by decide +kernel
theorem dX2_weightUpper_49 : decode cX2_weightUpper 49 = .ok (.lreturn, 1) := by decide +kernel
set_option maxRecDepth 20000 in
theorem ggX2_weightLower_X2_shareLower : GoodIn wsX2_weightLower wsX2_shareLower := goodIn_r _ [6, 7, 8, 9, 10, 11, 12, 13, 14, 15, 16, 17, 18, 19, 20] (by decide +kernel) (by decide +kernel)
set_option maxRecDepth 20000 in
theorem gX2_weightLower_X2_shareLower : GoodIn wsX2_weightLower (wsV RX2 56 RX2 yX2_shareLower wsX2_shareLower) := goodIn_app (goodIn_of _ (by decide +kernel)) ggX2_weightLower_X2_shareLower
theorem dX2_weightLower_0 : decode cX2_weightLower 0 = .ok (.lconst 1, 1) := by decide +kernel
theorem dX2_weightLower_1 : decode cX2_weightLower 1 = .ok (.lstore_n 3, 1) := by decide +kernel
theorem dX2_weightLower_2 : decode cX2_weightLower 2 = .ok (.iconst 0, 1) := by decide +kernel
theorem dX2_weightLower_3 : decode cX2_weightLower 3 = .ok (.istore 5, 2) := by decide +kernel
theorem dX2_weightLower_5 : decode cX2_weightLower 5 = .ok (.iload 5, 2) := by decide +kernel
theorem dX2_weightLower_7 : decode cX2_weightLower 7 = .ok (.aload_n 0, 1) := by decide +kernel
theorem dX2_weightLower_8 : decode cX2_weightLower 8 = .ok (.getfield 18, 3) := by decide +kernel
theorem dX2_weightLower_11 : decode cX2_weightLower 11 = .ok (.iload_n 1, 1) := by decide +kernel
theorem dX2_weightLower_12 : decode cX2_weightLower 12 = .ok (.iaload, 1) := by decide +kernel
theorem dX2_weightLower_13 : decode cX2_weightLower 13 = .ok (.if_icmp .ge 17, 3) := by decide +kernel
theorem dX2_weightLower_16 : decode cX2_weightLower 16 = .ok (.lload_n 3, 1) := by decide +kernel
theorem dX2_weightLower_17 : decode cX2_weightLower 17 = .ok (.aload_n 0, 1) := by decide +kernel
theorem dX2_weightLower_18 : decode cX2_weightLower 18 = .ok (.iload_n 2, 1) := by decide +kernel
theorem dX2_weightLower_19 : decode cX2_weightLower 19 = .ok (.invokevirtual 56, 3) := by decide +kernel
theorem dX2_weightLower_22 : decode cX2_weightLower 22 = .ok (.lmul, 1) := by decide +kernel
theorem dX2_weightLower_23 : decode cX2_weightLower 23 = .ok (.lstore_n 3, 1) := by decide +kernel
theorem dX2_weightLower_24 : decode cX2_weightLower 24 = .ok (.iinc 5 1, 3) := by decide +kernel
theorem dX2_weightLower_27 : decode cX2_weightLower 27 = .ok (.goto (-22), 3) := by decide +kernel
theorem dX2_weightLower_30 : decode cX2_weightLower 30 = .ok (.lload_n 3, 1) := by decide +kernel
theorem dX2_weightLower_31 : decode cX2_weightLower 31 = .ok (.lreturn, 1) := by decide +kernel
set_option maxRecDepth 20000 in
theorem ggX2_bestLabel_X2_weightUpper : GoodIn wsX2_bestLabel wsX2_weightUpper := goodIn_r _ [5, 6, 7, 8, 9, 10, 11, 4, 12, 13, 14, 15, 16, 17, 18, 19, 34, 35, 36, 37, 38, 39, 40, 41, 42, 43] (by decide +kernel) (by decide +kernel)
set_option maxRecDepth 20000 in
theorem gX2_bestLabel_X2_weightUpper : GoodIn wsX2_bestLabel (wsV RX2 60 RX2 yX2_weightUpper wsX2_weightUpper) := goodIn_app (goodIn_of _ (by decide +kernel)) ggX2_bestLabel_X2_weightUpper
set_option maxRecDepth 20000 in
theorem ggX2_bestLabel_X2_weightLower : GoodIn wsX2_bestLabel wsX2_weightLower := goodIn_r _ [23, 7, 24, 25, 26, 4, 27, 28, 13, 29, 14, 34, 35, 36, 37, 38, 39, 40, 41, 42, 43] (by decide +kernel) (by decide +kernel)
set_option maxRecDepth 20000 in
theorem gX2_bestLabel_X2_weightLower : GoodIn wsX2_bestLabel (wsV RX2 63 RX2 yX2_weightLower wsX2_weightLower) := goodIn_app (goodIn_of _ (by decide +kernel)) ggX2_bestLabel_X2_weightLower
set_option maxRecDepth 20000 in
theorem ggX2_bestLabel_X0_isAbove : GoodIn wsX2_bestLabel wsX0_isAbove := goodIn_r _ [33] (by decide +kernel) (by decide +kernel)
set_option maxRecDepth 20000 in
theorem gX2_bestLabel_X0_isAbove : GoodIn wsX2_bestLabel (va_wsS RX2 66 yX0_isAbove wsX0_isAbove) := goodIn_app (goodIn_of _ (by decide +kernel)) ggX2_bestLabel_X0_isAbove
theorem dX2_bestLabel_0 : decode cX2_bestLabel 0 = .ok (.iconst (-1), 1) := by decide +kernel
theorem dX2_bestLabel_1 : decode cX2_bestLabel 1 = .ok (.istore_n 2, 1) := by decide +kernel
theorem dX2_bestLabel_2 : decode cX2_bestLabel 2 = .ok (.lconst 0, 1) := by decide +kernel
theorem dX2_bestLabel_3 : decode cX2_bestLabel 3 = .ok (.lstore_n 3, 1) := by decide +kernel
theorem dX2_bestLabel_4 : decode cX2_bestLabel 4 = .ok (.lconst 1, 1) := by decide +kernel
theorem dX2_bestLabel_5 : decode cX2_bestLabel 5 = .ok (.lstore 5, 2) := by decide +kernel
theorem dX2_bestLabel_7 : decode cX2_bestLabel 7 = .ok (.iconst 0, 1) := by decide +kernel
theorem dX2_bestLabel_8 : decode cX2_bestLabel 8 = .ok (.istore 7, 2) := by decide +kernel
theorem dX2_bestLabel_10 : decode cX2_bestLabel 10 = .ok (.iload 7, 2) := by decide +kernel
theorem dX2_bestLabel_12 : decode cX2_bestLabel 12 = .ok (.iconst 4, 1) := by decide +kernel
theorem dX2_bestLabel_13 : decode cX2_bestLabel 13 = .ok (.if_icmp .ge 57, 3) := by decide +kernel
theorem dX2_bestLabel_16 : decode cX2_bestLabel 16 = .ok (.aload_n 0, 1) := by decide +kernel
theorem dX2_bestLabel_17 : decode cX2_bestLabel 17 = .ok (.iload_n 1, 1) := by decide +kernel
theorem dX2_bestLabel_18 : decode cX2_bestLabel 18 = .ok (.iload 7, 2) := by decide +kernel
theorem dX2_bestLabel_20 : decode cX2_bestLabel 20 = .ok (.invokevirtual 60, 3) := by decide +kernel
theorem dX2_bestLabel_23 : decode cX2_bestLabel 23 = .ok (.lstore 8, 2) := by decide +kernel
theorem dX2_bestLabel_25 : decode cX2_bestLabel 25 = .ok (.aload_n 0, 1) := by decide +kernel
theorem dX2_bestLabel_26 : decode cX2_bestLabel 26 = .ok (.iload_n 1, 1) := by decide +kernel
theorem dX2_bestLabel_27 : decode cX2_bestLabel 27 = .ok (.iload 7, 2) := by decide +kernel
theorem dX2_bestLabel_29 : decode cX2_bestLabel 29 = .ok (.invokevirtual 63, 3) := by decide +kernel
theorem dX2_bestLabel_32 : decode cX2_bestLabel 32 = .ok (.lstore 10, 2) := by decide +kernel
theorem dX2_bestLabel_34 : decode cX2_bestLabel 34 = .ok (.lload 8, 2) := by decide +kernel
theorem dX2_bestLabel_36 : decode cX2_bestLabel 36 = .ok (.lconst 0, 1) := by decide +kernel
theorem dX2_bestLabel_37 : decode cX2_bestLabel 37 = .ok (.lcmp, 1) := by decide +kernel
theorem dX2_bestLabel_38 : decode cX2_bestLabel 38 = .ok (.ifCond .le 26, 3) := by decide +kernel
theorem dX2_bestLabel_41 : decode cX2_bestLabel 41 = .ok (.lload 8, 2) := by decide +kernel
theorem dX2_bestLabel_43 : decode cX2_bestLabel 43 = .ok (.lload 10, 2) := by decide +kernel
theorem dX2_bestLabel_45 : decode cX2_bestLabel 45 = .ok (.lload_n 3, 1) := by decide +kernel
theorem dX2_bestLabel_46 : decode cX2_bestLabel 46 = .ok (.lload 5, 2) := by decide +kernel
theorem dX2_bestLabel_48 : decode cX2_bestLabel 48 = .ok (.invokestatic 66, 3) := by decide +kernel
theorem dX2_bestLabel_51 : decode cX2_bestLabel 51 = .ok (.ifCond .eq 13, 3) := by decide +kernel
theorem dX2_bestLabel_54 : decode cX2_bestLabel 54 = .ok (.iload 7, 2) := by decide +kernel
theorem dX2_bestLabel_56 : decode cX2_bestLabel 56 = .ok (.istore_n 2, 1) := by decide +kernel
theorem dX2_bestLabel_57 : decode cX2_bestLabel 57 = .ok (.lload 8, 2) := by decide +kernel
theorem dX2_bestLabel_59 : decode cX2_bestLabel 59 = .ok (.lstore_n 3, 1) := by decide +kernel
theorem dX2_bestLabel_60 : decode cX2_bestLabel 60 = .ok (.lload 10, 2) := by decide +kernel
theorem dX2_bestLabel_62 : decode cX2_bestLabel 62 = .ok (.lstore 5, 2) := by decide +kernel
theorem dX2_bestLabel_64 : decode cX2_bestLabel 64 = .ok (.iinc 7 1, 3) := by decide +kernel
theorem dX2_bestLabel_67 : decode cX2_bestLabel 67 = .ok (.goto (-57), 3) := by decide +kernel
theorem dX2_bestLabel_70 : decode cX2_bestLabel 70 = .ok (.iload_n 2, 1) := by decide +kernel
theorem dX2_bestLabel_71 : decode cX2_bestLabel 71 = .ok (.ireturn, 1) := by decide +kernel
set_option maxRecDepth 20000 in
theorem ggX2_guessAnew_X2_bestLabel : GoodIn wsX2_guessAnew wsX2_bestLabel := goodIn_r _ [8, 9, 10, 11, 7, 12, 13, 14, 15, 16, 17, 18, 19, 20, 21, 22, 23, 24, 25, 26, 27, 28, 29, 30, 31, 32, 33, 34, 35, 36, 37, 38, 39, 40, 52, 53, 54, 55, 56, 57, 58, 59, 60, 61] (by decide +kernel) (by decide +kernel)
set_option maxRecDepth 20000 in
theorem gX2_guessAnew_X2_bestLabel : GoodIn wsX2_guessAnew (wsV RX2 72 RX2 yX2_bestLabel wsX2_bestLabel) := goodIn_app (goodIn_of _ (by decide +kernel)) ggX2_guessAnew_X2_bestLabel
set_option maxRecDepth 20000 in
theorem ggX2_guessAnew_X2_tally : GoodIn wsX2_guessAnew wsX2_tally := goodIn_r _ [44, 26, 35, 13, 1, 2, 3, 45, 46, 47, 48, 49, 50, 7, 51, 14, 15, 52, 53, 54, 55, 56, 57, 58, 59, 60, 61] (by decide +kernel) (by decide +kernel)
set_option maxRecDepth 20000 in
theorem gX2_guessAnew_X2_tally : GoodIn wsX2_guessAnew (wsV RX2 76 RX2 yX2_tally wsX2_tally) := goodIn_app (goodIn_of _ (by decide +kernel)) ggX2_guessAnew_X2_tally
theorem dX2_guessAnew_0 : decode cX2_guessAnew 0 = .ok (.iconst 0, 1) := by decide +kernel
theorem dX2_guessAnew_1 : decode cX2_guessAnew 1 = .ok (.istore_n 1, 1) := by decide +kernel
theorem dX2_guessAnew_2 : decode cX2_guessAnew 2 = .ok (.iconst 0, 1) := by decide +kernel
theorem dX2_guessAnew_3 : decode cX2_guessAnew 3 = .ok (.istore_n 2, 1) := by decide +kernel
theorem dX2_guessAnew_4 : decode cX2_guessAnew 4 = .ok (.iload_n 2, 1) := by decide +kernel
theorem dX2_guessAnew_5 : decode cX2_guessAnew 5 = .ok (.aload_n 0, 1) := by decide +kernel
theorem dX2_guessAnew_6 : decode cX2_guessAnew 6 = .ok (.getfield 33, 3) := by decide +kernel
theorem dX2_guessAnew_9 : decode cX2_guessAnew 9 = .ok (.if_icmp .ge 52, 3) := by decide +kernel
theorem dX2_guessAnew_12 : decode cX2_guessAnew 12 = .ok (.aload_n 0, 1) := by decide +kernel
theorem dX2_guessAnew_13 : decode cX2_guessAnew 13 = .ok (.getfield 11, 3) := by decide +kernel
theorem dX2_guessAnew_16 : decode cX2_guessAnew 16 = .ok (.iload_n 2, 1) := by decide +kernel
theorem dX2_guessAnew_17 : decode cX2_guessAnew 17 = .ok (.iaload, 1) := by decide +kernel
theorem dX2_guessAnew_18 : decode cX2_guessAnew 18 = .ok (.iconst (-1), 1) := by decide +kernel
theorem dX2_guessAnew_19 : decode cX2_guessAnew 19 = .ok (.if_icmp .ne 36, 3) := by decide +kernel
theorem dX2_guessAnew_22 : decode cX2_guessAnew 22 = .ok (.aload_n 0, 1) := by decide +kernel
theorem dX2_guessAnew_23 : decode cX2_guessAnew 23 = .ok (.iload_n 2, 1) := by decide +kernel
theorem dX2_guessAnew_24 : decode cX2_guessAnew 24 = .ok (.invokevirtual 72, 3) := by decide +kernel
theorem dX2_guessAnew_27 : decode cX2_guessAnew 27 = .ok (.istore_n 3, 1) := by decide +kernel
theorem dX2_guessAnew_28 : decode cX2_guessAnew 28 = .ok (.iload_n 1, 1) := by decide +kernel
theorem dX2_guessAnew_29 : decode cX2_guessAnew 29 = .ok (.ifCond .ne 13, 3) := by decide +kernel
theorem dX2_guessAnew_32 : decode cX2_guessAnew 32 = .ok (.iload_n 3, 1) := by decide +kernel
theorem dX2_guessAnew_33 : decode cX2_guessAnew 33 = .ok (.aload_n 0, 1) := by decide +kernel
theorem dX2_guessAnew_34 : decode cX2_guessAnew 34 = .ok (.getfield 15, 3) := by decide +kernel
theorem dX2_guessAnew_37 : decode cX2_guessAnew 37 = .ok (.iload_n 2, 1) := by decide +kernel
theorem dX2_guessAnew_38 : decode cX2_guessAnew 38 = .ok (.iaload, 1) := by decide +kernel
theorem dX2_guessAnew_39 : decode cX2_guessAnew 39 = .ok (.if_icmp .eq 7, 3) := by decide +kernel
theorem dX2_guessAnew_42 : decode cX2_guessAnew 42 = .ok (.iconst 1, 1) := by decide +kernel
theorem dX2_guessAnew_43 : decode cX2_guessAnew 43 = .ok (.goto 4, 3) := by decide +kernel
theorem dX2_guessAnew_46 : decode cX2_guessAnew 46 = .ok (.iconst 0, 1) := by decide +kernel
theorem dX2_guessAnew_47 : decode cX2_guessAnew 47 = .ok (.istore_n 1, 1) := by decide +kernel
theorem dX2_guessAnew_48 : decode cX2_guessAnew 48 = .ok (.aload_n 0, 1) := by decide +kernel
theorem dX2_guessAnew_49 : decode cX2_guessAnew 49 = .ok (.getfield 15, 3) := by decide +kernel
theorem dX2_guessAnew_52 : decode cX2_guessAnew 52 = .ok (.iload_n 2, 1) := by decide +kernel
theorem dX2_guessAnew_53 : decode cX2_guessAnew 53 = .ok (.iload_n 3, 1) := by decide +kernel
theorem dX2_guessAnew_54 : decode cX2_guessAnew 54 = .ok (.iastore, 1) := by decide +kernel
theorem dX2_guessAnew_55 : decode cX2_guessAnew 55 = .ok (.iinc 2 1, 3) := by decide +kernel
theorem dX2_guessAnew_58 : decode cX2_guessAnew 58 = .ok (.goto (-54), 3) := by decide +kernel
theorem dX2_guessAnew_61 : decode cX2_guessAnew 61 = .ok (.aload_n 0, 1) := by decide +kernel
theorem dX2_guessAnew_62 : decode cX2_guessAnew 62 = .ok (.invokevirtual 76, 3) := by decide +kernel
theorem dX2_guessAnew_65 : decode cX2_guessAnew 65 = .ok (.iload_n 1, 1) := by decide +kernel
theorem dX2_guessAnew_66 : decode cX2_guessAnew 66 = .ok (.ireturn, 1) := by decide +kernel
set_option maxRecDepth 20000 in
theorem ggX2_startAnew_X5_setAll : GoodIn wsX2_startAnew wsX5_setAll := goodIn_r _ [4] (by decide +kernel) (by decide +kernel)
set_option maxRecDepth 20000 in
theorem gX2_startAnew_X5_setAll_n79 : GoodIn wsX2_startAnew (wsX5_setAll) := ggX2_startAnew_X5_setAll
set_option maxRecDepth 20000 in
theorem ggX2_startAnew_X2_tally : GoodIn wsX2_startAnew wsX2_tally := goodIn_r _ [9, 10, 11, 12, 13, 14, 1, 2, 3, 4, 15, 16, 17, 8, 18, 19, 20, 21, 22, 23, 24, 25, 26, 27, 28, 29, 30] (by decide +kernel) (by decide +kernel)
set_option maxRecDepth 20000 in
theorem gX2_startAnew_X2_tally : GoodIn wsX2_startAnew (wsV RX2 76 RX2 yX2_tally wsX2_tally) := goodIn_app (goodIn_of _ (by decide +kernel)) ggX2_startAnew_X2_tally
theorem dX2_startAnew_0 : decode cX2_startAnew 0 = .ok (.aload_n 0, 1) := by decide +kernel
theorem dX2_startAnew_1 : decode cX2_startAnew 1 = .ok (.getfield 15, 3) := by decide +kernel
theorem dX2_startAnew_4 : decode cX2_startAnew 4 = .ok (.iconst (-1), 1) := by decide +kernel
theorem dX2_startAnew_5 : decode cX2_startAnew 5 = .ok (.invokestatic 79, 3) := by decide +kernel
theorem dX2_startAnew_8 : decode cX2_startAnew 8 = .ok (.aload_n 0, 1) := by decide +kernel
theorem dX2_startAnew_9 : decode cX2_startAnew 9 = .ok (.invokevirtual 76, 3) := by decide +kernel
theorem dX2_startAnew_12 : decode cX2_startAnew 12 = .ok (.return_, 1) := by decide +kernel
set_option maxRecDepth 20000 in
theorem ggX2_tally_X5_setAll : GoodIn wsX2_tally wsX5_setAll := goodIn_r _ [9] (by decide +kernel) (by decide +kernel)
set_option maxRecDepth 20000 in
theorem gX2_tally_X5_setAll_n79 : GoodIn wsX2_tally (wsX5_setAll) := ggX2_tally_X5_setAll
set_option maxRecDepth 20000 in
theorem ggX2_tally_X2_tallyRow : GoodIn wsX2_tally wsX2_tallyRow := goodIn_r _ [14, 3, 2, 15, 1, 16, 17, 18, 19, 20, 21, 22, 23, 24, 25, 26] (by decide +kernel) (by decide +kernel)
set_option maxRecDepth 20000 in
theorem gX2_tally_X2_tallyRow : GoodIn wsX2_tally (wsV RX2 83 RX2 yX2_tallyRow wsX2_tallyRow) := goodIn_app (goodIn_of _ (by decide +kernel)) ggX2_tally_X2_tallyRow
theorem dX2_tally_0 : decode cX2_tally 0 = .ok (.aload_n 0, 1) := by decide +kernel
theorem dX2_tally_1 : decode cX2_tally 1 = .ok (.getfield 24, 3) := by decide +kernel
theorem dX2_tally_4 : decode cX2_tally 4 = .ok (.iconst 0, 1) := by decide +kernel
theorem dX2_tally_5 : decode cX2_tally 5 = .ok (.invokestatic 79, 3) := by decide +kernel
theorem dX2_tally_8 : decode cX2_tally 8 = .ok (.aload_n 0, 1) := by decide +kernel
theorem dX2_tally_9 : decode cX2_tally 9 = .ok (.getfield 27, 3) := by decide +kernel
theorem dX2_tally_12 : decode cX2_tally 12 = .ok (.iconst 0, 1) := by decide +kernel
theorem dX2_tally_13 : decode cX2_tally 13 = .ok (.invokestatic 79, 3) := by decide +kernel
theorem dX2_tally_16 : decode cX2_tally 16 = .ok (.aload_n 0, 1) := by decide +kernel
theorem dX2_tally_17 : decode cX2_tally 17 = .ok (.getfield 30, 3) := by decide +kernel
theorem dX2_tally_20 : decode cX2_tally 20 = .ok (.iconst 0, 1) := by decide +kernel
theorem dX2_tally_21 : decode cX2_tally 21 = .ok (.invokestatic 79, 3) := by decide +kernel
theorem dX2_tally_24 : decode cX2_tally 24 = .ok (.iconst 0, 1) := by decide +kernel
theorem dX2_tally_25 : decode cX2_tally 25 = .ok (.istore_n 1, 1) := by decide +kernel
theorem dX2_tally_26 : decode cX2_tally 26 = .ok (.iload_n 1, 1) := by decide +kernel
theorem dX2_tally_27 : decode cX2_tally 27 = .ok (.aload_n 0, 1) := by decide +kernel
theorem dX2_tally_28 : decode cX2_tally 28 = .ok (.getfield 33, 3) := by decide +kernel
theorem dX2_tally_31 : decode cX2_tally 31 = .ok (.if_icmp .ge 46, 3) := by decide +kernel
theorem dX2_tally_34 : decode cX2_tally 34 = .ok (.aload_n 0, 1) := by decide +kernel
theorem dX2_tally_35 : decode cX2_tally 35 = .ok (.getfield 11, 3) := by decide +kernel
theorem dX2_tally_38 : decode cX2_tally 38 = .ok (.iload_n 1, 1) := by decide +kernel
theorem dX2_tally_39 : decode cX2_tally 39 = .ok (.iaload, 1) := by decide +kernel
theorem dX2_tally_40 : decode cX2_tally 40 = .ok (.iconst (-1), 1) := by decide +kernel
theorem dX2_tally_41 : decode cX2_tally 41 = .ok (.if_icmp .ne 12, 3) := by decide +kernel
theorem dX2_tally_44 : decode cX2_tally 44 = .ok (.aload_n 0, 1) := by decide +kernel
theorem dX2_tally_45 : decode cX2_tally 45 = .ok (.getfield 15, 3) := by decide +kernel
theorem dX2_tally_48 : decode cX2_tally 48 = .ok (.iload_n 1, 1) := by decide +kernel
theorem dX2_tally_49 : decode cX2_tally 49 = .ok (.iaload, 1) := by decide +kernel
theorem dX2_tally_50 : decode cX2_tally 50 = .ok (.goto 9, 3) := by decide +kernel
theorem dX2_tally_53 : decode cX2_tally 53 = .ok (.aload_n 0, 1) := by decide +kernel
theorem dX2_tally_54 : decode cX2_tally 54 = .ok (.getfield 11, 3) := by decide +kernel
theorem dX2_tally_57 : decode cX2_tally 57 = .ok (.iload_n 1, 1) := by decide +kernel
theorem dX2_tally_58 : decode cX2_tally 58 = .ok (.iaload, 1) := by decide +kernel
theorem dX2_tally_59 : decode cX2_tally 59 = .ok (.istore_n 2, 1) := by decide +kernel
theorem dX2_tally_60 : decode cX2_tally 60 = .ok (.iload_n 2, 1) := by decide +kernel
theorem dX2_tally_61 : decode cX2_tally 61 = .ok (.iconst (-1), 1) := by decide +kernel
theorem dX2_tally_62 : decode cX2_tally 62 = .ok (.if_icmp .eq 9, 3) := by decide +kernel
theorem dX2_tally_65 : decode cX2_tally 65 = .ok (.aload_n 0, 1) := by decide +kernel
theorem dX2_tally_66 : decode cX2_tally 66 = .ok (.iload_n 1, 1) := by decide +kernel
theorem dX2_tally_67 : decode cX2_tally 67 = .ok (.iload_n 2, 1) := by decide +kernel
theorem dX2_tally_68 : decode cX2_tally 68 = .ok (.invokevirtual 83, 3) := by decide +kernel
theorem dX2_tally_71 : decode cX2_tally 71 = .ok (.iinc 1 1, 3) := by decide +kernel
theorem dX2_tally_74 : decode cX2_tally 74 = .ok (.goto (-48), 3) := by decide +kernel
theorem dX2_tally_77 : decode cX2_tally 77 = .ok (.return_, 1) := by decide +kernel
theorem dX2_tallyRow_0 : decode cX2_tallyRow 0 = .ok (.aload_n 0, 1) := by decide +kernel
theorem dX2_tallyRow_1 : decode cX2_tallyRow 1 = .ok (.getfield 30, 3) := by decide +kernel
theorem dX2_tallyRow_4 : decode cX2_tallyRow 4 = .ok (.iload_n 2, 1) := by decide +kernel
theorem dX2_tallyRow_5 : decode cX2_tallyRow 5 = .ok (.dup2, 1) := by decide +kernel
theorem dX2_tallyRow_6 : decode cX2_tallyRow 6 = .ok (.iaload, 1) := by decide +kernel
theorem dX2_tallyRow_7 : decode cX2_tallyRow 7 = .ok (.iconst 1, 1) := by decide +kernel
theorem dX2_tallyRow_8 : decode cX2_tallyRow 8 = .ok (.iadd, 1) := by decide +kernel
theorem dX2_tallyRow_9 : decode cX2_tallyRow 9 = .ok (.iastore, 1) := by decide +kernel
theorem dX2_tallyRow_10 : decode cX2_tallyRow 10 = .ok (.aload_n 0, 1) := by decide +kernel
theorem dX2_tallyRow_11 : decode cX2_tallyRow 11 = .ok (.getfield 27, 3) := by decide +kernel
theorem dX2_tallyRow_14 : decode cX2_tallyRow 14 = .ok (.iload_n 2, 1) := by decide +kernel
theorem dX2_tallyRow_15 : decode cX2_tallyRow 15 = .ok (.dup2, 1) := by decide +kernel
theorem dX2_tallyRow_16 : decode cX2_tallyRow 16 = .ok (.iaload, 1) := by decide +kernel
theorem dX2_tallyRow_17 : decode cX2_tallyRow 17 = .ok (.aload_n 0, 1) := by decide +kernel
theorem dX2_tallyRow_18 : decode cX2_tallyRow 18 = .ok (.getfield 18, 3) := by decide +kernel
theorem dX2_tallyRow_21 : decode cX2_tallyRow 21 = .ok (.iload_n 1, 1) := by decide +kernel
theorem dX2_tallyRow_22 : decode cX2_tallyRow 22 = .ok (.iaload, 1) := by decide +kernel
theorem dX2_tallyRow_23 : decode cX2_tallyRow 23 = .ok (.iadd, 1) := by decide +kernel
theorem dX2_tallyRow_24 : decode cX2_tallyRow 24 = .ok (.iastore, 1) := by decide +kernel
theorem dX2_tallyRow_25 : decode cX2_tallyRow 25 = .ok (.iconst 0, 1) := by decide +kernel
theorem dX2_tallyRow_26 : decode cX2_tallyRow 26 = .ok (.istore_n 3, 1) := by decide +kernel
theorem dX2_tallyRow_27 : decode cX2_tallyRow 27 = .ok (.iload_n 3, 1) := by decide +kernel
theorem dX2_tallyRow_28 : decode cX2_tallyRow 28 = .ok (.aload_n 0, 1) := by decide +kernel
theorem dX2_tallyRow_29 : decode cX2_tallyRow 29 = .ok (.getfield 18, 3) := by decide +kernel
theorem dX2_tallyRow_32 : decode cX2_tallyRow 32 = .ok (.iload_n 1, 1) := by decide +kernel
theorem dX2_tallyRow_33 : decode cX2_tallyRow 33 = .ok (.iaload, 1) := by decide +kernel
theorem dX2_tallyRow_34 : decode cX2_tallyRow 34 = .ok (.if_icmp .ge 34, 3) := by decide +kernel
theorem dX2_tallyRow_37 : decode cX2_tallyRow 37 = .ok (.aload_n 0, 1) := by decide +kernel
theorem dX2_tallyRow_38 : decode cX2_tallyRow 38 = .ok (.getfield 24, 3) := by decide +kernel
theorem dX2_tallyRow_41 : decode cX2_tallyRow 41 = .ok (.iload_n 2, 1) := by decide +kernel
theorem dX2_tallyRow_42 : decode cX2_tallyRow 42 = .ok (.bipush 8, 2) := by decide +kernel
theorem dX2_tallyRow_44 : decode cX2_tallyRow 44 = .ok (.imul, 1) := by decide +kernel
theorem dX2_tallyRow_45 : decode cX2_tallyRow 45 = .ok (.aload_n 0, 1) := by decide +kernel
theorem dX2_tallyRow_46 : decode cX2_tallyRow 46 = .ok (.getfield 21, 3) := by decide +kernel
theorem dX2_tallyRow_49 : decode cX2_tallyRow 49 = .ok (.iload_n 1, 1) := by decide +kernel
theorem dX2_tallyRow_50 : decode cX2_tallyRow 50 = .ok (.bipush 6, 2) := by decide +kernel
theorem dX2_tallyRow_52 : decode cX2_tallyRow 52 = .ok (.imul, 1) := by decide +kernel
theorem dX2_tallyRow_53 : decode cX2_tallyRow 53 = .ok (.iload_n 3, 1) := by decide +kernel
theorem dX2_tallyRow_54 : decode cX2_tallyRow 54 = .ok (.iadd, 1) := by decide +kernel
theorem dX2_tallyRow_55 : decode cX2_tallyRow 55 = .ok (.iaload, 1) := by decide +kernel
theorem dX2_tallyRow_56 : decode cX2_tallyRow 56 = .ok (.iadd, 1) := by decide +kernel
theorem dX2_tallyRow_57 : decode cX2_tallyRow 57 = .ok (.dup2, 1) := by decide +kernel
theorem dX2_tallyRow_58 : decode cX2_tallyRow 58 = .ok (.iaload, 1) := by decide +kernel
theorem dX2_tallyRow_59 : decode cX2_tallyRow 59 = .ok (.iconst 1, 1) := by decide +kernel
theorem dX2_tallyRow_60 : decode cX2_tallyRow 60 = .ok (.iadd, 1) := by decide +kernel
theorem dX2_tallyRow_61 : decode cX2_tallyRow 61 = .ok (.iastore, 1) := by decide +kernel
theorem dX2_tallyRow_62 : decode cX2_tallyRow 62 = .ok (.iinc 3 1, 3) := by decide +kernel
theorem dX2_tallyRow_65 : decode cX2_tallyRow 65 = .ok (.goto (-38), 3) := by decide +kernel
theorem dX2_tallyRow_68 : decode cX2_tallyRow 68 = .ok (.return_, 1) := by decide +kernel
theorem dX3_init_0 : decode cX3_init 0 = .ok (.aload_n 0, 1) := by decide +kernel
theorem dX3_init_1 : decode cX3_init 1 = .ok (.invokespecial 3, 3) := by decide +kernel
theorem dX3_init_4 : decode cX3_init 4 = .ok (.aload_n 0, 1) := by decide +kernel
theorem dX3_init_5 : decode cX3_init 5 = .ok (.bipush 60, 2) := by decide +kernel
theorem dX3_init_7 : decode cX3_init 7 = .ok (.newarray .int, 2) := by decide +kernel
theorem dX3_init_9 : decode cX3_init 9 = .ok (.putfield 11, 3) := by decide +kernel
theorem dX3_init_12 : decode cX3_init 12 = .ok (.aload_n 0, 1) := by decide +kernel
theorem dX3_init_13 : decode cX3_init 13 = .ok (.bipush 8, 2) := by decide +kernel
theorem dX3_init_15 : decode cX3_init 15 = .ok (.newarray .int, 2) := by decide +kernel
theorem dX3_init_17 : decode cX3_init 17 = .ok (.putfield 15, 3) := by decide +kernel
theorem dX3_init_20 : decode cX3_init 20 = .ok (.aload_n 0, 1) := by decide +kernel
theorem dX3_init_21 : decode cX3_init 21 = .ok (.bipush 8, 2) := by decide +kernel
theorem dX3_init_23 : decode cX3_init 23 = .ok (.newarray .long, 2) := by decide +kernel
theorem dX3_init_25 : decode cX3_init 25 = .ok (.putfield 18, 3) := by decide +kernel
theorem dX3_init_28 : decode cX3_init 28 = .ok (.aload_n 0, 1) := by decide +kernel
theorem dX3_init_29 : decode cX3_init 29 = .ok (.lconst 1, 1) := by decide +kernel
theorem dX3_init_30 : decode cX3_init 30 = .ok (.putfield 22, 3) := by decide +kernel
theorem dX3_init_33 : decode cX3_init 33 = .ok (.aload_n 0, 1) := by decide +kernel
theorem dX3_init_34 : decode cX3_init 34 = .ok (.iconst 0, 1) := by decide +kernel
theorem dX3_init_35 : decode cX3_init 35 = .ok (.putfield 26, 3) := by decide +kernel
theorem dX3_init_38 : decode cX3_init 38 = .ok (.return_, 1) := by decide +kernel
theorem dX3_isFull_0 : decode cX3_isFull 0 = .ok (.aload_n 0, 1) := by decide +kernel
theorem dX3_isFull_1 : decode cX3_isFull 1 = .ok (.getfield 26, 3) := by decide +kernel
theorem dX3_isFull_4 : decode cX3_isFull 4 = .ok (.bipush 60, 2) := by decide +kernel
theorem dX3_isFull_6 : decode cX3_isFull 6 = .ok (.if_icmp .lt 7, 3) := by decide +kernel
theorem dX3_isFull_9 : decode cX3_isFull 9 = .ok (.iconst 1, 1) := by decide +kernel
theorem dX3_isFull_10 : decode cX3_isFull 10 = .ok (.goto 4, 3) := by decide +kernel
theorem dX3_isFull_13 : decode cX3_isFull 13 = .ok (.iconst 0, 1) := by decide +kernel
theorem dX3_isFull_14 : decode cX3_isFull 14 = .ok (.ireturn, 1) := by decide +kernel
theorem dX3_length_0 : decode cX3_length 0 = .ok (.aload_n 0, 1) := by decide +kernel
theorem dX3_length_1 : decode cX3_length 1 = .ok (.getfield 26, 3) := by decide +kernel
theorem dX3_length_4 : decode cX3_length 4 = .ok (.ireturn, 1) := by decide +kernel
theorem dX3_append_0 : decode cX3_append 0 = .ok (.aload_n 0, 1) := by decide +kernel
theorem dX3_append_1 : decode cX3_append 1 = .ok (.getfield 11, 3) := by decide +kernel
theorem dX3_append_4 : decode cX3_append 4 = .ok (.aload_n 0, 1) := by decide +kernel
theorem dX3_append_5 : decode cX3_append 5 = .ok (.getfield 26, 3) := by decide +kernel
theorem dX3_append_8 : decode cX3_append 8 = .ok (.iload_n 1, 1) := by decide +kernel
theorem dX3_append_9 : decode cX3_append 9 = .ok (.iastore, 1) := by decide +kernel
theorem dX3_append_10 : decode cX3_append 10 = .ok (.aload_n 0, 1) := by decide +kernel
theorem dX3_append_11 : decode cX3_append 11 = .ok (.dup, 1) := by decide +kernel
theorem dX3_append_12 : decode cX3_append 12 = .ok (.getfield 26, 3) := by decide +kernel
theorem dX3_append_15 : decode cX3_append 15 = .ok (.iconst 1, 1) := by decide +kernel
theorem dX3_append_16 : decode cX3_append 16 = .ok (.iadd, 1) := by decide +kernel
theorem dX3_append_17 : decode cX3_append 17 = .ok (.putfield 26, 3) := by decide +kernel
theorem dX3_append_20 : decode cX3_append 20 = .ok (.aload_n 0, 1) := by decide +kernel
theorem dX3_append_21 : decode cX3_append 21 = .ok (.getfield 26, 3) := by decide +kernel
theorem dX3_append_24 : decode cX3_append 24 = .ok (.ireturn, 1) := by decide +kernel
theorem dX3_upperOf_0 : decode cX3_upperOf 0 = .ok (.aload_n 0, 1) := by decide +kernel
theorem dX3_upperOf_1 : decode cX3_upperOf 1 = .ok (.getfield 18, 3) := by decide +kernel
theorem dX3_upperOf_4 : decode cX3_upperOf 4 = .ok (.iload_n 1, 1) := by decide +kernel
theorem dX3_upperOf_5 : decode cX3_upperOf 5 = .ok (.laload, 1) := by decide +kernel
theorem dX3_upperOf_6 : decode cX3_upperOf 6 = .ok (.lreturn, 1) := by decide +kernel
theorem dX3_lowerOfAll_0 : decode cX3_lowerOfAll 0 = .ok (.aload_n 0, 1) := by decide +kernel
theorem dX3_lowerOfAll_1 : decode cX3_lowerOfAll 1 = .ok (.getfield 22, 3) := by decide +kernel
theorem dX3_lowerOfAll_4 : decode cX3_lowerOfAll 4 = .ok (.lreturn, 1) := by decide +kernel
theorem dX3_greatest_0 : decode cX3_greatest 0 = .ok (.iconst 0, 1) := by decide +kernel
theorem dX3_greatest_1 : decode cX3_greatest 1 = .ok (.istore_n 1, 1) := by decide +kernel
theorem dX3_greatest_2 : decode cX3_greatest 2 = .ok (.iconst 1, 1) := by decide +kernel
theorem dX3_greatest_3 : decode cX3_greatest 3 = .ok (.istore_n 2, 1) := by decide +kernel
theorem dX3_greatest_4 : decode cX3_greatest 4 = .ok (.iload_n 2, 1) := by decide +kernel
theorem dX3_greatest_5 : decode cX3_greatest 5 = .ok (.bipush 8, 2) := by decide +kernel
theorem dX3_greatest_7 : decode cX3_greatest 7 = .ok (.if_icmp .ge 27, 3) := by decide +kernel
theorem dX3_greatest_10 : decode cX3_greatest 10 = .ok (.aload_n 0, 1) := by decide +kernel
theorem dX3_greatest_11 : decode cX3_greatest 11 = .ok (.getfield 18, 3) := by decide +kernel
theorem dX3_greatest_14 : decode cX3_greatest 14 = .ok (.iload_n 2, 1) := by decide +kernel
theorem dX3_greatest_15 : decode cX3_greatest 15 = .ok (.laload, 1) := by decide +kernel
theorem dX3_greatest_16 : decode cX3_greatest 16 = .ok (.aload_n 0, 1) := by decide +kernel
theorem dX3_greatest_17 : decode cX3_greatest 17 = .ok (.getfield 18, 3) := by decide +kernel
theorem dX3_greatest_20 : decode cX3_greatest 20 = .ok (.iload_n 1, 1) := by decide +kernel
theorem dX3_greatest_21 : decode cX3_greatest 21 = .ok (.laload, 1) := by decide +kernel
theorem dX3_greatest_22 : decode cX3_greatest 22 = .ok (.lcmp, 1) := by decide +kernel
theorem dX3_greatest_23 : decode cX3_greatest 23 = .ok (.ifCond .le 5, 3) := by decide +kernel
theorem dX3_greatest_26 : decode cX3_greatest 26 = .ok (.iload_n 2, 1) := by decide +kernel
theorem dX3_greatest_27 : decode cX3_greatest 27 = .ok (.istore_n 1, 1) := by decide +kernel
theorem dX3_greatest_28 : decode cX3_greatest 28 = .ok (.iinc 2 1, 3) := by decide +kernel
theorem dX3_greatest_31 : decode cX3_greatest 31 = .ok (.goto (-27), 3) := by decide +kernel
theorem dX3_greatest_34 : decode cX3_greatest 34 = .ok (.iload_n 1, 1) := by decide +kernel
theorem dX3_greatest_35 : decode cX3_greatest 35 = .ok (.ireturn, 1) := by decide +kernel
set_option maxRecDepth 20000 in
theorem ggX3_fill_X3_fillFirst : GoodIn wsX3_fill wsX3_fillFirst := goodIn_r _ [5, 6, 7, 8, 9, 31, 32, 33, 34, 35] (by decide +kernel) (by decide +kernel)
set_option maxRecDepth 20000 in
theorem gX3_fill_X3_fillFirst : GoodIn wsX3_fill (wsV RX3 30 RX3 yX3_fillFirst wsX3_fillFirst) := goodIn_app (goodIn_of _ (by decide +kernel)) ggX3_fill_X3_fillFirst
set_option maxRecDepth 20000 in
theorem ggX3_fill_X3_countBehind : GoodIn wsX3_fill wsX3_countBehind := goodIn_r _ [13, 14, 7, 8, 15, 16, 17, 31, 32, 33, 34, 35] (by decide +kernel) (by decide +kernel)
set_option maxRecDepth 20000 in
theorem gX3_fill_X3_countBehind : GoodIn wsX3_fill (wsV RX3 33 RX3 yX3_countBehind wsX3_countBehind) := goodIn_app (goodIn_of _ (by decide +kernel)) ggX3_fill_X3_countBehind
set_option maxRecDepth 20000 in
theorem ggX3_fill_X3_putAbove : GoodIn wsX3_fill wsX3_putAbove := goodIn_r _ [21, 14, 6, 22, 23, 24, 4, 25, 9, 26, 27, 28, 29, 30, 31, 32, 33, 34, 35] (by decide +kernel) (by decide +kernel)
set_option maxRecDepth 20000 in
theorem gX3_fill_X3_putAbove : GoodIn wsX3_fill (wsV RX3 37 RX3 yX3_putAbove wsX3_putAbove) := goodIn_app (goodIn_of _ (by decide +kernel)) ggX3_fill_X3_putAbove
theorem dX3_fill_0 : decode cX3_fill 0 = .ok (.aload_n 0, 1) := by decide +kernel
theorem dX3_fill_1 : decode cX3_fill 1 = .ok (.invokevirtual 30, 3) := by decide +kernel
theorem dX3_fill_4 : decode cX3_fill 4 = .ok (.iload_n 2, 1) := by decide +kernel
theorem dX3_fill_5 : decode cX3_fill 5 = .ok (.iconst (-1), 1) := by decide +kernel
theorem dX3_fill_6 : decode cX3_fill 6 = .ok (.if_icmp .eq 13, 3) := by decide +kernel
theorem dX3_fill_9 : decode cX3_fill 9 = .ok (.aload_n 0, 1) := by decide +kernel
theorem dX3_fill_10 : decode cX3_fill 10 = .ok (.iconst (-1), 1) := by decide +kernel
theorem dX3_fill_11 : decode cX3_fill 11 = .ok (.iload_n 2, 1) := by decide +kernel
theorem dX3_fill_12 : decode cX3_fill 12 = .ok (.invokevirtual 33, 3) := by decide +kernel
theorem dX3_fill_15 : decode cX3_fill 15 = .ok (.aload_n 0, 1) := by decide +kernel
theorem dX3_fill_16 : decode cX3_fill 16 = .ok (.invokevirtual 37, 3) := by decide +kernel
theorem dX3_fill_19 : decode cX3_fill 19 = .ok (.iload_n 1, 1) := by decide +kernel
theorem dX3_fill_20 : decode cX3_fill 20 = .ok (.iconst (-1), 1) := by decide +kernel
theorem dX3_fill_21 : decode cX3_fill 21 = .ok (.if_icmp .eq 13, 3) := by decide +kernel
theorem dX3_fill_24 : decode cX3_fill 24 = .ok (.aload_n 0, 1) := by decide +kernel
theorem dX3_fill_25 : decode cX3_fill 25 = .ok (.iload_n 1, 1) := by decide +kernel
theorem dX3_fill_26 : decode cX3_fill 26 = .ok (.iload_n 2, 1) := by decide +kernel
theorem dX3_fill_27 : decode cX3_fill 27 = .ok (.invokevirtual 33, 3) := by decide +kernel
theorem dX3_fill_30 : decode cX3_fill 30 = .ok (.aload_n 0, 1) := by decide +kernel
theorem dX3_fill_31 : decode cX3_fill 31 = .ok (.invokevirtual 37, 3) := by decide +kernel
theorem dX3_fill_34 : decode cX3_fill 34 = .ok (.return_, 1) := by decide +kernel
theorem dX3_fillFirst_0 : decode cX3_fillFirst 0 = .ok (.iconst 0, 1) := by decide +kernel
theorem dX3_fillFirst_1 : decode cX3_fillFirst 1 = .ok (.istore_n 1, 1) := by decide +kernel
theorem dX3_fillFirst_2 : decode cX3_fillFirst 2 = .ok (.iload_n 1, 1) := by decide +kernel
theorem dX3_fillFirst_3 : decode cX3_fillFirst 3 = .ok (.bipush 8, 2) := by decide +kernel
theorem dX3_fillFirst_5 : decode cX3_fillFirst 5 = .ok (.if_icmp .ge 16, 3) := by decide +kernel
theorem dX3_fillFirst_8 : decode cX3_fillFirst 8 = .ok (.aload_n 0, 1) := by decide +kernel
theorem dX3_fillFirst_9 : decode cX3_fillFirst 9 = .ok (.getfield 18, 3) := by decide +kernel
theorem dX3_fillFirst_12 : decode cX3_fillFirst 12 = .ok (.iload_n 1, 1) := by decide +kernel
theorem dX3_fillFirst_13 : decode cX3_fillFirst 13 = .ok (.lconst 1, 1) := by decide +kernel
theorem dX3_fillFirst_14 : decode cX3_fillFirst 14 = .ok (.lastore, 1) := by decide +kernel
theorem dX3_fillFirst_15 : decode cX3_fillFirst 15 = .ok (.iinc 1 1, 3) := by decide +kernel
theorem dX3_fillFirst_18 : decode cX3_fillFirst 18 = .ok (.goto (-16), 3) := by decide +kernel
theorem dX3_fillFirst_21 : decode cX3_fillFirst 21 = .ok (.iconst 0, 1) := by decide +kernel
theorem dX3_fillFirst_22 : decode cX3_fillFirst 22 = .ok (.istore_n 1, 1) := by decide +kernel
theorem dX3_fillFirst_23 : decode cX3_fillFirst 23 = .ok (.iload_n 1, 1) := by decide +kernel
theorem dX3_fillFirst_24 : decode cX3_fillFirst 24 = .ok (.aload_n 0, 1) := by decide +kernel
theorem dX3_fillFirst_25 : decode cX3_fillFirst 25 = .ok (.getfield 26, 3) := by decide +kernel
theorem dX3_fillFirst_28 : decode cX3_fillFirst 28 = .ok (.if_icmp .ge 24, 3) := by decide +kernel
theorem dX3_fillFirst_31 : decode cX3_fillFirst 31 = .ok (.aload_n 0, 1) := by decide +kernel
theorem dX3_fillFirst_32 : decode cX3_fillFirst 32 = .ok (.getfield 18, 3) := by decide +kernel
theorem dX3_fillFirst_35 : decode cX3_fillFirst 35 = .ok (.aload_n 0, 1) := by decide +kernel
theorem dX3_fillFirst_36 : decode cX3_fillFirst 36 = .ok (.getfield 11, 3) := by decide +kernel
theorem dX3_fillFirst_39 : decode cX3_fillFirst 39 = .ok (.iload_n 1, 1) := by decide +kernel
theorem dX3_fillFirst_40 : decode cX3_fillFirst 40 = .ok (.iaload, 1) := by decide +kernel
theorem dX3_fillFirst_41 : decode cX3_fillFirst 41 = .ok (.dup2, 1) := by decide +kernel
theorem dX3_fillFirst_42 : decode cX3_fillFirst 42 = .ok (.laload, 1) := by decide +kernel
theorem dX3_fillFirst_43 : decode cX3_fillFirst 43 = .ok (.lconst 1, 1) := by decide +kernel
theorem dX3_fillFirst_44 : decode cX3_fillFirst 44 = .ok (.ladd, 1) := by decide +kernel
theorem dX3_fillFirst_45 : decode cX3_fillFirst 45 = .ok (.lastore, 1) := by decide +kernel
theorem dX3_fillFirst_46 : decode cX3_fillFirst 46 = .ok (.iinc 1 1, 3) := by decide +kernel
theorem dX3_fillFirst_49 : decode cX3_fillFirst 49 = .ok (.goto (-26), 3) := by decide +kernel
theorem dX3_fillFirst_52 : decode cX3_fillFirst 52 = .ok (.aload_n 0, 1) := by decide +kernel
theorem dX3_fillFirst_53 : decode cX3_fillFirst 53 = .ok (.aload_n 0, 1) := by decide +kernel
theorem dX3_fillFirst_54 : decode cX3_fillFirst 54 = .ok (.getfield 26, 3) := by decide +kernel
theorem dX3_fillFirst_57 : decode cX3_fillFirst 57 = .ok (.bipush 8, 2) := by decide +kernel
theorem dX3_fillFirst_59 : decode cX3_fillFirst 59 = .ok (.iadd, 1) := by decide +kernel
theorem dX3_fillFirst_60 : decode cX3_fillFirst 60 = .ok (.i2l, 1) := by decide +kernel
theorem dX3_fillFirst_61 : decode cX3_fillFirst 61 = .ok (.putfield 22, 3) := by decide +kernel
theorem dX3_fillFirst_64 : decode cX3_fillFirst 64 = .ok (.return_, 1) := by decide +kernel
set_option maxRecDepth 20000 in
theorem ggX3_countBehind_X5_setAll : GoodIn wsX3_countBehind wsX5_setAll := goodIn_r _ [6] (by decide +kernel) (by decide +kernel)
set_option maxRecDepth 20000 in
theorem gX3_countBehind_X5_setAll_n40 : GoodIn wsX3_countBehind (wsX5_setAll) := ggX3_countBehind_X5_setAll
theorem dX3_countBehind_0 : decode cX3_countBehind 0 = .ok (.aload_n 0, 1) := by decide +kernel
theorem dX3_countBehind_1 : decode cX3_countBehind 1 = .ok (.getfield 15, 3) := by decide +kernel
theorem dX3_countBehind_4 : decode cX3_countBehind 4 = .ok (.iconst 0, 1) := by decide +kernel
theorem dX3_countBehind_5 : decode cX3_countBehind 5 = .ok (.invokestatic 40, 3) := by decide +kernel
theorem dX3_countBehind_8 : decode cX3_countBehind 8 = .ok (.iconst 1, 1) := by decide +kernel
theorem dX3_countBehind_9 : decode cX3_countBehind 9 = .ok (.istore_n 3, 1) := by decide +kernel
theorem dX3_countBehind_10 : decode cX3_countBehind 10 = .ok (.iload_n 3, 1) := by decide +kernel
theorem dX3_countBehind_11 : decode cX3_countBehind 11 = .ok (.aload_n 0, 1) := by decide +kernel
theorem dX3_countBehind_12 : decode cX3_countBehind 12 = .ok (.getfield 26, 3) := by decide +kernel
theorem dX3_countBehind_15 : decode cX3_countBehind 15 = .ok (.if_icmp .ge 58, 3) := by decide +kernel
theorem dX3_countBehind_18 : decode cX3_countBehind 18 = .ok (.aload_n 0, 1) := by decide +kernel
theorem dX3_countBehind_19 : decode cX3_countBehind 19 = .ok (.getfield 11, 3) := by decide +kernel
theorem dX3_countBehind_22 : decode cX3_countBehind 22 = .ok (.iload_n 3, 1) := by decide +kernel
theorem dX3_countBehind_23 : decode cX3_countBehind 23 = .ok (.iconst 1, 1) := by decide +kernel
theorem dX3_countBehind_24 : decode cX3_countBehind 24 = .ok (.isub, 1) := by decide +kernel
theorem dX3_countBehind_25 : decode cX3_countBehind 25 = .ok (.iaload, 1) := by decide +kernel
theorem dX3_countBehind_26 : decode cX3_countBehind 26 = .ok (.iload_n 2, 1) := by decide +kernel
theorem dX3_countBehind_27 : decode cX3_countBehind 27 = .ok (.if_icmp .ne 40, 3) := by decide +kernel
theorem dX3_countBehind_30 : decode cX3_countBehind 30 = .ok (.iload_n 1, 1) := by decide +kernel
theorem dX3_countBehind_31 : decode cX3_countBehind 31 = .ok (.iconst (-1), 1) := by decide +kernel
theorem dX3_countBehind_32 : decode cX3_countBehind 32 = .ok (.if_icmp .eq 20, 3) := by decide +kernel
theorem dX3_countBehind_35 : decode cX3_countBehind 35 = .ok (.iload_n 3, 1) := by decide +kernel
theorem dX3_countBehind_36 : decode cX3_countBehind 36 = .ok (.iconst 2, 1) := by decide +kernel
theorem dX3_countBehind_37 : decode cX3_countBehind 37 = .ok (.if_icmp .lt 30, 3) := by decide +kernel
theorem dX3_countBehind_40 : decode cX3_countBehind 40 = .ok (.aload_n 0, 1) := by decide +kernel
theorem dX3_countBehind_41 : decode cX3_countBehind 41 = .ok (.getfield 11, 3) := by decide +kernel
theorem dX3_countBehind_44 : decode cX3_countBehind 44 = .ok (.iload_n 3, 1) := by decide +kernel
theorem dX3_countBehind_45 : decode cX3_countBehind 45 = .ok (.iconst 2, 1) := by decide +kernel
theorem dX3_countBehind_46 : decode cX3_countBehind 46 = .ok (.isub, 1) := by decide +kernel
theorem dX3_countBehind_47 : decode cX3_countBehind 47 = .ok (.iaload, 1) := by decide +kernel
theorem dX3_countBehind_48 : decode cX3_countBehind 48 = .ok (.iload_n 1, 1) := by decide +kernel
theorem dX3_countBehind_49 : decode cX3_countBehind 49 = .ok (.if_icmp .ne 18, 3) := by decide +kernel
theorem dX3_countBehind_52 : decode cX3_countBehind 52 = .ok (.aload_n 0, 1) := by decide +kernel
theorem dX3_countBehind_53 : decode cX3_countBehind 53 = .ok (.getfield 15, 3) := by decide +kernel
theorem dX3_countBehind_56 : decode cX3_countBehind 56 = .ok (.aload_n 0, 1) := by decide +kernel
theorem dX3_countBehind_57 : decode cX3_countBehind 57 = .ok (.getfield 11, 3) := by decide +kernel
theorem dX3_countBehind_60 : decode cX3_countBehind 60 = .ok (.iload_n 3, 1) := by decide +kernel
theorem dX3_countBehind_61 : decode cX3_countBehind 61 = .ok (.iaload, 1) := by decide +kernel
theorem dX3_countBehind_62 : decode cX3_countBehind 62 = .ok (.dup2, 1) := by decide +kernel
theorem dX3_countBehind_63 : decode cX3_countBehind 63 = .ok (.iaload, 1) := by decide +kernel
theorem dX3_countBehind_64 : decode cX3_countBehind 64 = .ok (.iconst 1, 1) := by decide +kernel
theorem dX3_countBehind_65 : decode cX3_countBehind 65 = .ok (.iadd, 1) := by decide +kernel
theorem dX3_countBehind_66 : decode cX3_countBehind 66 = .ok (.iastore, 1) := by decide +kernel
theorem dX3_countBehind_67 : decode cX3_countBehind 67 = .ok (.iinc 3 1, 3) := by decide +kernel
theorem dX3_countBehind_70 : decode cX3_countBehind 70 = .ok (.goto (-60), 3) := by decide +kernel
theorem dX3_countBehind_73 : decode cX3_countBehind 73 = .ok (.return_, 1) := by decide +kernel
set_option maxRecDepth 20000 in
theorem ggX3_putAbove_X3_takeCounts : GoodIn wsX3_putAbove wsX3_takeCounts := goodIn_r _ [7, 2, 1, 8, 14, 15, 16, 17, 18] (by decide +kernel) (by decide +kernel)
set_option maxRecDepth 20000 in
theorem gX3_putAbove_X3_takeCounts : GoodIn wsX3_putAbove (wsV RX3 44 RX3 yX3_takeCounts wsX3_takeCounts) := goodIn_app (goodIn_of _ (by decide +kernel)) ggX3_putAbove_X3_takeCounts
set_option maxRecDepth 20000 in
theorem ggX3_putAbove_X3_handDown : GoodIn wsX3_putAbove wsX3_handDown := goodIn_r _ [12, 1, 2, 13, 8, 14, 15, 16, 17, 18] (by decide +kernel) (by decide +kernel)
set_option maxRecDepth 20000 in
theorem gX3_putAbove_X3_handDown : GoodIn wsX3_putAbove (wsV RX3 48 RX3 yX3_handDown wsX3_handDown) := goodIn_app (goodIn_of _ (by decide +kernel)) ggX3_putAbove_X3_handDown
theorem dX3_putAbove_0 : decode cX3_putAbove 0 = .ok (.iconst 0, 1) := by decide +kernel
theorem dX3_putAbove_1 : decode cX3_putAbove 1 = .ok (.istore_n 1, 1) := by decide +kernel
theorem dX3_putAbove_2 : decode cX3_putAbove 2 = .ok (.iconst 0, 1) := by decide +kernel
theorem dX3_putAbove_3 : decode cX3_putAbove 3 = .ok (.istore_n 2, 1) := by decide +kernel
theorem dX3_putAbove_4 : decode cX3_putAbove 4 = .ok (.lconst 0, 1) := by decide +kernel
theorem dX3_putAbove_5 : decode cX3_putAbove 5 = .ok (.lstore_n 3, 1) := by decide +kernel
theorem dX3_putAbove_6 : decode cX3_putAbove 6 = .ok (.iconst 0, 1) := by decide +kernel
theorem dX3_putAbove_7 : decode cX3_putAbove 7 = .ok (.istore 5, 2) := by decide +kernel
theorem dX3_putAbove_9 : decode cX3_putAbove 9 = .ok (.iload 5, 2) := by decide +kernel
theorem dX3_putAbove_11 : decode cX3_putAbove 11 = .ok (.bipush 8, 2) := by decide +kernel
theorem dX3_putAbove_13 : decode cX3_putAbove 13 = .ok (.if_icmp .ge 61, 3) := by decide +kernel
theorem dX3_putAbove_16 : decode cX3_putAbove 16 = .ok (.iload_n 1, 1) := by decide +kernel
theorem dX3_putAbove_17 : decode cX3_putAbove 17 = .ok (.aload_n 0, 1) := by decide +kernel
theorem dX3_putAbove_18 : decode cX3_putAbove 18 = .ok (.getfield 15, 3) := by decide +kernel
theorem dX3_putAbove_21 : decode cX3_putAbove 21 = .ok (.iload 5, 2) := by decide +kernel
theorem dX3_putAbove_23 : decode cX3_putAbove 23 = .ok (.iaload, 1) := by decide +kernel
theorem dX3_putAbove_24 : decode cX3_putAbove 24 = .ok (.iadd, 1) := by decide +kernel
theorem dX3_putAbove_25 : decode cX3_putAbove 25 = .ok (.istore_n 1, 1) := by decide +kernel
theorem dX3_putAbove_26 : decode cX3_putAbove 26 = .ok (.iload_n 2, 1) := by decide +kernel
theorem dX3_putAbove_27 : decode cX3_putAbove 27 = .ok (.aload_n 0, 1) := by decide +kernel
theorem dX3_putAbove_28 : decode cX3_putAbove 28 = .ok (.getfield 15, 3) := by decide +kernel
theorem dX3_putAbove_31 : decode cX3_putAbove 31 = .ok (.iload 5, 2) := by decide +kernel
theorem dX3_putAbove_33 : decode cX3_putAbove 33 = .ok (.iaload, 1) := by decide +kernel
theorem dX3_putAbove_34 : decode cX3_putAbove 34 = .ok (.ifCond .le 7, 3) := by decide +kernel
theorem dX3_putAbove_37 : decode cX3_putAbove 37 = .ok (.iconst 1, 1) := by decide +kernel
theorem dX3_putAbove_38 : decode cX3_putAbove 38 = .ok (.goto 4, 3) := by decide +kernel
theorem dX3_putAbove_41 : decode cX3_putAbove 41 = .ok (.iconst 0, 1) := by decide +kernel
theorem dX3_putAbove_42 : decode cX3_putAbove 42 = .ok (.iadd, 1) := by decide +kernel
theorem dX3_putAbove_43 : decode cX3_putAbove 43 = .ok (.istore_n 2, 1) := by decide +kernel
theorem dX3_putAbove_44 : decode cX3_putAbove 44 = .ok (.lload_n 3, 1) := by decide +kernel
theorem dX3_putAbove_45 : decode cX3_putAbove 45 = .ok (.aload_n 0, 1) := by decide +kernel
theorem dX3_putAbove_46 : decode cX3_putAbove 46 = .ok (.getfield 15, 3) := by decide +kernel
theorem dX3_putAbove_49 : decode cX3_putAbove 49 = .ok (.iload 5, 2) := by decide +kernel
theorem dX3_putAbove_51 : decode cX3_putAbove 51 = .ok (.iaload, 1) := by decide +kernel
theorem dX3_putAbove_52 : decode cX3_putAbove 52 = .ok (.ifCond .le 7, 3) := by decide +kernel
theorem dX3_putAbove_55 : decode cX3_putAbove 55 = .ok (.lconst 0, 1) := by decide +kernel
theorem dX3_putAbove_56 : decode cX3_putAbove 56 = .ok (.goto 10, 3) := by decide +kernel
theorem dX3_putAbove_59 : decode cX3_putAbove 59 = .ok (.aload_n 0, 1) := by decide +kernel
theorem dX3_putAbove_60 : decode cX3_putAbove 60 = .ok (.getfield 18, 3) := by decide +kernel
theorem dX3_putAbove_63 : decode cX3_putAbove 63 = .ok (.iload 5, 2) := by decide +kernel
theorem dX3_putAbove_65 : decode cX3_putAbove 65 = .ok (.laload, 1) := by decide +kernel
theorem dX3_putAbove_66 : decode cX3_putAbove 66 = .ok (.ladd, 1) := by decide +kernel
theorem dX3_putAbove_67 : decode cX3_putAbove 67 = .ok (.lstore_n 3, 1) := by decide +kernel
theorem dX3_putAbove_68 : decode cX3_putAbove 68 = .ok (.iinc 5 1, 3) := by decide +kernel
theorem dX3_putAbove_71 : decode cX3_putAbove 71 = .ok (.goto (-62), 3) := by decide +kernel
theorem dX3_putAbove_74 : decode cX3_putAbove 74 = .ok (.iload_n 1, 1) := by decide +kernel
theorem dX3_putAbove_75 : decode cX3_putAbove 75 = .ok (.ifCond .ne 4, 3) := by decide +kernel
theorem dX3_putAbove_78 : decode cX3_putAbove 78 = .ok (.return_, 1) := by decide +kernel
theorem dX3_putAbove_79 : decode cX3_putAbove 79 = .ok (.iload_n 2, 1) := by decide +kernel
theorem dX3_putAbove_80 : decode cX3_putAbove 80 = .ok (.bipush 8, 2) := by decide +kernel
theorem dX3_putAbove_82 : decode cX3_putAbove 82 = .ok (.if_icmp .ne 11, 3) := by decide +kernel
theorem dX3_putAbove_85 : decode cX3_putAbove 85 = .ok (.aload_n 0, 1) := by decide +kernel
theorem dX3_putAbove_86 : decode cX3_putAbove 86 = .ok (.iload_n 1, 1) := by decide +kernel
theorem dX3_putAbove_87 : decode cX3_putAbove 87 = .ok (.invokevirtual 44, 3) := by decide +kernel
theorem dX3_putAbove_90 : decode cX3_putAbove 90 = .ok (.goto 10, 3) := by decide +kernel
theorem dX3_putAbove_93 : decode cX3_putAbove 93 = .ok (.aload_n 0, 1) := by decide +kernel
theorem dX3_putAbove_94 : decode cX3_putAbove 94 = .ok (.iload_n 1, 1) := by decide +kernel
theorem dX3_putAbove_95 : decode cX3_putAbove 95 = .ok (.iload_n 2, 1) := by decide +kernel
theorem dX3_putAbove_96 : decode cX3_putAbove 96 = .ok (.lload_n 3, 1) := by decide +kernel
theorem dX3_putAbove_97 : decode cX3_putAbove 97 = .ok (.invokevirtual 48, 3) := by decide +kernel
theorem dX3_putAbove_100 : decode cX3_putAbove 100 = .ok (.return_, 1) := by decide +kernel
theorem dX3_takeCounts_0 : decode cX3_takeCounts 0 = .ok (.iconst 0, 1) := by decide +kernel
theorem dX3_takeCounts_1 : decode cX3_takeCounts 1 = .ok (.istore_n 2, 1) := by decide +kernel
theorem dX3_takeCounts_2 : decode cX3_takeCounts 2 = .ok (.iload_n 2, 1) := by decide +kernel
theorem dX3_takeCounts_3 : decode cX3_takeCounts 3 = .ok (.bipush 8, 2) := by decide +kernel
theorem dX3_takeCounts_5 : decode cX3_takeCounts 5 = .ok (.if_icmp .ge 22, 3) := by decide +kernel
theorem dX3_takeCounts_8 : decode cX3_takeCounts 8 = .ok (.aload_n 0, 1) := by decide +kernel
theorem dX3_takeCounts_9 : decode cX3_takeCounts 9 = .ok (.getfield 18, 3) := by decide +kernel
theorem dX3_takeCounts_12 : decode cX3_takeCounts 12 = .ok (.iload_n 2, 1) := by decide +kernel
theorem dX3_takeCounts_13 : decode cX3_takeCounts 13 = .ok (.aload_n 0, 1) := by decide +kernel
theorem dX3_takeCounts_14 : decode cX3_takeCounts 14 = .ok (.getfield 15, 3) := by decide +kernel
theorem dX3_takeCounts_17 : decode cX3_takeCounts 17 = .ok (.iload_n 2, 1) := by decide +kernel
theorem dX3_takeCounts_18 : decode cX3_takeCounts 18 = .ok (.iaload, 1) := by decide +kernel
theorem dX3_takeCounts_19 : decode cX3_takeCounts 19 = .ok (.i2l, 1) := by decide +kernel
theorem dX3_takeCounts_20 : decode cX3_takeCounts 20 = .ok (.lastore, 1) := by decide +kernel
theorem dX3_takeCounts_21 : decode cX3_takeCounts 21 = .ok (.iinc 2 1, 3) := by decide +kernel
theorem dX3_takeCounts_24 : decode cX3_takeCounts 24 = .ok (.goto (-22), 3) := by decide +kernel
theorem dX3_takeCounts_27 : decode cX3_takeCounts 27 = .ok (.aload_n 0, 1) := by decide +kernel
theorem dX3_takeCounts_28 : decode cX3_takeCounts 28 = .ok (.iload_n 1, 1) := by decide +kernel
theorem dX3_takeCounts_29 : decode cX3_takeCounts 29 = .ok (.i2l, 1) := by decide +kernel
theorem dX3_takeCounts_30 : decode cX3_takeCounts 30 = .ok (.putfield 22, 3) := by decide +kernel
theorem dX3_takeCounts_33 : decode cX3_takeCounts 33 = .ok (.return_, 1) := by decide +kernel
theorem dX3_handDown_0 : decode cX3_handDown 0 = .ok (.iconst 0, 1) := by decide +kernel
theorem dX3_handDown_1 : decode cX3_handDown 1 = .ok (.istore 5, 2) := by decide +kernel
theorem dX3_handDown_3 : decode cX3_handDown 3 = .ok (.iload 5, 2) := by decide +kernel
theorem dX3_handDown_5 : decode cX3_handDown 5 = .ok (.bipush 8, 2) := by decide +kernel
theorem dX3_handDown_7 : decode cX3_handDown 7 = .ok (.if_icmp .ge 62, 3) := by decide +kernel
theorem dX3_handDown_10 : decode cX3_handDown 10 = .ok (.aload_n 0, 1) := by decide +kernel
theorem dX3_handDown_11 : decode cX3_handDown 11 = .ok (.getfield 15, 3) := by decide +kernel
theorem dX3_handDown_14 : decode cX3_handDown 14 = .ok (.iload 5, 2) := by decide +kernel
theorem dX3_handDown_16 : decode cX3_handDown 16 = .ok (.iaload, 1) := by decide +kernel
theorem dX3_handDown_17 : decode cX3_handDown 17 = .ok (.ifCond .le 29, 3) := by decide +kernel
theorem dX3_handDown_20 : decode cX3_handDown 20 = .ok (.aload_n 0, 1) := by decide +kernel
theorem dX3_handDown_21 : decode cX3_handDown 21 = .ok (.getfield 18, 3) := by decide +kernel
theorem dX3_handDown_24 : decode cX3_handDown 24 = .ok (.iload 5, 2) := by decide +kernel
theorem dX3_handDown_26 : decode cX3_handDown 26 = .ok (.ldc2_w 52, 3) := by decide +kernel
theorem dX3_handDown_29 : decode cX3_handDown 29 = .ok (.aload_n 0, 1) := by decide +kernel
theorem dX3_handDown_30 : decode cX3_handDown 30 = .ok (.getfield 15, 3) := by decide +kernel
theorem dX3_handDown_33 : decode cX3_handDown 33 = .ok (.iload 5, 2) := by decide +kernel
theorem dX3_handDown_35 : decode cX3_handDown 35 = .ok (.iaload, 1) := by decide +kernel
theorem dX3_handDown_36 : decode cX3_handDown 36 = .ok (.i2l, 1) := by decide +kernel
theorem dX3_handDown_37 : decode cX3_handDown 37 = .ok (.lmul, 1) := by decide +kernel
theorem dX3_handDown_38 : decode cX3_handDown 38 = .ok (.lconst 1, 1) := by decide +kernel
theorem dX3_handDown_39 : decode cX3_handDown 39 = .ok (.lsub, 1) := by decide +kernel
theorem dX3_handDown_40 : decode cX3_handDown 40 = .ok (.lload_n 3, 1) := by decide +kernel
theorem dX3_handDown_41 : decode cX3_handDown 41 = .ok (.lmul, 1) := by decide +kernel
theorem dX3_handDown_42 : decode cX3_handDown 42 = .ok (.lastore, 1) := by decide +kernel
theorem dX3_handDown_43 : decode cX3_handDown 43 = .ok (.goto 20, 3) := by decide +kernel
theorem dX3_handDown_46 : decode cX3_handDown 46 = .ok (.aload_n 0, 1) := by decide +kernel
theorem dX3_handDown_47 : decode cX3_handDown 47 = .ok (.getfield 18, 3) := by decide +kernel
theorem dX3_handDown_50 : decode cX3_handDown 50 = .ok (.iload 5, 2) := by decide +kernel
theorem dX3_handDown_52 : decode cX3_handDown 52 = .ok (.iload_n 2, 1) := by decide +kernel
theorem dX3_handDown_53 : decode cX3_handDown 53 = .ok (.i2l, 1) := by decide +kernel
theorem dX3_handDown_54 : decode cX3_handDown 54 = .ok (.aload_n 0, 1) := by decide +kernel
theorem dX3_handDown_55 : decode cX3_handDown 55 = .ok (.getfield 18, 3) := by decide +kernel
theorem dX3_handDown_58 : decode cX3_handDown 58 = .ok (.iload 5, 2) := by decide +kernel
theorem dX3_handDown_60 : decode cX3_handDown 60 = .ok (.laload, 1) := by decide +kernel
theorem dX3_handDown_61 : decode cX3_handDown 61 = .ok (.lmul, 1) := by decide +kernel
theorem dX3_handDown_62 : decode cX3_handDown 62 = .ok (.lastore, 1) := by decide +kernel
theorem dX3_handDown_63 : decode cX3_handDown 63 = .ok (.iinc 5 1, 3) := by decide +kernel
theorem dX3_handDown_66 : decode cX3_handDown 66 = .ok (.goto (-63), 3) := by decide +kernel
theorem dX3_handDown_69 : decode cX3_handDown 69 = .ok (.aload_n 0, 1) := by decide +kernel
theorem dX3_handDown_70 : decode cX3_handDown 70 = .ok (.ldc2_w 52, 3) := by decide +kernel
theorem dX3_handDown_73 : decode cX3_handDown 73 = .ok (.iload_n 1, 1) := by decide +kernel
theorem dX3_handDown_74 : decode cX3_handDown 74 = .ok (.i2l, 1) := by decide +kernel
theorem dX3_handDown_75 : decode cX3_handDown 75 = .ok (.lmul, 1) := by decide +kernel
theorem dX3_handDown_76 : decode cX3_handDown 76 = .ok (.lload_n 3, 1) := by decide +kernel
theorem dX3_handDown_77 : decode cX3_handDown 77 = .ok (.lmul, 1) := by decide +kernel
theorem dX3_handDown_78 : decode cX3_handDown 78 = .ok (.putfield 22, 3) := by decide +kernel
theorem dX3_handDown_81 : decode cX3_handDown 81 = .ok (.return_, 1) := by decide +kernel
theorem dX4_init_0 : decode cX4_init 0 = .ok (.aload_n 0, 1) := by decide +kernel
theorem dX4_init_1 : decode cX4_init 1 = .ok (.invokespecial 3, 3) := by decide +kernel
theorem dX4_init_4 : decode cX4_init 4 = .ok (.aload_n 0, 1) := by decide +kernel
theorem dX4_init_5 : decode cX4_init 5 = .ok (.bipush 64, 2) := by decide +kernel
theorem dX4_init_7 : decode cX4_init 7 = .ok (.newarray .int, 2) := by decide +kernel
theorem dX4_init_9 : decode cX4_init 9 = .ok (.putfield 11, 3) := by decide +kernel
theorem dX4_init_12 : decode cX4_init 12 = .ok (.aload_n 0, 1) := by decide +kernel
theorem dX4_init_13 : decode cX4_init 13 = .ok (.bipush 8, 2) := by decide +kernel
theorem dX4_init_15 : decode cX4_init 15 = .ok (.newarray .int, 2) := by decide +kernel
theorem dX4_init_17 : decode cX4_init 17 = .ok (.putfield 15, 3) := by decide +kernel
theorem dX4_init_20 : decode cX4_init 20 = .ok (.aload_n 0, 1) := by decide +kernel
theorem dX4_init_21 : decode cX4_init 21 = .ok (.bipush 56, 2) := by decide +kernel
theorem dX4_init_23 : decode cX4_init 23 = .ok (.newarray .int, 2) := by decide +kernel
theorem dX4_init_25 : decode cX4_init 25 = .ok (.putfield 18, 3) := by decide +kernel
theorem dX4_init_28 : decode cX4_init 28 = .ok (.aload_n 0, 1) := by decide +kernel
theorem dX4_init_29 : decode cX4_init 29 = .ok (.iconst 0, 1) := by decide +kernel
theorem dX4_init_30 : decode cX4_init 30 = .ok (.putfield 21, 3) := by decide +kernel
theorem dX4_init_33 : decode cX4_init 33 = .ok (.return_, 1) := by decide +kernel
theorem dX4_has_0 : decode cX4_has 0 = .ok (.iload_n 1, 1) := by decide +kernel
theorem dX4_has_1 : decode cX4_has 1 = .ok (.ifCond .lt 15, 3) := by decide +kernel
theorem dX4_has_4 : decode cX4_has 4 = .ok (.iload_n 1, 1) := by decide +kernel
theorem dX4_has_5 : decode cX4_has 5 = .ok (.aload_n 0, 1) := by decide +kernel
theorem dX4_has_6 : decode cX4_has 6 = .ok (.getfield 21, 3) := by decide +kernel
theorem dX4_has_9 : decode cX4_has 9 = .ok (.if_icmp .ge 7, 3) := by decide +kernel
theorem dX4_has_12 : decode cX4_has 12 = .ok (.iconst 1, 1) := by decide +kernel
theorem dX4_has_13 : decode cX4_has 13 = .ok (.goto 4, 3) := by decide +kernel
theorem dX4_has_16 : decode cX4_has 16 = .ok (.iconst 0, 1) := by decide +kernel
theorem dX4_has_17 : decode cX4_has 17 = .ok (.ireturn, 1) := by decide +kernel
theorem dX4_size_0 : decode cX4_size 0 = .ok (.aload_n 0, 1) := by decide +kernel
theorem dX4_size_1 : decode cX4_size 1 = .ok (.getfield 21, 3) := by decide +kernel
theorem dX4_size_4 : decode cX4_size 4 = .ok (.ireturn, 1) := by decide +kernel
set_option maxRecDepth 20000 in
theorem ggX4_partOf_X0_sideOf : GoodIn wsX4_partOf wsX0_sideOf := goodIn_r _ [7, 8, 9, 6, 10] (by decide +kernel) (by decide +kernel)
set_option maxRecDepth 20000 in
theorem gX4_partOf_X0_sideOf : GoodIn wsX4_partOf (va_wsS RX4 25 yX0_sideOf wsX0_sideOf) := goodIn_app (goodIn_of _ (by decide +kernel)) ggX4_partOf_X0_sideOf
theorem dX4_partOf_0 : decode cX4_partOf 0 = .ok (.aload_n 0, 1) := by decide +kernel
theorem dX4_partOf_1 : decode cX4_partOf 1 = .ok (.getfield 18, 3) := by decide +kernel
theorem dX4_partOf_4 : decode cX4_partOf 4 = .ok (.iload_n 1, 1) := by decide +kernel
theorem dX4_partOf_5 : decode cX4_partOf 5 = .ok (.iaload, 1) := by decide +kernel
theorem dX4_partOf_6 : decode cX4_partOf 6 = .ok (.bipush 64, 2) := by decide +kernel
theorem dX4_partOf_8 : decode cX4_partOf 8 = .ok (.irem, 1) := by decide +kernel
theorem dX4_partOf_9 : decode cX4_partOf 9 = .ok (.istore_n 3, 1) := by decide +kernel
theorem dX4_partOf_10 : decode cX4_partOf 10 = .ok (.iload_n 3, 1) := by decide +kernel
theorem dX4_partOf_11 : decode cX4_partOf 11 = .ok (.bipush 8, 2) := by decide +kernel
theorem dX4_partOf_13 : decode cX4_partOf 13 = .ok (.idiv, 1) := by decide +kernel
theorem dX4_partOf_14 : decode cX4_partOf 14 = .ok (.istore 4, 2) := by decide +kernel
theorem dX4_partOf_16 : decode cX4_partOf 16 = .ok (.iload_n 2, 1) := by decide +kernel
theorem dX4_partOf_17 : decode cX4_partOf 17 = .ok (.ifCond .ne 6, 3) := by decide +kernel
theorem dX4_partOf_20 : decode cX4_partOf 20 = .ok (.iload 4, 2) := by decide +kernel
theorem dX4_partOf_22 : decode cX4_partOf 22 = .ok (.ireturn, 1) := by decide +kernel
theorem dX4_partOf_23 : decode cX4_partOf 23 = .ok (.iload_n 2, 1) := by decide +kernel
theorem dX4_partOf_24 : decode cX4_partOf 24 = .ok (.iconst 1, 1) := by decide +kernel
theorem dX4_partOf_25 : decode cX4_partOf 25 = .ok (.if_icmp .ne 8, 3) := by decide +kernel
theorem dX4_partOf_28 : decode cX4_partOf 28 = .ok (.iload_n 3, 1) := by decide +kernel
theorem dX4_partOf_29 : decode cX4_partOf 29 = .ok (.bipush 8, 2) := by decide +kernel
theorem dX4_partOf_31 : decode cX4_partOf 31 = .ok (.irem, 1) := by decide +kernel
theorem dX4_partOf_32 : decode cX4_partOf 32 = .ok (.ireturn, 1) := by decide +kernel
theorem dX4_partOf_33 : decode cX4_partOf 33 = .ok (.iload_n 2, 1) := by decide +kernel
theorem dX4_partOf_34 : decode cX4_partOf 34 = .ok (.iconst 2, 1) := by decide +kernel
theorem dX4_partOf_35 : decode cX4_partOf 35 = .ok (.if_icmp .ne 10, 3) := by decide +kernel
theorem dX4_partOf_38 : decode cX4_partOf 38 = .ok (.aload_n 0, 1) := by decide +kernel
theorem dX4_partOf_39 : decode cX4_partOf 39 = .ok (.getfield 11, 3) := by decide +kernel
theorem dX4_partOf_42 : decode cX4_partOf 42 = .ok (.iload_n 3, 1) := by decide +kernel
theorem dX4_partOf_43 : decode cX4_partOf 43 = .ok (.iaload, 1) := by decide +kernel
theorem dX4_partOf_44 : decode cX4_partOf 44 = .ok (.ireturn, 1) := by decide +kernel
theorem dX4_partOf_45 : decode cX4_partOf 45 = .ok (.aload_n 0, 1) := by decide +kernel
theorem dX4_partOf_46 : decode cX4_partOf 46 = .ok (.getfield 11, 3) := by decide +kernel
theorem dX4_partOf_49 : decode cX4_partOf 49 = .ok (.iload_n 3, 1) := by decide +kernel
theorem dX4_partOf_50 : decode cX4_partOf 50 = .ok (.iaload, 1) := by decide +kernel
theorem dX4_partOf_51 : decode cX4_partOf 51 = .ok (.i2l, 1) := by decide +kernel
theorem dX4_partOf_52 : decode cX4_partOf 52 = .ok (.aload_n 0, 1) := by decide +kernel
theorem dX4_partOf_53 : decode cX4_partOf 53 = .ok (.getfield 15, 3) := by decide +kernel
theorem dX4_partOf_56 : decode cX4_partOf 56 = .ok (.iload 4, 2) := by decide +kernel
theorem dX4_partOf_58 : decode cX4_partOf 58 = .ok (.iaload, 1) := by decide +kernel
theorem dX4_partOf_59 : decode cX4_partOf 59 = .ok (.i2l, 1) := by decide +kernel
theorem dX4_partOf_60 : decode cX4_partOf 60 = .ok (.iload_n 2, 1) := by decide +kernel
theorem dX4_partOf_61 : decode cX4_partOf 61 = .ok (.iconst 4, 1) := by decide +kernel
theorem dX4_partOf_62 : decode cX4_partOf 62 = .ok (.if_icmp .ne 7, 3) := by decide +kernel
theorem dX4_partOf_65 : decode cX4_partOf 65 = .ok (.iconst 1, 1) := by decide +kernel
theorem dX4_partOf_66 : decode cX4_partOf 66 = .ok (.goto 4, 3) := by decide +kernel
theorem dX4_partOf_69 : decode cX4_partOf 69 = .ok (.iconst 0, 1) := by decide +kernel
theorem dX4_partOf_70 : decode cX4_partOf 70 = .ok (.invokestatic 25, 3) := by decide +kernel
theorem dX4_partOf_73 : decode cX4_partOf 73 = .ok (.l2i, 1) := by decide +kernel
theorem dX4_partOf_74 : decode cX4_partOf 74 = .ok (.ireturn, 1) := by decide +kernel
set_option maxRecDepth 20000 in
theorem ggX4_gather_X5_setAll : GoodIn wsX4_gather wsX5_setAll := goodIn_r _ [6] (by decide +kernel) (by decide +kernel)
set_option maxRecDepth 20000 in
theorem gX4_gather_X5_setAll_n31 : GoodIn wsX4_gather (wsX5_setAll) := ggX4_gather_X5_setAll
set_option maxRecDepth 20000 in
theorem ggX4_gather_X2_size : GoodIn wsX4_gather wsX2_size := goodIn_r _ [11, 12, 41, 42, 43, 44, 45, 46, 47, 48, 49, 50] (by decide +kernel) (by decide +kernel)
set_option maxRecDepth 20000 in
theorem gX4_gather_X2_size : GoodIn wsX4_gather (wsV RX4 35 RX2 yX2_size wsX2_size) := goodIn_app (goodIn_of _ (by decide +kernel)) ggX4_gather_X2_size
set_option maxRecDepth 20000 in
theorem ggX4_gather_X2_wordSet : GoodIn wsX4_gather wsX2_wordSet := goodIn_r _ [16, 17, 18, 41, 42, 43, 44, 45, 46, 47, 48, 49, 50] (by decide +kernel) (by decide +kernel)
set_option maxRecDepth 20000 in
theorem gX4_gather_X2_wordSet : GoodIn wsX4_gather (wsV RX4 41 RX2 yX2_wordSet wsX2_wordSet) := goodIn_app (goodIn_of _ (by decide +kernel)) ggX4_gather_X2_wordSet
set_option maxRecDepth 20000 in
theorem ggX4_gather_X4_countSet : GoodIn wsX4_gather wsX4_countSet := goodIn_r _ [23, 2, 24, 25, 26, 22, 27, 1, 37, 38, 39, 40] (by decide +kernel) (by decide +kernel)
set_option maxRecDepth 20000 in
theorem gX4_gather_X4_countSet : GoodIn wsX4_gather (wsV RX4 45 RX4 yX4_countSet wsX4_countSet) := goodIn_app (goodIn_of _ (by decide +kernel)) ggX4_gather_X4_countSet
set_option maxRecDepth 20000 in
theorem ggX4_gather_X4_keyOf : GoodIn wsX4_gather wsX4_keyOf := goodIn_r _ [31, 1, 2, 37, 38, 39, 40] (by decide +kernel) (by decide +kernel)
set_option maxRecDepth 20000 in
theorem gX4_gather_X4_keyOf : GoodIn wsX4_gather (wsV RX4 49 RX4 yX4_keyOf wsX4_keyOf) := goodIn_app (goodIn_of _ (by decide +kernel)) ggX4_gather_X4_keyOf
set_option maxRecDepth 20000 in
theorem ggX4_gather_X4_insert : GoodIn wsX4_gather wsX4_insert := goodIn_r _ [35, 3, 36, 37, 38, 39, 40] (by decide +kernel) (by decide +kernel)
set_option maxRecDepth 20000 in
theorem gX4_gather_X4_insert : GoodIn wsX4_gather (wsV RX4 52 RX4 yX4_insert wsX4_insert) := goodIn_app (goodIn_of _ (by decide +kernel)) ggX4_gather_X4_insert
theorem dX4_gather_0 : decode cX4_gather 0 = .ok (.aload_n 0, 1) := by decide +kernel
theorem dX4_gather_1 : decode cX4_gather 1 = .ok (.getfield 11, 3) := by decide +kernel
theorem dX4_gather_4 : decode cX4_gather 4 = .ok (.iconst 0, 1) := by decide +kernel
theorem dX4_gather_5 : decode cX4_gather 5 = .ok (.invokestatic 31, 3) := by decide +kernel
theorem dX4_gather_8 : decode cX4_gather 8 = .ok (.aload_n 0, 1) := by decide +kernel
theorem dX4_gather_9 : decode cX4_gather 9 = .ok (.getfield 15, 3) := by decide +kernel
theorem dX4_gather_12 : decode cX4_gather 12 = .ok (.iconst 0, 1) := by decide +kernel
theorem dX4_gather_13 : decode cX4_gather 13 = .ok (.invokestatic 31, 3) := by decide +kernel
theorem dX4_gather_16 : decode cX4_gather 16 = .ok (.iconst 0, 1) := by decide +kernel
theorem dX4_gather_17 : decode cX4_gather 17 = .ok (.istore_n 2, 1) := by decide +kernel
theorem dX4_gather_18 : decode cX4_gather 18 = .ok (.iload_n 2, 1) := by decide +kernel
theorem dX4_gather_19 : decode cX4_gather 19 = .ok (.aload_n 1, 1) := by decide +kernel
theorem dX4_gather_20 : decode cX4_gather 20 = .ok (.invokevirtual 35, 3) := by decide +kernel
theorem dX4_gather_23 : decode cX4_gather 23 = .ok (.if_icmp .ge 18, 3) := by decide +kernel
theorem dX4_gather_26 : decode cX4_gather 26 = .ok (.aload_n 0, 1) := by decide +kernel
theorem dX4_gather_27 : decode cX4_gather 27 = .ok (.aload_n 1, 1) := by decide +kernel
theorem dX4_gather_28 : decode cX4_gather 28 = .ok (.iload_n 2, 1) := by decide +kernel
theorem dX4_gather_29 : decode cX4_gather 29 = .ok (.invokevirtual 41, 3) := by decide +kernel
theorem dX4_gather_32 : decode cX4_gather 32 = .ok (.invokevirtual 45, 3) := by decide +kernel
theorem dX4_gather_35 : decode cX4_gather 35 = .ok (.iinc 2 1, 3) := by decide +kernel
theorem dX4_gather_38 : decode cX4_gather 38 = .ok (.goto (-20), 3) := by decide +kernel
theorem dX4_gather_41 : decode cX4_gather 41 = .ok (.aload_n 0, 1) := by decide +kernel
theorem dX4_gather_42 : decode cX4_gather 42 = .ok (.iconst 0, 1) := by decide +kernel
theorem dX4_gather_43 : decode cX4_gather 43 = .ok (.putfield 21, 3) := by decide +kernel
theorem dX4_gather_46 : decode cX4_gather 46 = .ok (.iconst 0, 1) := by decide +kernel
theorem dX4_gather_47 : decode cX4_gather 47 = .ok (.istore_n 2, 1) := by decide +kernel
theorem dX4_gather_48 : decode cX4_gather 48 = .ok (.iload_n 2, 1) := by decide +kernel
theorem dX4_gather_49 : decode cX4_gather 49 = .ok (.bipush 64, 2) := by decide +kernel
theorem dX4_gather_51 : decode cX4_gather 51 = .ok (.if_icmp .ge 27, 3) := by decide +kernel
theorem dX4_gather_54 : decode cX4_gather 54 = .ok (.aload_n 0, 1) := by decide +kernel
theorem dX4_gather_55 : decode cX4_gather 55 = .ok (.getfield 11, 3) := by decide +kernel
theorem dX4_gather_58 : decode cX4_gather 58 = .ok (.iload_n 2, 1) := by decide +kernel
theorem dX4_gather_59 : decode cX4_gather 59 = .ok (.iaload, 1) := by decide +kernel
theorem dX4_gather_60 : decode cX4_gather 60 = .ok (.ifCond .le 12, 3) := by decide +kernel
theorem dX4_gather_63 : decode cX4_gather 63 = .ok (.aload_n 0, 1) := by decide +kernel
theorem dX4_gather_64 : decode cX4_gather 64 = .ok (.aload_n 0, 1) := by decide +kernel
theorem dX4_gather_65 : decode cX4_gather 65 = .ok (.iload_n 2, 1) := by decide +kernel
theorem dX4_gather_66 : decode cX4_gather 66 = .ok (.invokevirtual 49, 3) := by decide +kernel
theorem dX4_gather_69 : decode cX4_gather 69 = .ok (.invokevirtual 52, 3) := by decide +kernel
theorem dX4_gather_72 : decode cX4_gather 72 = .ok (.iinc 2 1, 3) := by decide +kernel
theorem dX4_gather_75 : decode cX4_gather 75 = .ok (.goto (-27), 3) := by decide +kernel
theorem dX4_gather_78 : decode cX4_gather 78 = .ok (.return_, 1) := by decide +kernel
set_option maxRecDepth 20000 in
theorem ggX4_countSet_X4_countPairs : GoodIn wsX4_countSet wsX4_countPairs := goodIn_r _ [6, 7, 8, 9, 10, 11] (by decide +kernel) (by decide +kernel)
set_option maxRecDepth 20000 in
theorem gX4_countSet_X4_countPairs : GoodIn wsX4_countSet (wsV RX4 55 RX4 yX4_countPairs wsX4_countPairs) := goodIn_app (goodIn_of _ (by decide +kernel)) ggX4_countSet_X4_countPairs
theorem dX4_countSet_0 : decode cX4_countSet 0 = .ok (.iconst 0, 1) := by decide +kernel
theorem dX4_countSet_1 : decode cX4_countSet 1 = .ok (.istore_n 2, 1) := by decide +kernel
theorem dX4_countSet_2 : decode cX4_countSet 2 = .ok (.iload_n 2, 1) := by decide +kernel
theorem dX4_countSet_3 : decode cX4_countSet 3 = .ok (.bipush 8, 2) := by decide +kernel
theorem dX4_countSet_5 : decode cX4_countSet 5 = .ok (.if_icmp .ge 33, 3) := by decide +kernel
theorem dX4_countSet_8 : decode cX4_countSet 8 = .ok (.iload_n 1, 1) := by decide +kernel
theorem dX4_countSet_9 : decode cX4_countSet 9 = .ok (.iload_n 2, 1) := by decide +kernel
theorem dX4_countSet_10 : decode cX4_countSet 10 = .ok (.ishr, 1) := by decide +kernel
theorem dX4_countSet_11 : decode cX4_countSet 11 = .ok (.iconst 1, 1) := by decide +kernel
theorem dX4_countSet_12 : decode cX4_countSet 12 = .ok (.iand, 1) := by decide +kernel
theorem dX4_countSet_13 : decode cX4_countSet 13 = .ok (.ifCond .eq 19, 3) := by decide +kernel
theorem dX4_countSet_16 : decode cX4_countSet 16 = .ok (.aload_n 0, 1) := by decide +kernel
theorem dX4_countSet_17 : decode cX4_countSet 17 = .ok (.getfield 15, 3) := by decide +kernel
theorem dX4_countSet_20 : decode cX4_countSet 20 = .ok (.iload_n 2, 1) := by decide +kernel
theorem dX4_countSet_21 : decode cX4_countSet 21 = .ok (.dup2, 1) := by decide +kernel
theorem dX4_countSet_22 : decode cX4_countSet 22 = .ok (.iaload, 1) := by decide +kernel
theorem dX4_countSet_23 : decode cX4_countSet 23 = .ok (.iconst 1, 1) := by decide +kernel
theorem dX4_countSet_24 : decode cX4_countSet 24 = .ok (.iadd, 1) := by decide +kernel
theorem dX4_countSet_25 : decode cX4_countSet 25 = .ok (.iastore, 1) := by decide +kernel
theorem dX4_countSet_26 : decode cX4_countSet 26 = .ok (.aload_n 0, 1) := by decide +kernel
theorem dX4_countSet_27 : decode cX4_countSet 27 = .ok (.iload_n 2, 1) := by decide +kernel
theorem dX4_countSet_28 : decode cX4_countSet 28 = .ok (.iload_n 1, 1) := by decide +kernel
theorem dX4_countSet_29 : decode cX4_countSet 29 = .ok (.invokevirtual 55, 3) := by decide +kernel
theorem dX4_countSet_32 : decode cX4_countSet 32 = .ok (.iinc 2 1, 3) := by decide +kernel
theorem dX4_countSet_35 : decode cX4_countSet 35 = .ok (.goto (-33), 3) := by decide +kernel
theorem dX4_countSet_38 : decode cX4_countSet 38 = .ok (.return_, 1) := by decide +kernel
theorem dX4_countPairs_0 : decode cX4_countPairs 0 = .ok (.iconst 0, 1) := by decide +kernel
theorem dX4_countPairs_1 : decode cX4_countPairs 1 = .ok (.istore_n 3, 1) := by decide +kernel
theorem dX4_countPairs_2 : decode cX4_countPairs 2 = .ok (.iload_n 3, 1) := by decide +kernel
theorem dX4_countPairs_3 : decode cX4_countPairs 3 = .ok (.bipush 8, 2) := by decide +kernel
theorem dX4_countPairs_5 : decode cX4_countPairs 5 = .ok (.if_icmp .ge 37, 3) := by decide +kernel
theorem dX4_countPairs_8 : decode cX4_countPairs 8 = .ok (.iload_n 3, 1) := by decide +kernel
theorem dX4_countPairs_9 : decode cX4_countPairs 9 = .ok (.iload_n 1, 1) := by decide +kernel
theorem dX4_countPairs_10 : decode cX4_countPairs 10 = .ok (.if_icmp .eq 26, 3) := by decide +kernel
theorem dX4_countPairs_13 : decode cX4_countPairs 13 = .ok (.iload_n 2, 1) := by decide +kernel
theorem dX4_countPairs_14 : decode cX4_countPairs 14 = .ok (.iload_n 3, 1) := by decide +kernel
theorem dX4_countPairs_15 : decode cX4_countPairs 15 = .ok (.ishr, 1) := by decide +kernel
theorem dX4_countPairs_16 : decode cX4_countPairs 16 = .ok (.iconst 1, 1) := by decide +kernel
theorem dX4_countPairs_17 : decode cX4_countPairs 17 = .ok (.iand, 1) := by decide +kernel
theorem dX4_countPairs_18 : decode cX4_countPairs 18 = .ok (.ifCond .eq 18, 3) := by decide +kernel
theorem dX4_countPairs_21 : decode cX4_countPairs 21 = .ok (.aload_n 0, 1) := by decide +kernel
theorem dX4_countPairs_22 : decode cX4_countPairs 22 = .ok (.getfield 11, 3) := by decide +kernel
theorem dX4_countPairs_25 : decode cX4_countPairs 25 = .ok (.iload_n 1, 1) := by decide +kernel
theorem dX4_countPairs_26 : decode cX4_countPairs 26 = .ok (.bipush 8, 2) := by decide +kernel
theorem dX4_countPairs_28 : decode cX4_countPairs 28 = .ok (.imul, 1) := by decide +kernel
theorem dX4_countPairs_29 : decode cX4_countPairs 29 = .ok (.iload_n 3, 1) := by decide +kernel
theorem dX4_countPairs_30 : decode cX4_countPairs 30 = .ok (.iadd, 1) := by decide +kernel
theorem dX4_countPairs_31 : decode cX4_countPairs 31 = .ok (.dup2, 1) := by decide +kernel
theorem dX4_countPairs_32 : decode cX4_countPairs 32 = .ok (.iaload, 1) := by decide +kernel
theorem dX4_countPairs_33 : decode cX4_countPairs 33 = .ok (.iconst 1, 1) := by decide +kernel
theorem dX4_countPairs_34 : decode cX4_countPairs 34 = .ok (.iadd, 1) := by decide +kernel
theorem dX4_countPairs_35 : decode cX4_countPairs 35 = .ok (.iastore, 1) := by decide +kernel
theorem dX4_countPairs_36 : decode cX4_countPairs 36 = .ok (.iinc 3 1, 3) := by decide +kernel
theorem dX4_countPairs_39 : decode cX4_countPairs 39 = .ok (.goto (-37), 3) := by decide +kernel
theorem dX4_countPairs_42 : decode cX4_countPairs 42 = .ok (.return_, 1) := by decide +kernel
theorem dX4_keyOf_0 : decode cX4_keyOf 0 = .ok (.bipush 64, 2) := by decide +kernel
theorem dX4_keyOf_2 : decode cX4_keyOf 2 = .ok (.aload_n 0, 1) := by decide +kernel
theorem dX4_keyOf_3 : decode cX4_keyOf 3 = .ok (.getfield 11, 3) := by decide +kernel
theorem dX4_keyOf_6 : decode cX4_keyOf 6 = .ok (.iload_n 1, 1) := by decide +kernel
theorem dX4_keyOf_7 : decode cX4_keyOf 7 = .ok (.iaload, 1) := by decide +kernel
theorem dX4_keyOf_8 : decode cX4_keyOf 8 = .ok (.isub, 1) := by decide +kernel
theorem dX4_keyOf_9 : decode cX4_keyOf 9 = .ok (.istore_n 2, 1) := by decide +kernel
theorem dX4_keyOf_10 : decode cX4_keyOf 10 = .ok (.iload_n 2, 1) := by decide +kernel
theorem dX4_keyOf_11 : decode cX4_keyOf 11 = .ok (.bipush 64, 2) := by decide +kernel
theorem dX4_keyOf_13 : decode cX4_keyOf 13 = .ok (.imul, 1) := by decide +kernel
theorem dX4_keyOf_14 : decode cX4_keyOf 14 = .ok (.aload_n 0, 1) := by decide +kernel
theorem dX4_keyOf_15 : decode cX4_keyOf 15 = .ok (.getfield 15, 3) := by decide +kernel
theorem dX4_keyOf_18 : decode cX4_keyOf 18 = .ok (.iload_n 1, 1) := by decide +kernel
theorem dX4_keyOf_19 : decode cX4_keyOf 19 = .ok (.bipush 8, 2) := by decide +kernel
theorem dX4_keyOf_21 : decode cX4_keyOf 21 = .ok (.idiv, 1) := by decide +kernel
theorem dX4_keyOf_22 : decode cX4_keyOf 22 = .ok (.iaload, 1) := by decide +kernel
theorem dX4_keyOf_23 : decode cX4_keyOf 23 = .ok (.iadd, 1) := by decide +kernel
theorem dX4_keyOf_24 : decode cX4_keyOf 24 = .ok (.bipush 64, 2) := by decide +kernel
theorem dX4_keyOf_26 : decode cX4_keyOf 26 = .ok (.imul, 1) := by decide +kernel
theorem dX4_keyOf_27 : decode cX4_keyOf 27 = .ok (.iload_n 1, 1) := by decide +kernel
theorem dX4_keyOf_28 : decode cX4_keyOf 28 = .ok (.iadd, 1) := by decide +kernel
theorem dX4_keyOf_29 : decode cX4_keyOf 29 = .ok (.ireturn, 1) := by decide +kernel
theorem dX4_insert_0 : decode cX4_insert 0 = .ok (.aload_n 0, 1) := by decide +kernel
theorem dX4_insert_1 : decode cX4_insert 1 = .ok (.getfield 21, 3) := by decide +kernel
theorem dX4_insert_4 : decode cX4_insert 4 = .ok (.bipush 56, 2) := by decide +kernel
theorem dX4_insert_6 : decode cX4_insert 6 = .ok (.if_icmp .lt 4, 3) := by decide +kernel
theorem dX4_insert_9 : decode cX4_insert 9 = .ok (.return_, 1) := by decide +kernel
theorem dX4_insert_10 : decode cX4_insert 10 = .ok (.aload_n 0, 1) := by decide +kernel
theorem dX4_insert_11 : decode cX4_insert 11 = .ok (.getfield 21, 3) := by decide +kernel
theorem dX4_insert_14 : decode cX4_insert 14 = .ok (.istore_n 2, 1) := by decide +kernel
theorem dX4_insert_15 : decode cX4_insert 15 = .ok (.iload_n 2, 1) := by decide +kernel
theorem dX4_insert_16 : decode cX4_insert 16 = .ok (.ifCond .le 35, 3) := by decide +kernel
theorem dX4_insert_19 : decode cX4_insert 19 = .ok (.aload_n 0, 1) := by decide +kernel
theorem dX4_insert_20 : decode cX4_insert 20 = .ok (.getfield 18, 3) := by decide +kernel
theorem dX4_insert_23 : decode cX4_insert 23 = .ok (.iload_n 2, 1) := by decide +kernel
theorem dX4_insert_24 : decode cX4_insert 24 = .ok (.iconst 1, 1) := by decide +kernel
theorem dX4_insert_25 : decode cX4_insert 25 = .ok (.isub, 1) := by decide +kernel
theorem dX4_insert_26 : decode cX4_insert 26 = .ok (.iaload, 1) := by decide +kernel
theorem dX4_insert_27 : decode cX4_insert 27 = .ok (.iload_n 1, 1) := by decide +kernel
theorem dX4_insert_28 : decode cX4_insert 28 = .ok (.if_icmp .le 23, 3) := by decide +kernel
theorem dX4_insert_31 : decode cX4_insert 31 = .ok (.aload_n 0, 1) := by decide +kernel
theorem dX4_insert_32 : decode cX4_insert 32 = .ok (.getfield 18, 3) := by decide +kernel
theorem dX4_insert_35 : decode cX4_insert 35 = .ok (.iload_n 2, 1) := by decide +kernel
theorem dX4_insert_36 : decode cX4_insert 36 = .ok (.aload_n 0, 1) := by decide +kernel
theorem dX4_insert_37 : decode cX4_insert 37 = .ok (.getfield 18, 3) := by decide +kernel
theorem dX4_insert_40 : decode cX4_insert 40 = .ok (.iload_n 2, 1) := by decide +kernel
theorem dX4_insert_41 : decode cX4_insert 41 = .ok (.iconst 1, 1) := by decide +kernel
theorem dX4_insert_42 : decode cX4_insert 42 = .ok (.isub, 1) := by decide +kernel
theorem dX4_insert_43 : decode cX4_insert 43 = .ok (.iaload, 1) := by decide +kernel
theorem dX4_insert_44 : decode cX4_insert 44 = .ok (.iastore, 1) := by decide +kernel
theorem dX4_insert_45 : decode cX4_insert 45 = .ok (.iinc 2 (-1), 3) := by decide +kernel
theorem dX4_insert_48 : decode cX4_insert 48 = .ok (.goto (-33), 3) := by decide +kernel
theorem dX4_insert_51 : decode cX4_insert 51 = .ok (.aload_n 0, 1) := by decide +kernel
theorem dX4_insert_52 : decode cX4_insert 52 = .ok (.getfield 18, 3) := by decide +kernel
theorem dX4_insert_55 : decode cX4_insert 55 = .ok (.iload_n 2, 1) := by decide +kernel
theorem dX4_insert_56 : decode cX4_insert 56 = .ok (.iload_n 1, 1) := by decide +kernel
theorem dX4_insert_57 : decode cX4_insert 57 = .ok (.iastore, 1) := by decide +kernel
theorem dX4_insert_58 : decode cX4_insert 58 = .ok (.aload_n 0, 1) := by decide +kernel
theorem dX4_insert_59 : decode cX4_insert 59 = .ok (.dup, 1) := by decide +kernel
theorem dX4_insert_60 : decode cX4_insert 60 = .ok (.getfield 21, 3) := by decide +kernel
theorem dX4_insert_63 : decode cX4_insert 63 = .ok (.iconst 1, 1) := by decide +kernel
theorem dX4_insert_64 : decode cX4_insert 64 = .ok (.iadd, 1) := by decide +kernel
theorem dX4_insert_65 : decode cX4_insert 65 = .ok (.putfield 21, 3) := by decide +kernel
theorem dX4_insert_68 : decode cX4_insert 68 = .ok (.return_, 1) := by decide +kernel
set_option maxRecDepth 20000 in
theorem ggX5_init_X2_init : GoodIn wsX5_init wsX2_init := goodIn_r _ [21, 22, 2, 3, 23, 24, 25, 26, 27, 28, 29, 30, 31, 32, 33, 65, 66, 67, 68, 69, 70, 71, 72, 73, 74] (by decide +kernel) (by decide +kernel)
set_option maxRecDepth 20000 in
theorem gX5_init_X2_init_n9 : GoodIn wsX5_init (wsX2_init) := ggX5_init_X2_init
set_option maxRecDepth 20000 in
theorem ggX5_init_X3_init : GoodIn wsX5_init wsX3_init := goodIn_r _ [35, 36, 2, 3, 23, 37, 38, 39, 40, 41, 42, 79, 80, 81, 82, 83] (by decide +kernel) (by decide +kernel)
set_option maxRecDepth 20000 in
theorem gX5_init_X3_init_n18 : GoodIn wsX5_init (wsX3_init) := ggX5_init_X3_init
set_option maxRecDepth 20000 in
theorem ggX5_init_X1_init : GoodIn wsX5_init wsX1_init := goodIn_r _ [45, 46, 2, 3, 23, 47, 48, 49, 50, 39, 51, 52, 53, 54, 55, 56, 57, 84, 85, 86, 87, 88, 89, 90, 91] (by decide +kernel) (by decide +kernel)
set_option maxRecDepth 20000 in
theorem gX5_init_X1_init : GoodIn wsX5_init (wsX1_init) := ggX5_init_X1_init
set_option maxRecDepth 20000 in
theorem ggX5_init_X4_init : GoodIn wsX5_init wsX4_init := goodIn_r _ [59, 60, 2, 3, 23, 61, 62, 63, 64, 92, 93, 94, 95] (by decide +kernel) (by decide +kernel)
set_option maxRecDepth 20000 in
theorem gX5_init_X4_init_n32 : GoodIn wsX5_init (wsX4_init) := ggX5_init_X4_init
theorem dX5_init_0 : decode cX5_init 0 = .ok (.aload_n 0, 1) := by decide +kernel
theorem dX5_init_1 : decode cX5_init 1 = .ok (.invokespecial 1, 3) := by decide +kernel
theorem dX5_init_4 : decode cX5_init 4 = .ok (.aload_n 0, 1) := by decide +kernel
theorem dX5_init_5 : decode cX5_init 5 = .ok (.new 7, 3) := by decide +kernel
theorem dX5_init_8 : decode cX5_init 8 = .ok (.dup, 1) := by decide +kernel
theorem dX5_init_9 : decode cX5_init 9 = .ok (.invokespecial 9, 3) := by decide +kernel
theorem dX5_init_12 : decode cX5_init 12 = .ok (.putfield 10, 3) := by decide +kernel
theorem dX5_init_15 : decode cX5_init 15 = .ok (.aload_n 0, 1) := by decide +kernel
theorem dX5_init_16 : decode cX5_init 16 = .ok (.new 16, 3) := by decide +kernel
theorem dX5_init_19 : decode cX5_init 19 = .ok (.dup, 1) := by decide +kernel
theorem dX5_init_20 : decode cX5_init 20 = .ok (.invokespecial 18, 3) := by decide +kernel
theorem dX5_init_23 : decode cX5_init 23 = .ok (.putfield 19, 3) := by decide +kernel
theorem dX5_init_26 : decode cX5_init 26 = .ok (.aload_n 0, 1) := by decide +kernel
theorem dX5_init_27 : decode cX5_init 27 = .ok (.new 23, 3) := by decide +kernel
theorem dX5_init_30 : decode cX5_init 30 = .ok (.dup, 1) := by decide +kernel
theorem dX5_init_31 : decode cX5_init 31 = .ok (.invokespecial 25, 3) := by decide +kernel
theorem dX5_init_34 : decode cX5_init 34 = .ok (.putfield 26, 3) := by decide +kernel
theorem dX5_init_37 : decode cX5_init 37 = .ok (.aload_n 0, 1) := by decide +kernel
theorem dX5_init_38 : decode cX5_init 38 = .ok (.new 30, 3) := by decide +kernel
theorem dX5_init_41 : decode cX5_init 41 = .ok (.dup, 1) := by decide +kernel
theorem dX5_init_42 : decode cX5_init 42 = .ok (.invokespecial 32, 3) := by decide +kernel
theorem dX5_init_45 : decode cX5_init 45 = .ok (.putfield 33, 3) := by decide +kernel
theorem dX5_init_48 : decode cX5_init 48 = .ok (.return_, 1) := by decide +kernel
set_option maxRecDepth 20000 in
theorem ggX5_row_X5_isLabelOrNone : GoodIn wsX5_row wsX5_isLabelOrNone := goodIn_r _ [5, 6, 7, 4, 8, 9, 10, 11] (by decide +kernel) (by decide +kernel)
set_option maxRecDepth 20000 in
theorem gX5_row_X5_isLabelOrNone : GoodIn wsX5_row (va_wsS RX5 37 yX5_isLabelOrNone wsX5_isLabelOrNone) := goodIn_app (goodIn_of _ (by decide +kernel)) ggX5_row_X5_isLabelOrNone
set_option maxRecDepth 20000 in
theorem ggX5_row_X2_isFull : GoodIn wsX5_row wsX2_isFull := goodIn_r _ [16, 17, 47, 48, 49, 50, 51, 52, 53, 54, 55, 56] (by decide +kernel) (by decide +kernel)
set_option maxRecDepth 20000 in
theorem gX5_row_X2_isFull : GoodIn wsX5_row (wsV RX5 41 RX2 yX2_isFull wsX2_isFull) := goodIn_app (goodIn_of _ (by decide +kernel)) ggX5_row_X2_isFull
set_option maxRecDepth 20000 in
theorem ggX5_row_X2_open : GoodIn wsX5_row wsX2_open := goodIn_r _ [21, 17, 22, 23, 24, 25, 15, 26, 27, 28, 4, 29, 30, 31, 32, 33, 34, 35, 36, 37, 38, 39, 40, 41, 42, 47, 48, 49, 50, 51, 52, 53, 54, 55, 56] (by decide +kernel) (by decide +kernel)
set_option maxRecDepth 20000 in
theorem gX5_row_X2_open : GoodIn wsX5_row (wsV RX5 45 RX2 yX2_open wsX2_open) := goodIn_app (goodIn_of _ (by decide +kernel)) ggX5_row_X2_open
theorem dX5_row_0 : decode cX5_row 0 = .ok (.iload_n 1, 1) := by decide +kernel
theorem dX5_row_1 : decode cX5_row 1 = .ok (.invokestatic 37, 3) := by decide +kernel
theorem dX5_row_4 : decode cX5_row 4 = .ok (.ifCond .ne 6, 3) := by decide +kernel
theorem dX5_row_7 : decode cX5_row 7 = .ok (.bipush (-2), 2) := by decide +kernel
theorem dX5_row_9 : decode cX5_row 9 = .ok (.ireturn, 1) := by decide +kernel
theorem dX5_row_10 : decode cX5_row 10 = .ok (.aload_n 0, 1) := by decide +kernel
theorem dX5_row_11 : decode cX5_row 11 = .ok (.getfield 10, 3) := by decide +kernel
theorem dX5_row_14 : decode cX5_row 14 = .ok (.invokevirtual 41, 3) := by decide +kernel
theorem dX5_row_17 : decode cX5_row 17 = .ok (.ifCond .eq 6, 3) := by decide +kernel
theorem dX5_row_20 : decode cX5_row 20 = .ok (.bipush (-3), 2) := by decide +kernel
theorem dX5_row_22 : decode cX5_row 22 = .ok (.ireturn, 1) := by decide +kernel
theorem dX5_row_23 : decode cX5_row 23 = .ok (.aload_n 0, 1) := by decide +kernel
theorem dX5_row_24 : decode cX5_row 24 = .ok (.getfield 10, 3) := by decide +kernel
theorem dX5_row_27 : decode cX5_row 27 = .ok (.iload_n 1, 1) := by decide +kernel
theorem dX5_row_28 : decode cX5_row 28 = .ok (.invokevirtual 45, 3) := by decide +kernel
theorem dX5_row_31 : decode cX5_row 31 = .ok (.ireturn, 1) := by decide +kernel
set_option maxRecDepth 20000 in
theorem ggX5_word_X2_has : GoodIn wsX5_word wsX2_has := goodIn_r _ [6, 7, 48, 49, 50, 51, 52, 53, 54, 55, 56, 57] (by decide +kernel) (by decide +kernel)
set_option maxRecDepth 20000 in
theorem gX5_word_X2_has : GoodIn wsX5_word (wsV RX5 49 RX2 yX2_has wsX2_has) := goodIn_app (goodIn_of _ (by decide +kernel)) ggX5_word_X2_has
end
section
set_option maxRecDepth 20000 in
theorem ggX5_word_X5_isWord : GoodIn wsX5_word wsX5_isWord := goodIn_r _ [11, 12, 13, 10, 14] (by decide +kernel) (by decide +kernel)
set_option maxRecDepth 20000 in
theorem gX5_word_X5_isWord : GoodIn wsX5_word (va_wsS RX5 52 yX5_isWord wsX5_isWord) := goodIn_app (goodIn_of _ (by decide +kernel)) ggX5_word_X5_isWord
set_option maxRecDepth 20000 in
theorem ggX5_word_X2_isFullRow : GoodIn wsX5_word wsX2_isFullRow := goodIn_r _ [18, 19, 48, 49, 50, 51, 52, 53, 54, 55, 56, 57] (by decide +kernel) (by decide +kernel)
set_option maxRecDepth 20000 in
theorem gX5_word_X2_isFullRow : GoodIn wsX5_word (wsV RX5 55 RX2 yX2_isFullRow wsX2_isFullRow) := goodIn_app (goodIn_of _ (by decide +kernel)) ggX5_word_X2_isFullRow
set_option maxRecDepth 20000 in
theorem ggX5_word_X2_append : GoodIn wsX5_word wsX2_append := goodIn_r _ [23, 24, 19, 25, 26, 27, 5, 28, 29, 30, 10, 31, 32, 33, 34, 35, 36, 37, 38, 7, 39, 40, 41, 42, 43, 48, 49, 50, 51, 52, 53, 54, 55, 56, 57] (by decide +kernel) (by decide +kernel)
set_option maxRecDepth 20000 in
theorem gX5_word_X2_append : GoodIn wsX5_word (wsV RX5 58 RX2 yX2_append wsX2_append) := goodIn_app (goodIn_of _ (by decide +kernel)) ggX5_word_X2_append
theorem dX5_word_0 : decode cX5_word 0 = .ok (.aload_n 0, 1) := by decide +kernel
theorem dX5_word_1 : decode cX5_word 1 = .ok (.getfield 10, 3) := by decide +kernel
theorem dX5_word_4 : decode cX5_word 4 = .ok (.iload_n 1, 1) := by decide +kernel
theorem dX5_word_5 : decode cX5_word 5 = .ok (.invokevirtual 49, 3) := by decide +kernel
theorem dX5_word_8 : decode cX5_word 8 = .ok (.ifCond .eq 10, 3) := by decide +kernel
theorem dX5_word_11 : decode cX5_word 11 = .ok (.iload_n 2, 1) := by decide +kernel
theorem dX5_word_12 : decode cX5_word 12 = .ok (.invokestatic 52, 3) := by decide +kernel
theorem dX5_word_15 : decode cX5_word 15 = .ok (.ifCond .ne 6, 3) := by decide +kernel
theorem dX5_word_18 : decode cX5_word 18 = .ok (.bipush (-2), 2) := by decide +kernel
theorem dX5_word_20 : decode cX5_word 20 = .ok (.ireturn, 1) := by decide +kernel
theorem dX5_word_21 : decode cX5_word 21 = .ok (.aload_n 0, 1) := by decide +kernel
theorem dX5_word_22 : decode cX5_word 22 = .ok (.getfield 10, 3) := by decide +kernel
theorem dX5_word_25 : decode cX5_word 25 = .ok (.iload_n 1, 1) := by decide +kernel
theorem dX5_word_26 : decode cX5_word 26 = .ok (.invokevirtual 55, 3) := by decide +kernel
theorem dX5_word_29 : decode cX5_word 29 = .ok (.ifCond .eq 6, 3) := by decide +kernel
theorem dX5_word_32 : decode cX5_word 32 = .ok (.bipush (-3), 2) := by decide +kernel
theorem dX5_word_34 : decode cX5_word 34 = .ok (.ireturn, 1) := by decide +kernel
theorem dX5_word_35 : decode cX5_word 35 = .ok (.aload_n 0, 1) := by decide +kernel
theorem dX5_word_36 : decode cX5_word 36 = .ok (.getfield 10, 3) := by decide +kernel
theorem dX5_word_39 : decode cX5_word 39 = .ok (.iload_n 1, 1) := by decide +kernel
theorem dX5_word_40 : decode cX5_word 40 = .ok (.iload_n 2, 1) := by decide +kernel
theorem dX5_word_41 : decode cX5_word 41 = .ok (.invokevirtual 58, 3) := by decide +kernel
theorem dX5_word_44 : decode cX5_word 44 = .ok (.ireturn, 1) := by decide +kernel
set_option maxRecDepth 20000 in
theorem ggX5_label_X2_has : GoodIn wsX5_label wsX2_has := goodIn_r _ [6, 7, 47, 48, 49, 50, 51, 52, 53, 54, 55, 56] (by decide +kernel) (by decide +kernel)
set_option maxRecDepth 20000 in
theorem gX5_label_X2_has : GoodIn wsX5_label (wsV RX5 49 RX2 yX2_has wsX2_has) := goodIn_app (goodIn_of _ (by decide +kernel)) ggX5_label_X2_has
set_option maxRecDepth 20000 in
theorem ggX5_label_X5_isLabelOrNone : GoodIn wsX5_label wsX5_isLabelOrNone := goodIn_r _ [11, 12, 13, 10, 14, 15, 16, 17] (by decide +kernel) (by decide +kernel)
set_option maxRecDepth 20000 in
theorem gX5_label_X5_isLabelOrNone : GoodIn wsX5_label (va_wsS RX5 37 yX5_isLabelOrNone wsX5_isLabelOrNone) := goodIn_app (goodIn_of _ (by decide +kernel)) ggX5_label_X5_isLabelOrNone
set_option maxRecDepth 20000 in
theorem ggX5_label_X2_relabel : GoodIn wsX5_label wsX2_relabel := goodIn_r _ [21, 22, 23, 24, 25, 5, 26, 27, 28, 10, 29, 30, 31, 32, 33, 34, 35, 36, 7, 37, 38, 39, 40, 41, 42, 47, 48, 49, 50, 51, 52, 53, 54, 55, 56] (by decide +kernel) (by decide +kernel)
set_option maxRecDepth 20000 in
theorem gX5_label_X2_relabel : GoodIn wsX5_label (wsV RX5 62 RX2 yX2_relabel wsX2_relabel) := goodIn_app (goodIn_of _ (by decide +kernel)) ggX5_label_X2_relabel
theorem dX5_label_0 : decode cX5_label 0 = .ok (.aload_n 0, 1) := by decide +kernel
theorem dX5_label_1 : decode cX5_label 1 = .ok (.getfield 10, 3) := by decide +kernel
theorem dX5_label_4 : decode cX5_label 4 = .ok (.iload_n 1, 1) := by decide +kernel
theorem dX5_label_5 : decode cX5_label 5 = .ok (.invokevirtual 49, 3) := by decide +kernel
theorem dX5_label_8 : decode cX5_label 8 = .ok (.ifCond .eq 10, 3) := by decide +kernel
theorem dX5_label_11 : decode cX5_label 11 = .ok (.iload_n 2, 1) := by decide +kernel
theorem dX5_label_12 : decode cX5_label 12 = .ok (.invokestatic 37, 3) := by decide +kernel
theorem dX5_label_15 : decode cX5_label 15 = .ok (.ifCond .ne 6, 3) := by decide +kernel
theorem dX5_label_18 : decode cX5_label 18 = .ok (.bipush (-2), 2) := by decide +kernel
theorem dX5_label_20 : decode cX5_label 20 = .ok (.ireturn, 1) := by decide +kernel
theorem dX5_label_21 : decode cX5_label 21 = .ok (.aload_n 0, 1) := by decide +kernel
theorem dX5_label_22 : decode cX5_label 22 = .ok (.getfield 10, 3) := by decide +kernel
theorem dX5_label_25 : decode cX5_label 25 = .ok (.iload_n 1, 1) := by decide +kernel
theorem dX5_label_26 : decode cX5_label 26 = .ok (.iload_n 2, 1) := by decide +kernel
theorem dX5_label_27 : decode cX5_label 27 = .ok (.invokevirtual 62, 3) := by decide +kernel
theorem dX5_label_30 : decode cX5_label 30 = .ok (.ireturn, 1) := by decide +kernel
set_option maxRecDepth 20000 in
theorem ggX5_addition_X5_isWithin : GoodIn wsX5_addition wsX5_isWithin := goodIn_r _ [5] (by decide +kernel) (by decide +kernel)
set_option maxRecDepth 20000 in
theorem gX5_addition_X5_isWithin : GoodIn wsX5_addition (va_wsS RX5 65 yX5_isWithin wsX5_isWithin) := goodIn_app (goodIn_of _ (by decide +kernel)) ggX5_addition_X5_isWithin
set_option maxRecDepth 20000 in
theorem ggX5_addition_X2_setAddition : GoodIn wsX5_addition wsX2_setAddition := goodIn_r _ [10, 11, 12, 13, 14, 15, 9, 16, 17, 18, 4, 19, 20, 21, 22, 23, 24, 25, 26, 27, 28, 29, 30, 31, 32, 33, 34, 39, 40, 41, 42, 43, 44, 45, 46, 47, 48] (by decide +kernel) (by decide +kernel)
set_option maxRecDepth 20000 in
theorem gX5_addition_X2_setAddition : GoodIn wsX5_addition (wsV RX5 69 RX2 yX2_setAddition wsX2_setAddition) := goodIn_app (goodIn_of _ (by decide +kernel)) ggX5_addition_X2_setAddition
theorem dX5_addition_0 : decode cX5_addition 0 = .ok (.iload_n 1, 1) := by decide +kernel
theorem dX5_addition_1 : decode cX5_addition 1 = .ok (.iconst 0, 1) := by decide +kernel
theorem dX5_addition_2 : decode cX5_addition 2 = .ok (.iconst 3, 1) := by decide +kernel
theorem dX5_addition_3 : decode cX5_addition 3 = .ok (.invokestatic 65, 3) := by decide +kernel
theorem dX5_addition_6 : decode cX5_addition 6 = .ok (.ifCond .eq 12, 3) := by decide +kernel
theorem dX5_addition_9 : decode cX5_addition 9 = .ok (.iload_n 2, 1) := by decide +kernel
theorem dX5_addition_10 : decode cX5_addition 10 = .ok (.iconst 1, 1) := by decide +kernel
theorem dX5_addition_11 : decode cX5_addition 11 = .ok (.iconst 3, 1) := by decide +kernel
theorem dX5_addition_12 : decode cX5_addition 12 = .ok (.invokestatic 65, 3) := by decide +kernel
theorem dX5_addition_15 : decode cX5_addition 15 = .ok (.ifCond .ne 6, 3) := by decide +kernel
theorem dX5_addition_18 : decode cX5_addition 18 = .ok (.bipush (-2), 2) := by decide +kernel
theorem dX5_addition_20 : decode cX5_addition 20 = .ok (.ireturn, 1) := by decide +kernel
theorem dX5_addition_21 : decode cX5_addition 21 = .ok (.aload_n 0, 1) := by decide +kernel
theorem dX5_addition_22 : decode cX5_addition 22 = .ok (.getfield 10, 3) := by decide +kernel
theorem dX5_addition_25 : decode cX5_addition 25 = .ok (.iload_n 1, 1) := by decide +kernel
theorem dX5_addition_26 : decode cX5_addition 26 = .ok (.iload_n 2, 1) := by decide +kernel
theorem dX5_addition_27 : decode cX5_addition 27 = .ok (.invokevirtual 69, 3) := by decide +kernel
theorem dX5_addition_30 : decode cX5_addition 30 = .ok (.iconst 1, 1) := by decide +kernel
theorem dX5_addition_31 : decode cX5_addition 31 = .ok (.ireturn, 1) := by decide +kernel
set_option maxRecDepth 20000 in
theorem ggX5_counted_X5_isLabel : GoodIn wsX5_counted wsX5_isLabel := goodIn_r _ [5, 6, 7, 4, 8] (by decide +kernel) (by decide +kernel)
set_option maxRecDepth 20000 in
theorem gX5_counted_X5_isLabel : GoodIn wsX5_counted (va_wsS RX5 73 yX5_isLabel wsX5_isLabel) := goodIn_app (goodIn_of _ (by decide +kernel)) ggX5_counted_X5_isLabel
set_option maxRecDepth 20000 in
theorem ggX5_counted_X5_isWord : GoodIn wsX5_counted wsX5_isWord := goodIn_r _ [11, 6, 7, 4, 8] (by decide +kernel) (by decide +kernel)
set_option maxRecDepth 20000 in
theorem gX5_counted_X5_isWord : GoodIn wsX5_counted (va_wsS RX5 52 yX5_isWord wsX5_isWord) := goodIn_app (goodIn_of _ (by decide +kernel)) ggX5_counted_X5_isWord
set_option maxRecDepth 20000 in
theorem ggX5_counted_X2_timesIn : GoodIn wsX5_counted wsX2_timesIn := goodIn_r _ [16, 17, 32, 33, 34, 35, 36, 37, 38, 39, 40, 41] (by decide +kernel) (by decide +kernel)
set_option maxRecDepth 20000 in
theorem gX5_counted_X2_timesIn : GoodIn wsX5_counted (wsV RX5 76 RX2 yX2_timesIn wsX2_timesIn) := goodIn_app (goodIn_of _ (by decide +kernel)) ggX5_counted_X2_timesIn
set_option maxRecDepth 20000 in
theorem ggX5_counted_X2_wordsIn : GoodIn wsX5_counted wsX2_wordsIn := goodIn_r _ [21, 22, 32, 33, 34, 35, 36, 37, 38, 39, 40, 41] (by decide +kernel) (by decide +kernel)
set_option maxRecDepth 20000 in
theorem gX5_counted_X2_wordsIn : GoodIn wsX5_counted (wsV RX5 79 RX2 yX2_wordsIn wsX2_wordsIn) := goodIn_app (goodIn_of _ (by decide +kernel)) ggX5_counted_X2_wordsIn
set_option maxRecDepth 20000 in
theorem ggX5_counted_X2_rowsIn : GoodIn wsX5_counted wsX2_rowsIn := goodIn_r _ [26, 27, 32, 33, 34, 35, 36, 37, 38, 39, 40, 41] (by decide +kernel) (by decide +kernel)
set_option maxRecDepth 20000 in
theorem gX5_counted_X2_rowsIn : GoodIn wsX5_counted (wsV RX5 82 RX2 yX2_rowsIn wsX2_rowsIn) := goodIn_app (goodIn_of _ (by decide +kernel)) ggX5_counted_X2_rowsIn
theorem dX5_counted_0 : decode cX5_counted 0 = .ok (.iload_n 1, 1) := by decide +kernel
theorem dX5_counted_1 : decode cX5_counted 1 = .ok (.invokestatic 73, 3) := by decide +kernel
theorem dX5_counted_4 : decode cX5_counted 4 = .ok (.ifCond .ne 6, 3) := by decide +kernel
theorem dX5_counted_7 : decode cX5_counted 7 = .ok (.bipush (-2), 2) := by decide +kernel
theorem dX5_counted_9 : decode cX5_counted 9 = .ok (.ireturn, 1) := by decide +kernel
theorem dX5_counted_10 : decode cX5_counted 10 = .ok (.iload_n 2, 1) := by decide +kernel
theorem dX5_counted_11 : decode cX5_counted 11 = .ok (.invokestatic 52, 3) := by decide +kernel
theorem dX5_counted_14 : decode cX5_counted 14 = .ok (.ifCond .eq 13, 3) := by decide +kernel
theorem dX5_counted_17 : decode cX5_counted 17 = .ok (.aload_n 0, 1) := by decide +kernel
theorem dX5_counted_18 : decode cX5_counted 18 = .ok (.getfield 10, 3) := by decide +kernel
theorem dX5_counted_21 : decode cX5_counted 21 = .ok (.iload_n 1, 1) := by decide +kernel
theorem dX5_counted_22 : decode cX5_counted 22 = .ok (.iload_n 2, 1) := by decide +kernel
theorem dX5_counted_23 : decode cX5_counted 23 = .ok (.invokevirtual 76, 3) := by decide +kernel
theorem dX5_counted_26 : decode cX5_counted 26 = .ok (.ireturn, 1) := by decide +kernel
theorem dX5_counted_27 : decode cX5_counted 27 = .ok (.iload_n 2, 1) := by decide +kernel
theorem dX5_counted_28 : decode cX5_counted 28 = .ok (.bipush 8, 2) := by decide +kernel
theorem dX5_counted_30 : decode cX5_counted 30 = .ok (.if_icmp .ne 12, 3) := by decide +kernel
theorem dX5_counted_33 : decode cX5_counted 33 = .ok (.aload_n 0, 1) := by decide +kernel
theorem dX5_counted_34 : decode cX5_counted 34 = .ok (.getfield 10, 3) := by decide +kernel
theorem dX5_counted_37 : decode cX5_counted 37 = .ok (.iload_n 1, 1) := by decide +kernel
theorem dX5_counted_38 : decode cX5_counted 38 = .ok (.invokevirtual 79, 3) := by decide +kernel
theorem dX5_counted_41 : decode cX5_counted 41 = .ok (.ireturn, 1) := by decide +kernel
theorem dX5_counted_42 : decode cX5_counted 42 = .ok (.iload_n 2, 1) := by decide +kernel
theorem dX5_counted_43 : decode cX5_counted 43 = .ok (.bipush 9, 2) := by decide +kernel
theorem dX5_counted_45 : decode cX5_counted 45 = .ok (.if_icmp .ne 14, 3) := by decide +kernel
theorem dX5_counted_48 : decode cX5_counted 48 = .ok (.aload_n 0, 1) := by decide +kernel
theorem dX5_counted_49 : decode cX5_counted 49 = .ok (.getfield 10, 3) := by decide +kernel
theorem dX5_counted_52 : decode cX5_counted 52 = .ok (.iload_n 1, 1) := by decide +kernel
theorem dX5_counted_53 : decode cX5_counted 53 = .ok (.invokevirtual 82, 3) := by decide +kernel
theorem dX5_counted_56 : decode cX5_counted 56 = .ok (.goto 5, 3) := by decide +kernel
theorem dX5_counted_59 : decode cX5_counted 59 = .ok (.bipush (-2), 2) := by decide +kernel
theorem dX5_counted_61 : decode cX5_counted 61 = .ok (.ireturn, 1) := by decide +kernel
set_option maxRecDepth 20000 in
theorem ggX5_share_X5_isLabel : GoodIn wsX5_share wsX5_isLabel := goodIn_r _ [8, 9, 10, 7, 11] (by decide +kernel) (by decide +kernel)
set_option maxRecDepth 20000 in
theorem gX5_share_X5_isLabel : GoodIn wsX5_share (va_wsS RX5 73 yX5_isLabel wsX5_isLabel) := goodIn_app (goodIn_of _ (by decide +kernel)) ggX5_share_X5_isLabel
set_option maxRecDepth 20000 in
theorem ggX5_share_X5_isWord : GoodIn wsX5_share wsX5_isWord := goodIn_r _ [14, 9, 10, 7, 11] (by decide +kernel) (by decide +kernel)
set_option maxRecDepth 20000 in
theorem gX5_share_X5_isWord : GoodIn wsX5_share (va_wsS RX5 52 yX5_isWord wsX5_isWord) := goodIn_app (goodIn_of _ (by decide +kernel)) ggX5_share_X5_isWord
set_option maxRecDepth 20000 in
theorem ggX5_share_X5_isSide : GoodIn wsX5_share wsX5_isSide := goodIn_r _ [17, 9, 10, 7, 11] (by decide +kernel) (by decide +kernel)
set_option maxRecDepth 20000 in
theorem gX5_share_X5_isSide : GoodIn wsX5_share (va_wsS RX5 85 yX5_isSide wsX5_isSide) := goodIn_app (goodIn_of _ (by decide +kernel)) ggX5_share_X5_isSide
set_option maxRecDepth 20000 in
theorem ggX5_share_X2_shareLower : GoodIn wsX5_share wsX2_shareLower := goodIn_r _ [22, 23, 24, 25, 26, 47, 48, 49, 50, 51, 52, 53, 54, 55, 56] (by decide +kernel) (by decide +kernel)
set_option maxRecDepth 20000 in
theorem gX5_share_X2_shareLower : GoodIn wsX5_share (wsV RX5 90 RX2 yX2_shareLower wsX2_shareLower) := goodIn_app (goodIn_of _ (by decide +kernel)) ggX5_share_X2_shareLower
set_option maxRecDepth 20000 in
theorem ggX5_share_X2_shareUpper : GoodIn wsX5_share wsX2_shareUpper := goodIn_r _ [30, 24, 26, 31, 32, 33, 21, 34, 35, 47, 48, 49, 50, 51, 52, 53, 54, 55, 56] (by decide +kernel) (by decide +kernel)
set_option maxRecDepth 20000 in
theorem gX5_share_X2_shareUpper : GoodIn wsX5_share (wsV RX5 101 RX2 yX2_shareUpper wsX2_shareUpper) := goodIn_app (goodIn_of _ (by decide +kernel)) ggX5_share_X2_shareUpper
set_option maxRecDepth 20000 in
theorem ggX5_share_X0_sideOf : GoodIn wsX5_share wsX0_sideOf := goodIn_r _ [39, 40, 41, 38, 42] (by decide +kernel) (by decide +kernel)
set_option maxRecDepth 20000 in
theorem gX5_share_X0_sideOf : GoodIn wsX5_share (va_wsS RX5 105 yX0_sideOf wsX0_sideOf) := goodIn_app (goodIn_of _ (by decide +kernel)) ggX5_share_X0_sideOf
theorem dX5_share_0 : decode cX5_share 0 = .ok (.iload_n 1, 1) := by decide +kernel
theorem dX5_share_1 : decode cX5_share 1 = .ok (.invokestatic 73, 3) := by decide +kernel
theorem dX5_share_4 : decode cX5_share 4 = .ok (.ifCond .eq 17, 3) := by decide +kernel
theorem dX5_share_7 : decode cX5_share 7 = .ok (.iload_n 2, 1) := by decide +kernel
theorem dX5_share_8 : decode cX5_share 8 = .ok (.invokestatic 52, 3) := by decide +kernel
theorem dX5_share_11 : decode cX5_share 11 = .ok (.ifCond .eq 10, 3) := by decide +kernel
theorem dX5_share_14 : decode cX5_share 14 = .ok (.iload_n 3, 1) := by decide +kernel
theorem dX5_share_15 : decode cX5_share 15 = .ok (.invokestatic 85, 3) := by decide +kernel
theorem dX5_share_18 : decode cX5_share 18 = .ok (.ifCond .ne 7, 3) := by decide +kernel
theorem dX5_share_21 : decode cX5_share 21 = .ok (.ldc2_w 88, 3) := by decide +kernel
theorem dX5_share_24 : decode cX5_share 24 = .ok (.lreturn, 1) := by decide +kernel
theorem dX5_share_25 : decode cX5_share 25 = .ok (.aload_n 0, 1) := by decide +kernel
theorem dX5_share_26 : decode cX5_share 26 = .ok (.getfield 10, 3) := by decide +kernel
theorem dX5_share_29 : decode cX5_share 29 = .ok (.iload_n 1, 1) := by decide +kernel
theorem dX5_share_30 : decode cX5_share 30 = .ok (.invokevirtual 90, 3) := by decide +kernel
theorem dX5_share_33 : decode cX5_share 33 = .ok (.lstore 4, 2) := by decide +kernel
theorem dX5_share_35 : decode cX5_share 35 = .ok (.lload 4, 2) := by decide +kernel
theorem dX5_share_37 : decode cX5_share 37 = .ok (.lconst 0, 1) := by decide +kernel
theorem dX5_share_38 : decode cX5_share 38 = .ok (.lcmp, 1) := by decide +kernel
theorem dX5_share_39 : decode cX5_share 39 = .ok (.ifCond .ne 13, 3) := by decide +kernel
theorem dX5_share_42 : decode cX5_share 42 = .ok (.new 94, 3) := by decide +kernel
theorem dX5_share_45 : decode cX5_share 45 = .ok (.dup, 1) := by decide +kernel
theorem dX5_share_46 : decode cX5_share 46 = .ok (.ldc 96, 2) := by decide +kernel
theorem dX5_share_48 : decode cX5_share 48 = .ok (.invokespecial 98, 3) := by decide +kernel
theorem dX5_share_51 : decode cX5_share 51 = .ok (.athrow, 1) := by decide +kernel
theorem dX5_share_52 : decode cX5_share 52 = .ok (.aload_n 0, 1) := by decide +kernel
theorem dX5_share_53 : decode cX5_share 53 = .ok (.getfield 10, 3) := by decide +kernel
theorem dX5_share_56 : decode cX5_share 56 = .ok (.iload_n 1, 1) := by decide +kernel
theorem dX5_share_57 : decode cX5_share 57 = .ok (.iload_n 2, 1) := by decide +kernel
theorem dX5_share_58 : decode cX5_share 58 = .ok (.invokevirtual 101, 3) := by decide +kernel
theorem dX5_share_61 : decode cX5_share 61 = .ok (.lload 4, 2) := by decide +kernel
theorem dX5_share_63 : decode cX5_share 63 = .ok (.iload_n 3, 1) := by decide +kernel
theorem dX5_share_64 : decode cX5_share 64 = .ok (.invokestatic 105, 3) := by decide +kernel
theorem dX5_share_67 : decode cX5_share 67 = .ok (.lreturn, 1) := by decide +kernel
set_option maxRecDepth 20000 in
theorem ggX5_weight_X2_has : GoodIn wsX5_weight wsX2_has := goodIn_r _ [7, 8, 58, 59, 60, 61, 62, 63, 64, 65, 66, 67] (by decide +kernel) (by decide +kernel)
set_option maxRecDepth 20000 in
theorem gX5_weight_X2_has : GoodIn wsX5_weight (wsV RX5 49 RX2 yX2_has wsX2_has) := goodIn_app (goodIn_of _ (by decide +kernel)) ggX5_weight_X2_has
set_option maxRecDepth 20000 in
theorem ggX5_weight_X5_isLabel : GoodIn wsX5_weight wsX5_isLabel := goodIn_r _ [12, 13, 14, 11, 15] (by decide +kernel) (by decide +kernel)
set_option maxRecDepth 20000 in
theorem gX5_weight_X5_isLabel : GoodIn wsX5_weight (va_wsS RX5 73 yX5_isLabel wsX5_isLabel) := goodIn_app (goodIn_of _ (by decide +kernel)) ggX5_weight_X5_isLabel
set_option maxRecDepth 20000 in
theorem ggX5_weight_X5_isSide : GoodIn wsX5_weight wsX5_isSide := goodIn_r _ [18, 13, 14, 11, 15] (by decide +kernel) (by decide +kernel)
set_option maxRecDepth 20000 in
theorem gX5_weight_X5_isSide : GoodIn wsX5_weight (va_wsS RX5 85 yX5_isSide wsX5_isSide) := goodIn_app (goodIn_of _ (by decide +kernel)) ggX5_weight_X5_isSide
set_option maxRecDepth 20000 in
theorem ggX5_weight_X2_weightUpper : GoodIn wsX5_weight wsX2_weightUpper := goodIn_r _ [22, 23, 24, 25, 26, 27, 28, 6, 29, 30, 31, 32, 33, 34, 35, 36, 58, 59, 60, 61, 62, 63, 64, 65, 66, 67] (by decide +kernel) (by decide +kernel)
set_option maxRecDepth 20000 in
theorem gX5_weight_X2_weightUpper : GoodIn wsX5_weight (wsV RX5 111 RX2 yX2_weightUpper wsX2_weightUpper) := goodIn_app (goodIn_of _ (by decide +kernel)) ggX5_weight_X2_weightUpper
set_option maxRecDepth 20000 in
theorem ggX5_weight_X2_weightLower : GoodIn wsX5_weight wsX2_weightLower := goodIn_r _ [40, 24, 41, 42, 43, 6, 44, 45, 30, 46, 31, 58, 59, 60, 61, 62, 63, 64, 65, 66, 67] (by decide +kernel) (by decide +kernel)
set_option maxRecDepth 20000 in
theorem gX5_weight_X2_weightLower : GoodIn wsX5_weight (wsV RX5 114 RX2 yX2_weightLower wsX2_weightLower) := goodIn_app (goodIn_of _ (by decide +kernel)) ggX5_weight_X2_weightLower
set_option maxRecDepth 20000 in
theorem ggX5_weight_X0_sideOf : GoodIn wsX5_weight wsX0_sideOf := goodIn_r _ [50, 51, 52, 49, 53] (by decide +kernel) (by decide +kernel)
set_option maxRecDepth 20000 in
theorem gX5_weight_X0_sideOf : GoodIn wsX5_weight (va_wsS RX5 105 yX0_sideOf wsX0_sideOf) := goodIn_app (goodIn_of _ (by decide +kernel)) ggX5_weight_X0_sideOf
theorem dX5_weight_0 : decode cX5_weight 0 = .ok (.aload_n 0, 1) := by decide +kernel
theorem dX5_weight_1 : decode cX5_weight 1 = .ok (.getfield 10, 3) := by decide +kernel
theorem dX5_weight_4 : decode cX5_weight 4 = .ok (.iload_n 1, 1) := by decide +kernel
theorem dX5_weight_5 : decode cX5_weight 5 = .ok (.invokevirtual 49, 3) := by decide +kernel
theorem dX5_weight_8 : decode cX5_weight 8 = .ok (.ifCond .eq 17, 3) := by decide +kernel
theorem dX5_weight_11 : decode cX5_weight 11 = .ok (.iload_n 2, 1) := by decide +kernel
theorem dX5_weight_12 : decode cX5_weight 12 = .ok (.invokestatic 73, 3) := by decide +kernel
theorem dX5_weight_15 : decode cX5_weight 15 = .ok (.ifCond .eq 10, 3) := by decide +kernel
theorem dX5_weight_18 : decode cX5_weight 18 = .ok (.iload_n 3, 1) := by decide +kernel
theorem dX5_weight_19 : decode cX5_weight 19 = .ok (.invokestatic 85, 3) := by decide +kernel
theorem dX5_weight_22 : decode cX5_weight 22 = .ok (.ifCond .ne 7, 3) := by decide +kernel
theorem dX5_weight_25 : decode cX5_weight 25 = .ok (.ldc2_w 88, 3) := by decide +kernel
theorem dX5_weight_28 : decode cX5_weight 28 = .ok (.lreturn, 1) := by decide +kernel
theorem dX5_weight_29 : decode cX5_weight 29 = .ok (.aload_n 0, 1) := by decide +kernel
theorem dX5_weight_30 : decode cX5_weight 30 = .ok (.getfield 10, 3) := by decide +kernel
theorem dX5_weight_33 : decode cX5_weight 33 = .ok (.iload_n 1, 1) := by decide +kernel
theorem dX5_weight_34 : decode cX5_weight 34 = .ok (.iload_n 2, 1) := by decide +kernel
theorem dX5_weight_35 : decode cX5_weight 35 = .ok (.invokevirtual 111, 3) := by decide +kernel
theorem dX5_weight_38 : decode cX5_weight 38 = .ok (.aload_n 0, 1) := by decide +kernel
theorem dX5_weight_39 : decode cX5_weight 39 = .ok (.getfield 10, 3) := by decide +kernel
theorem dX5_weight_42 : decode cX5_weight 42 = .ok (.iload_n 1, 1) := by decide +kernel
theorem dX5_weight_43 : decode cX5_weight 43 = .ok (.iload_n 2, 1) := by decide +kernel
theorem dX5_weight_44 : decode cX5_weight 44 = .ok (.invokevirtual 114, 3) := by decide +kernel
theorem dX5_weight_47 : decode cX5_weight 47 = .ok (.iload_n 3, 1) := by decide +kernel
theorem dX5_weight_48 : decode cX5_weight 48 = .ok (.invokestatic 105, 3) := by decide +kernel
theorem dX5_weight_51 : decode cX5_weight 51 = .ok (.lreturn, 1) := by decide +kernel
set_option maxRecDepth 20000 in
theorem ggX5_best_X2_has : GoodIn wsX5_best wsX2_has := goodIn_r _ [6, 7, 48, 49, 50, 51, 52, 53, 54, 55, 56, 57] (by decide +kernel) (by decide +kernel)
set_option maxRecDepth 20000 in
theorem gX5_best_X2_has : GoodIn wsX5_best (wsV RX5 49 RX2 yX2_has wsX2_has) := goodIn_app (goodIn_of _ (by decide +kernel)) ggX5_best_X2_has
set_option maxRecDepth 20000 in
theorem ggX5_best_X2_bestLabel : GoodIn wsX5_best wsX2_bestLabel := goodIn_r _ [11, 12, 13, 14, 5, 15, 16, 17, 18, 19, 20, 21, 22, 23, 24, 25, 26, 27, 28, 29, 30, 31, 32, 33, 34, 35, 36, 37, 38, 39, 40, 41, 42, 43, 48, 49, 50, 51, 52, 53, 54, 55, 56, 57] (by decide +kernel) (by decide +kernel)
set_option maxRecDepth 20000 in
theorem gX5_best_X2_bestLabel : GoodIn wsX5_best (wsV RX5 117 RX2 yX2_bestLabel wsX2_bestLabel) := goodIn_app (goodIn_of _ (by decide +kernel)) ggX5_best_X2_bestLabel
theorem dX5_best_0 : decode cX5_best 0 = .ok (.aload_n 0, 1) := by decide +kernel
theorem dX5_best_1 : decode cX5_best 1 = .ok (.getfield 10, 3) := by decide +kernel
theorem dX5_best_4 : decode cX5_best 4 = .ok (.iload_n 1, 1) := by decide +kernel
theorem dX5_best_5 : decode cX5_best 5 = .ok (.invokevirtual 49, 3) := by decide +kernel
theorem dX5_best_8 : decode cX5_best 8 = .ok (.ifCond .eq 14, 3) := by decide +kernel
theorem dX5_best_11 : decode cX5_best 11 = .ok (.aload_n 0, 1) := by decide +kernel
theorem dX5_best_12 : decode cX5_best 12 = .ok (.getfield 10, 3) := by decide +kernel
theorem dX5_best_15 : decode cX5_best 15 = .ok (.iload_n 1, 1) := by decide +kernel
theorem dX5_best_16 : decode cX5_best 16 = .ok (.invokevirtual 117, 3) := by decide +kernel
theorem dX5_best_19 : decode cX5_best 19 = .ok (.goto 5, 3) := by decide +kernel
theorem dX5_best_22 : decode cX5_best 22 = .ok (.bipush (-2), 2) := by decide +kernel
theorem dX5_best_24 : decode cX5_best 24 = .ok (.ireturn, 1) := by decide +kernel
set_option maxRecDepth 20000 in
theorem ggX5_rounds_X5_isWithin : GoodIn wsX5_rounds wsX5_isWithin := goodIn_r _ [5] (by decide +kernel) (by decide +kernel)
set_option maxRecDepth 20000 in
theorem gX5_rounds_X5_isWithin : GoodIn wsX5_rounds (va_wsS RX5 65 yX5_isWithin wsX5_isWithin) := goodIn_app (goodIn_of _ (by decide +kernel)) ggX5_rounds_X5_isWithin
set_option maxRecDepth 20000 in
theorem ggX5_rounds_X2_guessAnew : GoodIn wsX5_rounds wsX2_guessAnew := goodIn_r _ [10, 11, 12, 13, 14, 15, 16, 9, 17, 18, 19, 20, 21, 22, 23, 24, 25, 26, 27, 28, 29, 30, 31, 32, 33, 34, 35, 36, 37, 38, 39, 40, 41, 42, 43, 44, 45, 46, 47, 48, 49, 50, 51, 52, 53, 54, 4, 55, 56, 57, 58, 59, 64, 65, 66, 67, 68, 69, 70, 71, 72, 73] (by decide +kernel) (by decide +kernel)
set_option maxRecDepth 20000 in
theorem gX5_rounds_X2_guessAnew : GoodIn wsX5_rounds (wsV RX5 120 RX2 yX2_guessAnew wsX2_guessAnew) := goodIn_app (goodIn_of _ (by decide +kernel)) ggX5_rounds_X2_guessAnew
theorem dX5_rounds_0 : decode cX5_rounds 0 = .ok (.iload_n 1, 1) := by decide +kernel
theorem dX5_rounds_1 : decode cX5_rounds 1 = .ok (.iconst 1, 1) := by decide +kernel
theorem dX5_rounds_2 : decode cX5_rounds 2 = .ok (.bipush 20, 2) := by decide +kernel
theorem dX5_rounds_4 : decode cX5_rounds 4 = .ok (.invokestatic 65, 3) := by decide +kernel
theorem dX5_rounds_7 : decode cX5_rounds 7 = .ok (.ifCond .ne 6, 3) := by decide +kernel
theorem dX5_rounds_10 : decode cX5_rounds 10 = .ok (.bipush (-2), 2) := by decide +kernel
theorem dX5_rounds_12 : decode cX5_rounds 12 = .ok (.ireturn, 1) := by decide +kernel
theorem dX5_rounds_13 : decode cX5_rounds 13 = .ok (.iconst 0, 1) := by decide +kernel
theorem dX5_rounds_14 : decode cX5_rounds 14 = .ok (.istore_n 2, 1) := by decide +kernel
theorem dX5_rounds_15 : decode cX5_rounds 15 = .ok (.iconst 1, 1) := by decide +kernel
theorem dX5_rounds_16 : decode cX5_rounds 16 = .ok (.istore_n 3, 1) := by decide +kernel
theorem dX5_rounds_17 : decode cX5_rounds 17 = .ok (.iload_n 3, 1) := by decide +kernel
theorem dX5_rounds_18 : decode cX5_rounds 18 = .ok (.ifCond .eq 22, 3) := by decide +kernel
theorem dX5_rounds_21 : decode cX5_rounds 21 = .ok (.iload_n 2, 1) := by decide +kernel
theorem dX5_rounds_22 : decode cX5_rounds 22 = .ok (.iload_n 1, 1) := by decide +kernel
theorem dX5_rounds_23 : decode cX5_rounds 23 = .ok (.if_icmp .ge 17, 3) := by decide +kernel
theorem dX5_rounds_26 : decode cX5_rounds 26 = .ok (.aload_n 0, 1) := by decide +kernel
theorem dX5_rounds_27 : decode cX5_rounds 27 = .ok (.getfield 10, 3) := by decide +kernel
theorem dX5_rounds_30 : decode cX5_rounds 30 = .ok (.invokevirtual 120, 3) := by decide +kernel
theorem dX5_rounds_33 : decode cX5_rounds 33 = .ok (.istore_n 3, 1) := by decide +kernel
theorem dX5_rounds_34 : decode cX5_rounds 34 = .ok (.iinc 2 1, 3) := by decide +kernel
theorem dX5_rounds_37 : decode cX5_rounds 37 = .ok (.goto (-20), 3) := by decide +kernel
theorem dX5_rounds_40 : decode cX5_rounds 40 = .ok (.iload_n 2, 1) := by decide +kernel
theorem dX5_rounds_41 : decode cX5_rounds 41 = .ok (.ireturn, 1) := by decide +kernel
set_option maxRecDepth 20000 in
theorem ggX5_guess_X2_has : GoodIn wsX5_guess wsX2_has := goodIn_r _ [6, 7, 17, 18, 19, 20, 21, 22, 23, 24, 25, 26] (by decide +kernel) (by decide +kernel)
set_option maxRecDepth 20000 in
theorem gX5_guess_X2_has : GoodIn wsX5_guess (wsV RX5 49 RX2 yX2_has wsX2_has) := goodIn_app (goodIn_of _ (by decide +kernel)) ggX5_guess_X2_has
set_option maxRecDepth 20000 in
theorem ggX5_guess_X2_guessOf : GoodIn wsX5_guess wsX2_guessOf := goodIn_r _ [11, 12, 17, 18, 19, 20, 21, 22, 23, 24, 25, 26] (by decide +kernel) (by decide +kernel)
set_option maxRecDepth 20000 in
theorem gX5_guess_X2_guessOf : GoodIn wsX5_guess (wsV RX5 123 RX2 yX2_guessOf wsX2_guessOf) := goodIn_app (goodIn_of _ (by decide +kernel)) ggX5_guess_X2_guessOf
theorem dX5_guess_0 : decode cX5_guess 0 = .ok (.aload_n 0, 1) := by decide +kernel
theorem dX5_guess_1 : decode cX5_guess 1 = .ok (.getfield 10, 3) := by decide +kernel
theorem dX5_guess_4 : decode cX5_guess 4 = .ok (.iload_n 1, 1) := by decide +kernel
theorem dX5_guess_5 : decode cX5_guess 5 = .ok (.invokevirtual 49, 3) := by decide +kernel
theorem dX5_guess_8 : decode cX5_guess 8 = .ok (.ifCond .eq 14, 3) := by decide +kernel
theorem dX5_guess_11 : decode cX5_guess 11 = .ok (.aload_n 0, 1) := by decide +kernel
theorem dX5_guess_12 : decode cX5_guess 12 = .ok (.getfield 10, 3) := by decide +kernel
theorem dX5_guess_15 : decode cX5_guess 15 = .ok (.iload_n 1, 1) := by decide +kernel
theorem dX5_guess_16 : decode cX5_guess 16 = .ok (.invokevirtual 123, 3) := by decide +kernel
theorem dX5_guess_19 : decode cX5_guess 19 = .ok (.goto 5, 3) := by decide +kernel
theorem dX5_guess_22 : decode cX5_guess 22 = .ok (.bipush (-2), 2) := by decide +kernel
theorem dX5_guess_24 : decode cX5_guess 24 = .ok (.ireturn, 1) := by decide +kernel
set_option maxRecDepth 20000 in
theorem ggX5_text_X5_isWord : GoodIn wsX5_text wsX5_isWord := goodIn_r _ [5, 6, 7, 4, 8] (by decide +kernel) (by decide +kernel)
set_option maxRecDepth 20000 in
theorem gX5_text_X5_isWord : GoodIn wsX5_text (va_wsS RX5 52 yX5_isWord wsX5_isWord) := goodIn_app (goodIn_of _ (by decide +kernel)) ggX5_text_X5_isWord
set_option maxRecDepth 20000 in
theorem ggX5_text_X3_isFull : GoodIn wsX5_text wsX3_isFull := goodIn_r _ [13, 14, 24, 25, 26, 27, 28] (by decide +kernel) (by decide +kernel)
set_option maxRecDepth 20000 in
theorem gX5_text_X3_isFull : GoodIn wsX5_text (wsV RX5 126 RX3 yX3_isFull wsX3_isFull) := goodIn_app (goodIn_of _ (by decide +kernel)) ggX5_text_X3_isFull
set_option maxRecDepth 20000 in
theorem ggX5_text_X3_append : GoodIn wsX5_text wsX3_append := goodIn_r _ [18, 19, 14, 24, 25, 26, 27, 28] (by decide +kernel) (by decide +kernel)
set_option maxRecDepth 20000 in
theorem gX5_text_X3_append : GoodIn wsX5_text (wsV RX5 127 RX3 yX3_append wsX3_append) := goodIn_app (goodIn_of _ (by decide +kernel)) ggX5_text_X3_append
theorem dX5_text_0 : decode cX5_text 0 = .ok (.iload_n 1, 1) := by decide +kernel
theorem dX5_text_1 : decode cX5_text 1 = .ok (.invokestatic 52, 3) := by decide +kernel
theorem dX5_text_4 : decode cX5_text 4 = .ok (.ifCond .ne 6, 3) := by decide +kernel
theorem dX5_text_7 : decode cX5_text 7 = .ok (.bipush (-2), 2) := by decide +kernel
theorem dX5_text_9 : decode cX5_text 9 = .ok (.ireturn, 1) := by decide +kernel
theorem dX5_text_10 : decode cX5_text 10 = .ok (.aload_n 0, 1) := by decide +kernel
theorem dX5_text_11 : decode cX5_text 11 = .ok (.getfield 19, 3) := by decide +kernel
theorem dX5_text_14 : decode cX5_text 14 = .ok (.invokevirtual 126, 3) := by decide +kernel
theorem dX5_text_17 : decode cX5_text 17 = .ok (.ifCond .eq 6, 3) := by decide +kernel
theorem dX5_text_20 : decode cX5_text 20 = .ok (.bipush (-3), 2) := by decide +kernel
theorem dX5_text_22 : decode cX5_text 22 = .ok (.ireturn, 1) := by decide +kernel
theorem dX5_text_23 : decode cX5_text 23 = .ok (.aload_n 0, 1) := by decide +kernel
theorem dX5_text_24 : decode cX5_text 24 = .ok (.getfield 19, 3) := by decide +kernel
theorem dX5_text_27 : decode cX5_text 27 = .ok (.iload_n 1, 1) := by decide +kernel
theorem dX5_text_28 : decode cX5_text 28 = .ok (.invokevirtual 127, 3) := by decide +kernel
theorem dX5_text_31 : decode cX5_text 31 = .ok (.ireturn, 1) := by decide +kernel
set_option maxRecDepth 20000 in
theorem ggX5_next_X5_isTable : GoodIn wsX5_next wsX5_isTable := goodIn_r _ [6, 7, 8, 5, 9, 10, 11, 12] (by decide +kernel) (by decide +kernel)
set_option maxRecDepth 20000 in
theorem gX5_next_X5_isTable : GoodIn wsX5_next (va_wsS RX5 129 yX5_isTable wsX5_isTable) := goodIn_app (goodIn_of _ (by decide +kernel)) ggX5_next_X5_isTable
set_option maxRecDepth 20000 in
theorem ggX5_next_X5_isWord : GoodIn wsX5_next wsX5_isWord := goodIn_r _ [9, 10, 11, 5, 12] (by decide +kernel) (by decide +kernel)
set_option maxRecDepth 20000 in
theorem gX5_next_X5_isWord : GoodIn wsX5_next (va_wsS RX5 52 yX5_isWord wsX5_isWord) := goodIn_app (goodIn_of _ (by decide +kernel)) ggX5_next_X5_isWord
set_option maxRecDepth 20000 in
theorem ggX5_next_X5_isSide : GoodIn wsX5_next wsX5_isSide := goodIn_r _ [15, 10, 11, 5, 12] (by decide +kernel) (by decide +kernel)
set_option maxRecDepth 20000 in
theorem gX5_next_X5_isSide : GoodIn wsX5_next (va_wsS RX5 85 yX5_isSide wsX5_isSide) := goodIn_app (goodIn_of _ (by decide +kernel)) ggX5_next_X5_isSide
set_option maxRecDepth 20000 in
theorem ggX5_next_X3_fill : GoodIn wsX5_next wsX3_fill := goodIn_r _ [20, 21, 22, 23, 19, 24, 25, 26, 27, 28, 29, 30, 31, 32, 33, 34, 5, 35, 36, 37, 38, 39, 40, 41, 42, 43, 44, 45, 46, 47, 48, 68, 69, 70, 71, 72] (by decide +kernel) (by decide +kernel)
set_option maxRecDepth 20000 in
theorem gX5_next_X3_fill : GoodIn wsX5_next (wsV RX5 133 RX3 yX3_fill wsX3_fill) := goodIn_app (goodIn_of _ (by decide +kernel)) ggX5_next_X3_fill
set_option maxRecDepth 20000 in
theorem ggX5_next_X3_upperOf : GoodIn wsX5_next wsX3_upperOf := goodIn_r _ [52, 25, 68, 69, 70, 71, 72] (by decide +kernel) (by decide +kernel)
set_option maxRecDepth 20000 in
theorem gX5_next_X3_upperOf : GoodIn wsX5_next (wsV RX5 136 RX3 yX3_upperOf wsX3_upperOf) := goodIn_app (goodIn_of _ (by decide +kernel)) ggX5_next_X3_upperOf
set_option maxRecDepth 20000 in
theorem ggX5_next_X3_lowerOfAll : GoodIn wsX5_next wsX3_lowerOfAll := goodIn_r _ [56, 28, 68, 69, 70, 71, 72] (by decide +kernel) (by decide +kernel)
set_option maxRecDepth 20000 in
theorem gX5_next_X3_lowerOfAll : GoodIn wsX5_next (wsV RX5 139 RX3 yX3_lowerOfAll wsX3_lowerOfAll) := goodIn_app (goodIn_of _ (by decide +kernel)) ggX5_next_X3_lowerOfAll
set_option maxRecDepth 20000 in
theorem ggX5_next_X0_sideOf : GoodIn wsX5_next wsX0_sideOf := goodIn_r _ [60, 61, 62, 59, 63] (by decide +kernel) (by decide +kernel)
set_option maxRecDepth 20000 in
theorem gX5_next_X0_sideOf : GoodIn wsX5_next (va_wsS RX5 105 yX0_sideOf wsX0_sideOf) := goodIn_app (goodIn_of _ (by decide +kernel)) ggX5_next_X0_sideOf
theorem dX5_next_0 : decode cX5_next 0 = .ok (.iload_n 1, 1) := by decide +kernel
theorem dX5_next_1 : decode cX5_next 1 = .ok (.iload_n 2, 1) := by decide +kernel
theorem dX5_next_2 : decode cX5_next 2 = .ok (.invokestatic 129, 3) := by decide +kernel
theorem dX5_next_5 : decode cX5_next 5 = .ok (.ifCond .eq 18, 3) := by decide +kernel
theorem dX5_next_8 : decode cX5_next 8 = .ok (.iload_n 3, 1) := by decide +kernel
theorem dX5_next_9 : decode cX5_next 9 = .ok (.invokestatic 52, 3) := by decide +kernel
theorem dX5_next_12 : decode cX5_next 12 = .ok (.ifCond .eq 11, 3) := by decide +kernel
theorem dX5_next_15 : decode cX5_next 15 = .ok (.iload 4, 2) := by decide +kernel
theorem dX5_next_17 : decode cX5_next 17 = .ok (.invokestatic 85, 3) := by decide +kernel
theorem dX5_next_20 : decode cX5_next 20 = .ok (.ifCond .ne 7, 3) := by decide +kernel
theorem dX5_next_23 : decode cX5_next 23 = .ok (.ldc2_w 88, 3) := by decide +kernel
theorem dX5_next_26 : decode cX5_next 26 = .ok (.lreturn, 1) := by decide +kernel
theorem dX5_next_27 : decode cX5_next 27 = .ok (.aload_n 0, 1) := by decide +kernel
theorem dX5_next_28 : decode cX5_next 28 = .ok (.getfield 19, 3) := by decide +kernel
theorem dX5_next_31 : decode cX5_next 31 = .ok (.iload_n 1, 1) := by decide +kernel
theorem dX5_next_32 : decode cX5_next 32 = .ok (.iload_n 2, 1) := by decide +kernel
theorem dX5_next_33 : decode cX5_next 33 = .ok (.invokevirtual 133, 3) := by decide +kernel
theorem dX5_next_36 : decode cX5_next 36 = .ok (.aload_n 0, 1) := by decide +kernel
theorem dX5_next_37 : decode cX5_next 37 = .ok (.getfield 19, 3) := by decide +kernel
theorem dX5_next_40 : decode cX5_next 40 = .ok (.iload_n 3, 1) := by decide +kernel
theorem dX5_next_41 : decode cX5_next 41 = .ok (.invokevirtual 136, 3) := by decide +kernel
theorem dX5_next_44 : decode cX5_next 44 = .ok (.aload_n 0, 1) := by decide +kernel
theorem dX5_next_45 : decode cX5_next 45 = .ok (.getfield 19, 3) := by decide +kernel
theorem dX5_next_48 : decode cX5_next 48 = .ok (.invokevirtual 139, 3) := by decide +kernel
theorem dX5_next_51 : decode cX5_next 51 = .ok (.iload 4, 2) := by decide +kernel
theorem dX5_next_53 : decode cX5_next 53 = .ok (.invokestatic 105, 3) := by decide +kernel
theorem dX5_next_56 : decode cX5_next 56 = .ok (.lreturn, 1) := by decide +kernel
set_option maxRecDepth 20000 in
theorem ggX5_likely_X5_isTable : GoodIn wsX5_likely wsX5_isTable := goodIn_r _ [5, 6, 7, 4, 8, 9, 10, 11] (by decide +kernel) (by decide +kernel)
set_option maxRecDepth 20000 in
theorem gX5_likely_X5_isTable : GoodIn wsX5_likely (va_wsS RX5 129 yX5_isTable wsX5_isTable) := goodIn_app (goodIn_of _ (by decide +kernel)) ggX5_likely_X5_isTable
set_option maxRecDepth 20000 in
theorem ggX5_likely_X3_fill : GoodIn wsX5_likely wsX3_fill := goodIn_r _ [16, 17, 18, 19, 15, 20, 21, 22, 23, 24, 25, 26, 27, 28, 29, 30, 4, 31, 32, 33, 34, 35, 36, 37, 38, 39, 40, 41, 42, 43, 44, 53, 54, 55, 56, 57] (by decide +kernel) (by decide +kernel)
set_option maxRecDepth 20000 in
theorem gX5_likely_X3_fill : GoodIn wsX5_likely (wsV RX5 133 RX3 yX3_fill wsX3_fill) := goodIn_app (goodIn_of _ (by decide +kernel)) ggX5_likely_X3_fill
set_option maxRecDepth 20000 in
theorem ggX5_likely_X3_greatest : GoodIn wsX5_likely wsX3_greatest := goodIn_r _ [48, 21, 53, 54, 55, 56, 57] (by decide +kernel) (by decide +kernel)
set_option maxRecDepth 20000 in
theorem gX5_likely_X3_greatest : GoodIn wsX5_likely (wsV RX5 143 RX3 yX3_greatest wsX3_greatest) := goodIn_app (goodIn_of _ (by decide +kernel)) ggX5_likely_X3_greatest
theorem dX5_likely_0 : decode cX5_likely 0 = .ok (.iload_n 1, 1) := by decide +kernel
theorem dX5_likely_1 : decode cX5_likely 1 = .ok (.iload_n 2, 1) := by decide +kernel
theorem dX5_likely_2 : decode cX5_likely 2 = .ok (.invokestatic 129, 3) := by decide +kernel
theorem dX5_likely_5 : decode cX5_likely 5 = .ok (.ifCond .ne 6, 3) := by decide +kernel
theorem dX5_likely_8 : decode cX5_likely 8 = .ok (.bipush (-2), 2) := by decide +kernel
theorem dX5_likely_10 : decode cX5_likely 10 = .ok (.ireturn, 1) := by decide +kernel
theorem dX5_likely_11 : decode cX5_likely 11 = .ok (.aload_n 0, 1) := by decide +kernel
theorem dX5_likely_12 : decode cX5_likely 12 = .ok (.getfield 19, 3) := by decide +kernel
theorem dX5_likely_15 : decode cX5_likely 15 = .ok (.iload_n 1, 1) := by decide +kernel
theorem dX5_likely_16 : decode cX5_likely 16 = .ok (.iload_n 2, 1) := by decide +kernel
theorem dX5_likely_17 : decode cX5_likely 17 = .ok (.invokevirtual 133, 3) := by decide +kernel
theorem dX5_likely_20 : decode cX5_likely 20 = .ok (.aload_n 0, 1) := by decide +kernel
theorem dX5_likely_21 : decode cX5_likely 21 = .ok (.getfield 19, 3) := by decide +kernel
theorem dX5_likely_24 : decode cX5_likely 24 = .ok (.invokevirtual 143, 3) := by decide +kernel
theorem dX5_likely_27 : decode cX5_likely 27 = .ok (.ireturn, 1) := by decide +kernel
set_option maxRecDepth 20000 in
theorem ggX5_weigh_X1_placeOf : GoodIn wsX5_weigh wsX1_placeOf := goodIn_r _ [5, 6, 7, 4, 8, 9, 10, 11, 12, 13, 14, 15, 16, 17] (by decide +kernel) (by decide +kernel)
set_option maxRecDepth 20000 in
theorem gX5_weigh_X1_placeOf : GoodIn wsX5_weigh (va_wsS RX5 147 yX1_placeOf wsX1_placeOf) := goodIn_app (goodIn_of _ (by decide +kernel)) ggX5_weigh_X1_placeOf
set_option maxRecDepth 20000 in
theorem ggX5_weigh_X5_isWithin : GoodIn wsX5_weigh wsX5_isWithin := goodIn_r _ [21] (by decide +kernel) (by decide +kernel)
set_option maxRecDepth 20000 in
theorem gX5_weigh_X5_isWithin : GoodIn wsX5_weigh (va_wsS RX5 65 yX5_isWithin wsX5_isWithin) := goodIn_app (goodIn_of _ (by decide +kernel)) ggX5_weigh_X5_isWithin
set_option maxRecDepth 20000 in
theorem ggX5_weigh_X1_reweigh : GoodIn wsX5_weigh wsX1_reweigh := goodIn_r _ [25, 26, 31, 32, 33, 34, 35, 36, 37, 38] (by decide +kernel) (by decide +kernel)
set_option maxRecDepth 20000 in
theorem gX5_weigh_X1_reweigh : GoodIn wsX5_weigh (wsV RX5 151 RX1 yX1_reweigh wsX1_reweigh) := goodIn_app (goodIn_of _ (by decide +kernel)) ggX5_weigh_X1_reweigh
theorem dX5_weigh_0 : decode cX5_weigh 0 = .ok (.iload_n 1, 1) := by decide +kernel
theorem dX5_weigh_1 : decode cX5_weigh 1 = .ok (.iload_n 2, 1) := by decide +kernel
theorem dX5_weigh_2 : decode cX5_weigh 2 = .ok (.iload_n 3, 1) := by decide +kernel
theorem dX5_weigh_3 : decode cX5_weigh 3 = .ok (.invokestatic 147, 3) := by decide +kernel
theorem dX5_weigh_6 : decode cX5_weigh 6 = .ok (.istore 5, 2) := by decide +kernel
theorem dX5_weigh_8 : decode cX5_weigh 8 = .ok (.iload 5, 2) := by decide +kernel
theorem dX5_weigh_10 : decode cX5_weigh 10 = .ok (.iconst (-1), 1) := by decide +kernel
theorem dX5_weigh_11 : decode cX5_weigh 11 = .ok (.if_icmp .eq 14, 3) := by decide +kernel
theorem dX5_weigh_14 : decode cX5_weigh 14 = .ok (.iload 4, 2) := by decide +kernel
theorem dX5_weigh_16 : decode cX5_weigh 16 = .ok (.iconst (-1), 1) := by decide +kernel
theorem dX5_weigh_17 : decode cX5_weigh 17 = .ok (.bipush 21, 2) := by decide +kernel
theorem dX5_weigh_19 : decode cX5_weigh 19 = .ok (.invokestatic 65, 3) := by decide +kernel
theorem dX5_weigh_22 : decode cX5_weigh 22 = .ok (.ifCond .ne 6, 3) := by decide +kernel
theorem dX5_weigh_25 : decode cX5_weigh 25 = .ok (.bipush (-2), 2) := by decide +kernel
theorem dX5_weigh_27 : decode cX5_weigh 27 = .ok (.ireturn, 1) := by decide +kernel
theorem dX5_weigh_28 : decode cX5_weigh 28 = .ok (.aload_n 0, 1) := by decide +kernel
theorem dX5_weigh_29 : decode cX5_weigh 29 = .ok (.getfield 26, 3) := by decide +kernel
theorem dX5_weigh_32 : decode cX5_weigh 32 = .ok (.iload 5, 2) := by decide +kernel
theorem dX5_weigh_34 : decode cX5_weigh 34 = .ok (.iload 4, 2) := by decide +kernel
theorem dX5_weigh_36 : decode cX5_weigh 36 = .ok (.invokevirtual 151, 3) := by decide +kernel
theorem dX5_weigh_39 : decode cX5_weigh 39 = .ok (.ireturn, 1) := by decide +kernel
set_option maxRecDepth 20000 in
theorem ggX5_sign_X1_isRow : GoodIn wsX5_sign wsX1_isRow := goodIn_r _ [5] (by decide +kernel) (by decide +kernel)
set_option maxRecDepth 20000 in
theorem gX5_sign_X1_isRow : GoodIn wsX5_sign (va_wsS RX5 154 yX1_isRow wsX1_isRow) := goodIn_app (goodIn_of _ (by decide +kernel)) ggX5_sign_X1_isRow
set_option maxRecDepth 20000 in
theorem ggX5_sign_X1_isSign : GoodIn wsX5_sign wsX1_isSign := goodIn_r _ [8] (by decide +kernel) (by decide +kernel)
set_option maxRecDepth 20000 in
theorem gX5_sign_X1_isSign : GoodIn wsX5_sign (va_wsS RX5 157 yX1_isSign wsX1_isSign) := goodIn_app (goodIn_of _ (by decide +kernel)) ggX5_sign_X1_isSign
set_option maxRecDepth 20000 in
theorem ggX5_sign_X1_isFullRow : GoodIn wsX5_sign wsX1_isFullRow := goodIn_r _ [12, 13, 23, 24, 25, 26, 27, 28, 29, 30] (by decide +kernel) (by decide +kernel)
set_option maxRecDepth 20000 in
theorem gX5_sign_X1_isFullRow : GoodIn wsX5_sign (wsV RX5 160 RX1 yX1_isFullRow wsX1_isFullRow) := goodIn_app (goodIn_of _ (by decide +kernel)) ggX5_sign_X1_isFullRow
set_option maxRecDepth 20000 in
theorem ggX5_sign_X1_append : GoodIn wsX5_sign wsX1_append := goodIn_r _ [17, 18, 13, 23, 24, 25, 26, 27, 28, 29, 30] (by decide +kernel) (by decide +kernel)
set_option maxRecDepth 20000 in
theorem gX5_sign_X1_append : GoodIn wsX5_sign (wsV RX5 161 RX1 yX1_append wsX1_append) := goodIn_app (goodIn_of _ (by decide +kernel)) ggX5_sign_X1_append
theorem dX5_sign_0 : decode cX5_sign 0 = .ok (.iload_n 1, 1) := by decide +kernel
theorem dX5_sign_1 : decode cX5_sign 1 = .ok (.invokestatic 154, 3) := by decide +kernel
theorem dX5_sign_4 : decode cX5_sign 4 = .ok (.ifCond .eq 10, 3) := by decide +kernel
theorem dX5_sign_7 : decode cX5_sign 7 = .ok (.iload_n 2, 1) := by decide +kernel
theorem dX5_sign_8 : decode cX5_sign 8 = .ok (.invokestatic 157, 3) := by decide +kernel
theorem dX5_sign_11 : decode cX5_sign 11 = .ok (.ifCond .ne 6, 3) := by decide +kernel
theorem dX5_sign_14 : decode cX5_sign 14 = .ok (.bipush (-2), 2) := by decide +kernel
theorem dX5_sign_16 : decode cX5_sign 16 = .ok (.ireturn, 1) := by decide +kernel
theorem dX5_sign_17 : decode cX5_sign 17 = .ok (.aload_n 0, 1) := by decide +kernel
theorem dX5_sign_18 : decode cX5_sign 18 = .ok (.getfield 26, 3) := by decide +kernel
theorem dX5_sign_21 : decode cX5_sign 21 = .ok (.iload_n 1, 1) := by decide +kernel
theorem dX5_sign_22 : decode cX5_sign 22 = .ok (.invokevirtual 160, 3) := by decide +kernel
theorem dX5_sign_25 : decode cX5_sign 25 = .ok (.ifCond .eq 6, 3) := by decide +kernel
theorem dX5_sign_28 : decode cX5_sign 28 = .ok (.bipush (-3), 2) := by decide +kernel
theorem dX5_sign_30 : decode cX5_sign 30 = .ok (.ireturn, 1) := by decide +kernel
theorem dX5_sign_31 : decode cX5_sign 31 = .ok (.aload_n 0, 1) := by decide +kernel
theorem dX5_sign_32 : decode cX5_sign 32 = .ok (.getfield 26, 3) := by decide +kernel
theorem dX5_sign_35 : decode cX5_sign 35 = .ok (.iload_n 1, 1) := by decide +kernel
theorem dX5_sign_36 : decode cX5_sign 36 = .ok (.iload_n 2, 1) := by decide +kernel
theorem dX5_sign_37 : decode cX5_sign 37 = .ok (.invokevirtual 161, 3) := by decide +kernel
theorem dX5_sign_40 : decode cX5_sign 40 = .ok (.ireturn, 1) := by decide +kernel
set_option maxRecDepth 20000 in
theorem ggX5_path_X1_isRow : GoodIn wsX5_path wsX1_isRow := goodIn_r _ [5] (by decide +kernel) (by decide +kernel)
set_option maxRecDepth 20000 in
theorem gX5_path_X1_isRow : GoodIn wsX5_path (va_wsS RX5 154 yX1_isRow wsX1_isRow) := goodIn_app (goodIn_of _ (by decide +kernel)) ggX5_path_X1_isRow
set_option maxRecDepth 20000 in
theorem ggX5_path_X1_hasPlace : GoodIn wsX5_path wsX1_hasPlace := goodIn_r _ [9, 10, 49, 50, 51, 52, 53, 54, 55, 56] (by decide +kernel) (by decide +kernel)
set_option maxRecDepth 20000 in
theorem gX5_path_X1_hasPlace : GoodIn wsX5_path (wsV RX5 162 RX1 yX1_hasPlace wsX1_hasPlace) := goodIn_app (goodIn_of _ (by decide +kernel)) ggX5_path_X1_hasPlace
set_option maxRecDepth 20000 in
theorem ggX5_path_X1_findBestPath : GoodIn wsX5_path wsX1_findBestPath := goodIn_r _ [14, 10, 15, 16, 17, 18, 19, 20, 4, 21, 22, 23, 24, 25, 26, 27, 28, 29, 30, 31, 32, 33, 34, 35, 36, 37, 38, 39, 40, 49, 50, 51, 52, 53, 54, 55, 56] (by decide +kernel) (by decide +kernel)
set_option maxRecDepth 20000 in
theorem gX5_path_X1_findBestPath : GoodIn wsX5_path (wsV RX5 165 RX1 yX1_findBestPath wsX1_findBestPath) := goodIn_app (goodIn_of _ (by decide +kernel)) ggX5_path_X1_findBestPath
set_option maxRecDepth 20000 in
theorem ggX5_path_X1_stateOnBestPath : GoodIn wsX5_path wsX1_stateOnBestPath := goodIn_r _ [44, 16, 49, 50, 51, 52, 53, 54, 55, 56] (by decide +kernel) (by decide +kernel)
set_option maxRecDepth 20000 in
theorem gX5_path_X1_stateOnBestPath : GoodIn wsX5_path (wsV RX5 168 RX1 yX1_stateOnBestPath wsX1_stateOnBestPath) := goodIn_app (goodIn_of _ (by decide +kernel)) ggX5_path_X1_stateOnBestPath
theorem dX5_path_0 : decode cX5_path 0 = .ok (.iload_n 1, 1) := by decide +kernel
theorem dX5_path_1 : decode cX5_path 1 = .ok (.invokestatic 154, 3) := by decide +kernel
theorem dX5_path_4 : decode cX5_path 4 = .ok (.ifCond .ne 6, 3) := by decide +kernel
theorem dX5_path_7 : decode cX5_path 7 = .ok (.bipush (-2), 2) := by decide +kernel
theorem dX5_path_9 : decode cX5_path 9 = .ok (.ireturn, 1) := by decide +kernel
theorem dX5_path_10 : decode cX5_path 10 = .ok (.aload_n 0, 1) := by decide +kernel
theorem dX5_path_11 : decode cX5_path 11 = .ok (.getfield 26, 3) := by decide +kernel
theorem dX5_path_14 : decode cX5_path 14 = .ok (.iload_n 1, 1) := by decide +kernel
theorem dX5_path_15 : decode cX5_path 15 = .ok (.iload_n 2, 1) := by decide +kernel
theorem dX5_path_16 : decode cX5_path 16 = .ok (.invokevirtual 162, 3) := by decide +kernel
theorem dX5_path_19 : decode cX5_path 19 = .ok (.ifCond .eq 14, 3) := by decide +kernel
theorem dX5_path_22 : decode cX5_path 22 = .ok (.aload_n 0, 1) := by decide +kernel
theorem dX5_path_23 : decode cX5_path 23 = .ok (.getfield 26, 3) := by decide +kernel
theorem dX5_path_26 : decode cX5_path 26 = .ok (.iload_n 1, 1) := by decide +kernel
theorem dX5_path_27 : decode cX5_path 27 = .ok (.invokevirtual 165, 3) := by decide +kernel
theorem dX5_path_30 : decode cX5_path 30 = .ok (.ifCond .ne 5, 3) := by decide +kernel
theorem dX5_path_33 : decode cX5_path 33 = .ok (.iconst (-1), 1) := by decide +kernel
theorem dX5_path_34 : decode cX5_path 34 = .ok (.ireturn, 1) := by decide +kernel
theorem dX5_path_35 : decode cX5_path 35 = .ok (.aload_n 0, 1) := by decide +kernel
theorem dX5_path_36 : decode cX5_path 36 = .ok (.getfield 26, 3) := by decide +kernel
theorem dX5_path_39 : decode cX5_path 39 = .ok (.iload_n 2, 1) := by decide +kernel
theorem dX5_path_40 : decode cX5_path 40 = .ok (.invokevirtual 168, 3) := by decide +kernel
theorem dX5_path_43 : decode cX5_path 43 = .ok (.ireturn, 1) := by decide +kernel
set_option maxRecDepth 20000 in
theorem ggX5_total_X1_isRow : GoodIn wsX5_total wsX1_isRow := goodIn_r _ [6] (by decide +kernel) (by decide +kernel)
set_option maxRecDepth 20000 in
theorem gX5_total_X1_isRow : GoodIn wsX5_total (va_wsS RX5 154 yX1_isRow wsX1_isRow) := goodIn_app (goodIn_of _ (by decide +kernel)) ggX5_total_X1_isRow
set_option maxRecDepth 20000 in
theorem ggX5_total_X1_totalOf : GoodIn wsX5_total wsX1_totalOf := goodIn_r _ [10, 11, 12, 13, 5, 14, 15, 16, 17, 18, 19, 20, 21, 22, 23, 24, 25, 26, 27, 28, 29, 30, 31, 32, 33, 38, 39, 40, 41, 42, 43, 44, 45] (by decide +kernel) (by decide +kernel)
set_option maxRecDepth 20000 in
theorem gX5_total_X1_totalOf : GoodIn wsX5_total (wsV RX5 171 RX1 yX1_totalOf wsX1_totalOf) := goodIn_app (goodIn_of _ (by decide +kernel)) ggX5_total_X1_totalOf
theorem dX5_total_0 : decode cX5_total 0 = .ok (.iload_n 1, 1) := by decide +kernel
theorem dX5_total_1 : decode cX5_total 1 = .ok (.invokestatic 154, 3) := by decide +kernel
theorem dX5_total_4 : decode cX5_total 4 = .ok (.ifCond .eq 14, 3) := by decide +kernel
theorem dX5_total_7 : decode cX5_total 7 = .ok (.aload_n 0, 1) := by decide +kernel
theorem dX5_total_8 : decode cX5_total 8 = .ok (.getfield 26, 3) := by decide +kernel
theorem dX5_total_11 : decode cX5_total 11 = .ok (.iload_n 1, 1) := by decide +kernel
theorem dX5_total_12 : decode cX5_total 12 = .ok (.invokevirtual 171, 3) := by decide +kernel
theorem dX5_total_15 : decode cX5_total 15 = .ok (.goto 6, 3) := by decide +kernel
theorem dX5_total_18 : decode cX5_total 18 = .ok (.ldc2_w 88, 3) := by decide +kernel
theorem dX5_total_21 : decode cX5_total 21 = .ok (.lreturn, 1) := by decide +kernel
set_option maxRecDepth 20000 in
theorem ggX5_at_X1_isRow : GoodIn wsX5_at wsX1_isRow := goodIn_r _ [8] (by decide +kernel) (by decide +kernel)
set_option maxRecDepth 20000 in
theorem gX5_at_X1_isRow : GoodIn wsX5_at (va_wsS RX5 154 yX1_isRow wsX1_isRow) := goodIn_app (goodIn_of _ (by decide +kernel)) ggX5_at_X1_isRow
set_option maxRecDepth 20000 in
theorem ggX5_at_X1_hasPlace : GoodIn wsX5_at wsX1_hasPlace := goodIn_r _ [12, 13, 62, 63, 64, 65, 66, 67, 68, 69] (by decide +kernel) (by decide +kernel)
set_option maxRecDepth 20000 in
theorem gX5_at_X1_hasPlace : GoodIn wsX5_at (wsV RX5 162 RX1 yX1_hasPlace wsX1_hasPlace) := goodIn_app (goodIn_of _ (by decide +kernel)) ggX5_at_X1_hasPlace
set_option maxRecDepth 20000 in
theorem ggX5_at_X1_isState : GoodIn wsX5_at wsX1_isState := goodIn_r _ [16] (by decide +kernel) (by decide +kernel)
set_option maxRecDepth 20000 in
theorem gX5_at_X1_isState : GoodIn wsX5_at (va_wsS RX5 174 yX1_isState wsX1_isState) := goodIn_app (goodIn_of _ (by decide +kernel)) ggX5_at_X1_isState
set_option maxRecDepth 20000 in
theorem ggX5_at_X5_isSide : GoodIn wsX5_at wsX5_isSide := goodIn_r _ [20, 21, 22, 19, 23] (by decide +kernel) (by decide +kernel)
set_option maxRecDepth 20000 in
theorem gX5_at_X5_isSide : GoodIn wsX5_at (va_wsS RX5 85 yX5_isSide wsX5_isSide) := goodIn_app (goodIn_of _ (by decide +kernel)) ggX5_at_X5_isSide
set_option maxRecDepth 20000 in
theorem ggX5_at_X1_totalOf : GoodIn wsX5_at wsX1_totalOf := goodIn_r _ [27, 28, 29, 30, 7, 31, 13, 32, 33, 34, 35, 36, 37, 38, 39, 40, 41, 42, 43, 44, 45, 46, 47, 48, 49, 62, 63, 64, 65, 66, 67, 68, 69] (by decide +kernel) (by decide +kernel)
set_option maxRecDepth 20000 in
theorem gX5_at_X1_totalOf : GoodIn wsX5_at (wsV RX5 171 RX1 yX1_totalOf wsX1_totalOf) := goodIn_app (goodIn_of _ (by decide +kernel)) ggX5_at_X1_totalOf
set_option maxRecDepth 20000 in
theorem ggX5_at_X1_totalThrough : GoodIn wsX5_at wsX1_totalThrough := goodIn_r _ [31, 13, 32, 33, 34, 35, 36, 37, 7, 38, 39, 40, 41, 42, 43, 44, 45, 46, 47, 48, 49, 62, 63, 64, 65, 66, 67, 68, 69] (by decide +kernel) (by decide +kernel)
set_option maxRecDepth 20000 in
theorem gX5_at_X1_totalThrough : GoodIn wsX5_at (wsV RX5 179 RX1 yX1_totalThrough wsX1_totalThrough) := goodIn_app (goodIn_of _ (by decide +kernel)) ggX5_at_X1_totalThrough
set_option maxRecDepth 20000 in
theorem ggX5_at_X0_sideOf : GoodIn wsX5_at wsX0_sideOf := goodIn_r _ [54, 55, 56, 53, 57] (by decide +kernel) (by decide +kernel)
set_option maxRecDepth 20000 in
theorem gX5_at_X0_sideOf : GoodIn wsX5_at (va_wsS RX5 105 yX0_sideOf wsX0_sideOf) := goodIn_app (goodIn_of _ (by decide +kernel)) ggX5_at_X0_sideOf
theorem dX5_at_0 : decode cX5_at 0 = .ok (.iload_n 1, 1) := by decide +kernel
theorem dX5_at_1 : decode cX5_at 1 = .ok (.invokestatic 154, 3) := by decide +kernel
theorem dX5_at_4 : decode cX5_at 4 = .ok (.ifCond .eq 15, 3) := by decide +kernel
theorem dX5_at_7 : decode cX5_at 7 = .ok (.aload_n 0, 1) := by decide +kernel
theorem dX5_at_8 : decode cX5_at 8 = .ok (.getfield 26, 3) := by decide +kernel
theorem dX5_at_11 : decode cX5_at 11 = .ok (.iload_n 1, 1) := by decide +kernel
theorem dX5_at_12 : decode cX5_at 12 = .ok (.iload_n 2, 1) := by decide +kernel
theorem dX5_at_13 : decode cX5_at 13 = .ok (.invokevirtual 162, 3) := by decide +kernel
theorem dX5_at_16 : decode cX5_at 16 = .ok (.ifCond .ne 7, 3) := by decide +kernel
theorem dX5_at_19 : decode cX5_at 19 = .ok (.ldc2_w 88, 3) := by decide +kernel
theorem dX5_at_22 : decode cX5_at 22 = .ok (.lreturn, 1) := by decide +kernel
theorem dX5_at_23 : decode cX5_at 23 = .ok (.iload_n 3, 1) := by decide +kernel
theorem dX5_at_24 : decode cX5_at 24 = .ok (.invokestatic 174, 3) := by decide +kernel
theorem dX5_at_27 : decode cX5_at 27 = .ok (.ifCond .eq 11, 3) := by decide +kernel
theorem dX5_at_30 : decode cX5_at 30 = .ok (.iload 4, 2) := by decide +kernel
theorem dX5_at_32 : decode cX5_at 32 = .ok (.invokestatic 85, 3) := by decide +kernel
theorem dX5_at_35 : decode cX5_at 35 = .ok (.ifCond .ne 7, 3) := by decide +kernel
theorem dX5_at_38 : decode cX5_at 38 = .ok (.ldc2_w 88, 3) := by decide +kernel
theorem dX5_at_41 : decode cX5_at 41 = .ok (.lreturn, 1) := by decide +kernel
theorem dX5_at_42 : decode cX5_at 42 = .ok (.aload_n 0, 1) := by decide +kernel
theorem dX5_at_43 : decode cX5_at 43 = .ok (.getfield 26, 3) := by decide +kernel
theorem dX5_at_46 : decode cX5_at 46 = .ok (.iload_n 1, 1) := by decide +kernel
theorem dX5_at_47 : decode cX5_at 47 = .ok (.invokevirtual 171, 3) := by decide +kernel
theorem dX5_at_50 : decode cX5_at 50 = .ok (.lstore 5, 2) := by decide +kernel
theorem dX5_at_52 : decode cX5_at 52 = .ok (.lload 5, 2) := by decide +kernel
theorem dX5_at_54 : decode cX5_at 54 = .ok (.lconst 0, 1) := by decide +kernel
theorem dX5_at_55 : decode cX5_at 55 = .ok (.lcmp, 1) := by decide +kernel
theorem dX5_at_56 : decode cX5_at 56 = .ok (.ifCond .ne 13, 3) := by decide +kernel
theorem dX5_at_59 : decode cX5_at 59 = .ok (.new 94, 3) := by decide +kernel
theorem dX5_at_62 : decode cX5_at 62 = .ok (.dup, 1) := by decide +kernel
theorem dX5_at_63 : decode cX5_at 63 = .ok (.ldc 177, 2) := by decide +kernel
theorem dX5_at_65 : decode cX5_at 65 = .ok (.invokespecial 98, 3) := by decide +kernel
theorem dX5_at_68 : decode cX5_at 68 = .ok (.athrow, 1) := by decide +kernel
theorem dX5_at_69 : decode cX5_at 69 = .ok (.aload_n 0, 1) := by decide +kernel
theorem dX5_at_70 : decode cX5_at 70 = .ok (.getfield 26, 3) := by decide +kernel
theorem dX5_at_73 : decode cX5_at 73 = .ok (.iload_n 1, 1) := by decide +kernel
theorem dX5_at_74 : decode cX5_at 74 = .ok (.iload_n 2, 1) := by decide +kernel
theorem dX5_at_75 : decode cX5_at 75 = .ok (.iload_n 3, 1) := by decide +kernel
theorem dX5_at_76 : decode cX5_at 76 = .ok (.invokevirtual 179, 3) := by decide +kernel
theorem dX5_at_79 : decode cX5_at 79 = .ok (.lload 5, 2) := by decide +kernel
theorem dX5_at_81 : decode cX5_at 81 = .ok (.iload 4, 2) := by decide +kernel
theorem dX5_at_83 : decode cX5_at 83 = .ok (.invokestatic 105, 3) := by decide +kernel
theorem dX5_at_86 : decode cX5_at 86 = .ok (.lreturn, 1) := by decide +kernel
set_option maxRecDepth 20000 in
theorem ggX5_learn_X5_isWithin : GoodIn wsX5_learn wsX5_isWithin := goodIn_r _ [5] (by decide +kernel) (by decide +kernel)
set_option maxRecDepth 20000 in
theorem gX5_learn_X5_isWithin : GoodIn wsX5_learn (va_wsS RX5 65 yX5_isWithin wsX5_isWithin) := goodIn_app (goodIn_of _ (by decide +kernel)) ggX5_learn_X5_isWithin
set_option maxRecDepth 20000 in
theorem ggX5_learn_X1_weighAnew : GoodIn wsX5_learn wsX1_weighAnew := goodIn_r _ [10, 11, 12, 13, 4, 14, 15, 16, 17, 9, 18, 19, 20, 21, 22, 23, 24, 25, 26, 27, 28, 29, 30, 31, 32, 33, 34, 35, 36, 37, 38, 39, 40, 41, 42, 43, 44, 45, 46, 47, 48, 53, 54, 55, 56, 57, 58, 59, 60] (by decide +kernel) (by decide +kernel)
set_option maxRecDepth 20000 in
theorem gX5_learn_X1_weighAnew : GoodIn wsX5_learn (wsV RX5 183 RX1 yX1_weighAnew wsX1_weighAnew) := goodIn_app (goodIn_of _ (by decide +kernel)) ggX5_learn_X1_weighAnew
theorem dX5_learn_0 : decode cX5_learn 0 = .ok (.iload_n 1, 1) := by decide +kernel
theorem dX5_learn_1 : decode cX5_learn 1 = .ok (.iconst 1, 1) := by decide +kernel
theorem dX5_learn_2 : decode cX5_learn 2 = .ok (.bipush 20, 2) := by decide +kernel
theorem dX5_learn_4 : decode cX5_learn 4 = .ok (.invokestatic 65, 3) := by decide +kernel
theorem dX5_learn_7 : decode cX5_learn 7 = .ok (.ifCond .ne 6, 3) := by decide +kernel
theorem dX5_learn_10 : decode cX5_learn 10 = .ok (.bipush (-2), 2) := by decide +kernel
theorem dX5_learn_12 : decode cX5_learn 12 = .ok (.ireturn, 1) := by decide +kernel
theorem dX5_learn_13 : decode cX5_learn 13 = .ok (.iconst 0, 1) := by decide +kernel
theorem dX5_learn_14 : decode cX5_learn 14 = .ok (.istore_n 2, 1) := by decide +kernel
theorem dX5_learn_15 : decode cX5_learn 15 = .ok (.iconst 1, 1) := by decide +kernel
theorem dX5_learn_16 : decode cX5_learn 16 = .ok (.istore_n 3, 1) := by decide +kernel
theorem dX5_learn_17 : decode cX5_learn 17 = .ok (.iload_n 3, 1) := by decide +kernel
theorem dX5_learn_18 : decode cX5_learn 18 = .ok (.ifCond .eq 22, 3) := by decide +kernel
theorem dX5_learn_21 : decode cX5_learn 21 = .ok (.iload_n 2, 1) := by decide +kernel
theorem dX5_learn_22 : decode cX5_learn 22 = .ok (.iload_n 1, 1) := by decide +kernel
theorem dX5_learn_23 : decode cX5_learn 23 = .ok (.if_icmp .ge 17, 3) := by decide +kernel
theorem dX5_learn_26 : decode cX5_learn 26 = .ok (.aload_n 0, 1) := by decide +kernel
theorem dX5_learn_27 : decode cX5_learn 27 = .ok (.getfield 26, 3) := by decide +kernel
theorem dX5_learn_30 : decode cX5_learn 30 = .ok (.invokevirtual 183, 3) := by decide +kernel
theorem dX5_learn_33 : decode cX5_learn 33 = .ok (.istore_n 3, 1) := by decide +kernel
theorem dX5_learn_34 : decode cX5_learn 34 = .ok (.iinc 2 1, 3) := by decide +kernel
theorem dX5_learn_37 : decode cX5_learn 37 = .ok (.goto (-20), 3) := by decide +kernel
theorem dX5_learn_40 : decode cX5_learn 40 = .ok (.iload_n 2, 1) := by decide +kernel
theorem dX5_learn_41 : decode cX5_learn 41 = .ok (.ireturn, 1) := by decide +kernel
set_option maxRecDepth 20000 in
theorem ggX5_rule_X5_isWithin : GoodIn wsX5_rule wsX5_isWithin := goodIn_r _ [6] (by decide +kernel) (by decide +kernel)
set_option maxRecDepth 20000 in
theorem gX5_rule_X5_isWithin : GoodIn wsX5_rule (va_wsS RX5 65 yX5_isWithin wsX5_isWithin) := goodIn_app (goodIn_of _ (by decide +kernel)) ggX5_rule_X5_isWithin
set_option maxRecDepth 20000 in
theorem ggX5_rule_X4_gather : GoodIn wsX5_rule wsX4_gather := goodIn_r _ [11, 12, 13, 14, 15, 5, 16, 17, 18, 19, 20, 21, 22, 23, 24, 25, 26, 27, 28, 29, 30, 31, 10, 32, 33, 34, 35, 36, 37, 38, 39, 40, 41, 42, 43, 44, 45, 65, 66, 67, 68, 69, 70, 71, 72, 73, 74, 75, 76, 77, 78] (by decide +kernel) (by decide +kernel)
set_option maxRecDepth 20000 in
theorem gX5_rule_X4_gather : GoodIn wsX5_rule (wsV RX5 186 RX4 yX4_gather wsX4_gather) := goodIn_app (goodIn_of _ (by decide +kernel)) ggX5_rule_X4_gather
set_option maxRecDepth 20000 in
theorem ggX5_rule_X4_has : GoodIn wsX5_rule wsX4_has := goodIn_r _ [49, 14, 65, 66, 67, 68] (by decide +kernel) (by decide +kernel)
set_option maxRecDepth 20000 in
theorem gX5_rule_X4_has : GoodIn wsX5_rule (wsV RX5 190 RX4 yX4_has wsX4_has) := goodIn_app (goodIn_of _ (by decide +kernel)) ggX5_rule_X4_has
set_option maxRecDepth 20000 in
theorem ggX5_rule_X4_partOf : GoodIn wsX5_rule wsX4_partOf := goodIn_r _ [53, 45, 12, 13, 54, 55, 56, 57, 58, 59, 60, 65, 66, 67, 68] (by decide +kernel) (by decide +kernel)
set_option maxRecDepth 20000 in
theorem gX5_rule_X4_partOf : GoodIn wsX5_rule (wsV RX5 191 RX4 yX4_partOf wsX4_partOf) := goodIn_app (goodIn_of _ (by decide +kernel)) ggX5_rule_X4_partOf
theorem dX5_rule_0 : decode cX5_rule 0 = .ok (.iload_n 2, 1) := by decide +kernel
theorem dX5_rule_1 : decode cX5_rule 1 = .ok (.iconst 0, 1) := by decide +kernel
theorem dX5_rule_2 : decode cX5_rule 2 = .ok (.iconst 4, 1) := by decide +kernel
theorem dX5_rule_3 : decode cX5_rule 3 = .ok (.invokestatic 65, 3) := by decide +kernel
theorem dX5_rule_6 : decode cX5_rule 6 = .ok (.ifCond .ne 6, 3) := by decide +kernel
theorem dX5_rule_9 : decode cX5_rule 9 = .ok (.bipush (-2), 2) := by decide +kernel
theorem dX5_rule_11 : decode cX5_rule 11 = .ok (.ireturn, 1) := by decide +kernel
theorem dX5_rule_12 : decode cX5_rule 12 = .ok (.aload_n 0, 1) := by decide +kernel
theorem dX5_rule_13 : decode cX5_rule 13 = .ok (.getfield 33, 3) := by decide +kernel
theorem dX5_rule_16 : decode cX5_rule 16 = .ok (.aload_n 0, 1) := by decide +kernel
theorem dX5_rule_17 : decode cX5_rule 17 = .ok (.getfield 10, 3) := by decide +kernel
theorem dX5_rule_20 : decode cX5_rule 20 = .ok (.invokevirtual 186, 3) := by decide +kernel
theorem dX5_rule_23 : decode cX5_rule 23 = .ok (.aload_n 0, 1) := by decide +kernel
theorem dX5_rule_24 : decode cX5_rule 24 = .ok (.getfield 33, 3) := by decide +kernel
theorem dX5_rule_27 : decode cX5_rule 27 = .ok (.iload_n 1, 1) := by decide +kernel
theorem dX5_rule_28 : decode cX5_rule 28 = .ok (.invokevirtual 190, 3) := by decide +kernel
theorem dX5_rule_31 : decode cX5_rule 31 = .ok (.ifCond .eq 15, 3) := by decide +kernel
theorem dX5_rule_34 : decode cX5_rule 34 = .ok (.aload_n 0, 1) := by decide +kernel
theorem dX5_rule_35 : decode cX5_rule 35 = .ok (.getfield 33, 3) := by decide +kernel
theorem dX5_rule_38 : decode cX5_rule 38 = .ok (.iload_n 1, 1) := by decide +kernel
theorem dX5_rule_39 : decode cX5_rule 39 = .ok (.iload_n 2, 1) := by decide +kernel
theorem dX5_rule_40 : decode cX5_rule 40 = .ok (.invokevirtual 191, 3) := by decide +kernel
theorem dX5_rule_43 : decode cX5_rule 43 = .ok (.goto 4, 3) := by decide +kernel
theorem dX5_rule_46 : decode cX5_rule 46 = .ok (.iconst (-1), 1) := by decide +kernel
theorem dX5_rule_47 : decode cX5_rule 47 = .ok (.ireturn, 1) := by decide +kernel
set_option maxRecDepth 20000 in
theorem ggX5_count_X2_size : GoodIn wsX5_count wsX2_size := goodIn_r _ [9, 10, 71, 72, 73, 74, 75, 76, 77, 78, 79, 80] (by decide +kernel) (by decide +kernel)
set_option maxRecDepth 20000 in
theorem gX5_count_X2_size : GoodIn wsX5_count (wsV RX5 194 RX2 yX2_size wsX2_size) := goodIn_app (goodIn_of _ (by decide +kernel)) ggX5_count_X2_size
set_option maxRecDepth 20000 in
theorem ggX5_count_X2_labelledRows : GoodIn wsX5_count wsX2_labelledRows := goodIn_r _ [14, 10, 15, 71, 72, 73, 74, 75, 76, 77, 78, 79, 80] (by decide +kernel) (by decide +kernel)
set_option maxRecDepth 20000 in
theorem gX5_count_X2_labelledRows : GoodIn wsX5_count (wsV RX5 197 RX2 yX2_labelledRows wsX2_labelledRows) := goodIn_app (goodIn_of _ (by decide +kernel)) ggX5_count_X2_labelledRows
set_option maxRecDepth 20000 in
theorem ggX5_count_X3_length : GoodIn wsX5_count wsX3_length := goodIn_r _ [20, 21, 81, 82, 83, 84, 85] (by decide +kernel) (by decide +kernel)
set_option maxRecDepth 20000 in
theorem gX5_count_X3_length : GoodIn wsX5_count (wsV RX5 200 RX3 yX3_length wsX3_length) := goodIn_app (goodIn_of _ (by decide +kernel)) ggX5_count_X3_length
set_option maxRecDepth 20000 in
theorem ggX5_count_X4_gather : GoodIn wsX5_count wsX4_gather := goodIn_r _ [26, 27, 28, 29, 30, 31, 32, 33, 6, 7, 8, 9, 10, 34, 35, 36, 37, 38, 39, 40, 41, 42, 25, 43, 44, 45, 46, 47, 48, 49, 50, 51, 52, 53, 54, 55, 56, 86, 87, 88, 89, 71, 72, 73, 74, 75, 76, 77, 78, 79, 80] (by decide +kernel) (by decide +kernel)
set_option maxRecDepth 20000 in
theorem gX5_count_X4_gather : GoodIn wsX5_count (wsV RX5 186 RX4 yX4_gather wsX4_gather) := goodIn_app (goodIn_of _ (by decide +kernel)) ggX5_count_X4_gather
set_option maxRecDepth 20000 in
theorem ggX5_count_X4_size : GoodIn wsX5_count wsX4_size := goodIn_r _ [60, 29, 86, 87, 88, 89] (by decide +kernel) (by decide +kernel)
set_option maxRecDepth 20000 in
theorem gX5_count_X4_size : GoodIn wsX5_count (wsV RX5 203 RX4 yX4_size wsX4_size) := goodIn_app (goodIn_of _ (by decide +kernel)) ggX5_count_X4_size
set_option maxRecDepth 20000 in
theorem ggX5_count_X1_signsOfAll : GoodIn wsX5_count wsX1_signsOfAll := goodIn_r _ [65, 66, 90, 91, 92, 93, 94, 95, 96, 97] (by decide +kernel) (by decide +kernel)
set_option maxRecDepth 20000 in
theorem gX5_count_X1_signsOfAll : GoodIn wsX5_count (wsV RX5 204 RX1 yX1_signsOfAll wsX1_signsOfAll) := goodIn_app (goodIn_of _ (by decide +kernel)) ggX5_count_X1_signsOfAll
theorem dX5_count_0 : decode cX5_count 0 = .ok (.iload_n 1, 1) := by decide +kernel
theorem dX5_count_1 : decode cX5_count 1 = .ok (.tableswitch 86 0 4 #[35, 43, 51, 59, 78], 35) := by decide +kernel
theorem dX5_count_36 : decode cX5_count 36 = .ok (.aload_n 0, 1) := by decide +kernel
theorem dX5_count_37 : decode cX5_count 37 = .ok (.getfield 10, 3) := by decide +kernel
theorem dX5_count_40 : decode cX5_count 40 = .ok (.invokevirtual 194, 3) := by decide +kernel
theorem dX5_count_43 : decode cX5_count 43 = .ok (.ireturn, 1) := by decide +kernel
theorem dX5_count_44 : decode cX5_count 44 = .ok (.aload_n 0, 1) := by decide +kernel
theorem dX5_count_45 : decode cX5_count 45 = .ok (.getfield 10, 3) := by decide +kernel
theorem dX5_count_48 : decode cX5_count 48 = .ok (.invokevirtual 197, 3) := by decide +kernel
theorem dX5_count_51 : decode cX5_count 51 = .ok (.ireturn, 1) := by decide +kernel
theorem dX5_count_52 : decode cX5_count 52 = .ok (.aload_n 0, 1) := by decide +kernel
theorem dX5_count_53 : decode cX5_count 53 = .ok (.getfield 19, 3) := by decide +kernel
theorem dX5_count_56 : decode cX5_count 56 = .ok (.invokevirtual 200, 3) := by decide +kernel
theorem dX5_count_59 : decode cX5_count 59 = .ok (.ireturn, 1) := by decide +kernel
theorem dX5_count_60 : decode cX5_count 60 = .ok (.aload_n 0, 1) := by decide +kernel
theorem dX5_count_61 : decode cX5_count 61 = .ok (.getfield 33, 3) := by decide +kernel
theorem dX5_count_64 : decode cX5_count 64 = .ok (.aload_n 0, 1) := by decide +kernel
theorem dX5_count_65 : decode cX5_count 65 = .ok (.getfield 10, 3) := by decide +kernel
theorem dX5_count_68 : decode cX5_count 68 = .ok (.invokevirtual 186, 3) := by decide +kernel
theorem dX5_count_71 : decode cX5_count 71 = .ok (.aload_n 0, 1) := by decide +kernel
theorem dX5_count_72 : decode cX5_count 72 = .ok (.getfield 33, 3) := by decide +kernel
theorem dX5_count_75 : decode cX5_count 75 = .ok (.invokevirtual 203, 3) := by decide +kernel
theorem dX5_count_78 : decode cX5_count 78 = .ok (.ireturn, 1) := by decide +kernel
theorem dX5_count_79 : decode cX5_count 79 = .ok (.aload_n 0, 1) := by decide +kernel
theorem dX5_count_80 : decode cX5_count 80 = .ok (.getfield 26, 3) := by decide +kernel
theorem dX5_count_83 : decode cX5_count 83 = .ok (.invokevirtual 204, 3) := by decide +kernel
theorem dX5_count_86 : decode cX5_count 86 = .ok (.ireturn, 1) := by decide +kernel
theorem dX5_count_87 : decode cX5_count 87 = .ok (.bipush (-2), 2) := by decide +kernel
theorem dX5_count_89 : decode cX5_count 89 = .ok (.ireturn, 1) := by decide +kernel
theorem dX5_isWithin_0 : decode cX5_isWithin 0 = .ok (.iload_n 0, 1) := by decide +kernel
theorem dX5_isWithin_1 : decode cX5_isWithin 1 = .ok (.iload_n 1, 1) := by decide +kernel
theorem dX5_isWithin_2 : decode cX5_isWithin 2 = .ok (.if_icmp .lt 12, 3) := by decide +kernel
theorem dX5_isWithin_5 : decode cX5_isWithin 5 = .ok (.iload_n 0, 1) := by decide +kernel
theorem dX5_isWithin_6 : decode cX5_isWithin 6 = .ok (.iload_n 2, 1) := by decide +kernel
theorem dX5_isWithin_7 : decode cX5_isWithin 7 = .ok (.if_icmp .gt 7, 3) := by decide +kernel
theorem dX5_isWithin_10 : decode cX5_isWithin 10 = .ok (.iconst 1, 1) := by decide +kernel
theorem dX5_isWithin_11 : decode cX5_isWithin 11 = .ok (.goto 4, 3) := by decide +kernel
theorem dX5_isWithin_14 : decode cX5_isWithin 14 = .ok (.iconst 0, 1) := by decide +kernel
theorem dX5_isWithin_15 : decode cX5_isWithin 15 = .ok (.ireturn, 1) := by decide +kernel
set_option maxRecDepth 20000 in
theorem ggX5_isWord_X5_isWithin : GoodIn wsX5_isWord wsX5_isWithin := goodIn_r _ [4] (by decide +kernel) (by decide +kernel)
set_option maxRecDepth 20000 in
theorem gX5_isWord_X5_isWithin : GoodIn wsX5_isWord (va_wsS RX5 65 yX5_isWithin wsX5_isWithin) := goodIn_app (goodIn_of _ (by decide +kernel)) ggX5_isWord_X5_isWithin
theorem dX5_isWord_0 : decode cX5_isWord 0 = .ok (.iload_n 0, 1) := by decide +kernel
theorem dX5_isWord_1 : decode cX5_isWord 1 = .ok (.iconst 0, 1) := by decide +kernel
theorem dX5_isWord_2 : decode cX5_isWord 2 = .ok (.bipush 7, 2) := by decide +kernel
theorem dX5_isWord_4 : decode cX5_isWord 4 = .ok (.invokestatic 65, 3) := by decide +kernel
theorem dX5_isWord_7 : decode cX5_isWord 7 = .ok (.ireturn, 1) := by decide +kernel
set_option maxRecDepth 20000 in
theorem ggX5_isLabel_X5_isWithin : GoodIn wsX5_isLabel wsX5_isWithin := goodIn_r _ [4] (by decide +kernel) (by decide +kernel)
set_option maxRecDepth 20000 in
theorem gX5_isLabel_X5_isWithin : GoodIn wsX5_isLabel (va_wsS RX5 65 yX5_isWithin wsX5_isWithin) := goodIn_app (goodIn_of _ (by decide +kernel)) ggX5_isLabel_X5_isWithin
theorem dX5_isLabel_0 : decode cX5_isLabel 0 = .ok (.iload_n 0, 1) := by decide +kernel
theorem dX5_isLabel_1 : decode cX5_isLabel 1 = .ok (.iconst 0, 1) := by decide +kernel
theorem dX5_isLabel_2 : decode cX5_isLabel 2 = .ok (.iconst 3, 1) := by decide +kernel
theorem dX5_isLabel_3 : decode cX5_isLabel 3 = .ok (.invokestatic 65, 3) := by decide +kernel
theorem dX5_isLabel_6 : decode cX5_isLabel 6 = .ok (.ireturn, 1) := by decide +kernel
set_option maxRecDepth 20000 in
theorem ggX5_isLabelOrNone_X5_isLabel : GoodIn wsX5_isLabelOrNone wsX5_isLabel := goodIn_r _ [4, 5, 6, 3, 7] (by decide +kernel) (by decide +kernel)
set_option maxRecDepth 20000 in
theorem gX5_isLabelOrNone_X5_isLabel : GoodIn wsX5_isLabelOrNone (va_wsS RX5 73 yX5_isLabel wsX5_isLabel) := goodIn_app (goodIn_of _ (by decide +kernel)) ggX5_isLabelOrNone_X5_isLabel
theorem dX5_isLabelOrNone_0 : decode cX5_isLabelOrNone 0 = .ok (.iload_n 0, 1) := by decide +kernel
theorem dX5_isLabelOrNone_1 : decode cX5_isLabelOrNone 1 = .ok (.iconst (-1), 1) := by decide +kernel
theorem dX5_isLabelOrNone_2 : decode cX5_isLabelOrNone 2 = .ok (.if_icmp .eq 10, 3) := by decide +kernel
theorem dX5_isLabelOrNone_5 : decode cX5_isLabelOrNone 5 = .ok (.iload_n 0, 1) := by decide +kernel
theorem dX5_isLabelOrNone_6 : decode cX5_isLabelOrNone 6 = .ok (.invokestatic 73, 3) := by decide +kernel
theorem dX5_isLabelOrNone_9 : decode cX5_isLabelOrNone 9 = .ok (.ifCond .eq 7, 3) := by decide +kernel
theorem dX5_isLabelOrNone_12 : decode cX5_isLabelOrNone 12 = .ok (.iconst 1, 1) := by decide +kernel
theorem dX5_isLabelOrNone_13 : decode cX5_isLabelOrNone 13 = .ok (.goto 4, 3) := by decide +kernel
theorem dX5_isLabelOrNone_16 : decode cX5_isLabelOrNone 16 = .ok (.iconst 0, 1) := by decide +kernel
theorem dX5_isLabelOrNone_17 : decode cX5_isLabelOrNone 17 = .ok (.ireturn, 1) := by decide +kernel
set_option maxRecDepth 20000 in
theorem ggX5_isSide_X5_isWithin : GoodIn wsX5_isSide wsX5_isWithin := goodIn_r _ [4] (by decide +kernel) (by decide +kernel)
set_option maxRecDepth 20000 in
theorem gX5_isSide_X5_isWithin : GoodIn wsX5_isSide (va_wsS RX5 65 yX5_isWithin wsX5_isWithin) := goodIn_app (goodIn_of _ (by decide +kernel)) ggX5_isSide_X5_isWithin
theorem dX5_isSide_0 : decode cX5_isSide 0 = .ok (.iload_n 0, 1) := by decide +kernel
theorem dX5_isSide_1 : decode cX5_isSide 1 = .ok (.iconst 0, 1) := by decide +kernel
theorem dX5_isSide_2 : decode cX5_isSide 2 = .ok (.iconst 1, 1) := by decide +kernel
theorem dX5_isSide_3 : decode cX5_isSide 3 = .ok (.invokestatic 65, 3) := by decide +kernel
theorem dX5_isSide_6 : decode cX5_isSide 6 = .ok (.ireturn, 1) := by decide +kernel
set_option maxRecDepth 20000 in
theorem ggX5_isTable_X5_isWord : GoodIn wsX5_isTable wsX5_isWord := goodIn_r _ [4, 5, 6, 3, 7] (by decide +kernel) (by decide +kernel)
set_option maxRecDepth 20000 in
theorem gX5_isTable_X5_isWord : GoodIn wsX5_isTable (va_wsS RX5 52 yX5_isWord wsX5_isWord) := goodIn_app (goodIn_of _ (by decide +kernel)) ggX5_isTable_X5_isWord
theorem dX5_isTable_0 : decode cX5_isTable 0 = .ok (.iload_n 1, 1) := by decide +kernel
theorem dX5_isTable_1 : decode cX5_isTable 1 = .ok (.iconst (-1), 1) := by decide +kernel
theorem dX5_isTable_2 : decode cX5_isTable 2 = .ok (.if_icmp .ne 14, 3) := by decide +kernel
theorem dX5_isTable_5 : decode cX5_isTable 5 = .ok (.iload_n 0, 1) := by decide +kernel
theorem dX5_isTable_6 : decode cX5_isTable 6 = .ok (.iconst (-1), 1) := by decide +kernel
theorem dX5_isTable_7 : decode cX5_isTable 7 = .ok (.if_icmp .ne 7, 3) := by decide +kernel
theorem dX5_isTable_10 : decode cX5_isTable 10 = .ok (.iconst 1, 1) := by decide +kernel
theorem dX5_isTable_11 : decode cX5_isTable 11 = .ok (.goto 4, 3) := by decide +kernel
theorem dX5_isTable_14 : decode cX5_isTable 14 = .ok (.iconst 0, 1) := by decide +kernel
theorem dX5_isTable_15 : decode cX5_isTable 15 = .ok (.ireturn, 1) := by decide +kernel
theorem dX5_isTable_16 : decode cX5_isTable 16 = .ok (.iload_n 1, 1) := by decide +kernel
theorem dX5_isTable_17 : decode cX5_isTable 17 = .ok (.invokestatic 52, 3) := by decide +kernel
theorem dX5_isTable_20 : decode cX5_isTable 20 = .ok (.ifCond .eq 19, 3) := by decide +kernel
theorem dX5_isTable_23 : decode cX5_isTable 23 = .ok (.iload_n 0, 1) := by decide +kernel
theorem dX5_isTable_24 : decode cX5_isTable 24 = .ok (.iconst (-1), 1) := by decide +kernel
theorem dX5_isTable_25 : decode cX5_isTable 25 = .ok (.if_icmp .eq 10, 3) := by decide +kernel
theorem dX5_isTable_28 : decode cX5_isTable 28 = .ok (.iload_n 0, 1) := by decide +kernel
theorem dX5_isTable_29 : decode cX5_isTable 29 = .ok (.invokestatic 52, 3) := by decide +kernel
theorem dX5_isTable_32 : decode cX5_isTable 32 = .ok (.ifCond .eq 7, 3) := by decide +kernel
theorem dX5_isTable_35 : decode cX5_isTable 35 = .ok (.iconst 1, 1) := by decide +kernel
theorem dX5_isTable_36 : decode cX5_isTable 36 = .ok (.goto 4, 3) := by decide +kernel
theorem dX5_isTable_39 : decode cX5_isTable 39 = .ok (.iconst 0, 1) := by decide +kernel
theorem dX5_isTable_40 : decode cX5_isTable 40 = .ok (.ireturn, 1) := by decide +kernel
theorem dX5_setAll_0 : decode cX5_setAll 0 = .ok (.iconst 0, 1) := by decide +kernel
theorem dX5_setAll_1 : decode cX5_setAll 1 = .ok (.istore_n 2, 1) := by decide +kernel
theorem dX5_setAll_2 : decode cX5_setAll 2 = .ok (.iload_n 2, 1) := by decide +kernel
theorem dX5_setAll_3 : decode cX5_setAll 3 = .ok (.aload_n 0, 1) := by decide +kernel
theorem dX5_setAll_4 : decode cX5_setAll 4 = .ok (.arraylength, 1) := by decide +kernel
theorem dX5_setAll_5 : decode cX5_setAll 5 = .ok (.if_icmp .ge 13, 3) := by decide +kernel
theorem dX5_setAll_8 : decode cX5_setAll 8 = .ok (.aload_n 0, 1) := by decide +kernel
theorem dX5_setAll_9 : decode cX5_setAll 9 = .ok (.iload_n 2, 1) := by decide +kernel
theorem dX5_setAll_10 : decode cX5_setAll 10 = .ok (.iload_n 1, 1) := by decide +kernel
theorem dX5_setAll_11 : decode cX5_setAll 11 = .ok (.iastore, 1) := by decide +kernel
theorem dX5_setAll_12 : decode cX5_setAll 12 = .ok (.iinc 2 1, 3) := by decide +kernel
theorem dX5_setAll_15 : decode cX5_setAll 15 = .ok (.goto (-13), 3) := by decide +kernel
theorem dX5_setAll_18 : decode cX5_setAll 18 = .ok (.return_, 1) := by decide +kernel
theorem dX6_init_0 : decode cX6_init 0 = .ok (.aload_n 0, 1) := by decide +kernel
theorem dX6_init_1 : decode cX6_init 1 = .ok (.invokespecial 1, 3) := by decide +kernel
theorem dX6_init_4 : decode cX6_init 4 = .ok (.aload_n 0, 1) := by decide +kernel
theorem dX6_init_5 : decode cX6_init 5 = .ok (.bipush 40, 2) := by decide +kernel
theorem dX6_init_7 : decode cX6_init 7 = .ok (.newarray .int, 2) := by decide +kernel
theorem dX6_init_9 : decode cX6_init 9 = .ok (.putfield 7, 3) := by decide +kernel
theorem dX6_init_12 : decode cX6_init 12 = .ok (.aload_n 0, 1) := by decide +kernel
theorem dX6_init_13 : decode cX6_init 13 = .ok (.bipush 40, 2) := by decide +kernel
theorem dX6_init_15 : decode cX6_init 15 = .ok (.newarray .int, 2) := by decide +kernel
theorem dX6_init_17 : decode cX6_init 17 = .ok (.putfield 13, 3) := by decide +kernel
theorem dX6_init_20 : decode cX6_init 20 = .ok (.aload_n 0, 1) := by decide +kernel
theorem dX6_init_21 : decode cX6_init 21 = .ok (.bipush 40, 2) := by decide +kernel
theorem dX6_init_23 : decode cX6_init 23 = .ok (.newarray .int, 2) := by decide +kernel
theorem dX6_init_25 : decode cX6_init 25 = .ok (.putfield 16, 3) := by decide +kernel
theorem dX6_init_28 : decode cX6_init 28 = .ok (.aload_n 0, 1) := by decide +kernel
theorem dX6_init_29 : decode cX6_init 29 = .ok (.bipush 40, 2) := by decide +kernel
theorem dX6_init_31 : decode cX6_init 31 = .ok (.newarray .int, 2) := by decide +kernel
theorem dX6_init_33 : decode cX6_init 33 = .ok (.putfield 19, 3) := by decide +kernel
theorem dX6_init_36 : decode cX6_init 36 = .ok (.aload_n 0, 1) := by decide +kernel
theorem dX6_init_37 : decode cX6_init 37 = .ok (.sipush 240, 3) := by decide +kernel
theorem dX6_init_40 : decode cX6_init 40 = .ok (.newarray .int, 2) := by decide +kernel
theorem dX6_init_42 : decode cX6_init 42 = .ok (.putfield 22, 3) := by decide +kernel
theorem dX6_init_45 : decode cX6_init 45 = .ok (.aload_n 0, 1) := by decide +kernel
theorem dX6_init_46 : decode cX6_init 46 = .ok (.iconst 1, 1) := by decide +kernel
theorem dX6_init_47 : decode cX6_init 47 = .ok (.putfield 25, 3) := by decide +kernel
theorem dX6_init_50 : decode cX6_init 50 = .ok (.aload_n 0, 1) := by decide +kernel
theorem dX6_init_51 : decode cX6_init 51 = .ok (.iconst 1, 1) := by decide +kernel
theorem dX6_init_52 : decode cX6_init 52 = .ok (.putfield 29, 3) := by decide +kernel
theorem dX6_init_55 : decode cX6_init 55 = .ok (.aload_n 0, 1) := by decide +kernel
theorem dX6_init_56 : decode cX6_init 56 = .ok (.bipush 60, 2) := by decide +kernel
theorem dX6_init_58 : decode cX6_init 58 = .ok (.newarray .int, 2) := by decide +kernel
theorem dX6_init_60 : decode cX6_init 60 = .ok (.putfield 32, 3) := by decide +kernel
theorem dX6_init_63 : decode cX6_init 63 = .ok (.aload_n 0, 1) := by decide +kernel
theorem dX6_init_64 : decode cX6_init 64 = .ok (.bipush 8, 2) := by decide +kernel
theorem dX6_init_66 : decode cX6_init 66 = .ok (.newarray .int, 2) := by decide +kernel
theorem dX6_init_68 : decode cX6_init 68 = .ok (.putfield 35, 3) := by decide +kernel
theorem dX6_init_71 : decode cX6_init 71 = .ok (.aload_n 0, 1) := by decide +kernel
theorem dX6_init_72 : decode cX6_init 72 = .ok (.bipush 8, 2) := by decide +kernel
theorem dX6_init_74 : decode cX6_init 74 = .ok (.newarray .long, 2) := by decide +kernel
theorem dX6_init_76 : decode cX6_init 76 = .ok (.putfield 38, 3) := by decide +kernel
theorem dX6_init_79 : decode cX6_init 79 = .ok (.aload_n 0, 1) := by decide +kernel
theorem dX6_init_80 : decode cX6_init 80 = .ok (.iconst 4, 1) := by decide +kernel
theorem dX6_init_81 : decode cX6_init 81 = .ok (.newarray .int, 2) := by decide +kernel
theorem dX6_init_83 : decode cX6_init 83 = .ok (.putfield 42, 3) := by decide +kernel
theorem dX6_init_86 : decode cX6_init 86 = .ok (.aload_n 0, 1) := by decide +kernel
theorem dX6_init_87 : decode cX6_init 87 = .ok (.bipush 16, 2) := by decide +kernel
theorem dX6_init_89 : decode cX6_init 89 = .ok (.newarray .int, 2) := by decide +kernel
theorem dX6_init_91 : decode cX6_init 91 = .ok (.putfield 45, 3) := by decide +kernel
theorem dX6_init_94 : decode cX6_init 94 = .ok (.aload_n 0, 1) := by decide +kernel
theorem dX6_init_95 : decode cX6_init 95 = .ok (.bipush 16, 2) := by decide +kernel
theorem dX6_init_97 : decode cX6_init 97 = .ok (.newarray .int, 2) := by decide +kernel
theorem dX6_init_99 : decode cX6_init 99 = .ok (.putfield 48, 3) := by decide +kernel
theorem dX6_init_102 : decode cX6_init 102 = .ok (.aload_n 0, 1) := by decide +kernel
theorem dX6_init_103 : decode cX6_init 103 = .ok (.bipush 20, 2) := by decide +kernel
theorem dX6_init_105 : decode cX6_init 105 = .ok (.newarray .int, 2) := by decide +kernel
theorem dX6_init_107 : decode cX6_init 107 = .ok (.putfield 51, 3) := by decide +kernel
theorem dX6_init_110 : decode cX6_init 110 = .ok (.aload_n 0, 1) := by decide +kernel
theorem dX6_init_111 : decode cX6_init 111 = .ok (.iconst 4, 1) := by decide +kernel
theorem dX6_init_112 : decode cX6_init 112 = .ok (.newarray .int, 2) := by decide +kernel
theorem dX6_init_114 : decode cX6_init 114 = .ok (.putfield 54, 3) := by decide +kernel
theorem dX6_init_117 : decode cX6_init 117 = .ok (.aload_n 0, 1) := by decide +kernel
theorem dX6_init_118 : decode cX6_init 118 = .ok (.iconst 4, 1) := by decide +kernel
theorem dX6_init_119 : decode cX6_init 119 = .ok (.newarray .int, 2) := by decide +kernel
theorem dX6_init_121 : decode cX6_init 121 = .ok (.putfield 57, 3) := by decide +kernel
theorem dX6_init_124 : decode cX6_init 124 = .ok (.aload_n 0, 1) := by decide +kernel
theorem dX6_init_125 : decode cX6_init 125 = .ok (.iconst 4, 1) := by decide +kernel
theorem dX6_init_126 : decode cX6_init 126 = .ok (.newarray .int, 2) := by decide +kernel
theorem dX6_init_128 : decode cX6_init 128 = .ok (.putfield 60, 3) := by decide +kernel
theorem dX6_init_131 : decode cX6_init 131 = .ok (.aload_n 0, 1) := by decide +kernel
theorem dX6_init_132 : decode cX6_init 132 = .ok (.bipush 16, 2) := by decide +kernel
theorem dX6_init_134 : decode cX6_init 134 = .ok (.newarray .int, 2) := by decide +kernel
theorem dX6_init_136 : decode cX6_init 136 = .ok (.putfield 63, 3) := by decide +kernel
theorem dX6_init_139 : decode cX6_init 139 = .ok (.aload_n 0, 1) := by decide +kernel
theorem dX6_init_140 : decode cX6_init 140 = .ok (.bipush 16, 2) := by decide +kernel
theorem dX6_init_142 : decode cX6_init 142 = .ok (.newarray .int, 2) := by decide +kernel
theorem dX6_init_144 : decode cX6_init 144 = .ok (.putfield 66, 3) := by decide +kernel
theorem dX6_init_147 : decode cX6_init 147 = .ok (.iconst 0, 1) := by decide +kernel
theorem dX6_init_148 : decode cX6_init 148 = .ok (.istore_n 1, 1) := by decide +kernel
theorem dX6_init_149 : decode cX6_init 149 = .ok (.iload_n 1, 1) := by decide +kernel
theorem dX6_init_150 : decode cX6_init 150 = .ok (.iconst 4, 1) := by decide +kernel
theorem dX6_init_151 : decode cX6_init 151 = .ok (.if_icmp .ge 16, 3) := by decide +kernel
theorem dX6_init_154 : decode cX6_init 154 = .ok (.aload_n 0, 1) := by decide +kernel
theorem dX6_init_155 : decode cX6_init 155 = .ok (.getfield 42, 3) := by decide +kernel
theorem dX6_init_158 : decode cX6_init 158 = .ok (.iload_n 1, 1) := by decide +kernel
theorem dX6_init_159 : decode cX6_init 159 = .ok (.iconst 1, 1) := by decide +kernel
theorem dX6_init_160 : decode cX6_init 160 = .ok (.iastore, 1) := by decide +kernel
theorem dX6_init_161 : decode cX6_init 161 = .ok (.iinc 1 1, 3) := by decide +kernel
theorem dX6_init_164 : decode cX6_init 164 = .ok (.goto (-15), 3) := by decide +kernel
theorem dX6_init_167 : decode cX6_init 167 = .ok (.iconst 0, 1) := by decide +kernel
theorem dX6_init_168 : decode cX6_init 168 = .ok (.istore_n 1, 1) := by decide +kernel
theorem dX6_init_169 : decode cX6_init 169 = .ok (.iload_n 1, 1) := by decide +kernel
theorem dX6_init_170 : decode cX6_init 170 = .ok (.bipush 16, 2) := by decide +kernel
theorem dX6_init_172 : decode cX6_init 172 = .ok (.if_icmp .ge 23, 3) := by decide +kernel
theorem dX6_init_175 : decode cX6_init 175 = .ok (.aload_n 0, 1) := by decide +kernel
theorem dX6_init_176 : decode cX6_init 176 = .ok (.getfield 45, 3) := by decide +kernel
theorem dX6_init_179 : decode cX6_init 179 = .ok (.iload_n 1, 1) := by decide +kernel
theorem dX6_init_180 : decode cX6_init 180 = .ok (.iconst 1, 1) := by decide +kernel
theorem dX6_init_181 : decode cX6_init 181 = .ok (.iastore, 1) := by decide +kernel
theorem dX6_init_182 : decode cX6_init 182 = .ok (.aload_n 0, 1) := by decide +kernel
theorem dX6_init_183 : decode cX6_init 183 = .ok (.getfield 48, 3) := by decide +kernel
theorem dX6_init_186 : decode cX6_init 186 = .ok (.iload_n 1, 1) := by decide +kernel
theorem dX6_init_187 : decode cX6_init 187 = .ok (.iconst 1, 1) := by decide +kernel
theorem dX6_init_188 : decode cX6_init 188 = .ok (.iastore, 1) := by decide +kernel
theorem dX6_init_189 : decode cX6_init 189 = .ok (.iinc 1 1, 3) := by decide +kernel
theorem dX6_init_192 : decode cX6_init 192 = .ok (.goto (-23), 3) := by decide +kernel
theorem dX6_init_195 : decode cX6_init 195 = .ok (.return_, 1) := by decide +kernel
theorem dX6_thrown_0 : decode cX6_thrown 0 = .ok (.aload_n 0, 1) := by decide +kernel
theorem dX6_thrown_1 : decode cX6_thrown 1 = .ok (.getfield 69, 3) := by decide +kernel
theorem dX6_thrown_4 : decode cX6_thrown 4 = .ok (.ireturn, 1) := by decide +kernel
theorem dX6_within_0 : decode cX6_within 0 = .ok (.iload_n 0, 1) := by decide +kernel
theorem dX6_within_1 : decode cX6_within 1 = .ok (.iload_n 1, 1) := by decide +kernel
theorem dX6_within_2 : decode cX6_within 2 = .ok (.if_icmp .lt 12, 3) := by decide +kernel
theorem dX6_within_5 : decode cX6_within 5 = .ok (.iload_n 0, 1) := by decide +kernel
theorem dX6_within_6 : decode cX6_within 6 = .ok (.iload_n 2, 1) := by decide +kernel
theorem dX6_within_7 : decode cX6_within 7 = .ok (.if_icmp .gt 7, 3) := by decide +kernel
theorem dX6_within_10 : decode cX6_within 10 = .ok (.iconst 1, 1) := by decide +kernel
theorem dX6_within_11 : decode cX6_within 11 = .ok (.goto 4, 3) := by decide +kernel
theorem dX6_within_14 : decode cX6_within 14 = .ok (.iconst 0, 1) := by decide +kernel
theorem dX6_within_15 : decode cX6_within 15 = .ok (.ireturn, 1) := by decide +kernel
theorem dX6_measure_0 : decode cX6_measure 0 = .ok (.lload_n 0, 1) := by decide +kernel
theorem dX6_measure_1 : decode cX6_measure 1 = .ok (.lstore 4, 2) := by decide +kernel
theorem dX6_measure_3 : decode cX6_measure 3 = .ok (.lload_n 2, 1) := by decide +kernel
theorem dX6_measure_4 : decode cX6_measure 4 = .ok (.lstore 6, 2) := by decide +kernel
theorem dX6_measure_6 : decode cX6_measure 6 = .ok (.lload 6, 2) := by decide +kernel
theorem dX6_measure_8 : decode cX6_measure 8 = .ok (.lconst 0, 1) := by decide +kernel
theorem dX6_measure_9 : decode cX6_measure 9 = .ok (.lcmp, 1) := by decide +kernel
theorem dX6_measure_10 : decode cX6_measure 10 = .ok (.ifCond .eq 21, 3) := by decide +kernel
theorem dX6_measure_13 : decode cX6_measure 13 = .ok (.lload 4, 2) := by decide +kernel
theorem dX6_measure_15 : decode cX6_measure 15 = .ok (.lload 6, 2) := by decide +kernel
theorem dX6_measure_17 : decode cX6_measure 17 = .ok (.lrem, 1) := by decide +kernel
theorem dX6_measure_18 : decode cX6_measure 18 = .ok (.lstore 8, 2) := by decide +kernel
theorem dX6_measure_20 : decode cX6_measure 20 = .ok (.lload 6, 2) := by decide +kernel
theorem dX6_measure_22 : decode cX6_measure 22 = .ok (.lstore 4, 2) := by decide +kernel
theorem dX6_measure_24 : decode cX6_measure 24 = .ok (.lload 8, 2) := by decide +kernel
theorem dX6_measure_26 : decode cX6_measure 26 = .ok (.lstore 6, 2) := by decide +kernel
theorem dX6_measure_28 : decode cX6_measure 28 = .ok (.goto (-22), 3) := by decide +kernel
theorem dX6_measure_31 : decode cX6_measure 31 = .ok (.lload 4, 2) := by decide +kernel
theorem dX6_measure_33 : decode cX6_measure 33 = .ok (.lreturn, 1) := by decide +kernel
set_option maxRecDepth 20000 in
theorem ggX6_side_X6_measure : GoodIn wsX6_side wsX6_measure := goodIn_r _ [4] (by decide +kernel) (by decide +kernel)
set_option maxRecDepth 20000 in
theorem gX6_side_X6_measure : GoodIn wsX6_side (va_wsS RX6 72 yX6_measure wsX6_measure) := goodIn_app (goodIn_of _ (by decide +kernel)) ggX6_side_X6_measure
theorem dX6_side_0 : decode cX6_side 0 = .ok (.lload_n 0, 1) := by decide +kernel
theorem dX6_side_1 : decode cX6_side 1 = .ok (.lload_n 2, 1) := by decide +kernel
theorem dX6_side_2 : decode cX6_side 2 = .ok (.invokestatic 72, 3) := by decide +kernel
theorem dX6_side_5 : decode cX6_side 5 = .ok (.lstore 5, 2) := by decide +kernel
theorem dX6_side_7 : decode cX6_side 7 = .ok (.iload 4, 2) := by decide +kernel
theorem dX6_side_9 : decode cX6_side 9 = .ok (.ifCond .ne 10, 3) := by decide +kernel
theorem dX6_side_12 : decode cX6_side 12 = .ok (.lload_n 0, 1) := by decide +kernel
theorem dX6_side_13 : decode cX6_side 13 = .ok (.lload 5, 2) := by decide +kernel
theorem dX6_side_15 : decode cX6_side 15 = .ok (.ldiv, 1) := by decide +kernel
theorem dX6_side_16 : decode cX6_side 16 = .ok (.goto 7, 3) := by decide +kernel
theorem dX6_side_19 : decode cX6_side 19 = .ok (.lload_n 2, 1) := by decide +kernel
theorem dX6_side_20 : decode cX6_side 20 = .ok (.lload 5, 2) := by decide +kernel
theorem dX6_side_22 : decode cX6_side 22 = .ok (.ldiv, 1) := by decide +kernel
theorem dX6_side_23 : decode cX6_side 23 = .ok (.lreturn, 1) := by decide +kernel
theorem dX6_isAbove_0 : decode cX6_isAbove 0 = .ok (.lload_n 0, 1) := by decide +kernel
theorem dX6_isAbove_1 : decode cX6_isAbove 1 = .ok (.lstore 8, 2) := by decide +kernel
theorem dX6_isAbove_3 : decode cX6_isAbove 3 = .ok (.lload_n 2, 1) := by decide +kernel
theorem dX6_isAbove_4 : decode cX6_isAbove 4 = .ok (.lstore 10, 2) := by decide +kernel
theorem dX6_isAbove_6 : decode cX6_isAbove 6 = .ok (.lload 4, 2) := by decide +kernel
theorem dX6_isAbove_8 : decode cX6_isAbove 8 = .ok (.lstore 12, 2) := by decide +kernel
theorem dX6_isAbove_10 : decode cX6_isAbove 10 = .ok (.lload 6, 2) := by decide +kernel
theorem dX6_isAbove_12 : decode cX6_isAbove 12 = .ok (.lstore 14, 2) := by decide +kernel
theorem dX6_isAbove_14 : decode cX6_isAbove 14 = .ok (.iconst 0, 1) := by decide +kernel
theorem dX6_isAbove_15 : decode cX6_isAbove 15 = .ok (.istore 16, 2) := by decide +kernel
theorem dX6_isAbove_17 : decode cX6_isAbove 17 = .ok (.lload 10, 2) := by decide +kernel
theorem dX6_isAbove_19 : decode cX6_isAbove 19 = .ok (.lconst 0, 1) := by decide +kernel
theorem dX6_isAbove_20 : decode cX6_isAbove 20 = .ok (.lcmp, 1) := by decide +kernel
theorem dX6_isAbove_21 : decode cX6_isAbove 21 = .ok (.ifCond .eq 101, 3) := by decide +kernel
theorem dX6_isAbove_24 : decode cX6_isAbove 24 = .ok (.lload 14, 2) := by decide +kernel
theorem dX6_isAbove_26 : decode cX6_isAbove 26 = .ok (.lconst 0, 1) := by decide +kernel
theorem dX6_isAbove_27 : decode cX6_isAbove 27 = .ok (.lcmp, 1) := by decide +kernel
theorem dX6_isAbove_28 : decode cX6_isAbove 28 = .ok (.ifCond .eq 94, 3) := by decide +kernel
theorem dX6_isAbove_31 : decode cX6_isAbove 31 = .ok (.lload 8, 2) := by decide +kernel
theorem dX6_isAbove_33 : decode cX6_isAbove 33 = .ok (.lload 10, 2) := by decide +kernel
theorem dX6_isAbove_35 : decode cX6_isAbove 35 = .ok (.ldiv, 1) := by decide +kernel
theorem dX6_isAbove_36 : decode cX6_isAbove 36 = .ok (.lstore 17, 2) := by decide +kernel
theorem dX6_isAbove_38 : decode cX6_isAbove 38 = .ok (.lload 12, 2) := by decide +kernel
theorem dX6_isAbove_40 : decode cX6_isAbove 40 = .ok (.lload 14, 2) := by decide +kernel
theorem dX6_isAbove_42 : decode cX6_isAbove 42 = .ok (.ldiv, 1) := by decide +kernel
theorem dX6_isAbove_43 : decode cX6_isAbove 43 = .ok (.lstore 19, 2) := by decide +kernel
theorem dX6_isAbove_45 : decode cX6_isAbove 45 = .ok (.lload 17, 2) := by decide +kernel
theorem dX6_isAbove_47 : decode cX6_isAbove 47 = .ok (.lload 19, 2) := by decide +kernel
theorem dX6_isAbove_49 : decode cX6_isAbove 49 = .ok (.lcmp, 1) := by decide +kernel
theorem dX6_isAbove_50 : decode cX6_isAbove 50 = .ok (.ifCond .eq 27, 3) := by decide +kernel
theorem dX6_isAbove_53 : decode cX6_isAbove 53 = .ok (.lload 17, 2) := by decide +kernel
theorem dX6_isAbove_55 : decode cX6_isAbove 55 = .ok (.lload 19, 2) := by decide +kernel
theorem dX6_isAbove_57 : decode cX6_isAbove 57 = .ok (.lcmp, 1) := by decide +kernel
theorem dX6_isAbove_58 : decode cX6_isAbove 58 = .ok (.ifCond .le 7, 3) := by decide +kernel
theorem dX6_isAbove_61 : decode cX6_isAbove 61 = .ok (.iconst 1, 1) := by decide +kernel
theorem dX6_isAbove_62 : decode cX6_isAbove 62 = .ok (.goto 4, 3) := by decide +kernel
theorem dX6_isAbove_65 : decode cX6_isAbove 65 = .ok (.iconst 0, 1) := by decide +kernel
theorem dX6_isAbove_66 : decode cX6_isAbove 66 = .ok (.iload 16, 2) := by decide +kernel
theorem dX6_isAbove_68 : decode cX6_isAbove 68 = .ok (.if_icmp .eq 7, 3) := by decide +kernel
theorem dX6_isAbove_71 : decode cX6_isAbove 71 = .ok (.iconst 1, 1) := by decide +kernel
theorem dX6_isAbove_72 : decode cX6_isAbove 72 = .ok (.goto 4, 3) := by decide +kernel
theorem dX6_isAbove_75 : decode cX6_isAbove 75 = .ok (.iconst 0, 1) := by decide +kernel
theorem dX6_isAbove_76 : decode cX6_isAbove 76 = .ok (.ireturn, 1) := by decide +kernel
theorem dX6_isAbove_77 : decode cX6_isAbove 77 = .ok (.lload 8, 2) := by decide +kernel
theorem dX6_isAbove_79 : decode cX6_isAbove 79 = .ok (.lload 10, 2) := by decide +kernel
theorem dX6_isAbove_81 : decode cX6_isAbove 81 = .ok (.lrem, 1) := by decide +kernel
theorem dX6_isAbove_82 : decode cX6_isAbove 82 = .ok (.lstore 21, 2) := by decide +kernel
theorem dX6_isAbove_84 : decode cX6_isAbove 84 = .ok (.lload 10, 2) := by decide +kernel
theorem dX6_isAbove_86 : decode cX6_isAbove 86 = .ok (.lstore 8, 2) := by decide +kernel
theorem dX6_isAbove_88 : decode cX6_isAbove 88 = .ok (.lload 21, 2) := by decide +kernel
theorem dX6_isAbove_90 : decode cX6_isAbove 90 = .ok (.lstore 10, 2) := by decide +kernel
theorem dX6_isAbove_92 : decode cX6_isAbove 92 = .ok (.lload 12, 2) := by decide +kernel
theorem dX6_isAbove_94 : decode cX6_isAbove 94 = .ok (.lload 14, 2) := by decide +kernel
theorem dX6_isAbove_96 : decode cX6_isAbove 96 = .ok (.lrem, 1) := by decide +kernel
theorem dX6_isAbove_97 : decode cX6_isAbove 97 = .ok (.lstore 21, 2) := by decide +kernel
theorem dX6_isAbove_99 : decode cX6_isAbove 99 = .ok (.lload 14, 2) := by decide +kernel
theorem dX6_isAbove_101 : decode cX6_isAbove 101 = .ok (.lstore 12, 2) := by decide +kernel
theorem dX6_isAbove_103 : decode cX6_isAbove 103 = .ok (.lload 21, 2) := by decide +kernel
theorem dX6_isAbove_105 : decode cX6_isAbove 105 = .ok (.lstore 14, 2) := by decide +kernel
theorem dX6_isAbove_107 : decode cX6_isAbove 107 = .ok (.iload 16, 2) := by decide +kernel
theorem dX6_isAbove_109 : decode cX6_isAbove 109 = .ok (.ifCond .ne 7, 3) := by decide +kernel
theorem dX6_isAbove_112 : decode cX6_isAbove 112 = .ok (.iconst 1, 1) := by decide +kernel
theorem dX6_isAbove_113 : decode cX6_isAbove 113 = .ok (.goto 4, 3) := by decide +kernel
theorem dX6_isAbove_116 : decode cX6_isAbove 116 = .ok (.iconst 0, 1) := by decide +kernel
theorem dX6_isAbove_117 : decode cX6_isAbove 117 = .ok (.istore 16, 2) := by decide +kernel
theorem dX6_isAbove_119 : decode cX6_isAbove 119 = .ok (.goto (-102), 3) := by decide +kernel
theorem dX6_isAbove_122 : decode cX6_isAbove 122 = .ok (.lload 10, 2) := by decide +kernel
theorem dX6_isAbove_124 : decode cX6_isAbove 124 = .ok (.lload 14, 2) := by decide +kernel
theorem dX6_isAbove_126 : decode cX6_isAbove 126 = .ok (.lcmp, 1) := by decide +kernel
theorem dX6_isAbove_127 : decode cX6_isAbove 127 = .ok (.ifCond .ne 7, 3) := by decide +kernel
theorem dX6_isAbove_130 : decode cX6_isAbove 130 = .ok (.iconst 0, 1) := by decide +kernel
theorem dX6_isAbove_131 : decode cX6_isAbove 131 = .ok (.goto 25, 3) := by decide +kernel
theorem dX6_isAbove_134 : decode cX6_isAbove 134 = .ok (.lload 10, 2) := by decide +kernel
theorem dX6_isAbove_136 : decode cX6_isAbove 136 = .ok (.lconst 0, 1) := by decide +kernel
theorem dX6_isAbove_137 : decode cX6_isAbove 137 = .ok (.lcmp, 1) := by decide +kernel
theorem dX6_isAbove_138 : decode cX6_isAbove 138 = .ok (.ifCond .ne 7, 3) := by decide +kernel
theorem dX6_isAbove_141 : decode cX6_isAbove 141 = .ok (.iconst 1, 1) := by decide +kernel
theorem dX6_isAbove_142 : decode cX6_isAbove 142 = .ok (.goto 4, 3) := by decide +kernel
theorem dX6_isAbove_145 : decode cX6_isAbove 145 = .ok (.iconst 0, 1) := by decide +kernel
theorem dX6_isAbove_146 : decode cX6_isAbove 146 = .ok (.iload 16, 2) := by decide +kernel
theorem dX6_isAbove_148 : decode cX6_isAbove 148 = .ok (.if_icmp .eq 7, 3) := by decide +kernel
theorem dX6_isAbove_151 : decode cX6_isAbove 151 = .ok (.iconst 1, 1) := by decide +kernel
theorem dX6_isAbove_152 : decode cX6_isAbove 152 = .ok (.goto 4, 3) := by decide +kernel
theorem dX6_isAbove_155 : decode cX6_isAbove 155 = .ok (.iconst 0, 1) := by decide +kernel
theorem dX6_isAbove_156 : decode cX6_isAbove 156 = .ok (.ireturn, 1) := by decide +kernel
set_option maxRecDepth 20000 in
theorem ggX6_isRow_X6_within : GoodIn wsX6_isRow wsX6_within := goodIn_r _ [5] (by decide +kernel) (by decide +kernel)
set_option maxRecDepth 20000 in
theorem gX6_isRow_X6_within : GoodIn wsX6_isRow (va_wsS RX6 79 yX6_within wsX6_within) := goodIn_app (goodIn_of _ (by decide +kernel)) ggX6_isRow_X6_within
theorem dX6_isRow_0 : decode cX6_isRow 0 = .ok (.iload_n 1, 1) := by decide +kernel
theorem dX6_isRow_1 : decode cX6_isRow 1 = .ok (.iconst 0, 1) := by decide +kernel
theorem dX6_isRow_2 : decode cX6_isRow 2 = .ok (.aload_n 0, 1) := by decide +kernel
theorem dX6_isRow_3 : decode cX6_isRow 3 = .ok (.getfield 76, 3) := by decide +kernel
theorem dX6_isRow_6 : decode cX6_isRow 6 = .ok (.iconst 1, 1) := by decide +kernel
theorem dX6_isRow_7 : decode cX6_isRow 7 = .ok (.isub, 1) := by decide +kernel
theorem dX6_isRow_8 : decode cX6_isRow 8 = .ok (.invokestatic 79, 3) := by decide +kernel
theorem dX6_isRow_11 : decode cX6_isRow 11 = .ok (.ireturn, 1) := by decide +kernel
theorem dX6_forget_0 : decode cX6_forget 0 = .ok (.iconst 0, 1) := by decide +kernel
theorem dX6_forget_1 : decode cX6_forget 1 = .ok (.istore_n 1, 1) := by decide +kernel
theorem dX6_forget_2 : decode cX6_forget 2 = .ok (.iload_n 1, 1) := by decide +kernel
theorem dX6_forget_3 : decode cX6_forget 3 = .ok (.bipush 40, 2) := by decide +kernel
theorem dX6_forget_5 : decode cX6_forget 5 = .ok (.if_icmp .ge 16, 3) := by decide +kernel
theorem dX6_forget_8 : decode cX6_forget 8 = .ok (.aload_n 0, 1) := by decide +kernel
theorem dX6_forget_9 : decode cX6_forget 9 = .ok (.getfield 13, 3) := by decide +kernel
theorem dX6_forget_12 : decode cX6_forget 12 = .ok (.iload_n 1, 1) := by decide +kernel
theorem dX6_forget_13 : decode cX6_forget 13 = .ok (.iconst (-1), 1) := by decide +kernel
theorem dX6_forget_14 : decode cX6_forget 14 = .ok (.iastore, 1) := by decide +kernel
theorem dX6_forget_15 : decode cX6_forget 15 = .ok (.iinc 1 1, 3) := by decide +kernel
theorem dX6_forget_18 : decode cX6_forget 18 = .ok (.goto (-16), 3) := by decide +kernel
theorem dX6_forget_21 : decode cX6_forget 21 = .ok (.return_, 1) := by decide +kernel
set_option maxRecDepth 20000 in
theorem ggX6_mayBe_X6_within : GoodIn wsX6_mayBe wsX6_within := goodIn_r _ [4] (by decide +kernel) (by decide +kernel)
set_option maxRecDepth 20000 in
theorem gX6_mayBe_X6_within : GoodIn wsX6_mayBe (va_wsS RX6 79 yX6_within wsX6_within) := goodIn_app (goodIn_of _ (by decide +kernel)) ggX6_mayBe_X6_within
theorem dX6_mayBe_0 : decode cX6_mayBe 0 = .ok (.iload_n 0, 1) := by decide +kernel
theorem dX6_mayBe_1 : decode cX6_mayBe 1 = .ok (.iconst (-1), 1) := by decide +kernel
theorem dX6_mayBe_2 : decode cX6_mayBe 2 = .ok (.iconst 3, 1) := by decide +kernel
theorem dX6_mayBe_3 : decode cX6_mayBe 3 = .ok (.invokestatic 79, 3) := by decide +kernel
theorem dX6_mayBe_6 : decode cX6_mayBe 6 = .ok (.ireturn, 1) := by decide +kernel
set_option maxRecDepth 20000 in
theorem ggX6_row_X6_mayBe : GoodIn wsX6_row wsX6_mayBe := goodIn_r _ [8, 9, 10, 7, 11] (by decide +kernel) (by decide +kernel)
set_option maxRecDepth 20000 in
theorem gX6_row_X6_mayBe : GoodIn wsX6_row (va_wsS RX6 83 yX6_mayBe wsX6_mayBe) := goodIn_app (goodIn_of _ (by decide +kernel)) ggX6_row_X6_mayBe
set_option maxRecDepth 20000 in
theorem ggX6_row_X6_forget : GoodIn wsX6_row wsX6_forget := goodIn_r _ [15, 16, 17, 18, 19, 20, 21, 22, 23, 24, 25, 26, 27, 28, 29, 30, 31, 32, 33, 34, 35, 36, 37, 38, 39, 40, 41] (by decide +kernel) (by decide +kernel)
set_option maxRecDepth 20000 in
theorem gX6_row_X6_forget : GoodIn wsX6_row (wsV RX6 87 RX6 yX6_forget wsX6_forget) := goodIn_app (goodIn_of _ (by decide +kernel)) ggX6_row_X6_forget
theorem dX6_row_0 : decode cX6_row 0 = .ok (.aload_n 0, 1) := by decide +kernel
theorem dX6_row_1 : decode cX6_row 1 = .ok (.iconst 0, 1) := by decide +kernel
theorem dX6_row_2 : decode cX6_row 2 = .ok (.putfield 69, 3) := by decide +kernel
theorem dX6_row_5 : decode cX6_row 5 = .ok (.iload_n 1, 1) := by decide +kernel
theorem dX6_row_6 : decode cX6_row 6 = .ok (.invokestatic 83, 3) := by decide +kernel
theorem dX6_row_9 : decode cX6_row 9 = .ok (.ifCond .ne 6, 3) := by decide +kernel
theorem dX6_row_12 : decode cX6_row 12 = .ok (.bipush (-2), 2) := by decide +kernel
theorem dX6_row_14 : decode cX6_row 14 = .ok (.ireturn, 1) := by decide +kernel
theorem dX6_row_15 : decode cX6_row 15 = .ok (.aload_n 0, 1) := by decide +kernel
theorem dX6_row_16 : decode cX6_row 16 = .ok (.getfield 76, 3) := by decide +kernel
theorem dX6_row_19 : decode cX6_row 19 = .ok (.bipush 40, 2) := by decide +kernel
theorem dX6_row_21 : decode cX6_row 21 = .ok (.if_icmp .ne 6, 3) := by decide +kernel
theorem dX6_row_24 : decode cX6_row 24 = .ok (.bipush (-3), 2) := by decide +kernel
theorem dX6_row_26 : decode cX6_row 26 = .ok (.ireturn, 1) := by decide +kernel
theorem dX6_row_27 : decode cX6_row 27 = .ok (.aload_n 0, 1) := by decide +kernel
theorem dX6_row_28 : decode cX6_row 28 = .ok (.getfield 7, 3) := by decide +kernel
theorem dX6_row_31 : decode cX6_row 31 = .ok (.aload_n 0, 1) := by decide +kernel
theorem dX6_row_32 : decode cX6_row 32 = .ok (.getfield 76, 3) := by decide +kernel
theorem dX6_row_35 : decode cX6_row 35 = .ok (.iload_n 1, 1) := by decide +kernel
theorem dX6_row_36 : decode cX6_row 36 = .ok (.iastore, 1) := by decide +kernel
theorem dX6_row_37 : decode cX6_row 37 = .ok (.aload_n 0, 1) := by decide +kernel
theorem dX6_row_38 : decode cX6_row 38 = .ok (.getfield 19, 3) := by decide +kernel
theorem dX6_row_41 : decode cX6_row 41 = .ok (.aload_n 0, 1) := by decide +kernel
theorem dX6_row_42 : decode cX6_row 42 = .ok (.getfield 76, 3) := by decide +kernel
theorem dX6_row_45 : decode cX6_row 45 = .ok (.iconst 0, 1) := by decide +kernel
theorem dX6_row_46 : decode cX6_row 46 = .ok (.iastore, 1) := by decide +kernel
theorem dX6_row_47 : decode cX6_row 47 = .ok (.aload_n 0, 1) := by decide +kernel
theorem dX6_row_48 : decode cX6_row 48 = .ok (.dup, 1) := by decide +kernel
theorem dX6_row_49 : decode cX6_row 49 = .ok (.getfield 76, 3) := by decide +kernel
theorem dX6_row_52 : decode cX6_row 52 = .ok (.iconst 1, 1) := by decide +kernel
end
section
theorem dX6_row_53 : decode cX6_row 53 = .ok (.iadd, 1) := by decide +kernel
theorem dX6_row_54 : decode cX6_row 54 = .ok (.putfield 76, 3) := by decide +kernel
theorem dX6_row_57 : decode cX6_row 57 = .ok (.aload_n 0, 1) := by decide +kernel
theorem dX6_row_58 : decode cX6_row 58 = .ok (.invokevirtual 87, 3) := by decide +kernel
theorem dX6_row_61 : decode cX6_row 61 = .ok (.aload_n 0, 1) := by decide +kernel
theorem dX6_row_62 : decode cX6_row 62 = .ok (.getfield 76, 3) := by decide +kernel
theorem dX6_row_65 : decode cX6_row 65 = .ok (.iconst 1, 1) := by decide +kernel
theorem dX6_row_66 : decode cX6_row 66 = .ok (.isub, 1) := by decide +kernel
theorem dX6_row_67 : decode cX6_row 67 = .ok (.ireturn, 1) := by decide +kernel
set_option maxRecDepth 20000 in
theorem ggX6_word_X6_isRow : GoodIn wsX6_word wsX6_isRow := goodIn_r _ [8, 9, 10, 11, 7, 12, 18, 19, 20, 21, 22, 23, 24, 25, 26, 27, 28, 29, 30, 31, 32, 33, 34, 35, 36, 37, 38, 39, 40, 41, 42] (by decide +kernel) (by decide +kernel)
set_option maxRecDepth 20000 in
theorem gX6_word_X6_isRow : GoodIn wsX6_word (wsV RX6 90 RX6 yX6_isRow wsX6_isRow) := goodIn_app (goodIn_of _ (by decide +kernel)) ggX6_word_X6_isRow
set_option maxRecDepth 20000 in
theorem ggX6_word_X6_within : GoodIn wsX6_word wsX6_within := goodIn_r _ [12] (by decide +kernel) (by decide +kernel)
set_option maxRecDepth 20000 in
theorem gX6_word_X6_within : GoodIn wsX6_word (va_wsS RX6 79 yX6_within wsX6_within) := goodIn_app (goodIn_of _ (by decide +kernel)) ggX6_word_X6_within
set_option maxRecDepth 20000 in
theorem ggX6_word_X6_forget : GoodIn wsX6_word wsX6_forget := goodIn_r _ [16, 17, 18, 19, 20, 21, 22, 23, 24, 25, 26, 27, 28, 29, 30, 31, 32, 33, 34, 35, 36, 37, 38, 39, 40, 41, 42] (by decide +kernel) (by decide +kernel)
set_option maxRecDepth 20000 in
theorem gX6_word_X6_forget : GoodIn wsX6_word (wsV RX6 87 RX6 yX6_forget wsX6_forget) := goodIn_app (goodIn_of _ (by decide +kernel)) ggX6_word_X6_forget
theorem dX6_word_0 : decode cX6_word 0 = .ok (.aload_n 0, 1) := by decide +kernel
theorem dX6_word_1 : decode cX6_word 1 = .ok (.iconst 0, 1) := by decide +kernel
theorem dX6_word_2 : decode cX6_word 2 = .ok (.putfield 69, 3) := by decide +kernel
theorem dX6_word_5 : decode cX6_word 5 = .ok (.aload_n 0, 1) := by decide +kernel
theorem dX6_word_6 : decode cX6_word 6 = .ok (.iload_n 1, 1) := by decide +kernel
theorem dX6_word_7 : decode cX6_word 7 = .ok (.invokevirtual 90, 3) := by decide +kernel
theorem dX6_word_10 : decode cX6_word 10 = .ok (.ifCond .eq 13, 3) := by decide +kernel
theorem dX6_word_13 : decode cX6_word 13 = .ok (.iload_n 2, 1) := by decide +kernel
theorem dX6_word_14 : decode cX6_word 14 = .ok (.iconst 0, 1) := by decide +kernel
theorem dX6_word_15 : decode cX6_word 15 = .ok (.bipush 7, 2) := by decide +kernel
theorem dX6_word_17 : decode cX6_word 17 = .ok (.invokestatic 79, 3) := by decide +kernel
theorem dX6_word_20 : decode cX6_word 20 = .ok (.ifCond .ne 6, 3) := by decide +kernel
theorem dX6_word_23 : decode cX6_word 23 = .ok (.bipush (-2), 2) := by decide +kernel
theorem dX6_word_25 : decode cX6_word 25 = .ok (.ireturn, 1) := by decide +kernel
theorem dX6_word_26 : decode cX6_word 26 = .ok (.aload_n 0, 1) := by decide +kernel
theorem dX6_word_27 : decode cX6_word 27 = .ok (.getfield 19, 3) := by decide +kernel
theorem dX6_word_30 : decode cX6_word 30 = .ok (.iload_n 1, 1) := by decide +kernel
theorem dX6_word_31 : decode cX6_word 31 = .ok (.iaload, 1) := by decide +kernel
theorem dX6_word_32 : decode cX6_word 32 = .ok (.bipush 6, 2) := by decide +kernel
theorem dX6_word_34 : decode cX6_word 34 = .ok (.if_icmp .ne 6, 3) := by decide +kernel
theorem dX6_word_37 : decode cX6_word 37 = .ok (.bipush (-3), 2) := by decide +kernel
theorem dX6_word_39 : decode cX6_word 39 = .ok (.ireturn, 1) := by decide +kernel
theorem dX6_word_40 : decode cX6_word 40 = .ok (.aload_n 0, 1) := by decide +kernel
theorem dX6_word_41 : decode cX6_word 41 = .ok (.getfield 22, 3) := by decide +kernel
theorem dX6_word_44 : decode cX6_word 44 = .ok (.bipush 6, 2) := by decide +kernel
theorem dX6_word_46 : decode cX6_word 46 = .ok (.iload_n 1, 1) := by decide +kernel
theorem dX6_word_47 : decode cX6_word 47 = .ok (.imul, 1) := by decide +kernel
theorem dX6_word_48 : decode cX6_word 48 = .ok (.aload_n 0, 1) := by decide +kernel
theorem dX6_word_49 : decode cX6_word 49 = .ok (.getfield 19, 3) := by decide +kernel
theorem dX6_word_52 : decode cX6_word 52 = .ok (.iload_n 1, 1) := by decide +kernel
theorem dX6_word_53 : decode cX6_word 53 = .ok (.iaload, 1) := by decide +kernel
theorem dX6_word_54 : decode cX6_word 54 = .ok (.iadd, 1) := by decide +kernel
theorem dX6_word_55 : decode cX6_word 55 = .ok (.iload_n 2, 1) := by decide +kernel
theorem dX6_word_56 : decode cX6_word 56 = .ok (.iastore, 1) := by decide +kernel
theorem dX6_word_57 : decode cX6_word 57 = .ok (.aload_n 0, 1) := by decide +kernel
theorem dX6_word_58 : decode cX6_word 58 = .ok (.getfield 19, 3) := by decide +kernel
theorem dX6_word_61 : decode cX6_word 61 = .ok (.iload_n 1, 1) := by decide +kernel
theorem dX6_word_62 : decode cX6_word 62 = .ok (.dup2, 1) := by decide +kernel
theorem dX6_word_63 : decode cX6_word 63 = .ok (.iaload, 1) := by decide +kernel
theorem dX6_word_64 : decode cX6_word 64 = .ok (.iconst 1, 1) := by decide +kernel
theorem dX6_word_65 : decode cX6_word 65 = .ok (.iadd, 1) := by decide +kernel
theorem dX6_word_66 : decode cX6_word 66 = .ok (.iastore, 1) := by decide +kernel
theorem dX6_word_67 : decode cX6_word 67 = .ok (.aload_n 0, 1) := by decide +kernel
theorem dX6_word_68 : decode cX6_word 68 = .ok (.invokevirtual 87, 3) := by decide +kernel
theorem dX6_word_71 : decode cX6_word 71 = .ok (.aload_n 0, 1) := by decide +kernel
theorem dX6_word_72 : decode cX6_word 72 = .ok (.getfield 19, 3) := by decide +kernel
theorem dX6_word_75 : decode cX6_word 75 = .ok (.iload_n 1, 1) := by decide +kernel
theorem dX6_word_76 : decode cX6_word 76 = .ok (.iaload, 1) := by decide +kernel
theorem dX6_word_77 : decode cX6_word 77 = .ok (.ireturn, 1) := by decide +kernel
set_option maxRecDepth 20000 in
theorem ggX6_label_X6_isRow : GoodIn wsX6_label wsX6_isRow := goodIn_r _ [7, 8, 9, 10, 6, 11, 20, 21, 22, 23, 24, 25, 26, 27, 28, 29, 30, 31, 32, 33, 34, 35, 36, 37, 38, 39, 40, 41, 42, 43, 44] (by decide +kernel) (by decide +kernel)
set_option maxRecDepth 20000 in
theorem gX6_label_X6_isRow : GoodIn wsX6_label (wsV RX6 90 RX6 yX6_isRow wsX6_isRow) := goodIn_app (goodIn_of _ (by decide +kernel)) ggX6_label_X6_isRow
set_option maxRecDepth 20000 in
theorem ggX6_label_X6_mayBe : GoodIn wsX6_label wsX6_mayBe := goodIn_r _ [14, 9, 10, 6, 11] (by decide +kernel) (by decide +kernel)
set_option maxRecDepth 20000 in
theorem gX6_label_X6_mayBe : GoodIn wsX6_label (va_wsS RX6 83 yX6_mayBe wsX6_mayBe) := goodIn_app (goodIn_of _ (by decide +kernel)) ggX6_label_X6_mayBe
set_option maxRecDepth 20000 in
theorem ggX6_label_X6_forget : GoodIn wsX6_label wsX6_forget := goodIn_r _ [18, 19, 20, 21, 22, 23, 24, 25, 26, 27, 28, 29, 30, 31, 32, 33, 34, 35, 36, 37, 38, 39, 40, 41, 42, 43, 44] (by decide +kernel) (by decide +kernel)
set_option maxRecDepth 20000 in
theorem gX6_label_X6_forget : GoodIn wsX6_label (wsV RX6 87 RX6 yX6_forget wsX6_forget) := goodIn_app (goodIn_of _ (by decide +kernel)) ggX6_label_X6_forget
theorem dX6_label_0 : decode cX6_label 0 = .ok (.aload_n 0, 1) := by decide +kernel
theorem dX6_label_1 : decode cX6_label 1 = .ok (.iconst 0, 1) := by decide +kernel
theorem dX6_label_2 : decode cX6_label 2 = .ok (.putfield 69, 3) := by decide +kernel
theorem dX6_label_5 : decode cX6_label 5 = .ok (.aload_n 0, 1) := by decide +kernel
theorem dX6_label_6 : decode cX6_label 6 = .ok (.iload_n 1, 1) := by decide +kernel
theorem dX6_label_7 : decode cX6_label 7 = .ok (.invokevirtual 90, 3) := by decide +kernel
theorem dX6_label_10 : decode cX6_label 10 = .ok (.ifCond .eq 10, 3) := by decide +kernel
theorem dX6_label_13 : decode cX6_label 13 = .ok (.iload_n 2, 1) := by decide +kernel
theorem dX6_label_14 : decode cX6_label 14 = .ok (.invokestatic 83, 3) := by decide +kernel
theorem dX6_label_17 : decode cX6_label 17 = .ok (.ifCond .ne 6, 3) := by decide +kernel
theorem dX6_label_20 : decode cX6_label 20 = .ok (.bipush (-2), 2) := by decide +kernel
theorem dX6_label_22 : decode cX6_label 22 = .ok (.ireturn, 1) := by decide +kernel
theorem dX6_label_23 : decode cX6_label 23 = .ok (.aload_n 0, 1) := by decide +kernel
theorem dX6_label_24 : decode cX6_label 24 = .ok (.getfield 7, 3) := by decide +kernel
theorem dX6_label_27 : decode cX6_label 27 = .ok (.iload_n 1, 1) := by decide +kernel
theorem dX6_label_28 : decode cX6_label 28 = .ok (.iaload, 1) := by decide +kernel
theorem dX6_label_29 : decode cX6_label 29 = .ok (.istore_n 3, 1) := by decide +kernel
theorem dX6_label_30 : decode cX6_label 30 = .ok (.aload_n 0, 1) := by decide +kernel
theorem dX6_label_31 : decode cX6_label 31 = .ok (.getfield 7, 3) := by decide +kernel
theorem dX6_label_34 : decode cX6_label 34 = .ok (.iload_n 1, 1) := by decide +kernel
theorem dX6_label_35 : decode cX6_label 35 = .ok (.iload_n 2, 1) := by decide +kernel
theorem dX6_label_36 : decode cX6_label 36 = .ok (.iastore, 1) := by decide +kernel
theorem dX6_label_37 : decode cX6_label 37 = .ok (.aload_n 0, 1) := by decide +kernel
theorem dX6_label_38 : decode cX6_label 38 = .ok (.invokevirtual 87, 3) := by decide +kernel
theorem dX6_label_41 : decode cX6_label 41 = .ok (.iload_n 3, 1) := by decide +kernel
theorem dX6_label_42 : decode cX6_label 42 = .ok (.ireturn, 1) := by decide +kernel
set_option maxRecDepth 20000 in
theorem ggX6_addition_X6_within : GoodIn wsX6_addition wsX6_within := goodIn_r _ [7] (by decide +kernel) (by decide +kernel)
set_option maxRecDepth 20000 in
theorem gX6_addition_X6_within : GoodIn wsX6_addition (va_wsS RX6 79 yX6_within wsX6_within) := goodIn_app (goodIn_of _ (by decide +kernel)) ggX6_addition_X6_within
set_option maxRecDepth 20000 in
theorem ggX6_addition_X6_forget : GoodIn wsX6_addition wsX6_forget := goodIn_r _ [11, 12, 13, 14, 15, 16, 17, 18, 19, 20, 21, 22, 23, 24, 25, 26, 27, 28, 29, 30, 31, 32, 33, 34, 35, 36, 37] (by decide +kernel) (by decide +kernel)
set_option maxRecDepth 20000 in
theorem gX6_addition_X6_forget : GoodIn wsX6_addition (wsV RX6 87 RX6 yX6_forget wsX6_forget) := goodIn_app (goodIn_of _ (by decide +kernel)) ggX6_addition_X6_forget
theorem dX6_addition_0 : decode cX6_addition 0 = .ok (.aload_n 0, 1) := by decide +kernel
theorem dX6_addition_1 : decode cX6_addition 1 = .ok (.iconst 0, 1) := by decide +kernel
theorem dX6_addition_2 : decode cX6_addition 2 = .ok (.putfield 69, 3) := by decide +kernel
theorem dX6_addition_5 : decode cX6_addition 5 = .ok (.iload_n 1, 1) := by decide +kernel
theorem dX6_addition_6 : decode cX6_addition 6 = .ok (.iconst 0, 1) := by decide +kernel
theorem dX6_addition_7 : decode cX6_addition 7 = .ok (.iconst 3, 1) := by decide +kernel
theorem dX6_addition_8 : decode cX6_addition 8 = .ok (.invokestatic 79, 3) := by decide +kernel
theorem dX6_addition_11 : decode cX6_addition 11 = .ok (.ifCond .eq 12, 3) := by decide +kernel
theorem dX6_addition_14 : decode cX6_addition 14 = .ok (.iload_n 2, 1) := by decide +kernel
theorem dX6_addition_15 : decode cX6_addition 15 = .ok (.iconst 1, 1) := by decide +kernel
theorem dX6_addition_16 : decode cX6_addition 16 = .ok (.iconst 3, 1) := by decide +kernel
theorem dX6_addition_17 : decode cX6_addition 17 = .ok (.invokestatic 79, 3) := by decide +kernel
theorem dX6_addition_20 : decode cX6_addition 20 = .ok (.ifCond .ne 6, 3) := by decide +kernel
theorem dX6_addition_23 : decode cX6_addition 23 = .ok (.bipush (-2), 2) := by decide +kernel
theorem dX6_addition_25 : decode cX6_addition 25 = .ok (.ireturn, 1) := by decide +kernel
theorem dX6_addition_26 : decode cX6_addition 26 = .ok (.aload_n 0, 1) := by decide +kernel
theorem dX6_addition_27 : decode cX6_addition 27 = .ok (.iload_n 1, 1) := by decide +kernel
theorem dX6_addition_28 : decode cX6_addition 28 = .ok (.putfield 25, 3) := by decide +kernel
theorem dX6_addition_31 : decode cX6_addition 31 = .ok (.aload_n 0, 1) := by decide +kernel
theorem dX6_addition_32 : decode cX6_addition 32 = .ok (.iload_n 2, 1) := by decide +kernel
theorem dX6_addition_33 : decode cX6_addition 33 = .ok (.putfield 29, 3) := by decide +kernel
theorem dX6_addition_36 : decode cX6_addition 36 = .ok (.aload_n 0, 1) := by decide +kernel
theorem dX6_addition_37 : decode cX6_addition 37 = .ok (.invokevirtual 87, 3) := by decide +kernel
theorem dX6_addition_40 : decode cX6_addition 40 = .ok (.iconst 1, 1) := by decide +kernel
theorem dX6_addition_41 : decode cX6_addition 41 = .ok (.ireturn, 1) := by decide +kernel
theorem dX6_asLabel_0 : decode cX6_asLabel 0 = .ok (.aload_n 0, 1) := by decide +kernel
theorem dX6_asLabel_1 : decode cX6_asLabel 1 = .ok (.getfield 7, 3) := by decide +kernel
theorem dX6_asLabel_4 : decode cX6_asLabel 4 = .ok (.iload_n 1, 1) := by decide +kernel
theorem dX6_asLabel_5 : decode cX6_asLabel 5 = .ok (.iaload, 1) := by decide +kernel
theorem dX6_asLabel_6 : decode cX6_asLabel 6 = .ok (.ifCond .lt 12, 3) := by decide +kernel
theorem dX6_asLabel_9 : decode cX6_asLabel 9 = .ok (.aload_n 0, 1) := by decide +kernel
theorem dX6_asLabel_10 : decode cX6_asLabel 10 = .ok (.getfield 7, 3) := by decide +kernel
theorem dX6_asLabel_13 : decode cX6_asLabel 13 = .ok (.iload_n 1, 1) := by decide +kernel
theorem dX6_asLabel_14 : decode cX6_asLabel 14 = .ok (.iaload, 1) := by decide +kernel
theorem dX6_asLabel_15 : decode cX6_asLabel 15 = .ok (.goto 9, 3) := by decide +kernel
theorem dX6_asLabel_18 : decode cX6_asLabel 18 = .ok (.aload_n 0, 1) := by decide +kernel
theorem dX6_asLabel_19 : decode cX6_asLabel 19 = .ok (.getfield 13, 3) := by decide +kernel
theorem dX6_asLabel_22 : decode cX6_asLabel 22 = .ok (.iload_n 1, 1) := by decide +kernel
theorem dX6_asLabel_23 : decode cX6_asLabel 23 = .ok (.iaload, 1) := by decide +kernel
theorem dX6_asLabel_24 : decode cX6_asLabel 24 = .ok (.ireturn, 1) := by decide +kernel
set_option maxRecDepth 20000 in
theorem ggX6_rowsOf_X6_asLabel : GoodIn wsX6_rowsOf wsX6_asLabel := goodIn_r _ [6, 7, 8, 9, 10, 11, 12, 13, 14, 15, 16, 17, 18, 19, 20, 21, 22, 23, 24, 25, 26, 27, 28, 29, 30, 31, 32, 33] (by decide +kernel) (by decide +kernel)
set_option maxRecDepth 20000 in
theorem gX6_rowsOf_X6_asLabel : GoodIn wsX6_rowsOf (wsV RX6 93 RX6 yX6_asLabel wsX6_asLabel) := goodIn_app (goodIn_of _ (by decide +kernel)) ggX6_rowsOf_X6_asLabel
theorem dX6_rowsOf_0 : decode cX6_rowsOf 0 = .ok (.iconst 0, 1) := by decide +kernel
theorem dX6_rowsOf_1 : decode cX6_rowsOf 1 = .ok (.istore_n 2, 1) := by decide +kernel
theorem dX6_rowsOf_2 : decode cX6_rowsOf 2 = .ok (.iconst 0, 1) := by decide +kernel
theorem dX6_rowsOf_3 : decode cX6_rowsOf 3 = .ok (.istore_n 3, 1) := by decide +kernel
theorem dX6_rowsOf_4 : decode cX6_rowsOf 4 = .ok (.iload_n 3, 1) := by decide +kernel
theorem dX6_rowsOf_5 : decode cX6_rowsOf 5 = .ok (.aload_n 0, 1) := by decide +kernel
theorem dX6_rowsOf_6 : decode cX6_rowsOf 6 = .ok (.getfield 76, 3) := by decide +kernel
theorem dX6_rowsOf_9 : decode cX6_rowsOf 9 = .ok (.if_icmp .ge 26, 3) := by decide +kernel
theorem dX6_rowsOf_12 : decode cX6_rowsOf 12 = .ok (.iload_n 2, 1) := by decide +kernel
theorem dX6_rowsOf_13 : decode cX6_rowsOf 13 = .ok (.aload_n 0, 1) := by decide +kernel
theorem dX6_rowsOf_14 : decode cX6_rowsOf 14 = .ok (.iload_n 3, 1) := by decide +kernel
theorem dX6_rowsOf_15 : decode cX6_rowsOf 15 = .ok (.invokevirtual 93, 3) := by decide +kernel
theorem dX6_rowsOf_18 : decode cX6_rowsOf 18 = .ok (.iload_n 1, 1) := by decide +kernel
theorem dX6_rowsOf_19 : decode cX6_rowsOf 19 = .ok (.if_icmp .ne 7, 3) := by decide +kernel
theorem dX6_rowsOf_22 : decode cX6_rowsOf 22 = .ok (.iconst 1, 1) := by decide +kernel
theorem dX6_rowsOf_23 : decode cX6_rowsOf 23 = .ok (.goto 4, 3) := by decide +kernel
theorem dX6_rowsOf_26 : decode cX6_rowsOf 26 = .ok (.iconst 0, 1) := by decide +kernel
theorem dX6_rowsOf_27 : decode cX6_rowsOf 27 = .ok (.iadd, 1) := by decide +kernel
theorem dX6_rowsOf_28 : decode cX6_rowsOf 28 = .ok (.istore_n 2, 1) := by decide +kernel
theorem dX6_rowsOf_29 : decode cX6_rowsOf 29 = .ok (.iinc 3 1, 3) := by decide +kernel
theorem dX6_rowsOf_32 : decode cX6_rowsOf 32 = .ok (.goto (-28), 3) := by decide +kernel
theorem dX6_rowsOf_35 : decode cX6_rowsOf 35 = .ok (.iload_n 2, 1) := by decide +kernel
theorem dX6_rowsOf_36 : decode cX6_rowsOf 36 = .ok (.ireturn, 1) := by decide +kernel
set_option maxRecDepth 20000 in
theorem ggX6_timesOf_X6_asLabel : GoodIn wsX6_timesOf wsX6_asLabel := goodIn_r _ [8, 9, 10, 11, 12, 13, 14, 15, 16, 17, 18, 19, 20, 21, 22, 23, 24, 25, 26, 27, 28, 29, 30, 31, 32, 33, 34, 35] (by decide +kernel) (by decide +kernel)
set_option maxRecDepth 20000 in
theorem gX6_timesOf_X6_asLabel : GoodIn wsX6_timesOf (wsV RX6 93 RX6 yX6_asLabel wsX6_asLabel) := goodIn_app (goodIn_of _ (by decide +kernel)) ggX6_timesOf_X6_asLabel
theorem dX6_timesOf_0 : decode cX6_timesOf 0 = .ok (.iconst 0, 1) := by decide +kernel
theorem dX6_timesOf_1 : decode cX6_timesOf 1 = .ok (.istore_n 3, 1) := by decide +kernel
theorem dX6_timesOf_2 : decode cX6_timesOf 2 = .ok (.iconst 0, 1) := by decide +kernel
theorem dX6_timesOf_3 : decode cX6_timesOf 3 = .ok (.istore 4, 2) := by decide +kernel
theorem dX6_timesOf_5 : decode cX6_timesOf 5 = .ok (.iload 4, 2) := by decide +kernel
theorem dX6_timesOf_7 : decode cX6_timesOf 7 = .ok (.aload_n 0, 1) := by decide +kernel
theorem dX6_timesOf_8 : decode cX6_timesOf 8 = .ok (.getfield 76, 3) := by decide +kernel
theorem dX6_timesOf_11 : decode cX6_timesOf 11 = .ok (.if_icmp .ge 70, 3) := by decide +kernel
theorem dX6_timesOf_14 : decode cX6_timesOf 14 = .ok (.iconst 0, 1) := by decide +kernel
theorem dX6_timesOf_15 : decode cX6_timesOf 15 = .ok (.istore 5, 2) := by decide +kernel
theorem dX6_timesOf_17 : decode cX6_timesOf 17 = .ok (.iload 5, 2) := by decide +kernel
theorem dX6_timesOf_19 : decode cX6_timesOf 19 = .ok (.aload_n 0, 1) := by decide +kernel
theorem dX6_timesOf_20 : decode cX6_timesOf 20 = .ok (.getfield 19, 3) := by decide +kernel
theorem dX6_timesOf_23 : decode cX6_timesOf 23 = .ok (.iload 4, 2) := by decide +kernel
theorem dX6_timesOf_25 : decode cX6_timesOf 25 = .ok (.iaload, 1) := by decide +kernel
theorem dX6_timesOf_26 : decode cX6_timesOf 26 = .ok (.if_icmp .ge 49, 3) := by decide +kernel
theorem dX6_timesOf_29 : decode cX6_timesOf 29 = .ok (.aload_n 0, 1) := by decide +kernel
theorem dX6_timesOf_30 : decode cX6_timesOf 30 = .ok (.iload 4, 2) := by decide +kernel
theorem dX6_timesOf_32 : decode cX6_timesOf 32 = .ok (.invokevirtual 93, 3) := by decide +kernel
theorem dX6_timesOf_35 : decode cX6_timesOf 35 = .ok (.iload_n 1, 1) := by decide +kernel
theorem dX6_timesOf_36 : decode cX6_timesOf 36 = .ok (.if_icmp .ne 39, 3) := by decide +kernel
theorem dX6_timesOf_39 : decode cX6_timesOf 39 = .ok (.iload_n 3, 1) := by decide +kernel
theorem dX6_timesOf_40 : decode cX6_timesOf 40 = .ok (.iload_n 2, 1) := by decide +kernel
theorem dX6_timesOf_41 : decode cX6_timesOf 41 = .ok (.iconst (-1), 1) := by decide +kernel
theorem dX6_timesOf_42 : decode cX6_timesOf 42 = .ok (.if_icmp .eq 20, 3) := by decide +kernel
theorem dX6_timesOf_45 : decode cX6_timesOf 45 = .ok (.aload_n 0, 1) := by decide +kernel
theorem dX6_timesOf_46 : decode cX6_timesOf 46 = .ok (.getfield 22, 3) := by decide +kernel
theorem dX6_timesOf_49 : decode cX6_timesOf 49 = .ok (.bipush 6, 2) := by decide +kernel
theorem dX6_timesOf_51 : decode cX6_timesOf 51 = .ok (.iload 4, 2) := by decide +kernel
theorem dX6_timesOf_53 : decode cX6_timesOf 53 = .ok (.imul, 1) := by decide +kernel
theorem dX6_timesOf_54 : decode cX6_timesOf 54 = .ok (.iload 5, 2) := by decide +kernel
theorem dX6_timesOf_56 : decode cX6_timesOf 56 = .ok (.iadd, 1) := by decide +kernel
theorem dX6_timesOf_57 : decode cX6_timesOf 57 = .ok (.iaload, 1) := by decide +kernel
theorem dX6_timesOf_58 : decode cX6_timesOf 58 = .ok (.iload_n 2, 1) := by decide +kernel
theorem dX6_timesOf_59 : decode cX6_timesOf 59 = .ok (.if_icmp .ne 7, 3) := by decide +kernel
theorem dX6_timesOf_62 : decode cX6_timesOf 62 = .ok (.iconst 1, 1) := by decide +kernel
theorem dX6_timesOf_63 : decode cX6_timesOf 63 = .ok (.goto 4, 3) := by decide +kernel
theorem dX6_timesOf_66 : decode cX6_timesOf 66 = .ok (.iconst 0, 1) := by decide +kernel
theorem dX6_timesOf_67 : decode cX6_timesOf 67 = .ok (.iadd, 1) := by decide +kernel
theorem dX6_timesOf_68 : decode cX6_timesOf 68 = .ok (.istore_n 3, 1) := by decide +kernel
theorem dX6_timesOf_69 : decode cX6_timesOf 69 = .ok (.iinc 5 1, 3) := by decide +kernel
theorem dX6_timesOf_72 : decode cX6_timesOf 72 = .ok (.goto (-55), 3) := by decide +kernel
theorem dX6_timesOf_75 : decode cX6_timesOf 75 = .ok (.iinc 4 1, 3) := by decide +kernel
theorem dX6_timesOf_78 : decode cX6_timesOf 78 = .ok (.goto (-73), 3) := by decide +kernel
theorem dX6_timesOf_81 : decode cX6_timesOf 81 = .ok (.iload_n 3, 1) := by decide +kernel
theorem dX6_timesOf_82 : decode cX6_timesOf 82 = .ok (.ireturn, 1) := by decide +kernel
set_option maxRecDepth 20000 in
theorem ggX6_counted_X6_within : GoodIn wsX6_counted wsX6_within := goodIn_r _ [5] (by decide +kernel) (by decide +kernel)
set_option maxRecDepth 20000 in
theorem gX6_counted_X6_within : GoodIn wsX6_counted (va_wsS RX6 79 yX6_within wsX6_within) := goodIn_app (goodIn_of _ (by decide +kernel)) ggX6_counted_X6_within
set_option maxRecDepth 20000 in
theorem ggX6_counted_X6_rowsOf : GoodIn wsX6_counted wsX6_rowsOf := goodIn_r _ [9, 10, 11, 12, 13, 4, 14, 15, 16, 23, 24, 25, 26, 27, 28, 29, 30, 31, 32, 33, 34, 35, 36, 37, 38, 39, 40, 41, 42, 43, 44, 45, 46, 47] (by decide +kernel) (by decide +kernel)
set_option maxRecDepth 20000 in
theorem gX6_counted_X6_rowsOf : GoodIn wsX6_counted (wsV RX6 97 RX6 yX6_rowsOf wsX6_rowsOf) := goodIn_app (goodIn_of _ (by decide +kernel)) ggX6_counted_X6_rowsOf
set_option maxRecDepth 20000 in
theorem ggX6_counted_X6_timesOf : GoodIn wsX6_counted wsX6_timesOf := goodIn_r _ [20, 10, 21, 22, 11, 12, 13, 4, 14, 15, 16, 23, 24, 25, 26, 27, 28, 29, 30, 31, 32, 33, 34, 35, 36, 37, 38, 39, 40, 41, 42, 43, 44, 45, 46, 47] (by decide +kernel) (by decide +kernel)
set_option maxRecDepth 20000 in
theorem gX6_counted_X6_timesOf : GoodIn wsX6_counted (wsV RX6 100 RX6 yX6_timesOf wsX6_timesOf) := goodIn_app (goodIn_of _ (by decide +kernel)) ggX6_counted_X6_timesOf
theorem dX6_counted_0 : decode cX6_counted 0 = .ok (.aload_n 0, 1) := by decide +kernel
theorem dX6_counted_1 : decode cX6_counted 1 = .ok (.iconst 0, 1) := by decide +kernel
theorem dX6_counted_2 : decode cX6_counted 2 = .ok (.putfield 69, 3) := by decide +kernel
theorem dX6_counted_5 : decode cX6_counted 5 = .ok (.iload_n 1, 1) := by decide +kernel
theorem dX6_counted_6 : decode cX6_counted 6 = .ok (.iconst 0, 1) := by decide +kernel
theorem dX6_counted_7 : decode cX6_counted 7 = .ok (.iconst 3, 1) := by decide +kernel
theorem dX6_counted_8 : decode cX6_counted 8 = .ok (.invokestatic 79, 3) := by decide +kernel
theorem dX6_counted_11 : decode cX6_counted 11 = .ok (.ifCond .eq 13, 3) := by decide +kernel
theorem dX6_counted_14 : decode cX6_counted 14 = .ok (.iload_n 2, 1) := by decide +kernel
theorem dX6_counted_15 : decode cX6_counted 15 = .ok (.iconst 0, 1) := by decide +kernel
theorem dX6_counted_16 : decode cX6_counted 16 = .ok (.bipush 9, 2) := by decide +kernel
theorem dX6_counted_18 : decode cX6_counted 18 = .ok (.invokestatic 79, 3) := by decide +kernel
theorem dX6_counted_21 : decode cX6_counted 21 = .ok (.ifCond .ne 6, 3) := by decide +kernel
theorem dX6_counted_24 : decode cX6_counted 24 = .ok (.bipush (-2), 2) := by decide +kernel
theorem dX6_counted_26 : decode cX6_counted 26 = .ok (.ireturn, 1) := by decide +kernel
theorem dX6_counted_27 : decode cX6_counted 27 = .ok (.iload_n 2, 1) := by decide +kernel
theorem dX6_counted_28 : decode cX6_counted 28 = .ok (.bipush 9, 2) := by decide +kernel
theorem dX6_counted_30 : decode cX6_counted 30 = .ok (.if_icmp .ne 11, 3) := by decide +kernel
theorem dX6_counted_33 : decode cX6_counted 33 = .ok (.aload_n 0, 1) := by decide +kernel
theorem dX6_counted_34 : decode cX6_counted 34 = .ok (.iload_n 1, 1) := by decide +kernel
theorem dX6_counted_35 : decode cX6_counted 35 = .ok (.invokevirtual 97, 3) := by decide +kernel
theorem dX6_counted_38 : decode cX6_counted 38 = .ok (.goto 19, 3) := by decide +kernel
theorem dX6_counted_41 : decode cX6_counted 41 = .ok (.aload_n 0, 1) := by decide +kernel
theorem dX6_counted_42 : decode cX6_counted 42 = .ok (.iload_n 1, 1) := by decide +kernel
theorem dX6_counted_43 : decode cX6_counted 43 = .ok (.iload_n 2, 1) := by decide +kernel
theorem dX6_counted_44 : decode cX6_counted 44 = .ok (.bipush 8, 2) := by decide +kernel
theorem dX6_counted_46 : decode cX6_counted 46 = .ok (.if_icmp .ne 7, 3) := by decide +kernel
theorem dX6_counted_49 : decode cX6_counted 49 = .ok (.iconst (-1), 1) := by decide +kernel
theorem dX6_counted_50 : decode cX6_counted 50 = .ok (.goto 4, 3) := by decide +kernel
theorem dX6_counted_53 : decode cX6_counted 53 = .ok (.iload_n 2, 1) := by decide +kernel
theorem dX6_counted_54 : decode cX6_counted 54 = .ok (.invokevirtual 100, 3) := by decide +kernel
theorem dX6_counted_57 : decode cX6_counted 57 = .ok (.ireturn, 1) := by decide +kernel
set_option maxRecDepth 20000 in
theorem ggX6_shareAbove_X6_timesOf : GoodIn wsX6_shareAbove wsX6_timesOf := goodIn_r _ [7, 8, 9, 10, 11, 12, 13, 6, 14, 15, 16, 17, 18, 19, 20, 21, 22, 23, 24, 25, 26, 27, 28, 29, 30, 31, 32, 33, 34, 35, 36, 37, 38, 39, 40, 41] (by decide +kernel) (by decide +kernel)
set_option maxRecDepth 20000 in
theorem gX6_shareAbove_X6_timesOf : GoodIn wsX6_shareAbove (wsV RX6 100 RX6 yX6_timesOf wsX6_timesOf) := goodIn_app (goodIn_of _ (by decide +kernel)) ggX6_shareAbove_X6_timesOf
theorem dX6_shareAbove_0 : decode cX6_shareAbove 0 = .ok (.aload_n 0, 1) := by decide +kernel
theorem dX6_shareAbove_1 : decode cX6_shareAbove 1 = .ok (.iload_n 1, 1) := by decide +kernel
theorem dX6_shareAbove_2 : decode cX6_shareAbove 2 = .ok (.iload_n 2, 1) := by decide +kernel
theorem dX6_shareAbove_3 : decode cX6_shareAbove 3 = .ok (.invokevirtual 100, 3) := by decide +kernel
theorem dX6_shareAbove_6 : decode cX6_shareAbove 6 = .ok (.i2l, 1) := by decide +kernel
theorem dX6_shareAbove_7 : decode cX6_shareAbove 7 = .ok (.aload_n 0, 1) := by decide +kernel
theorem dX6_shareAbove_8 : decode cX6_shareAbove 8 = .ok (.getfield 29, 3) := by decide +kernel
theorem dX6_shareAbove_11 : decode cX6_shareAbove 11 = .ok (.i2l, 1) := by decide +kernel
theorem dX6_shareAbove_12 : decode cX6_shareAbove 12 = .ok (.lmul, 1) := by decide +kernel
theorem dX6_shareAbove_13 : decode cX6_shareAbove 13 = .ok (.aload_n 0, 1) := by decide +kernel
theorem dX6_shareAbove_14 : decode cX6_shareAbove 14 = .ok (.getfield 25, 3) := by decide +kernel
theorem dX6_shareAbove_17 : decode cX6_shareAbove 17 = .ok (.i2l, 1) := by decide +kernel
theorem dX6_shareAbove_18 : decode cX6_shareAbove 18 = .ok (.ladd, 1) := by decide +kernel
theorem dX6_shareAbove_19 : decode cX6_shareAbove 19 = .ok (.lreturn, 1) := by decide +kernel
set_option maxRecDepth 20000 in
theorem ggX6_shareBelow_X6_timesOf : GoodIn wsX6_shareBelow wsX6_timesOf := goodIn_r _ [8, 9, 10, 11, 12, 13, 14, 7, 15, 16, 17, 18, 19, 20, 21, 22, 23, 24, 25, 26, 27, 28, 29, 30, 31, 32, 33, 34, 35, 36, 37, 38, 39, 40, 41, 42] (by decide +kernel) (by decide +kernel)
set_option maxRecDepth 20000 in
theorem gX6_shareBelow_X6_timesOf : GoodIn wsX6_shareBelow (wsV RX6 100 RX6 yX6_timesOf wsX6_timesOf) := goodIn_app (goodIn_of _ (by decide +kernel)) ggX6_shareBelow_X6_timesOf
theorem dX6_shareBelow_0 : decode cX6_shareBelow 0 = .ok (.aload_n 0, 1) := by decide +kernel
theorem dX6_shareBelow_1 : decode cX6_shareBelow 1 = .ok (.iload_n 1, 1) := by decide +kernel
theorem dX6_shareBelow_2 : decode cX6_shareBelow 2 = .ok (.iconst (-1), 1) := by decide +kernel
theorem dX6_shareBelow_3 : decode cX6_shareBelow 3 = .ok (.invokevirtual 100, 3) := by decide +kernel
theorem dX6_shareBelow_6 : decode cX6_shareBelow 6 = .ok (.i2l, 1) := by decide +kernel
theorem dX6_shareBelow_7 : decode cX6_shareBelow 7 = .ok (.aload_n 0, 1) := by decide +kernel
theorem dX6_shareBelow_8 : decode cX6_shareBelow 8 = .ok (.getfield 29, 3) := by decide +kernel
theorem dX6_shareBelow_11 : decode cX6_shareBelow 11 = .ok (.i2l, 1) := by decide +kernel
theorem dX6_shareBelow_12 : decode cX6_shareBelow 12 = .ok (.lmul, 1) := by decide +kernel
theorem dX6_shareBelow_13 : decode cX6_shareBelow 13 = .ok (.ldc2_w 104, 3) := by decide +kernel
theorem dX6_shareBelow_16 : decode cX6_shareBelow 16 = .ok (.aload_n 0, 1) := by decide +kernel
theorem dX6_shareBelow_17 : decode cX6_shareBelow 17 = .ok (.getfield 25, 3) := by decide +kernel
theorem dX6_shareBelow_20 : decode cX6_shareBelow 20 = .ok (.i2l, 1) := by decide +kernel
theorem dX6_shareBelow_21 : decode cX6_shareBelow 21 = .ok (.lmul, 1) := by decide +kernel
theorem dX6_shareBelow_22 : decode cX6_shareBelow 22 = .ok (.ladd, 1) := by decide +kernel
theorem dX6_shareBelow_23 : decode cX6_shareBelow 23 = .ok (.lreturn, 1) := by decide +kernel
set_option maxRecDepth 20000 in
theorem ggX6_share_X6_within : GoodIn wsX6_share wsX6_within := goodIn_r _ [6] (by decide +kernel) (by decide +kernel)
set_option maxRecDepth 20000 in
theorem gX6_share_X6_within : GoodIn wsX6_share (va_wsS RX6 79 yX6_within wsX6_within) := goodIn_app (goodIn_of _ (by decide +kernel)) ggX6_share_X6_within
set_option maxRecDepth 20000 in
theorem ggX6_share_X6_shareBelow : GoodIn wsX6_share wsX6_shareBelow := goodIn_r _ [10, 11, 12, 13, 14, 15, 16, 5, 17, 18, 19, 20, 21, 22, 23, 24, 25, 26, 37, 38, 39, 40, 41, 42, 43, 44, 45, 46, 47, 48, 49, 50, 51, 52, 53, 54, 55, 56, 57, 58, 59, 60, 61] (by decide +kernel) (by decide +kernel)
set_option maxRecDepth 20000 in
theorem gX6_share_X6_shareBelow : GoodIn wsX6_share (wsV RX6 108 RX6 yX6_shareBelow wsX6_shareBelow) := goodIn_app (goodIn_of _ (by decide +kernel)) ggX6_share_X6_shareBelow
set_option maxRecDepth 20000 in
theorem ggX6_share_X6_shareAbove : GoodIn wsX6_share wsX6_shareAbove := goodIn_r _ [30, 11, 13, 14, 15, 16, 5, 17, 18, 19, 20, 21, 22, 23, 24, 25, 26, 37, 38, 39, 40, 41, 42, 43, 44, 45, 46, 47, 48, 49, 50, 51, 52, 53, 54, 55, 56, 57, 58, 59, 60, 61] (by decide +kernel) (by decide +kernel)
set_option maxRecDepth 20000 in
theorem gX6_share_X6_shareAbove : GoodIn wsX6_share (wsV RX6 112 RX6 yX6_shareAbove wsX6_shareAbove) := goodIn_app (goodIn_of _ (by decide +kernel)) ggX6_share_X6_shareAbove
set_option maxRecDepth 20000 in
theorem ggX6_share_X6_side : GoodIn wsX6_share wsX6_side := goodIn_r _ [33, 34, 35, 5, 36] (by decide +kernel) (by decide +kernel)
set_option maxRecDepth 20000 in
theorem gX6_share_X6_side : GoodIn wsX6_share (va_wsS RX6 116 yX6_side wsX6_side) := goodIn_app (goodIn_of _ (by decide +kernel)) ggX6_share_X6_side
theorem dX6_share_0 : decode cX6_share 0 = .ok (.aload_n 0, 1) := by decide +kernel
theorem dX6_share_1 : decode cX6_share 1 = .ok (.iconst 0, 1) := by decide +kernel
theorem dX6_share_2 : decode cX6_share 2 = .ok (.putfield 69, 3) := by decide +kernel
theorem dX6_share_5 : decode cX6_share 5 = .ok (.iload_n 1, 1) := by decide +kernel
theorem dX6_share_6 : decode cX6_share 6 = .ok (.iconst 0, 1) := by decide +kernel
theorem dX6_share_7 : decode cX6_share 7 = .ok (.iconst 3, 1) := by decide +kernel
theorem dX6_share_8 : decode cX6_share 8 = .ok (.invokestatic 79, 3) := by decide +kernel
theorem dX6_share_11 : decode cX6_share 11 = .ok (.ifCond .eq 22, 3) := by decide +kernel
theorem dX6_share_14 : decode cX6_share 14 = .ok (.iload_n 2, 1) := by decide +kernel
theorem dX6_share_15 : decode cX6_share 15 = .ok (.iconst 0, 1) := by decide +kernel
theorem dX6_share_16 : decode cX6_share 16 = .ok (.bipush 7, 2) := by decide +kernel
theorem dX6_share_18 : decode cX6_share 18 = .ok (.invokestatic 79, 3) := by decide +kernel
theorem dX6_share_21 : decode cX6_share 21 = .ok (.ifCond .eq 12, 3) := by decide +kernel
theorem dX6_share_24 : decode cX6_share 24 = .ok (.iload_n 3, 1) := by decide +kernel
theorem dX6_share_25 : decode cX6_share 25 = .ok (.iconst 0, 1) := by decide +kernel
theorem dX6_share_26 : decode cX6_share 26 = .ok (.iconst 1, 1) := by decide +kernel
theorem dX6_share_27 : decode cX6_share 27 = .ok (.invokestatic 79, 3) := by decide +kernel
theorem dX6_share_30 : decode cX6_share 30 = .ok (.ifCond .ne 7, 3) := by decide +kernel
theorem dX6_share_33 : decode cX6_share 33 = .ok (.ldc2_w 106, 3) := by decide +kernel
theorem dX6_share_36 : decode cX6_share 36 = .ok (.lreturn, 1) := by decide +kernel
theorem dX6_share_37 : decode cX6_share 37 = .ok (.aload_n 0, 1) := by decide +kernel
theorem dX6_share_38 : decode cX6_share 38 = .ok (.iload_n 1, 1) := by decide +kernel
theorem dX6_share_39 : decode cX6_share 39 = .ok (.invokevirtual 108, 3) := by decide +kernel
theorem dX6_share_42 : decode cX6_share 42 = .ok (.lconst 0, 1) := by decide +kernel
theorem dX6_share_43 : decode cX6_share 43 = .ok (.lcmp, 1) := by decide +kernel
theorem dX6_share_44 : decode cX6_share 44 = .ok (.ifCond .ne 10, 3) := by decide +kernel
theorem dX6_share_47 : decode cX6_share 47 = .ok (.aload_n 0, 1) := by decide +kernel
theorem dX6_share_48 : decode cX6_share 48 = .ok (.iconst 1, 1) := by decide +kernel
theorem dX6_share_49 : decode cX6_share 49 = .ok (.putfield 69, 3) := by decide +kernel
theorem dX6_share_52 : decode cX6_share 52 = .ok (.lconst 0, 1) := by decide +kernel
theorem dX6_share_53 : decode cX6_share 53 = .ok (.lreturn, 1) := by decide +kernel
theorem dX6_share_54 : decode cX6_share 54 = .ok (.aload_n 0, 1) := by decide +kernel
theorem dX6_share_55 : decode cX6_share 55 = .ok (.iload_n 1, 1) := by decide +kernel
theorem dX6_share_56 : decode cX6_share 56 = .ok (.iload_n 2, 1) := by decide +kernel
theorem dX6_share_57 : decode cX6_share 57 = .ok (.invokevirtual 112, 3) := by decide +kernel
theorem dX6_share_60 : decode cX6_share 60 = .ok (.aload_n 0, 1) := by decide +kernel
theorem dX6_share_61 : decode cX6_share 61 = .ok (.iload_n 1, 1) := by decide +kernel
theorem dX6_share_62 : decode cX6_share 62 = .ok (.invokevirtual 108, 3) := by decide +kernel
theorem dX6_share_65 : decode cX6_share 65 = .ok (.iload_n 3, 1) := by decide +kernel
theorem dX6_share_66 : decode cX6_share 66 = .ok (.invokestatic 116, 3) := by decide +kernel
theorem dX6_share_69 : decode cX6_share 69 = .ok (.lreturn, 1) := by decide +kernel
set_option maxRecDepth 20000 in
theorem ggX6_weighRow_X6_rowsOf : GoodIn wsX6_weighRow wsX6_rowsOf := goodIn_r _ [9, 10, 11, 12, 13, 8, 14, 15, 16, 32, 33, 34, 35, 36, 37, 38, 39, 40, 41, 42, 43, 44, 45, 46, 47, 48, 49, 50, 51, 52, 53, 54, 55, 56] (by decide +kernel) (by decide +kernel)
set_option maxRecDepth 20000 in
theorem gX6_weighRow_X6_rowsOf : GoodIn wsX6_weighRow (wsV RX6 97 RX6 yX6_rowsOf wsX6_rowsOf) := goodIn_app (goodIn_of _ (by decide +kernel)) ggX6_weighRow_X6_rowsOf
set_option maxRecDepth 20000 in
theorem ggX6_weighRow_X6_shareBelow : GoodIn wsX6_weighRow wsX6_shareBelow := goodIn_r _ [20, 21, 22, 23, 24, 25, 26, 8, 27, 10, 3, 4, 11, 12, 13, 14, 15, 16, 32, 33, 34, 35, 36, 37, 38, 39, 40, 41, 42, 43, 44, 45, 46, 47, 48, 49, 50, 51, 52, 53, 54, 55, 56] (by decide +kernel) (by decide +kernel)
set_option maxRecDepth 20000 in
theorem gX6_weighRow_X6_shareBelow : GoodIn wsX6_weighRow (wsV RX6 108 RX6 yX6_shareBelow wsX6_shareBelow) := goodIn_app (goodIn_of _ (by decide +kernel)) ggX6_weighRow_X6_shareBelow
set_option maxRecDepth 20000 in
theorem ggX6_weighRow_X6_shareAbove : GoodIn wsX6_weighRow wsX6_shareAbove := goodIn_r _ [31, 21, 23, 24, 25, 26, 8, 27, 10, 3, 4, 11, 12, 13, 14, 15, 16, 32, 33, 34, 35, 36, 37, 38, 39, 40, 41, 42, 43, 44, 45, 46, 47, 48, 49, 50, 51, 52, 53, 54, 55, 56] (by decide +kernel) (by decide +kernel)
set_option maxRecDepth 20000 in
theorem gX6_weighRow_X6_shareAbove : GoodIn wsX6_weighRow (wsV RX6 112 RX6 yX6_shareAbove wsX6_shareAbove) := goodIn_app (goodIn_of _ (by decide +kernel)) ggX6_weighRow_X6_shareAbove
theorem dX6_weighRow_0 : decode cX6_weighRow 0 = .ok (.aload_n 0, 1) := by decide +kernel
theorem dX6_weighRow_1 : decode cX6_weighRow 1 = .ok (.aload_n 0, 1) := by decide +kernel
theorem dX6_weighRow_2 : decode cX6_weighRow 2 = .ok (.iload_n 2, 1) := by decide +kernel
theorem dX6_weighRow_3 : decode cX6_weighRow 3 = .ok (.invokevirtual 97, 3) := by decide +kernel
theorem dX6_weighRow_6 : decode cX6_weighRow 6 = .ok (.i2l, 1) := by decide +kernel
theorem dX6_weighRow_7 : decode cX6_weighRow 7 = .ok (.putfield 120, 3) := by decide +kernel
theorem dX6_weighRow_10 : decode cX6_weighRow 10 = .ok (.aload_n 0, 1) := by decide +kernel
theorem dX6_weighRow_11 : decode cX6_weighRow 11 = .ok (.lconst 1, 1) := by decide +kernel
theorem dX6_weighRow_12 : decode cX6_weighRow 12 = .ok (.putfield 124, 3) := by decide +kernel
theorem dX6_weighRow_15 : decode cX6_weighRow 15 = .ok (.aload_n 0, 1) := by decide +kernel
theorem dX6_weighRow_16 : decode cX6_weighRow 16 = .ok (.iload_n 2, 1) := by decide +kernel
theorem dX6_weighRow_17 : decode cX6_weighRow 17 = .ok (.invokevirtual 108, 3) := by decide +kernel
theorem dX6_weighRow_20 : decode cX6_weighRow 20 = .ok (.lstore_n 3, 1) := by decide +kernel
theorem dX6_weighRow_21 : decode cX6_weighRow 21 = .ok (.iconst 0, 1) := by decide +kernel
theorem dX6_weighRow_22 : decode cX6_weighRow 22 = .ok (.istore 5, 2) := by decide +kernel
theorem dX6_weighRow_24 : decode cX6_weighRow 24 = .ok (.iload 5, 2) := by decide +kernel
theorem dX6_weighRow_26 : decode cX6_weighRow 26 = .ok (.aload_n 0, 1) := by decide +kernel
theorem dX6_weighRow_27 : decode cX6_weighRow 27 = .ok (.getfield 19, 3) := by decide +kernel
theorem dX6_weighRow_30 : decode cX6_weighRow 30 = .ok (.iload_n 1, 1) := by decide +kernel
theorem dX6_weighRow_31 : decode cX6_weighRow 31 = .ok (.iaload, 1) := by decide +kernel
theorem dX6_weighRow_32 : decode cX6_weighRow 32 = .ok (.if_icmp .ge 65, 3) := by decide +kernel
theorem dX6_weighRow_35 : decode cX6_weighRow 35 = .ok (.aload_n 0, 1) := by decide +kernel
theorem dX6_weighRow_36 : decode cX6_weighRow 36 = .ok (.lload_n 3, 1) := by decide +kernel
theorem dX6_weighRow_37 : decode cX6_weighRow 37 = .ok (.lconst 0, 1) := by decide +kernel
theorem dX6_weighRow_38 : decode cX6_weighRow 38 = .ok (.lcmp, 1) := by decide +kernel
theorem dX6_weighRow_39 : decode cX6_weighRow 39 = .ok (.ifCond .ne 7, 3) := by decide +kernel
theorem dX6_weighRow_42 : decode cX6_weighRow 42 = .ok (.lconst 0, 1) := by decide +kernel
theorem dX6_weighRow_43 : decode cX6_weighRow 43 = .ok (.goto 25, 3) := by decide +kernel
theorem dX6_weighRow_46 : decode cX6_weighRow 46 = .ok (.aload_n 0, 1) := by decide +kernel
theorem dX6_weighRow_47 : decode cX6_weighRow 47 = .ok (.getfield 120, 3) := by decide +kernel
theorem dX6_weighRow_50 : decode cX6_weighRow 50 = .ok (.aload_n 0, 1) := by decide +kernel
theorem dX6_weighRow_51 : decode cX6_weighRow 51 = .ok (.iload_n 2, 1) := by decide +kernel
theorem dX6_weighRow_52 : decode cX6_weighRow 52 = .ok (.aload_n 0, 1) := by decide +kernel
theorem dX6_weighRow_53 : decode cX6_weighRow 53 = .ok (.getfield 22, 3) := by decide +kernel
theorem dX6_weighRow_56 : decode cX6_weighRow 56 = .ok (.bipush 6, 2) := by decide +kernel
theorem dX6_weighRow_58 : decode cX6_weighRow 58 = .ok (.iload_n 1, 1) := by decide +kernel
theorem dX6_weighRow_59 : decode cX6_weighRow 59 = .ok (.imul, 1) := by decide +kernel
theorem dX6_weighRow_60 : decode cX6_weighRow 60 = .ok (.iload 5, 2) := by decide +kernel
theorem dX6_weighRow_62 : decode cX6_weighRow 62 = .ok (.iadd, 1) := by decide +kernel
theorem dX6_weighRow_63 : decode cX6_weighRow 63 = .ok (.iaload, 1) := by decide +kernel
theorem dX6_weighRow_64 : decode cX6_weighRow 64 = .ok (.invokevirtual 112, 3) := by decide +kernel
theorem dX6_weighRow_67 : decode cX6_weighRow 67 = .ok (.lmul, 1) := by decide +kernel
theorem dX6_weighRow_68 : decode cX6_weighRow 68 = .ok (.putfield 120, 3) := by decide +kernel
theorem dX6_weighRow_71 : decode cX6_weighRow 71 = .ok (.aload_n 0, 1) := by decide +kernel
theorem dX6_weighRow_72 : decode cX6_weighRow 72 = .ok (.lload_n 3, 1) := by decide +kernel
theorem dX6_weighRow_73 : decode cX6_weighRow 73 = .ok (.lconst 0, 1) := by decide +kernel
theorem dX6_weighRow_74 : decode cX6_weighRow 74 = .ok (.lcmp, 1) := by decide +kernel
theorem dX6_weighRow_75 : decode cX6_weighRow 75 = .ok (.ifCond .ne 7, 3) := by decide +kernel
theorem dX6_weighRow_78 : decode cX6_weighRow 78 = .ok (.lconst 1, 1) := by decide +kernel
theorem dX6_weighRow_79 : decode cX6_weighRow 79 = .ok (.goto 9, 3) := by decide +kernel
theorem dX6_weighRow_82 : decode cX6_weighRow 82 = .ok (.aload_n 0, 1) := by decide +kernel
theorem dX6_weighRow_83 : decode cX6_weighRow 83 = .ok (.getfield 124, 3) := by decide +kernel
theorem dX6_weighRow_86 : decode cX6_weighRow 86 = .ok (.lload_n 3, 1) := by decide +kernel
theorem dX6_weighRow_87 : decode cX6_weighRow 87 = .ok (.lmul, 1) := by decide +kernel
theorem dX6_weighRow_88 : decode cX6_weighRow 88 = .ok (.putfield 124, 3) := by decide +kernel
theorem dX6_weighRow_91 : decode cX6_weighRow 91 = .ok (.iinc 5 1, 3) := by decide +kernel
theorem dX6_weighRow_94 : decode cX6_weighRow 94 = .ok (.goto (-70), 3) := by decide +kernel
theorem dX6_weighRow_97 : decode cX6_weighRow 97 = .ok (.return_, 1) := by decide +kernel
set_option maxRecDepth 20000 in
theorem ggX6_weight_X6_isRow : GoodIn wsX6_weight wsX6_isRow := goodIn_r _ [9, 10, 11, 12, 8, 13, 51, 52, 53, 54, 55, 56, 57, 58, 59, 60, 61, 62, 63, 64, 65, 66, 67, 68, 69, 70, 71, 72, 73, 74, 75] (by decide +kernel) (by decide +kernel)
set_option maxRecDepth 20000 in
theorem gX6_weight_X6_isRow : GoodIn wsX6_weight (wsV RX6 90 RX6 yX6_isRow wsX6_isRow) := goodIn_app (goodIn_of _ (by decide +kernel)) ggX6_weight_X6_isRow
set_option maxRecDepth 20000 in
theorem ggX6_weight_X6_within : GoodIn wsX6_weight wsX6_within := goodIn_r _ [13] (by decide +kernel) (by decide +kernel)
set_option maxRecDepth 20000 in
theorem gX6_weight_X6_within : GoodIn wsX6_weight (va_wsS RX6 79 yX6_within wsX6_within) := goodIn_app (goodIn_of _ (by decide +kernel)) ggX6_weight_X6_within
set_option maxRecDepth 20000 in
theorem ggX6_weight_X6_weighRow : GoodIn wsX6_weight wsX6_weighRow := goodIn_r _ [17, 3, 4, 18, 19, 20, 21, 22, 8, 23, 10, 24, 25, 26, 27, 28, 29, 30, 31, 32, 33, 34, 35, 36, 37, 38, 39, 40, 41, 42, 43, 44, 51, 52, 53, 54, 55, 56, 57, 58, 59, 60, 61, 62, 63, 64, 65, 66, 67, 68, 69, 70, 71, 72, 73, 74, 75] (by decide +kernel) (by decide +kernel)
set_option maxRecDepth 20000 in
theorem gX6_weight_X6_weighRow : GoodIn wsX6_weight (wsV RX6 127 RX6 yX6_weighRow wsX6_weighRow) := goodIn_app (goodIn_of _ (by decide +kernel)) ggX6_weight_X6_weighRow
set_option maxRecDepth 20000 in
theorem ggX6_weight_X6_side : GoodIn wsX6_weight wsX6_side := goodIn_r _ [47, 48, 49, 8, 50] (by decide +kernel) (by decide +kernel)
set_option maxRecDepth 20000 in
theorem gX6_weight_X6_side : GoodIn wsX6_weight (va_wsS RX6 116 yX6_side wsX6_side) := goodIn_app (goodIn_of _ (by decide +kernel)) ggX6_weight_X6_side
theorem dX6_weight_0 : decode cX6_weight 0 = .ok (.aload_n 0, 1) := by decide +kernel
theorem dX6_weight_1 : decode cX6_weight 1 = .ok (.iconst 0, 1) := by decide +kernel
theorem dX6_weight_2 : decode cX6_weight 2 = .ok (.putfield 69, 3) := by decide +kernel
theorem dX6_weight_5 : decode cX6_weight 5 = .ok (.aload_n 0, 1) := by decide +kernel
theorem dX6_weight_6 : decode cX6_weight 6 = .ok (.iload_n 1, 1) := by decide +kernel
theorem dX6_weight_7 : decode cX6_weight 7 = .ok (.invokevirtual 90, 3) := by decide +kernel
theorem dX6_weight_10 : decode cX6_weight 10 = .ok (.ifCond .eq 21, 3) := by decide +kernel
theorem dX6_weight_13 : decode cX6_weight 13 = .ok (.iload_n 2, 1) := by decide +kernel
theorem dX6_weight_14 : decode cX6_weight 14 = .ok (.iconst 0, 1) := by decide +kernel
theorem dX6_weight_15 : decode cX6_weight 15 = .ok (.iconst 3, 1) := by decide +kernel
theorem dX6_weight_16 : decode cX6_weight 16 = .ok (.invokestatic 79, 3) := by decide +kernel
theorem dX6_weight_19 : decode cX6_weight 19 = .ok (.ifCond .eq 12, 3) := by decide +kernel
theorem dX6_weight_22 : decode cX6_weight 22 = .ok (.iload_n 3, 1) := by decide +kernel
theorem dX6_weight_23 : decode cX6_weight 23 = .ok (.iconst 0, 1) := by decide +kernel
theorem dX6_weight_24 : decode cX6_weight 24 = .ok (.iconst 1, 1) := by decide +kernel
theorem dX6_weight_25 : decode cX6_weight 25 = .ok (.invokestatic 79, 3) := by decide +kernel
theorem dX6_weight_28 : decode cX6_weight 28 = .ok (.ifCond .ne 7, 3) := by decide +kernel
theorem dX6_weight_31 : decode cX6_weight 31 = .ok (.ldc2_w 106, 3) := by decide +kernel
theorem dX6_weight_34 : decode cX6_weight 34 = .ok (.lreturn, 1) := by decide +kernel
theorem dX6_weight_35 : decode cX6_weight 35 = .ok (.aload_n 0, 1) := by decide +kernel
theorem dX6_weight_36 : decode cX6_weight 36 = .ok (.iload_n 1, 1) := by decide +kernel
theorem dX6_weight_37 : decode cX6_weight 37 = .ok (.iload_n 2, 1) := by decide +kernel
theorem dX6_weight_38 : decode cX6_weight 38 = .ok (.invokevirtual 127, 3) := by decide +kernel
theorem dX6_weight_41 : decode cX6_weight 41 = .ok (.aload_n 0, 1) := by decide +kernel
theorem dX6_weight_42 : decode cX6_weight 42 = .ok (.getfield 120, 3) := by decide +kernel
theorem dX6_weight_45 : decode cX6_weight 45 = .ok (.aload_n 0, 1) := by decide +kernel
theorem dX6_weight_46 : decode cX6_weight 46 = .ok (.getfield 124, 3) := by decide +kernel
theorem dX6_weight_49 : decode cX6_weight 49 = .ok (.iload_n 3, 1) := by decide +kernel
theorem dX6_weight_50 : decode cX6_weight 50 = .ok (.invokestatic 116, 3) := by decide +kernel
theorem dX6_weight_53 : decode cX6_weight 53 = .ok (.lreturn, 1) := by decide +kernel
set_option maxRecDepth 20000 in
theorem ggX6_bestOf_X6_weighRow : GoodIn wsX6_bestOf wsX6_weighRow := goodIn_r _ [7, 1, 2, 8, 9, 10, 11, 12, 6, 13, 14, 15, 16, 17, 18, 19, 20, 21, 22, 23, 24, 25, 26, 27, 28, 29, 30, 31, 32, 33, 34, 35, 39, 40, 41, 42, 43, 44, 45, 46, 47, 48, 49, 50, 51, 52, 53, 54, 55, 56, 57, 58, 59, 60, 61, 62, 63] (by decide +kernel) (by decide +kernel)
set_option maxRecDepth 20000 in
theorem gX6_bestOf_X6_weighRow : GoodIn wsX6_bestOf (wsV RX6 127 RX6 yX6_weighRow wsX6_weighRow) := goodIn_app (goodIn_of _ (by decide +kernel)) ggX6_bestOf_X6_weighRow
set_option maxRecDepth 20000 in
theorem ggX6_bestOf_X6_isAbove : GoodIn wsX6_bestOf wsX6_isAbove := goodIn_r _ [38] (by decide +kernel) (by decide +kernel)
set_option maxRecDepth 20000 in
theorem gX6_bestOf_X6_isAbove : GoodIn wsX6_bestOf (va_wsS RX6 131 yX6_isAbove wsX6_isAbove) := goodIn_app (goodIn_of _ (by decide +kernel)) ggX6_bestOf_X6_isAbove
theorem dX6_bestOf_0 : decode cX6_bestOf 0 = .ok (.iconst (-1), 1) := by decide +kernel
theorem dX6_bestOf_1 : decode cX6_bestOf 1 = .ok (.istore_n 2, 1) := by decide +kernel
theorem dX6_bestOf_2 : decode cX6_bestOf 2 = .ok (.lconst 0, 1) := by decide +kernel
theorem dX6_bestOf_3 : decode cX6_bestOf 3 = .ok (.lstore_n 3, 1) := by decide +kernel
theorem dX6_bestOf_4 : decode cX6_bestOf 4 = .ok (.lconst 1, 1) := by decide +kernel
theorem dX6_bestOf_5 : decode cX6_bestOf 5 = .ok (.lstore 5, 2) := by decide +kernel
theorem dX6_bestOf_7 : decode cX6_bestOf 7 = .ok (.iconst 0, 1) := by decide +kernel
theorem dX6_bestOf_8 : decode cX6_bestOf 8 = .ok (.istore 7, 2) := by decide +kernel
theorem dX6_bestOf_10 : decode cX6_bestOf 10 = .ok (.iload 7, 2) := by decide +kernel
theorem dX6_bestOf_12 : decode cX6_bestOf 12 = .ok (.iconst 4, 1) := by decide +kernel
theorem dX6_bestOf_13 : decode cX6_bestOf 13 = .ok (.if_icmp .ge 47, 3) := by decide +kernel
theorem dX6_bestOf_16 : decode cX6_bestOf 16 = .ok (.aload_n 0, 1) := by decide +kernel
theorem dX6_bestOf_17 : decode cX6_bestOf 17 = .ok (.iload_n 1, 1) := by decide +kernel
theorem dX6_bestOf_18 : decode cX6_bestOf 18 = .ok (.iload 7, 2) := by decide +kernel
theorem dX6_bestOf_20 : decode cX6_bestOf 20 = .ok (.invokevirtual 127, 3) := by decide +kernel
theorem dX6_bestOf_23 : decode cX6_bestOf 23 = .ok (.aload_n 0, 1) := by decide +kernel
theorem dX6_bestOf_24 : decode cX6_bestOf 24 = .ok (.getfield 120, 3) := by decide +kernel
theorem dX6_bestOf_27 : decode cX6_bestOf 27 = .ok (.aload_n 0, 1) := by decide +kernel
theorem dX6_bestOf_28 : decode cX6_bestOf 28 = .ok (.getfield 124, 3) := by decide +kernel
theorem dX6_bestOf_31 : decode cX6_bestOf 31 = .ok (.lload_n 3, 1) := by decide +kernel
theorem dX6_bestOf_32 : decode cX6_bestOf 32 = .ok (.lload 5, 2) := by decide +kernel
theorem dX6_bestOf_34 : decode cX6_bestOf 34 = .ok (.invokestatic 131, 3) := by decide +kernel
theorem dX6_bestOf_37 : decode cX6_bestOf 37 = .ok (.ifCond .eq 17, 3) := by decide +kernel
theorem dX6_bestOf_40 : decode cX6_bestOf 40 = .ok (.iload 7, 2) := by decide +kernel
theorem dX6_bestOf_42 : decode cX6_bestOf 42 = .ok (.istore_n 2, 1) := by decide +kernel
theorem dX6_bestOf_43 : decode cX6_bestOf 43 = .ok (.aload_n 0, 1) := by decide +kernel
theorem dX6_bestOf_44 : decode cX6_bestOf 44 = .ok (.getfield 120, 3) := by decide +kernel
theorem dX6_bestOf_47 : decode cX6_bestOf 47 = .ok (.lstore_n 3, 1) := by decide +kernel
theorem dX6_bestOf_48 : decode cX6_bestOf 48 = .ok (.aload_n 0, 1) := by decide +kernel
theorem dX6_bestOf_49 : decode cX6_bestOf 49 = .ok (.getfield 124, 3) := by decide +kernel
theorem dX6_bestOf_52 : decode cX6_bestOf 52 = .ok (.lstore 5, 2) := by decide +kernel
theorem dX6_bestOf_54 : decode cX6_bestOf 54 = .ok (.iinc 7 1, 3) := by decide +kernel
theorem dX6_bestOf_57 : decode cX6_bestOf 57 = .ok (.goto (-47), 3) := by decide +kernel
theorem dX6_bestOf_60 : decode cX6_bestOf 60 = .ok (.iload_n 2, 1) := by decide +kernel
theorem dX6_bestOf_61 : decode cX6_bestOf 61 = .ok (.ireturn, 1) := by decide +kernel
set_option maxRecDepth 20000 in
theorem ggX6_best_X6_isRow : GoodIn wsX6_best wsX6_isRow := goodIn_r _ [6, 7, 8, 9, 5, 10, 51, 52, 53, 54, 55, 56, 57, 58, 59, 60, 61, 62, 63, 64, 65, 66, 67, 68, 69, 70, 71, 72, 73, 74, 75] (by decide +kernel) (by decide +kernel)
set_option maxRecDepth 20000 in
theorem gX6_best_X6_isRow : GoodIn wsX6_best (wsV RX6 90 RX6 yX6_isRow wsX6_isRow) := goodIn_app (goodIn_of _ (by decide +kernel)) ggX6_best_X6_isRow
set_option maxRecDepth 20000 in
theorem ggX6_best_X6_bestOf : GoodIn wsX6_best wsX6_bestOf := goodIn_r _ [14, 15, 16, 17, 18, 19, 5, 20, 21, 22, 23, 24, 25, 26, 7, 27, 28, 29, 30, 31, 32, 33, 34, 35, 36, 37, 38, 39, 40, 41, 42, 43, 44, 45, 46, 47, 48, 49, 50, 51, 52, 53, 54, 55, 56, 57, 58, 59, 60, 61, 62, 63, 64, 65, 66, 67, 68, 69, 70, 71, 72, 73, 74, 75] (by decide +kernel) (by decide +kernel)
set_option maxRecDepth 20000 in
theorem gX6_best_X6_bestOf : GoodIn wsX6_best (wsV RX6 135 RX6 yX6_bestOf wsX6_bestOf) := goodIn_app (goodIn_of _ (by decide +kernel)) ggX6_best_X6_bestOf
theorem dX6_best_0 : decode cX6_best 0 = .ok (.aload_n 0, 1) := by decide +kernel
theorem dX6_best_1 : decode cX6_best 1 = .ok (.iconst 0, 1) := by decide +kernel
theorem dX6_best_2 : decode cX6_best 2 = .ok (.putfield 69, 3) := by decide +kernel
theorem dX6_best_5 : decode cX6_best 5 = .ok (.aload_n 0, 1) := by decide +kernel
theorem dX6_best_6 : decode cX6_best 6 = .ok (.iload_n 1, 1) := by decide +kernel
theorem dX6_best_7 : decode cX6_best 7 = .ok (.invokevirtual 90, 3) := by decide +kernel
theorem dX6_best_10 : decode cX6_best 10 = .ok (.ifCond .eq 11, 3) := by decide +kernel
theorem dX6_best_13 : decode cX6_best 13 = .ok (.aload_n 0, 1) := by decide +kernel
theorem dX6_best_14 : decode cX6_best 14 = .ok (.iload_n 1, 1) := by decide +kernel
theorem dX6_best_15 : decode cX6_best 15 = .ok (.invokevirtual 135, 3) := by decide +kernel
theorem dX6_best_18 : decode cX6_best 18 = .ok (.goto 5, 3) := by decide +kernel
theorem dX6_best_21 : decode cX6_best 21 = .ok (.bipush (-2), 2) := by decide +kernel
theorem dX6_best_23 : decode cX6_best 23 = .ok (.ireturn, 1) := by decide +kernel
set_option maxRecDepth 20000 in
theorem ggX6_round_X6_bestOf : GoodIn wsX6_round wsX6_bestOf := goodIn_r _ [9, 10, 11, 12, 13, 14, 8, 15, 16, 17, 18, 19, 20, 21, 1, 22, 23, 24, 25, 3, 4, 26, 27, 28, 29, 30, 31, 32, 33, 34, 35, 36, 37, 38, 39, 40, 41, 42, 43, 44, 45, 46, 47, 48, 49, 50, 51, 52, 53, 54, 55, 56, 57, 58, 59, 60, 61, 62, 63, 64, 65, 66, 67, 68] (by decide +kernel) (by decide +kernel)
set_option maxRecDepth 20000 in
theorem gX6_round_X6_bestOf : GoodIn wsX6_round (wsV RX6 135 RX6 yX6_bestOf wsX6_bestOf) := goodIn_app (goodIn_of _ (by decide +kernel)) ggX6_round_X6_bestOf
theorem dX6_round_0 : decode cX6_round 0 = .ok (.iconst 0, 1) := by decide +kernel
theorem dX6_round_1 : decode cX6_round 1 = .ok (.istore_n 1, 1) := by decide +kernel
theorem dX6_round_2 : decode cX6_round 2 = .ok (.iload_n 1, 1) := by decide +kernel
theorem dX6_round_3 : decode cX6_round 3 = .ok (.aload_n 0, 1) := by decide +kernel
theorem dX6_round_4 : decode cX6_round 4 = .ok (.getfield 76, 3) := by decide +kernel
theorem dX6_round_7 : decode cX6_round 7 = .ok (.if_icmp .ge 33, 3) := by decide +kernel
theorem dX6_round_10 : decode cX6_round 10 = .ok (.aload_n 0, 1) := by decide +kernel
theorem dX6_round_11 : decode cX6_round 11 = .ok (.getfield 16, 3) := by decide +kernel
theorem dX6_round_14 : decode cX6_round 14 = .ok (.iload_n 1, 1) := by decide +kernel
theorem dX6_round_15 : decode cX6_round 15 = .ok (.aload_n 0, 1) := by decide +kernel
theorem dX6_round_16 : decode cX6_round 16 = .ok (.getfield 7, 3) := by decide +kernel
theorem dX6_round_19 : decode cX6_round 19 = .ok (.iload_n 1, 1) := by decide +kernel
theorem dX6_round_20 : decode cX6_round 20 = .ok (.iaload, 1) := by decide +kernel
theorem dX6_round_21 : decode cX6_round 21 = .ok (.ifCond .lt 7, 3) := by decide +kernel
theorem dX6_round_24 : decode cX6_round 24 = .ok (.iconst (-1), 1) := by decide +kernel
theorem dX6_round_25 : decode cX6_round 25 = .ok (.goto 8, 3) := by decide +kernel
theorem dX6_round_28 : decode cX6_round 28 = .ok (.aload_n 0, 1) := by decide +kernel
theorem dX6_round_29 : decode cX6_round 29 = .ok (.iload_n 1, 1) := by decide +kernel
theorem dX6_round_30 : decode cX6_round 30 = .ok (.invokevirtual 135, 3) := by decide +kernel
theorem dX6_round_33 : decode cX6_round 33 = .ok (.iastore, 1) := by decide +kernel
theorem dX6_round_34 : decode cX6_round 34 = .ok (.iinc 1 1, 3) := by decide +kernel
theorem dX6_round_37 : decode cX6_round 37 = .ok (.goto (-35), 3) := by decide +kernel
theorem dX6_round_40 : decode cX6_round 40 = .ok (.iconst 0, 1) := by decide +kernel
theorem dX6_round_41 : decode cX6_round 41 = .ok (.istore_n 1, 1) := by decide +kernel
theorem dX6_round_42 : decode cX6_round 42 = .ok (.iconst 0, 1) := by decide +kernel
theorem dX6_round_43 : decode cX6_round 43 = .ok (.istore_n 2, 1) := by decide +kernel
theorem dX6_round_44 : decode cX6_round 44 = .ok (.iload_n 2, 1) := by decide +kernel
theorem dX6_round_45 : decode cX6_round 45 = .ok (.aload_n 0, 1) := by decide +kernel
theorem dX6_round_46 : decode cX6_round 46 = .ok (.getfield 76, 3) := by decide +kernel
theorem dX6_round_49 : decode cX6_round 49 = .ok (.if_icmp .ge 46, 3) := by decide +kernel
theorem dX6_round_52 : decode cX6_round 52 = .ok (.iload_n 1, 1) := by decide +kernel
theorem dX6_round_53 : decode cX6_round 53 = .ok (.ifCond .ne 18, 3) := by decide +kernel
theorem dX6_round_56 : decode cX6_round 56 = .ok (.aload_n 0, 1) := by decide +kernel
theorem dX6_round_57 : decode cX6_round 57 = .ok (.getfield 13, 3) := by decide +kernel
theorem dX6_round_60 : decode cX6_round 60 = .ok (.iload_n 2, 1) := by decide +kernel
theorem dX6_round_61 : decode cX6_round 61 = .ok (.iaload, 1) := by decide +kernel
theorem dX6_round_62 : decode cX6_round 62 = .ok (.aload_n 0, 1) := by decide +kernel
theorem dX6_round_63 : decode cX6_round 63 = .ok (.getfield 16, 3) := by decide +kernel
theorem dX6_round_66 : decode cX6_round 66 = .ok (.iload_n 2, 1) := by decide +kernel
theorem dX6_round_67 : decode cX6_round 67 = .ok (.iaload, 1) := by decide +kernel
theorem dX6_round_68 : decode cX6_round 68 = .ok (.if_icmp .eq 7, 3) := by decide +kernel
theorem dX6_round_71 : decode cX6_round 71 = .ok (.iconst 1, 1) := by decide +kernel
theorem dX6_round_72 : decode cX6_round 72 = .ok (.goto 4, 3) := by decide +kernel
theorem dX6_round_75 : decode cX6_round 75 = .ok (.iconst 0, 1) := by decide +kernel
theorem dX6_round_76 : decode cX6_round 76 = .ok (.istore_n 1, 1) := by decide +kernel
theorem dX6_round_77 : decode cX6_round 77 = .ok (.aload_n 0, 1) := by decide +kernel
theorem dX6_round_78 : decode cX6_round 78 = .ok (.getfield 13, 3) := by decide +kernel
theorem dX6_round_81 : decode cX6_round 81 = .ok (.iload_n 2, 1) := by decide +kernel
theorem dX6_round_82 : decode cX6_round 82 = .ok (.aload_n 0, 1) := by decide +kernel
theorem dX6_round_83 : decode cX6_round 83 = .ok (.getfield 16, 3) := by decide +kernel
theorem dX6_round_86 : decode cX6_round 86 = .ok (.iload_n 2, 1) := by decide +kernel
theorem dX6_round_87 : decode cX6_round 87 = .ok (.iaload, 1) := by decide +kernel
theorem dX6_round_88 : decode cX6_round 88 = .ok (.iastore, 1) := by decide +kernel
theorem dX6_round_89 : decode cX6_round 89 = .ok (.iinc 2 1, 3) := by decide +kernel
theorem dX6_round_92 : decode cX6_round 92 = .ok (.goto (-48), 3) := by decide +kernel
theorem dX6_round_95 : decode cX6_round 95 = .ok (.iload_n 1, 1) := by decide +kernel
theorem dX6_round_96 : decode cX6_round 96 = .ok (.ireturn, 1) := by decide +kernel
set_option maxRecDepth 20000 in
theorem ggX6_rounds_X6_within : GoodIn wsX6_rounds wsX6_within := goodIn_r _ [5] (by decide +kernel) (by decide +kernel)
set_option maxRecDepth 20000 in
theorem gX6_rounds_X6_within : GoodIn wsX6_rounds (va_wsS RX6 79 yX6_within wsX6_within) := goodIn_app (goodIn_of _ (by decide +kernel)) ggX6_rounds_X6_within
set_option maxRecDepth 20000 in
theorem ggX6_rounds_X6_round : GoodIn wsX6_rounds wsX6_round := goodIn_r _ [9, 10, 11, 12, 13, 14, 15, 16, 4, 17, 18, 19, 20, 21, 22, 23, 24, 25, 26, 27, 28, 29, 30, 31, 32, 33, 34, 35, 36, 37, 38, 39, 40, 41, 42, 43, 44, 45, 46, 47, 48, 49, 50, 51, 52, 53, 54, 55, 56, 57, 58, 59, 60, 61, 62, 63, 64, 65, 66, 67, 68, 69, 70, 71, 72, 73, 74, 75, 76] (by decide +kernel) (by decide +kernel)
set_option maxRecDepth 20000 in
theorem gX6_rounds_X6_round : GoodIn wsX6_rounds (wsV RX6 138 RX6 yX6_round wsX6_round) := goodIn_app (goodIn_of _ (by decide +kernel)) ggX6_rounds_X6_round
theorem dX6_rounds_0 : decode cX6_rounds 0 = .ok (.aload_n 0, 1) := by decide +kernel
theorem dX6_rounds_1 : decode cX6_rounds 1 = .ok (.iconst 0, 1) := by decide +kernel
theorem dX6_rounds_2 : decode cX6_rounds 2 = .ok (.putfield 69, 3) := by decide +kernel
theorem dX6_rounds_5 : decode cX6_rounds 5 = .ok (.iload_n 1, 1) := by decide +kernel
theorem dX6_rounds_6 : decode cX6_rounds 6 = .ok (.iconst 1, 1) := by decide +kernel
theorem dX6_rounds_7 : decode cX6_rounds 7 = .ok (.bipush 20, 2) := by decide +kernel
theorem dX6_rounds_9 : decode cX6_rounds 9 = .ok (.invokestatic 79, 3) := by decide +kernel
theorem dX6_rounds_12 : decode cX6_rounds 12 = .ok (.ifCond .ne 6, 3) := by decide +kernel
theorem dX6_rounds_15 : decode cX6_rounds 15 = .ok (.bipush (-2), 2) := by decide +kernel
theorem dX6_rounds_17 : decode cX6_rounds 17 = .ok (.ireturn, 1) := by decide +kernel
theorem dX6_rounds_18 : decode cX6_rounds 18 = .ok (.iconst 1, 1) := by decide +kernel
theorem dX6_rounds_19 : decode cX6_rounds 19 = .ok (.istore_n 2, 1) := by decide +kernel
theorem dX6_rounds_20 : decode cX6_rounds 20 = .ok (.aload_n 0, 1) := by decide +kernel
theorem dX6_rounds_21 : decode cX6_rounds 21 = .ok (.invokevirtual 138, 3) := by decide +kernel
theorem dX6_rounds_24 : decode cX6_rounds 24 = .ok (.ifCond .eq 14, 3) := by decide +kernel
theorem dX6_rounds_27 : decode cX6_rounds 27 = .ok (.iload_n 2, 1) := by decide +kernel
theorem dX6_rounds_28 : decode cX6_rounds 28 = .ok (.iload_n 1, 1) := by decide +kernel
theorem dX6_rounds_29 : decode cX6_rounds 29 = .ok (.if_icmp .ge 9, 3) := by decide +kernel
theorem dX6_rounds_32 : decode cX6_rounds 32 = .ok (.iinc 2 1, 3) := by decide +kernel
theorem dX6_rounds_35 : decode cX6_rounds 35 = .ok (.goto (-15), 3) := by decide +kernel
theorem dX6_rounds_38 : decode cX6_rounds 38 = .ok (.iload_n 2, 1) := by decide +kernel
theorem dX6_rounds_39 : decode cX6_rounds 39 = .ok (.ireturn, 1) := by decide +kernel
set_option maxRecDepth 20000 in
theorem ggX6_guess_X6_isRow : GoodIn wsX6_guess wsX6_isRow := goodIn_r _ [7, 8, 9, 10, 6, 11, 12, 13, 14, 15, 16, 17, 18, 19, 20, 21, 22, 23, 24, 25, 26, 27, 28, 29, 30, 31, 32, 33, 34, 35, 36] (by decide +kernel) (by decide +kernel)
set_option maxRecDepth 20000 in
theorem gX6_guess_X6_isRow : GoodIn wsX6_guess (wsV RX6 90 RX6 yX6_isRow wsX6_isRow) := goodIn_app (goodIn_of _ (by decide +kernel)) ggX6_guess_X6_isRow
theorem dX6_guess_0 : decode cX6_guess 0 = .ok (.aload_n 0, 1) := by decide +kernel
theorem dX6_guess_1 : decode cX6_guess 1 = .ok (.iconst 0, 1) := by decide +kernel
theorem dX6_guess_2 : decode cX6_guess 2 = .ok (.putfield 69, 3) := by decide +kernel
theorem dX6_guess_5 : decode cX6_guess 5 = .ok (.aload_n 0, 1) := by decide +kernel
theorem dX6_guess_6 : decode cX6_guess 6 = .ok (.iload_n 1, 1) := by decide +kernel
theorem dX6_guess_7 : decode cX6_guess 7 = .ok (.invokevirtual 90, 3) := by decide +kernel
theorem dX6_guess_10 : decode cX6_guess 10 = .ok (.ifCond .eq 12, 3) := by decide +kernel
theorem dX6_guess_13 : decode cX6_guess 13 = .ok (.aload_n 0, 1) := by decide +kernel
theorem dX6_guess_14 : decode cX6_guess 14 = .ok (.getfield 13, 3) := by decide +kernel
theorem dX6_guess_17 : decode cX6_guess 17 = .ok (.iload_n 1, 1) := by decide +kernel
theorem dX6_guess_18 : decode cX6_guess 18 = .ok (.iaload, 1) := by decide +kernel
theorem dX6_guess_19 : decode cX6_guess 19 = .ok (.goto 5, 3) := by decide +kernel
theorem dX6_guess_22 : decode cX6_guess 22 = .ok (.bipush (-2), 2) := by decide +kernel
theorem dX6_guess_24 : decode cX6_guess 24 = .ok (.ireturn, 1) := by decide +kernel
set_option maxRecDepth 20000 in
theorem ggX6_text_X6_within : GoodIn wsX6_text wsX6_within := goodIn_r _ [7] (by decide +kernel) (by decide +kernel)
set_option maxRecDepth 20000 in
theorem gX6_text_X6_within : GoodIn wsX6_text (va_wsS RX6 79 yX6_within wsX6_within) := goodIn_app (goodIn_of _ (by decide +kernel)) ggX6_text_X6_within
theorem dX6_text_0 : decode cX6_text 0 = .ok (.aload_n 0, 1) := by decide +kernel
theorem dX6_text_1 : decode cX6_text 1 = .ok (.iconst 0, 1) := by decide +kernel
theorem dX6_text_2 : decode cX6_text 2 = .ok (.putfield 69, 3) := by decide +kernel
theorem dX6_text_5 : decode cX6_text 5 = .ok (.iload_n 1, 1) := by decide +kernel
theorem dX6_text_6 : decode cX6_text 6 = .ok (.iconst 0, 1) := by decide +kernel
theorem dX6_text_7 : decode cX6_text 7 = .ok (.bipush 7, 2) := by decide +kernel
theorem dX6_text_9 : decode cX6_text 9 = .ok (.invokestatic 79, 3) := by decide +kernel
theorem dX6_text_12 : decode cX6_text 12 = .ok (.ifCond .ne 6, 3) := by decide +kernel
theorem dX6_text_15 : decode cX6_text 15 = .ok (.bipush (-2), 2) := by decide +kernel
theorem dX6_text_17 : decode cX6_text 17 = .ok (.ireturn, 1) := by decide +kernel
theorem dX6_text_18 : decode cX6_text 18 = .ok (.aload_n 0, 1) := by decide +kernel
theorem dX6_text_19 : decode cX6_text 19 = .ok (.getfield 142, 3) := by decide +kernel
theorem dX6_text_22 : decode cX6_text 22 = .ok (.bipush 60, 2) := by decide +kernel
theorem dX6_text_24 : decode cX6_text 24 = .ok (.if_icmp .ne 6, 3) := by decide +kernel
theorem dX6_text_27 : decode cX6_text 27 = .ok (.bipush (-3), 2) := by decide +kernel
theorem dX6_text_29 : decode cX6_text 29 = .ok (.ireturn, 1) := by decide +kernel
theorem dX6_text_30 : decode cX6_text 30 = .ok (.aload_n 0, 1) := by decide +kernel
theorem dX6_text_31 : decode cX6_text 31 = .ok (.getfield 32, 3) := by decide +kernel
theorem dX6_text_34 : decode cX6_text 34 = .ok (.aload_n 0, 1) := by decide +kernel
theorem dX6_text_35 : decode cX6_text 35 = .ok (.getfield 142, 3) := by decide +kernel
theorem dX6_text_38 : decode cX6_text 38 = .ok (.iload_n 1, 1) := by decide +kernel
theorem dX6_text_39 : decode cX6_text 39 = .ok (.iastore, 1) := by decide +kernel
theorem dX6_text_40 : decode cX6_text 40 = .ok (.aload_n 0, 1) := by decide +kernel
theorem dX6_text_41 : decode cX6_text 41 = .ok (.dup, 1) := by decide +kernel
theorem dX6_text_42 : decode cX6_text 42 = .ok (.getfield 142, 3) := by decide +kernel
theorem dX6_text_45 : decode cX6_text 45 = .ok (.iconst 1, 1) := by decide +kernel
theorem dX6_text_46 : decode cX6_text 46 = .ok (.iadd, 1) := by decide +kernel
theorem dX6_text_47 : decode cX6_text 47 = .ok (.putfield 142, 3) := by decide +kernel
theorem dX6_text_50 : decode cX6_text 50 = .ok (.aload_n 0, 1) := by decide +kernel
theorem dX6_text_51 : decode cX6_text 51 = .ok (.getfield 142, 3) := by decide +kernel
theorem dX6_text_54 : decode cX6_text 54 = .ok (.ireturn, 1) := by decide +kernel
theorem dX6_count_0 : decode cX6_count 0 = .ok (.iconst 0, 1) := by decide +kernel
theorem dX6_count_1 : decode cX6_count 1 = .ok (.istore_n 3, 1) := by decide +kernel
theorem dX6_count_2 : decode cX6_count 2 = .ok (.iload_n 3, 1) := by decide +kernel
theorem dX6_count_3 : decode cX6_count 3 = .ok (.bipush 8, 2) := by decide +kernel
theorem dX6_count_5 : decode cX6_count 5 = .ok (.if_icmp .ge 16, 3) := by decide +kernel
theorem dX6_count_8 : decode cX6_count 8 = .ok (.aload_n 0, 1) := by decide +kernel
theorem dX6_count_9 : decode cX6_count 9 = .ok (.getfield 35, 3) := by decide +kernel
theorem dX6_count_12 : decode cX6_count 12 = .ok (.iload_n 3, 1) := by decide +kernel
theorem dX6_count_13 : decode cX6_count 13 = .ok (.iconst 0, 1) := by decide +kernel
theorem dX6_count_14 : decode cX6_count 14 = .ok (.iastore, 1) := by decide +kernel
theorem dX6_count_15 : decode cX6_count 15 = .ok (.iinc 3 1, 3) := by decide +kernel
theorem dX6_count_18 : decode cX6_count 18 = .ok (.goto (-16), 3) := by decide +kernel
theorem dX6_count_21 : decode cX6_count 21 = .ok (.iconst 0, 1) := by decide +kernel
theorem dX6_count_22 : decode cX6_count 22 = .ok (.istore_n 3, 1) := by decide +kernel
theorem dX6_count_23 : decode cX6_count 23 = .ok (.iload_n 1, 1) := by decide +kernel
theorem dX6_count_24 : decode cX6_count 24 = .ok (.iconst (-1), 1) := by decide +kernel
theorem dX6_count_25 : decode cX6_count 25 = .ok (.if_icmp .ne 7, 3) := by decide +kernel
theorem dX6_count_28 : decode cX6_count 28 = .ok (.iconst 1, 1) := by decide +kernel
theorem dX6_count_29 : decode cX6_count 29 = .ok (.goto 4, 3) := by decide +kernel
theorem dX6_count_32 : decode cX6_count 32 = .ok (.iconst 2, 1) := by decide +kernel
theorem dX6_count_33 : decode cX6_count 33 = .ok (.istore 4, 2) := by decide +kernel
theorem dX6_count_35 : decode cX6_count 35 = .ok (.iload 4, 2) := by decide +kernel
theorem dX6_count_37 : decode cX6_count 37 = .ok (.aload_n 0, 1) := by decide +kernel
theorem dX6_count_38 : decode cX6_count 38 = .ok (.getfield 142, 3) := by decide +kernel
theorem dX6_count_41 : decode cX6_count 41 = .ok (.if_icmp .ge 59, 3) := by decide +kernel
theorem dX6_count_44 : decode cX6_count 44 = .ok (.aload_n 0, 1) := by decide +kernel
theorem dX6_count_45 : decode cX6_count 45 = .ok (.getfield 32, 3) := by decide +kernel
theorem dX6_count_48 : decode cX6_count 48 = .ok (.iload 4, 2) := by decide +kernel
theorem dX6_count_50 : decode cX6_count 50 = .ok (.iconst 1, 1) := by decide +kernel
theorem dX6_count_51 : decode cX6_count 51 = .ok (.isub, 1) := by decide +kernel
theorem dX6_count_52 : decode cX6_count 52 = .ok (.iaload, 1) := by decide +kernel
theorem dX6_count_53 : decode cX6_count 53 = .ok (.iload_n 2, 1) := by decide +kernel
theorem dX6_count_54 : decode cX6_count 54 = .ok (.if_icmp .ne 40, 3) := by decide +kernel
theorem dX6_count_57 : decode cX6_count 57 = .ok (.iload_n 1, 1) := by decide +kernel
theorem dX6_count_58 : decode cX6_count 58 = .ok (.iconst (-1), 1) := by decide +kernel
theorem dX6_count_59 : decode cX6_count 59 = .ok (.if_icmp .eq 16, 3) := by decide +kernel
theorem dX6_count_62 : decode cX6_count 62 = .ok (.aload_n 0, 1) := by decide +kernel
theorem dX6_count_63 : decode cX6_count 63 = .ok (.getfield 32, 3) := by decide +kernel
theorem dX6_count_66 : decode cX6_count 66 = .ok (.iload 4, 2) := by decide +kernel
theorem dX6_count_68 : decode cX6_count 68 = .ok (.iconst 2, 1) := by decide +kernel
theorem dX6_count_69 : decode cX6_count 69 = .ok (.isub, 1) := by decide +kernel
theorem dX6_count_70 : decode cX6_count 70 = .ok (.iaload, 1) := by decide +kernel
theorem dX6_count_71 : decode cX6_count 71 = .ok (.iload_n 1, 1) := by decide +kernel
theorem dX6_count_72 : decode cX6_count 72 = .ok (.if_icmp .ne 22, 3) := by decide +kernel
theorem dX6_count_75 : decode cX6_count 75 = .ok (.aload_n 0, 1) := by decide +kernel
theorem dX6_count_76 : decode cX6_count 76 = .ok (.getfield 35, 3) := by decide +kernel
theorem dX6_count_79 : decode cX6_count 79 = .ok (.aload_n 0, 1) := by decide +kernel
theorem dX6_count_80 : decode cX6_count 80 = .ok (.getfield 32, 3) := by decide +kernel
theorem dX6_count_83 : decode cX6_count 83 = .ok (.iload 4, 2) := by decide +kernel
theorem dX6_count_85 : decode cX6_count 85 = .ok (.iaload, 1) := by decide +kernel
theorem dX6_count_86 : decode cX6_count 86 = .ok (.dup2, 1) := by decide +kernel
theorem dX6_count_87 : decode cX6_count 87 = .ok (.iaload, 1) := by decide +kernel
theorem dX6_count_88 : decode cX6_count 88 = .ok (.iconst 1, 1) := by decide +kernel
theorem dX6_count_89 : decode cX6_count 89 = .ok (.iadd, 1) := by decide +kernel
theorem dX6_count_90 : decode cX6_count 90 = .ok (.iastore, 1) := by decide +kernel
theorem dX6_count_91 : decode cX6_count 91 = .ok (.iinc 3 1, 3) := by decide +kernel
theorem dX6_count_94 : decode cX6_count 94 = .ok (.iinc 4 1, 3) := by decide +kernel
theorem dX6_count_97 : decode cX6_count 97 = .ok (.goto (-62), 3) := by decide +kernel
theorem dX6_count_100 : decode cX6_count 100 = .ok (.iload_n 3, 1) := by decide +kernel
theorem dX6_count_101 : decode cX6_count 101 = .ok (.ireturn, 1) := by decide +kernel
theorem dX6_first_0 : decode cX6_first 0 = .ok (.iconst 0, 1) := by decide +kernel
theorem dX6_first_1 : decode cX6_first 1 = .ok (.istore_n 1, 1) := by decide +kernel
theorem dX6_first_2 : decode cX6_first 2 = .ok (.iload_n 1, 1) := by decide +kernel
theorem dX6_first_3 : decode cX6_first 3 = .ok (.bipush 8, 2) := by decide +kernel
theorem dX6_first_5 : decode cX6_first 5 = .ok (.if_icmp .ge 16, 3) := by decide +kernel
theorem dX6_first_8 : decode cX6_first 8 = .ok (.aload_n 0, 1) := by decide +kernel
theorem dX6_first_9 : decode cX6_first 9 = .ok (.getfield 38, 3) := by decide +kernel
theorem dX6_first_12 : decode cX6_first 12 = .ok (.iload_n 1, 1) := by decide +kernel
theorem dX6_first_13 : decode cX6_first 13 = .ok (.lconst 1, 1) := by decide +kernel
theorem dX6_first_14 : decode cX6_first 14 = .ok (.lastore, 1) := by decide +kernel
theorem dX6_first_15 : decode cX6_first 15 = .ok (.iinc 1 1, 3) := by decide +kernel
theorem dX6_first_18 : decode cX6_first 18 = .ok (.goto (-16), 3) := by decide +kernel
theorem dX6_first_21 : decode cX6_first 21 = .ok (.iconst 0, 1) := by decide +kernel
theorem dX6_first_22 : decode cX6_first 22 = .ok (.istore_n 1, 1) := by decide +kernel
theorem dX6_first_23 : decode cX6_first 23 = .ok (.iload_n 1, 1) := by decide +kernel
theorem dX6_first_24 : decode cX6_first 24 = .ok (.aload_n 0, 1) := by decide +kernel
theorem dX6_first_25 : decode cX6_first 25 = .ok (.getfield 142, 3) := by decide +kernel
theorem dX6_first_28 : decode cX6_first 28 = .ok (.if_icmp .ge 24, 3) := by decide +kernel
theorem dX6_first_31 : decode cX6_first 31 = .ok (.aload_n 0, 1) := by decide +kernel
theorem dX6_first_32 : decode cX6_first 32 = .ok (.getfield 38, 3) := by decide +kernel
theorem dX6_first_35 : decode cX6_first 35 = .ok (.aload_n 0, 1) := by decide +kernel
theorem dX6_first_36 : decode cX6_first 36 = .ok (.getfield 32, 3) := by decide +kernel
theorem dX6_first_39 : decode cX6_first 39 = .ok (.iload_n 1, 1) := by decide +kernel
theorem dX6_first_40 : decode cX6_first 40 = .ok (.iaload, 1) := by decide +kernel
theorem dX6_first_41 : decode cX6_first 41 = .ok (.dup2, 1) := by decide +kernel
theorem dX6_first_42 : decode cX6_first 42 = .ok (.laload, 1) := by decide +kernel
theorem dX6_first_43 : decode cX6_first 43 = .ok (.lconst 1, 1) := by decide +kernel
theorem dX6_first_44 : decode cX6_first 44 = .ok (.ladd, 1) := by decide +kernel
theorem dX6_first_45 : decode cX6_first 45 = .ok (.lastore, 1) := by decide +kernel
theorem dX6_first_46 : decode cX6_first 46 = .ok (.iinc 1 1, 3) := by decide +kernel
theorem dX6_first_49 : decode cX6_first 49 = .ok (.goto (-26), 3) := by decide +kernel
theorem dX6_first_52 : decode cX6_first 52 = .ok (.aload_n 0, 1) := by decide +kernel
theorem dX6_first_53 : decode cX6_first 53 = .ok (.aload_n 0, 1) := by decide +kernel
theorem dX6_first_54 : decode cX6_first 54 = .ok (.getfield 142, 3) := by decide +kernel
theorem dX6_first_57 : decode cX6_first 57 = .ok (.i2l, 1) := by decide +kernel
theorem dX6_first_58 : decode cX6_first 58 = .ok (.ldc2_w 104, 3) := by decide +kernel
theorem dX6_first_61 : decode cX6_first 61 = .ok (.ladd, 1) := by decide +kernel
theorem dX6_first_62 : decode cX6_first 62 = .ok (.putfield 145, 3) := by decide +kernel
theorem dX6_first_65 : decode cX6_first 65 = .ok (.return_, 1) := by decide +kernel
theorem dX6_above_0 : decode cX6_above 0 = .ok (.iload_n 1, 1) := by decide +kernel
theorem dX6_above_1 : decode cX6_above 1 = .ok (.ifCond .ne 4, 3) := by decide +kernel
theorem dX6_above_4 : decode cX6_above 4 = .ok (.return_, 1) := by decide +kernel
theorem dX6_above_5 : decode cX6_above 5 = .ok (.iconst 0, 1) := by decide +kernel
theorem dX6_above_6 : decode cX6_above 6 = .ok (.istore_n 2, 1) := by decide +kernel
theorem dX6_above_7 : decode cX6_above 7 = .ok (.lconst 0, 1) := by decide +kernel
theorem dX6_above_8 : decode cX6_above 8 = .ok (.lstore_n 3, 1) := by decide +kernel
theorem dX6_above_9 : decode cX6_above 9 = .ok (.iconst 0, 1) := by decide +kernel
theorem dX6_above_10 : decode cX6_above 10 = .ok (.istore 5, 2) := by decide +kernel
theorem dX6_above_12 : decode cX6_above 12 = .ok (.iload 5, 2) := by decide +kernel
theorem dX6_above_14 : decode cX6_above 14 = .ok (.bipush 8, 2) := by decide +kernel
theorem dX6_above_16 : decode cX6_above 16 = .ok (.if_icmp .ge 51, 3) := by decide +kernel
theorem dX6_above_19 : decode cX6_above 19 = .ok (.iload_n 2, 1) := by decide +kernel
theorem dX6_above_20 : decode cX6_above 20 = .ok (.aload_n 0, 1) := by decide +kernel
theorem dX6_above_21 : decode cX6_above 21 = .ok (.getfield 35, 3) := by decide +kernel
theorem dX6_above_24 : decode cX6_above 24 = .ok (.iload 5, 2) := by decide +kernel
theorem dX6_above_26 : decode cX6_above 26 = .ok (.iaload, 1) := by decide +kernel
theorem dX6_above_27 : decode cX6_above 27 = .ok (.ifCond .le 7, 3) := by decide +kernel
theorem dX6_above_30 : decode cX6_above 30 = .ok (.iconst 1, 1) := by decide +kernel
theorem dX6_above_31 : decode cX6_above 31 = .ok (.goto 4, 3) := by decide +kernel
theorem dX6_above_34 : decode cX6_above 34 = .ok (.iconst 0, 1) := by decide +kernel
theorem dX6_above_35 : decode cX6_above 35 = .ok (.iadd, 1) := by decide +kernel
theorem dX6_above_36 : decode cX6_above 36 = .ok (.istore_n 2, 1) := by decide +kernel
theorem dX6_above_37 : decode cX6_above 37 = .ok (.lload_n 3, 1) := by decide +kernel
theorem dX6_above_38 : decode cX6_above 38 = .ok (.aload_n 0, 1) := by decide +kernel
theorem dX6_above_39 : decode cX6_above 39 = .ok (.getfield 35, 3) := by decide +kernel
theorem dX6_above_42 : decode cX6_above 42 = .ok (.iload 5, 2) := by decide +kernel
theorem dX6_above_44 : decode cX6_above 44 = .ok (.iaload, 1) := by decide +kernel
theorem dX6_above_45 : decode cX6_above 45 = .ok (.ifCond .le 7, 3) := by decide +kernel
theorem dX6_above_48 : decode cX6_above 48 = .ok (.lconst 0, 1) := by decide +kernel
theorem dX6_above_49 : decode cX6_above 49 = .ok (.goto 10, 3) := by decide +kernel
theorem dX6_above_52 : decode cX6_above 52 = .ok (.aload_n 0, 1) := by decide +kernel
theorem dX6_above_53 : decode cX6_above 53 = .ok (.getfield 38, 3) := by decide +kernel
theorem dX6_above_56 : decode cX6_above 56 = .ok (.iload 5, 2) := by decide +kernel
theorem dX6_above_58 : decode cX6_above 58 = .ok (.laload, 1) := by decide +kernel
theorem dX6_above_59 : decode cX6_above 59 = .ok (.ladd, 1) := by decide +kernel
theorem dX6_above_60 : decode cX6_above 60 = .ok (.lstore_n 3, 1) := by decide +kernel
theorem dX6_above_61 : decode cX6_above 61 = .ok (.iinc 5 1, 3) := by decide +kernel
theorem dX6_above_64 : decode cX6_above 64 = .ok (.goto (-52), 3) := by decide +kernel
theorem dX6_above_67 : decode cX6_above 67 = .ok (.iconst 0, 1) := by decide +kernel
theorem dX6_above_68 : decode cX6_above 68 = .ok (.istore 5, 2) := by decide +kernel
theorem dX6_above_70 : decode cX6_above 70 = .ok (.iload 5, 2) := by decide +kernel
theorem dX6_above_72 : decode cX6_above 72 = .ok (.bipush 8, 2) := by decide +kernel
theorem dX6_above_74 : decode cX6_above 74 = .ok (.if_icmp .ge 79, 3) := by decide +kernel
theorem dX6_above_77 : decode cX6_above 77 = .ok (.iload_n 2, 1) := by decide +kernel
theorem dX6_above_78 : decode cX6_above 78 = .ok (.bipush 8, 2) := by decide +kernel
theorem dX6_above_80 : decode cX6_above 80 = .ok (.if_icmp .ne 21, 3) := by decide +kernel
theorem dX6_above_83 : decode cX6_above 83 = .ok (.aload_n 0, 1) := by decide +kernel
theorem dX6_above_84 : decode cX6_above 84 = .ok (.getfield 38, 3) := by decide +kernel
theorem dX6_above_87 : decode cX6_above 87 = .ok (.iload 5, 2) := by decide +kernel
theorem dX6_above_89 : decode cX6_above 89 = .ok (.aload_n 0, 1) := by decide +kernel
theorem dX6_above_90 : decode cX6_above 90 = .ok (.getfield 35, 3) := by decide +kernel
theorem dX6_above_93 : decode cX6_above 93 = .ok (.iload 5, 2) := by decide +kernel
theorem dX6_above_95 : decode cX6_above 95 = .ok (.iaload, 1) := by decide +kernel
theorem dX6_above_96 : decode cX6_above 96 = .ok (.i2l, 1) := by decide +kernel
theorem dX6_above_97 : decode cX6_above 97 = .ok (.lastore, 1) := by decide +kernel
theorem dX6_above_98 : decode cX6_above 98 = .ok (.goto 49, 3) := by decide +kernel
theorem dX6_above_101 : decode cX6_above 101 = .ok (.aload_n 0, 1) := by decide +kernel
theorem dX6_above_102 : decode cX6_above 102 = .ok (.getfield 38, 3) := by decide +kernel
theorem dX6_above_105 : decode cX6_above 105 = .ok (.iload 5, 2) := by decide +kernel
theorem dX6_above_107 : decode cX6_above 107 = .ok (.aload_n 0, 1) := by decide +kernel
theorem dX6_above_108 : decode cX6_above 108 = .ok (.getfield 35, 3) := by decide +kernel
theorem dX6_above_111 : decode cX6_above 111 = .ok (.iload 5, 2) := by decide +kernel
theorem dX6_above_113 : decode cX6_above 113 = .ok (.iaload, 1) := by decide +kernel
theorem dX6_above_114 : decode cX6_above 114 = .ok (.ifCond .le 22, 3) := by decide +kernel
theorem dX6_above_117 : decode cX6_above 117 = .ok (.ldc2_w 148, 3) := by decide +kernel
theorem dX6_above_120 : decode cX6_above 120 = .ok (.aload_n 0, 1) := by decide +kernel
theorem dX6_above_121 : decode cX6_above 121 = .ok (.getfield 35, 3) := by decide +kernel
theorem dX6_above_124 : decode cX6_above 124 = .ok (.iload 5, 2) := by decide +kernel
theorem dX6_above_126 : decode cX6_above 126 = .ok (.iaload, 1) := by decide +kernel
theorem dX6_above_127 : decode cX6_above 127 = .ok (.i2l, 1) := by decide +kernel
theorem dX6_above_128 : decode cX6_above 128 = .ok (.lmul, 1) := by decide +kernel
theorem dX6_above_129 : decode cX6_above 129 = .ok (.lconst 1, 1) := by decide +kernel
theorem dX6_above_130 : decode cX6_above 130 = .ok (.lsub, 1) := by decide +kernel
theorem dX6_above_131 : decode cX6_above 131 = .ok (.lload_n 3, 1) := by decide +kernel
theorem dX6_above_132 : decode cX6_above 132 = .ok (.lmul, 1) := by decide +kernel
theorem dX6_above_133 : decode cX6_above 133 = .ok (.goto 13, 3) := by decide +kernel
theorem dX6_above_136 : decode cX6_above 136 = .ok (.iload_n 2, 1) := by decide +kernel
theorem dX6_above_137 : decode cX6_above 137 = .ok (.i2l, 1) := by decide +kernel
theorem dX6_above_138 : decode cX6_above 138 = .ok (.aload_n 0, 1) := by decide +kernel
theorem dX6_above_139 : decode cX6_above 139 = .ok (.getfield 38, 3) := by decide +kernel
theorem dX6_above_142 : decode cX6_above 142 = .ok (.iload 5, 2) := by decide +kernel
theorem dX6_above_144 : decode cX6_above 144 = .ok (.laload, 1) := by decide +kernel
theorem dX6_above_145 : decode cX6_above 145 = .ok (.lmul, 1) := by decide +kernel
theorem dX6_above_146 : decode cX6_above 146 = .ok (.lastore, 1) := by decide +kernel
theorem dX6_above_147 : decode cX6_above 147 = .ok (.iinc 5 1, 3) := by decide +kernel
theorem dX6_above_150 : decode cX6_above 150 = .ok (.goto (-80), 3) := by decide +kernel
theorem dX6_above_153 : decode cX6_above 153 = .ok (.aload_n 0, 1) := by decide +kernel
theorem dX6_above_154 : decode cX6_above 154 = .ok (.iload_n 2, 1) := by decide +kernel
theorem dX6_above_155 : decode cX6_above 155 = .ok (.bipush 8, 2) := by decide +kernel
theorem dX6_above_157 : decode cX6_above 157 = .ok (.if_icmp .ne 8, 3) := by decide +kernel
theorem dX6_above_160 : decode cX6_above 160 = .ok (.iload_n 1, 1) := by decide +kernel
theorem dX6_above_161 : decode cX6_above 161 = .ok (.i2l, 1) := by decide +kernel
theorem dX6_above_162 : decode cX6_above 162 = .ok (.goto 11, 3) := by decide +kernel
theorem dX6_above_165 : decode cX6_above 165 = .ok (.ldc2_w 148, 3) := by decide +kernel
theorem dX6_above_168 : decode cX6_above 168 = .ok (.iload_n 1, 1) := by decide +kernel
theorem dX6_above_169 : decode cX6_above 169 = .ok (.i2l, 1) := by decide +kernel
theorem dX6_above_170 : decode cX6_above 170 = .ok (.lmul, 1) := by decide +kernel
theorem dX6_above_171 : decode cX6_above 171 = .ok (.lload_n 3, 1) := by decide +kernel
theorem dX6_above_172 : decode cX6_above 172 = .ok (.lmul, 1) := by decide +kernel
theorem dX6_above_173 : decode cX6_above 173 = .ok (.putfield 145, 3) := by decide +kernel
theorem dX6_above_176 : decode cX6_above 176 = .ok (.return_, 1) := by decide +kernel
set_option maxRecDepth 20000 in
theorem ggX6_table_X6_first : GoodIn wsX6_table wsX6_first := goodIn_r _ [5, 6, 7, 8, 9, 10, 21, 22, 23, 24, 25, 26, 27, 28, 29, 30, 31, 32, 33, 34, 35, 36, 37, 38, 39, 40, 41, 42, 43, 44, 45] (by decide +kernel) (by decide +kernel)
set_option maxRecDepth 20000 in
theorem gX6_table_X6_first : GoodIn wsX6_table (wsV RX6 150 RX6 yX6_first wsX6_first) := goodIn_app (goodIn_of _ (by decide +kernel)) ggX6_table_X6_first
set_option maxRecDepth 20000 in
theorem ggX6_table_X6_count : GoodIn wsX6_table wsX6_count := goodIn_r _ [14, 15, 7, 8, 21, 22, 23, 24, 25, 26, 27, 28, 29, 30, 31, 32, 33, 34, 35, 36, 37, 38, 39, 40, 41, 42, 43, 44, 45] (by decide +kernel) (by decide +kernel)
set_option maxRecDepth 20000 in
theorem gX6_table_X6_count : GoodIn wsX6_table (wsV RX6 153 RX6 yX6_count wsX6_count) := goodIn_app (goodIn_of _ (by decide +kernel)) ggX6_table_X6_count
set_option maxRecDepth 20000 in
theorem ggX6_table_X6_above : GoodIn wsX6_table wsX6_above := goodIn_r _ [19, 15, 6, 20, 10, 21, 22, 23, 24, 25, 26, 27, 28, 29, 30, 31, 32, 33, 34, 35, 36, 37, 38, 39, 40, 41, 42, 43, 44, 45] (by decide +kernel) (by decide +kernel)
set_option maxRecDepth 20000 in
theorem gX6_table_X6_above : GoodIn wsX6_table (wsV RX6 156 RX6 yX6_above wsX6_above) := goodIn_app (goodIn_of _ (by decide +kernel)) ggX6_table_X6_above
theorem dX6_table_0 : decode cX6_table 0 = .ok (.aload_n 0, 1) := by decide +kernel
theorem dX6_table_1 : decode cX6_table 1 = .ok (.invokevirtual 150, 3) := by decide +kernel
theorem dX6_table_4 : decode cX6_table 4 = .ok (.iload_n 2, 1) := by decide +kernel
theorem dX6_table_5 : decode cX6_table 5 = .ok (.iconst (-1), 1) := by decide +kernel
theorem dX6_table_6 : decode cX6_table 6 = .ok (.if_icmp .eq 13, 3) := by decide +kernel
theorem dX6_table_9 : decode cX6_table 9 = .ok (.aload_n 0, 1) := by decide +kernel
theorem dX6_table_10 : decode cX6_table 10 = .ok (.aload_n 0, 1) := by decide +kernel
theorem dX6_table_11 : decode cX6_table 11 = .ok (.iconst (-1), 1) := by decide +kernel
theorem dX6_table_12 : decode cX6_table 12 = .ok (.iload_n 2, 1) := by decide +kernel
theorem dX6_table_13 : decode cX6_table 13 = .ok (.invokevirtual 153, 3) := by decide +kernel
theorem dX6_table_16 : decode cX6_table 16 = .ok (.invokevirtual 156, 3) := by decide +kernel
theorem dX6_table_19 : decode cX6_table 19 = .ok (.iload_n 1, 1) := by decide +kernel
theorem dX6_table_20 : decode cX6_table 20 = .ok (.iconst (-1), 1) := by decide +kernel
theorem dX6_table_21 : decode cX6_table 21 = .ok (.if_icmp .eq 13, 3) := by decide +kernel
theorem dX6_table_24 : decode cX6_table 24 = .ok (.aload_n 0, 1) := by decide +kernel
theorem dX6_table_25 : decode cX6_table 25 = .ok (.aload_n 0, 1) := by decide +kernel
theorem dX6_table_26 : decode cX6_table 26 = .ok (.iload_n 1, 1) := by decide +kernel
theorem dX6_table_27 : decode cX6_table 27 = .ok (.iload_n 2, 1) := by decide +kernel
theorem dX6_table_28 : decode cX6_table 28 = .ok (.invokevirtual 153, 3) := by decide +kernel
theorem dX6_table_31 : decode cX6_table 31 = .ok (.invokevirtual 156, 3) := by decide +kernel
theorem dX6_table_34 : decode cX6_table 34 = .ok (.return_, 1) := by decide +kernel
set_option maxRecDepth 20000 in
theorem ggX6_isTable_X6_within : GoodIn wsX6_isTable wsX6_within := goodIn_r _ [4] (by decide +kernel) (by decide +kernel)
set_option maxRecDepth 20000 in
theorem gX6_isTable_X6_within : GoodIn wsX6_isTable (va_wsS RX6 79 yX6_within wsX6_within) := goodIn_app (goodIn_of _ (by decide +kernel)) ggX6_isTable_X6_within
theorem dX6_isTable_0 : decode cX6_isTable 0 = .ok (.iload_n 0, 1) := by decide +kernel
theorem dX6_isTable_1 : decode cX6_isTable 1 = .ok (.iconst (-1), 1) := by decide +kernel
theorem dX6_isTable_2 : decode cX6_isTable 2 = .ok (.bipush 7, 2) := by decide +kernel
theorem dX6_isTable_4 : decode cX6_isTable 4 = .ok (.invokestatic 79, 3) := by decide +kernel
theorem dX6_isTable_7 : decode cX6_isTable 7 = .ok (.ifCond .eq 27, 3) := by decide +kernel
theorem dX6_isTable_10 : decode cX6_isTable 10 = .ok (.iload_n 1, 1) := by decide +kernel
theorem dX6_isTable_11 : decode cX6_isTable 11 = .ok (.iconst (-1), 1) := by decide +kernel
theorem dX6_isTable_12 : decode cX6_isTable 12 = .ok (.bipush 7, 2) := by decide +kernel
theorem dX6_isTable_14 : decode cX6_isTable 14 = .ok (.invokestatic 79, 3) := by decide +kernel
theorem dX6_isTable_17 : decode cX6_isTable 17 = .ok (.ifCond .eq 17, 3) := by decide +kernel
theorem dX6_isTable_20 : decode cX6_isTable 20 = .ok (.iload_n 1, 1) := by decide +kernel
theorem dX6_isTable_21 : decode cX6_isTable 21 = .ok (.iconst (-1), 1) := by decide +kernel
theorem dX6_isTable_22 : decode cX6_isTable 22 = .ok (.if_icmp .ne 8, 3) := by decide +kernel
theorem dX6_isTable_25 : decode cX6_isTable 25 = .ok (.iload_n 0, 1) := by decide +kernel
theorem dX6_isTable_26 : decode cX6_isTable 26 = .ok (.iconst (-1), 1) := by decide +kernel
theorem dX6_isTable_27 : decode cX6_isTable 27 = .ok (.if_icmp .ne 7, 3) := by decide +kernel
theorem dX6_isTable_30 : decode cX6_isTable 30 = .ok (.iconst 1, 1) := by decide +kernel
theorem dX6_isTable_31 : decode cX6_isTable 31 = .ok (.goto 4, 3) := by decide +kernel
theorem dX6_isTable_34 : decode cX6_isTable 34 = .ok (.iconst 0, 1) := by decide +kernel
theorem dX6_isTable_35 : decode cX6_isTable 35 = .ok (.ireturn, 1) := by decide +kernel
set_option maxRecDepth 20000 in
theorem ggX6_next_X6_isTable : GoodIn wsX6_next wsX6_isTable := goodIn_r _ [8, 9, 10, 7, 11] (by decide +kernel) (by decide +kernel)
set_option maxRecDepth 20000 in
theorem gX6_next_X6_isTable : GoodIn wsX6_next (va_wsS RX6 160 yX6_isTable wsX6_isTable) := goodIn_app (goodIn_of _ (by decide +kernel)) ggX6_next_X6_isTable
set_option maxRecDepth 20000 in
theorem ggX6_next_X6_within : GoodIn wsX6_next wsX6_within := goodIn_r _ [11] (by decide +kernel) (by decide +kernel)
set_option maxRecDepth 20000 in
theorem gX6_next_X6_within : GoodIn wsX6_next (va_wsS RX6 79 yX6_within wsX6_within) := goodIn_app (goodIn_of _ (by decide +kernel)) ggX6_next_X6_within
set_option maxRecDepth 20000 in
theorem ggX6_next_X6_table : GoodIn wsX6_next wsX6_table := goodIn_r _ [15, 16, 17, 18, 7, 19, 3, 20, 21, 22, 4, 23, 24, 25, 26, 27, 28, 29, 30, 31, 32, 39, 40, 41, 42, 43, 44, 45, 46, 47, 48, 49, 50, 51, 52, 53, 54, 55, 56, 57, 58, 59, 60, 61, 62, 63] (by decide +kernel) (by decide +kernel)
set_option maxRecDepth 20000 in
theorem gX6_next_X6_table : GoodIn wsX6_next (wsV RX6 164 RX6 yX6_table wsX6_table) := goodIn_app (goodIn_of _ (by decide +kernel)) ggX6_next_X6_table
set_option maxRecDepth 20000 in
theorem ggX6_next_X6_side : GoodIn wsX6_next wsX6_side := goodIn_r _ [35, 36, 37, 7, 38] (by decide +kernel) (by decide +kernel)
set_option maxRecDepth 20000 in
theorem gX6_next_X6_side : GoodIn wsX6_next (va_wsS RX6 116 yX6_side wsX6_side) := goodIn_app (goodIn_of _ (by decide +kernel)) ggX6_next_X6_side
theorem dX6_next_0 : decode cX6_next 0 = .ok (.aload_n 0, 1) := by decide +kernel
theorem dX6_next_1 : decode cX6_next 1 = .ok (.iconst 0, 1) := by decide +kernel
theorem dX6_next_2 : decode cX6_next 2 = .ok (.putfield 69, 3) := by decide +kernel
theorem dX6_next_5 : decode cX6_next 5 = .ok (.iload_n 1, 1) := by decide +kernel
theorem dX6_next_6 : decode cX6_next 6 = .ok (.iload_n 2, 1) := by decide +kernel
theorem dX6_next_7 : decode cX6_next 7 = .ok (.invokestatic 160, 3) := by decide +kernel
theorem dX6_next_10 : decode cX6_next 10 = .ok (.ifCond .eq 23, 3) := by decide +kernel
theorem dX6_next_13 : decode cX6_next 13 = .ok (.iload_n 3, 1) := by decide +kernel
theorem dX6_next_14 : decode cX6_next 14 = .ok (.iconst 0, 1) := by decide +kernel
theorem dX6_next_15 : decode cX6_next 15 = .ok (.bipush 7, 2) := by decide +kernel
theorem dX6_next_17 : decode cX6_next 17 = .ok (.invokestatic 79, 3) := by decide +kernel
theorem dX6_next_20 : decode cX6_next 20 = .ok (.ifCond .eq 13, 3) := by decide +kernel
theorem dX6_next_23 : decode cX6_next 23 = .ok (.iload 4, 2) := by decide +kernel
theorem dX6_next_25 : decode cX6_next 25 = .ok (.iconst 0, 1) := by decide +kernel
theorem dX6_next_26 : decode cX6_next 26 = .ok (.iconst 1, 1) := by decide +kernel
theorem dX6_next_27 : decode cX6_next 27 = .ok (.invokestatic 79, 3) := by decide +kernel
theorem dX6_next_30 : decode cX6_next 30 = .ok (.ifCond .ne 7, 3) := by decide +kernel
theorem dX6_next_33 : decode cX6_next 33 = .ok (.ldc2_w 106, 3) := by decide +kernel
theorem dX6_next_36 : decode cX6_next 36 = .ok (.lreturn, 1) := by decide +kernel
theorem dX6_next_37 : decode cX6_next 37 = .ok (.aload_n 0, 1) := by decide +kernel
theorem dX6_next_38 : decode cX6_next 38 = .ok (.iload_n 1, 1) := by decide +kernel
theorem dX6_next_39 : decode cX6_next 39 = .ok (.iload_n 2, 1) := by decide +kernel
theorem dX6_next_40 : decode cX6_next 40 = .ok (.invokevirtual 164, 3) := by decide +kernel
theorem dX6_next_43 : decode cX6_next 43 = .ok (.aload_n 0, 1) := by decide +kernel
theorem dX6_next_44 : decode cX6_next 44 = .ok (.getfield 38, 3) := by decide +kernel
theorem dX6_next_47 : decode cX6_next 47 = .ok (.iload_n 3, 1) := by decide +kernel
theorem dX6_next_48 : decode cX6_next 48 = .ok (.laload, 1) := by decide +kernel
theorem dX6_next_49 : decode cX6_next 49 = .ok (.aload_n 0, 1) := by decide +kernel
theorem dX6_next_50 : decode cX6_next 50 = .ok (.getfield 145, 3) := by decide +kernel
theorem dX6_next_53 : decode cX6_next 53 = .ok (.iload 4, 2) := by decide +kernel
theorem dX6_next_55 : decode cX6_next 55 = .ok (.invokestatic 116, 3) := by decide +kernel
theorem dX6_next_58 : decode cX6_next 58 = .ok (.lreturn, 1) := by decide +kernel
set_option maxRecDepth 20000 in
theorem ggX6_likely_X6_isTable : GoodIn wsX6_likely wsX6_isTable := goodIn_r _ [6, 7, 8, 5, 9] (by decide +kernel) (by decide +kernel)
set_option maxRecDepth 20000 in
theorem gX6_likely_X6_isTable : GoodIn wsX6_likely (va_wsS RX6 160 yX6_isTable wsX6_isTable) := goodIn_app (goodIn_of _ (by decide +kernel)) ggX6_likely_X6_isTable
set_option maxRecDepth 20000 in
theorem ggX6_likely_X6_table : GoodIn wsX6_likely wsX6_table := goodIn_r _ [13, 14, 15, 16, 5, 17, 2, 18, 19, 20, 21, 22, 23, 24, 25, 26, 27, 28, 29, 30, 31, 32, 33, 34, 35, 36, 37, 38, 39, 40, 41, 42, 43, 44, 45, 46, 47, 48, 49, 50, 51, 52, 53, 54, 55, 56] (by decide +kernel) (by decide +kernel)
set_option maxRecDepth 20000 in
theorem gX6_likely_X6_table : GoodIn wsX6_likely (wsV RX6 164 RX6 yX6_table wsX6_table) := goodIn_app (goodIn_of _ (by decide +kernel)) ggX6_likely_X6_table
theorem dX6_likely_0 : decode cX6_likely 0 = .ok (.aload_n 0, 1) := by decide +kernel
theorem dX6_likely_1 : decode cX6_likely 1 = .ok (.iconst 0, 1) := by decide +kernel
theorem dX6_likely_2 : decode cX6_likely 2 = .ok (.putfield 69, 3) := by decide +kernel
theorem dX6_likely_5 : decode cX6_likely 5 = .ok (.iload_n 1, 1) := by decide +kernel
theorem dX6_likely_6 : decode cX6_likely 6 = .ok (.iload_n 2, 1) := by decide +kernel
theorem dX6_likely_7 : decode cX6_likely 7 = .ok (.invokestatic 160, 3) := by decide +kernel
theorem dX6_likely_10 : decode cX6_likely 10 = .ok (.ifCond .ne 6, 3) := by decide +kernel
theorem dX6_likely_13 : decode cX6_likely 13 = .ok (.bipush (-2), 2) := by decide +kernel
theorem dX6_likely_15 : decode cX6_likely 15 = .ok (.ireturn, 1) := by decide +kernel
theorem dX6_likely_16 : decode cX6_likely 16 = .ok (.aload_n 0, 1) := by decide +kernel
theorem dX6_likely_17 : decode cX6_likely 17 = .ok (.iload_n 1, 1) := by decide +kernel
theorem dX6_likely_18 : decode cX6_likely 18 = .ok (.iload_n 2, 1) := by decide +kernel
theorem dX6_likely_19 : decode cX6_likely 19 = .ok (.invokevirtual 164, 3) := by decide +kernel
theorem dX6_likely_22 : decode cX6_likely 22 = .ok (.iconst 0, 1) := by decide +kernel
theorem dX6_likely_23 : decode cX6_likely 23 = .ok (.istore_n 3, 1) := by decide +kernel
theorem dX6_likely_24 : decode cX6_likely 24 = .ok (.iconst 1, 1) := by decide +kernel
theorem dX6_likely_25 : decode cX6_likely 25 = .ok (.istore 4, 2) := by decide +kernel
theorem dX6_likely_27 : decode cX6_likely 27 = .ok (.iload 4, 2) := by decide +kernel
theorem dX6_likely_29 : decode cX6_likely 29 = .ok (.bipush 8, 2) := by decide +kernel
theorem dX6_likely_31 : decode cX6_likely 31 = .ok (.if_icmp .ge 33, 3) := by decide +kernel
theorem dX6_likely_34 : decode cX6_likely 34 = .ok (.aload_n 0, 1) := by decide +kernel
theorem dX6_likely_35 : decode cX6_likely 35 = .ok (.getfield 38, 3) := by decide +kernel
theorem dX6_likely_38 : decode cX6_likely 38 = .ok (.iload 4, 2) := by decide +kernel
theorem dX6_likely_40 : decode cX6_likely 40 = .ok (.laload, 1) := by decide +kernel
theorem dX6_likely_41 : decode cX6_likely 41 = .ok (.aload_n 0, 1) := by decide +kernel
theorem dX6_likely_42 : decode cX6_likely 42 = .ok (.getfield 38, 3) := by decide +kernel
theorem dX6_likely_45 : decode cX6_likely 45 = .ok (.iload_n 3, 1) := by decide +kernel
theorem dX6_likely_46 : decode cX6_likely 46 = .ok (.laload, 1) := by decide +kernel
theorem dX6_likely_47 : decode cX6_likely 47 = .ok (.lcmp, 1) := by decide +kernel
theorem dX6_likely_48 : decode cX6_likely 48 = .ok (.ifCond .le 8, 3) := by decide +kernel
theorem dX6_likely_51 : decode cX6_likely 51 = .ok (.iload 4, 2) := by decide +kernel
theorem dX6_likely_53 : decode cX6_likely 53 = .ok (.goto 4, 3) := by decide +kernel
theorem dX6_likely_56 : decode cX6_likely 56 = .ok (.iload_n 3, 1) := by decide +kernel
theorem dX6_likely_57 : decode cX6_likely 57 = .ok (.istore_n 3, 1) := by decide +kernel
theorem dX6_likely_58 : decode cX6_likely 58 = .ok (.iinc 4 1, 3) := by decide +kernel
theorem dX6_likely_61 : decode cX6_likely 61 = .ok (.goto (-34), 3) := by decide +kernel
theorem dX6_likely_64 : decode cX6_likely 64 = .ok (.iload_n 3, 1) := by decide +kernel
theorem dX6_likely_65 : decode cX6_likely 65 = .ok (.ireturn, 1) := by decide +kernel
set_option maxRecDepth 20000 in
theorem ggX6_weigh_X6_within : GoodIn wsX6_weigh wsX6_within := goodIn_r _ [8] (by decide +kernel) (by decide +kernel)
set_option maxRecDepth 20000 in
theorem gX6_weigh_X6_within : GoodIn wsX6_weigh (va_wsS RX6 79 yX6_within wsX6_within) := goodIn_app (goodIn_of _ (by decide +kernel)) ggX6_weigh_X6_within
theorem dX6_weigh_0 : decode cX6_weigh 0 = .ok (.aload_n 0, 1) := by decide +kernel
theorem dX6_weigh_1 : decode cX6_weigh 1 = .ok (.iconst 0, 1) := by decide +kernel
theorem dX6_weigh_2 : decode cX6_weigh 2 = .ok (.putfield 69, 3) := by decide +kernel
theorem dX6_weigh_5 : decode cX6_weigh 5 = .ok (.iload_n 1, 1) := by decide +kernel
theorem dX6_weigh_6 : decode cX6_weigh 6 = .ok (.iconst 0, 1) := by decide +kernel
theorem dX6_weigh_7 : decode cX6_weigh 7 = .ok (.iconst 2, 1) := by decide +kernel
theorem dX6_weigh_8 : decode cX6_weigh 8 = .ok (.invokestatic 79, 3) := by decide +kernel
theorem dX6_weigh_11 : decode cX6_weigh 11 = .ok (.ifCond .eq 36, 3) := by decide +kernel
theorem dX6_weigh_14 : decode cX6_weigh 14 = .ok (.iload_n 2, 1) := by decide +kernel
theorem dX6_weigh_15 : decode cX6_weigh 15 = .ok (.iconst 0, 1) := by decide +kernel
theorem dX6_weigh_16 : decode cX6_weigh 16 = .ok (.iconst 3, 1) := by decide +kernel
theorem dX6_weigh_17 : decode cX6_weigh 17 = .ok (.invokestatic 79, 3) := by decide +kernel
theorem dX6_weigh_20 : decode cX6_weigh 20 = .ok (.ifCond .eq 27, 3) := by decide +kernel
theorem dX6_weigh_23 : decode cX6_weigh 23 = .ok (.iload_n 1, 1) := by decide +kernel
theorem dX6_weigh_24 : decode cX6_weigh 24 = .ok (.ifCond .le 12, 3) := by decide +kernel
theorem dX6_weigh_27 : decode cX6_weigh 27 = .ok (.iload_n 3, 1) := by decide +kernel
theorem dX6_weigh_28 : decode cX6_weigh 28 = .ok (.iconst 0, 1) := by decide +kernel
theorem dX6_weigh_29 : decode cX6_weigh 29 = .ok (.iconst 3, 1) := by decide +kernel
theorem dX6_weigh_30 : decode cX6_weigh 30 = .ok (.invokestatic 79, 3) := by decide +kernel
theorem dX6_weigh_33 : decode cX6_weigh 33 = .ok (.ifCond .eq 14, 3) := by decide +kernel
theorem dX6_weigh_36 : decode cX6_weigh 36 = .ok (.iload 4, 2) := by decide +kernel
theorem dX6_weigh_38 : decode cX6_weigh 38 = .ok (.iconst (-1), 1) := by decide +kernel
theorem dX6_weigh_39 : decode cX6_weigh 39 = .ok (.bipush 21, 2) := by decide +kernel
theorem dX6_weigh_41 : decode cX6_weigh 41 = .ok (.invokestatic 79, 3) := by decide +kernel
theorem dX6_weigh_44 : decode cX6_weigh 44 = .ok (.ifCond .ne 6, 3) := by decide +kernel
theorem dX6_weigh_47 : decode cX6_weigh 47 = .ok (.bipush (-2), 2) := by decide +kernel
theorem dX6_weigh_49 : decode cX6_weigh 49 = .ok (.ireturn, 1) := by decide +kernel
end
section
theorem dX6_weigh_50 : decode cX6_weigh 50 = .ok (.iconst 4, 1) := by decide +kernel
theorem dX6_weigh_51 : decode cX6_weigh 51 = .ok (.iload_n 2, 1) := by decide +kernel
theorem dX6_weigh_52 : decode cX6_weigh 52 = .ok (.imul, 1) := by decide +kernel
theorem dX6_weigh_53 : decode cX6_weigh 53 = .ok (.iload_n 3, 1) := by decide +kernel
theorem dX6_weigh_54 : decode cX6_weigh 54 = .ok (.iadd, 1) := by decide +kernel
theorem dX6_weigh_55 : decode cX6_weigh 55 = .ok (.istore 5, 2) := by decide +kernel
theorem dX6_weigh_57 : decode cX6_weigh 57 = .ok (.iload_n 1, 1) := by decide +kernel
theorem dX6_weigh_58 : decode cX6_weigh 58 = .ok (.ifCond .ne 12, 3) := by decide +kernel
theorem dX6_weigh_61 : decode cX6_weigh 61 = .ok (.aload_n 0, 1) := by decide +kernel
theorem dX6_weigh_62 : decode cX6_weigh 62 = .ok (.getfield 42, 3) := by decide +kernel
theorem dX6_weigh_65 : decode cX6_weigh 65 = .ok (.iload_n 2, 1) := by decide +kernel
theorem dX6_weigh_66 : decode cX6_weigh 66 = .ok (.iaload, 1) := by decide +kernel
theorem dX6_weigh_67 : decode cX6_weigh 67 = .ok (.goto 25, 3) := by decide +kernel
theorem dX6_weigh_70 : decode cX6_weigh 70 = .ok (.iload_n 1, 1) := by decide +kernel
theorem dX6_weigh_71 : decode cX6_weigh 71 = .ok (.iconst 1, 1) := by decide +kernel
theorem dX6_weigh_72 : decode cX6_weigh 72 = .ok (.if_icmp .ne 13, 3) := by decide +kernel
theorem dX6_weigh_75 : decode cX6_weigh 75 = .ok (.aload_n 0, 1) := by decide +kernel
theorem dX6_weigh_76 : decode cX6_weigh 76 = .ok (.getfield 45, 3) := by decide +kernel
theorem dX6_weigh_79 : decode cX6_weigh 79 = .ok (.iload 5, 2) := by decide +kernel
theorem dX6_weigh_81 : decode cX6_weigh 81 = .ok (.iaload, 1) := by decide +kernel
theorem dX6_weigh_82 : decode cX6_weigh 82 = .ok (.goto 10, 3) := by decide +kernel
theorem dX6_weigh_85 : decode cX6_weigh 85 = .ok (.aload_n 0, 1) := by decide +kernel
theorem dX6_weigh_86 : decode cX6_weigh 86 = .ok (.getfield 48, 3) := by decide +kernel
theorem dX6_weigh_89 : decode cX6_weigh 89 = .ok (.iload 5, 2) := by decide +kernel
theorem dX6_weigh_91 : decode cX6_weigh 91 = .ok (.iaload, 1) := by decide +kernel
theorem dX6_weigh_92 : decode cX6_weigh 92 = .ok (.istore 6, 2) := by decide +kernel
theorem dX6_weigh_94 : decode cX6_weigh 94 = .ok (.iload 4, 2) := by decide +kernel
theorem dX6_weigh_96 : decode cX6_weigh 96 = .ok (.iconst (-1), 1) := by decide +kernel
theorem dX6_weigh_97 : decode cX6_weigh 97 = .ok (.if_icmp .eq 44, 3) := by decide +kernel
theorem dX6_weigh_100 : decode cX6_weigh 100 = .ok (.iload_n 1, 1) := by decide +kernel
theorem dX6_weigh_101 : decode cX6_weigh 101 = .ok (.ifCond .ne 14, 3) := by decide +kernel
theorem dX6_weigh_104 : decode cX6_weigh 104 = .ok (.aload_n 0, 1) := by decide +kernel
theorem dX6_weigh_105 : decode cX6_weigh 105 = .ok (.getfield 42, 3) := by decide +kernel
theorem dX6_weigh_108 : decode cX6_weigh 108 = .ok (.iload_n 2, 1) := by decide +kernel
theorem dX6_weigh_109 : decode cX6_weigh 109 = .ok (.iload 4, 2) := by decide +kernel
theorem dX6_weigh_111 : decode cX6_weigh 111 = .ok (.iastore, 1) := by decide +kernel
theorem dX6_weigh_112 : decode cX6_weigh 112 = .ok (.goto 29, 3) := by decide +kernel
theorem dX6_weigh_115 : decode cX6_weigh 115 = .ok (.iload_n 1, 1) := by decide +kernel
theorem dX6_weigh_116 : decode cX6_weigh 116 = .ok (.iconst 1, 1) := by decide +kernel
theorem dX6_weigh_117 : decode cX6_weigh 117 = .ok (.if_icmp .ne 15, 3) := by decide +kernel
theorem dX6_weigh_120 : decode cX6_weigh 120 = .ok (.aload_n 0, 1) := by decide +kernel
theorem dX6_weigh_121 : decode cX6_weigh 121 = .ok (.getfield 45, 3) := by decide +kernel
theorem dX6_weigh_124 : decode cX6_weigh 124 = .ok (.iload 5, 2) := by decide +kernel
theorem dX6_weigh_126 : decode cX6_weigh 126 = .ok (.iload 4, 2) := by decide +kernel
theorem dX6_weigh_128 : decode cX6_weigh 128 = .ok (.iastore, 1) := by decide +kernel
theorem dX6_weigh_129 : decode cX6_weigh 129 = .ok (.goto 12, 3) := by decide +kernel
theorem dX6_weigh_132 : decode cX6_weigh 132 = .ok (.aload_n 0, 1) := by decide +kernel
theorem dX6_weigh_133 : decode cX6_weigh 133 = .ok (.getfield 48, 3) := by decide +kernel
theorem dX6_weigh_136 : decode cX6_weigh 136 = .ok (.iload 5, 2) := by decide +kernel
theorem dX6_weigh_138 : decode cX6_weigh 138 = .ok (.iload 4, 2) := by decide +kernel
theorem dX6_weigh_140 : decode cX6_weigh 140 = .ok (.iastore, 1) := by decide +kernel
theorem dX6_weigh_141 : decode cX6_weigh 141 = .ok (.iload 6, 2) := by decide +kernel
theorem dX6_weigh_143 : decode cX6_weigh 143 = .ok (.ireturn, 1) := by decide +kernel
set_option maxRecDepth 20000 in
theorem ggX6_sign_X6_within : GoodIn wsX6_sign wsX6_within := goodIn_r _ [7] (by decide +kernel) (by decide +kernel)
set_option maxRecDepth 20000 in
theorem gX6_sign_X6_within : GoodIn wsX6_sign (va_wsS RX6 79 yX6_within wsX6_within) := goodIn_app (goodIn_of _ (by decide +kernel)) ggX6_sign_X6_within
theorem dX6_sign_0 : decode cX6_sign 0 = .ok (.aload_n 0, 1) := by decide +kernel
theorem dX6_sign_1 : decode cX6_sign 1 = .ok (.iconst 0, 1) := by decide +kernel
theorem dX6_sign_2 : decode cX6_sign 2 = .ok (.putfield 69, 3) := by decide +kernel
theorem dX6_sign_5 : decode cX6_sign 5 = .ok (.iload_n 1, 1) := by decide +kernel
theorem dX6_sign_6 : decode cX6_sign 6 = .ok (.iconst 0, 1) := by decide +kernel
theorem dX6_sign_7 : decode cX6_sign 7 = .ok (.iconst 3, 1) := by decide +kernel
theorem dX6_sign_8 : decode cX6_sign 8 = .ok (.invokestatic 79, 3) := by decide +kernel
theorem dX6_sign_11 : decode cX6_sign 11 = .ok (.ifCond .eq 12, 3) := by decide +kernel
theorem dX6_sign_14 : decode cX6_sign 14 = .ok (.iload_n 2, 1) := by decide +kernel
theorem dX6_sign_15 : decode cX6_sign 15 = .ok (.iconst 0, 1) := by decide +kernel
theorem dX6_sign_16 : decode cX6_sign 16 = .ok (.iconst 3, 1) := by decide +kernel
theorem dX6_sign_17 : decode cX6_sign 17 = .ok (.invokestatic 79, 3) := by decide +kernel
theorem dX6_sign_20 : decode cX6_sign 20 = .ok (.ifCond .ne 6, 3) := by decide +kernel
theorem dX6_sign_23 : decode cX6_sign 23 = .ok (.bipush (-2), 2) := by decide +kernel
theorem dX6_sign_25 : decode cX6_sign 25 = .ok (.ireturn, 1) := by decide +kernel
theorem dX6_sign_26 : decode cX6_sign 26 = .ok (.aload_n 0, 1) := by decide +kernel
theorem dX6_sign_27 : decode cX6_sign 27 = .ok (.getfield 54, 3) := by decide +kernel
theorem dX6_sign_30 : decode cX6_sign 30 = .ok (.iload_n 1, 1) := by decide +kernel
theorem dX6_sign_31 : decode cX6_sign 31 = .ok (.iaload, 1) := by decide +kernel
theorem dX6_sign_32 : decode cX6_sign 32 = .ok (.iconst 5, 1) := by decide +kernel
theorem dX6_sign_33 : decode cX6_sign 33 = .ok (.if_icmp .ne 6, 3) := by decide +kernel
theorem dX6_sign_36 : decode cX6_sign 36 = .ok (.bipush (-3), 2) := by decide +kernel
theorem dX6_sign_38 : decode cX6_sign 38 = .ok (.ireturn, 1) := by decide +kernel
theorem dX6_sign_39 : decode cX6_sign 39 = .ok (.aload_n 0, 1) := by decide +kernel
theorem dX6_sign_40 : decode cX6_sign 40 = .ok (.getfield 51, 3) := by decide +kernel
theorem dX6_sign_43 : decode cX6_sign 43 = .ok (.iconst 5, 1) := by decide +kernel
theorem dX6_sign_44 : decode cX6_sign 44 = .ok (.iload_n 1, 1) := by decide +kernel
theorem dX6_sign_45 : decode cX6_sign 45 = .ok (.imul, 1) := by decide +kernel
theorem dX6_sign_46 : decode cX6_sign 46 = .ok (.aload_n 0, 1) := by decide +kernel
theorem dX6_sign_47 : decode cX6_sign 47 = .ok (.getfield 54, 3) := by decide +kernel
theorem dX6_sign_50 : decode cX6_sign 50 = .ok (.iload_n 1, 1) := by decide +kernel
theorem dX6_sign_51 : decode cX6_sign 51 = .ok (.iaload, 1) := by decide +kernel
theorem dX6_sign_52 : decode cX6_sign 52 = .ok (.iadd, 1) := by decide +kernel
theorem dX6_sign_53 : decode cX6_sign 53 = .ok (.iload_n 2, 1) := by decide +kernel
theorem dX6_sign_54 : decode cX6_sign 54 = .ok (.iastore, 1) := by decide +kernel
theorem dX6_sign_55 : decode cX6_sign 55 = .ok (.aload_n 0, 1) := by decide +kernel
theorem dX6_sign_56 : decode cX6_sign 56 = .ok (.getfield 54, 3) := by decide +kernel
theorem dX6_sign_59 : decode cX6_sign 59 = .ok (.iload_n 1, 1) := by decide +kernel
theorem dX6_sign_60 : decode cX6_sign 60 = .ok (.dup2, 1) := by decide +kernel
theorem dX6_sign_61 : decode cX6_sign 61 = .ok (.iaload, 1) := by decide +kernel
theorem dX6_sign_62 : decode cX6_sign 62 = .ok (.iconst 1, 1) := by decide +kernel
theorem dX6_sign_63 : decode cX6_sign 63 = .ok (.iadd, 1) := by decide +kernel
theorem dX6_sign_64 : decode cX6_sign 64 = .ok (.iastore, 1) := by decide +kernel
theorem dX6_sign_65 : decode cX6_sign 65 = .ok (.aload_n 0, 1) := by decide +kernel
theorem dX6_sign_66 : decode cX6_sign 66 = .ok (.getfield 54, 3) := by decide +kernel
theorem dX6_sign_69 : decode cX6_sign 69 = .ok (.iload_n 1, 1) := by decide +kernel
theorem dX6_sign_70 : decode cX6_sign 70 = .ok (.iaload, 1) := by decide +kernel
theorem dX6_sign_71 : decode cX6_sign 71 = .ok (.ireturn, 1) := by decide +kernel
theorem dX6_stateOf_0 : decode cX6_stateOf 0 = .ok (.iload_n 1, 1) := by decide +kernel
theorem dX6_stateOf_1 : decode cX6_stateOf 1 = .ok (.iconst 2, 1) := by decide +kernel
theorem dX6_stateOf_2 : decode cX6_stateOf 2 = .ok (.aload_n 0, 1) := by decide +kernel
theorem dX6_stateOf_3 : decode cX6_stateOf 3 = .ok (.getfield 54, 3) := by decide +kernel
theorem dX6_stateOf_6 : decode cX6_stateOf 6 = .ok (.iload_n 2, 1) := by decide +kernel
theorem dX6_stateOf_7 : decode cX6_stateOf 7 = .ok (.iaload, 1) := by decide +kernel
theorem dX6_stateOf_8 : decode cX6_stateOf 8 = .ok (.iconst 1, 1) := by decide +kernel
theorem dX6_stateOf_9 : decode cX6_stateOf 9 = .ok (.isub, 1) := by decide +kernel
theorem dX6_stateOf_10 : decode cX6_stateOf 10 = .ok (.iload_n 3, 1) := by decide +kernel
theorem dX6_stateOf_11 : decode cX6_stateOf 11 = .ok (.isub, 1) := by decide +kernel
theorem dX6_stateOf_12 : decode cX6_stateOf 12 = .ok (.imul, 1) := by decide +kernel
theorem dX6_stateOf_13 : decode cX6_stateOf 13 = .ok (.ishr, 1) := by decide +kernel
theorem dX6_stateOf_14 : decode cX6_stateOf 14 = .ok (.iconst 3, 1) := by decide +kernel
theorem dX6_stateOf_15 : decode cX6_stateOf 15 = .ok (.iand, 1) := by decide +kernel
theorem dX6_stateOf_16 : decode cX6_stateOf 16 = .ok (.ireturn, 1) := by decide +kernel
set_option maxRecDepth 20000 in
theorem ggX6_weighPath_X6_stateOf : GoodIn wsX6_weighPath wsX6_stateOf := goodIn_r _ [10, 1, 11, 12, 13, 14, 15, 16, 17, 18, 19, 20, 21, 22, 23, 24, 25, 26, 27, 28, 29, 30, 31, 32, 33, 34, 35] (by decide +kernel) (by decide +kernel)
set_option maxRecDepth 20000 in
theorem gX6_weighPath_X6_stateOf : GoodIn wsX6_weighPath (wsV RX6 167 RX6 yX6_stateOf wsX6_stateOf) := goodIn_app (goodIn_of _ (by decide +kernel)) ggX6_weighPath_X6_stateOf
theorem dX6_weighPath_0 : decode cX6_weighPath 0 = .ok (.lconst 1, 1) := by decide +kernel
theorem dX6_weighPath_1 : decode cX6_weighPath 1 = .ok (.lstore_n 3, 1) := by decide +kernel
theorem dX6_weighPath_2 : decode cX6_weighPath 2 = .ok (.iconst 0, 1) := by decide +kernel
theorem dX6_weighPath_3 : decode cX6_weighPath 3 = .ok (.istore 5, 2) := by decide +kernel
theorem dX6_weighPath_5 : decode cX6_weighPath 5 = .ok (.iload 5, 2) := by decide +kernel
theorem dX6_weighPath_7 : decode cX6_weighPath 7 = .ok (.aload_n 0, 1) := by decide +kernel
theorem dX6_weighPath_8 : decode cX6_weighPath 8 = .ok (.getfield 54, 3) := by decide +kernel
theorem dX6_weighPath_11 : decode cX6_weighPath 11 = .ok (.iload_n 2, 1) := by decide +kernel
theorem dX6_weighPath_12 : decode cX6_weighPath 12 = .ok (.iaload, 1) := by decide +kernel
theorem dX6_weighPath_13 : decode cX6_weighPath 13 = .ok (.if_icmp .ge 84, 3) := by decide +kernel
theorem dX6_weighPath_16 : decode cX6_weighPath 16 = .ok (.aload_n 0, 1) := by decide +kernel
theorem dX6_weighPath_17 : decode cX6_weighPath 17 = .ok (.iload_n 1, 1) := by decide +kernel
theorem dX6_weighPath_18 : decode cX6_weighPath 18 = .ok (.iload_n 2, 1) := by decide +kernel
theorem dX6_weighPath_19 : decode cX6_weighPath 19 = .ok (.iload 5, 2) := by decide +kernel
theorem dX6_weighPath_21 : decode cX6_weighPath 21 = .ok (.invokevirtual 167, 3) := by decide +kernel
theorem dX6_weighPath_24 : decode cX6_weighPath 24 = .ok (.istore 6, 2) := by decide +kernel
theorem dX6_weighPath_26 : decode cX6_weighPath 26 = .ok (.lload_n 3, 1) := by decide +kernel
theorem dX6_weighPath_27 : decode cX6_weighPath 27 = .ok (.iload 5, 2) := by decide +kernel
theorem dX6_weighPath_29 : decode cX6_weighPath 29 = .ok (.ifCond .ne 14, 3) := by decide +kernel
theorem dX6_weighPath_32 : decode cX6_weighPath 32 = .ok (.aload_n 0, 1) := by decide +kernel
theorem dX6_weighPath_33 : decode cX6_weighPath 33 = .ok (.getfield 42, 3) := by decide +kernel
theorem dX6_weighPath_36 : decode cX6_weighPath 36 = .ok (.iload 6, 2) := by decide +kernel
theorem dX6_weighPath_38 : decode cX6_weighPath 38 = .ok (.iaload, 1) := by decide +kernel
theorem dX6_weighPath_39 : decode cX6_weighPath 39 = .ok (.i2l, 1) := by decide +kernel
theorem dX6_weighPath_40 : decode cX6_weighPath 40 = .ok (.goto 24, 3) := by decide +kernel
theorem dX6_weighPath_43 : decode cX6_weighPath 43 = .ok (.aload_n 0, 1) := by decide +kernel
theorem dX6_weighPath_44 : decode cX6_weighPath 44 = .ok (.getfield 45, 3) := by decide +kernel
theorem dX6_weighPath_47 : decode cX6_weighPath 47 = .ok (.iconst 4, 1) := by decide +kernel
theorem dX6_weighPath_48 : decode cX6_weighPath 48 = .ok (.aload_n 0, 1) := by decide +kernel
theorem dX6_weighPath_49 : decode cX6_weighPath 49 = .ok (.iload_n 1, 1) := by decide +kernel
theorem dX6_weighPath_50 : decode cX6_weighPath 50 = .ok (.iload_n 2, 1) := by decide +kernel
theorem dX6_weighPath_51 : decode cX6_weighPath 51 = .ok (.iload 5, 2) := by decide +kernel
theorem dX6_weighPath_53 : decode cX6_weighPath 53 = .ok (.iconst 1, 1) := by decide +kernel
theorem dX6_weighPath_54 : decode cX6_weighPath 54 = .ok (.isub, 1) := by decide +kernel
theorem dX6_weighPath_55 : decode cX6_weighPath 55 = .ok (.invokevirtual 167, 3) := by decide +kernel
theorem dX6_weighPath_58 : decode cX6_weighPath 58 = .ok (.imul, 1) := by decide +kernel
theorem dX6_weighPath_59 : decode cX6_weighPath 59 = .ok (.iload 6, 2) := by decide +kernel
theorem dX6_weighPath_61 : decode cX6_weighPath 61 = .ok (.iadd, 1) := by decide +kernel
theorem dX6_weighPath_62 : decode cX6_weighPath 62 = .ok (.iaload, 1) := by decide +kernel
theorem dX6_weighPath_63 : decode cX6_weighPath 63 = .ok (.i2l, 1) := by decide +kernel
theorem dX6_weighPath_64 : decode cX6_weighPath 64 = .ok (.lmul, 1) := by decide +kernel
theorem dX6_weighPath_65 : decode cX6_weighPath 65 = .ok (.lstore_n 3, 1) := by decide +kernel
theorem dX6_weighPath_66 : decode cX6_weighPath 66 = .ok (.lload_n 3, 1) := by decide +kernel
theorem dX6_weighPath_67 : decode cX6_weighPath 67 = .ok (.aload_n 0, 1) := by decide +kernel
theorem dX6_weighPath_68 : decode cX6_weighPath 68 = .ok (.getfield 48, 3) := by decide +kernel
theorem dX6_weighPath_71 : decode cX6_weighPath 71 = .ok (.iconst 4, 1) := by decide +kernel
theorem dX6_weighPath_72 : decode cX6_weighPath 72 = .ok (.iload 6, 2) := by decide +kernel
theorem dX6_weighPath_74 : decode cX6_weighPath 74 = .ok (.imul, 1) := by decide +kernel
theorem dX6_weighPath_75 : decode cX6_weighPath 75 = .ok (.aload_n 0, 1) := by decide +kernel
theorem dX6_weighPath_76 : decode cX6_weighPath 76 = .ok (.getfield 51, 3) := by decide +kernel
theorem dX6_weighPath_79 : decode cX6_weighPath 79 = .ok (.iconst 5, 1) := by decide +kernel
theorem dX6_weighPath_80 : decode cX6_weighPath 80 = .ok (.iload_n 2, 1) := by decide +kernel
theorem dX6_weighPath_81 : decode cX6_weighPath 81 = .ok (.imul, 1) := by decide +kernel
theorem dX6_weighPath_82 : decode cX6_weighPath 82 = .ok (.iload 5, 2) := by decide +kernel
theorem dX6_weighPath_84 : decode cX6_weighPath 84 = .ok (.iadd, 1) := by decide +kernel
theorem dX6_weighPath_85 : decode cX6_weighPath 85 = .ok (.iaload, 1) := by decide +kernel
theorem dX6_weighPath_86 : decode cX6_weighPath 86 = .ok (.iadd, 1) := by decide +kernel
theorem dX6_weighPath_87 : decode cX6_weighPath 87 = .ok (.iaload, 1) := by decide +kernel
theorem dX6_weighPath_88 : decode cX6_weighPath 88 = .ok (.i2l, 1) := by decide +kernel
theorem dX6_weighPath_89 : decode cX6_weighPath 89 = .ok (.lmul, 1) := by decide +kernel
theorem dX6_weighPath_90 : decode cX6_weighPath 90 = .ok (.lstore_n 3, 1) := by decide +kernel
theorem dX6_weighPath_91 : decode cX6_weighPath 91 = .ok (.iinc 5 1, 3) := by decide +kernel
theorem dX6_weighPath_94 : decode cX6_weighPath 94 = .ok (.goto (-89), 3) := by decide +kernel
theorem dX6_weighPath_97 : decode cX6_weighPath 97 = .ok (.lload_n 3, 1) := by decide +kernel
theorem dX6_weighPath_98 : decode cX6_weighPath 98 = .ok (.lreturn, 1) := by decide +kernel
theorem dX6_paths_0 : decode cX6_paths 0 = .ok (.aload_n 0, 1) := by decide +kernel
theorem dX6_paths_1 : decode cX6_paths 1 = .ok (.getfield 54, 3) := by decide +kernel
theorem dX6_paths_4 : decode cX6_paths 4 = .ok (.iload_n 1, 1) := by decide +kernel
theorem dX6_paths_5 : decode cX6_paths 5 = .ok (.iaload, 1) := by decide +kernel
theorem dX6_paths_6 : decode cX6_paths 6 = .ok (.ifCond .ne 7, 3) := by decide +kernel
theorem dX6_paths_9 : decode cX6_paths 9 = .ok (.iconst 0, 1) := by decide +kernel
theorem dX6_paths_10 : decode cX6_paths 10 = .ok (.goto 13, 3) := by decide +kernel
theorem dX6_paths_13 : decode cX6_paths 13 = .ok (.iconst 1, 1) := by decide +kernel
theorem dX6_paths_14 : decode cX6_paths 14 = .ok (.iconst 2, 1) := by decide +kernel
theorem dX6_paths_15 : decode cX6_paths 15 = .ok (.aload_n 0, 1) := by decide +kernel
theorem dX6_paths_16 : decode cX6_paths 16 = .ok (.getfield 54, 3) := by decide +kernel
theorem dX6_paths_19 : decode cX6_paths 19 = .ok (.iload_n 1, 1) := by decide +kernel
theorem dX6_paths_20 : decode cX6_paths 20 = .ok (.iaload, 1) := by decide +kernel
theorem dX6_paths_21 : decode cX6_paths 21 = .ok (.imul, 1) := by decide +kernel
theorem dX6_paths_22 : decode cX6_paths 22 = .ok (.ishl, 1) := by decide +kernel
theorem dX6_paths_23 : decode cX6_paths 23 = .ok (.ireturn, 1) := by decide +kernel
set_option maxRecDepth 20000 in
theorem ggX6_sum_X6_paths : GoodIn wsX6_sum wsX6_paths := goodIn_r _ [5, 6, 19, 20, 21, 22, 23, 24, 25, 26, 27, 28, 29, 30, 31, 32, 33, 34, 35, 36, 37, 38, 39, 40, 41, 42, 43] (by decide +kernel) (by decide +kernel)
set_option maxRecDepth 20000 in
theorem gX6_sum_X6_paths : GoodIn wsX6_sum (wsV RX6 171 RX6 yX6_paths wsX6_paths) := goodIn_app (goodIn_of _ (by decide +kernel)) ggX6_sum_X6_paths
set_option maxRecDepth 20000 in
theorem ggX6_sum_X6_stateOf : GoodIn wsX6_sum wsX6_stateOf := goodIn_r _ [10, 6, 19, 20, 21, 22, 23, 24, 25, 26, 27, 28, 29, 30, 31, 32, 33, 34, 35, 36, 37, 38, 39, 40, 41, 42, 43] (by decide +kernel) (by decide +kernel)
set_option maxRecDepth 20000 in
theorem gX6_sum_X6_stateOf : GoodIn wsX6_sum (wsV RX6 167 RX6 yX6_stateOf wsX6_stateOf) := goodIn_app (goodIn_of _ (by decide +kernel)) ggX6_sum_X6_stateOf
set_option maxRecDepth 20000 in
theorem ggX6_sum_X6_weighPath : GoodIn wsX6_sum wsX6_weighPath := goodIn_r _ [14, 6, 15, 16, 17, 18, 7, 8, 9, 4, 10, 19, 20, 21, 22, 23, 24, 25, 26, 27, 28, 29, 30, 31, 32, 33, 34, 35, 36, 37, 38, 39, 40, 41, 42, 43] (by decide +kernel) (by decide +kernel)
set_option maxRecDepth 20000 in
theorem gX6_sum_X6_weighPath : GoodIn wsX6_sum (wsV RX6 174 RX6 yX6_weighPath wsX6_weighPath) := goodIn_app (goodIn_of _ (by decide +kernel)) ggX6_sum_X6_weighPath
theorem dX6_sum_0 : decode cX6_sum 0 = .ok (.lconst 0, 1) := by decide +kernel
theorem dX6_sum_1 : decode cX6_sum 1 = .ok (.lstore 4, 2) := by decide +kernel
theorem dX6_sum_3 : decode cX6_sum 3 = .ok (.iconst 0, 1) := by decide +kernel
theorem dX6_sum_4 : decode cX6_sum 4 = .ok (.istore 6, 2) := by decide +kernel
theorem dX6_sum_6 : decode cX6_sum 6 = .ok (.iload 6, 2) := by decide +kernel
theorem dX6_sum_8 : decode cX6_sum 8 = .ok (.aload_n 0, 1) := by decide +kernel
theorem dX6_sum_9 : decode cX6_sum 9 = .ok (.iload_n 1, 1) := by decide +kernel
theorem dX6_sum_10 : decode cX6_sum 10 = .ok (.invokevirtual 171, 3) := by decide +kernel
theorem dX6_sum_13 : decode cX6_sum 13 = .ok (.if_icmp .ge 42, 3) := by decide +kernel
theorem dX6_sum_16 : decode cX6_sum 16 = .ok (.lload 4, 2) := by decide +kernel
theorem dX6_sum_18 : decode cX6_sum 18 = .ok (.iload_n 2, 1) := by decide +kernel
theorem dX6_sum_19 : decode cX6_sum 19 = .ok (.iconst (-1), 1) := by decide +kernel
theorem dX6_sum_20 : decode cX6_sum 20 = .ok (.if_icmp .eq 15, 3) := by decide +kernel
theorem dX6_sum_23 : decode cX6_sum 23 = .ok (.aload_n 0, 1) := by decide +kernel
theorem dX6_sum_24 : decode cX6_sum 24 = .ok (.iload 6, 2) := by decide +kernel
theorem dX6_sum_26 : decode cX6_sum 26 = .ok (.iload_n 1, 1) := by decide +kernel
theorem dX6_sum_27 : decode cX6_sum 27 = .ok (.iload_n 2, 1) := by decide +kernel
theorem dX6_sum_28 : decode cX6_sum 28 = .ok (.invokevirtual 167, 3) := by decide +kernel
theorem dX6_sum_31 : decode cX6_sum 31 = .ok (.iload_n 3, 1) := by decide +kernel
theorem dX6_sum_32 : decode cX6_sum 32 = .ok (.if_icmp .ne 13, 3) := by decide +kernel
theorem dX6_sum_35 : decode cX6_sum 35 = .ok (.aload_n 0, 1) := by decide +kernel
theorem dX6_sum_36 : decode cX6_sum 36 = .ok (.iload 6, 2) := by decide +kernel
theorem dX6_sum_38 : decode cX6_sum 38 = .ok (.iload_n 1, 1) := by decide +kernel
theorem dX6_sum_39 : decode cX6_sum 39 = .ok (.invokevirtual 174, 3) := by decide +kernel
theorem dX6_sum_42 : decode cX6_sum 42 = .ok (.goto 4, 3) := by decide +kernel
theorem dX6_sum_45 : decode cX6_sum 45 = .ok (.lconst 0, 1) := by decide +kernel
theorem dX6_sum_46 : decode cX6_sum 46 = .ok (.ladd, 1) := by decide +kernel
theorem dX6_sum_47 : decode cX6_sum 47 = .ok (.lstore 4, 2) := by decide +kernel
theorem dX6_sum_49 : decode cX6_sum 49 = .ok (.iinc 6 1, 3) := by decide +kernel
theorem dX6_sum_52 : decode cX6_sum 52 = .ok (.goto (-46), 3) := by decide +kernel
theorem dX6_sum_55 : decode cX6_sum 55 = .ok (.lload 4, 2) := by decide +kernel
theorem dX6_sum_57 : decode cX6_sum 57 = .ok (.lreturn, 1) := by decide +kernel
set_option maxRecDepth 20000 in
theorem ggX6_bestPathOf_X6_paths : GoodIn wsX6_bestPathOf wsX6_paths := goodIn_r _ [5, 6, 19, 20, 21, 22, 23, 24, 25, 26, 27, 28, 29, 30, 31, 32, 33, 34, 35, 36, 37, 38, 39, 40, 41, 42, 43] (by decide +kernel) (by decide +kernel)
set_option maxRecDepth 20000 in
theorem gX6_bestPathOf_X6_paths : GoodIn wsX6_bestPathOf (wsV RX6 171 RX6 yX6_paths wsX6_paths) := goodIn_app (goodIn_of _ (by decide +kernel)) ggX6_bestPathOf_X6_paths
set_option maxRecDepth 20000 in
theorem ggX6_bestPathOf_X6_weighPath : GoodIn wsX6_bestPathOf wsX6_weighPath := goodIn_r _ [10, 6, 11, 12, 13, 14, 15, 16, 17, 4, 18, 19, 20, 21, 22, 23, 24, 25, 26, 27, 28, 29, 30, 31, 32, 33, 34, 35, 36, 37, 38, 39, 40, 41, 42, 43] (by decide +kernel) (by decide +kernel)
set_option maxRecDepth 20000 in
theorem gX6_bestPathOf_X6_weighPath : GoodIn wsX6_bestPathOf (wsV RX6 174 RX6 yX6_weighPath wsX6_weighPath) := goodIn_app (goodIn_of _ (by decide +kernel)) ggX6_bestPathOf_X6_weighPath
theorem dX6_bestPathOf_0 : decode cX6_bestPathOf 0 = .ok (.iconst (-1), 1) := by decide +kernel
theorem dX6_bestPathOf_1 : decode cX6_bestPathOf 1 = .ok (.istore_n 2, 1) := by decide +kernel
theorem dX6_bestPathOf_2 : decode cX6_bestPathOf 2 = .ok (.lconst 0, 1) := by decide +kernel
theorem dX6_bestPathOf_3 : decode cX6_bestPathOf 3 = .ok (.lstore_n 3, 1) := by decide +kernel
theorem dX6_bestPathOf_4 : decode cX6_bestPathOf 4 = .ok (.iconst 0, 1) := by decide +kernel
theorem dX6_bestPathOf_5 : decode cX6_bestPathOf 5 = .ok (.istore 5, 2) := by decide +kernel
theorem dX6_bestPathOf_7 : decode cX6_bestPathOf 7 = .ok (.iload 5, 2) := by decide +kernel
theorem dX6_bestPathOf_9 : decode cX6_bestPathOf 9 = .ok (.aload_n 0, 1) := by decide +kernel
theorem dX6_bestPathOf_10 : decode cX6_bestPathOf 10 = .ok (.iload_n 1, 1) := by decide +kernel
theorem dX6_bestPathOf_11 : decode cX6_bestPathOf 11 = .ok (.invokevirtual 171, 3) := by decide +kernel
theorem dX6_bestPathOf_14 : decode cX6_bestPathOf 14 = .ok (.if_icmp .ge 46, 3) := by decide +kernel
theorem dX6_bestPathOf_17 : decode cX6_bestPathOf 17 = .ok (.aload_n 0, 1) := by decide +kernel
theorem dX6_bestPathOf_18 : decode cX6_bestPathOf 18 = .ok (.iload 5, 2) := by decide +kernel
theorem dX6_bestPathOf_20 : decode cX6_bestPathOf 20 = .ok (.iload_n 1, 1) := by decide +kernel
theorem dX6_bestPathOf_21 : decode cX6_bestPathOf 21 = .ok (.invokevirtual 174, 3) := by decide +kernel
theorem dX6_bestPathOf_24 : decode cX6_bestPathOf 24 = .ok (.lstore 6, 2) := by decide +kernel
theorem dX6_bestPathOf_26 : decode cX6_bestPathOf 26 = .ok (.lload 6, 2) := by decide +kernel
theorem dX6_bestPathOf_28 : decode cX6_bestPathOf 28 = .ok (.lload_n 3, 1) := by decide +kernel
theorem dX6_bestPathOf_29 : decode cX6_bestPathOf 29 = .ok (.lcmp, 1) := by decide +kernel
theorem dX6_bestPathOf_30 : decode cX6_bestPathOf 30 = .ok (.ifCond .le 8, 3) := by decide +kernel
theorem dX6_bestPathOf_33 : decode cX6_bestPathOf 33 = .ok (.iload 5, 2) := by decide +kernel
theorem dX6_bestPathOf_35 : decode cX6_bestPathOf 35 = .ok (.goto 4, 3) := by decide +kernel
theorem dX6_bestPathOf_38 : decode cX6_bestPathOf 38 = .ok (.iload_n 2, 1) := by decide +kernel
theorem dX6_bestPathOf_39 : decode cX6_bestPathOf 39 = .ok (.istore_n 2, 1) := by decide +kernel
theorem dX6_bestPathOf_40 : decode cX6_bestPathOf 40 = .ok (.lload 6, 2) := by decide +kernel
theorem dX6_bestPathOf_42 : decode cX6_bestPathOf 42 = .ok (.lload_n 3, 1) := by decide +kernel
theorem dX6_bestPathOf_43 : decode cX6_bestPathOf 43 = .ok (.lcmp, 1) := by decide +kernel
theorem dX6_bestPathOf_44 : decode cX6_bestPathOf 44 = .ok (.ifCond .le 8, 3) := by decide +kernel
theorem dX6_bestPathOf_47 : decode cX6_bestPathOf 47 = .ok (.lload 6, 2) := by decide +kernel
theorem dX6_bestPathOf_49 : decode cX6_bestPathOf 49 = .ok (.goto 4, 3) := by decide +kernel
theorem dX6_bestPathOf_52 : decode cX6_bestPathOf 52 = .ok (.lload_n 3, 1) := by decide +kernel
theorem dX6_bestPathOf_53 : decode cX6_bestPathOf 53 = .ok (.lstore_n 3, 1) := by decide +kernel
theorem dX6_bestPathOf_54 : decode cX6_bestPathOf 54 = .ok (.iinc 5 1, 3) := by decide +kernel
theorem dX6_bestPathOf_57 : decode cX6_bestPathOf 57 = .ok (.goto (-50), 3) := by decide +kernel
theorem dX6_bestPathOf_60 : decode cX6_bestPathOf 60 = .ok (.iload_n 2, 1) := by decide +kernel
theorem dX6_bestPathOf_61 : decode cX6_bestPathOf 61 = .ok (.ireturn, 1) := by decide +kernel
set_option maxRecDepth 20000 in
theorem ggX6_path_X6_within : GoodIn wsX6_path wsX6_within := goodIn_r _ [6] (by decide +kernel) (by decide +kernel)
set_option maxRecDepth 20000 in
theorem gX6_path_X6_within : GoodIn wsX6_path (va_wsS RX6 79 yX6_within wsX6_within) := goodIn_app (goodIn_of _ (by decide +kernel)) ggX6_path_X6_within
set_option maxRecDepth 20000 in
theorem ggX6_path_X6_bestPathOf : GoodIn wsX6_path wsX6_bestPathOf := goodIn_r _ [10, 11, 12, 13, 5, 14, 2, 15, 16, 17, 18, 19, 20, 21, 22, 23, 24, 25, 26, 27, 28, 29, 30, 31, 32, 33, 34, 35, 36, 37, 38, 39, 40, 41, 42, 43, 44, 45, 46, 47, 48, 49, 50, 51] (by decide +kernel) (by decide +kernel)
set_option maxRecDepth 20000 in
theorem gX6_path_X6_bestPathOf : GoodIn wsX6_path (wsV RX6 177 RX6 yX6_bestPathOf wsX6_bestPathOf) := goodIn_app (goodIn_of _ (by decide +kernel)) ggX6_path_X6_bestPathOf
set_option maxRecDepth 20000 in
theorem ggX6_path_X6_stateOf : GoodIn wsX6_path wsX6_stateOf := goodIn_r _ [26, 2, 27, 28, 29, 30, 31, 32, 33, 34, 35, 36, 37, 38, 39, 40, 41, 42, 43, 44, 45, 46, 47, 48, 49, 50, 51] (by decide +kernel) (by decide +kernel)
set_option maxRecDepth 20000 in
theorem gX6_path_X6_stateOf : GoodIn wsX6_path (wsV RX6 167 RX6 yX6_stateOf wsX6_stateOf) := goodIn_app (goodIn_of _ (by decide +kernel)) ggX6_path_X6_stateOf
theorem dX6_path_0 : decode cX6_path 0 = .ok (.aload_n 0, 1) := by decide +kernel
theorem dX6_path_1 : decode cX6_path 1 = .ok (.iconst 0, 1) := by decide +kernel
theorem dX6_path_2 : decode cX6_path 2 = .ok (.putfield 69, 3) := by decide +kernel
theorem dX6_path_5 : decode cX6_path 5 = .ok (.iload_n 1, 1) := by decide +kernel
theorem dX6_path_6 : decode cX6_path 6 = .ok (.iconst 0, 1) := by decide +kernel
theorem dX6_path_7 : decode cX6_path 7 = .ok (.iconst 3, 1) := by decide +kernel
theorem dX6_path_8 : decode cX6_path 8 = .ok (.invokestatic 79, 3) := by decide +kernel
theorem dX6_path_11 : decode cX6_path 11 = .ok (.ifCond .ne 6, 3) := by decide +kernel
theorem dX6_path_14 : decode cX6_path 14 = .ok (.bipush (-2), 2) := by decide +kernel
theorem dX6_path_16 : decode cX6_path 16 = .ok (.ireturn, 1) := by decide +kernel
theorem dX6_path_17 : decode cX6_path 17 = .ok (.aload_n 0, 1) := by decide +kernel
theorem dX6_path_18 : decode cX6_path 18 = .ok (.iload_n 1, 1) := by decide +kernel
theorem dX6_path_19 : decode cX6_path 19 = .ok (.invokevirtual 177, 3) := by decide +kernel
theorem dX6_path_22 : decode cX6_path 22 = .ok (.istore_n 3, 1) := by decide +kernel
theorem dX6_path_23 : decode cX6_path 23 = .ok (.iload_n 3, 1) := by decide +kernel
theorem dX6_path_24 : decode cX6_path 24 = .ok (.iconst (-1), 1) := by decide +kernel
theorem dX6_path_25 : decode cX6_path 25 = .ok (.if_icmp .eq 19, 3) := by decide +kernel
theorem dX6_path_28 : decode cX6_path 28 = .ok (.iload_n 2, 1) := by decide +kernel
theorem dX6_path_29 : decode cX6_path 29 = .ok (.iconst 0, 1) := by decide +kernel
theorem dX6_path_30 : decode cX6_path 30 = .ok (.aload_n 0, 1) := by decide +kernel
theorem dX6_path_31 : decode cX6_path 31 = .ok (.getfield 54, 3) := by decide +kernel
theorem dX6_path_34 : decode cX6_path 34 = .ok (.iload_n 1, 1) := by decide +kernel
theorem dX6_path_35 : decode cX6_path 35 = .ok (.iaload, 1) := by decide +kernel
theorem dX6_path_36 : decode cX6_path 36 = .ok (.iconst 1, 1) := by decide +kernel
theorem dX6_path_37 : decode cX6_path 37 = .ok (.isub, 1) := by decide +kernel
theorem dX6_path_38 : decode cX6_path 38 = .ok (.invokestatic 79, 3) := by decide +kernel
theorem dX6_path_41 : decode cX6_path 41 = .ok (.ifCond .ne 7, 3) := by decide +kernel
theorem dX6_path_44 : decode cX6_path 44 = .ok (.iconst (-1), 1) := by decide +kernel
theorem dX6_path_45 : decode cX6_path 45 = .ok (.goto 10, 3) := by decide +kernel
theorem dX6_path_48 : decode cX6_path 48 = .ok (.aload_n 0, 1) := by decide +kernel
theorem dX6_path_49 : decode cX6_path 49 = .ok (.iload_n 3, 1) := by decide +kernel
theorem dX6_path_50 : decode cX6_path 50 = .ok (.iload_n 1, 1) := by decide +kernel
theorem dX6_path_51 : decode cX6_path 51 = .ok (.iload_n 2, 1) := by decide +kernel
theorem dX6_path_52 : decode cX6_path 52 = .ok (.invokevirtual 167, 3) := by decide +kernel
theorem dX6_path_55 : decode cX6_path 55 = .ok (.ireturn, 1) := by decide +kernel
set_option maxRecDepth 20000 in
theorem ggX6_total_X6_within : GoodIn wsX6_total wsX6_within := goodIn_r _ [6] (by decide +kernel) (by decide +kernel)
set_option maxRecDepth 20000 in
theorem gX6_total_X6_within : GoodIn wsX6_total (va_wsS RX6 79 yX6_within wsX6_within) := goodIn_app (goodIn_of _ (by decide +kernel)) ggX6_total_X6_within
set_option maxRecDepth 20000 in
theorem ggX6_total_X6_sum : GoodIn wsX6_total wsX6_sum := goodIn_r _ [10, 11, 12, 13, 5, 14, 15, 16, 17, 18, 19, 20, 21, 22, 23, 24, 25, 26, 27, 28, 29, 30, 31, 32, 33, 34, 35, 36, 37, 38, 39, 40, 41, 42, 43, 44, 45, 46, 47, 48, 49, 50, 51, 52] (by decide +kernel) (by decide +kernel)
set_option maxRecDepth 20000 in
theorem gX6_total_X6_sum : GoodIn wsX6_total (wsV RX6 180 RX6 yX6_sum wsX6_sum) := goodIn_app (goodIn_of _ (by decide +kernel)) ggX6_total_X6_sum
theorem dX6_total_0 : decode cX6_total 0 = .ok (.aload_n 0, 1) := by decide +kernel
theorem dX6_total_1 : decode cX6_total 1 = .ok (.iconst 0, 1) := by decide +kernel
theorem dX6_total_2 : decode cX6_total 2 = .ok (.putfield 69, 3) := by decide +kernel
theorem dX6_total_5 : decode cX6_total 5 = .ok (.iload_n 1, 1) := by decide +kernel
theorem dX6_total_6 : decode cX6_total 6 = .ok (.iconst 0, 1) := by decide +kernel
theorem dX6_total_7 : decode cX6_total 7 = .ok (.iconst 3, 1) := by decide +kernel
theorem dX6_total_8 : decode cX6_total 8 = .ok (.invokestatic 79, 3) := by decide +kernel
theorem dX6_total_11 : decode cX6_total 11 = .ok (.ifCond .eq 13, 3) := by decide +kernel
theorem dX6_total_14 : decode cX6_total 14 = .ok (.aload_n 0, 1) := by decide +kernel
theorem dX6_total_15 : decode cX6_total 15 = .ok (.iload_n 1, 1) := by decide +kernel
theorem dX6_total_16 : decode cX6_total 16 = .ok (.iconst (-1), 1) := by decide +kernel
theorem dX6_total_17 : decode cX6_total 17 = .ok (.iconst 0, 1) := by decide +kernel
theorem dX6_total_18 : decode cX6_total 18 = .ok (.invokevirtual 180, 3) := by decide +kernel
theorem dX6_total_21 : decode cX6_total 21 = .ok (.goto 6, 3) := by decide +kernel
theorem dX6_total_24 : decode cX6_total 24 = .ok (.ldc2_w 106, 3) := by decide +kernel
theorem dX6_total_27 : decode cX6_total 27 = .ok (.lreturn, 1) := by decide +kernel
set_option maxRecDepth 20000 in
theorem ggX6_at_X6_within : GoodIn wsX6_at wsX6_within := goodIn_r _ [7] (by decide +kernel) (by decide +kernel)
set_option maxRecDepth 20000 in
theorem gX6_at_X6_within : GoodIn wsX6_at (va_wsS RX6 79 yX6_within wsX6_within) := goodIn_app (goodIn_of _ (by decide +kernel)) ggX6_at_X6_within
set_option maxRecDepth 20000 in
theorem ggX6_at_X6_sum : GoodIn wsX6_at wsX6_sum := goodIn_r _ [11, 12, 13, 14, 6, 15, 2, 16, 17, 18, 19, 20, 21, 22, 23, 24, 25, 26, 27, 34, 35, 36, 37, 38, 39, 40, 41, 42, 43, 44, 45, 46, 47, 48, 49, 50, 51, 52, 53, 54, 55, 56, 57, 58] (by decide +kernel) (by decide +kernel)
set_option maxRecDepth 20000 in
theorem gX6_at_X6_sum : GoodIn wsX6_at (wsV RX6 180 RX6 yX6_sum wsX6_sum) := goodIn_app (goodIn_of _ (by decide +kernel)) ggX6_at_X6_sum
set_option maxRecDepth 20000 in
theorem ggX6_at_X6_side : GoodIn wsX6_at wsX6_side := goodIn_r _ [30, 31, 32, 6, 33] (by decide +kernel) (by decide +kernel)
set_option maxRecDepth 20000 in
theorem gX6_at_X6_side : GoodIn wsX6_at (va_wsS RX6 116 yX6_side wsX6_side) := goodIn_app (goodIn_of _ (by decide +kernel)) ggX6_at_X6_side
theorem dX6_at_0 : decode cX6_at 0 = .ok (.aload_n 0, 1) := by decide +kernel
theorem dX6_at_1 : decode cX6_at 1 = .ok (.iconst 0, 1) := by decide +kernel
theorem dX6_at_2 : decode cX6_at 2 = .ok (.putfield 69, 3) := by decide +kernel
theorem dX6_at_5 : decode cX6_at 5 = .ok (.iload_n 1, 1) := by decide +kernel
theorem dX6_at_6 : decode cX6_at 6 = .ok (.iconst 0, 1) := by decide +kernel
theorem dX6_at_7 : decode cX6_at 7 = .ok (.iconst 3, 1) := by decide +kernel
theorem dX6_at_8 : decode cX6_at 8 = .ok (.invokestatic 79, 3) := by decide +kernel
theorem dX6_at_11 : decode cX6_at 11 = .ok (.ifCond .eq 38, 3) := by decide +kernel
theorem dX6_at_14 : decode cX6_at 14 = .ok (.iload_n 2, 1) := by decide +kernel
theorem dX6_at_15 : decode cX6_at 15 = .ok (.iconst 0, 1) := by decide +kernel
theorem dX6_at_16 : decode cX6_at 16 = .ok (.aload_n 0, 1) := by decide +kernel
theorem dX6_at_17 : decode cX6_at 17 = .ok (.getfield 54, 3) := by decide +kernel
theorem dX6_at_20 : decode cX6_at 20 = .ok (.iload_n 1, 1) := by decide +kernel
theorem dX6_at_21 : decode cX6_at 21 = .ok (.iaload, 1) := by decide +kernel
theorem dX6_at_22 : decode cX6_at 22 = .ok (.iconst 1, 1) := by decide +kernel
theorem dX6_at_23 : decode cX6_at 23 = .ok (.isub, 1) := by decide +kernel
theorem dX6_at_24 : decode cX6_at 24 = .ok (.invokestatic 79, 3) := by decide +kernel
theorem dX6_at_27 : decode cX6_at 27 = .ok (.ifCond .eq 22, 3) := by decide +kernel
theorem dX6_at_30 : decode cX6_at 30 = .ok (.iload_n 3, 1) := by decide +kernel
theorem dX6_at_31 : decode cX6_at 31 = .ok (.iconst 0, 1) := by decide +kernel
theorem dX6_at_32 : decode cX6_at 32 = .ok (.iconst 3, 1) := by decide +kernel
theorem dX6_at_33 : decode cX6_at 33 = .ok (.invokestatic 79, 3) := by decide +kernel
theorem dX6_at_36 : decode cX6_at 36 = .ok (.ifCond .eq 13, 3) := by decide +kernel
theorem dX6_at_39 : decode cX6_at 39 = .ok (.iload 4, 2) := by decide +kernel
theorem dX6_at_41 : decode cX6_at 41 = .ok (.iconst 0, 1) := by decide +kernel
theorem dX6_at_42 : decode cX6_at 42 = .ok (.iconst 1, 1) := by decide +kernel
theorem dX6_at_43 : decode cX6_at 43 = .ok (.invokestatic 79, 3) := by decide +kernel
theorem dX6_at_46 : decode cX6_at 46 = .ok (.ifCond .ne 7, 3) := by decide +kernel
theorem dX6_at_49 : decode cX6_at 49 = .ok (.ldc2_w 106, 3) := by decide +kernel
theorem dX6_at_52 : decode cX6_at 52 = .ok (.lreturn, 1) := by decide +kernel
theorem dX6_at_53 : decode cX6_at 53 = .ok (.aload_n 0, 1) := by decide +kernel
theorem dX6_at_54 : decode cX6_at 54 = .ok (.iload_n 1, 1) := by decide +kernel
theorem dX6_at_55 : decode cX6_at 55 = .ok (.iconst (-1), 1) := by decide +kernel
theorem dX6_at_56 : decode cX6_at 56 = .ok (.iconst 0, 1) := by decide +kernel
theorem dX6_at_57 : decode cX6_at 57 = .ok (.invokevirtual 180, 3) := by decide +kernel
theorem dX6_at_60 : decode cX6_at 60 = .ok (.lstore 5, 2) := by decide +kernel
theorem dX6_at_62 : decode cX6_at 62 = .ok (.lload 5, 2) := by decide +kernel
theorem dX6_at_64 : decode cX6_at 64 = .ok (.lconst 0, 1) := by decide +kernel
theorem dX6_at_65 : decode cX6_at 65 = .ok (.lcmp, 1) := by decide +kernel
theorem dX6_at_66 : decode cX6_at 66 = .ok (.ifCond .ne 10, 3) := by decide +kernel
theorem dX6_at_69 : decode cX6_at 69 = .ok (.aload_n 0, 1) := by decide +kernel
theorem dX6_at_70 : decode cX6_at 70 = .ok (.iconst 1, 1) := by decide +kernel
theorem dX6_at_71 : decode cX6_at 71 = .ok (.putfield 69, 3) := by decide +kernel
theorem dX6_at_74 : decode cX6_at 74 = .ok (.lconst 0, 1) := by decide +kernel
theorem dX6_at_75 : decode cX6_at 75 = .ok (.lreturn, 1) := by decide +kernel
theorem dX6_at_76 : decode cX6_at 76 = .ok (.aload_n 0, 1) := by decide +kernel
theorem dX6_at_77 : decode cX6_at 77 = .ok (.iload_n 1, 1) := by decide +kernel
theorem dX6_at_78 : decode cX6_at 78 = .ok (.iload_n 2, 1) := by decide +kernel
theorem dX6_at_79 : decode cX6_at 79 = .ok (.iload_n 3, 1) := by decide +kernel
theorem dX6_at_80 : decode cX6_at 80 = .ok (.invokevirtual 180, 3) := by decide +kernel
theorem dX6_at_83 : decode cX6_at 83 = .ok (.lload 5, 2) := by decide +kernel
theorem dX6_at_85 : decode cX6_at 85 = .ok (.iload 4, 2) := by decide +kernel
theorem dX6_at_87 : decode cX6_at 87 = .ok (.invokestatic 116, 3) := by decide +kernel
theorem dX6_at_90 : decode cX6_at 90 = .ok (.lreturn, 1) := by decide +kernel
set_option maxRecDepth 20000 in
theorem ggX6_countPath_X6_stateOf : GoodIn wsX6_countPath wsX6_stateOf := goodIn_r _ [10, 1, 11, 12, 13, 14, 15, 16, 17, 18, 19, 20, 21, 22, 23, 24, 25, 26, 27, 28, 29, 30, 31, 32, 33, 34, 35] (by decide +kernel) (by decide +kernel)
set_option maxRecDepth 20000 in
theorem gX6_countPath_X6_stateOf : GoodIn wsX6_countPath (wsV RX6 167 RX6 yX6_stateOf wsX6_stateOf) := goodIn_app (goodIn_of _ (by decide +kernel)) ggX6_countPath_X6_stateOf
theorem dX6_countPath_0 : decode cX6_countPath 0 = .ok (.iconst 0, 1) := by decide +kernel
theorem dX6_countPath_1 : decode cX6_countPath 1 = .ok (.istore_n 3, 1) := by decide +kernel
theorem dX6_countPath_2 : decode cX6_countPath 2 = .ok (.iload_n 3, 1) := by decide +kernel
theorem dX6_countPath_3 : decode cX6_countPath 3 = .ok (.aload_n 0, 1) := by decide +kernel
theorem dX6_countPath_4 : decode cX6_countPath 4 = .ok (.getfield 54, 3) := by decide +kernel
theorem dX6_countPath_7 : decode cX6_countPath 7 = .ok (.iload_n 2, 1) := by decide +kernel
theorem dX6_countPath_8 : decode cX6_countPath 8 = .ok (.iaload, 1) := by decide +kernel
theorem dX6_countPath_9 : decode cX6_countPath 9 = .ok (.if_icmp .ge 83, 3) := by decide +kernel
theorem dX6_countPath_12 : decode cX6_countPath 12 = .ok (.aload_n 0, 1) := by decide +kernel
theorem dX6_countPath_13 : decode cX6_countPath 13 = .ok (.iload_n 1, 1) := by decide +kernel
theorem dX6_countPath_14 : decode cX6_countPath 14 = .ok (.iload_n 2, 1) := by decide +kernel
theorem dX6_countPath_15 : decode cX6_countPath 15 = .ok (.iload_n 3, 1) := by decide +kernel
theorem dX6_countPath_16 : decode cX6_countPath 16 = .ok (.invokevirtual 167, 3) := by decide +kernel
theorem dX6_countPath_19 : decode cX6_countPath 19 = .ok (.istore 4, 2) := by decide +kernel
theorem dX6_countPath_21 : decode cX6_countPath 21 = .ok (.iload_n 3, 1) := by decide +kernel
theorem dX6_countPath_22 : decode cX6_countPath 22 = .ok (.ifCond .ne 17, 3) := by decide +kernel
theorem dX6_countPath_25 : decode cX6_countPath 25 = .ok (.aload_n 0, 1) := by decide +kernel
theorem dX6_countPath_26 : decode cX6_countPath 26 = .ok (.getfield 60, 3) := by decide +kernel
theorem dX6_countPath_29 : decode cX6_countPath 29 = .ok (.iload 4, 2) := by decide +kernel
theorem dX6_countPath_31 : decode cX6_countPath 31 = .ok (.dup2, 1) := by decide +kernel
theorem dX6_countPath_32 : decode cX6_countPath 32 = .ok (.iaload, 1) := by decide +kernel
theorem dX6_countPath_33 : decode cX6_countPath 33 = .ok (.iconst 1, 1) := by decide +kernel
theorem dX6_countPath_34 : decode cX6_countPath 34 = .ok (.iadd, 1) := by decide +kernel
theorem dX6_countPath_35 : decode cX6_countPath 35 = .ok (.iastore, 1) := by decide +kernel
theorem dX6_countPath_36 : decode cX6_countPath 36 = .ok (.goto 26, 3) := by decide +kernel
theorem dX6_countPath_39 : decode cX6_countPath 39 = .ok (.aload_n 0, 1) := by decide +kernel
theorem dX6_countPath_40 : decode cX6_countPath 40 = .ok (.getfield 63, 3) := by decide +kernel
theorem dX6_countPath_43 : decode cX6_countPath 43 = .ok (.iconst 4, 1) := by decide +kernel
theorem dX6_countPath_44 : decode cX6_countPath 44 = .ok (.aload_n 0, 1) := by decide +kernel
theorem dX6_countPath_45 : decode cX6_countPath 45 = .ok (.iload_n 1, 1) := by decide +kernel
theorem dX6_countPath_46 : decode cX6_countPath 46 = .ok (.iload_n 2, 1) := by decide +kernel
theorem dX6_countPath_47 : decode cX6_countPath 47 = .ok (.iload_n 3, 1) := by decide +kernel
theorem dX6_countPath_48 : decode cX6_countPath 48 = .ok (.iconst 1, 1) := by decide +kernel
theorem dX6_countPath_49 : decode cX6_countPath 49 = .ok (.isub, 1) := by decide +kernel
theorem dX6_countPath_50 : decode cX6_countPath 50 = .ok (.invokevirtual 167, 3) := by decide +kernel
theorem dX6_countPath_53 : decode cX6_countPath 53 = .ok (.imul, 1) := by decide +kernel
theorem dX6_countPath_54 : decode cX6_countPath 54 = .ok (.iload 4, 2) := by decide +kernel
theorem dX6_countPath_56 : decode cX6_countPath 56 = .ok (.iadd, 1) := by decide +kernel
theorem dX6_countPath_57 : decode cX6_countPath 57 = .ok (.dup2, 1) := by decide +kernel
theorem dX6_countPath_58 : decode cX6_countPath 58 = .ok (.iaload, 1) := by decide +kernel
theorem dX6_countPath_59 : decode cX6_countPath 59 = .ok (.iconst 1, 1) := by decide +kernel
theorem dX6_countPath_60 : decode cX6_countPath 60 = .ok (.iadd, 1) := by decide +kernel
theorem dX6_countPath_61 : decode cX6_countPath 61 = .ok (.iastore, 1) := by decide +kernel
theorem dX6_countPath_62 : decode cX6_countPath 62 = .ok (.aload_n 0, 1) := by decide +kernel
theorem dX6_countPath_63 : decode cX6_countPath 63 = .ok (.getfield 66, 3) := by decide +kernel
theorem dX6_countPath_66 : decode cX6_countPath 66 = .ok (.iconst 4, 1) := by decide +kernel
theorem dX6_countPath_67 : decode cX6_countPath 67 = .ok (.iload 4, 2) := by decide +kernel
theorem dX6_countPath_69 : decode cX6_countPath 69 = .ok (.imul, 1) := by decide +kernel
theorem dX6_countPath_70 : decode cX6_countPath 70 = .ok (.aload_n 0, 1) := by decide +kernel
theorem dX6_countPath_71 : decode cX6_countPath 71 = .ok (.getfield 51, 3) := by decide +kernel
theorem dX6_countPath_74 : decode cX6_countPath 74 = .ok (.iconst 5, 1) := by decide +kernel
theorem dX6_countPath_75 : decode cX6_countPath 75 = .ok (.iload_n 2, 1) := by decide +kernel
theorem dX6_countPath_76 : decode cX6_countPath 76 = .ok (.imul, 1) := by decide +kernel
theorem dX6_countPath_77 : decode cX6_countPath 77 = .ok (.iload_n 3, 1) := by decide +kernel
theorem dX6_countPath_78 : decode cX6_countPath 78 = .ok (.iadd, 1) := by decide +kernel
theorem dX6_countPath_79 : decode cX6_countPath 79 = .ok (.iaload, 1) := by decide +kernel
theorem dX6_countPath_80 : decode cX6_countPath 80 = .ok (.iadd, 1) := by decide +kernel
theorem dX6_countPath_81 : decode cX6_countPath 81 = .ok (.dup2, 1) := by decide +kernel
theorem dX6_countPath_82 : decode cX6_countPath 82 = .ok (.iaload, 1) := by decide +kernel
theorem dX6_countPath_83 : decode cX6_countPath 83 = .ok (.iconst 1, 1) := by decide +kernel
theorem dX6_countPath_84 : decode cX6_countPath 84 = .ok (.iadd, 1) := by decide +kernel
theorem dX6_countPath_85 : decode cX6_countPath 85 = .ok (.iastore, 1) := by decide +kernel
theorem dX6_countPath_86 : decode cX6_countPath 86 = .ok (.iinc 3 1, 3) := by decide +kernel
theorem dX6_countPath_89 : decode cX6_countPath 89 = .ok (.goto (-87), 3) := by decide +kernel
theorem dX6_countPath_92 : decode cX6_countPath 92 = .ok (.return_, 1) := by decide +kernel
set_option maxRecDepth 20000 in
theorem ggX6_learnt_X6_bestPathOf : GoodIn wsX6_learnt wsX6_bestPathOf := goodIn_r _ [12, 13, 14, 15, 11, 16, 17, 18, 19, 20, 21, 5, 6, 7, 22, 23, 24, 25, 26, 31, 32, 33, 34, 35, 36, 37, 38, 39, 40, 41, 42, 43, 44, 45, 46, 47, 48, 49, 50, 51, 52, 53, 54, 55] (by decide +kernel) (by decide +kernel)
set_option maxRecDepth 20000 in
theorem gX6_learnt_X6_bestPathOf : GoodIn wsX6_learnt (wsV RX6 177 RX6 yX6_bestPathOf wsX6_bestPathOf) := goodIn_app (goodIn_of _ (by decide +kernel)) ggX6_learnt_X6_bestPathOf
set_option maxRecDepth 20000 in
theorem ggX6_learnt_X6_countPath : GoodIn wsX6_learnt wsX6_countPath := goodIn_r _ [30, 17, 1, 2, 3, 22, 23, 24, 25, 11, 26, 31, 32, 33, 34, 35, 36, 37, 38, 39, 40, 41, 42, 43, 44, 45, 46, 47, 48, 49, 50, 51, 52, 53, 54, 55] (by decide +kernel) (by decide +kernel)
set_option maxRecDepth 20000 in
theorem gX6_learnt_X6_countPath : GoodIn wsX6_learnt (wsV RX6 184 RX6 yX6_countPath wsX6_countPath) := goodIn_app (goodIn_of _ (by decide +kernel)) ggX6_learnt_X6_countPath
theorem dX6_learnt_0 : decode cX6_learnt 0 = .ok (.iconst 0, 1) := by decide +kernel
theorem dX6_learnt_1 : decode cX6_learnt 1 = .ok (.istore_n 1, 1) := by decide +kernel
theorem dX6_learnt_2 : decode cX6_learnt 2 = .ok (.iload_n 1, 1) := by decide +kernel
theorem dX6_learnt_3 : decode cX6_learnt 3 = .ok (.bipush 16, 2) := by decide +kernel
theorem dX6_learnt_5 : decode cX6_learnt 5 = .ok (.if_icmp .ge 32, 3) := by decide +kernel
theorem dX6_learnt_8 : decode cX6_learnt 8 = .ok (.aload_n 0, 1) := by decide +kernel
theorem dX6_learnt_9 : decode cX6_learnt 9 = .ok (.getfield 60, 3) := by decide +kernel
theorem dX6_learnt_12 : decode cX6_learnt 12 = .ok (.iload_n 1, 1) := by decide +kernel
theorem dX6_learnt_13 : decode cX6_learnt 13 = .ok (.iconst 4, 1) := by decide +kernel
theorem dX6_learnt_14 : decode cX6_learnt 14 = .ok (.irem, 1) := by decide +kernel
theorem dX6_learnt_15 : decode cX6_learnt 15 = .ok (.iconst 1, 1) := by decide +kernel
theorem dX6_learnt_16 : decode cX6_learnt 16 = .ok (.iastore, 1) := by decide +kernel
theorem dX6_learnt_17 : decode cX6_learnt 17 = .ok (.aload_n 0, 1) := by decide +kernel
theorem dX6_learnt_18 : decode cX6_learnt 18 = .ok (.getfield 63, 3) := by decide +kernel
theorem dX6_learnt_21 : decode cX6_learnt 21 = .ok (.iload_n 1, 1) := by decide +kernel
theorem dX6_learnt_22 : decode cX6_learnt 22 = .ok (.iconst 1, 1) := by decide +kernel
theorem dX6_learnt_23 : decode cX6_learnt 23 = .ok (.iastore, 1) := by decide +kernel
theorem dX6_learnt_24 : decode cX6_learnt 24 = .ok (.aload_n 0, 1) := by decide +kernel
theorem dX6_learnt_25 : decode cX6_learnt 25 = .ok (.getfield 66, 3) := by decide +kernel
theorem dX6_learnt_28 : decode cX6_learnt 28 = .ok (.iload_n 1, 1) := by decide +kernel
theorem dX6_learnt_29 : decode cX6_learnt 29 = .ok (.iconst 1, 1) := by decide +kernel
theorem dX6_learnt_30 : decode cX6_learnt 30 = .ok (.iastore, 1) := by decide +kernel
theorem dX6_learnt_31 : decode cX6_learnt 31 = .ok (.iinc 1 1, 3) := by decide +kernel
theorem dX6_learnt_34 : decode cX6_learnt 34 = .ok (.goto (-32), 3) := by decide +kernel
theorem dX6_learnt_37 : decode cX6_learnt 37 = .ok (.iconst 0, 1) := by decide +kernel
theorem dX6_learnt_38 : decode cX6_learnt 38 = .ok (.istore_n 1, 1) := by decide +kernel
theorem dX6_learnt_39 : decode cX6_learnt 39 = .ok (.iload_n 1, 1) := by decide +kernel
theorem dX6_learnt_40 : decode cX6_learnt 40 = .ok (.iconst 4, 1) := by decide +kernel
theorem dX6_learnt_41 : decode cX6_learnt 41 = .ok (.if_icmp .ge 41, 3) := by decide +kernel
theorem dX6_learnt_44 : decode cX6_learnt 44 = .ok (.aload_n 0, 1) := by decide +kernel
theorem dX6_learnt_45 : decode cX6_learnt 45 = .ok (.getfield 57, 3) := by decide +kernel
theorem dX6_learnt_48 : decode cX6_learnt 48 = .ok (.iload_n 1, 1) := by decide +kernel
theorem dX6_learnt_49 : decode cX6_learnt 49 = .ok (.aload_n 0, 1) := by decide +kernel
theorem dX6_learnt_50 : decode cX6_learnt 50 = .ok (.iload_n 1, 1) := by decide +kernel
theorem dX6_learnt_51 : decode cX6_learnt 51 = .ok (.invokevirtual 177, 3) := by decide +kernel
theorem dX6_learnt_54 : decode cX6_learnt 54 = .ok (.iastore, 1) := by decide +kernel
theorem dX6_learnt_55 : decode cX6_learnt 55 = .ok (.aload_n 0, 1) := by decide +kernel
theorem dX6_learnt_56 : decode cX6_learnt 56 = .ok (.getfield 57, 3) := by decide +kernel
theorem dX6_learnt_59 : decode cX6_learnt 59 = .ok (.iload_n 1, 1) := by decide +kernel
theorem dX6_learnt_60 : decode cX6_learnt 60 = .ok (.iaload, 1) := by decide +kernel
theorem dX6_learnt_61 : decode cX6_learnt 61 = .ok (.iconst (-1), 1) := by decide +kernel
theorem dX6_learnt_62 : decode cX6_learnt 62 = .ok (.if_icmp .eq 14, 3) := by decide +kernel
theorem dX6_learnt_65 : decode cX6_learnt 65 = .ok (.aload_n 0, 1) := by decide +kernel
theorem dX6_learnt_66 : decode cX6_learnt 66 = .ok (.aload_n 0, 1) := by decide +kernel
theorem dX6_learnt_67 : decode cX6_learnt 67 = .ok (.getfield 57, 3) := by decide +kernel
theorem dX6_learnt_70 : decode cX6_learnt 70 = .ok (.iload_n 1, 1) := by decide +kernel
theorem dX6_learnt_71 : decode cX6_learnt 71 = .ok (.iaload, 1) := by decide +kernel
theorem dX6_learnt_72 : decode cX6_learnt 72 = .ok (.iload_n 1, 1) := by decide +kernel
theorem dX6_learnt_73 : decode cX6_learnt 73 = .ok (.invokevirtual 184, 3) := by decide +kernel
theorem dX6_learnt_76 : decode cX6_learnt 76 = .ok (.iinc 1 1, 3) := by decide +kernel
theorem dX6_learnt_79 : decode cX6_learnt 79 = .ok (.goto (-40), 3) := by decide +kernel
theorem dX6_learnt_82 : decode cX6_learnt 82 = .ok (.iconst 0, 1) := by decide +kernel
theorem dX6_learnt_83 : decode cX6_learnt 83 = .ok (.istore_n 1, 1) := by decide +kernel
theorem dX6_learnt_84 : decode cX6_learnt 84 = .ok (.iconst 0, 1) := by decide +kernel
theorem dX6_learnt_85 : decode cX6_learnt 85 = .ok (.istore_n 2, 1) := by decide +kernel
theorem dX6_learnt_86 : decode cX6_learnt 86 = .ok (.iload_n 2, 1) := by decide +kernel
theorem dX6_learnt_87 : decode cX6_learnt 87 = .ok (.bipush 16, 2) := by decide +kernel
theorem dX6_learnt_89 : decode cX6_learnt 89 = .ok (.if_icmp .ge 68, 3) := by decide +kernel
theorem dX6_learnt_92 : decode cX6_learnt 92 = .ok (.iload_n 1, 1) := by decide +kernel
theorem dX6_learnt_93 : decode cX6_learnt 93 = .ok (.ifCond .ne 52, 3) := by decide +kernel
theorem dX6_learnt_96 : decode cX6_learnt 96 = .ok (.aload_n 0, 1) := by decide +kernel
theorem dX6_learnt_97 : decode cX6_learnt 97 = .ok (.getfield 42, 3) := by decide +kernel
theorem dX6_learnt_100 : decode cX6_learnt 100 = .ok (.iload_n 2, 1) := by decide +kernel
theorem dX6_learnt_101 : decode cX6_learnt 101 = .ok (.iconst 4, 1) := by decide +kernel
theorem dX6_learnt_102 : decode cX6_learnt 102 = .ok (.irem, 1) := by decide +kernel
theorem dX6_learnt_103 : decode cX6_learnt 103 = .ok (.iaload, 1) := by decide +kernel
theorem dX6_learnt_104 : decode cX6_learnt 104 = .ok (.aload_n 0, 1) := by decide +kernel
theorem dX6_learnt_105 : decode cX6_learnt 105 = .ok (.getfield 60, 3) := by decide +kernel
theorem dX6_learnt_108 : decode cX6_learnt 108 = .ok (.iload_n 2, 1) := by decide +kernel
theorem dX6_learnt_109 : decode cX6_learnt 109 = .ok (.iconst 4, 1) := by decide +kernel
theorem dX6_learnt_110 : decode cX6_learnt 110 = .ok (.irem, 1) := by decide +kernel
theorem dX6_learnt_111 : decode cX6_learnt 111 = .ok (.iaload, 1) := by decide +kernel
theorem dX6_learnt_112 : decode cX6_learnt 112 = .ok (.if_icmp .ne 33, 3) := by decide +kernel
theorem dX6_learnt_115 : decode cX6_learnt 115 = .ok (.aload_n 0, 1) := by decide +kernel
theorem dX6_learnt_116 : decode cX6_learnt 116 = .ok (.getfield 45, 3) := by decide +kernel
theorem dX6_learnt_119 : decode cX6_learnt 119 = .ok (.iload_n 2, 1) := by decide +kernel
theorem dX6_learnt_120 : decode cX6_learnt 120 = .ok (.iaload, 1) := by decide +kernel
theorem dX6_learnt_121 : decode cX6_learnt 121 = .ok (.aload_n 0, 1) := by decide +kernel
theorem dX6_learnt_122 : decode cX6_learnt 122 = .ok (.getfield 63, 3) := by decide +kernel
theorem dX6_learnt_125 : decode cX6_learnt 125 = .ok (.iload_n 2, 1) := by decide +kernel
theorem dX6_learnt_126 : decode cX6_learnt 126 = .ok (.iaload, 1) := by decide +kernel
theorem dX6_learnt_127 : decode cX6_learnt 127 = .ok (.if_icmp .ne 18, 3) := by decide +kernel
theorem dX6_learnt_130 : decode cX6_learnt 130 = .ok (.aload_n 0, 1) := by decide +kernel
theorem dX6_learnt_131 : decode cX6_learnt 131 = .ok (.getfield 48, 3) := by decide +kernel
theorem dX6_learnt_134 : decode cX6_learnt 134 = .ok (.iload_n 2, 1) := by decide +kernel
theorem dX6_learnt_135 : decode cX6_learnt 135 = .ok (.iaload, 1) := by decide +kernel
theorem dX6_learnt_136 : decode cX6_learnt 136 = .ok (.aload_n 0, 1) := by decide +kernel
theorem dX6_learnt_137 : decode cX6_learnt 137 = .ok (.getfield 66, 3) := by decide +kernel
theorem dX6_learnt_140 : decode cX6_learnt 140 = .ok (.iload_n 2, 1) := by decide +kernel
theorem dX6_learnt_141 : decode cX6_learnt 141 = .ok (.iaload, 1) := by decide +kernel
theorem dX6_learnt_142 : decode cX6_learnt 142 = .ok (.if_icmp .eq 7, 3) := by decide +kernel
theorem dX6_learnt_145 : decode cX6_learnt 145 = .ok (.iconst 1, 1) := by decide +kernel
theorem dX6_learnt_146 : decode cX6_learnt 146 = .ok (.goto 4, 3) := by decide +kernel
theorem dX6_learnt_149 : decode cX6_learnt 149 = .ok (.iconst 0, 1) := by decide +kernel
theorem dX6_learnt_150 : decode cX6_learnt 150 = .ok (.istore_n 1, 1) := by decide +kernel
theorem dX6_learnt_151 : decode cX6_learnt 151 = .ok (.iinc 2 1, 3) := by decide +kernel
theorem dX6_learnt_154 : decode cX6_learnt 154 = .ok (.goto (-68), 3) := by decide +kernel
theorem dX6_learnt_157 : decode cX6_learnt 157 = .ok (.iconst 0, 1) := by decide +kernel
theorem dX6_learnt_158 : decode cX6_learnt 158 = .ok (.istore_n 2, 1) := by decide +kernel
theorem dX6_learnt_159 : decode cX6_learnt 159 = .ok (.iload_n 2, 1) := by decide +kernel
theorem dX6_learnt_160 : decode cX6_learnt 160 = .ok (.bipush 16, 2) := by decide +kernel
theorem dX6_learnt_162 : decode cX6_learnt 162 = .ok (.if_icmp .ge 49, 3) := by decide +kernel
theorem dX6_learnt_165 : decode cX6_learnt 165 = .ok (.aload_n 0, 1) := by decide +kernel
theorem dX6_learnt_166 : decode cX6_learnt 166 = .ok (.getfield 42, 3) := by decide +kernel
theorem dX6_learnt_169 : decode cX6_learnt 169 = .ok (.iload_n 2, 1) := by decide +kernel
theorem dX6_learnt_170 : decode cX6_learnt 170 = .ok (.iconst 4, 1) := by decide +kernel
theorem dX6_learnt_171 : decode cX6_learnt 171 = .ok (.irem, 1) := by decide +kernel
theorem dX6_learnt_172 : decode cX6_learnt 172 = .ok (.aload_n 0, 1) := by decide +kernel
theorem dX6_learnt_173 : decode cX6_learnt 173 = .ok (.getfield 60, 3) := by decide +kernel
theorem dX6_learnt_176 : decode cX6_learnt 176 = .ok (.iload_n 2, 1) := by decide +kernel
theorem dX6_learnt_177 : decode cX6_learnt 177 = .ok (.iconst 4, 1) := by decide +kernel
theorem dX6_learnt_178 : decode cX6_learnt 178 = .ok (.irem, 1) := by decide +kernel
theorem dX6_learnt_179 : decode cX6_learnt 179 = .ok (.iaload, 1) := by decide +kernel
theorem dX6_learnt_180 : decode cX6_learnt 180 = .ok (.iastore, 1) := by decide +kernel
theorem dX6_learnt_181 : decode cX6_learnt 181 = .ok (.aload_n 0, 1) := by decide +kernel
theorem dX6_learnt_182 : decode cX6_learnt 182 = .ok (.getfield 45, 3) := by decide +kernel
theorem dX6_learnt_185 : decode cX6_learnt 185 = .ok (.iload_n 2, 1) := by decide +kernel
theorem dX6_learnt_186 : decode cX6_learnt 186 = .ok (.aload_n 0, 1) := by decide +kernel
theorem dX6_learnt_187 : decode cX6_learnt 187 = .ok (.getfield 63, 3) := by decide +kernel
theorem dX6_learnt_190 : decode cX6_learnt 190 = .ok (.iload_n 2, 1) := by decide +kernel
theorem dX6_learnt_191 : decode cX6_learnt 191 = .ok (.iaload, 1) := by decide +kernel
theorem dX6_learnt_192 : decode cX6_learnt 192 = .ok (.iastore, 1) := by decide +kernel
theorem dX6_learnt_193 : decode cX6_learnt 193 = .ok (.aload_n 0, 1) := by decide +kernel
theorem dX6_learnt_194 : decode cX6_learnt 194 = .ok (.getfield 48, 3) := by decide +kernel
theorem dX6_learnt_197 : decode cX6_learnt 197 = .ok (.iload_n 2, 1) := by decide +kernel
theorem dX6_learnt_198 : decode cX6_learnt 198 = .ok (.aload_n 0, 1) := by decide +kernel
theorem dX6_learnt_199 : decode cX6_learnt 199 = .ok (.getfield 66, 3) := by decide +kernel
theorem dX6_learnt_202 : decode cX6_learnt 202 = .ok (.iload_n 2, 1) := by decide +kernel
theorem dX6_learnt_203 : decode cX6_learnt 203 = .ok (.iaload, 1) := by decide +kernel
theorem dX6_learnt_204 : decode cX6_learnt 204 = .ok (.iastore, 1) := by decide +kernel
theorem dX6_learnt_205 : decode cX6_learnt 205 = .ok (.iinc 2 1, 3) := by decide +kernel
theorem dX6_learnt_208 : decode cX6_learnt 208 = .ok (.goto (-49), 3) := by decide +kernel
theorem dX6_learnt_211 : decode cX6_learnt 211 = .ok (.iload_n 1, 1) := by decide +kernel
theorem dX6_learnt_212 : decode cX6_learnt 212 = .ok (.ireturn, 1) := by decide +kernel
set_option maxRecDepth 20000 in
theorem ggX6_learn_X6_within : GoodIn wsX6_learn wsX6_within := goodIn_r _ [5] (by decide +kernel) (by decide +kernel)
set_option maxRecDepth 20000 in
theorem gX6_learn_X6_within : GoodIn wsX6_learn (va_wsS RX6 79 yX6_within wsX6_within) := goodIn_app (goodIn_of _ (by decide +kernel)) ggX6_learn_X6_within
set_option maxRecDepth 20000 in
theorem ggX6_learn_X6_learnt : GoodIn wsX6_learn wsX6_learnt := goodIn_r _ [9, 10, 11, 12, 13, 14, 15, 16, 17, 18, 19, 4, 20, 21, 22, 23, 24, 25, 26, 27, 28, 29, 30, 31, 32, 33, 34, 35, 36, 37, 38, 39, 40, 41, 42, 43, 44, 45, 46, 47, 48, 49, 50, 51, 52, 53, 54, 55, 56, 57, 58, 59, 60, 61, 62, 63] (by decide +kernel) (by decide +kernel)
set_option maxRecDepth 20000 in
theorem gX6_learn_X6_learnt : GoodIn wsX6_learn (wsV RX6 187 RX6 yX6_learnt wsX6_learnt) := goodIn_app (goodIn_of _ (by decide +kernel)) ggX6_learn_X6_learnt
theorem dX6_learn_0 : decode cX6_learn 0 = .ok (.aload_n 0, 1) := by decide +kernel
theorem dX6_learn_1 : decode cX6_learn 1 = .ok (.iconst 0, 1) := by decide +kernel
theorem dX6_learn_2 : decode cX6_learn 2 = .ok (.putfield 69, 3) := by decide +kernel
theorem dX6_learn_5 : decode cX6_learn 5 = .ok (.iload_n 1, 1) := by decide +kernel
theorem dX6_learn_6 : decode cX6_learn 6 = .ok (.iconst 1, 1) := by decide +kernel
theorem dX6_learn_7 : decode cX6_learn 7 = .ok (.bipush 20, 2) := by decide +kernel
theorem dX6_learn_9 : decode cX6_learn 9 = .ok (.invokestatic 79, 3) := by decide +kernel
theorem dX6_learn_12 : decode cX6_learn 12 = .ok (.ifCond .ne 6, 3) := by decide +kernel
theorem dX6_learn_15 : decode cX6_learn 15 = .ok (.bipush (-2), 2) := by decide +kernel
theorem dX6_learn_17 : decode cX6_learn 17 = .ok (.ireturn, 1) := by decide +kernel
theorem dX6_learn_18 : decode cX6_learn 18 = .ok (.iconst 1, 1) := by decide +kernel
theorem dX6_learn_19 : decode cX6_learn 19 = .ok (.istore_n 2, 1) := by decide +kernel
theorem dX6_learn_20 : decode cX6_learn 20 = .ok (.aload_n 0, 1) := by decide +kernel
theorem dX6_learn_21 : decode cX6_learn 21 = .ok (.invokevirtual 187, 3) := by decide +kernel
theorem dX6_learn_24 : decode cX6_learn 24 = .ok (.ifCond .eq 14, 3) := by decide +kernel
theorem dX6_learn_27 : decode cX6_learn 27 = .ok (.iload_n 2, 1) := by decide +kernel
theorem dX6_learn_28 : decode cX6_learn 28 = .ok (.iload_n 1, 1) := by decide +kernel
theorem dX6_learn_29 : decode cX6_learn 29 = .ok (.if_icmp .ge 9, 3) := by decide +kernel
theorem dX6_learn_32 : decode cX6_learn 32 = .ok (.iinc 2 1, 3) := by decide +kernel
theorem dX6_learn_35 : decode cX6_learn 35 = .ok (.goto (-15), 3) := by decide +kernel
theorem dX6_learn_38 : decode cX6_learn 38 = .ok (.iload_n 2, 1) := by decide +kernel
theorem dX6_learn_39 : decode cX6_learn 39 = .ok (.ireturn, 1) := by decide +kernel
theorem dX6_has_0 : decode cX6_has 0 = .ok (.iconst 0, 1) := by decide +kernel
theorem dX6_has_1 : decode cX6_has 1 = .ok (.istore_n 3, 1) := by decide +kernel
theorem dX6_has_2 : decode cX6_has 2 = .ok (.iconst 0, 1) := by decide +kernel
theorem dX6_has_3 : decode cX6_has 3 = .ok (.istore 4, 2) := by decide +kernel
theorem dX6_has_5 : decode cX6_has 5 = .ok (.iload 4, 2) := by decide +kernel
theorem dX6_has_7 : decode cX6_has 7 = .ok (.aload_n 0, 1) := by decide +kernel
theorem dX6_has_8 : decode cX6_has 8 = .ok (.getfield 19, 3) := by decide +kernel
theorem dX6_has_11 : decode cX6_has 11 = .ok (.iload_n 1, 1) := by decide +kernel
theorem dX6_has_12 : decode cX6_has 12 = .ok (.iaload, 1) := by decide +kernel
theorem dX6_has_13 : decode cX6_has 13 = .ok (.if_icmp .ge 35, 3) := by decide +kernel
theorem dX6_has_16 : decode cX6_has 16 = .ok (.iload_n 3, 1) := by decide +kernel
theorem dX6_has_17 : decode cX6_has 17 = .ok (.ifCond .ne 31, 3) := by decide +kernel
theorem dX6_has_20 : decode cX6_has 20 = .ok (.aload_n 0, 1) := by decide +kernel
theorem dX6_has_21 : decode cX6_has 21 = .ok (.getfield 22, 3) := by decide +kernel
theorem dX6_has_24 : decode cX6_has 24 = .ok (.bipush 6, 2) := by decide +kernel
theorem dX6_has_26 : decode cX6_has 26 = .ok (.iload_n 1, 1) := by decide +kernel
theorem dX6_has_27 : decode cX6_has 27 = .ok (.imul, 1) := by decide +kernel
theorem dX6_has_28 : decode cX6_has 28 = .ok (.iload 4, 2) := by decide +kernel
theorem dX6_has_30 : decode cX6_has 30 = .ok (.iadd, 1) := by decide +kernel
theorem dX6_has_31 : decode cX6_has 31 = .ok (.iaload, 1) := by decide +kernel
theorem dX6_has_32 : decode cX6_has 32 = .ok (.iload_n 2, 1) := by decide +kernel
theorem dX6_has_33 : decode cX6_has 33 = .ok (.if_icmp .ne 7, 3) := by decide +kernel
theorem dX6_has_36 : decode cX6_has 36 = .ok (.iconst 1, 1) := by decide +kernel
theorem dX6_has_37 : decode cX6_has 37 = .ok (.goto 4, 3) := by decide +kernel
theorem dX6_has_40 : decode cX6_has 40 = .ok (.iconst 0, 1) := by decide +kernel
theorem dX6_has_41 : decode cX6_has 41 = .ok (.istore_n 3, 1) := by decide +kernel
theorem dX6_has_42 : decode cX6_has 42 = .ok (.iinc 4 1, 3) := by decide +kernel
theorem dX6_has_45 : decode cX6_has 45 = .ok (.goto (-40), 3) := by decide +kernel
theorem dX6_has_48 : decode cX6_has 48 = .ok (.iload_n 3, 1) := by decide +kernel
theorem dX6_has_49 : decode cX6_has 49 = .ok (.ireturn, 1) := by decide +kernel
set_option maxRecDepth 20000 in
theorem ggX6_support_X6_has : GoodIn wsX6_support wsX6_has := goodIn_r _ [6, 7, 8, 9, 10, 11, 12, 13, 14, 15, 16, 17, 18, 19, 20, 21, 22, 23, 24, 25, 26, 27, 28, 29, 30, 31, 32, 33] (by decide +kernel) (by decide +kernel)
set_option maxRecDepth 20000 in
theorem gX6_support_X6_has : GoodIn wsX6_support (wsV RX6 190 RX6 yX6_has wsX6_has) := goodIn_app (goodIn_of _ (by decide +kernel)) ggX6_support_X6_has
theorem dX6_support_0 : decode cX6_support 0 = .ok (.iconst 0, 1) := by decide +kernel
theorem dX6_support_1 : decode cX6_support 1 = .ok (.istore_n 3, 1) := by decide +kernel
theorem dX6_support_2 : decode cX6_support 2 = .ok (.iconst 0, 1) := by decide +kernel
theorem dX6_support_3 : decode cX6_support 3 = .ok (.istore 4, 2) := by decide +kernel
theorem dX6_support_5 : decode cX6_support 5 = .ok (.iload 4, 2) := by decide +kernel
theorem dX6_support_7 : decode cX6_support 7 = .ok (.aload_n 0, 1) := by decide +kernel
theorem dX6_support_8 : decode cX6_support 8 = .ok (.getfield 76, 3) := by decide +kernel
theorem dX6_support_11 : decode cX6_support 11 = .ok (.if_icmp .ge 37, 3) := by decide +kernel
theorem dX6_support_14 : decode cX6_support 14 = .ok (.iload_n 3, 1) := by decide +kernel
theorem dX6_support_15 : decode cX6_support 15 = .ok (.aload_n 0, 1) := by decide +kernel
theorem dX6_support_16 : decode cX6_support 16 = .ok (.iload 4, 2) := by decide +kernel
theorem dX6_support_18 : decode cX6_support 18 = .ok (.iload_n 1, 1) := by decide +kernel
theorem dX6_support_19 : decode cX6_support 19 = .ok (.invokevirtual 190, 3) := by decide +kernel
theorem dX6_support_22 : decode cX6_support 22 = .ok (.ifCond .eq 17, 3) := by decide +kernel
theorem dX6_support_25 : decode cX6_support 25 = .ok (.aload_n 0, 1) := by decide +kernel
theorem dX6_support_26 : decode cX6_support 26 = .ok (.iload 4, 2) := by decide +kernel
theorem dX6_support_28 : decode cX6_support 28 = .ok (.iload_n 2, 1) := by decide +kernel
theorem dX6_support_29 : decode cX6_support 29 = .ok (.invokevirtual 190, 3) := by decide +kernel
theorem dX6_support_32 : decode cX6_support 32 = .ok (.ifCond .eq 7, 3) := by decide +kernel
theorem dX6_support_35 : decode cX6_support 35 = .ok (.iconst 1, 1) := by decide +kernel
theorem dX6_support_36 : decode cX6_support 36 = .ok (.goto 4, 3) := by decide +kernel
theorem dX6_support_39 : decode cX6_support 39 = .ok (.iconst 0, 1) := by decide +kernel
theorem dX6_support_40 : decode cX6_support 40 = .ok (.iadd, 1) := by decide +kernel
theorem dX6_support_41 : decode cX6_support 41 = .ok (.istore_n 3, 1) := by decide +kernel
theorem dX6_support_42 : decode cX6_support 42 = .ok (.iinc 4 1, 3) := by decide +kernel
theorem dX6_support_45 : decode cX6_support 45 = .ok (.goto (-40), 3) := by decide +kernel
theorem dX6_support_48 : decode cX6_support 48 = .ok (.iload_n 3, 1) := by decide +kernel
theorem dX6_support_49 : decode cX6_support 49 = .ok (.ireturn, 1) := by decide +kernel
set_option maxRecDepth 20000 in
theorem ggX6_isRule_X6_support : GoodIn wsX6_isRule wsX6_support := goodIn_r _ [5, 6, 7, 8, 9, 4, 10, 11, 12, 13, 14, 15, 16, 17, 18, 19, 20, 21, 22, 23, 24, 25, 26, 27, 28, 29, 30, 31, 32, 33, 34, 35, 36, 37] (by decide +kernel) (by decide +kernel)
set_option maxRecDepth 20000 in
theorem gX6_isRule_X6_support : GoodIn wsX6_isRule (wsV RX6 193 RX6 yX6_support wsX6_support) := goodIn_app (goodIn_of _ (by decide +kernel)) ggX6_isRule_X6_support
theorem dX6_isRule_0 : decode cX6_isRule 0 = .ok (.iload_n 1, 1) := by decide +kernel
theorem dX6_isRule_1 : decode cX6_isRule 1 = .ok (.bipush 8, 2) := by decide +kernel
theorem dX6_isRule_3 : decode cX6_isRule 3 = .ok (.idiv, 1) := by decide +kernel
theorem dX6_isRule_4 : decode cX6_isRule 4 = .ok (.iload_n 1, 1) := by decide +kernel
theorem dX6_isRule_5 : decode cX6_isRule 5 = .ok (.bipush 8, 2) := by decide +kernel
theorem dX6_isRule_7 : decode cX6_isRule 7 = .ok (.irem, 1) := by decide +kernel
theorem dX6_isRule_8 : decode cX6_isRule 8 = .ok (.if_icmp .eq 22, 3) := by decide +kernel
theorem dX6_isRule_11 : decode cX6_isRule 11 = .ok (.aload_n 0, 1) := by decide +kernel
theorem dX6_isRule_12 : decode cX6_isRule 12 = .ok (.iload_n 1, 1) := by decide +kernel
theorem dX6_isRule_13 : decode cX6_isRule 13 = .ok (.bipush 8, 2) := by decide +kernel
theorem dX6_isRule_15 : decode cX6_isRule 15 = .ok (.idiv, 1) := by decide +kernel
theorem dX6_isRule_16 : decode cX6_isRule 16 = .ok (.iload_n 1, 1) := by decide +kernel
theorem dX6_isRule_17 : decode cX6_isRule 17 = .ok (.bipush 8, 2) := by decide +kernel
theorem dX6_isRule_19 : decode cX6_isRule 19 = .ok (.irem, 1) := by decide +kernel
theorem dX6_isRule_20 : decode cX6_isRule 20 = .ok (.invokevirtual 193, 3) := by decide +kernel
theorem dX6_isRule_23 : decode cX6_isRule 23 = .ok (.ifCond .le 7, 3) := by decide +kernel
theorem dX6_isRule_26 : decode cX6_isRule 26 = .ok (.iconst 1, 1) := by decide +kernel
theorem dX6_isRule_27 : decode cX6_isRule 27 = .ok (.goto 4, 3) := by decide +kernel
theorem dX6_isRule_30 : decode cX6_isRule 30 = .ok (.iconst 0, 1) := by decide +kernel
theorem dX6_isRule_31 : decode cX6_isRule 31 = .ok (.ireturn, 1) := by decide +kernel
set_option maxRecDepth 20000 in
theorem ggX6_isAhead_X6_support : GoodIn wsX6_isAhead wsX6_support := goodIn_r _ [5, 6, 7, 8, 9, 4, 10, 11, 12, 13, 14, 15, 16, 17, 18, 19, 20, 21, 22, 23, 24, 25, 26, 27, 28, 29, 30, 31, 32, 33, 34, 35, 36, 37] (by decide +kernel) (by decide +kernel)
set_option maxRecDepth 20000 in
theorem gX6_isAhead_X6_support : GoodIn wsX6_isAhead (wsV RX6 193 RX6 yX6_support wsX6_support) := goodIn_app (goodIn_of _ (by decide +kernel)) ggX6_isAhead_X6_support
theorem dX6_isAhead_0 : decode cX6_isAhead 0 = .ok (.aload_n 0, 1) := by decide +kernel
theorem dX6_isAhead_1 : decode cX6_isAhead 1 = .ok (.iload_n 1, 1) := by decide +kernel
theorem dX6_isAhead_2 : decode cX6_isAhead 2 = .ok (.bipush 8, 2) := by decide +kernel
theorem dX6_isAhead_4 : decode cX6_isAhead 4 = .ok (.idiv, 1) := by decide +kernel
theorem dX6_isAhead_5 : decode cX6_isAhead 5 = .ok (.iload_n 1, 1) := by decide +kernel
theorem dX6_isAhead_6 : decode cX6_isAhead 6 = .ok (.bipush 8, 2) := by decide +kernel
theorem dX6_isAhead_8 : decode cX6_isAhead 8 = .ok (.irem, 1) := by decide +kernel
theorem dX6_isAhead_9 : decode cX6_isAhead 9 = .ok (.invokevirtual 193, 3) := by decide +kernel
theorem dX6_isAhead_12 : decode cX6_isAhead 12 = .ok (.istore_n 3, 1) := by decide +kernel
theorem dX6_isAhead_13 : decode cX6_isAhead 13 = .ok (.aload_n 0, 1) := by decide +kernel
theorem dX6_isAhead_14 : decode cX6_isAhead 14 = .ok (.iload_n 2, 1) := by decide +kernel
theorem dX6_isAhead_15 : decode cX6_isAhead 15 = .ok (.bipush 8, 2) := by decide +kernel
theorem dX6_isAhead_17 : decode cX6_isAhead 17 = .ok (.idiv, 1) := by decide +kernel
theorem dX6_isAhead_18 : decode cX6_isAhead 18 = .ok (.iload_n 2, 1) := by decide +kernel
theorem dX6_isAhead_19 : decode cX6_isAhead 19 = .ok (.bipush 8, 2) := by decide +kernel
theorem dX6_isAhead_21 : decode cX6_isAhead 21 = .ok (.irem, 1) := by decide +kernel
theorem dX6_isAhead_22 : decode cX6_isAhead 22 = .ok (.invokevirtual 193, 3) := by decide +kernel
theorem dX6_isAhead_25 : decode cX6_isAhead 25 = .ok (.istore 4, 2) := by decide +kernel
theorem dX6_isAhead_27 : decode cX6_isAhead 27 = .ok (.iload_n 3, 1) := by decide +kernel
theorem dX6_isAhead_28 : decode cX6_isAhead 28 = .ok (.iload 4, 2) := by decide +kernel
theorem dX6_isAhead_30 : decode cX6_isAhead 30 = .ok (.if_icmp .eq 15, 3) := by decide +kernel
theorem dX6_isAhead_33 : decode cX6_isAhead 33 = .ok (.iload_n 3, 1) := by decide +kernel
theorem dX6_isAhead_34 : decode cX6_isAhead 34 = .ok (.iload 4, 2) := by decide +kernel
theorem dX6_isAhead_36 : decode cX6_isAhead 36 = .ok (.if_icmp .le 7, 3) := by decide +kernel
theorem dX6_isAhead_39 : decode cX6_isAhead 39 = .ok (.iconst 1, 1) := by decide +kernel
theorem dX6_isAhead_40 : decode cX6_isAhead 40 = .ok (.goto 4, 3) := by decide +kernel
theorem dX6_isAhead_43 : decode cX6_isAhead 43 = .ok (.iconst 0, 1) := by decide +kernel
theorem dX6_isAhead_44 : decode cX6_isAhead 44 = .ok (.ireturn, 1) := by decide +kernel
theorem dX6_isAhead_45 : decode cX6_isAhead 45 = .ok (.aload_n 0, 1) := by decide +kernel
theorem dX6_isAhead_46 : decode cX6_isAhead 46 = .ok (.iload_n 1, 1) := by decide +kernel
theorem dX6_isAhead_47 : decode cX6_isAhead 47 = .ok (.bipush 8, 2) := by decide +kernel
theorem dX6_isAhead_49 : decode cX6_isAhead 49 = .ok (.idiv, 1) := by decide +kernel
theorem dX6_isAhead_50 : decode cX6_isAhead 50 = .ok (.iload_n 1, 1) := by decide +kernel
theorem dX6_isAhead_51 : decode cX6_isAhead 51 = .ok (.bipush 8, 2) := by decide +kernel
theorem dX6_isAhead_53 : decode cX6_isAhead 53 = .ok (.idiv, 1) := by decide +kernel
theorem dX6_isAhead_54 : decode cX6_isAhead 54 = .ok (.invokevirtual 193, 3) := by decide +kernel
theorem dX6_isAhead_57 : decode cX6_isAhead 57 = .ok (.istore 5, 2) := by decide +kernel
theorem dX6_isAhead_59 : decode cX6_isAhead 59 = .ok (.aload_n 0, 1) := by decide +kernel
theorem dX6_isAhead_60 : decode cX6_isAhead 60 = .ok (.iload_n 2, 1) := by decide +kernel
theorem dX6_isAhead_61 : decode cX6_isAhead 61 = .ok (.bipush 8, 2) := by decide +kernel
theorem dX6_isAhead_63 : decode cX6_isAhead 63 = .ok (.idiv, 1) := by decide +kernel
theorem dX6_isAhead_64 : decode cX6_isAhead 64 = .ok (.iload_n 2, 1) := by decide +kernel
theorem dX6_isAhead_65 : decode cX6_isAhead 65 = .ok (.bipush 8, 2) := by decide +kernel
theorem dX6_isAhead_67 : decode cX6_isAhead 67 = .ok (.idiv, 1) := by decide +kernel
theorem dX6_isAhead_68 : decode cX6_isAhead 68 = .ok (.invokevirtual 193, 3) := by decide +kernel
theorem dX6_isAhead_71 : decode cX6_isAhead 71 = .ok (.istore 6, 2) := by decide +kernel
theorem dX6_isAhead_73 : decode cX6_isAhead 73 = .ok (.iload 5, 2) := by decide +kernel
theorem dX6_isAhead_75 : decode cX6_isAhead 75 = .ok (.iload 6, 2) := by decide +kernel
theorem dX6_isAhead_77 : decode cX6_isAhead 77 = .ok (.if_icmp .eq 18, 3) := by decide +kernel
theorem dX6_isAhead_80 : decode cX6_isAhead 80 = .ok (.iload 5, 2) := by decide +kernel
theorem dX6_isAhead_82 : decode cX6_isAhead 82 = .ok (.iload 6, 2) := by decide +kernel
theorem dX6_isAhead_84 : decode cX6_isAhead 84 = .ok (.if_icmp .ge 7, 3) := by decide +kernel
theorem dX6_isAhead_87 : decode cX6_isAhead 87 = .ok (.iconst 1, 1) := by decide +kernel
theorem dX6_isAhead_88 : decode cX6_isAhead 88 = .ok (.goto 17, 3) := by decide +kernel
theorem dX6_isAhead_91 : decode cX6_isAhead 91 = .ok (.iconst 0, 1) := by decide +kernel
theorem dX6_isAhead_92 : decode cX6_isAhead 92 = .ok (.goto 13, 3) := by decide +kernel
theorem dX6_isAhead_95 : decode cX6_isAhead 95 = .ok (.iload_n 1, 1) := by decide +kernel
theorem dX6_isAhead_96 : decode cX6_isAhead 96 = .ok (.iload_n 2, 1) := by decide +kernel
theorem dX6_isAhead_97 : decode cX6_isAhead 97 = .ok (.if_icmp .ge 7, 3) := by decide +kernel
theorem dX6_isAhead_100 : decode cX6_isAhead 100 = .ok (.iconst 1, 1) := by decide +kernel
theorem dX6_isAhead_101 : decode cX6_isAhead 101 = .ok (.goto 4, 3) := by decide +kernel
theorem dX6_isAhead_104 : decode cX6_isAhead 104 = .ok (.iconst 0, 1) := by decide +kernel
theorem dX6_isAhead_105 : decode cX6_isAhead 105 = .ok (.ireturn, 1) := by decide +kernel
set_option maxRecDepth 20000 in
theorem ggX6_rules_X6_isRule : GoodIn wsX6_rules wsX6_isRule := goodIn_r _ [5, 6, 7, 8, 4, 9, 10, 11, 12, 13, 14, 15, 16, 17, 18, 19, 20, 21, 22, 23, 24, 25, 26, 27, 28, 29, 30, 31, 32, 33, 34, 35, 36, 37, 38, 39, 40, 41] (by decide +kernel) (by decide +kernel)
set_option maxRecDepth 20000 in
theorem gX6_rules_X6_isRule : GoodIn wsX6_rules (wsV RX6 196 RX6 yX6_isRule wsX6_isRule) := goodIn_app (goodIn_of _ (by decide +kernel)) ggX6_rules_X6_isRule
theorem dX6_rules_0 : decode cX6_rules 0 = .ok (.iconst 0, 1) := by decide +kernel
theorem dX6_rules_1 : decode cX6_rules 1 = .ok (.istore_n 1, 1) := by decide +kernel
theorem dX6_rules_2 : decode cX6_rules 2 = .ok (.iconst 0, 1) := by decide +kernel
theorem dX6_rules_3 : decode cX6_rules 3 = .ok (.istore_n 2, 1) := by decide +kernel
theorem dX6_rules_4 : decode cX6_rules 4 = .ok (.iload_n 2, 1) := by decide +kernel
theorem dX6_rules_5 : decode cX6_rules 5 = .ok (.bipush 64, 2) := by decide +kernel
theorem dX6_rules_7 : decode cX6_rules 7 = .ok (.if_icmp .ge 25, 3) := by decide +kernel
theorem dX6_rules_10 : decode cX6_rules 10 = .ok (.iload_n 1, 1) := by decide +kernel
theorem dX6_rules_11 : decode cX6_rules 11 = .ok (.aload_n 0, 1) := by decide +kernel
theorem dX6_rules_12 : decode cX6_rules 12 = .ok (.iload_n 2, 1) := by decide +kernel
theorem dX6_rules_13 : decode cX6_rules 13 = .ok (.invokevirtual 196, 3) := by decide +kernel
theorem dX6_rules_16 : decode cX6_rules 16 = .ok (.ifCond .eq 7, 3) := by decide +kernel
theorem dX6_rules_19 : decode cX6_rules 19 = .ok (.iconst 1, 1) := by decide +kernel
theorem dX6_rules_20 : decode cX6_rules 20 = .ok (.goto 4, 3) := by decide +kernel
theorem dX6_rules_23 : decode cX6_rules 23 = .ok (.iconst 0, 1) := by decide +kernel
theorem dX6_rules_24 : decode cX6_rules 24 = .ok (.iadd, 1) := by decide +kernel
theorem dX6_rules_25 : decode cX6_rules 25 = .ok (.istore_n 1, 1) := by decide +kernel
theorem dX6_rules_26 : decode cX6_rules 26 = .ok (.iinc 2 1, 3) := by decide +kernel
theorem dX6_rules_29 : decode cX6_rules 29 = .ok (.goto (-25), 3) := by decide +kernel
theorem dX6_rules_32 : decode cX6_rules 32 = .ok (.iload_n 1, 1) := by decide +kernel
theorem dX6_rules_33 : decode cX6_rules 33 = .ok (.ireturn, 1) := by decide +kernel
set_option maxRecDepth 20000 in
theorem ggX6_ruleAt_X6_isRule : GoodIn wsX6_ruleAt wsX6_isRule := goodIn_r _ [5, 6, 7, 8, 4, 9, 10, 11, 12, 13, 14, 15, 16, 21, 22, 23, 24, 25, 26, 27, 28, 29, 30, 31, 32, 33, 34, 35, 36, 37, 38, 39, 40, 41, 42, 43, 44, 45] (by decide +kernel) (by decide +kernel)
set_option maxRecDepth 20000 in
theorem gX6_ruleAt_X6_isRule : GoodIn wsX6_ruleAt (wsV RX6 196 RX6 yX6_isRule wsX6_isRule) := goodIn_app (goodIn_of _ (by decide +kernel)) ggX6_ruleAt_X6_isRule
set_option maxRecDepth 20000 in
theorem ggX6_ruleAt_X6_isAhead : GoodIn wsX6_ruleAt wsX6_isAhead := goodIn_r _ [20, 6, 7, 8, 4, 9, 10, 11, 12, 13, 14, 15, 16, 21, 22, 23, 24, 25, 26, 27, 28, 29, 30, 31, 32, 33, 34, 35, 36, 37, 38, 39, 40, 41, 42, 43, 44, 45] (by decide +kernel) (by decide +kernel)
set_option maxRecDepth 20000 in
theorem gX6_ruleAt_X6_isAhead : GoodIn wsX6_ruleAt (wsV RX6 199 RX6 yX6_isAhead wsX6_isAhead) := goodIn_app (goodIn_of _ (by decide +kernel)) ggX6_ruleAt_X6_isAhead
theorem dX6_ruleAt_0 : decode cX6_ruleAt 0 = .ok (.iconst 0, 1) := by decide +kernel
theorem dX6_ruleAt_1 : decode cX6_ruleAt 1 = .ok (.istore_n 2, 1) := by decide +kernel
theorem dX6_ruleAt_2 : decode cX6_ruleAt 2 = .ok (.iload_n 2, 1) := by decide +kernel
theorem dX6_ruleAt_3 : decode cX6_ruleAt 3 = .ok (.bipush 64, 2) := by decide +kernel
theorem dX6_ruleAt_5 : decode cX6_ruleAt 5 = .ok (.if_icmp .ge 83, 3) := by decide +kernel
theorem dX6_ruleAt_8 : decode cX6_ruleAt 8 = .ok (.iconst 0, 1) := by decide +kernel
theorem dX6_ruleAt_9 : decode cX6_ruleAt 9 = .ok (.istore_n 3, 1) := by decide +kernel
theorem dX6_ruleAt_10 : decode cX6_ruleAt 10 = .ok (.iconst 0, 1) := by decide +kernel
theorem dX6_ruleAt_11 : decode cX6_ruleAt 11 = .ok (.istore 4, 2) := by decide +kernel
theorem dX6_ruleAt_13 : decode cX6_ruleAt 13 = .ok (.iload 4, 2) := by decide +kernel
theorem dX6_ruleAt_15 : decode cX6_ruleAt 15 = .ok (.bipush 64, 2) := by decide +kernel
theorem dX6_ruleAt_17 : decode cX6_ruleAt 17 = .ok (.if_icmp .ge 50, 3) := by decide +kernel
theorem dX6_ruleAt_20 : decode cX6_ruleAt 20 = .ok (.aload_n 0, 1) := by decide +kernel
theorem dX6_ruleAt_21 : decode cX6_ruleAt 21 = .ok (.iload_n 2, 1) := by decide +kernel
theorem dX6_ruleAt_22 : decode cX6_ruleAt 22 = .ok (.invokevirtual 196, 3) := by decide +kernel
theorem dX6_ruleAt_25 : decode cX6_ruleAt 25 = .ok (.ifCond .eq 42, 3) := by decide +kernel
theorem dX6_ruleAt_28 : decode cX6_ruleAt 28 = .ok (.iload_n 3, 1) := by decide +kernel
theorem dX6_ruleAt_29 : decode cX6_ruleAt 29 = .ok (.iload 4, 2) := by decide +kernel
theorem dX6_ruleAt_31 : decode cX6_ruleAt 31 = .ok (.iload_n 2, 1) := by decide +kernel
theorem dX6_ruleAt_32 : decode cX6_ruleAt 32 = .ok (.if_icmp .eq 26, 3) := by decide +kernel
theorem dX6_ruleAt_35 : decode cX6_ruleAt 35 = .ok (.aload_n 0, 1) := by decide +kernel
theorem dX6_ruleAt_36 : decode cX6_ruleAt 36 = .ok (.iload 4, 2) := by decide +kernel
theorem dX6_ruleAt_38 : decode cX6_ruleAt 38 = .ok (.invokevirtual 196, 3) := by decide +kernel
theorem dX6_ruleAt_41 : decode cX6_ruleAt 41 = .ok (.ifCond .eq 17, 3) := by decide +kernel
theorem dX6_ruleAt_44 : decode cX6_ruleAt 44 = .ok (.aload_n 0, 1) := by decide +kernel
theorem dX6_ruleAt_45 : decode cX6_ruleAt 45 = .ok (.iload 4, 2) := by decide +kernel
theorem dX6_ruleAt_47 : decode cX6_ruleAt 47 = .ok (.iload_n 2, 1) := by decide +kernel
theorem dX6_ruleAt_48 : decode cX6_ruleAt 48 = .ok (.invokevirtual 199, 3) := by decide +kernel
theorem dX6_ruleAt_51 : decode cX6_ruleAt 51 = .ok (.ifCond .eq 7, 3) := by decide +kernel
theorem dX6_ruleAt_54 : decode cX6_ruleAt 54 = .ok (.iconst 1, 1) := by decide +kernel
theorem dX6_ruleAt_55 : decode cX6_ruleAt 55 = .ok (.goto 4, 3) := by decide +kernel
theorem dX6_ruleAt_58 : decode cX6_ruleAt 58 = .ok (.iconst 0, 1) := by decide +kernel
theorem dX6_ruleAt_59 : decode cX6_ruleAt 59 = .ok (.iadd, 1) := by decide +kernel
theorem dX6_ruleAt_60 : decode cX6_ruleAt 60 = .ok (.istore_n 3, 1) := by decide +kernel
theorem dX6_ruleAt_61 : decode cX6_ruleAt 61 = .ok (.iinc 4 1, 3) := by decide +kernel
theorem dX6_ruleAt_64 : decode cX6_ruleAt 64 = .ok (.goto (-51), 3) := by decide +kernel
theorem dX6_ruleAt_67 : decode cX6_ruleAt 67 = .ok (.aload_n 0, 1) := by decide +kernel
theorem dX6_ruleAt_68 : decode cX6_ruleAt 68 = .ok (.iload_n 2, 1) := by decide +kernel
theorem dX6_ruleAt_69 : decode cX6_ruleAt 69 = .ok (.invokevirtual 196, 3) := by decide +kernel
theorem dX6_ruleAt_72 : decode cX6_ruleAt 72 = .ok (.ifCond .eq 10, 3) := by decide +kernel
theorem dX6_ruleAt_75 : decode cX6_ruleAt 75 = .ok (.iload_n 3, 1) := by decide +kernel
theorem dX6_ruleAt_76 : decode cX6_ruleAt 76 = .ok (.iload_n 1, 1) := by decide +kernel
theorem dX6_ruleAt_77 : decode cX6_ruleAt 77 = .ok (.if_icmp .ne 5, 3) := by decide +kernel
theorem dX6_ruleAt_80 : decode cX6_ruleAt 80 = .ok (.iload_n 2, 1) := by decide +kernel
theorem dX6_ruleAt_81 : decode cX6_ruleAt 81 = .ok (.ireturn, 1) := by decide +kernel
theorem dX6_ruleAt_82 : decode cX6_ruleAt 82 = .ok (.iinc 2 1, 3) := by decide +kernel
theorem dX6_ruleAt_85 : decode cX6_ruleAt 85 = .ok (.goto (-83), 3) := by decide +kernel
theorem dX6_ruleAt_88 : decode cX6_ruleAt 88 = .ok (.iconst (-1), 1) := by decide +kernel
theorem dX6_ruleAt_89 : decode cX6_ruleAt 89 = .ok (.ireturn, 1) := by decide +kernel
set_option maxRecDepth 20000 in
theorem ggX6_rule_X6_within : GoodIn wsX6_rule wsX6_within := goodIn_r _ [5] (by decide +kernel) (by decide +kernel)
set_option maxRecDepth 20000 in
theorem gX6_rule_X6_within : GoodIn wsX6_rule (va_wsS RX6 79 yX6_within wsX6_within) := goodIn_app (goodIn_of _ (by decide +kernel)) ggX6_rule_X6_within
set_option maxRecDepth 20000 in
theorem ggX6_rule_X6_rules : GoodIn wsX6_rule wsX6_rules := goodIn_r _ [9, 10, 11, 12, 4, 13, 14, 15, 16, 17, 18, 19, 20, 21, 22, 23, 24, 39, 40, 41, 42, 43, 44, 45, 46, 47, 48, 49, 50, 51, 52, 53, 54, 55, 56, 57, 58, 59, 60, 61, 62, 63] (by decide +kernel) (by decide +kernel)
set_option maxRecDepth 20000 in
theorem gX6_rule_X6_rules : GoodIn wsX6_rule (wsV RX6 202 RX6 yX6_rules wsX6_rules) := goodIn_app (goodIn_of _ (by decide +kernel)) ggX6_rule_X6_rules
set_option maxRecDepth 20000 in
theorem ggX6_rule_X6_ruleAt : GoodIn wsX6_rule wsX6_ruleAt := goodIn_r _ [28, 10, 11, 12, 4, 13, 14, 15, 16, 17, 18, 19, 20, 21, 22, 23, 24, 29, 30, 31, 32, 39, 40, 41, 42, 43, 44, 45, 46, 47, 48, 49, 50, 51, 52, 53, 54, 55, 56, 57, 58, 59, 60, 61, 62, 63] (by decide +kernel) (by decide +kernel)
set_option maxRecDepth 20000 in
theorem gX6_rule_X6_ruleAt : GoodIn wsX6_rule (wsV RX6 206 RX6 yX6_ruleAt wsX6_ruleAt) := goodIn_app (goodIn_of _ (by decide +kernel)) ggX6_rule_X6_ruleAt
set_option maxRecDepth 20000 in
theorem ggX6_rule_X6_support : GoodIn wsX6_rule wsX6_support := goodIn_r _ [17, 18, 19, 20, 21, 4, 22, 23, 24, 39, 40, 41, 42, 43, 44, 45, 46, 47, 48, 49, 50, 51, 52, 53, 54, 55, 56, 57, 58, 59, 60, 61, 62, 63] (by decide +kernel) (by decide +kernel)
set_option maxRecDepth 20000 in
theorem gX6_rule_X6_support : GoodIn wsX6_rule (wsV RX6 193 RX6 yX6_support wsX6_support) := goodIn_app (goodIn_of _ (by decide +kernel)) ggX6_rule_X6_support
set_option maxRecDepth 20000 in
theorem ggX6_rule_X6_side : GoodIn wsX6_rule wsX6_side := goodIn_r _ [35, 36, 37, 4, 38] (by decide +kernel) (by decide +kernel)
set_option maxRecDepth 20000 in
theorem gX6_rule_X6_side : GoodIn wsX6_rule (va_wsS RX6 116 yX6_side wsX6_side) := goodIn_app (goodIn_of _ (by decide +kernel)) ggX6_rule_X6_side
theorem dX6_rule_0 : decode cX6_rule 0 = .ok (.aload_n 0, 1) := by decide +kernel
theorem dX6_rule_1 : decode cX6_rule 1 = .ok (.iconst 0, 1) := by decide +kernel
theorem dX6_rule_2 : decode cX6_rule 2 = .ok (.putfield 69, 3) := by decide +kernel
theorem dX6_rule_5 : decode cX6_rule 5 = .ok (.iload_n 2, 1) := by decide +kernel
theorem dX6_rule_6 : decode cX6_rule 6 = .ok (.iconst 0, 1) := by decide +kernel
theorem dX6_rule_7 : decode cX6_rule 7 = .ok (.iconst 4, 1) := by decide +kernel
theorem dX6_rule_8 : decode cX6_rule 8 = .ok (.invokestatic 79, 3) := by decide +kernel
theorem dX6_rule_11 : decode cX6_rule 11 = .ok (.ifCond .ne 6, 3) := by decide +kernel
theorem dX6_rule_14 : decode cX6_rule 14 = .ok (.bipush (-2), 2) := by decide +kernel
theorem dX6_rule_16 : decode cX6_rule 16 = .ok (.ireturn, 1) := by decide +kernel
theorem dX6_rule_17 : decode cX6_rule 17 = .ok (.iload_n 1, 1) := by decide +kernel
theorem dX6_rule_18 : decode cX6_rule 18 = .ok (.iconst 0, 1) := by decide +kernel
theorem dX6_rule_19 : decode cX6_rule 19 = .ok (.aload_n 0, 1) := by decide +kernel
theorem dX6_rule_20 : decode cX6_rule 20 = .ok (.invokevirtual 202, 3) := by decide +kernel
theorem dX6_rule_23 : decode cX6_rule 23 = .ok (.iconst 1, 1) := by decide +kernel
theorem dX6_rule_24 : decode cX6_rule 24 = .ok (.isub, 1) := by decide +kernel
theorem dX6_rule_25 : decode cX6_rule 25 = .ok (.invokestatic 79, 3) := by decide +kernel
theorem dX6_rule_28 : decode cX6_rule 28 = .ok (.ifCond .ne 5, 3) := by decide +kernel
theorem dX6_rule_31 : decode cX6_rule 31 = .ok (.iconst (-1), 1) := by decide +kernel
theorem dX6_rule_32 : decode cX6_rule 32 = .ok (.ireturn, 1) := by decide +kernel
theorem dX6_rule_33 : decode cX6_rule 33 = .ok (.aload_n 0, 1) := by decide +kernel
theorem dX6_rule_34 : decode cX6_rule 34 = .ok (.iload_n 1, 1) := by decide +kernel
theorem dX6_rule_35 : decode cX6_rule 35 = .ok (.invokevirtual 206, 3) := by decide +kernel
theorem dX6_rule_38 : decode cX6_rule 38 = .ok (.istore_n 3, 1) := by decide +kernel
theorem dX6_rule_39 : decode cX6_rule 39 = .ok (.aload_n 0, 1) := by decide +kernel
theorem dX6_rule_40 : decode cX6_rule 40 = .ok (.iload_n 3, 1) := by decide +kernel
theorem dX6_rule_41 : decode cX6_rule 41 = .ok (.bipush 8, 2) := by decide +kernel
theorem dX6_rule_43 : decode cX6_rule 43 = .ok (.idiv, 1) := by decide +kernel
theorem dX6_rule_44 : decode cX6_rule 44 = .ok (.iload_n 3, 1) := by decide +kernel
theorem dX6_rule_45 : decode cX6_rule 45 = .ok (.bipush 8, 2) := by decide +kernel
theorem dX6_rule_47 : decode cX6_rule 47 = .ok (.irem, 1) := by decide +kernel
theorem dX6_rule_48 : decode cX6_rule 48 = .ok (.invokevirtual 193, 3) := by decide +kernel
theorem dX6_rule_51 : decode cX6_rule 51 = .ok (.istore 4, 2) := by decide +kernel
theorem dX6_rule_53 : decode cX6_rule 53 = .ok (.iload_n 2, 1) := by decide +kernel
theorem dX6_rule_54 : decode cX6_rule 54 = .ok (.tableswitch 39 0 2 #[26, 31, 36], 26) := by decide +kernel
theorem dX6_rule_80 : decode cX6_rule 80 = .ok (.iload_n 3, 1) := by decide +kernel
theorem dX6_rule_81 : decode cX6_rule 81 = .ok (.bipush 8, 2) := by decide +kernel
theorem dX6_rule_83 : decode cX6_rule 83 = .ok (.idiv, 1) := by decide +kernel
theorem dX6_rule_84 : decode cX6_rule 84 = .ok (.ireturn, 1) := by decide +kernel
theorem dX6_rule_85 : decode cX6_rule 85 = .ok (.iload_n 3, 1) := by decide +kernel
theorem dX6_rule_86 : decode cX6_rule 86 = .ok (.bipush 8, 2) := by decide +kernel
theorem dX6_rule_88 : decode cX6_rule 88 = .ok (.irem, 1) := by decide +kernel
theorem dX6_rule_89 : decode cX6_rule 89 = .ok (.ireturn, 1) := by decide +kernel
theorem dX6_rule_90 : decode cX6_rule 90 = .ok (.iload 4, 2) := by decide +kernel
theorem dX6_rule_92 : decode cX6_rule 92 = .ok (.ireturn, 1) := by decide +kernel
theorem dX6_rule_93 : decode cX6_rule 93 = .ok (.iload 4, 2) := by decide +kernel
theorem dX6_rule_95 : decode cX6_rule 95 = .ok (.i2l, 1) := by decide +kernel
theorem dX6_rule_96 : decode cX6_rule 96 = .ok (.aload_n 0, 1) := by decide +kernel
theorem dX6_rule_97 : decode cX6_rule 97 = .ok (.iload_n 3, 1) := by decide +kernel
theorem dX6_rule_98 : decode cX6_rule 98 = .ok (.bipush 8, 2) := by decide +kernel
theorem dX6_rule_100 : decode cX6_rule 100 = .ok (.idiv, 1) := by decide +kernel
theorem dX6_rule_101 : decode cX6_rule 101 = .ok (.iload_n 3, 1) := by decide +kernel
theorem dX6_rule_102 : decode cX6_rule 102 = .ok (.bipush 8, 2) := by decide +kernel
theorem dX6_rule_104 : decode cX6_rule 104 = .ok (.idiv, 1) := by decide +kernel
theorem dX6_rule_105 : decode cX6_rule 105 = .ok (.invokevirtual 193, 3) := by decide +kernel
theorem dX6_rule_108 : decode cX6_rule 108 = .ok (.i2l, 1) := by decide +kernel
theorem dX6_rule_109 : decode cX6_rule 109 = .ok (.iload_n 2, 1) := by decide +kernel
theorem dX6_rule_110 : decode cX6_rule 110 = .ok (.iconst 3, 1) := by decide +kernel
theorem dX6_rule_111 : decode cX6_rule 111 = .ok (.isub, 1) := by decide +kernel
theorem dX6_rule_112 : decode cX6_rule 112 = .ok (.invokestatic 116, 3) := by decide +kernel
theorem dX6_rule_115 : decode cX6_rule 115 = .ok (.l2i, 1) := by decide +kernel
theorem dX6_rule_116 : decode cX6_rule 116 = .ok (.ireturn, 1) := by decide +kernel
set_option maxRecDepth 20000 in
theorem ggX6_count__X6_rules : GoodIn wsX6_count_ wsX6_rules := goodIn_r _ [10, 11, 12, 13, 9, 14, 15, 16, 17, 18, 2, 19, 20, 21, 22, 23, 24, 25, 26, 27, 28, 29, 30, 31, 32, 33, 34, 35, 36, 37, 38, 39, 40, 41, 42, 43, 44, 45, 46, 47, 48, 49] (by decide +kernel) (by decide +kernel)
set_option maxRecDepth 20000 in
theorem gX6_count__X6_rules : GoodIn wsX6_count_ (wsV RX6 202 RX6 yX6_rules wsX6_rules) := goodIn_app (goodIn_of _ (by decide +kernel)) ggX6_count__X6_rules
theorem dX6_count__0 : decode cX6_count_ 0 = .ok (.aload_n 0, 1) := by decide +kernel
theorem dX6_count__1 : decode cX6_count_ 1 = .ok (.iconst 0, 1) := by decide +kernel
theorem dX6_count__2 : decode cX6_count_ 2 = .ok (.putfield 69, 3) := by decide +kernel
theorem dX6_count__5 : decode cX6_count_ 5 = .ok (.iconst 0, 1) := by decide +kernel
theorem dX6_count__6 : decode cX6_count_ 6 = .ok (.istore_n 2, 1) := by decide +kernel
theorem dX6_count__7 : decode cX6_count_ 7 = .ok (.iload_n 1, 1) := by decide +kernel
theorem dX6_count__8 : decode cX6_count_ 8 = .ok (.tableswitch 114 0 4 #[36, 41, 76, 81, 86], 36) := by decide +kernel
theorem dX6_count__44 : decode cX6_count_ 44 = .ok (.aload_n 0, 1) := by decide +kernel
theorem dX6_count__45 : decode cX6_count_ 45 = .ok (.getfield 76, 3) := by decide +kernel
theorem dX6_count__48 : decode cX6_count_ 48 = .ok (.ireturn, 1) := by decide +kernel
theorem dX6_count__49 : decode cX6_count_ 49 = .ok (.iconst 0, 1) := by decide +kernel
theorem dX6_count__50 : decode cX6_count_ 50 = .ok (.istore_n 3, 1) := by decide +kernel
theorem dX6_count__51 : decode cX6_count_ 51 = .ok (.iload_n 3, 1) := by decide +kernel
theorem dX6_count__52 : decode cX6_count_ 52 = .ok (.aload_n 0, 1) := by decide +kernel
theorem dX6_count__53 : decode cX6_count_ 53 = .ok (.getfield 76, 3) := by decide +kernel
theorem dX6_count__56 : decode cX6_count_ 56 = .ok (.if_icmp .ge 26, 3) := by decide +kernel
theorem dX6_count__59 : decode cX6_count_ 59 = .ok (.iload_n 2, 1) := by decide +kernel
theorem dX6_count__60 : decode cX6_count_ 60 = .ok (.aload_n 0, 1) := by decide +kernel
theorem dX6_count__61 : decode cX6_count_ 61 = .ok (.getfield 7, 3) := by decide +kernel
theorem dX6_count__64 : decode cX6_count_ 64 = .ok (.iload_n 3, 1) := by decide +kernel
theorem dX6_count__65 : decode cX6_count_ 65 = .ok (.iaload, 1) := by decide +kernel
theorem dX6_count__66 : decode cX6_count_ 66 = .ok (.ifCond .lt 7, 3) := by decide +kernel
theorem dX6_count__69 : decode cX6_count_ 69 = .ok (.iconst 1, 1) := by decide +kernel
theorem dX6_count__70 : decode cX6_count_ 70 = .ok (.goto 4, 3) := by decide +kernel
theorem dX6_count__73 : decode cX6_count_ 73 = .ok (.iconst 0, 1) := by decide +kernel
theorem dX6_count__74 : decode cX6_count_ 74 = .ok (.iadd, 1) := by decide +kernel
theorem dX6_count__75 : decode cX6_count_ 75 = .ok (.istore_n 2, 1) := by decide +kernel
theorem dX6_count__76 : decode cX6_count_ 76 = .ok (.iinc 3 1, 3) := by decide +kernel
theorem dX6_count__79 : decode cX6_count_ 79 = .ok (.goto (-28), 3) := by decide +kernel
theorem dX6_count__82 : decode cX6_count_ 82 = .ok (.iload_n 2, 1) := by decide +kernel
theorem dX6_count__83 : decode cX6_count_ 83 = .ok (.ireturn, 1) := by decide +kernel
theorem dX6_count__84 : decode cX6_count_ 84 = .ok (.aload_n 0, 1) := by decide +kernel
theorem dX6_count__85 : decode cX6_count_ 85 = .ok (.getfield 142, 3) := by decide +kernel
theorem dX6_count__88 : decode cX6_count_ 88 = .ok (.ireturn, 1) := by decide +kernel
theorem dX6_count__89 : decode cX6_count_ 89 = .ok (.aload_n 0, 1) := by decide +kernel
theorem dX6_count__90 : decode cX6_count_ 90 = .ok (.invokevirtual 202, 3) := by decide +kernel
theorem dX6_count__93 : decode cX6_count_ 93 = .ok (.ireturn, 1) := by decide +kernel
theorem dX6_count__94 : decode cX6_count_ 94 = .ok (.aload_n 0, 1) := by decide +kernel
theorem dX6_count__95 : decode cX6_count_ 95 = .ok (.getfield 54, 3) := by decide +kernel
theorem dX6_count__98 : decode cX6_count_ 98 = .ok (.iconst 0, 1) := by decide +kernel
theorem dX6_count__99 : decode cX6_count_ 99 = .ok (.iaload, 1) := by decide +kernel
theorem dX6_count__100 : decode cX6_count_ 100 = .ok (.aload_n 0, 1) := by decide +kernel
theorem dX6_count__101 : decode cX6_count_ 101 = .ok (.getfield 54, 3) := by decide +kernel
theorem dX6_count__104 : decode cX6_count_ 104 = .ok (.iconst 1, 1) := by decide +kernel
theorem dX6_count__105 : decode cX6_count_ 105 = .ok (.iaload, 1) := by decide +kernel
theorem dX6_count__106 : decode cX6_count_ 106 = .ok (.iadd, 1) := by decide +kernel
theorem dX6_count__107 : decode cX6_count_ 107 = .ok (.aload_n 0, 1) := by decide +kernel
theorem dX6_count__108 : decode cX6_count_ 108 = .ok (.getfield 54, 3) := by decide +kernel
theorem dX6_count__111 : decode cX6_count_ 111 = .ok (.iconst 2, 1) := by decide +kernel
theorem dX6_count__112 : decode cX6_count_ 112 = .ok (.iaload, 1) := by decide +kernel
theorem dX6_count__113 : decode cX6_count_ 113 = .ok (.iadd, 1) := by decide +kernel
theorem dX6_count__114 : decode cX6_count_ 114 = .ok (.aload_n 0, 1) := by decide +kernel
theorem dX6_count__115 : decode cX6_count_ 115 = .ok (.getfield 54, 3) := by decide +kernel
theorem dX6_count__118 : decode cX6_count_ 118 = .ok (.iconst 3, 1) := by decide +kernel
theorem dX6_count__119 : decode cX6_count_ 119 = .ok (.iaload, 1) := by decide +kernel
theorem dX6_count__120 : decode cX6_count_ 120 = .ok (.iadd, 1) := by decide +kernel
theorem dX6_count__121 : decode cX6_count_ 121 = .ok (.ireturn, 1) := by decide +kernel
theorem dX6_count__122 : decode cX6_count_ 122 = .ok (.bipush (-2), 2) := by decide +kernel
theorem dX6_count__124 : decode cX6_count_ 124 = .ok (.ireturn, 1) := by decide +kernel
abbrev vwCl : List vw_C := [(RX1, TX1, 8), (RX2, TX2, 10), (RX3, TX3, 5), (RX4, TX4, 4), (RX5, TX5, 4), (RX6, TX6, 25)]
end
section
/-! my own base: contracts of one form, the ways in and out of a walk, calls, and the mirror's small words -/
abbrev vwK : List vw_C := [(RX1, TX1, 8), (RX2, TX2, 10), (RX3, TX3, 5), (RX4, TX4, 4), (RX5, TX5, 4), (RX6, TX6, 25)]
abbrev tyA (cI cJ : ClassId) : List (ClassId × FieldType) := [(cI, .int), (cJ, .long)]
abbrev hostN : String := "CountLearners"
def NW (U : State) : Prop := va_Nw (.methodLinkNest RX1 37 yX5_setAll hostN) U ∧ va_Nw (.methodLinkNest RX2 79 yX5_setAll hostN) U ∧ va_Nw (.methodLinkNest RX3 40 yX5_setAll hostN) U ∧ va_Nw (.methodLinkNest RX4 31 yX5_setAll hostN) U
theorem NW.same {u U : State} (h : u.vm = U.vm) (n : NW u) : NW U := ⟨n.1.same rfl h, n.2.1.same rfl h, n.2.2.1.same rfl h, n.2.2.2.same rfl h⟩
theorem NW.warm {u U : State} (h : u.WarmedH U.vm) (n : NW u) : NW U := ⟨n.1.warmM h, n.2.1.warmM h, n.2.2.1.warmM h, n.2.2.2.warmM h⟩
def KN (D : va_G) (cI cJ : ClassId) (U : State) : Prop := va_K D vwK (tyA cI cJ) U ∧ NW U
def PRE (D : va_G) (cI cJ : ClassId) (sz : Nat) (ws : va_W) (U : State) : Prop := U.heap.size = sz ∧ va_P D vwK ws U.heap ∧ KN D cI cJ U ∧ va_D (fun _ => True) ws
def AFT (D : va_G) (ws ws' : va_W) (sz : Nat) (_ : Unit) (t : State) : Prop := va_P D vwK ws' t.heap ∧ va_D (va_A ws sz) ws'
abbrev rmOf (fr lo : Nat) : Room := { frames := fr, cells := 0, slots := 0, locals := lo }
abbrev QV (D : va_G) (ws ws' : va_W) (sz : Nat) : Array Value → State → Outcome → State → Prop := va_Qv (fun _ : Unit => True) (AFT D ws ws' sz) (va_A ws sz)
abbrev QI (D : va_G) (ws ws' : va_W) (sz : Nat) (r : Int32) : Array Value → State → Outcome → State → Prop := va_Qi (fun (x : Int32) (_ : Unit) => x = r) (AFT D ws ws' sz) (va_A ws sz)
abbrev QL (D : va_G) (ws ws' : va_W) (sz : Nat) (r : Int64) : Array Value → State → Outcome → State → Prop := va_Ql (fun (x : Int64) (_ : Unit) => x = r) (AFT D ws ws' sz) (va_A ws sz)
def CV (l : Launch) (D : va_G) (cI cJ : ClassId) (y : MethodName) (wl : List Cond) (fr lo : Nat) (av : List Value) (ws ws' : va_W) : Prop := ∀ sz : Nat, Met l y wl (rmOf fr lo) (va_Pc av (PRE D cI cJ sz ws)) (QV D ws ws' sz) 0 0 (va_A ws sz)
def CI (l : Launch) (D : va_G) (cI cJ : ClassId) (y : MethodName) (wl : List Cond) (fr lo : Nat) (av : List Value) (ws ws' : va_W) (r : Int32) : Prop := ∀ sz : Nat, Met l y wl (rmOf fr lo) (va_Pc av (PRE D cI cJ sz ws)) (QI D ws ws' sz r) 0 0 (va_A ws sz)
def CL (l : Launch) (D : va_G) (cI cJ : ClassId) (y : MethodName) (wl : List Cond) (fr lo : Nat) (av : List Value) (ws ws' : va_W) (r : Int64) : Prop := ∀ sz : Nat, Met l y wl (rmOf fr lo) (va_Pc av (PRE D cI cJ sz ws)) (QL D ws ws' sz r) 0 0 (va_A ws sz)
theorem PRE_blind (av : List Value) (D : va_G) (cI cJ : ClassId) (sz : Nat) (ws : va_W) : FrameBlind (va_Pc av (PRE D cI cJ sz ws)) := by
  intro a U g mk q
  obtain ⟨q0, q1, q2, q3, q4⟩ := q
  exact ⟨q0, q1, q2, ⟨va_K.moved (u := U) (U := U.calling g mk a) (Vm.Alike.refl U.vm) q3.1, q3.2.same rfl⟩, q4⟩
theorem PRE_at {s : State} {D : va_G} {cI cJ : ClassId} {ws : va_W} {H : Heap} {A : Nat → Prop} (av : List Value) (hK : KN D cI cJ s) (hP : va_P D vwK ws H) (hD : va_D A ws) : ∀ U : State, U.heap = H → s.WarmedH U.vm → va_Pc av (PRE D cI cJ H.size ws) av.toArray U := by
  intro U hU hW
  exact ⟨rfl, by rw [hU], by rw [hU]; exact hP, ⟨va_K.moved hW.alike hK.1, hK.2.warm hW⟩, hD.weaken (fun _ _ _ _ => trivial)⟩
theorem fm_of_map {α : Type} {f : Nat → Option α} : ∀ {is : List Nat} {w : List α}, is.map f = w.map some → is.filterMap f = w
  | [], [], _ => rfl
  | [], _ :: _, h => by simp at h
  | _ :: _, [], h => by simp at h
  | i :: is, x :: w, h => by
    simp only [List.map_cons, List.cons.injEq] at h
    rw [List.filterMap_cons, h.1, fm_of_map h.2]
section Enter
variable {l : Launch} {D : va_G} {cI cJ : ClassId} {y : MethodName} {wl wl' : List Cond} {fr lo : Nat} {av : List Value} {ws ws' : va_W} {cc : ByteArray} {maxL : Nat} {ret : Option FieldType}
/-- what a walk begins with -/
def Ctx (p : Program) (e : Env) (s : State) (m : MethodId) (meth : Method) (c : Code) (D : va_G) (cI cJ : ClassId) (y : MethodName) (wl : List Cond) (av : List Value) (ws : va_W) (cc : ByteArray) (maxL : Nat) (ret : Option FieldType) (A : Nat → Prop) (ls : Array Slot) : Prop :=
  p.tables.exec = Jvm.exec ∧ c.code = cc ∧ meth.sig.returnType = ret ∧ c.maxLocals = maxL ∧ (∀ w ∈ wl, w.before av.toArray s = true) ∧ s.vm.findClass y.cls = some m.cls ∧ meth.locks = false ∧ KN D cI cJ s ∧ (∀ q : Nat, s.heap.size ≤ q → A q) ∧ va_P D vwK ws s.heap ∧ va_D A ws ∧ va_S A s.heap s.heap [] ∧ lv_has ls maxL (lv_args 0 av) ∧ meth.name = y.name
theorem entW {Qc : Nat → Array Value → State → Outcome → State → Prop} (hy : plainName y.cls = true) (hw : wl = Cond.code y cc maxL ret :: wl') (hn : (lg_sl av).length ≤ maxL)
    (body : ∀ (p : Program) (e : Env) (s : State) (m : MethodId) (below : List Frame) (meth : Method) (c : Code) (ls : Array Slot), Ctx p e s m meth c D cI cJ y wl av ws cc maxL ret (va_A ws s.heap.size) ls →
      W p l e (rmOf fr lo) s m av.toArray below meth c s.heap [] 0 0 (MQ below (Qc s.heap.size) av.toArray s 0 0 (va_A ws s.heap.size)) (F0 m 0 ls [])) (sz : Nat) :
    Met l y wl (rmOf fr lo) (va_Pc av (PRE D cI cJ sz ws)) (Qc sz) 0 0 (va_A ws sz) := by
  refine Met.ofW (cc := cc) (maxL := maxL) (ret := ret) hy hw ?_
  intro p e s m args below meth c s₁ B hml hv
  obtain ⟨rfl, hsz, hP, hK, hD0⟩ := hv
  subst hsz
  have hl := lv_entry av (n := maxL) hn
  rw [lg_entry_eq]
  exact body p e s m below meth c _ ⟨B.exec, B.bytes, B.returns, hml, atoms_spec (ws := wl) B.pre, findClass_of_methodNamed B.named, B.notSynchronized, hK, fun q h => Or.inr h, hP, hD0.self, va_S.rf, hl, (name_of_methodNamed B.named B.method).1⟩
end Enter
section Leave
variable {p : Program} {l : Launch} {e : Env} {R : Room} {s : State} {m : MethodId} {args : Array Value} {below : List Frame} {meth : Method} {c : Code} {H : Heap} {locs : List Loc} {D : va_G} {ws ws' : va_W} {cc : ByteArray} {pc : Nat} {ls : Array Slot}
theorem retV (hx : p.tables.exec = Jvm.exec) (hb : c.code = cc) (hr : meth.sig.returnType = none) (hlk : meth.locks = false) (hP : va_P D vwK ws' H) (hD : va_D (va_A ws s.heap.size) ws') (hS : va_S (va_A ws s.heap.size) s.heap H locs) (hdg : decode cc pc = .ok (.return_, 1)) :
    W p l e R s m args below meth c H locs 0 0 (MQ below (QV D ws ws' s.heap.size) args s 0 0 (va_A ws s.heap.size)) (F0 m pc ls []) :=
  W.vret hx hb hr (fun t ht hW => ⟨⟨(), rfl, trivial, by rw [ht]; exact hP, hD⟩, hS.F ht⟩) hS.2.2 hdg hlk
theorem retI {r : Int32} (hx : p.tables.exec = Jvm.exec) (hb : c.code = cc) (hr : meth.sig.returnType = some .int) (hlk : meth.locks = false) (hP : va_P D vwK ws' H) (hD : va_D (va_A ws s.heap.size) ws') (hS : va_S (va_A ws s.heap.size) s.heap H locs) (hdg : decode cc pc = .ok (.ireturn, 1)) :
    W p l e R s m args below meth c H locs 0 0 (MQ below (QI D ws ws' s.heap.size r) args s 0 0 (va_A ws s.heap.size)) (F0 m pc ls [.int r]) :=
  W.iret (v := r) hx hb hr (fun t ht hW => ⟨⟨r, (), rfl, rfl, by rw [ht]; exact hP, hD⟩, hS.F ht⟩) hS.2.2 hdg hlk
theorem retZ {r : Int32} (hx : p.tables.exec = Jvm.exec) (hb : c.code = cc) (hr : meth.sig.returnType = some .boolean) (hlk : meth.locks = false) (hP : va_P D vwK ws' H) (hD : va_D (va_A ws s.heap.size) ws') (hS : va_S (va_A ws s.heap.size) s.heap H locs) (hz : r = 0 ∨ r = 1) (hdg : decode cc pc = .ok (.ireturn, 1)) :
    W p l e R s m args below meth c H locs 0 0 (MQ below (QI D ws ws' s.heap.size r) args s 0 0 (va_A ws s.heap.size)) (F0 m pc ls [.int r]) :=
  W.zret (v := r) (ty := .boolean) hx hb hr (by rcases hz with rfl | rfl <;> rfl) (fun t ht hW => ⟨⟨r, (), rfl, rfl, by rw [ht]; exact hP, hD⟩, hS.F ht⟩) hS.2.2 hdg hlk
theorem retL {r : Int64} (hx : p.tables.exec = Jvm.exec) (hb : c.code = cc) (hr : meth.sig.returnType = some .long) (hlk : meth.locks = false) (hP : va_P D vwK ws' H) (hD : va_D (va_A ws s.heap.size) ws') (hS : va_S (va_A ws s.heap.size) s.heap H locs) (hdg : decode cc pc = .ok (.lreturn, 1)) :
    W p l e R s m args below meth c H locs 0 0 (MQ below (QL D ws ws' s.heap.size r) args s 0 0 (va_A ws s.heap.size)) (F0 m pc ls [.long r]) :=
  W.lret (v := r) hx hb hr (fun t ht hW => ⟨⟨r, (), rfl, rfl, by rw [ht]; exact hP, hD⟩, hS.F ht⟩) hS.2.2 hdg hlk
end Leave
section Enter2
variable {l : Launch} {D : va_G} {cI cJ : ClassId} {y : MethodName} {wl wl' : List Cond} {fr lo : Nat} {av : List Value} {ws ws' : va_W} {cc : ByteArray} {maxL : Nat}
def Ctx2 (p : Program) (s : State) (m : MethodId) (args : Array Value) (meth : Method) (c : Code) (D : va_G) (cI cJ : ClassId) (y : MethodName) (wl : List Cond) (av : List Value) (ws : va_W) (cc : ByteArray) (maxL : Nat) (A : Nat → Prop) (ls : Array Slot) : Prop :=
  p.tables.exec = Jvm.exec ∧ c.code = cc ∧ c.maxLocals = maxL ∧ (∀ w ∈ wl, w.before args s = true) ∧ s.vm.findClass y.cls = some m.cls ∧ KN D cI cJ s ∧ (∀ q : Nat, s.heap.size ≤ q → A q) ∧ va_P D vwK ws s.heap ∧ va_D A ws ∧ va_S A s.heap s.heap [] ∧ lv_has ls maxL (lv_args 0 av) ∧ meth.name = y.name
theorem entV (hy : plainName y.cls = true) (hw : wl = Cond.code y cc maxL none :: wl') (hn : (lg_sl av).length ≤ maxL)
    (body : ∀ (p : Program) (e : Env) (s : State) (m : MethodId) (args : Array Value) (below : List Frame) (meth : Method) (c : Code) (ls : Array Slot) (A : Nat → Prop) (Q : State → Prop), Ctx2 p s m args meth c D cI cJ y wl av ws cc maxL A ls →
      (∀ (H : Heap) (locs : List Loc) (pc : Nat) (ls : Array Slot), va_P D vwK ws' H → va_D A ws' → va_S A s.heap H locs → decode cc pc = .ok (.return_, 1) → W p l e (rmOf fr lo) s m args below meth c H locs 0 0 Q (F0 m pc ls [])) →
      W p l e (rmOf fr lo) s m args below meth c s.heap [] 0 0 Q (F0 m 0 ls [])) : CV l D cI cJ y wl fr lo av ws ws' := by
  refine entW (ret := none) hy hw hn (fun p e s m below meth c ls X => ?_)
  obtain ⟨hx, hb, hr, hml, hts, hown, hlk, hK, hA, hP, hD, hS, hl, hnm⟩ := X
  exact body p e s m _ below meth c ls _ _ ⟨hx, hb, hml, hts, hown, hK, hA, hP, hD, hS, hl, hnm⟩ (fun H locs pc ls hP hD hS hdg => retV hx hb hr hlk hP hD hS hdg)
theorem entI {r : Int32} (hy : plainName y.cls = true) (hw : wl = Cond.code y cc maxL (some .int) :: wl') (hn : (lg_sl av).length ≤ maxL)
    (body : ∀ (p : Program) (e : Env) (s : State) (m : MethodId) (args : Array Value) (below : List Frame) (meth : Method) (c : Code) (ls : Array Slot) (A : Nat → Prop) (Q : State → Prop), Ctx2 p s m args meth c D cI cJ y wl av ws cc maxL A ls →
      (∀ (H : Heap) (locs : List Loc) (pc : Nat) (ls : Array Slot), va_P D vwK ws' H → va_D A ws' → va_S A s.heap H locs → decode cc pc = .ok (.ireturn, 1) → W p l e (rmOf fr lo) s m args below meth c H locs 0 0 Q (F0 m pc ls [.int r])) →
      W p l e (rmOf fr lo) s m args below meth c s.heap [] 0 0 Q (F0 m 0 ls [])) : CI l D cI cJ y wl fr lo av ws ws' r := by
  refine entW (ret := some .int) hy hw hn (fun p e s m below meth c ls X => ?_)
  obtain ⟨hx, hb, hr, hml, hts, hown, hlk, hK, hA, hP, hD, hS, hl, hnm⟩ := X
  exact body p e s m _ below meth c ls _ _ ⟨hx, hb, hml, hts, hown, hK, hA, hP, hD, hS, hl, hnm⟩ (fun H locs pc ls hP hD hS hdg => retI hx hb hr hlk hP hD hS hdg)
theorem entZ {r : Int32} (hy : plainName y.cls = true) (hw : wl = Cond.code y cc maxL (some .boolean) :: wl') (hn : (lg_sl av).length ≤ maxL)
    (body : ∀ (p : Program) (e : Env) (s : State) (m : MethodId) (args : Array Value) (below : List Frame) (meth : Method) (c : Code) (ls : Array Slot) (A : Nat → Prop) (Q : State → Prop), Ctx2 p s m args meth c D cI cJ y wl av ws cc maxL A ls →
      (∀ (H : Heap) (locs : List Loc) (pc : Nat) (ls : Array Slot), (r = 0 ∨ r = 1) → va_P D vwK ws' H → va_D A ws' → va_S A s.heap H locs → decode cc pc = .ok (.ireturn, 1) → W p l e (rmOf fr lo) s m args below meth c H locs 0 0 Q (F0 m pc ls [.int r])) →
      W p l e (rmOf fr lo) s m args below meth c s.heap [] 0 0 Q (F0 m 0 ls [])) : CI l D cI cJ y wl fr lo av ws ws' r := by
  refine entW (ret := some .boolean) hy hw hn (fun p e s m below meth c ls X => ?_)
  obtain ⟨hx, hb, hr, hml, hts, hown, hlk, hK, hA, hP, hD, hS, hl, hnm⟩ := X
  exact body p e s m _ below meth c ls _ _ ⟨hx, hb, hml, hts, hown, hK, hA, hP, hD, hS, hl, hnm⟩ (fun H locs pc ls hz hP hD hS hdg => retZ hx hb hr hlk hP hD hS hz hdg)
theorem entL {r : Int64} (hy : plainName y.cls = true) (hw : wl = Cond.code y cc maxL (some .long) :: wl') (hn : (lg_sl av).length ≤ maxL)
    (body : ∀ (p : Program) (e : Env) (s : State) (m : MethodId) (args : Array Value) (below : List Frame) (meth : Method) (c : Code) (ls : Array Slot) (A : Nat → Prop) (Q : State → Prop), Ctx2 p s m args meth c D cI cJ y wl av ws cc maxL A ls →
      (∀ (H : Heap) (locs : List Loc) (pc : Nat) (ls : Array Slot), va_P D vwK ws' H → va_D A ws' → va_S A s.heap H locs → decode cc pc = .ok (.lreturn, 1) → W p l e (rmOf fr lo) s m args below meth c H locs 0 0 Q (F0 m pc ls [.long r])) →
      W p l e (rmOf fr lo) s m args below meth c s.heap [] 0 0 Q (F0 m 0 ls [])) : CL l D cI cJ y wl fr lo av ws ws' r := by
  refine entW (ret := some .long) hy hw hn (fun p e s m below meth c ls X => ?_)
  obtain ⟨hx, hb, hr, hml, hts, hown, hlk, hK, hA, hP, hD, hS, hl, hnm⟩ := X
  exact body p e s m _ below meth c ls _ _ ⟨hx, hb, hml, hts, hown, hK, hA, hP, hD, hS, hl, hnm⟩ (fun H locs pc ls hP hD hS hdg => retL hx hb hr hlk hP hD hS hdg)
end Enter2
section Call
variable {p : Program} {l : Launch} {e : Env} {R : Room} {s : State} {m : MethodId} {args : Array Value} {below : List Frame} {meth : Method} {c : Code} {H : Heap} {locs : List Loc} {cells slots : Nat} {Q : State → Prop} {D : va_G} {cI cJ : ClassId} {A : Nat → Prop}
  {ws wc wc' wr ws2 : va_W} {y : MethodName} {bytes cc : ByteArray} {maxL nL n index : Nat} {ret : Option FieldType} {wl Ts : List Cond} {fr lo : Nat} {own C : String} {b : Addr} {As rest st0 : List Value} {pc : Nat} {ls : Array Slot} {r : Int32} {rl : Int64}
/-- the places of a callee's cells and of the rest, and how they go together again -/
def Cut (ws wc wc' ws2 : va_W) (isC isR is2 : List Nat) : Prop :=
  ∃ wr : va_W, isC.map (fun i => ws[i]?) = wc.map some ∧ va_nd isC = true ∧ isR.map (fun i => ws[i]?) = wr.map some ∧ va_nd isR = true ∧ (∀ i ∈ isR, i ∉ isC) ∧ is2.map (fun i => (wr ++ wc')[i]?) = ws2.map some ∧ va_nd is2 = true
theorem Cut.pp {isC isR is2 : List Nat} (k : Cut ws wc wc' ws2 isC isR is2) (hP : va_P D vwK ws H) : va_P D vwK wc H := by
  obtain ⟨wr, h1, -⟩ := k
  exact hP.sub isC (fm_of_map h1)
theorem Cut.dd {isC isR is2 : List Nat} (k : Cut ws wc wc' ws2 isC isR is2) (hD : va_D A ws) : va_D A wc := by
  obtain ⟨wr, h1, h2, -⟩ := k
  exact hD.sub isC h2 h1
theorem Cut.free {isC isR is2 : List Nat} (k : Cut ws wc wc' ws2 isC isR is2) (hD : va_D A ws) (hS : va_S A s.heap H locs) (hA : ∀ q, s.heap.size ≤ q → A q) : ∀ q, va_A wc H.size q → A q := by
  obtain ⟨wr, h1, -⟩ := k
  exact va_free hD hS hA isC h1
theorem Cut.join {isC isR is2 : List Nat} {H1 : Heap} (k : Cut ws wc wc' ws2 isC isR is2) (hP : va_P D vwK ws H) (hD : va_D A ws) (hS : va_S A s.heap H locs) (hA : ∀ q, s.heap.size ≤ q → A q) (hk : ∀ q : Nat, q < H.size → ¬ va_A wc H.size q → H1[q]? = H[q]?) (hP1 : va_P D vwK wc' H1) (hD1 : va_D (va_A wc H.size) wc') : va_P D vwK ws2 H1 ∧ va_D A ws2 := by
  have hF := k.free hD hS hA
  obtain ⟨wr, h1, -, h3, h4, h5, h6, h7⟩ := k
  obtain ⟨j1, j2⟩ := va_join hP hD isC isR h1 h3 h4 h5 hk hF hP1 hD1
  exact ⟨j1.sub is2 (fm_of_map h6), j2.sub is2 h7 h6⟩
theorem callVi (fx : CallFix p m c cc nL s args Ts own) (hC : CI l D cI cJ y wl fr lo (.ref b :: As) wc wc' r) (cw : CallW R s args own C index y bytes maxL ret wl (rmOf fr lo) 0 0 n) (hK : KN D cI cJ s) (hP : va_P D vwK ws H) (hD : va_D A ws) (hS : va_S A s.heap H locs) (hA : ∀ q, s.heap.size ≤ q → A q)
    (isC isR is2 : List Nat) (k : Cut ws wc wc' ws2 isC isR is2) (q0 ci : Nat) {cq : vw_C} {fs : List Value} (hc : vwK[ci]? = some cq) (he : wc[q0]? = some (b, .inr (ci, fs))) (hq : cq.1 = C) (hn : As.length = n) (hsize : ls.size = nL) (hst : st0 = As.reverse ++ .ref b :: rest) (hW : (rest.map fun v => v.category).sum ≤ 8) (hdg : decode cc pc = .ok (.invokevirtual index, 3)) (hcap : cells ≤ R.cells ∧ slots ≤ R.slots)
    (kk : ∀ (H : Heap) (locs : List Loc), va_P D vwK ws2 H → va_D A ws2 → va_S A s.heap H locs → W p l e R s m args below meth c H locs cells slots Q (F0 m (pc + 3) ls (.int r :: rest))) : W p l e R s m args below meth c H locs cells slots Q (F0 m pc ls st0) := by
  subst hq hst
  refine va_calli (va_runV (As := As) (rest := rest) fx (hC H.size) cw ⟨PRE_blind _ _ _ _ _ _, va_recv hK.1 (k.pp hP) hc he, PRE_at _ hK (k.pp hP) (k.dd hD)⟩ rfl hn hsize rfl (lv_room hW) hdg hcap) hS (fun q _ h => k.free hD hS hA q h) (k.free hD hS hA) (fun r1 u t H1 locs1 ht hvm hw hB hz1 hk1 hS1 => ?_)
  obtain ⟨hP1, hD1⟩ := hB
  rw [ht] at hP1
  subst hw
  obtain ⟨j1, j2⟩ := k.join hP hD hS hA hk1 hP1 hD1
  exact kk H1 locs1 j1 j2 hS1
theorem callVl (fx : CallFix p m c cc nL s args Ts own) (hC : CL l D cI cJ y wl fr lo (.ref b :: As) wc wc' rl) (cw : CallW R s args own C index y bytes maxL ret wl (rmOf fr lo) 0 0 n) (hK : KN D cI cJ s) (hP : va_P D vwK ws H) (hD : va_D A ws) (hS : va_S A s.heap H locs) (hA : ∀ q, s.heap.size ≤ q → A q)
    (isC isR is2 : List Nat) (k : Cut ws wc wc' ws2 isC isR is2) (q0 ci : Nat) {cq : vw_C} {fs : List Value} (hc : vwK[ci]? = some cq) (he : wc[q0]? = some (b, .inr (ci, fs))) (hq : cq.1 = C) (hn : As.length = n) (hsize : ls.size = nL) (hst : st0 = As.reverse ++ .ref b :: rest) (hW : (rest.map fun v => v.category).sum ≤ 8) (hdg : decode cc pc = .ok (.invokevirtual index, 3)) (hcap : cells ≤ R.cells ∧ slots ≤ R.slots)
    (kk : ∀ (H : Heap) (locs : List Loc), va_P D vwK ws2 H → va_D A ws2 → va_S A s.heap H locs → W p l e R s m args below meth c H locs cells slots Q (F0 m (pc + 3) ls (.long rl :: rest))) : W p l e R s m args below meth c H locs cells slots Q (F0 m pc ls st0) := by
  subst hq hst
  refine va_calll (va_runV (As := As) (rest := rest) fx (hC H.size) cw ⟨PRE_blind _ _ _ _ _ _, va_recv hK.1 (k.pp hP) hc he, PRE_at _ hK (k.pp hP) (k.dd hD)⟩ rfl hn hsize rfl (lv_room hW) hdg hcap) hS (fun q _ h => k.free hD hS hA q h) (k.free hD hS hA) (fun r1 u t H1 locs1 ht hvm hw hB hz1 hk1 hS1 => ?_)
  obtain ⟨hP1, hD1⟩ := hB
  rw [ht] at hP1
  subst hw
  obtain ⟨j1, j2⟩ := k.join hP hD hS hA hk1 hP1 hD1
  exact kk H1 locs1 j1 j2 hS1
theorem callVv (fx : CallFix p m c cc nL s args Ts own) (hC : CV l D cI cJ y wl fr lo (.ref b :: As) wc wc') (cw : CallW R s args own C index y bytes maxL ret wl (rmOf fr lo) 0 0 n) (hK : KN D cI cJ s) (hP : va_P D vwK ws H) (hD : va_D A ws) (hS : va_S A s.heap H locs) (hA : ∀ q, s.heap.size ≤ q → A q)
    (isC isR is2 : List Nat) (k : Cut ws wc wc' ws2 isC isR is2) (q0 ci : Nat) {cq : vw_C} {fs : List Value} (hc : vwK[ci]? = some cq) (he : wc[q0]? = some (b, .inr (ci, fs))) (hq : cq.1 = C) (hn : As.length = n) (hsize : ls.size = nL) (hst : st0 = As.reverse ++ .ref b :: rest) (hW : (rest.map fun v => v.category).sum ≤ 8) (hdg : decode cc pc = .ok (.invokevirtual index, 3)) (hcap : cells ≤ R.cells ∧ slots ≤ R.slots)
    (kk : ∀ (H : Heap) (locs : List Loc), va_P D vwK ws2 H → va_D A ws2 → va_S A s.heap H locs → W p l e R s m args below meth c H locs cells slots Q (F0 m (pc + 3) ls rest)) : W p l e R s m args below meth c H locs cells slots Q (F0 m pc ls st0) := by
  subst hq hst
  refine va_callv (va_runV (As := As) (rest := rest) fx (hC H.size) cw ⟨PRE_blind _ _ _ _ _ _, va_recv hK.1 (k.pp hP) hc he, PRE_at _ hK (k.pp hP) (k.dd hD)⟩ rfl hn hsize rfl (lv_room hW) hdg hcap) hS (fun q _ h => k.free hD hS hA q h) (k.free hD hS hA) (fun u t H1 locs1 ht hvm hw hB hz1 hk1 hS1 => ?_)
  obtain ⟨hP1, hD1⟩ := hB
  rw [ht] at hP1
  obtain ⟨j1, j2⟩ := k.join hP hD hS hA hk1 hP1 hD1
  exact kk H1 locs1 j1 j2 hS1
theorem callSi (fx : CallFix p m c cc nL s args Ts own) (hC : CI l D cI cJ y wl fr lo As wc wc' r) (cw : CallB R s args own index y bytes maxL ret wl (rmOf fr lo) 0 0 n ∧ (Cond.static y).before args s = true) (hK : KN D cI cJ s) (hP : va_P D vwK ws H) (hD : va_D A ws) (hS : va_S A s.heap H locs) (hA : ∀ q, s.heap.size ≤ q → A q)
    (isC isR is2 : List Nat) (k : Cut ws wc wc' ws2 isC isR is2) (hn : As.length = n) (hsize : ls.size = nL) (hst : st0 = As.reverse ++ rest) (hW : (rest.map fun v => v.category).sum ≤ 8) (hdg : decode cc pc = .ok (.invokestatic index, 3)) (hcap : cells ≤ R.cells ∧ slots ≤ R.slots)
    (kk : ∀ (H : Heap) (locs : List Loc), va_P D vwK ws2 H → va_D A ws2 → va_S A s.heap H locs → W p l e R s m args below meth c H locs cells slots Q (F0 m (pc + 3) ls (.int r :: rest))) : W p l e R s m args below meth c H locs cells slots Q (F0 m pc ls st0) := by
  subst hst
  refine va_calli (va_runS (As := As) (rest := rest) fx (hC H.size) cw ⟨PRE_blind _ _ _ _ _ _, PRE_at _ hK (k.pp hP) (k.dd hD)⟩ rfl hn hsize rfl (lv_room hW) hdg hcap) hS (fun q _ h => k.free hD hS hA q h) (k.free hD hS hA) (fun r1 u t H1 locs1 ht hvm hw hB hz1 hk1 hS1 => ?_)
  obtain ⟨hP1, hD1⟩ := hB
  rw [ht] at hP1
  subst hw
  obtain ⟨j1, j2⟩ := k.join hP hD hS hA hk1 hP1 hD1
  exact kk H1 locs1 j1 j2 hS1
theorem callSl (fx : CallFix p m c cc nL s args Ts own) (hC : CL l D cI cJ y wl fr lo As wc wc' rl) (cw : CallB R s args own index y bytes maxL ret wl (rmOf fr lo) 0 0 n ∧ (Cond.static y).before args s = true) (hK : KN D cI cJ s) (hP : va_P D vwK ws H) (hD : va_D A ws) (hS : va_S A s.heap H locs) (hA : ∀ q, s.heap.size ≤ q → A q)
    (isC isR is2 : List Nat) (k : Cut ws wc wc' ws2 isC isR is2) (hn : As.length = n) (hsize : ls.size = nL) (hst : st0 = As.reverse ++ rest) (hW : (rest.map fun v => v.category).sum ≤ 8) (hdg : decode cc pc = .ok (.invokestatic index, 3)) (hcap : cells ≤ R.cells ∧ slots ≤ R.slots)
    (kk : ∀ (H : Heap) (locs : List Loc), va_P D vwK ws2 H → va_D A ws2 → va_S A s.heap H locs → W p l e R s m args below meth c H locs cells slots Q (F0 m (pc + 3) ls (.long rl :: rest))) : W p l e R s m args below meth c H locs cells slots Q (F0 m pc ls st0) := by
  subst hst
  refine va_calll (va_runS (As := As) (rest := rest) fx (hC H.size) cw ⟨PRE_blind _ _ _ _ _ _, PRE_at _ hK (k.pp hP) (k.dd hD)⟩ rfl hn hsize rfl (lv_room hW) hdg hcap) hS (fun q _ h => k.free hD hS hA q h) (k.free hD hS hA) (fun r1 u t H1 locs1 ht hvm hw hB hz1 hk1 hS1 => ?_)
  obtain ⟨hP1, hD1⟩ := hB
  rw [ht] at hP1
  subst hw
  obtain ⟨j1, j2⟩ := k.join hP hD hS hA hk1 hP1 hD1
  exact kk H1 locs1 j1 j2 hS1
theorem callNv {host : String} (fx : CallFix p m c cc nL s args Ts own) (hC : CV l D cI cJ y wl fr lo As wc wc') (cw : va_CN R s args own index y host bytes maxL ret wl (rmOf fr lo) 0 0 n ∧ (Cond.static y).before args s = true ∧ True) (hK : KN D cI cJ s) (hP : va_P D vwK ws H) (hD : va_D A ws) (hS : va_S A s.heap H locs) (hA : ∀ q, s.heap.size ≤ q → A q)
    (isC isR is2 : List Nat) (k : Cut ws wc wc' ws2 isC isR is2) (hn : As.length = n) (hsize : ls.size = nL) (hst : st0 = As.reverse ++ rest) (hW : (rest.map fun v => v.category).sum ≤ 8) (hdg : decode cc pc = .ok (.invokestatic index, 3)) (hcap : cells ≤ R.cells ∧ slots ≤ R.slots)
    (kk : ∀ (H : Heap) (locs : List Loc), va_P D vwK ws2 H → va_D A ws2 → va_S A s.heap H locs → W p l e R s m args below meth c H locs cells slots Q (F0 m (pc + 3) ls rest)) : W p l e R s m args below meth c H locs cells slots Q (F0 m pc ls st0) := by
  subst hst
  refine va_callv (va_runSN (As := As) (rest := rest) fx (hC H.size) cw ⟨PRE_blind _ _ _ _ _ _, PRE_at _ hK (k.pp hP) (k.dd hD)⟩ rfl hn hsize rfl (lv_room hW) hdg hcap) hS (fun q _ h => k.free hD hS hA q h) (k.free hD hS hA) (fun u t H1 locs1 ht hvm hw hB hz1 hk1 hS1 => ?_)
  obtain ⟨hP1, hD1⟩ := hB
  rw [ht] at hP1
  obtain ⟨j1, j2⟩ := k.join hP hD hS hA hk1 hP1 hD1
  exact kk H1 locs1 j1 j2 hS1
theorem callTi (fx : CallFix p m c cc nL s args Ts own) (hC : CI l D cI cJ y wl fr lo (.ref b :: As) ws wc' r) (cw : CallW R s args own C index y bytes maxL ret wl (rmOf fr lo) 0 0 n) (hK : KN D cI cJ s) (hP : va_P D vwK ws H) (hD : va_D A ws) (hS : va_S A s.heap H locs) (hA : ∀ q, s.heap.size ≤ q → A q)
    (q0 ci : Nat) {cq : vw_C} {fs : List Value} (hc : vwK[ci]? = some cq) (he : ws[q0]? = some (b, .inr (ci, fs))) (hq : cq.1 = C) (hn : As.length = n) (hsize : ls.size = nL) (hst : st0 = As.reverse ++ .ref b :: rest) (hW : (rest.map fun v => v.category).sum ≤ 8) (hdg : decode cc pc = .ok (.invokevirtual index, 3)) (hcap : cells ≤ R.cells ∧ slots ≤ R.slots)
    (kk : ∀ (H : Heap) (locs : List Loc), va_P D vwK wc' H → va_D A wc' → va_S A s.heap H locs → W p l e R s m args below meth c H locs cells slots Q (F0 m (pc + 3) ls (.int r :: rest))) : W p l e R s m args below meth c H locs cells slots Q (F0 m pc ls st0) := by
  subst hq hst
  have hF : ∀ q, va_A ws H.size q → A q := fun q h => h.elim (fun ⟨k, e, h⟩ => hD.2 k (q, e) h) (fun h => hA q (Nat.le_trans hS.1 h))
  refine va_calli (va_runV (As := As) (rest := rest) fx (hC H.size) cw ⟨PRE_blind _ _ _ _ _ _, va_recv hK.1 hP hc he, PRE_at _ hK hP hD⟩ rfl hn hsize rfl (lv_room hW) hdg hcap) hS (fun q _ h => hF q h) hF (fun r1 u t H1 locs1 ht hvm hw hB hz1 hk1 hS1 => ?_)
  obtain ⟨hP1, hD1⟩ := hB
  rw [ht] at hP1
  subst hw
  exact kk H1 locs1 hP1 (hD1.weaken (fun _ q _ h => hF q.1 h)) hS1
theorem callTl (fx : CallFix p m c cc nL s args Ts own) (hC : CL l D cI cJ y wl fr lo (.ref b :: As) ws wc' rl) (cw : CallW R s args own C index y bytes maxL ret wl (rmOf fr lo) 0 0 n) (hK : KN D cI cJ s) (hP : va_P D vwK ws H) (hD : va_D A ws) (hS : va_S A s.heap H locs) (hA : ∀ q, s.heap.size ≤ q → A q)
    (q0 ci : Nat) {cq : vw_C} {fs : List Value} (hc : vwK[ci]? = some cq) (he : ws[q0]? = some (b, .inr (ci, fs))) (hq : cq.1 = C) (hn : As.length = n) (hsize : ls.size = nL) (hst : st0 = As.reverse ++ .ref b :: rest) (hW : (rest.map fun v => v.category).sum ≤ 8) (hdg : decode cc pc = .ok (.invokevirtual index, 3)) (hcap : cells ≤ R.cells ∧ slots ≤ R.slots)
    (kk : ∀ (H : Heap) (locs : List Loc), va_P D vwK wc' H → va_D A wc' → va_S A s.heap H locs → W p l e R s m args below meth c H locs cells slots Q (F0 m (pc + 3) ls (.long rl :: rest))) : W p l e R s m args below meth c H locs cells slots Q (F0 m pc ls st0) := by
  subst hq hst
  have hF : ∀ q, va_A ws H.size q → A q := fun q h => h.elim (fun ⟨k, e, h⟩ => hD.2 k (q, e) h) (fun h => hA q (Nat.le_trans hS.1 h))
  refine va_calll (va_runV (As := As) (rest := rest) fx (hC H.size) cw ⟨PRE_blind _ _ _ _ _ _, va_recv hK.1 hP hc he, PRE_at _ hK hP hD⟩ rfl hn hsize rfl (lv_room hW) hdg hcap) hS (fun q _ h => hF q h) hF (fun r1 u t H1 locs1 ht hvm hw hB hz1 hk1 hS1 => ?_)
  obtain ⟨hP1, hD1⟩ := hB
  rw [ht] at hP1
  subst hw
  exact kk H1 locs1 hP1 (hD1.weaken (fun _ q _ h => hF q.1 h)) hS1
theorem callTv (fx : CallFix p m c cc nL s args Ts own) (hC : CV l D cI cJ y wl fr lo (.ref b :: As) ws wc') (cw : CallW R s args own C index y bytes maxL ret wl (rmOf fr lo) 0 0 n) (hK : KN D cI cJ s) (hP : va_P D vwK ws H) (hD : va_D A ws) (hS : va_S A s.heap H locs) (hA : ∀ q, s.heap.size ≤ q → A q)
    (q0 ci : Nat) {cq : vw_C} {fs : List Value} (hc : vwK[ci]? = some cq) (he : ws[q0]? = some (b, .inr (ci, fs))) (hq : cq.1 = C) (hn : As.length = n) (hsize : ls.size = nL) (hst : st0 = As.reverse ++ .ref b :: rest) (hW : (rest.map fun v => v.category).sum ≤ 8) (hdg : decode cc pc = .ok (.invokevirtual index, 3)) (hcap : cells ≤ R.cells ∧ slots ≤ R.slots)
    (kk : ∀ (H : Heap) (locs : List Loc), va_P D vwK wc' H → va_D A wc' → va_S A s.heap H locs → W p l e R s m args below meth c H locs cells slots Q (F0 m (pc + 3) ls rest)) : W p l e R s m args below meth c H locs cells slots Q (F0 m pc ls st0) := by
  subst hq hst
  have hF : ∀ q, va_A ws H.size q → A q := fun q h => h.elim (fun ⟨k, e, h⟩ => hD.2 k (q, e) h) (fun h => hA q (Nat.le_trans hS.1 h))
  refine va_callv (va_runV (As := As) (rest := rest) fx (hC H.size) cw ⟨PRE_blind _ _ _ _ _ _, va_recv hK.1 hP hc he, PRE_at _ hK hP hD⟩ rfl hn hsize rfl (lv_room hW) hdg hcap) hS (fun q _ h => hF q h) hF (fun u t H1 locs1 ht hvm hw hB hz1 hk1 hS1 => ?_)
  obtain ⟨hP1, hD1⟩ := hB
  rw [ht] at hP1
  exact kk H1 locs1 hP1 (hD1.weaken (fun _ q _ h => hF q.1 h)) hS1
theorem callPi (fx : CallFix p m c cc nL s args Ts own) (hC : CI l D cI cJ y wl fr lo As [] [] r) (cw : CallB R s args own index y bytes maxL ret wl (rmOf fr lo) 0 0 n ∧ (Cond.static y).before args s = true) (hK : KN D cI cJ s) (hP : va_P D vwK ws H) (hD : va_D A ws) (hS : va_S A s.heap H locs) (hA : ∀ q, s.heap.size ≤ q → A q)
    (hn : As.length = n) (hsize : ls.size = nL) (hst : st0 = As.reverse ++ rest) (hW : (rest.map fun v => v.category).sum ≤ 8) (hdg : decode cc pc = .ok (.invokestatic index, 3)) (hcap : cells ≤ R.cells ∧ slots ≤ R.slots)
    (kk : ∀ (H : Heap) (locs : List Loc), va_P D vwK ws H → va_D A ws → va_S A s.heap H locs → W p l e R s m args below meth c H locs cells slots Q (F0 m (pc + 3) ls (.int r :: rest))) : W p l e R s m args below meth c H locs cells slots Q (F0 m pc ls st0) := by
  subst hst
  have hF : ∀ q, va_A [] H.size q → A q := fun q h => h.elim (fun ⟨k, e, h⟩ => by simp at h) (fun h => hA q (Nat.le_trans hS.1 h))
  have hP0 : va_P D vwK [] H := fun k q h => by simp at h
  have hD0 : va_D A [] := ⟨fun i j p q h => by simp at h, fun k q h => by simp at h⟩
  refine va_calli (va_runS (As := As) (rest := rest) fx (hC H.size) cw ⟨PRE_blind _ _ _ _ _ _, PRE_at _ hK hP0 hD0⟩ rfl hn hsize rfl (lv_room hW) hdg hcap) hS (fun q _ h => hF q h) hF (fun r1 u t H1 locs1 ht hvm hw hB hz1 hk1 hS1 => ?_)
  subst hw
  refine kk H1 locs1 (hP.kept (fun k q hk => hk1 q.1 (hP k q hk).lt (fun h => ?_))) hD hS1
  rcases h with ⟨k2, e2, h2⟩ | h2
  · simp at h2
  · exact absurd (hP k q hk).lt (Nat.not_lt.mpr h2)
theorem callPl (fx : CallFix p m c cc nL s args Ts own) (hC : CL l D cI cJ y wl fr lo As [] [] rl) (cw : CallB R s args own index y bytes maxL ret wl (rmOf fr lo) 0 0 n ∧ (Cond.static y).before args s = true) (hK : KN D cI cJ s) (hP : va_P D vwK ws H) (hD : va_D A ws) (hS : va_S A s.heap H locs) (hA : ∀ q, s.heap.size ≤ q → A q)
    (hn : As.length = n) (hsize : ls.size = nL) (hst : st0 = As.reverse ++ rest) (hW : (rest.map fun v => v.category).sum ≤ 8) (hdg : decode cc pc = .ok (.invokestatic index, 3)) (hcap : cells ≤ R.cells ∧ slots ≤ R.slots)
    (kk : ∀ (H : Heap) (locs : List Loc), va_P D vwK ws H → va_D A ws → va_S A s.heap H locs → W p l e R s m args below meth c H locs cells slots Q (F0 m (pc + 3) ls (.long rl :: rest))) : W p l e R s m args below meth c H locs cells slots Q (F0 m pc ls st0) := by
  subst hst
  have hF : ∀ q, va_A [] H.size q → A q := fun q h => h.elim (fun ⟨k, e, h⟩ => by simp at h) (fun h => hA q (Nat.le_trans hS.1 h))
  have hP0 : va_P D vwK [] H := fun k q h => by simp at h
  have hD0 : va_D A [] := ⟨fun i j p q h => by simp at h, fun k q h => by simp at h⟩
  refine va_calll (va_runS (As := As) (rest := rest) fx (hC H.size) cw ⟨PRE_blind _ _ _ _ _ _, PRE_at _ hK hP0 hD0⟩ rfl hn hsize rfl (lv_room hW) hdg hcap) hS (fun q _ h => hF q h) hF (fun r1 u t H1 locs1 ht hvm hw hB hz1 hk1 hS1 => ?_)
  subst hw
  refine kk H1 locs1 (hP.kept (fun k q hk => hk1 q.1 (hP k q hk).lt (fun h => ?_))) hD hS1
  rcases h with ⟨k2, e2, h2⟩ | h2
  · simp at h2
  · exact absurd (hP k q hk).lt (Nat.not_lt.mpr h2)
end Call
section Mirror
/-- an array is read, or written, at a place that it has -/
def gA {α β : Type} (n : Nat) (f : Nat → α) (i : Int32) (k : α → Option β) : Option β := if i < 0 ∨ n ≤ i.toNatClampNeg then none else k (f i.toNatClampNeg)
def sI {β : Type} (n : Nat) (f : Nat → Int32) (i x : Int32) (k : (Nat → Int32) → Option β) : Option β := if i < 0 ∨ n ≤ i.toNatClampNeg then none else k (upd f i.toNatClampNeg x)
def sL {β : Type} (n : Nat) (f : Nat → Int64) (i : Int32) (x : Int64) (k : (Nat → Int64) → Option β) : Option β := if i < 0 ∨ n ≤ i.toNatClampNeg then none else k (vp_updL f i.toNatClampNeg x)
def nm {α β : Type} (x : α) (k : α → Option β) : Option β := k x
def dz {β : Type} (y : Int32) (k : Option β) : Option β := if y = 0 then none else k
def dzL {β : Type} (y : Int64) (k : Option β) : Option β := if y = 0 then none else k
def bz {β : Type} (r : Int32) (k : Option β) : Option β := if r = 0 ∨ r = 1 then k else none
theorem gA_s {α β : Type} {n : Nat} {f : Nat → α} {i : Int32} {k : α → Option β} {r : β} (h : gA n f i k = some r) : vp_in i n ∧ ∀ v, v = f i.toNatClampNeg → k v = some r := by
  unfold gA at h
  by_cases c : i < 0 ∨ n ≤ i.toNatClampNeg
  · rw [if_pos c] at h; cases h
  · exact ⟨c, fun v e => by rw [if_neg c] at h; rw [e]; exact h⟩
theorem sI_s {β : Type} {n : Nat} {f : Nat → Int32} {i x : Int32} {k : (Nat → Int32) → Option β} {r : β} (h : sI n f i x k = some r) : vp_in i n ∧ ∀ g, g = upd f i.toNatClampNeg x → k g = some r := by
  unfold sI at h
  by_cases c : i < 0 ∨ n ≤ i.toNatClampNeg
  · rw [if_pos c] at h; cases h
  · exact ⟨c, fun v e => by rw [if_neg c] at h; rw [e]; exact h⟩
theorem sL_s {β : Type} {n : Nat} {f : Nat → Int64} {i : Int32} {x : Int64} {k : (Nat → Int64) → Option β} {r : β} (h : sL n f i x k = some r) : vp_in i n ∧ ∀ g, g = vp_updL f i.toNatClampNeg x → k g = some r := by
  unfold sL at h
  by_cases c : i < 0 ∨ n ≤ i.toNatClampNeg
  · rw [if_pos c] at h; cases h
  · exact ⟨c, fun v e => by rw [if_neg c] at h; rw [e]; exact h⟩
theorem nm_s {α β : Type} {x : α} {k : α → Option β} {r : Option β} (h : nm x k = r) (z : α) (e : z = x) : k z = r := by
  rw [e]; exact h
theorem dz_s {β : Type} {y : Int32} {k : Option β} {r : β} (h : dz y k = some r) : ¬ y = 0 ∧ k = some r := by
  unfold dz at h
  by_cases c : y = 0
  · rw [if_pos c] at h; cases h
  · exact ⟨c, by rw [if_neg c] at h; exact h⟩
theorem dzL_s {β : Type} {y : Int64} {k : Option β} {r : β} (h : dzL y k = some r) : ¬ y = 0 ∧ k = some r := by
  unfold dzL at h
  by_cases c : y = 0
  · rw [if_pos c] at h; cases h
  · exact ⟨c, by rw [if_neg c] at h; exact h⟩
theorem bz_s {β : Type} {y : Int32} {k : Option β} {r : β} (h : bz y k = some r) : (y = 0 ∨ y = 1) ∧ k = some r := by
  unfold bz at h
  by_cases c : y = 0 ∨ y = 1
  · exact ⟨c, by rw [if_pos c] at h; exact h⟩
  · rw [if_neg c] at h; cases h
theorem bd_s {α β : Type} {o : Option α} {k : α → Option β} {r : β} (h : o.bind k = some r) : ∃ a, o = some a ∧ k a = some r := by
  cases o with
  | none => cases h
  | some a => exact ⟨a, rfl, h⟩
theorem it_p {α : Type} {P : Prop} {i : Decidable P} {a b r : α} (c : P) (h : @ite α P i a b = r) : a = r := by rw [if_pos c] at h; exact h
theorem it_n {α : Type} {P : Prop} {i : Decidable P} {a b r : α} (c : ¬ P) (h : @ite α P i a b = r) : b = r := by rw [if_neg c] at h; exact h
/-- how many turns a loop of the mirror may take -/
def FU : Nat := 3000
end Mirror
end
section
/-! the worlds of the classes: the object and its arrays -/
abbrev w5 (h5 h2 h3 h1 h4 : Nat) : va_W := [(h5, .inr (4, [.ref h2, .ref h3, .ref h1, .ref h4]))]
abbrev w1 (cI cJ : ClassId) (h1 weights1a freshWeights1a signs1a lengths1a sums1a nextSums1a bestFrom1a bestPath1a : Nat) (weights1 : Nat → Int32) (freshWeights1 : Nat → Int32) (signs1 : Nat → Int32) (lengths1 : Nat → Int32) (sums1 : Nat → Int64) (nextSums1 : Nat → Int64) (bestFrom1 : Nat → Int64) (bestPath1 : Nat → Int32) : va_W := [(h1, .inr (0, [.ref weights1a, .ref freshWeights1a, .ref signs1a, .ref lengths1a, .ref sums1a, .ref nextSums1a, .ref bestFrom1a, .ref bestPath1a])), (weights1a, .inl (cI, 36, .inl weights1)), (freshWeights1a, .inl (cI, 36, .inl freshWeights1)), (signs1a, .inl (cI, 20, .inl signs1)), (lengths1a, .inl (cI, 4, .inl lengths1)), (sums1a, .inl (cJ, 4, .inr (.inl sums1))), (nextSums1a, .inl (cJ, 4, .inr (.inl nextSums1))), (bestFrom1a, .inl (cJ, 20, .inr (.inl bestFrom1))), (bestPath1a, .inl (cI, 5, .inl bestPath1))]
abbrev w2 (cI cJ : ClassId) (h2 labels2a guesses2a lengths2a words2a times2a totals2a sizes2a : Nat) (labels2 : Nat → Int32) (guesses2 : Nat → Int32) (lengths2 : Nat → Int32) (words2 : Nat → Int32) (times2 : Nat → Int32) (totals2 : Nat → Int32) (sizes2 : Nat → Int32) (rowCount2 : Int32) (addedUp2 : Int32) (addedDown2 : Int32) : va_W := [(h2, .inr (1, [.ref labels2a, .ref guesses2a, .ref lengths2a, .ref words2a, .ref times2a, .ref totals2a, .ref sizes2a, .int rowCount2, .int addedUp2, .int addedDown2])), (labels2a, .inl (cI, 40, .inl labels2)), (guesses2a, .inl (cI, 40, .inl guesses2)), (lengths2a, .inl (cI, 40, .inl lengths2)), (words2a, .inl (cI, 240, .inl words2)), (times2a, .inl (cI, 32, .inl times2)), (totals2a, .inl (cI, 4, .inl totals2)), (sizes2a, .inl (cI, 4, .inl sizes2))]
abbrev w3 (cI cJ : ClassId) (h3 text3a behind3a uppers3a : Nat) (text3 : Nat → Int32) (behind3 : Nat → Int32) (uppers3 : Nat → Int64) (lower3 : Int64) (textLength3 : Int32) : va_W := [(h3, .inr (2, [.ref text3a, .ref behind3a, .ref uppers3a, .long lower3, .int textLength3])), (text3a, .inl (cI, 60, .inl text3)), (behind3a, .inl (cI, 8, .inl behind3)), (uppers3a, .inl (cJ, 8, .inr (.inl uppers3)))]
abbrev w4 (cI cJ : ClassId) (h4 support4a having4a keys4a : Nat) (support4 : Nat → Int32) (having4 : Nat → Int32) (keys4 : Nat → Int32) (ruleCount4 : Int32) : va_W := [(h4, .inr (3, [.ref support4a, .ref having4a, .ref keys4a, .int ruleCount4])), (support4a, .inl (cI, 64, .inl support4)), (having4a, .inl (cI, 8, .inl having4)), (keys4a, .inl (cI, 56, .inl keys4))]
abbrev w6 (cI cJ : ClassId) (h6 labels6a guesses6a comes6a sizes6a words6a told6a behind6a shares6a start6a move6a show6a signs6a many6a bestPath6a nextStart6a nextMove6a nextShow6a : Nat) (thrown6 : Int32) (rows6 : Int32) (labels6 : Nat → Int32) (guesses6 : Nat → Int32) (comes6 : Nat → Int32) (sizes6 : Nat → Int32) (words6 : Nat → Int32) (up6 : Int32) (down6 : Int32) (weightAbove6 : Int64) (weightBelow6 : Int64) (told6 : Nat → Int32) (length6 : Int32) (behind6 : Nat → Int32) (shares6 : Nat → Int64) (over6 : Int64) (start6 : Nat → Int32) (move6 : Nat → Int32) (show6 : Nat → Int32) (signs6 : Nat → Int32) (many6 : Nat → Int32) (bestPath6 : Nat → Int32) (nextStart6 : Nat → Int32) (nextMove6 : Nat → Int32) (nextShow6 : Nat → Int32) : va_W := [(h6, .inr (5, [.int thrown6, .int rows6, .ref labels6a, .ref guesses6a, .ref comes6a, .ref sizes6a, .ref words6a, .int up6, .int down6, .long weightAbove6, .long weightBelow6, .ref told6a, .int length6, .ref behind6a, .ref shares6a, .long over6, .ref start6a, .ref move6a, .ref show6a, .ref signs6a, .ref many6a, .ref bestPath6a, .ref nextStart6a, .ref nextMove6a, .ref nextShow6a])), (labels6a, .inl (cI, 40, .inl labels6)), (guesses6a, .inl (cI, 40, .inl guesses6)), (comes6a, .inl (cI, 40, .inl comes6)), (sizes6a, .inl (cI, 40, .inl sizes6)), (words6a, .inl (cI, 240, .inl words6)), (told6a, .inl (cI, 60, .inl told6)), (behind6a, .inl (cI, 8, .inl behind6)), (shares6a, .inl (cJ, 8, .inr (.inl shares6))), (start6a, .inl (cI, 4, .inl start6)), (move6a, .inl (cI, 16, .inl move6)), (show6a, .inl (cI, 16, .inl show6)), (signs6a, .inl (cI, 20, .inl signs6)), (many6a, .inl (cI, 4, .inl many6)), (bestPath6a, .inl (cI, 4, .inl bestPath6)), (nextStart6a, .inl (cI, 4, .inl nextStart6)), (nextMove6a, .inl (cI, 16, .inl nextMove6)), (nextShow6a, .inl (cI, 16, .inl nextShow6))]
end
section
def f_X5_setAll_L2 (i1 : Int32) (n0 : Nat) : Nat → Int32 → (Nat → Int32) → Option (Int32 × (Nat → Int32))
  | 0, _, _ => none
  | n + 1, y2_2, arr0_3 =>
  if (Int32.ofNat n0) ≤ y2_2 then
    some (y2_2, arr0_3)
  else
    sI n0 arr0_3 y2_2 i1 fun arr0_8 =>
    nm (α := Int32) (y2_2 + 1) fun x2_9 =>
    f_X5_setAll_L2 i1 n0 n x2_9 arr0_8
def f_X5_setAll (n0 : Nat) (arr0 : Nat → Int32) (i1 : Int32) : Option ((Nat → Int32)) :=
  nm (α := Int32) (0) fun x2_1 =>
  Option.bind (f_X5_setAll_L2 i1 n0 FU x2_1 arr0) fun (z2_10, arr0_11) =>
  some arr0_11
set_option maxHeartbeats 4000000 in
set_option maxRecDepth 100000 in
theorem c_X5_setAll (l : Launch) (D : va_G) (cI cJ : ClassId) (a0 : Nat) (n0 : Nat) (arr0 : Nat → Int32) (i1 : Int32) (arr0z : Nat → Int32) (h : f_X5_setAll n0 arr0 i1 = some arr0z) : CV l D cI cJ yX5_setAll wsX5_setAll 0 0 [.ref a0, .int i1] ([(a0, .inl (cI, n0, .inl arr0))]) ([(a0, .inl (cI, n0, .inl arr0z))]) := by
  refine entV (cc := cX5_setAll) (maxL := 3) (by decide) rfl (Nat.le_of_ble_eq_true rfl) ?_
  intro p e s m args below meth c ls A Q X hret
  obtain ⟨hx, hb, hml, hts, hown, hK, hA, hP, hD, hS, hl, hnm⟩ := X
  have hown : s.vm.findClass RX5 = some m.cls := hown
  have hl : lv_has ls 3 [(0, .ref a0), (1, .int i1)] := hl
  unfold f_X5_setAll at h
  refine lv_iconst (v := 0) hx hb dX5_setAll_0 (by decide) ?_
  refine lv_topi (fun x2_1 ex2_1 => ?_)
  have h := nm_s h x2_1 ex2_1
  refine lv_istore_n (lv' := [(2, .int x2_1), (0, .ref a0), (1, .int i1)]) hx hb dX5_setAll_1 rfl hl (by decide) rfl (fun ls hl => ?_)
  have L2 : ∀ (n : Nat) (y2_2 : Int32) (arr0_3 : Nat → Int32) (z2_4 : Int32) (arr0_5 : Nat → Int32), f_X5_setAll_L2 i1 n0 n y2_2 arr0_3 = some (z2_4, arr0_5) → ∀ (H : Heap) (locs : List Loc) (ls : Array Slot), va_P D vwK ([(a0, .inl (cI, n0, .inl arr0_3))]) H → va_D A ([(a0, .inl (cI, n0, .inl arr0_3))]) → va_S A s.heap H locs → lv_has ls 3 [(2, .int y2_2), (0, .ref a0), (1, .int i1)] → (∀ (H : Heap) (locs : List Loc) (ls : Array Slot), va_P D vwK ([(a0, .inl (cI, n0, .inl arr0_5))]) H → va_D A ([(a0, .inl (cI, n0, .inl arr0_5))]) → va_S A s.heap H locs → lv_has ls 3 [] → W p l e (rmOf 0 0) s m args below meth c H locs 0 0 Q (F0 m 18 ls [])) → W p l e (rmOf 0 0) s m args below meth c H locs 0 0 Q (F0 m 2 ls []) := by
    intro n
    induction n with
    | zero => intro y2_2 arr0_3 z2_4 arr0_5 h; rw [f_X5_setAll_L2.eq_1] at h; cases h
    | succ n ih =>
      intro y2_2 arr0_3 z2_4 arr0_5 h H locs ls hP hD hS hl K
      rw [f_X5_setAll_L2.eq_2] at h
      refine lv_iload_n hx hb dX5_setAll_2 rfl (lv_at hl 0 rfl) ?_
      refine lv_aload_n hx hb dX5_setAll_3 rfl (lv_at hl 1 rfl) ?_
      refine va_alen (v := (Int32.ofNat n0)) hx hb hK.1 hP 0 0 rfl rfl rfl dX5_setAll_4 ?_
      refine lv_icmp_ge (tgt := 18) hx hb dX5_setAll_5 (by decide) (fun c_6 => ?_) (fun c_6 => ?_)
      · have h := it_p c_6 h
        cases h
        exact K _ _ _ hP hD hS (lv_sub hl [] rfl)
      · have h := it_n c_6 h
        refine lv_aload_n hx hb dX5_setAll_8 rfl (lv_at hl 1 rfl) ?_
        refine lv_iload_n hx hb dX5_setAll_9 rfl (lv_at hl 0 rfl) ?_
        refine lv_iload_n hx hb dX5_setAll_10 rfl (lv_at hl 2 rfl) ?_
        obtain ⟨hi_7, h⟩ := sI_s h
        refine va_iast hx hb hK.1 hP hD hS 0 0 rfl rfl hi_7 dX5_setAll_11 (fun H locs hP hD hS => ?_)
        obtain ⟨arr0_8, earr0_8⟩ : ∃ z, z = upd arr0_3 (Int32.toNatClampNeg y2_2) i1 := ⟨_, rfl⟩
        have h := h arr0_8 earr0_8
        rw [← earr0_8] at hP hD
        have hP : va_P D vwK ([(a0, .inl (cI, n0, .inl arr0_8))]) H := hP
        have hD : va_D A ([(a0, .inl (cI, n0, .inl arr0_8))]) := hD
        obtain ⟨x2_9, ex2_9⟩ : ∃ z : Int32, z = y2_2 + 1 := ⟨_, rfl⟩
        have h := nm_s h x2_9 ex2_9
        refine lv_iinc (v := x2_9) (lv' := [(2, .int x2_9), (0, .ref a0), (1, .int i1)]) hx hb dX5_setAll_12 hl (k := 0) rfl (by rw [ex2_9]; rfl) (by decide) rfl (fun ls hl => ?_)
        refine lv_goto (tgt := 2) hx hb dX5_setAll_15 (by decide) ?_
        exact ih _ _ _ _ h _ _ _ hP hD hS (lv_sub hl [0, 1, 2] rfl) K
  obtain ⟨⟨z2_10, arr0_11⟩, hl_12, h⟩ := bd_s h
  refine L2 FU x2_1 arr0 _ _ hl_12 _ _ _ hP hD hS (lv_sub hl [0, 1, 2] rfl) (fun H locs ls hP hD hS hl => ?_)
  cases h
  exact hret _ _ _ _ hP hD hS dX5_setAll_18
def f_X5_isWithin (i0 : Int32) (i1 : Int32) (i2 : Int32) : Option (Int32) :=
  if i0 < i1 then
    some 0
  else
    if i2 < i0 then
      some 0
    else
      some 1
set_option maxHeartbeats 4000000 in
set_option maxRecDepth 100000 in
theorem c_X5_isWithin (l : Launch) (D : va_G) (cI cJ : ClassId) (i0 : Int32) (i1 : Int32) (i2 : Int32) (ret9 : Int32) (h : f_X5_isWithin i0 i1 i2 = some ret9) : CI l D cI cJ yX5_isWithin wsX5_isWithin 0 0 [.int i0, .int i1, .int i2] [] [] ret9 := by
  refine entZ (cc := cX5_isWithin) (maxL := 3) (by decide) rfl (Nat.le_of_ble_eq_true rfl) ?_
  intro p e s m args below meth c ls A Q X hret
  obtain ⟨hx, hb, hml, hts, hown, hK, hA, hP, hD, hS, hl, hnm⟩ := X
  have hown : s.vm.findClass RX5 = some m.cls := hown
  have hl : lv_has ls 3 [(0, .int i0), (1, .int i1), (2, .int i2)] := hl
  unfold f_X5_isWithin at h
  refine lv_iload_n hx hb dX5_isWithin_0 rfl (lv_at hl 0 rfl) ?_
  refine lv_iload_n hx hb dX5_isWithin_1 rfl (lv_at hl 1 rfl) ?_
  refine lv_icmp_lt (tgt := 14) hx hb dX5_isWithin_2 (by decide) (fun c_1 => ?_) (fun c_1 => ?_)
  · have h := it_p c_1 h
    refine lv_iconst (v := 0) hx hb dX5_isWithin_14 (by decide) ?_
    cases h
    exact hret _ _ _ _ (Or.inl rfl) hP hD hS dX5_isWithin_15
  · have h := it_n c_1 h
    refine lv_iload_n hx hb dX5_isWithin_5 rfl (lv_at hl 0 rfl) ?_
    refine lv_iload_n hx hb dX5_isWithin_6 rfl (lv_at hl 2 rfl) ?_
    refine lv_icmp_gt (tgt := 14) hx hb dX5_isWithin_7 (by decide) (fun c_2 => ?_) (fun c_2 => ?_)
    · have h := it_p c_2 h
      refine lv_iconst (v := 0) hx hb dX5_isWithin_14 (by decide) ?_
      cases h
      exact hret _ _ _ _ (Or.inl rfl) hP hD hS dX5_isWithin_15
    · have h := it_n c_2 h
      refine lv_iconst (v := 1) hx hb dX5_isWithin_10 (by decide) ?_
      refine lv_goto (tgt := 15) hx hb dX5_isWithin_11 (by decide) ?_
      cases h
      exact hret _ _ _ _ (Or.inr rfl) hP hD hS dX5_isWithin_15
def f_X5_isLabel (i0 : Int32) : Option (Int32) :=
  Option.bind (f_X5_isWithin i0 0 3) fun r_1 =>
  bz r_1 <|
  some r_1
set_option maxHeartbeats 4000000 in
set_option maxRecDepth 100000 in
theorem c_X5_isLabel (l : Launch) (D : va_G) (cI cJ : ClassId) (i0 : Int32) (ret9 : Int32) (h : f_X5_isLabel i0 = some ret9) : CI l D cI cJ yX5_isLabel wsX5_isLabel 1 22 [.int i0] [] [] ret9 := by
  refine entZ (cc := cX5_isLabel) (maxL := 1) (by decide) rfl (Nat.le_of_ble_eq_true rfl) ?_
  intro p e s m args below meth c ls A Q X hret
  obtain ⟨hx, hb, hml, hts, hown, hK, hA, hP, hD, hS, hl, hnm⟩ := X
  have hown : s.vm.findClass RX5 = some m.cls := hown
  have hl : lv_has ls 1 [(0, .int i0)] := hl
  unfold f_X5_isLabel at h
  refine lv_iload_n hx hb dX5_isLabel_0 rfl (lv_at hl 0 rfl) ?_
  refine lv_iconst (v := 0) hx hb dX5_isLabel_1 (by decide) ?_
  refine lv_iconst (v := 3) hx hb dX5_isLabel_2 (by decide) ?_
  obtain ⟨r_1, hc_2, h⟩ := bd_s h
  refine callPi (As := [.int i0, .int 0, .int 3]) (rest := []) ⟨hx, hb, hml, hown, hts⟩ (c_X5_isWithin l D cI cJ i0 0 3 r_1 hc_2) (va_cwS 3 hts gX5_isLabel_X5_isWithin rfl rfl rfl (by decide +kernel) ⟨Nat.le_of_ble_eq_true rfl, Nat.le_of_ble_eq_true rfl⟩) hK hP hD hS hA rfl hl.1 rfl (Nat.le_of_ble_eq_true rfl) dX5_isLabel_3 ⟨Nat.zero_le _, Nat.zero_le _⟩ (fun H locs hP hD hS => ?_)
  obtain ⟨hz_3, h⟩ := bz_s h
  cases h
  exact hret _ _ _ _ hz_3 hP hD hS dX5_isLabel_6
def f_X5_isLabelOrNone (i0 : Int32) : Option (Int32) :=
  if i0 = (-1) then
    some 1
  else
    Option.bind (f_X5_isLabel i0) fun r_2 =>
    if r_2 = 0 then
      some 0
    else
      some 1
set_option maxHeartbeats 4000000 in
set_option maxRecDepth 100000 in
theorem c_X5_isLabelOrNone (l : Launch) (D : va_G) (cI cJ : ClassId) (i0 : Int32) (ret9 : Int32) (h : f_X5_isLabelOrNone i0 = some ret9) : CI l D cI cJ yX5_isLabelOrNone wsX5_isLabelOrNone 2 42 [.int i0] [] [] ret9 := by
  refine entZ (cc := cX5_isLabelOrNone) (maxL := 1) (by decide) rfl (Nat.le_of_ble_eq_true rfl) ?_
  intro p e s m args below meth c ls A Q X hret
  obtain ⟨hx, hb, hml, hts, hown, hK, hA, hP, hD, hS, hl, hnm⟩ := X
  have hown : s.vm.findClass RX5 = some m.cls := hown
  have hl : lv_has ls 1 [(0, .int i0)] := hl
  unfold f_X5_isLabelOrNone at h
  refine lv_iload_n hx hb dX5_isLabelOrNone_0 rfl (lv_at hl 0 rfl) ?_
  refine lv_iconst (v := (-1)) hx hb dX5_isLabelOrNone_1 (by decide) ?_
  refine lv_icmp_eq (tgt := 12) hx hb dX5_isLabelOrNone_2 (by decide) (fun c_1 => ?_) (fun c_1 => ?_)
  · have h := it_p c_1 h
    refine lv_iconst (v := 1) hx hb dX5_isLabelOrNone_12 (by decide) ?_
    refine lv_goto (tgt := 17) hx hb dX5_isLabelOrNone_13 (by decide) ?_
    cases h
    exact hret _ _ _ _ (Or.inr rfl) hP hD hS dX5_isLabelOrNone_17
  · have h := it_n c_1 h
    refine lv_iload_n hx hb dX5_isLabelOrNone_5 rfl (lv_at hl 0 rfl) ?_
    obtain ⟨r_2, hc_3, h⟩ := bd_s h
    refine callPi (As := [.int i0]) (rest := []) ⟨hx, hb, hml, hown, hts⟩ (c_X5_isLabel l D cI cJ i0 r_2 hc_3) (va_cwS 1 hts gX5_isLabelOrNone_X5_isLabel rfl rfl rfl (by decide +kernel) ⟨Nat.le_of_ble_eq_true rfl, Nat.le_of_ble_eq_true rfl⟩) hK hP hD hS hA rfl hl.1 rfl (Nat.le_of_ble_eq_true rfl) dX5_isLabelOrNone_6 ⟨Nat.zero_le _, Nat.zero_le _⟩ (fun H locs hP hD hS => ?_)
    refine lv_if_eq (tgt := 16) hx hb dX5_isLabelOrNone_9 (by decide) (fun c_4 => ?_) (fun c_4 => ?_)
    · have h := it_p c_4 h
      refine lv_iconst (v := 0) hx hb dX5_isLabelOrNone_16 (by decide) ?_
      cases h
      exact hret _ _ _ _ (Or.inl rfl) hP hD hS dX5_isLabelOrNone_17
    · have h := it_n c_4 h
      refine lv_iconst (v := 1) hx hb dX5_isLabelOrNone_12 (by decide) ?_
      refine lv_goto (tgt := 17) hx hb dX5_isLabelOrNone_13 (by decide) ?_
      cases h
      exact hret _ _ _ _ (Or.inr rfl) hP hD hS dX5_isLabelOrNone_17
def f_X5_isWord (i0 : Int32) : Option (Int32) :=
  Option.bind (f_X5_isWithin i0 0 7) fun r_1 =>
  bz r_1 <|
  some r_1
set_option maxHeartbeats 4000000 in
set_option maxRecDepth 100000 in
theorem c_X5_isWord (l : Launch) (D : va_G) (cI cJ : ClassId) (i0 : Int32) (ret9 : Int32) (h : f_X5_isWord i0 = some ret9) : CI l D cI cJ yX5_isWord wsX5_isWord 1 22 [.int i0] [] [] ret9 := by
  refine entZ (cc := cX5_isWord) (maxL := 1) (by decide) rfl (Nat.le_of_ble_eq_true rfl) ?_
  intro p e s m args below meth c ls A Q X hret
  obtain ⟨hx, hb, hml, hts, hown, hK, hA, hP, hD, hS, hl, hnm⟩ := X
  have hown : s.vm.findClass RX5 = some m.cls := hown
  have hl : lv_has ls 1 [(0, .int i0)] := hl
  unfold f_X5_isWord at h
  refine lv_iload_n hx hb dX5_isWord_0 rfl (lv_at hl 0 rfl) ?_
  refine lv_iconst (v := 0) hx hb dX5_isWord_1 (by decide) ?_
  refine lv_bipush (v := 7) hx hb dX5_isWord_2 (by decide) ?_
  obtain ⟨r_1, hc_2, h⟩ := bd_s h
  refine callPi (As := [.int i0, .int 0, .int 7]) (rest := []) ⟨hx, hb, hml, hown, hts⟩ (c_X5_isWithin l D cI cJ i0 0 7 r_1 hc_2) (va_cwS 3 hts gX5_isWord_X5_isWithin rfl rfl rfl (by decide +kernel) ⟨Nat.le_of_ble_eq_true rfl, Nat.le_of_ble_eq_true rfl⟩) hK hP hD hS hA rfl hl.1 rfl (Nat.le_of_ble_eq_true rfl) dX5_isWord_4 ⟨Nat.zero_le _, Nat.zero_le _⟩ (fun H locs hP hD hS => ?_)
  obtain ⟨hz_3, h⟩ := bz_s h
  cases h
  exact hret _ _ _ _ hz_3 hP hD hS dX5_isWord_7
def f_X5_isSide (i0 : Int32) : Option (Int32) :=
  Option.bind (f_X5_isWithin i0 0 1) fun r_1 =>
  bz r_1 <|
  some r_1
set_option maxHeartbeats 4000000 in
set_option maxRecDepth 100000 in
theorem c_X5_isSide (l : Launch) (D : va_G) (cI cJ : ClassId) (i0 : Int32) (ret9 : Int32) (h : f_X5_isSide i0 = some ret9) : CI l D cI cJ yX5_isSide wsX5_isSide 1 22 [.int i0] [] [] ret9 := by
  refine entZ (cc := cX5_isSide) (maxL := 1) (by decide) rfl (Nat.le_of_ble_eq_true rfl) ?_
  intro p e s m args below meth c ls A Q X hret
  obtain ⟨hx, hb, hml, hts, hown, hK, hA, hP, hD, hS, hl, hnm⟩ := X
  have hown : s.vm.findClass RX5 = some m.cls := hown
  have hl : lv_has ls 1 [(0, .int i0)] := hl
  unfold f_X5_isSide at h
  refine lv_iload_n hx hb dX5_isSide_0 rfl (lv_at hl 0 rfl) ?_
  refine lv_iconst (v := 0) hx hb dX5_isSide_1 (by decide) ?_
  refine lv_iconst (v := 1) hx hb dX5_isSide_2 (by decide) ?_
  obtain ⟨r_1, hc_2, h⟩ := bd_s h
  refine callPi (As := [.int i0, .int 0, .int 1]) (rest := []) ⟨hx, hb, hml, hown, hts⟩ (c_X5_isWithin l D cI cJ i0 0 1 r_1 hc_2) (va_cwS 3 hts gX5_isSide_X5_isWithin rfl rfl rfl (by decide +kernel) ⟨Nat.le_of_ble_eq_true rfl, Nat.le_of_ble_eq_true rfl⟩) hK hP hD hS hA rfl hl.1 rfl (Nat.le_of_ble_eq_true rfl) dX5_isSide_3 ⟨Nat.zero_le _, Nat.zero_le _⟩ (fun H locs hP hD hS => ?_)
  obtain ⟨hz_3, h⟩ := bz_s h
  cases h
  exact hret _ _ _ _ hz_3 hP hD hS dX5_isSide_6
def f_X0_commonDivisor_L9 : Nat → Int32 → Int64 → Int64 → Option (Int32 × Int64 × Int64)
  | 0, _, _, _ => none
  | n + 1, y8_4, k6_5, k4_6 =>
  if 200 ≤ y8_4 then
    some (y8_4, k6_5, k4_6)
  else
    if (lg_cmp k6_5 0) = 0 then
      some (y8_4, k6_5, k4_6)
    else
      dzL k6_5 <|
      nm (α := Int64) ((k4_6 - k4_6 / k6_5 * k6_5)) fun j9_13 =>
      nm (α := Int64) (k6_5) fun j4_14 =>
      nm (α := Int64) (j9_13) fun j6_15 =>
      nm (α := Int32) (y8_4 + 1) fun x8_16 =>
      f_X0_commonDivisor_L9 n x8_16 j6_15 j4_14
def f_X0_commonDivisor (q0 : Int64) (q2 : Int64) : Option (Int64) :=
  nm (α := Int64) (q0) fun j4_1 =>
  nm (α := Int64) (q2) fun j6_2 =>
  nm (α := Int32) (0) fun x8_3 =>
  Option.bind (f_X0_commonDivisor_L9 FU x8_3 j6_2 j4_1) fun (z8_17, z6_18, z4_19) =>
  some z4_19
set_option maxHeartbeats 4000000 in
set_option maxRecDepth 100000 in
theorem c_X0_commonDivisor (l : Launch) (D : va_G) (cI cJ : ClassId) (q0 : Int64) (q2 : Int64) (ret9 : Int64) (h : f_X0_commonDivisor q0 q2 = some ret9) : CL l D cI cJ yX0_commonDivisor wsX0_commonDivisor 0 0 [.long q0, .long q2] [] [] ret9 := by
  refine entL (cc := cX0_commonDivisor) (maxL := 11) (by decide) rfl (Nat.le_of_ble_eq_true rfl) ?_
  intro p e s m args below meth c ls A Q X hret
  obtain ⟨hx, hb, hml, hts, hown, hK, hA, hP, hD, hS, hl, hnm⟩ := X
  have hown : s.vm.findClass RX0 = some m.cls := hown
  have hl : lv_has ls 11 [(0, .long q0), (2, .long q2)] := hl
  unfold f_X0_commonDivisor at h
  refine lv_lload_n hx hb dX0_commonDivisor_0 rfl (lv_at hl 0 rfl) ?_
  refine lv_topl (fun j4_1 ej4_1 => ?_)
  have h := nm_s h j4_1 ej4_1
  refine lv_lstore (lv' := [(4, .long j4_1), (0, .long q0), (2, .long q2)]) hx hb dX0_commonDivisor_1 hl (by decide) rfl (fun ls hl => ?_)
  refine lv_lload_n hx hb dX0_commonDivisor_3 rfl (lv_at hl 2 rfl) ?_
  refine lv_topl (fun j6_2 ej6_2 => ?_)
  have h := nm_s h j6_2 ej6_2
  refine lv_lstore (lv' := [(6, .long j6_2), (4, .long j4_1), (0, .long q0), (2, .long q2)]) hx hb dX0_commonDivisor_4 hl (by decide) rfl (fun ls hl => ?_)
  refine lv_iconst (v := 0) hx hb dX0_commonDivisor_6 (by decide) ?_
  refine lv_topi (fun x8_3 ex8_3 => ?_)
  have h := nm_s h x8_3 ex8_3
  refine lv_istore (lv' := [(8, .int x8_3), (6, .long j6_2), (4, .long j4_1), (0, .long q0), (2, .long q2)]) hx hb dX0_commonDivisor_7 hl (by decide) rfl (fun ls hl => ?_)
  have L9 : ∀ (n : Nat) (y8_4 : Int32) (k6_5 : Int64) (k4_6 : Int64) (z8_7 : Int32) (z6_8 : Int64) (z4_9 : Int64), f_X0_commonDivisor_L9 n y8_4 k6_5 k4_6 = some (z8_7, z6_8, z4_9) → ∀ (H : Heap) (locs : List Loc) (ls : Array Slot), va_P D vwK [] H → va_D A [] → va_S A s.heap H locs → lv_has ls 11 [(8, .int y8_4), (6, .long k6_5), (4, .long k4_6)] → (∀ (H : Heap) (locs : List Loc) (ls : Array Slot), va_P D vwK [] H → va_D A [] → va_S A s.heap H locs → lv_has ls 11 [(4, .long z4_9)] → W p l e (rmOf 0 0) s m args below meth c H locs 0 0 Q (F0 m 45 ls [])) → W p l e (rmOf 0 0) s m args below meth c H locs 0 0 Q (F0 m 9 ls []) := by
    intro n
    induction n with
    | zero => intro y8_4 k6_5 k4_6 z8_7 z6_8 z4_9 h; rw [f_X0_commonDivisor_L9.eq_1] at h; cases h
    | succ n ih =>
      intro y8_4 k6_5 k4_6 z8_7 z6_8 z4_9 h H locs ls hP hD hS hl K
      rw [f_X0_commonDivisor_L9.eq_2] at h
      refine lv_iload hx hb dX0_commonDivisor_9 (lv_at hl 0 rfl) ?_
      refine lv_sipush (v := 200) hx hb dX0_commonDivisor_11 (by decide) ?_
      refine lv_icmp_ge (tgt := 45) hx hb dX0_commonDivisor_14 (by decide) (fun c_10 => ?_) (fun c_10 => ?_)
      · have h := it_p c_10 h
        cases h
        exact K _ _ _ hP hD hS (lv_sub hl [2] rfl)
      · have h := it_n c_10 h
        refine lv_lload hx hb dX0_commonDivisor_17 (lv_at hl 1 rfl) ?_
        refine lv_lconst (v := 0) hx hb dX0_commonDivisor_19 (by decide) ?_
        refine W.lcmp hx hb dX0_commonDivisor_20 ?_
        refine lv_if_eq (tgt := 45) hx hb dX0_commonDivisor_21 (by decide) (fun c_11 => ?_) (fun c_11 => ?_)
        · have h := it_p c_11 h
          cases h
          exact K _ _ _ hP hD hS (lv_sub hl [2] rfl)
        · have h := it_n c_11 h
          refine lv_lload hx hb dX0_commonDivisor_24 (lv_at hl 2 rfl) ?_
          refine lv_lload hx hb dX0_commonDivisor_26 (lv_at hl 1 rfl) ?_
          obtain ⟨hz_12, h⟩ := dzL_s h
          refine lv_lrem hx hb dX0_commonDivisor_28 hz_12 ?_
          refine lv_topl (fun j9_13 ej9_13 => ?_)
          have h := nm_s h j9_13 ej9_13
          refine lv_lstore (lv' := [(9, .long j9_13), (8, .int y8_4), (6, .long k6_5), (4, .long k4_6)]) hx hb dX0_commonDivisor_29 hl (by decide) rfl (fun ls hl => ?_)
          refine lv_lload hx hb dX0_commonDivisor_31 (lv_at hl 2 rfl) ?_
          refine lv_topl (fun j4_14 ej4_14 => ?_)
          have h := nm_s h j4_14 ej4_14
          refine lv_lstore (lv' := [(4, .long j4_14), (9, .long j9_13), (8, .int y8_4), (6, .long k6_5)]) hx hb dX0_commonDivisor_33 hl (by decide) rfl (fun ls hl => ?_)
          refine lv_lload hx hb dX0_commonDivisor_35 (lv_at hl 1 rfl) ?_
          refine lv_topl (fun j6_15 ej6_15 => ?_)
          have h := nm_s h j6_15 ej6_15
          refine lv_lstore (lv' := [(6, .long j6_15), (4, .long j4_14), (9, .long j9_13), (8, .int y8_4)]) hx hb dX0_commonDivisor_37 hl (by decide) rfl (fun ls hl => ?_)
          obtain ⟨x8_16, ex8_16⟩ : ∃ z : Int32, z = y8_4 + 1 := ⟨_, rfl⟩
          have h := nm_s h x8_16 ex8_16
          refine lv_iinc (v := x8_16) (lv' := [(8, .int x8_16), (6, .long j6_15), (4, .long j4_14), (9, .long j9_13)]) hx hb dX0_commonDivisor_39 hl (k := 3) rfl (by rw [ex8_16]; rfl) (by decide) rfl (fun ls hl => ?_)
          refine lv_goto (tgt := 9) hx hb dX0_commonDivisor_42 (by decide) ?_
          exact ih _ _ _ _ _ _ h _ _ _ hP hD hS (lv_sub hl [0, 1, 2] rfl) K
  obtain ⟨⟨z8_17, z6_18, z4_19⟩, hl_20, h⟩ := bd_s h
  refine L9 FU x8_3 j6_2 j4_1 _ _ _ hl_20 _ _ _ hP hD hS (lv_sub hl [0, 1, 2] rfl) (fun H locs ls hP hD hS hl => ?_)
  refine lv_lload hx hb dX0_commonDivisor_45 (lv_at hl 0 rfl) ?_
  cases h
  exact hret _ _ _ _ hP hD hS dX0_commonDivisor_47
def f_X0_sideOf (q0 : Int64) (q2 : Int64) (i4 : Int32) : Option (Int64) :=
  if (lg_cmp q0 0) ≤ 0 then
    if i4 = 0 then
      some 0
    else
      some 1
  else
    if 0 < (lg_cmp q2 0) then
      Option.bind (f_X0_commonDivisor q0 q2) fun rj_4 =>
      nm (α := Int64) (rj_4) fun j5_6 =>
      if 0 < (lg_cmp j5_6 0) then
        if i4 = 0 then
          dzL j5_6 <|
          some (q0 / j5_6)
        else
          dzL j5_6 <|
          some (q2 / j5_6)
      else
        if i4 = 0 then
          some q0
        else
          some q2
    else
      if i4 = 0 then
        some 0
      else
        some 1
set_option maxHeartbeats 4000000 in
set_option maxRecDepth 100000 in
theorem c_X0_sideOf (l : Launch) (D : va_G) (cI cJ : ClassId) (q0 : Int64) (q2 : Int64) (i4 : Int32) (ret9 : Int64) (h : f_X0_sideOf q0 q2 i4 = some ret9) : CL l D cI cJ yX0_sideOf wsX0_sideOf 1 30 [.long q0, .long q2, .int i4] [] [] ret9 := by
  refine entL (cc := cX0_sideOf) (maxL := 7) (by decide) rfl (Nat.le_of_ble_eq_true rfl) ?_
  intro p e s m args below meth c ls A Q X hret
  obtain ⟨hx, hb, hml, hts, hown, hK, hA, hP, hD, hS, hl, hnm⟩ := X
  have hown : s.vm.findClass RX0 = some m.cls := hown
  have hl : lv_has ls 7 [(0, .long q0), (2, .long q2), (4, .int i4)] := hl
  unfold f_X0_sideOf at h
  refine lv_lload_n hx hb dX0_sideOf_0 rfl (lv_at hl 0 rfl) ?_
  refine lv_lconst (v := 0) hx hb dX0_sideOf_1 (by decide) ?_
  refine W.lcmp hx hb dX0_sideOf_2 ?_
  refine lv_if_le (tgt := 12) hx hb dX0_sideOf_3 (by decide) (fun c_1 => ?_) (fun c_1 => ?_)
  · have h := it_p c_1 h
    refine lv_iload hx hb dX0_sideOf_12 (lv_at hl 2 rfl) ?_
    refine lv_if_ne (tgt := 21) hx hb dX0_sideOf_14 (by decide) (fun c_2 => ?_) (fun c_2 => ?_)
    · have h := it_n c_2 h
      refine lv_lconst (v := 1) hx hb dX0_sideOf_21 (by decide) ?_
      cases h
      exact hret _ _ _ _ hP hD hS dX0_sideOf_22
    · have h := it_p c_2 h
      refine lv_lconst (v := 0) hx hb dX0_sideOf_17 (by decide) ?_
      refine lv_goto (tgt := 22) hx hb dX0_sideOf_18 (by decide) ?_
      cases h
      exact hret _ _ _ _ hP hD hS dX0_sideOf_22
  · have h := it_n c_1 h
    refine lv_lload_n hx hb dX0_sideOf_6 rfl (lv_at hl 1 rfl) ?_
    refine lv_lconst (v := 0) hx hb dX0_sideOf_7 (by decide) ?_
    refine W.lcmp hx hb dX0_sideOf_8 ?_
    refine lv_if_gt (tgt := 23) hx hb dX0_sideOf_9 (by decide) (fun c_3 => ?_) (fun c_3 => ?_)
    · have h := it_p c_3 h
      refine lv_lload_n hx hb dX0_sideOf_23 rfl (lv_at hl 0 rfl) ?_
      refine lv_lload_n hx hb dX0_sideOf_24 rfl (lv_at hl 1 rfl) ?_
      obtain ⟨rj_4, hc_5, h⟩ := bd_s h
      refine callPl (As := [.long q0, .long q2]) (rest := []) ⟨hx, hb, hml, hown, hts⟩ (c_X0_commonDivisor l D cI cJ q0 q2 rj_4 hc_5) (va_cwS 2 hts gX0_sideOf_X0_commonDivisor rfl rfl rfl (by decide +kernel) ⟨Nat.le_of_ble_eq_true rfl, Nat.le_of_ble_eq_true rfl⟩) hK hP hD hS hA rfl hl.1 rfl (Nat.le_of_ble_eq_true rfl) dX0_sideOf_25 ⟨Nat.zero_le _, Nat.zero_le _⟩ (fun H locs hP hD hS => ?_)
      refine lv_topl (fun j5_6 ej5_6 => ?_)
      have h := nm_s h j5_6 ej5_6
      refine lv_lstore (lv' := [(5, .long j5_6), (0, .long q0), (2, .long q2), (4, .int i4)]) hx hb dX0_sideOf_28 hl (by decide) rfl (fun ls hl => ?_)
      refine lv_lload hx hb dX0_sideOf_30 (lv_at hl 0 rfl) ?_
      refine lv_lconst (v := 0) hx hb dX0_sideOf_32 (by decide) ?_
      refine W.lcmp hx hb dX0_sideOf_33 ?_
      refine lv_if_gt (tgt := 48) hx hb dX0_sideOf_34 (by decide) (fun c_7 => ?_) (fun c_7 => ?_)
      · have h := it_p c_7 h
        refine lv_iload hx hb dX0_sideOf_48 (lv_at hl 3 rfl) ?_
        refine lv_if_ne (tgt := 57) hx hb dX0_sideOf_50 (by decide) (fun c_8 => ?_) (fun c_8 => ?_)
        · have h := it_n c_8 h
          refine lv_lload_n hx hb dX0_sideOf_57 rfl (lv_at hl 2 rfl) ?_
          refine lv_lload hx hb dX0_sideOf_58 (lv_at hl 0 rfl) ?_
          obtain ⟨hz_9, h⟩ := dzL_s h
          refine lv_ldiv hx hb dX0_sideOf_60 hz_9 ?_
          cases h
          exact hret _ _ _ _ hP hD hS dX0_sideOf_61
        · have h := it_p c_8 h
          refine lv_lload_n hx hb dX0_sideOf_53 rfl (lv_at hl 1 rfl) ?_
          refine lv_goto (tgt := 58) hx hb dX0_sideOf_54 (by decide) ?_
          refine lv_lload hx hb dX0_sideOf_58 (lv_at hl 0 rfl) ?_
          obtain ⟨hz_10, h⟩ := dzL_s h
          refine lv_ldiv hx hb dX0_sideOf_60 hz_10 ?_
          cases h
          exact hret _ _ _ _ hP hD hS dX0_sideOf_61
      · have h := it_n c_7 h
        refine lv_iload hx hb dX0_sideOf_37 (lv_at hl 3 rfl) ?_
        refine lv_if_ne (tgt := 46) hx hb dX0_sideOf_39 (by decide) (fun c_11 => ?_) (fun c_11 => ?_)
        · have h := it_n c_11 h
          refine lv_lload_n hx hb dX0_sideOf_46 rfl (lv_at hl 2 rfl) ?_
          cases h
          exact hret _ _ _ _ hP hD hS dX0_sideOf_47
        · have h := it_p c_11 h
          refine lv_lload_n hx hb dX0_sideOf_42 rfl (lv_at hl 1 rfl) ?_
          refine lv_goto (tgt := 47) hx hb dX0_sideOf_43 (by decide) ?_
          cases h
          exact hret _ _ _ _ hP hD hS dX0_sideOf_47
    · have h := it_n c_3 h
      refine lv_iload hx hb dX0_sideOf_12 (lv_at hl 2 rfl) ?_
      refine lv_if_ne (tgt := 21) hx hb dX0_sideOf_14 (by decide) (fun c_12 => ?_) (fun c_12 => ?_)
      · have h := it_n c_12 h
        refine lv_lconst (v := 1) hx hb dX0_sideOf_21 (by decide) ?_
        cases h
        exact hret _ _ _ _ hP hD hS dX0_sideOf_22
      · have h := it_p c_12 h
        refine lv_lconst (v := 0) hx hb dX0_sideOf_17 (by decide) ?_
        refine lv_goto (tgt := 22) hx hb dX0_sideOf_18 (by decide) ?_
        cases h
        exact hret _ _ _ _ hP hD hS dX0_sideOf_22
def f_X0_isAbove_L17 : Nat → Int32 → Int64 → Int64 → Int64 → Int64 → Option ((Int32) ⊕ (Int32 × Int64 × Int64 × Int64 × Int64))
  | 0, _, _, _, _, _ => none
  | n + 1, y16_6, k14_7, k12_8, k10_9, k8_10 =>
  if 200 ≤ y16_6 then
    some (.inr (y16_6, k14_7, k12_8, k10_9, k8_10))
  else
    if (lg_cmp k10_9 0) ≤ 0 then
      some (.inr (y16_6, k14_7, k12_8, k10_9, k8_10))
    else
      if (lg_cmp k14_7 0) ≤ 0 then
        some (.inr (y16_6, k14_7, k12_8, k10_9, k8_10))
      else
        dzL k10_9 <|
        nm (α := Int64) ((k8_10 / k10_9)) fun j17_20 =>
        dzL k14_7 <|
        nm (α := Int64) ((k12_8 / k14_7)) fun j19_22 =>
        if (lg_cmp j17_20 j19_22) = 0 then
          dzL k10_9 <|
          nm (α := Int64) ((k8_10 - k8_10 / k10_9 * k10_9)) fun j21_25 =>
          dzL k14_7 <|
          nm (α := Int64) ((k12_8 - k12_8 / k14_7 * k14_7)) fun j23_27 =>
          if (lg_cmp j21_25 0) = 0 then
            if (lg_cmp j21_25 j23_27) ≤ 0 then
              some (.inl 0)
            else
              some (.inl 1)
          else
            if (lg_cmp j23_27 0) = 0 then
              if (lg_cmp j21_25 j23_27) ≤ 0 then
                some (.inl 0)
              else
                some (.inl 1)
            else
              nm (α := Int64) (k14_7) fun j8_31 =>
              nm (α := Int64) (k10_9) fun j12_32 =>
              nm (α := Int64) (j23_27) fun j10_33 =>
              nm (α := Int64) (j21_25) fun j14_34 =>
              nm (α := Int32) (y16_6 + 1) fun x16_35 =>
              f_X0_isAbove_L17 n x16_35 j14_34 j12_32 j10_33 j8_31
        else
          if (lg_cmp j17_20 j19_22) ≤ 0 then
            some (.inl 0)
          else
            some (.inl 1)
def f_X0_isAbove (q0 : Int64) (q2 : Int64) (q4 : Int64) (q6 : Int64) : Option (Int32) :=
  nm (α := Int64) (q0) fun j8_1 =>
  nm (α := Int64) (q2) fun j10_2 =>
  nm (α := Int64) (q4) fun j12_3 =>
  nm (α := Int64) (q6) fun j14_4 =>
  nm (α := Int32) (0) fun x16_5 =>
  Option.bind (f_X0_isAbove_L17 FU x16_5 j14_4 j12_3 j10_2 j8_1) fun r9 => match r9 with
  | .inl r9 => some r9
  | .inr (z16_38, z14_39, z12_40, z10_41, z8_42) =>
    some 0
set_option maxHeartbeats 4000000 in
set_option maxRecDepth 100000 in
theorem c_X0_isAbove (l : Launch) (D : va_G) (cI cJ : ClassId) (q0 : Int64) (q2 : Int64) (q4 : Int64) (q6 : Int64) (ret9 : Int32) (h : f_X0_isAbove q0 q2 q4 q6 = some ret9) : CI l D cI cJ yX0_isAbove wsX0_isAbove 0 0 [.long q0, .long q2, .long q4, .long q6] [] [] ret9 := by
  refine entZ (cc := cX0_isAbove) (maxL := 25) (by decide) rfl (Nat.le_of_ble_eq_true rfl) ?_
  intro p e s m args below meth c ls A Q X hret
  obtain ⟨hx, hb, hml, hts, hown, hK, hA, hP, hD, hS, hl, hnm⟩ := X
  have hown : s.vm.findClass RX0 = some m.cls := hown
  have hl : lv_has ls 25 [(0, .long q0), (2, .long q2), (4, .long q4), (6, .long q6)] := hl
  unfold f_X0_isAbove at h
  refine lv_lload_n hx hb dX0_isAbove_0 rfl (lv_at hl 0 rfl) ?_
  refine lv_topl (fun j8_1 ej8_1 => ?_)
  have h := nm_s h j8_1 ej8_1
  refine lv_lstore (lv' := [(8, .long j8_1), (0, .long q0), (2, .long q2), (4, .long q4), (6, .long q6)]) hx hb dX0_isAbove_1 hl (by decide) rfl (fun ls hl => ?_)
  refine lv_lload_n hx hb dX0_isAbove_3 rfl (lv_at hl 2 rfl) ?_
  refine lv_topl (fun j10_2 ej10_2 => ?_)
  have h := nm_s h j10_2 ej10_2
  refine lv_lstore (lv' := [(10, .long j10_2), (8, .long j8_1), (0, .long q0), (2, .long q2), (4, .long q4), (6, .long q6)]) hx hb dX0_isAbove_4 hl (by decide) rfl (fun ls hl => ?_)
  refine lv_lload hx hb dX0_isAbove_6 (lv_at hl 4 rfl) ?_
  refine lv_topl (fun j12_3 ej12_3 => ?_)
  have h := nm_s h j12_3 ej12_3
  refine lv_lstore (lv' := [(12, .long j12_3), (10, .long j10_2), (8, .long j8_1), (0, .long q0), (2, .long q2), (4, .long q4), (6, .long q6)]) hx hb dX0_isAbove_8 hl (by decide) rfl (fun ls hl => ?_)
  refine lv_lload hx hb dX0_isAbove_10 (lv_at hl 6 rfl) ?_
  refine lv_topl (fun j14_4 ej14_4 => ?_)
  have h := nm_s h j14_4 ej14_4
  refine lv_lstore (lv' := [(14, .long j14_4), (12, .long j12_3), (10, .long j10_2), (8, .long j8_1), (0, .long q0), (2, .long q2), (4, .long q4), (6, .long q6)]) hx hb dX0_isAbove_12 hl (by decide) rfl (fun ls hl => ?_)
  refine lv_iconst (v := 0) hx hb dX0_isAbove_14 (by decide) ?_
  refine lv_topi (fun x16_5 ex16_5 => ?_)
  have h := nm_s h x16_5 ex16_5
  refine lv_istore (lv' := [(16, .int x16_5), (14, .long j14_4), (12, .long j12_3), (10, .long j10_2), (8, .long j8_1), (0, .long q0), (2, .long q2), (4, .long q4), (6, .long q6)]) hx hb dX0_isAbove_15 hl (by decide) rfl (fun ls hl => ?_)
  have L17 : ∀ (n : Nat) (y16_6 : Int32) (k14_7 : Int64) (k12_8 : Int64) (k10_9 : Int64) (k8_10 : Int64) (res : (Int32) ⊕ (Int32 × Int64 × Int64 × Int64 × Int64)), f_X0_isAbove_L17 n y16_6 k14_7 k12_8 k10_9 k8_10 = some res → ∀ (H : Heap) (locs : List Loc) (ls : Array Slot), va_P D vwK [] H → va_D A [] → va_S A s.heap H locs → lv_has ls 25 [(16, .int y16_6), (14, .long k14_7), (12, .long k12_8), (10, .long k10_9), (8, .long k8_10)] → (∀ rt, res = .inl rt → rt = ret9) → (∀ (z16_11 : Int32) (z14_12 : Int64) (z12_13 : Int64) (z10_14 : Int64) (z8_15 : Int64), res = .inr (z16_11, z14_12, z12_13, z10_14, z8_15) → ∀ (H : Heap) (locs : List Loc) (ls : Array Slot), va_P D vwK [] H → va_D A [] → va_S A s.heap H locs → lv_has ls 25 [] → W p l e (rmOf 0 0) s m args below meth c H locs 0 0 Q (F0 m 139 ls [])) → W p l e (rmOf 0 0) s m args below meth c H locs 0 0 Q (F0 m 17 ls []) := by
    intro n
    induction n with
    | zero => intro y16_6 k14_7 k12_8 k10_9 k8_10 res h; rw [f_X0_isAbove_L17.eq_1] at h; cases h
    | succ n ih =>
      intro y16_6 k14_7 k12_8 k10_9 k8_10 res h H locs ls hP hD hS hl KR K
      rw [f_X0_isAbove_L17.eq_2] at h
      refine lv_iload hx hb dX0_isAbove_17 (lv_at hl 0 rfl) ?_
      refine lv_sipush (v := 200) hx hb dX0_isAbove_19 (by decide) ?_
      refine lv_icmp_ge (tgt := 139) hx hb dX0_isAbove_22 (by decide) (fun c_16 => ?_) (fun c_16 => ?_)
      · have h := it_p c_16 h
        cases h
        exact K _ _ _ _ _ rfl _ _ _ hP hD hS (lv_sub hl [] rfl)
      · have h := it_n c_16 h
        refine lv_lload hx hb dX0_isAbove_25 (lv_at hl 3 rfl) ?_
        refine lv_lconst (v := 0) hx hb dX0_isAbove_27 (by decide) ?_
        refine W.lcmp hx hb dX0_isAbove_28 ?_
        refine lv_if_le (tgt := 139) hx hb dX0_isAbove_29 (by decide) (fun c_17 => ?_) (fun c_17 => ?_)
        · have h := it_p c_17 h
          cases h
          exact K _ _ _ _ _ rfl _ _ _ hP hD hS (lv_sub hl [] rfl)
        · have h := it_n c_17 h
          refine lv_lload hx hb dX0_isAbove_32 (lv_at hl 1 rfl) ?_
          refine lv_lconst (v := 0) hx hb dX0_isAbove_34 (by decide) ?_
          refine W.lcmp hx hb dX0_isAbove_35 ?_
          refine lv_if_le (tgt := 139) hx hb dX0_isAbove_36 (by decide) (fun c_18 => ?_) (fun c_18 => ?_)
          · have h := it_p c_18 h
            cases h
            exact K _ _ _ _ _ rfl _ _ _ hP hD hS (lv_sub hl [] rfl)
          · have h := it_n c_18 h
            refine lv_lload hx hb dX0_isAbove_39 (lv_at hl 4 rfl) ?_
            refine lv_lload hx hb dX0_isAbove_41 (lv_at hl 3 rfl) ?_
            obtain ⟨hz_19, h⟩ := dzL_s h
            refine lv_ldiv hx hb dX0_isAbove_43 hz_19 ?_
            refine lv_topl (fun j17_20 ej17_20 => ?_)
            have h := nm_s h j17_20 ej17_20
            refine lv_lstore (lv' := [(17, .long j17_20), (16, .int y16_6), (14, .long k14_7), (12, .long k12_8), (10, .long k10_9), (8, .long k8_10)]) hx hb dX0_isAbove_44 hl (by decide) rfl (fun ls hl => ?_)
            refine lv_lload hx hb dX0_isAbove_46 (lv_at hl 3 rfl) ?_
            refine lv_lload hx hb dX0_isAbove_48 (lv_at hl 2 rfl) ?_
            obtain ⟨hz_21, h⟩ := dzL_s h
            refine lv_ldiv hx hb dX0_isAbove_50 hz_21 ?_
            refine lv_topl (fun j19_22 ej19_22 => ?_)
            have h := nm_s h j19_22 ej19_22
            refine lv_lstore (lv' := [(19, .long j19_22), (17, .long j17_20), (16, .int y16_6), (14, .long k14_7), (12, .long k12_8), (10, .long k10_9), (8, .long k8_10)]) hx hb dX0_isAbove_51 hl (by decide) rfl (fun ls hl => ?_)
            refine lv_lload hx hb dX0_isAbove_53 (lv_at hl 1 rfl) ?_
            refine lv_lload hx hb dX0_isAbove_55 (lv_at hl 0 rfl) ?_
            refine W.lcmp hx hb dX0_isAbove_57 ?_
            refine lv_if_eq (tgt := 75) hx hb dX0_isAbove_58 (by decide) (fun c_23 => ?_) (fun c_23 => ?_)
            · have h := it_p c_23 h
              refine lv_lload hx hb dX0_isAbove_75 (lv_at hl 6 rfl) ?_
              refine lv_lload hx hb dX0_isAbove_77 (lv_at hl 5 rfl) ?_
              obtain ⟨hz_24, h⟩ := dzL_s h
              refine lv_lrem hx hb dX0_isAbove_79 hz_24 ?_
              refine lv_topl (fun j21_25 ej21_25 => ?_)
              have h := nm_s h j21_25 ej21_25
              refine lv_lstore (lv' := [(21, .long j21_25), (19, .long j19_22), (17, .long j17_20), (16, .int y16_6), (14, .long k14_7), (12, .long k12_8), (10, .long k10_9), (8, .long k8_10)]) hx hb dX0_isAbove_80 hl (by decide) rfl (fun ls hl => ?_)
              refine lv_lload hx hb dX0_isAbove_82 (lv_at hl 5 rfl) ?_
              refine lv_lload hx hb dX0_isAbove_84 (lv_at hl 4 rfl) ?_
              obtain ⟨hz_26, h⟩ := dzL_s h
              refine lv_lrem hx hb dX0_isAbove_86 hz_26 ?_
              refine lv_topl (fun j23_27 ej23_27 => ?_)
              have h := nm_s h j23_27 ej23_27
              refine lv_lstore (lv' := [(23, .long j23_27), (21, .long j21_25), (19, .long j19_22), (17, .long j17_20), (16, .int y16_6), (14, .long k14_7), (12, .long k12_8), (10, .long k10_9), (8, .long k8_10)]) hx hb dX0_isAbove_87 hl (by decide) rfl (fun ls hl => ?_)
              refine lv_lload hx hb dX0_isAbove_89 (lv_at hl 1 rfl) ?_
              refine lv_lconst (v := 0) hx hb dX0_isAbove_91 (by decide) ?_
              refine W.lcmp hx hb dX0_isAbove_92 ?_
              refine lv_if_eq (tgt := 103) hx hb dX0_isAbove_93 (by decide) (fun c_28 => ?_) (fun c_28 => ?_)
              · have h := it_p c_28 h
                refine lv_lload hx hb dX0_isAbove_103 (lv_at hl 1 rfl) ?_
                refine lv_lload hx hb dX0_isAbove_105 (lv_at hl 0 rfl) ?_
                refine W.lcmp hx hb dX0_isAbove_107 ?_
                refine lv_if_le (tgt := 115) hx hb dX0_isAbove_108 (by decide) (fun c_29 => ?_) (fun c_29 => ?_)
                · have h := it_p c_29 h
                  refine lv_iconst (v := 0) hx hb dX0_isAbove_115 (by decide) ?_
                  cases h
                  have e9 := KR _ rfl
                  cases e9
                  exact hret _ _ _ _ (Or.inl rfl) hP hD hS dX0_isAbove_116
                · have h := it_n c_29 h
                  refine lv_iconst (v := 1) hx hb dX0_isAbove_111 (by decide) ?_
                  refine lv_goto (tgt := 116) hx hb dX0_isAbove_112 (by decide) ?_
                  cases h
                  have e9 := KR _ rfl
                  cases e9
                  exact hret _ _ _ _ (Or.inr rfl) hP hD hS dX0_isAbove_116
              · have h := it_n c_28 h
                refine lv_lload hx hb dX0_isAbove_96 (lv_at hl 0 rfl) ?_
                refine lv_lconst (v := 0) hx hb dX0_isAbove_98 (by decide) ?_
                refine W.lcmp hx hb dX0_isAbove_99 ?_
                refine lv_if_ne (tgt := 117) hx hb dX0_isAbove_100 (by decide) (fun c_30 => ?_) (fun c_30 => ?_)
                · have h := it_n c_30 h
                  refine lv_lload hx hb dX0_isAbove_117 (lv_at hl 5 rfl) ?_
                  refine lv_topl (fun j8_31 ej8_31 => ?_)
                  have h := nm_s h j8_31 ej8_31
                  refine lv_lstore (lv' := [(8, .long j8_31), (23, .long j23_27), (21, .long j21_25), (19, .long j19_22), (17, .long j17_20), (16, .int y16_6), (14, .long k14_7), (12, .long k12_8), (10, .long k10_9)]) hx hb dX0_isAbove_119 hl (by decide) rfl (fun ls hl => ?_)
                  refine lv_lload hx hb dX0_isAbove_121 (lv_at hl 8 rfl) ?_
                  refine lv_topl (fun j12_32 ej12_32 => ?_)
                  have h := nm_s h j12_32 ej12_32
                  refine lv_lstore (lv' := [(12, .long j12_32), (8, .long j8_31), (23, .long j23_27), (21, .long j21_25), (19, .long j19_22), (17, .long j17_20), (16, .int y16_6), (14, .long k14_7), (10, .long k10_9)]) hx hb dX0_isAbove_123 hl (by decide) rfl (fun ls hl => ?_)
                  refine lv_lload hx hb dX0_isAbove_125 (lv_at hl 2 rfl) ?_
                  refine lv_topl (fun j10_33 ej10_33 => ?_)
                  have h := nm_s h j10_33 ej10_33
                  refine lv_lstore (lv' := [(10, .long j10_33), (12, .long j12_32), (8, .long j8_31), (23, .long j23_27), (21, .long j21_25), (19, .long j19_22), (17, .long j17_20), (16, .int y16_6), (14, .long k14_7)]) hx hb dX0_isAbove_127 hl (by decide) rfl (fun ls hl => ?_)
                  refine lv_lload hx hb dX0_isAbove_129 (lv_at hl 4 rfl) ?_
                  refine lv_topl (fun j14_34 ej14_34 => ?_)
                  have h := nm_s h j14_34 ej14_34
                  refine lv_lstore (lv' := [(14, .long j14_34), (10, .long j10_33), (12, .long j12_32), (8, .long j8_31), (23, .long j23_27), (21, .long j21_25), (19, .long j19_22), (17, .long j17_20), (16, .int y16_6)]) hx hb dX0_isAbove_131 hl (by decide) rfl (fun ls hl => ?_)
                  obtain ⟨x16_35, ex16_35⟩ : ∃ z : Int32, z = y16_6 + 1 := ⟨_, rfl⟩
                  have h := nm_s h x16_35 ex16_35
                  refine lv_iinc (v := x16_35) (lv' := [(16, .int x16_35), (14, .long j14_34), (10, .long j10_33), (12, .long j12_32), (8, .long j8_31), (23, .long j23_27), (21, .long j21_25), (19, .long j19_22), (17, .long j17_20)]) hx hb dX0_isAbove_133 hl (k := 8) rfl (by rw [ex16_35]; rfl) (by decide) rfl (fun ls hl => ?_)
                  refine lv_goto (tgt := 17) hx hb dX0_isAbove_136 (by decide) ?_
                  exact ih _ _ _ _ _ _ h _ _ _ hP hD hS (lv_sub hl [0, 1, 3, 2, 4] rfl) KR K
                · have h := it_p c_30 h
                  refine lv_lload hx hb dX0_isAbove_103 (lv_at hl 1 rfl) ?_
                  refine lv_lload hx hb dX0_isAbove_105 (lv_at hl 0 rfl) ?_
                  refine W.lcmp hx hb dX0_isAbove_107 ?_
                  refine lv_if_le (tgt := 115) hx hb dX0_isAbove_108 (by decide) (fun c_36 => ?_) (fun c_36 => ?_)
                  · have h := it_p c_36 h
                    refine lv_iconst (v := 0) hx hb dX0_isAbove_115 (by decide) ?_
                    cases h
                    have e9 := KR _ rfl
                    cases e9
                    exact hret _ _ _ _ (Or.inl rfl) hP hD hS dX0_isAbove_116
                  · have h := it_n c_36 h
                    refine lv_iconst (v := 1) hx hb dX0_isAbove_111 (by decide) ?_
                    refine lv_goto (tgt := 116) hx hb dX0_isAbove_112 (by decide) ?_
                    cases h
                    have e9 := KR _ rfl
                    cases e9
                    exact hret _ _ _ _ (Or.inr rfl) hP hD hS dX0_isAbove_116
            · have h := it_n c_23 h
              refine lv_lload hx hb dX0_isAbove_61 (lv_at hl 1 rfl) ?_
              refine lv_lload hx hb dX0_isAbove_63 (lv_at hl 0 rfl) ?_
              refine W.lcmp hx hb dX0_isAbove_65 ?_
              refine lv_if_le (tgt := 73) hx hb dX0_isAbove_66 (by decide) (fun c_37 => ?_) (fun c_37 => ?_)
              · have h := it_p c_37 h
                refine lv_iconst (v := 0) hx hb dX0_isAbove_73 (by decide) ?_
                cases h
                have e9 := KR _ rfl
                cases e9
                exact hret _ _ _ _ (Or.inl rfl) hP hD hS dX0_isAbove_74
              · have h := it_n c_37 h
                refine lv_iconst (v := 1) hx hb dX0_isAbove_69 (by decide) ?_
                refine lv_goto (tgt := 74) hx hb dX0_isAbove_70 (by decide) ?_
                cases h
                have e9 := KR _ rfl
                cases e9
                exact hret _ _ _ _ (Or.inr rfl) hP hD hS dX0_isAbove_74
  obtain ⟨res_44, hl_43, h⟩ := bd_s h
  refine L17 FU x16_5 j14_4 j12_3 j10_2 j8_1 _ hl_43 _ _ _ hP hD hS (lv_sub hl [0, 1, 2, 3, 4] rfl) (fun rt e9 => by subst e9; exact Option.some.inj h) (fun z16_38 z14_39 z12_40 z10_41 z8_42 e9 H locs ls hP hD hS hl => ?_)
  subst e9
  refine lv_iconst (v := 0) hx hb dX0_isAbove_139 (by decide) ?_
  cases h
  exact hret _ _ _ _ (Or.inl rfl) hP hD hS dX0_isAbove_140
def f_X5_isTable (i0 : Int32) (i1 : Int32) : Option (Int32) :=
  if i1 = (-1) then
    if i0 = (-1) then
      some 1
    else
      some 0
  else
    Option.bind (f_X5_isWord i1) fun r_2 =>
    if r_2 = 0 then
      some 0
    else
      if i0 = (-1) then
        some 1
      else
        Option.bind (f_X5_isWord i0) fun r_6 =>
        if r_6 = 0 then
          some 0
        else
          some 1
set_option maxHeartbeats 4000000 in
set_option maxRecDepth 100000 in
theorem c_X5_isTable (l : Launch) (D : va_G) (cI cJ : ClassId) (i0 : Int32) (i1 : Int32) (ret9 : Int32) (h : f_X5_isTable i0 i1 = some ret9) : CI l D cI cJ yX5_isTable wsX5_isTable 2 42 [.int i0, .int i1] [] [] ret9 := by
  refine entZ (cc := cX5_isTable) (maxL := 2) (by decide) rfl (Nat.le_of_ble_eq_true rfl) ?_
  intro p e s m args below meth c ls A Q X hret
  obtain ⟨hx, hb, hml, hts, hown, hK, hA, hP, hD, hS, hl, hnm⟩ := X
  have hown : s.vm.findClass RX5 = some m.cls := hown
  have hl : lv_has ls 2 [(0, .int i0), (1, .int i1)] := hl
  unfold f_X5_isTable at h
  refine lv_iload_n hx hb dX5_isTable_0 rfl (lv_at hl 1 rfl) ?_
  refine lv_iconst (v := (-1)) hx hb dX5_isTable_1 (by decide) ?_
  refine lv_icmp_ne (tgt := 16) hx hb dX5_isTable_2 (by decide) (fun c_1 => ?_) (fun c_1 => ?_)
  · have h := it_n c_1 h
    refine lv_iload_n hx hb dX5_isTable_16 rfl (lv_at hl 1 rfl) ?_
    obtain ⟨r_2, hc_3, h⟩ := bd_s h
    refine callPi (As := [.int i1]) (rest := []) ⟨hx, hb, hml, hown, hts⟩ (c_X5_isWord l D cI cJ i1 r_2 hc_3) (va_cwS 1 hts gX5_isTable_X5_isWord rfl rfl rfl (by decide +kernel) ⟨Nat.le_of_ble_eq_true rfl, Nat.le_of_ble_eq_true rfl⟩) hK hP hD hS hA rfl hl.1 rfl (Nat.le_of_ble_eq_true rfl) dX5_isTable_17 ⟨Nat.zero_le _, Nat.zero_le _⟩ (fun H locs hP hD hS => ?_)
    refine lv_if_eq (tgt := 39) hx hb dX5_isTable_20 (by decide) (fun c_4 => ?_) (fun c_4 => ?_)
    · have h := it_p c_4 h
      refine lv_iconst (v := 0) hx hb dX5_isTable_39 (by decide) ?_
      cases h
      exact hret _ _ _ _ (Or.inl rfl) hP hD hS dX5_isTable_40
    · have h := it_n c_4 h
      refine lv_iload_n hx hb dX5_isTable_23 rfl (lv_at hl 0 rfl) ?_
      refine lv_iconst (v := (-1)) hx hb dX5_isTable_24 (by decide) ?_
      refine lv_icmp_eq (tgt := 35) hx hb dX5_isTable_25 (by decide) (fun c_5 => ?_) (fun c_5 => ?_)
      · have h := it_p c_5 h
        refine lv_iconst (v := 1) hx hb dX5_isTable_35 (by decide) ?_
        refine lv_goto (tgt := 40) hx hb dX5_isTable_36 (by decide) ?_
        cases h
        exact hret _ _ _ _ (Or.inr rfl) hP hD hS dX5_isTable_40
      · have h := it_n c_5 h
        refine lv_iload_n hx hb dX5_isTable_28 rfl (lv_at hl 0 rfl) ?_
        obtain ⟨r_6, hc_7, h⟩ := bd_s h
        refine callPi (As := [.int i0]) (rest := []) ⟨hx, hb, hml, hown, hts⟩ (c_X5_isWord l D cI cJ i0 r_6 hc_7) (va_cwS 1 hts gX5_isTable_X5_isWord rfl rfl rfl (by decide +kernel) ⟨Nat.le_of_ble_eq_true rfl, Nat.le_of_ble_eq_true rfl⟩) hK hP hD hS hA rfl hl.1 rfl (Nat.le_of_ble_eq_true rfl) dX5_isTable_29 ⟨Nat.zero_le _, Nat.zero_le _⟩ (fun H locs hP hD hS => ?_)
        refine lv_if_eq (tgt := 39) hx hb dX5_isTable_32 (by decide) (fun c_8 => ?_) (fun c_8 => ?_)
        · have h := it_p c_8 h
          refine lv_iconst (v := 0) hx hb dX5_isTable_39 (by decide) ?_
          cases h
          exact hret _ _ _ _ (Or.inl rfl) hP hD hS dX5_isTable_40
        · have h := it_n c_8 h
          refine lv_iconst (v := 1) hx hb dX5_isTable_35 (by decide) ?_
          refine lv_goto (tgt := 40) hx hb dX5_isTable_36 (by decide) ?_
          cases h
          exact hret _ _ _ _ (Or.inr rfl) hP hD hS dX5_isTable_40
  · have h := it_p c_1 h
    refine lv_iload_n hx hb dX5_isTable_5 rfl (lv_at hl 0 rfl) ?_
    refine lv_iconst (v := (-1)) hx hb dX5_isTable_6 (by decide) ?_
    refine lv_icmp_ne (tgt := 14) hx hb dX5_isTable_7 (by decide) (fun c_9 => ?_) (fun c_9 => ?_)
    · have h := it_n c_9 h
      refine lv_iconst (v := 0) hx hb dX5_isTable_14 (by decide) ?_
      cases h
      exact hret _ _ _ _ (Or.inl rfl) hP hD hS dX5_isTable_15
    · have h := it_p c_9 h
      refine lv_iconst (v := 1) hx hb dX5_isTable_10 (by decide) ?_
      refine lv_goto (tgt := 15) hx hb dX5_isTable_11 (by decide) ?_
      cases h
      exact hret _ _ _ _ (Or.inr rfl) hP hD hS dX5_isTable_15
end
