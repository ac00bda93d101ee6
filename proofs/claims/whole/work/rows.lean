section
-- ===== PART A: goes FIRST, ahead of the names: the tables' words, and 'selects' of the private methods out of them =====
/-- a private method of a class that the tables say can be made, by its rows of tables_1 -/
def lw_okq (q : MethodName × Nat) : Prop := (q.1.cls ≠ "java/lang/invoke/MethodHandle" ∧ q.1.cls ≠ "java/lang/invoke/VarHandle") ∧ Cond.instantiable q.1.cls q.2 ∈ tables_1 ∧ Cond.privateMethod q.1 ∈ tables_1 ∧ Cond.instanceMethod q.1 ∈ tables_1
theorem lw_p0 : lw_okq (⟨"CountLearners$LabelledRows", "startAnew", "()V"⟩, 10) := ⟨⟨by decide +kernel, by decide +kernel⟩, List.mem_of_getElem? (i := 21) (by decide +kernel), List.mem_of_getElem? (i := 169) (by decide +kernel), List.mem_of_getElem? (i := 170) (by decide +kernel)⟩
theorem lw_p1 : lw_okq (⟨"CountLearners$LabelledRows", "tally", "()V"⟩, 10) := ⟨⟨by decide +kernel, by decide +kernel⟩, List.mem_of_getElem? (i := 21) (by decide +kernel), List.mem_of_getElem? (i := 174) (by decide +kernel), List.mem_of_getElem? (i := 175) (by decide +kernel)⟩
theorem lw_p2 : lw_okq (⟨"CountLearners$LabelledRows", "tallyRow", "(II)V"⟩, 10) := ⟨⟨by decide +kernel, by decide +kernel⟩, List.mem_of_getElem? (i := 21) (by decide +kernel), List.mem_of_getElem? (i := 178) (by decide +kernel), List.mem_of_getElem? (i := 179) (by decide +kernel)⟩
theorem lw_p3 : lw_okq (⟨"CountLearners$TextTables", "fillFirst", "()V"⟩, 5) := ⟨⟨by decide +kernel, by decide +kernel⟩, List.mem_of_getElem? (i := 59) (by decide +kernel), List.mem_of_getElem? (i := 318) (by decide +kernel), List.mem_of_getElem? (i := 319) (by decide +kernel)⟩
theorem lw_p4 : lw_okq (⟨"CountLearners$TextTables", "countBehind", "(II)V"⟩, 5) := ⟨⟨by decide +kernel, by decide +kernel⟩, List.mem_of_getElem? (i := 59) (by decide +kernel), List.mem_of_getElem? (i := 322) (by decide +kernel), List.mem_of_getElem? (i := 323) (by decide +kernel)⟩
theorem lw_p5 : lw_okq (⟨"CountLearners$TextTables", "putAbove", "()V"⟩, 5) := ⟨⟨by decide +kernel, by decide +kernel⟩, List.mem_of_getElem? (i := 59) (by decide +kernel), List.mem_of_getElem? (i := 327) (by decide +kernel), List.mem_of_getElem? (i := 328) (by decide +kernel)⟩
theorem lw_p6 : lw_okq (⟨"CountLearners$TextTables", "takeCounts", "(I)V"⟩, 5) := ⟨⟨by decide +kernel, by decide +kernel⟩, List.mem_of_getElem? (i := 59) (by decide +kernel), List.mem_of_getElem? (i := 331) (by decide +kernel), List.mem_of_getElem? (i := 332) (by decide +kernel)⟩
theorem lw_p7 : lw_okq (⟨"CountLearners$TextTables", "handDown", "(IIJ)V"⟩, 5) := ⟨⟨by decide +kernel, by decide +kernel⟩, List.mem_of_getElem? (i := 59) (by decide +kernel), List.mem_of_getElem? (i := 335) (by decide +kernel), List.mem_of_getElem? (i := 336) (by decide +kernel)⟩
theorem lw_p8 : lw_okq (⟨"CountLearners$HiddenStates", "bestOnward", "(II)I"⟩, 8) := ⟨⟨by decide +kernel, by decide +kernel⟩, List.mem_of_getElem? (i := 82) (by decide +kernel), List.mem_of_getElem? (i := 407) (by decide +kernel), List.mem_of_getElem? (i := 408) (by decide +kernel)⟩
theorem lw_p9 : lw_okq (⟨"CountLearners$HiddenStates", "weightOnward", "(III)J"⟩, 8) := ⟨⟨by decide +kernel, by decide +kernel⟩, List.mem_of_getElem? (i := 82) (by decide +kernel), List.mem_of_getElem? (i := 411) (by decide +kernel), List.mem_of_getElem? (i := 412) (by decide +kernel)⟩
theorem lw_p10 : lw_okq (⟨"CountLearners$HiddenStates", "shown", "(III)I"⟩, 8) := ⟨⟨by decide +kernel, by decide +kernel⟩, List.mem_of_getElem? (i := 82) (by decide +kernel), List.mem_of_getElem? (i := 415) (by decide +kernel), List.mem_of_getElem? (i := 416) (by decide +kernel)⟩
theorem lw_p11 : lw_okq (⟨"CountLearners$HiddenStates", "bestStart", "()I"⟩, 8) := ⟨⟨by decide +kernel, by decide +kernel⟩, List.mem_of_getElem? (i := 82) (by decide +kernel), List.mem_of_getElem? (i := 419) (by decide +kernel), List.mem_of_getElem? (i := 420) (by decide +kernel)⟩
theorem lw_p12 : lw_okq (⟨"CountLearners$HiddenStates", "sumInto", "(I)J"⟩, 8) := ⟨⟨by decide +kernel, by decide +kernel⟩, List.mem_of_getElem? (i := 82) (by decide +kernel), List.mem_of_getElem? (i := 439) (by decide +kernel), List.mem_of_getElem? (i := 440) (by decide +kernel)⟩
theorem lw_p13 : lw_okq (⟨"CountLearners$HiddenStates", "countBestPath", "(I)V"⟩, 8) := ⟨⟨by decide +kernel, by decide +kernel⟩, List.mem_of_getElem? (i := 82) (by decide +kernel), List.mem_of_getElem? (i := 452) (by decide +kernel), List.mem_of_getElem? (i := 453) (by decide +kernel)⟩
theorem lw_p14 : lw_okq (⟨"CountLearners$WordRules", "countSet", "(I)V"⟩, 4) := ⟨⟨by decide +kernel, by decide +kernel⟩, List.mem_of_getElem? (i := 116) (by decide +kernel), List.mem_of_getElem? (i := 473) (by decide +kernel), List.mem_of_getElem? (i := 474) (by decide +kernel)⟩
theorem lw_p15 : lw_okq (⟨"CountLearners$WordRules", "countPairs", "(II)V"⟩, 4) := ⟨⟨by decide +kernel, by decide +kernel⟩, List.mem_of_getElem? (i := 116) (by decide +kernel), List.mem_of_getElem? (i := 477) (by decide +kernel), List.mem_of_getElem? (i := 478) (by decide +kernel)⟩
def lw_privs_1 : List (MethodName × Nat) := [(⟨"CountLearners$LabelledRows", "startAnew", "()V"⟩, 10), (⟨"CountLearners$LabelledRows", "tally", "()V"⟩, 10), (⟨"CountLearners$LabelledRows", "tallyRow", "(II)V"⟩, 10), (⟨"CountLearners$TextTables", "fillFirst", "()V"⟩, 5), (⟨"CountLearners$TextTables", "countBehind", "(II)V"⟩, 5), (⟨"CountLearners$TextTables", "putAbove", "()V"⟩, 5), (⟨"CountLearners$TextTables", "takeCounts", "(I)V"⟩, 5), (⟨"CountLearners$TextTables", "handDown", "(IIJ)V"⟩, 5), (⟨"CountLearners$HiddenStates", "bestOnward", "(II)I"⟩, 8), (⟨"CountLearners$HiddenStates", "weightOnward", "(III)J"⟩, 8), (⟨"CountLearners$HiddenStates", "shown", "(III)I"⟩, 8), (⟨"CountLearners$HiddenStates", "bestStart", "()I"⟩, 8), (⟨"CountLearners$HiddenStates", "sumInto", "(I)J"⟩, 8), (⟨"CountLearners$HiddenStates", "countBestPath", "(I)V"⟩, 8), (⟨"CountLearners$WordRules", "countSet", "(I)V"⟩, 4), (⟨"CountLearners$WordRules", "countPairs", "(II)V"⟩, 4)]
theorem lw_r1 : ∀ q ∈ lw_privs_1, lw_okq q := List.forall_mem_cons.mpr ⟨lw_p0, List.forall_mem_cons.mpr ⟨lw_p1, List.forall_mem_cons.mpr ⟨lw_p2, List.forall_mem_cons.mpr ⟨lw_p3, List.forall_mem_cons.mpr ⟨lw_p4, List.forall_mem_cons.mpr ⟨lw_p5, List.forall_mem_cons.mpr ⟨lw_p6, List.forall_mem_cons.mpr ⟨lw_p7, List.forall_mem_cons.mpr ⟨lw_p8, List.forall_mem_cons.mpr ⟨lw_p9, List.forall_mem_cons.mpr ⟨lw_p10, List.forall_mem_cons.mpr ⟨lw_p11, List.forall_mem_cons.mpr ⟨lw_p12, List.forall_mem_cons.mpr ⟨lw_p13, List.forall_mem_cons.mpr ⟨lw_p14, List.forall_mem_cons.mpr ⟨lw_p15, fun _ h => absurd h List.not_mem_nil⟩⟩⟩⟩⟩⟩⟩⟩⟩⟩⟩⟩⟩⟩⟩⟩
theorem lw_p16 : lw_okq (⟨"CountLearners$WordRules", "keyOf", "(I)I"⟩, 4) := ⟨⟨by decide +kernel, by decide +kernel⟩, List.mem_of_getElem? (i := 116) (by decide +kernel), List.mem_of_getElem? (i := 481) (by decide +kernel), List.mem_of_getElem? (i := 482) (by decide +kernel)⟩
theorem lw_p17 : lw_okq (⟨"CountLearners$WordRules", "insert", "(I)V"⟩, 4) := ⟨⟨by decide +kernel, by decide +kernel⟩, List.mem_of_getElem? (i := 116) (by decide +kernel), List.mem_of_getElem? (i := 485) (by decide +kernel), List.mem_of_getElem? (i := 486) (by decide +kernel)⟩
theorem lw_p18 : lw_okq (⟨"java/lang/Throwable", "fillInStackTrace", "(I)Ljava/lang/Throwable;"⟩, 6) := ⟨⟨by decide +kernel, by decide +kernel⟩, List.mem_of_getElem? (i := 564) (by decide +kernel), List.mem_of_getElem? (i := 562) (by decide +kernel), List.mem_of_getElem? (i := 563) (by decide +kernel)⟩
theorem lw_p19 : lw_okq (⟨"CountLearnersModel", "forget", "()V"⟩, 25) := ⟨⟨by decide +kernel, by decide +kernel⟩, List.mem_of_getElem? (i := 605) (by decide +kernel), List.mem_of_getElem? (i := 701) (by decide +kernel), List.mem_of_getElem? (i := 702) (by decide +kernel)⟩
theorem lw_p20 : lw_okq (⟨"CountLearnersModel", "isRow", "(I)Z"⟩, 25) := ⟨⟨by decide +kernel, by decide +kernel⟩, List.mem_of_getElem? (i := 605) (by decide +kernel), List.mem_of_getElem? (i := 709) (by decide +kernel), List.mem_of_getElem? (i := 710) (by decide +kernel)⟩
theorem lw_p21 : lw_okq (⟨"CountLearnersModel", "rowsOf", "(I)I"⟩, 25) := ⟨⟨by decide +kernel, by decide +kernel⟩, List.mem_of_getElem? (i := 605) (by decide +kernel), List.mem_of_getElem? (i := 725) (by decide +kernel), List.mem_of_getElem? (i := 726) (by decide +kernel)⟩
theorem lw_p22 : lw_okq (⟨"CountLearnersModel", "asLabel", "(I)I"⟩, 25) := ⟨⟨by decide +kernel, by decide +kernel⟩, List.mem_of_getElem? (i := 605) (by decide +kernel), List.mem_of_getElem? (i := 729) (by decide +kernel), List.mem_of_getElem? (i := 730) (by decide +kernel)⟩
theorem lw_p23 : lw_okq (⟨"CountLearnersModel", "timesOf", "(II)I"⟩, 25) := ⟨⟨by decide +kernel, by decide +kernel⟩, List.mem_of_getElem? (i := 605) (by decide +kernel), List.mem_of_getElem? (i := 733) (by decide +kernel), List.mem_of_getElem? (i := 734) (by decide +kernel)⟩
theorem lw_p24 : lw_okq (⟨"CountLearnersModel", "shareBelow", "(I)J"⟩, 25) := ⟨⟨by decide +kernel, by decide +kernel⟩, List.mem_of_getElem? (i := 605) (by decide +kernel), List.mem_of_getElem? (i := 742) (by decide +kernel), List.mem_of_getElem? (i := 743) (by decide +kernel)⟩
theorem lw_p25 : lw_okq (⟨"CountLearnersModel", "shareAbove", "(II)J"⟩, 25) := ⟨⟨by decide +kernel, by decide +kernel⟩, List.mem_of_getElem? (i := 605) (by decide +kernel), List.mem_of_getElem? (i := 747) (by decide +kernel), List.mem_of_getElem? (i := 748) (by decide +kernel)⟩
theorem lw_p26 : lw_okq (⟨"CountLearnersModel", "weighRow", "(II)V"⟩, 25) := ⟨⟨by decide +kernel, by decide +kernel⟩, List.mem_of_getElem? (i := 605) (by decide +kernel), List.mem_of_getElem? (i := 761) (by decide +kernel), List.mem_of_getElem? (i := 762) (by decide +kernel)⟩
theorem lw_p27 : lw_okq (⟨"CountLearnersModel", "bestOf", "(I)I"⟩, 25) := ⟨⟨by decide +kernel, by decide +kernel⟩, List.mem_of_getElem? (i := 605) (by decide +kernel), List.mem_of_getElem? (i := 769) (by decide +kernel), List.mem_of_getElem? (i := 770) (by decide +kernel)⟩
theorem lw_p28 : lw_okq (⟨"CountLearnersModel", "round", "()Z"⟩, 25) := ⟨⟨by decide +kernel, by decide +kernel⟩, List.mem_of_getElem? (i := 605) (by decide +kernel), List.mem_of_getElem? (i := 780) (by decide +kernel), List.mem_of_getElem? (i := 781) (by decide +kernel)⟩
theorem lw_p29 : lw_okq (⟨"CountLearnersModel", "table", "(II)V"⟩, 25) := ⟨⟨by decide +kernel, by decide +kernel⟩, List.mem_of_getElem? (i := 605) (by decide +kernel), List.mem_of_getElem? (i := 799) (by decide +kernel), List.mem_of_getElem? (i := 800) (by decide +kernel)⟩
theorem lw_p30 : lw_okq (⟨"CountLearnersModel", "first", "()V"⟩, 25) := ⟨⟨by decide +kernel, by decide +kernel⟩, List.mem_of_getElem? (i := 605) (by decide +kernel), List.mem_of_getElem? (i := 803) (by decide +kernel), List.mem_of_getElem? (i := 804) (by decide +kernel)⟩
theorem lw_p31 : lw_okq (⟨"CountLearnersModel", "count", "(II)I"⟩, 25) := ⟨⟨by decide +kernel, by decide +kernel⟩, List.mem_of_getElem? (i := 605) (by decide +kernel), List.mem_of_getElem? (i := 807) (by decide +kernel), List.mem_of_getElem? (i := 808) (by decide +kernel)⟩
def lw_privs_2 : List (MethodName × Nat) := [(⟨"CountLearners$WordRules", "keyOf", "(I)I"⟩, 4), (⟨"CountLearners$WordRules", "insert", "(I)V"⟩, 4), (⟨"java/lang/Throwable", "fillInStackTrace", "(I)Ljava/lang/Throwable;"⟩, 6), (⟨"CountLearnersModel", "forget", "()V"⟩, 25), (⟨"CountLearnersModel", "isRow", "(I)Z"⟩, 25), (⟨"CountLearnersModel", "rowsOf", "(I)I"⟩, 25), (⟨"CountLearnersModel", "asLabel", "(I)I"⟩, 25), (⟨"CountLearnersModel", "timesOf", "(II)I"⟩, 25), (⟨"CountLearnersModel", "shareBelow", "(I)J"⟩, 25), (⟨"CountLearnersModel", "shareAbove", "(II)J"⟩, 25), (⟨"CountLearnersModel", "weighRow", "(II)V"⟩, 25), (⟨"CountLearnersModel", "bestOf", "(I)I"⟩, 25), (⟨"CountLearnersModel", "round", "()Z"⟩, 25), (⟨"CountLearnersModel", "table", "(II)V"⟩, 25), (⟨"CountLearnersModel", "first", "()V"⟩, 25), (⟨"CountLearnersModel", "count", "(II)I"⟩, 25)]
theorem lw_r2 : ∀ q ∈ lw_privs_2, lw_okq q := List.forall_mem_cons.mpr ⟨lw_p16, List.forall_mem_cons.mpr ⟨lw_p17, List.forall_mem_cons.mpr ⟨lw_p18, List.forall_mem_cons.mpr ⟨lw_p19, List.forall_mem_cons.mpr ⟨lw_p20, List.forall_mem_cons.mpr ⟨lw_p21, List.forall_mem_cons.mpr ⟨lw_p22, List.forall_mem_cons.mpr ⟨lw_p23, List.forall_mem_cons.mpr ⟨lw_p24, List.forall_mem_cons.mpr ⟨lw_p25, List.forall_mem_cons.mpr ⟨lw_p26, List.forall_mem_cons.mpr ⟨lw_p27, List.forall_mem_cons.mpr ⟨lw_p28, List.forall_mem_cons.mpr ⟨lw_p29, List.forall_mem_cons.mpr ⟨lw_p30, List.forall_mem_cons.mpr ⟨lw_p31, fun _ h => absurd h List.not_mem_nil⟩⟩⟩⟩⟩⟩⟩⟩⟩⟩⟩⟩⟩⟩⟩⟩
theorem lw_p32 : lw_okq (⟨"CountLearnersModel", "above", "(I)V"⟩, 25) := ⟨⟨by decide +kernel, by decide +kernel⟩, List.mem_of_getElem? (i := 605) (by decide +kernel), List.mem_of_getElem? (i := 811) (by decide +kernel), List.mem_of_getElem? (i := 812) (by decide +kernel)⟩
theorem lw_p33 : lw_okq (⟨"CountLearnersModel", "bestPathOf", "(I)I"⟩, 25) := ⟨⟨by decide +kernel, by decide +kernel⟩, List.mem_of_getElem? (i := 605) (by decide +kernel), List.mem_of_getElem? (i := 832) (by decide +kernel), List.mem_of_getElem? (i := 833) (by decide +kernel)⟩
theorem lw_p34 : lw_okq (⟨"CountLearnersModel", "paths", "(I)I"⟩, 25) := ⟨⟨by decide +kernel, by decide +kernel⟩, List.mem_of_getElem? (i := 605) (by decide +kernel), List.mem_of_getElem? (i := 836) (by decide +kernel), List.mem_of_getElem? (i := 837) (by decide +kernel)⟩
theorem lw_p35 : lw_okq (⟨"CountLearnersModel", "weighPath", "(II)J"⟩, 25) := ⟨⟨by decide +kernel, by decide +kernel⟩, List.mem_of_getElem? (i := 605) (by decide +kernel), List.mem_of_getElem? (i := 840) (by decide +kernel), List.mem_of_getElem? (i := 841) (by decide +kernel)⟩
theorem lw_p36 : lw_okq (⟨"CountLearnersModel", "stateOf", "(III)I"⟩, 25) := ⟨⟨by decide +kernel, by decide +kernel⟩, List.mem_of_getElem? (i := 605) (by decide +kernel), List.mem_of_getElem? (i := 844) (by decide +kernel), List.mem_of_getElem? (i := 845) (by decide +kernel)⟩
theorem lw_p37 : lw_okq (⟨"CountLearnersModel", "sum", "(III)J"⟩, 25) := ⟨⟨by decide +kernel, by decide +kernel⟩, List.mem_of_getElem? (i := 605) (by decide +kernel), List.mem_of_getElem? (i := 852) (by decide +kernel), List.mem_of_getElem? (i := 853) (by decide +kernel)⟩
theorem lw_p38 : lw_okq (⟨"CountLearnersModel", "learnt", "()Z"⟩, 25) := ⟨⟨by decide +kernel, by decide +kernel⟩, List.mem_of_getElem? (i := 605) (by decide +kernel), List.mem_of_getElem? (i := 864) (by decide +kernel), List.mem_of_getElem? (i := 865) (by decide +kernel)⟩
theorem lw_p39 : lw_okq (⟨"CountLearnersModel", "countPath", "(II)V"⟩, 25) := ⟨⟨by decide +kernel, by decide +kernel⟩, List.mem_of_getElem? (i := 605) (by decide +kernel), List.mem_of_getElem? (i := 868) (by decide +kernel), List.mem_of_getElem? (i := 869) (by decide +kernel)⟩
theorem lw_p40 : lw_okq (⟨"CountLearnersModel", "rules", "()I"⟩, 25) := ⟨⟨by decide +kernel, by decide +kernel⟩, List.mem_of_getElem? (i := 605) (by decide +kernel), List.mem_of_getElem? (i := 876) (by decide +kernel), List.mem_of_getElem? (i := 877) (by decide +kernel)⟩
theorem lw_p41 : lw_okq (⟨"CountLearnersModel", "isRule", "(I)Z"⟩, 25) := ⟨⟨by decide +kernel, by decide +kernel⟩, List.mem_of_getElem? (i := 605) (by decide +kernel), List.mem_of_getElem? (i := 880) (by decide +kernel), List.mem_of_getElem? (i := 881) (by decide +kernel)⟩
theorem lw_p42 : lw_okq (⟨"CountLearnersModel", "support", "(II)I"⟩, 25) := ⟨⟨by decide +kernel, by decide +kernel⟩, List.mem_of_getElem? (i := 605) (by decide +kernel), List.mem_of_getElem? (i := 884) (by decide +kernel), List.mem_of_getElem? (i := 885) (by decide +kernel)⟩
theorem lw_p43 : lw_okq (⟨"CountLearnersModel", "has", "(II)Z"⟩, 25) := ⟨⟨by decide +kernel, by decide +kernel⟩, List.mem_of_getElem? (i := 605) (by decide +kernel), List.mem_of_getElem? (i := 888) (by decide +kernel), List.mem_of_getElem? (i := 889) (by decide +kernel)⟩
theorem lw_p44 : lw_okq (⟨"CountLearnersModel", "ruleAt", "(I)I"⟩, 25) := ⟨⟨by decide +kernel, by decide +kernel⟩, List.mem_of_getElem? (i := 605) (by decide +kernel), List.mem_of_getElem? (i := 892) (by decide +kernel), List.mem_of_getElem? (i := 893) (by decide +kernel)⟩
theorem lw_p45 : lw_okq (⟨"CountLearnersModel", "isAhead", "(II)Z"⟩, 25) := ⟨⟨by decide +kernel, by decide +kernel⟩, List.mem_of_getElem? (i := 605) (by decide +kernel), List.mem_of_getElem? (i := 896) (by decide +kernel), List.mem_of_getElem? (i := 897) (by decide +kernel)⟩
def lw_privs_3 : List (MethodName × Nat) := [(⟨"CountLearnersModel", "above", "(I)V"⟩, 25), (⟨"CountLearnersModel", "bestPathOf", "(I)I"⟩, 25), (⟨"CountLearnersModel", "paths", "(I)I"⟩, 25), (⟨"CountLearnersModel", "weighPath", "(II)J"⟩, 25), (⟨"CountLearnersModel", "stateOf", "(III)I"⟩, 25), (⟨"CountLearnersModel", "sum", "(III)J"⟩, 25), (⟨"CountLearnersModel", "learnt", "()Z"⟩, 25), (⟨"CountLearnersModel", "countPath", "(II)V"⟩, 25), (⟨"CountLearnersModel", "rules", "()I"⟩, 25), (⟨"CountLearnersModel", "isRule", "(I)Z"⟩, 25), (⟨"CountLearnersModel", "support", "(II)I"⟩, 25), (⟨"CountLearnersModel", "has", "(II)Z"⟩, 25), (⟨"CountLearnersModel", "ruleAt", "(I)I"⟩, 25), (⟨"CountLearnersModel", "isAhead", "(II)Z"⟩, 25)]
theorem lw_r3 : ∀ q ∈ lw_privs_3, lw_okq q := List.forall_mem_cons.mpr ⟨lw_p32, List.forall_mem_cons.mpr ⟨lw_p33, List.forall_mem_cons.mpr ⟨lw_p34, List.forall_mem_cons.mpr ⟨lw_p35, List.forall_mem_cons.mpr ⟨lw_p36, List.forall_mem_cons.mpr ⟨lw_p37, List.forall_mem_cons.mpr ⟨lw_p38, List.forall_mem_cons.mpr ⟨lw_p39, List.forall_mem_cons.mpr ⟨lw_p40, List.forall_mem_cons.mpr ⟨lw_p41, List.forall_mem_cons.mpr ⟨lw_p42, List.forall_mem_cons.mpr ⟨lw_p43, List.forall_mem_cons.mpr ⟨lw_p44, List.forall_mem_cons.mpr ⟨lw_p45, fun _ h => absurd h List.not_mem_nil⟩⟩⟩⟩⟩⟩⟩⟩⟩⟩⟩⟩⟩⟩
def lw_privs : List (MethodName × Nat) := lw_privs_1 ++ (lw_privs_2 ++ (lw_privs_3))
def lw_tbl : List Cond := k2_sels lw_privs ++ tables_1
theorem lw_privs_ok : ∀ q ∈ lw_privs, lw_okq q := by
  show ∀ q ∈ lw_privs_1 ++ (lw_privs_2 ++ (lw_privs_3)), lw_okq q
  exact List.forall_mem_append.mpr ⟨lw_r1, List.forall_mem_append.mpr ⟨lw_r2, lw_r3⟩⟩
-- ===== end of PART A; then your names; then what follows =====
end
section
/-! ===== BEGIN words of one list among another's, by their places ===== -/
theorem goodIn_r {big : List Cond} (ws : List Cond) (ps : List Nat) (hp : ws = ps.filterMap (fun i => big[i]?)) (h : ws.all goodWord = true) : GoodIn big ws := by
  intro w hw
  have h1 := List.all_eq_true.mp h w hw
  rw [hp] at hw
  obtain ⟨i, -, hi⟩ := List.mem_filterMap.mp hw
  have hm : w ∈ big := by first | exact List.mem_of_getElem? hi | exact List.getElem?_mem hi
  exact ⟨hm, good_of_word h1⟩
theorem goodIn_app {big a b : List Cond} (ha : GoodIn big a) (hb : GoodIn big b) : GoodIn big (a ++ b) := fun w h => (List.mem_append.mp h).elim (ha w) (hb w)
theorem goodIn_ca {big a b : List Cond} {c : Cond} (ha : GoodIn big (c :: a)) (hb : GoodIn big b) : GoodIn big (c :: (a ++ b)) := fun w h => (List.mem_cons.mp h).elim (fun e => ha w (List.mem_cons.mpr (Or.inl e))) (fun h => (List.mem_append.mp h).elim (fun h => ha w (List.mem_cons.mpr (Or.inr h))) (hb w))
theorem goodIn_sub {big ws : List Cond} (hm : ∀ w ∈ ws, w ∈ big) (h : ws.all goodWord = true) : GoodIn big ws := fun w hw => ⟨hm w hw, good_of_word (List.all_eq_true.mp h w hw)⟩
/-! ===== END ===== -/

/-! ===== BEGIN exceptions that leave a method, and their catching by the caller (launches without stack traces) ===== -/
section VXA
/-! The laws vx_back, vx_callV, vx_callS, vx_callSW, vx_throw0, vx_throwS follow proofs of the library, with one case more: JvmDerived/Free/Laws.lean (Back.of_free), Shelf42/LK1.lean (callV, callS), Shelf/KitTraced.lean (throwNew0V, throwNewS). -/
/-- where a method has thrown q: the class by its name, the cell, what was written, the world -/
def vx_T (XC : String → State → State → Prop) (st : State) (q : Addr) (t : State) (mc ms : Nat) (free : Addr → Prop) : Prop :=
  ∃ (E : String) (ce : Cell) (L : List Loc), XC E st t ∧ t.heap[q]? = some ce ∧ ce.vm = .none ∧ st.vm.findClass E = some ce.cls ∧ st.WarmedH t.vm ∧ st.sameButNew ({ t with vm := st.vm } : State) L mc ms ∧ ∀ z ∈ L, free z.base
def vx_Q (Qc : Array Value → State → Outcome → State → Prop) (XC : String → State → State → Prop) (mc ms : Nat) (free : Addr → Prop) : Array Value → State → Outcome → State → Prop := fun a st o t =>
  (Qc a st o t ∧ ∃ L, FrameEnd st o t L mc ms ∧ ∀ q ∈ L, free q.base) ∨ ∃ q, o = .threw q ∧ vx_T XC st q t mc ms free
/-- a callee that returns or throws -/
def vx_Met (l : Launch) (y : MethodName) (ws : List Cond) (rm : Room) (Pc : Array Value → State → Prop) (Qc : Array Value → State → Outcome → State → Prop) (XC : String → State → State → Prop) (mc ms : Nat) (free : Addr → Prop) : Prop :=
  MetFree l y (headSpec ws rm) Pc (fun _ _ _ _ _ => True) (vx_Q Qc XC mc ms free)
def vx_Post (XC : String → State → State → Prop) (mc ms : Nat) (free : Addr → Prop) : Pt → Array Value → Addr → Pt → Prop := fun A a q B =>
  ∃ (g : JFrame) (mk : MethodId) (t : State) (L : List Loc) (E : String) (ce : Cell), B.U.heap = t.heap ∧ B.U.vm = t.vm ∧ XC E (A.U.calling g mk a) t ∧ t.heap[q]? = some ce ∧ ce.vm = .none ∧ A.U.vm.findClass E = some ce.cls ∧ B.locs = A.locs ++ L ∧ (∀ z ∈ L, free z.base) ∧ B.cells = A.cells + mc ∧ B.slots = A.slots + ms
def vx_Back (l : Launch) (R : Room) (p : Program) (e : Env) (below : List Frame) (s : State) (sargs : Array Value) (y : MethodName) (len W9 : Nat)
    (Pre : Pt → Array Value → Prop) (Post : Pt → Array Value → Option Value → Pt → Prop) (PostX : Pt → Array Value → Addr → Pt → Prop) : Prop :=
  ∀ (m : MethodId) (meth : Method) (c : Code) (A : Pt) (g : JFrame) (ig : Instr) (mk : MethodId) (a : Array Value),
    Stand p l e R s m sargs below meth c A.U A.locs A.cells A.slots → g.method = m → g.locals.size = c.maxLocals → decode c.code g.pc = .ok (ig, len) →
    2 * g.monitorRoom + (g.stack.map fun v => v.category).sum ≤ W9 → A.U.methodNamed? y = some mk → Pre A a →
    (∃ (v : Option Value) (B : Pt), Stand p l e R s m sargs below meth c B.U B.locs B.cells B.slots ∧ Post A a v B ∧
      Steps p.tables e below (doInvoke e (A.U.setTop g) [] mk a).1 (B.U.setTop { g with pc := g.pc + len, stack := v.toList ++ g.stack })) ∨
    (∃ (q : Addr) (B : Pt), Stand p l e R s m sargs below meth c B.U B.locs B.cells B.slots ∧ PostX A a q B ∧
      Steps p.tables e below (doInvoke e (A.U.setTop g) [] mk a).1 ((B.U.setTop g).pushFrame (.throwing q)))
section Payer
variable {l : Launch} {R : Room} {p : Program} {e : Env} {below : List Frame} {s : State} {sargs : Array Value} {y : MethodName} {len W9 : Nat}
theorem vx_back {ws : List Cond} {rm : Room} {Pc : Array Value → State → Prop} {Qc : Array Value → State → Outcome → State → Prop} {XC : String → State → State → Prop} {mc ms : Nat} {free : Addr → Prop} {bytes : ByteArray} {maxL : Nat} {ret : Option FieldType}
    (hM : vx_Met l y ws rm Pc Qc XC mc ms free) (hblind : FrameBlind Pc) (hrc : rm.cells = mc) (hrs : rm.slots = ms)
    (hframes : rm.frames + 1 ≤ R.frames) (hlocals : W9 + (maxL + 11) + rm.locals ≤ R.locals)
    (hws : ∀ w ∈ ws, ∀ a' U, s.WarmedH U.vm → w.before a' U = true) (hcode : Cond.code y bytes maxL ret ∈ ws) (hinit : ∀ a' U, s.WarmedH U.vm → (Cond.initialized y.cls).before a' U = true) :
    vx_Back l R p e below s sargs y len W9 (PreOf R mc ms Pc) (PostOf Qc mc ms free) (vx_Post XC mc ms free) := by
  intro m meth c A g ig mk a X hg hsize hdg hW hn hp
  have h1 : (headSpec ws rm).pre.before a A.U = true := atoms_intro fun w hw => hws w hw _ _ X.warmed
  have h2 : (Cond.code y bytes maxL ret).before a A.U = true := hws _ hcode _ _ X.warmed
  have h3 : (Cond.initialized y.cls).before a A.U = true := hinit _ _ X.warmed
  have h4 : A.cells + (headSpec ws rm).room.cells ≤ R.cells := by rw [show (headSpec ws rm).room.cells = mc from hrc]; exact hp.1
  have h5 : A.slots + (headSpec ws rm).room.slots ≤ R.slots := by rw [show (headSpec ws rm).room.slots = ms from hrs]; exact hp.2.1
  have hPc : Pc a (A.U.calling g mk a) := hblind _ _ _ _ hp.2.2
  obtain ⟨U, Ls, c0, s0⟩ := A
  dsimp only [Pt.U, Pt.locs, Pt.cells, Pt.slots] at h1 h2 h3 h4 h5 X hn hPc ⊢
  obtain ⟨methY, cY, hmY, hcY, -, hlY, -, -, -, -⟩ := Cond.code_spec hn h2
  obtain ⟨kY, hkY, -⟩ := className_of_methodNamed hn
  have hinitY : kY.init = .initialized := Cond.initialized_spec (findClass_of_methodNamed hn) hkY h3
  have h : At U g.method c below := by rw [hg]; exact X.here
  have hlocals9 : W9 + (maxL + 11) + (headSpec ws rm).room.locals ≤ R.locals := hlocals
  have happ : (headSpec ws rm).appliesLoose y e.platform (U.calling g mk a) = true :=
    Spec.appliesLoose_calling (g := g) h hdg hn hkY hinitY
      (X.room_calling (g := g) (R' := (headSpec ws rm).room) hsize hmY hcY hframes (by rw [hlY]; omega) h4 h5) h1
  obtain ⟨mid, hmid⟩ := h.above
  have hfr : (U.setTop g).frames = (.java g :: mid) ++ below := by rw [State.frames_setTop' g h.top, hmid]; rfl
  obtain ⟨o, s₂, hsteps, -, hend, hq⟩ := Steps.callFree hM p X.admits X.cas X.clock (acts := []) hfr happ hPc trivial
  have hq' : vx_Q Qc XC mc ms free a (U.calling g mk a) o s₂ := hq
  rw [State.frames_setTop' g h.top] at hend
  obtain ⟨g₀, hg0⟩ := Option.isSome_iff_exists.mp h.top
  obtain ⟨r, hr⟩ := State.topJava?_eq_some.mp hg0
  have hr' : (({ U with heap := s₂.heap, slotsUsed := s₂.slotsUsed } : State).setVm s₂.vm).frames = .java g₀ :: r := hr
  rcases hq' with ⟨hqc, L, hfe, hL⟩ | ⟨q, rfl, E, ce, L, hx, hce, hcv, hcl, hW₂, hsm, hL⟩
  · obtain ⟨⟨v, rfl⟩, hW₂, e2, q2, q3, q4, q5, q6⟩ := id hfe
    have e3 : s₂ = ({ (U.calling g mk a).setFrames s₂.frames with heap := s₂.heap, slotsUsed := s₂.slotsUsed } : State).setVm s₂.vm := by
      have : s₂ = ({ s₂ with vm := (U.calling g mk a).vm } : State).setVm s₂.vm := rfl
      rw [e2] at this
      exact this
    obtain ⟨c₂, i₂, len₂, hc₂, hd₂, hf₂⟩ := hend
    have hW' : U.WarmedH s₂.vm := hW₂
    have hcc : c₂ = c := by
      have h1 : s₂.code? g.method = U.code? g.method := by
        rw [State.code?_eq, State.code?_eq, hW'.alike.method?]
      exact Option.some.inj (hc₂.symm.trans (h1.trans h.code))
    subst hcc
    have hlen : len₂ = len := by rw [hdg] at hd₂; cases hd₂; rfl
    subst hlen
    have hs₂ : s₂ = (({ U with heap := s₂.heap, slotsUsed := s₂.slotsUsed } : State).setVm s₂.vm).setTop { g with pc := g.pc + len₂, stack := v.toList ++ g.stack } := by
      refine e3.trans ?_
      rw [hf₂, State.calling_eq h.top, State.setFrames_setFrames, State.setTop_of_frames _ hr', hr]
      rfl
    have hsame : U.sameButNew ({ U with heap := s₂.heap, slotsUsed := s₂.slotsUsed } : State) L mc ms := by
      refine ⟨?_, q2, q3, q4, q5, q6⟩
      obtain ⟨t, ht, -⟩ := State.frames_cons hr
      show ({ U with heap := s₂.heap, slotsUsed := s₂.slotsUsed } : State) = { U.setFrames U.frames with heap := s₂.heap, slotsUsed := s₂.slotsUsed }
      rw [State.setFrames_self ht]
    subst hg
    refine Or.inl ⟨v, ⟨(({ U with heap := s₂.heap, slotsUsed := s₂.slotsUsed } : State).setVm s₂.vm), Ls ++ L, c0 + mc, s0 + ms⟩,
      ⟨X.admits, X.cas, X.clock, X.frames, X.room, X.hears, X.method, X.code, (X.here.setHeapUsed s₂.heap s₂.slotsUsed).setVm hW'.alike, X.tail, State.WarmedH.trans X.warmed hW', X.limits, X.bytes, X.same.trans (hsame.setVm s.vm)⟩,
      ⟨g, mk, s₂, L, rfl, rfl, hqc, rfl, hL, rfl, rfl⟩, ?_⟩
    show Steps p.tables e below _ ((({ U with heap := s₂.heap, slotsUsed := s₂.slotsUsed } : State).setVm s₂.vm).setTop { g with pc := g.pc + len₂, stack := v.toList ++ g.stack })
    rw [← hs₂]
    exact hsteps
  · obtain ⟨e2, q2, q3, q4, q5, q6⟩ := id hsm
    have e3 : s₂ = ({ (U.calling g mk a).setFrames s₂.frames with heap := s₂.heap, slotsUsed := s₂.slotsUsed } : State).setVm s₂.vm := by
      have : s₂ = ({ s₂ with vm := (U.calling g mk a).vm } : State).setVm s₂.vm := rfl
      rw [e2] at this
      exact this
    have hf₂ : s₂.frames = .throwing q :: .java g :: U.frames.tail := hend
    have hW' : U.WarmedH s₂.vm := hW₂
    have hs₂ : s₂ = ((({ U with heap := s₂.heap, slotsUsed := s₂.slotsUsed } : State).setVm s₂.vm).setTop g).pushFrame (.throwing q) := by
      refine e3.trans ?_
      rw [hf₂, State.calling_eq h.top, State.setFrames_setFrames, State.pushFrame, State.frames_setTop _ hr', State.setTop_of_frames _ hr', State.setFrames_setFrames, hr]
      rfl
    have hsame : U.sameButNew ({ U with heap := s₂.heap, slotsUsed := s₂.slotsUsed } : State) L mc ms := by
      refine ⟨?_, q2, q3, q4, q5, q6⟩
      obtain ⟨t, ht, -⟩ := State.frames_cons hr
      show ({ U with heap := s₂.heap, slotsUsed := s₂.slotsUsed } : State) = { U.setFrames U.frames with heap := s₂.heap, slotsUsed := s₂.slotsUsed }
      rw [State.setFrames_self ht]
    subst hg
    refine Or.inr ⟨q, ⟨(({ U with heap := s₂.heap, slotsUsed := s₂.slotsUsed } : State).setVm s₂.vm), Ls ++ L, c0 + mc, s0 + ms⟩,
      ⟨X.admits, X.cas, X.clock, X.frames, X.room, X.hears, X.method, X.code, (X.here.setHeapUsed s₂.heap s₂.slotsUsed).setVm hW'.alike, X.tail, State.WarmedH.trans X.warmed hW', X.limits, X.bytes, X.same.trans (hsame.setVm s.vm)⟩,
      ⟨g, mk, s₂, L, E, ce, rfl, rfl, hx, hce, hcv, hcl, rfl, hL, rfl, rfl⟩, ?_⟩
    show Steps p.tables e below _ (((({ U with heap := s₂.heap, slotsUsed := s₂.slotsUsed } : State).setVm s₂.vm).setTop g).pushFrame (.throwing q))
    rw [← hs₂]
    exact hsteps
end Payer
section Calls
variable {p : Program} {l : Launch} {e : Env} {R : Room} {s : State} {m : MethodId} {args : Array Value} {below : List Frame} {meth : Method} {c : Code} {T : State} {locs : List Loc} {cells slots : Nat}
theorem vx_callV (X : Stand p l e R s m args below meth c T locs cells slots) (hexec : p.tables.exec = Jvm.exec) {own C : String} {index : Nat} {y : MethodName} {bytes : ByteArray} {maxL : Nat} {ret : Option FieldType}
    (hown : s.vm.findClass own = some m.cls) (hlink : (Cond.methodLink own index y).before args s = true) (hinst : (Cond.instanceMethod y).before args s = true) (hsel : (Cond.selects C y y).before args s = true)
    (hcode : (Cond.code y bytes maxL ret).before args s = true) (hy : y.cls ≠ "java/lang/invoke/MethodHandle" ∧ y.cls ≠ "java/lang/invoke/VarHandle")
    {W9 : Nat} {Pre : Pt → Array Value → Prop} {Post : Pt → Array Value → Option Value → Pt → Prop} {PostX : Pt → Array Value → Addr → Pt → Prop} (hK : vx_Back l R p e below s args y 3 W9 Pre Post PostX)
    {b : Addr} {cellB : Cell} (hcell : T.heap[b]? = some cellB) (hobj : cellB.vm.isStatics = false) (hcls : s.vm.findClass C = some cellB.cls)
    {g : JFrame} (hg : g.method = m) (hsize : g.locals.size = c.maxLocals) {argsL rest : List Value} (hlen : ∀ sig, parseMethodDescriptor y.desc = some sig → argsL.length = sig.parameters.length)
    (hstack : g.stack = argsL.reverse ++ .ref b :: rest) (hW : 2 * g.monitorRoom + (rest.map fun v => v.category).sum ≤ W9) (hdg : decode c.code g.pc = .ok (.invokevirtual index, 3))
    (hpre : ∀ vm₁, s.WarmedH vm₁ → Pre ⟨T.setVm vm₁, locs, cells, slots⟩ (Value.ref b :: argsL).toArray) :
    (∃ (v : Option Value) (vm₁ : Vm) (B : Pt), s.WarmedH vm₁ ∧ Stand p l e R s m args below meth c B.U B.locs B.cells B.slots ∧ Post ⟨T.setVm vm₁, locs, cells, slots⟩ (Value.ref b :: argsL).toArray v B ∧
      ∀ target, Steps p.tables e below (B.U.setTop { g with pc := g.pc + 3, stack := v.toList ++ rest }) target → Steps p.tables e below (T.setTop g) target) ∨
    (∃ (q : Addr) (vm₁ : Vm) (B : Pt), s.WarmedH vm₁ ∧ Stand p l e R s m args below meth c B.U B.locs B.cells B.slots ∧ PostX ⟨T.setVm vm₁, locs, cells, slots⟩ (Value.ref b :: argsL).toArray q B ∧
      Steps p.tables e below (T.setTop g) ((B.U.setTop { g with stack := rest }).pushFrame (.throwing q))) := by
  obtain ⟨mk, methM, hnamed, hmethM, hstM, habM⟩ := Cond.instanceMethod_spec hinst
  obtain ⟨methM', cM, hmethM', -, -, -, -, -, -, hsigM⟩ := Cond.code_spec hnamed hcode
  cases hmethM.symm.trans hmethM'
  obtain ⟨c2, r2, m2, q1, q2, q3, q4, kP, hkP, hkPi⟩ := Cond.selects_spec hsel
  cases hcls.symm.trans q1
  cases (State.methodFound?_of_named hnamed hy).symm.trans q2
  cases hnamed.symm.trans q3
  have hselP : selectMethod e.platform s.vm cellB.cls mk = .method mk := by rw [Launch.admits_selectMethod X.admits]; exact q4
  obtain ⟨vm₁, X₁, hstep₁⟩ := X.invokevirtual hexec hown hlink hnamed hmethM hstM hkP hkPi hy (a := b) (cell := cellB) hcell
    (fun z h => by rw [h] at hobj; cases hobj) hselP hmethM habM hkP hkPi (g := g) hg (argsL := argsL) (rest := rest) (hlen _ hsigM) hstack hdg
  rcases hK m meth c ⟨T.setVm vm₁, locs, cells, slots⟩ { g with stack := rest } (.invokevirtual index) mk (Value.ref b :: argsL).toArray X₁ hg hsize hdg hW (X₁.named hnamed) (hpre vm₁ X₁.warmed) with ⟨v, B, X', hpost, hsteps⟩ | ⟨q, B, X', hpost, hsteps⟩
  · exact Or.inl ⟨v, vm₁, B, X₁.warmed, X', hpost, fun target h => hstep₁ _ fun acts => by rw [doInvoke_state]; exact hsteps.trans h⟩
  · exact Or.inr ⟨q, vm₁, B, X₁.warmed, X', hpost, hstep₁ _ fun acts => by rw [doInvoke_state]; exact hsteps⟩
theorem vx_callS (X : Stand p l e R s m args below meth c T locs cells slots) (hexec : p.tables.exec = Jvm.exec) {own : String} {index : Nat} {y : MethodName} {bytes : ByteArray} {maxL : Nat} {ret : Option FieldType}
    (hown : s.vm.findClass own = some m.cls) (hlink : (Cond.methodLink own index y).before args s = true) (hstat : (Cond.static y).before args s = true) (hinit : (Cond.initialized y.cls).before args s = true)
    (hcode : (Cond.code y bytes maxL ret).before args s = true) (hy : y.cls ≠ "java/lang/invoke/MethodHandle" ∧ y.cls ≠ "java/lang/invoke/VarHandle")
    {W9 : Nat} {Pre : Pt → Array Value → Prop} {Post : Pt → Array Value → Option Value → Pt → Prop} {PostX : Pt → Array Value → Addr → Pt → Prop} (hK : vx_Back l R p e below s args y 3 W9 Pre Post PostX)
    {g : JFrame} (hg : g.method = m) (hsize : g.locals.size = c.maxLocals) {argsL rest : List Value} (hlen : ∀ sig, parseMethodDescriptor y.desc = some sig → argsL.length = sig.parameters.length)
    (hstack : g.stack = argsL.reverse ++ rest) (hW : 2 * g.monitorRoom + (rest.map fun v => v.category).sum ≤ W9) (hdg : decode c.code g.pc = .ok (.invokestatic index, 3))
    (hpre : ∀ vm₁, s.WarmedH vm₁ → Pre ⟨T.setVm vm₁, locs, cells, slots⟩ argsL.toArray) :
    (∃ (v : Option Value) (vm₁ : Vm) (B : Pt), s.WarmedH vm₁ ∧ Stand p l e R s m args below meth c B.U B.locs B.cells B.slots ∧ Post ⟨T.setVm vm₁, locs, cells, slots⟩ argsL.toArray v B ∧
      ∀ target, Steps p.tables e below (B.U.setTop { g with pc := g.pc + 3, stack := v.toList ++ rest }) target → Steps p.tables e below (T.setTop g) target) ∨
    (∃ (q : Addr) (vm₁ : Vm) (B : Pt), s.WarmedH vm₁ ∧ Stand p l e R s m args below meth c B.U B.locs B.cells B.slots ∧ PostX ⟨T.setVm vm₁, locs, cells, slots⟩ argsL.toArray q B ∧
      Steps p.tables e below (T.setTop g) ((B.U.setTop { g with stack := rest }).pushFrame (.throwing q))) := by
  obtain ⟨mk, hnamed⟩ := Cond.code_named hcode
  obtain ⟨methM, cM, hmethM, -, -, -, -, -, -, hsigM⟩ := Cond.code_spec hnamed hcode
  have hstatic : methM.isStatic = true := Cond.static_spec hnamed hmethM hstat
  obtain ⟨kP, hkP, -⟩ := className_of_methodNamed hnamed
  have hinitP : kP.init = .initialized := Cond.initialized_spec (findClass_of_methodNamed hnamed) hkP hinit
  obtain ⟨vm₁, X₁, hstep₁⟩ := X.invokestatic hexec hown hlink hnamed hmethM hstatic hkP hinitP hy (g := g) hg (argsL := argsL) (rest := rest) (hlen _ hsigM) hstack hdg
  rcases hK m meth c ⟨T.setVm vm₁, locs, cells, slots⟩ { g with stack := rest } (.invokestatic index) mk argsL.toArray X₁ hg hsize hdg hW (X₁.named hnamed) (hpre vm₁ X₁.warmed) with ⟨v, B, X', hpost, hsteps⟩ | ⟨q, B, X', hpost, hsteps⟩
  · exact Or.inl ⟨v, vm₁, B, X₁.warmed, X', hpost, fun target h => hstep₁ _ fun acts => by rw [doInvoke_state]; exact hsteps.trans h⟩
  · exact Or.inr ⟨q, vm₁, B, X₁.warmed, X', hpost, hstep₁ _ fun acts => by rw [doInvoke_state]; exact hsteps⟩
end Calls
theorem vx_cls {s : State} {T : State} {vm₁ : Vm} {E : String} {k : ClassId} (hW : s.WarmedH vm₁) (h : (T.setVm vm₁).vm.findClass E = some k) : s.vm.findClass E = some k := by
  have h1 : vm₁.findClass E = some k := h
  rw [hW.alike.findClass] at h1
  exact h1
/-- the method's frame g, with q thrown over it -/
def vx_W (p : Program) (l : Launch) (e : Env) (R : Room) (s : State) (m : MethodId) (args : Array Value) (below : List Frame) (meth : Method) (c : Code) (H : Heap) (locs : List Loc) (cells slots : Nat) (Q : State → Prop) (g : JFrame) (q : Addr) : Prop :=
  ∀ T : State, T.heap = H → Stand p l e R s m args below meth c T locs cells slots → ∃ t, Steps p.tables e below ((T.setTop g).pushFrame (.throwing q)) t ∧ Q t
def vx_Run (p : Program) (l : Launch) (e : Env) (R : Room) (s : State) (m : MethodId) (args : Array Value) (below : List Frame) (meth : Method) (c : Code) (H : Heap) (locs : List Loc) (cells slots mc ms : Nat) (g : JFrame) (rest : List Value) (Qa : State → Outcome → State → Prop) (XC : String → State → State → Prop) (free : Addr → Prop) : Prop :=
  ∀ T : State, T.heap = H → Stand p l e R s m args below meth c T locs cells slots →
    (∃ (v : Option Value) (st₀ t T' : State) (L : List Loc), st₀.heap = H ∧ Stand p l e R s m args below meth c T' (locs ++ L) (cells + mc) (slots + ms) ∧ (∀ q ∈ L, free q.base) ∧ T'.heap = t.heap ∧ T'.vm = t.vm ∧ Qa st₀ (.returned v) t ∧
      Goes p e below T g T' { g with pc := g.pc + 3, stack := v.toList ++ rest }) ∨
    (∃ (q : Addr) (st₀ t T' : State) (L : List Loc) (E : String) (ce : Cell), st₀.heap = H ∧ Stand p l e R s m args below meth c T' (locs ++ L) (cells + mc) (slots + ms) ∧ (∀ z ∈ L, free z.base) ∧ T'.heap = t.heap ∧ T'.vm = t.vm ∧ XC E st₀ t ∧ t.heap[q]? = some ce ∧ ce.vm = .none ∧ s.vm.findClass E = some ce.cls ∧
      Steps p.tables e below (T.setTop g) ((T'.setTop { g with stack := rest }).pushFrame (.throwing q)))
def vx_X {S : Type} (px : S → Prop) (B : String → S → State → Prop) (A : Nat → Prop) : String → State → State → Prop := fun E st t => ∃ u : S, px u ∧ B E u t ∧ va_F A st t
section Runs
variable {p : Program} {l : Launch} {e : Env} {R : Room} {s : State} {m : MethodId} {args : Array Value} {below : List Frame} {meth : Method} {c : Code} {H : Heap} {locs : List Loc} {cells slots : Nat}
variable {y : MethodName} {bytes cc : ByteArray} {maxL nL mc ms n index : Nat} {ret : Option FieldType} {ws : List Cond} {rm : Room} {Pc : Array Value → State → Prop} {Qc : Array Value → State → Outcome → State → Prop} {XC : String → State → State → Prop} {free : Addr → Prop} {Ts : List Cond} {own C : String} {b : Addr} {As rest : List Value} {g : JFrame}
theorem vx_callBack (cb : CallB R s args own index y bytes maxL ret ws rm mc ms n) (hM : vx_Met l y ws rm Pc Qc XC mc ms free) (hbl : FrameBlind Pc) : vx_Back l R p e below s args y 3 8 (PreOf R mc ms Pc) (PostOf Qc mc ms free) (vx_Post XC mc ms free) := by
  obtain ⟨hrc, hrs, hfr, hlo, hws, hcw, -, hini, -⟩ := cb
  exact vx_back (bytes := bytes) (maxL := maxL) (ret := ret) hM hbl hrc hrs hfr hlo hws hcw (fun a' U hW => word_at hW (Or.inl (by first | rfl | simp [Cond.onTables, Cond.keeps, Cond.steady])) hini)
theorem vx_runV (S : CallFix p m c cc nL s args Ts own) (hM : vx_Met l y ws rm Pc Qc XC mc ms free) (cw : CallW R s args own C index y bytes maxL ret ws rm mc ms n) (hp : PreV s H C b Pc As)
    (hg : g.method = m) (hn : As.length = n) (hsize : g.locals.size = nL) (hstack : g.stack = As.reverse ++ .ref b :: rest) (hW : 2 * g.monitorRoom + (rest.map fun v => v.category).sum ≤ 8) (hdg : decode cc g.pc = .ok (.invokevirtual index, 3)) (hf : cells + mc ≤ R.cells ∧ slots + ms ≤ R.slots) :
    vx_Run p l e R s m args below meth c H locs cells slots mc ms g rest (Qc (Value.ref b :: As).toArray) XC free := by
  have hK : vx_Back l R p e below s args y 3 8 (PreOf R mc ms Pc) (PostOf Qc mc ms free) (vx_Post XC mc ms free) := vx_callBack cw.1 hM hp.1
  obtain ⟨⟨-, -, -, -, -, -, hcode, -, hy, hlen, hl⟩, hin, hse⟩ := cw
  obtain ⟨hx, hb, hml, ho, -⟩ := S
  obtain ⟨-, ⟨cellB, hcB, hoB, hclB⟩, hPc⟩ := hp
  intro T hT X
  rcases vx_callV X hx (C := C) (bytes := bytes) (maxL := maxL) (ret := ret) ho hl hin hse hcode hy hK (by rw [hT]; exact hcB) hoB hclB hg (hsize.trans hml.symm) (argsL := As) (rest := rest) (fun sig h => hn.trans (hlen sig h)) hstack hW (by rw [hb]; exact hdg)
    (fun vm₁ hW₁ => ⟨hf.1, hf.2, hPc (T.setVm vm₁) hT hW₁⟩) with ⟨v, vm₁, ⟨U', l2, c2, s2⟩, hW₁, X', ⟨g', mk, t, L, e1, e2, hq, h1, hL, h2, h3⟩, st⟩ | ⟨q, vm₁, ⟨U', l2, c2, s2⟩, hW₁, X', ⟨g', mk, t, L, E, ce, e1, e2, hq, hce, hcv, hcl, h1, hL, h2, h3⟩, st⟩
  · dsimp only [Pt.U, Pt.locs, Pt.cells, Pt.slots] at X' e1 e2 h1 h2 h3 st
    subst h1; subst h2; subst h3
    exact Or.inl ⟨v, (T.setVm vm₁).calling g' mk (Value.ref b :: As).toArray, t, U', L, hT, X', hL, e1, e2, hq, st⟩
  · dsimp only [Pt.U, Pt.locs, Pt.cells, Pt.slots] at X' e1 e2 h1 h2 h3 st hcl
    subst h1; subst h2; subst h3
    exact Or.inr ⟨q, (T.setVm vm₁).calling g' mk (Value.ref b :: As).toArray, t, U', L, E, ce, hT, X', hL, e1, e2, hq, hce, hcv, vx_cls hW₁ hcl, st⟩
theorem vx_runS (S : CallFix p m c cc nL s args Ts own) (hM : vx_Met l y ws rm Pc Qc XC mc ms free) (cw : CallB R s args own index y bytes maxL ret ws rm mc ms n ∧ (Cond.static y).before args s = true) (hp : PreS s H Pc As)
    (hg : g.method = m) (hn : As.length = n) (hsize : g.locals.size = nL) (hstack : g.stack = As.reverse ++ rest) (hW : 2 * g.monitorRoom + (rest.map fun v => v.category).sum ≤ 8) (hdg : decode cc g.pc = .ok (.invokestatic index, 3)) (hf : cells + mc ≤ R.cells ∧ slots + ms ≤ R.slots) :
    vx_Run p l e R s m args below meth c H locs cells slots mc ms g rest (Qc As.toArray) XC free := by
  have hK : vx_Back l R p e below s args y 3 8 (PreOf R mc ms Pc) (PostOf Qc mc ms free) (vx_Post XC mc ms free) := vx_callBack cw.1 hM hp.1
  obtain ⟨⟨-, -, -, -, -, -, hcode, hini, hy, hlen, hl⟩, hstt⟩ := cw
  obtain ⟨hx, hb, hml, ho, -⟩ := S
  intro T hT X
  rcases vx_callS X hx (bytes := bytes) (maxL := maxL) (ret := ret) ho hl hstt hini hcode hy hK hg (hsize.trans hml.symm) (argsL := As) (rest := rest) (fun sig h => hn.trans (hlen sig h)) hstack hW (by rw [hb]; exact hdg)
    (fun vm₁ hW₁ => ⟨hf.1, hf.2, hp.2 (T.setVm vm₁) hT hW₁⟩) with ⟨v, vm₁, ⟨U', l2, c2, s2⟩, hW₁, X', ⟨g', mk, t, L, e1, e2, hq, h1, hL, h2, h3⟩, st⟩ | ⟨q, vm₁, ⟨U', l2, c2, s2⟩, hW₁, X', ⟨g', mk, t, L, E, ce, e1, e2, hq, hce, hcv, hcl, h1, hL, h2, h3⟩, st⟩
  · dsimp only [Pt.U, Pt.locs, Pt.cells, Pt.slots] at X' e1 e2 h1 h2 h3 st
    subst h1; subst h2; subst h3
    exact Or.inl ⟨v, (T.setVm vm₁).calling g' mk As.toArray, t, U', L, hT, X', hL, e1, e2, hq, st⟩
  · dsimp only [Pt.U, Pt.locs, Pt.cells, Pt.slots] at X' e1 e2 h1 h2 h3 st hcl
    subst h1; subst h2; subst h3
    exact Or.inr ⟨q, (T.setVm vm₁).calling g' mk As.toArray, t, U', L, E, ce, hT, X', hL, e1, e2, hq, hce, hcv, vx_cls hW₁ hcl, st⟩
end Runs
section Rows
variable {p : Program} {l : Launch} {e : Env} {R : Room} {s : State} {m : MethodId} {args : Array Value} {below : List Frame} {meth : Method} {c : Code} {H : Heap} {locs : List Loc} {cells slots : Nat} {Q : State → Prop}
variable {mc ms : Nat} {free : Addr → Prop} {A0 A1 : Nat → Prop} {H0 : Heap} {a : Array Value} {pc : Nat} {ls : Array Slot} {st0 rest : List Value}
theorem vx_keep {st₀ t T' : State} {L : List Loc} (h0 : st₀.heap = H) (e1 : T'.heap = t.heap) (hS : va_S A0 H0 H locs) (hA : ∀ q, q < H.size → A1 q → A0 q) (hf : ∀ q, free q → A0 q) (hL : ∀ q ∈ L, free q.base) (hF : va_F A1 st₀ t) :
    H.size ≤ T'.heap.size ∧ (∀ q : Nat, q < H.size → ¬ A1 q → T'.heap[q]? = H[q]?) ∧ va_S A0 H0 T'.heap (locs ++ L) := by
  obtain ⟨hz, hk⟩ := hF
  rw [h0] at hz hk
  exact ⟨by rw [e1]; exact hz, fun q h1 h2 => by rw [e1]; exact hk q h1 h2,
    ⟨Nat.le_trans hS.1 (by rw [e1]; exact hz), fun q h1 h2 => by rw [e1, hk q (Nat.lt_of_lt_of_le h1 hS.1) (fun z => h2 (hA q (Nat.lt_of_lt_of_le h1 hS.1) z))]; exact hS.2.1 q h1 h2, fun q hq => by
      rcases List.mem_append.mp hq with h | h
      · exact hS.2.2 q h
      · exact hf _ (hL q h)⟩⟩
theorem vx_calli {S SX : Type} {post : Int32 → S → Prop} {px : SX → Prop} {B : S → State → Prop} {BX : String → SX → State → Prop} {AX : Nat → Prop} (hr : vx_Run p l e R s m args below meth c H locs cells slots mc ms (F0 m pc ls st0) rest (va_Qi post B A1 a) (vx_X px BX AX) free) (hS : va_S A0 H0 H locs) (hA : ∀ q, q < H.size → A1 q → A0 q) (hf : ∀ q, free q → A0 q) (hAX : ∀ q, q < H.size → AX q → A0 q)
    (kx : ∀ (E : String) (ce : Cell) (q9 : Addr) (u : SX) (t : State) (H1 : Heap) (locs1 : List Loc), t.heap = H1 → s.vm.Alike t.vm → px u → BX E u t → H.size ≤ H1.size → (∀ q : Nat, q < H.size → ¬ AX q → H1[q]? = H[q]?) → va_S A0 H0 H1 locs1 → H1[q9]? = some ce → ce.vm = .none → s.vm.findClass E = some ce.cls → vx_W p l e R s m args below meth c H1 locs1 (cells + mc) (slots + ms) Q (F0 m pc ls rest) q9)
    (kk : ∀ (r : Int32) (u : S) (t : State) (H1 : Heap) (locs1 : List Loc), t.heap = H1 → s.vm.Alike t.vm → post r u → B u t → H.size ≤ H1.size → (∀ q : Nat, q < H.size → ¬ A1 q → H1[q]? = H[q]?) → va_S A0 H0 H1 locs1 → W p l e R s m args below meth c H1 locs1 (cells + mc) (slots + ms) Q (F0 m (pc + 3) ls (.int r :: rest))) : W p l e R s m args below meth c H locs cells slots Q (F0 m pc ls st0) := by
  intro T hT X
  rcases hr T hT X with ⟨v, st₀, t, T', L, h0, X', hL, e1, e2, ⟨⟨r, u, hv, hp, hb⟩, hF⟩, st⟩ | ⟨q, st₀, t, T', L, E, ce, h0, X', hL, e1, e2, ⟨u, hp, hb, hF⟩, hce, hcv, hcl, st⟩
  · cases hv
    obtain ⟨k1, k2, k3⟩ := vx_keep h0 e1 hS hA hf hL hF
    obtain ⟨t2, a1, b1⟩ := kk r u t T'.heap (locs ++ L) e1.symm (by rw [← e2]; exact X'.warmed.alike) hp hb k1 k2 k3 T' rfl X'
    exact ⟨t2, st t2 a1, b1⟩
  · obtain ⟨k1, k2, k3⟩ := vx_keep h0 e1 hS hAX hf hL hF
    obtain ⟨t2, a1, b1⟩ := kx E ce q u t T'.heap (locs ++ L) e1.symm (by rw [← e2]; exact X'.warmed.alike) hp hb k1 k2 k3 (by rw [e1]; exact hce) hcv hcl T' rfl X'
    exact ⟨t2, st.trans a1, b1⟩
theorem vx_calll {S SX : Type} {post : Int64 → S → Prop} {px : SX → Prop} {B : S → State → Prop} {BX : String → SX → State → Prop} {AX : Nat → Prop} (hr : vx_Run p l e R s m args below meth c H locs cells slots mc ms (F0 m pc ls st0) rest (va_Ql post B A1 a) (vx_X px BX AX) free) (hS : va_S A0 H0 H locs) (hA : ∀ q, q < H.size → A1 q → A0 q) (hf : ∀ q, free q → A0 q) (hAX : ∀ q, q < H.size → AX q → A0 q)
    (kx : ∀ (E : String) (ce : Cell) (q9 : Addr) (u : SX) (t : State) (H1 : Heap) (locs1 : List Loc), t.heap = H1 → s.vm.Alike t.vm → px u → BX E u t → H.size ≤ H1.size → (∀ q : Nat, q < H.size → ¬ AX q → H1[q]? = H[q]?) → va_S A0 H0 H1 locs1 → H1[q9]? = some ce → ce.vm = .none → s.vm.findClass E = some ce.cls → vx_W p l e R s m args below meth c H1 locs1 (cells + mc) (slots + ms) Q (F0 m pc ls rest) q9)
    (kk : ∀ (r : Int64) (u : S) (t : State) (H1 : Heap) (locs1 : List Loc), t.heap = H1 → s.vm.Alike t.vm → post r u → B u t → H.size ≤ H1.size → (∀ q : Nat, q < H.size → ¬ A1 q → H1[q]? = H[q]?) → va_S A0 H0 H1 locs1 → W p l e R s m args below meth c H1 locs1 (cells + mc) (slots + ms) Q (F0 m (pc + 3) ls (.long r :: rest))) : W p l e R s m args below meth c H locs cells slots Q (F0 m pc ls st0) := by
  intro T hT X
  rcases hr T hT X with ⟨v, st₀, t, T', L, h0, X', hL, e1, e2, ⟨⟨r, u, hv, hp, hb⟩, hF⟩, st⟩ | ⟨q, st₀, t, T', L, E, ce, h0, X', hL, e1, e2, ⟨u, hp, hb, hF⟩, hce, hcv, hcl, st⟩
  · cases hv
    obtain ⟨k1, k2, k3⟩ := vx_keep h0 e1 hS hA hf hL hF
    obtain ⟨t2, a1, b1⟩ := kk r u t T'.heap (locs ++ L) e1.symm (by rw [← e2]; exact X'.warmed.alike) hp hb k1 k2 k3 T' rfl X'
    exact ⟨t2, st t2 a1, b1⟩
  · obtain ⟨k1, k2, k3⟩ := vx_keep h0 e1 hS hAX hf hL hF
    obtain ⟨t2, a1, b1⟩ := kx E ce q u t T'.heap (locs ++ L) e1.symm (by rw [← e2]; exact X'.warmed.alike) hp hb k1 k2 k3 (by rw [e1]; exact hce) hcv hcl T' rfl X'
    exact ⟨t2, st.trans a1, b1⟩
theorem vx_callf {S SX : Type} {post : UInt32 → S → Prop} {px : SX → Prop} {B : S → State → Prop} {BX : String → SX → State → Prop} {AX : Nat → Prop} (hr : vx_Run p l e R s m args below meth c H locs cells slots mc ms (F0 m pc ls st0) rest (va_Qf post B A1 a) (vx_X px BX AX) free) (hS : va_S A0 H0 H locs) (hA : ∀ q, q < H.size → A1 q → A0 q) (hf : ∀ q, free q → A0 q) (hAX : ∀ q, q < H.size → AX q → A0 q)
    (kx : ∀ (E : String) (ce : Cell) (q9 : Addr) (u : SX) (t : State) (H1 : Heap) (locs1 : List Loc), t.heap = H1 → s.vm.Alike t.vm → px u → BX E u t → H.size ≤ H1.size → (∀ q : Nat, q < H.size → ¬ AX q → H1[q]? = H[q]?) → va_S A0 H0 H1 locs1 → H1[q9]? = some ce → ce.vm = .none → s.vm.findClass E = some ce.cls → vx_W p l e R s m args below meth c H1 locs1 (cells + mc) (slots + ms) Q (F0 m pc ls rest) q9)
    (kk : ∀ (r : UInt32) (u : S) (t : State) (H1 : Heap) (locs1 : List Loc), t.heap = H1 → s.vm.Alike t.vm → post r u → B u t → H.size ≤ H1.size → (∀ q : Nat, q < H.size → ¬ A1 q → H1[q]? = H[q]?) → va_S A0 H0 H1 locs1 → W p l e R s m args below meth c H1 locs1 (cells + mc) (slots + ms) Q (F0 m (pc + 3) ls (.float r :: rest))) : W p l e R s m args below meth c H locs cells slots Q (F0 m pc ls st0) := by
  intro T hT X
  rcases hr T hT X with ⟨v, st₀, t, T', L, h0, X', hL, e1, e2, ⟨⟨r, u, hv, hp, hb⟩, hF⟩, st⟩ | ⟨q, st₀, t, T', L, E, ce, h0, X', hL, e1, e2, ⟨u, hp, hb, hF⟩, hce, hcv, hcl, st⟩
  · cases hv
    obtain ⟨k1, k2, k3⟩ := vx_keep h0 e1 hS hA hf hL hF
    obtain ⟨t2, a1, b1⟩ := kk r u t T'.heap (locs ++ L) e1.symm (by rw [← e2]; exact X'.warmed.alike) hp hb k1 k2 k3 T' rfl X'
    exact ⟨t2, st t2 a1, b1⟩
  · obtain ⟨k1, k2, k3⟩ := vx_keep h0 e1 hS hAX hf hL hF
    obtain ⟨t2, a1, b1⟩ := kx E ce q u t T'.heap (locs ++ L) e1.symm (by rw [← e2]; exact X'.warmed.alike) hp hb k1 k2 k3 (by rw [e1]; exact hce) hcv hcl T' rfl X'
    exact ⟨t2, st.trans a1, b1⟩
theorem vx_calld {S SX : Type} {post : UInt64 → S → Prop} {px : SX → Prop} {B : S → State → Prop} {BX : String → SX → State → Prop} {AX : Nat → Prop} (hr : vx_Run p l e R s m args below meth c H locs cells slots mc ms (F0 m pc ls st0) rest (va_Qd post B A1 a) (vx_X px BX AX) free) (hS : va_S A0 H0 H locs) (hA : ∀ q, q < H.size → A1 q → A0 q) (hf : ∀ q, free q → A0 q) (hAX : ∀ q, q < H.size → AX q → A0 q)
    (kx : ∀ (E : String) (ce : Cell) (q9 : Addr) (u : SX) (t : State) (H1 : Heap) (locs1 : List Loc), t.heap = H1 → s.vm.Alike t.vm → px u → BX E u t → H.size ≤ H1.size → (∀ q : Nat, q < H.size → ¬ AX q → H1[q]? = H[q]?) → va_S A0 H0 H1 locs1 → H1[q9]? = some ce → ce.vm = .none → s.vm.findClass E = some ce.cls → vx_W p l e R s m args below meth c H1 locs1 (cells + mc) (slots + ms) Q (F0 m pc ls rest) q9)
    (kk : ∀ (r : UInt64) (u : S) (t : State) (H1 : Heap) (locs1 : List Loc), t.heap = H1 → s.vm.Alike t.vm → post r u → B u t → H.size ≤ H1.size → (∀ q : Nat, q < H.size → ¬ A1 q → H1[q]? = H[q]?) → va_S A0 H0 H1 locs1 → W p l e R s m args below meth c H1 locs1 (cells + mc) (slots + ms) Q (F0 m (pc + 3) ls (.double r :: rest))) : W p l e R s m args below meth c H locs cells slots Q (F0 m pc ls st0) := by
  intro T hT X
  rcases hr T hT X with ⟨v, st₀, t, T', L, h0, X', hL, e1, e2, ⟨⟨r, u, hv, hp, hb⟩, hF⟩, st⟩ | ⟨q, st₀, t, T', L, E, ce, h0, X', hL, e1, e2, ⟨u, hp, hb, hF⟩, hce, hcv, hcl, st⟩
  · cases hv
    obtain ⟨k1, k2, k3⟩ := vx_keep h0 e1 hS hA hf hL hF
    obtain ⟨t2, a1, b1⟩ := kk r u t T'.heap (locs ++ L) e1.symm (by rw [← e2]; exact X'.warmed.alike) hp hb k1 k2 k3 T' rfl X'
    exact ⟨t2, st t2 a1, b1⟩
  · obtain ⟨k1, k2, k3⟩ := vx_keep h0 e1 hS hAX hf hL hF
    obtain ⟨t2, a1, b1⟩ := kx E ce q u t T'.heap (locs ++ L) e1.symm (by rw [← e2]; exact X'.warmed.alike) hp hb k1 k2 k3 (by rw [e1]; exact hce) hcv hcl T' rfl X'
    exact ⟨t2, st.trans a1, b1⟩
theorem vx_callv {S SX : Type} {post : S → Prop} {px : SX → Prop} {B : S → State → Prop} {BX : String → SX → State → Prop} {AX : Nat → Prop} (hr : vx_Run p l e R s m args below meth c H locs cells slots mc ms (F0 m pc ls st0) rest (va_Qv post B A1 a) (vx_X px BX AX) free) (hS : va_S A0 H0 H locs) (hA : ∀ q, q < H.size → A1 q → A0 q) (hf : ∀ q, free q → A0 q) (hAX : ∀ q, q < H.size → AX q → A0 q)
    (kx : ∀ (E : String) (ce : Cell) (q9 : Addr) (u : SX) (t : State) (H1 : Heap) (locs1 : List Loc), t.heap = H1 → s.vm.Alike t.vm → px u → BX E u t → H.size ≤ H1.size → (∀ q : Nat, q < H.size → ¬ AX q → H1[q]? = H[q]?) → va_S A0 H0 H1 locs1 → H1[q9]? = some ce → ce.vm = .none → s.vm.findClass E = some ce.cls → vx_W p l e R s m args below meth c H1 locs1 (cells + mc) (slots + ms) Q (F0 m pc ls rest) q9)
    (kk : ∀ (u : S) (t : State) (H1 : Heap) (locs1 : List Loc), t.heap = H1 → s.vm.Alike t.vm → post u → B u t → H.size ≤ H1.size → (∀ q : Nat, q < H.size → ¬ A1 q → H1[q]? = H[q]?) → va_S A0 H0 H1 locs1 → W p l e R s m args below meth c H1 locs1 (cells + mc) (slots + ms) Q (F0 m (pc + 3) ls (rest))) : W p l e R s m args below meth c H locs cells slots Q (F0 m pc ls st0) := by
  intro T hT X
  rcases hr T hT X with ⟨v, st₀, t, T', L, h0, X', hL, e1, e2, ⟨⟨u, hv, hp, hb⟩, hF⟩, st⟩ | ⟨q, st₀, t, T', L, E, ce, h0, X', hL, e1, e2, ⟨u, hp, hb, hF⟩, hce, hcv, hcl, st⟩
  · cases hv
    obtain ⟨k1, k2, k3⟩ := vx_keep h0 e1 hS hA hf hL hF
    obtain ⟨t2, a1, b1⟩ := kk u t T'.heap (locs ++ L) e1.symm (by rw [← e2]; exact X'.warmed.alike) hp hb k1 k2 k3 T' rfl X'
    exact ⟨t2, st t2 a1, b1⟩
  · obtain ⟨k1, k2, k3⟩ := vx_keep h0 e1 hS hAX hf hL hF
    obtain ⟨t2, a1, b1⟩ := kx E ce q u t T'.heap (locs ++ L) e1.symm (by rw [← e2]; exact X'.warmed.alike) hp hb k1 k2 k3 (by rw [e1]; exact hce) hcv hcl T' rfl X'
    exact ⟨t2, st.trans a1, b1⟩
/-- caught by the row x of this method's table; the rows ahead don't take it -/
theorem vx_catch {own name : String} {E : String} {ce : Cell} {q : Addr} (hown : s.vm.findClass own = some m.cls) (pre : List ExceptionTableEntry) (x : ExceptionTableEntry) (suf : List ExceptionTableEntry) (hsplit : c.exceptionTable.toList = pre ++ x :: suf)
    (hpass : ∀ z ∈ pre, covers z pc = false ∨ (z.catchType ≠ 0 ∧ ∃ nm : String, (Cond.classLink own z.catchType nm).before args s = true ∧ va_Nc E nm s)) (hx : covers x pc = true) (h0 : x.catchType ≠ 0)
    (hlink : (Cond.classLink own x.catchType name).before args s = true) (hcast : (Cond.castable E name).before args s = true) (hcell : H[q]? = some ce) (hv : ce.vm = .none) (hcl : s.vm.findClass E = some ce.cls)
    (kk : W p l e R s m args below meth c H locs cells slots Q (F0 m x.handlerPc ls [.ref q])) : vx_W p l e R s m args below meth c H locs cells slots Q (F0 m pc ls rest) q := by
  sorry
end Rows
section Ends
variable {p : Program} {l : Launch} {e : Env} {R : Room} {s : State} {m : MethodId} {args : Array Value} {below : List Frame} {meth : Method} {c : Code} {H : Heap} {locs : List Loc} {cells slots : Nat} {Q : State → Prop}
variable {mc ms : Nat} {free : Addr → Prop} {A0 A1 : Nat → Prop} {H0 : Heap} {a : Array Value} {ls : Array Slot} {st0 rest : List Value}
variable {Qc : Array Value → State → Outcome → State → Prop} {XC : String → State → State → Prop}
/-- what a body that may throw owes at its end -/
def vx_MQ (below : List Frame) (Qc : Array Value → State → Outcome → State → Prop) (XC : String → State → State → Prop) (a : Array Value) (s : State) (mc ms : Nat) (free : Addr → Prop) : State → Prop := fun t =>
  ∃ o, t.status = .running ∧ Ended t below o ∧ vx_Q Qc XC mc ms free a s o t
theorem vx_ret {g : JFrame} {mc ms : Nat} (k : W p l e R s m args below meth c H locs cells slots (MQ below Qc args s mc ms free) g) : W p l e R s m args below meth c H locs cells slots (vx_MQ below Qc XC args s mc ms free) g := by
  intro T hT X
  obtain ⟨t, a1, o, b1, b2, b3, b4⟩ := k T hT X
  exact ⟨t, a1, o, b1, b2, Or.inl ⟨b3, b4⟩⟩
/-- not caught here: it goes on to the caller -/
theorem vx_widen {g : JFrame} {q : Addr} {k n : Nat} (h1 : cells ≤ k) (h2 : slots ≤ n) (kk : vx_W p l e R s m args below meth c H locs k n Q g q) : vx_W p l e R s m args below meth c H locs cells slots Q g q := fun T hT X => kk T hT (stand_widen X h1 h2)
theorem vx_out {pc : Nat} {E : String} {ce : Cell} {q : Addr} {mc ms : Nat} (hout : ∀ x ∈ c.exceptionTable.toList, covers x pc = false) (hlocks : meth.locks = false) (hcell : H[q]? = some ce) (hv : ce.vm = .none) (hcl : s.vm.findClass E = some ce.cls)
    (hx : ∀ t : State, t.heap = H → s.vm.Alike t.vm → XC E s t) (hf : ∀ z ∈ locs, free z.base) (hc : cells ≤ mc) (hs : slots ≤ ms) :
    vx_W p l e R s m args below meth c H locs cells slots (vx_MQ below Qc XC args s mc ms free) (F0 m pc ls rest) q := by
  intro T hT X
  obtain ⟨st1, hrun, hend, hW, hsm⟩ := X.leaveThrown q (g := F0 m pc ls rest) rfl rfl rfl hout hlocks
  have hcell9 : (T.setFrames (.throwing q :: below)).heap[q]? = some ce := by
    show T.heap[q]? = some ce
    rw [hT]; exact hcell
  exact ⟨_, st1, .threw q, hrun, hend, Or.inr ⟨q, rfl, E, ce, locs, hx _ hT hW.alike, hcell9, hv, hcl, hW, hsm.mono hc hs, hf⟩⟩
theorem vx_frame {U : State} {k n : Nat} (h : s.sameButNew ({ U with vm := s.vm } : State) locs k n) : s.heap.size ≤ U.heap.size ∧ ∀ q : Nat, q < s.heap.size → (∀ z ∈ locs, z.base ≠ q) → U.heap[q]? = s.heap[q]? := by
  obtain ⟨-, h2, -, -, -, h6⟩ := h
  refine ⟨h2, fun q hq hz => ?_⟩
  obtain ⟨c9, e1, e2, e3, e4⟩ := h6 q _ (Array.getElem?_eq_getElem hq)
  have hs : c9.slots = (s.heap[q]).slots := Array.ext_getElem? fun i => e4 i fun hm => hz _ hm rfl
  have h9 : c9 = s.heap[q] := by
    rw [hs] at e2
    exact e2
  have e5 : U.heap[q]? = some c9 := e1
  rw [e5, h9, Array.getElem?_eq_getElem hq]
/-- the words of a throw but the four that speak of the heap -/
def vx_no (w : Cond) : Bool := decide (w ≠ .isRef (.static Bundle.tN "UNASSIGNED_STACK" Bundle.steD)) && decide (w ≠ .isRef (.static Bundle.tN "SUPPRESSED_SENTINEL" Bundle.listD)) && decide (w ≠ .laysStatic Bundle.tN "UNASSIGNED_STACK" Bundle.steD) && decide (w ≠ .laysStatic Bundle.tN "SUPPRESSED_SENTINEL" Bundle.listD)
def vx_at0 (own : String) (ic : Nat) (X : String) (names : List String) : List Cond := (Bundle.ownAtoms0 own ic X names).filter vx_no
def vx_atS (own : String) (ic : Nat) (X : String) (names : List String) : List Cond := (Bundle.ownAtoms own ic X names).filter vx_no
/-- a word that the tables alone decide, or a good one -/
def vx_ot (w : Cond) : Bool := w.onTables || goodWord w
theorem vx_ot_at {args a' : Array Value} {s U : State} {w : Cond} (hW : s.WarmedH U.vm) (hvm : s.vm = U.vm) (hg : vx_ot w = true) (h : w.before args s = true) : w.before a' U = true := by
  simp only [vx_ot, Bool.or_eq_true] at hg
  rcases hg with hg | hg
  · exact va_tabs hg hvm h
  · exact word_at hW (good_of_word hg) h
/-- a list's words: the good ones out of the method's own list, the others by premises of their own -/
theorem vx_hat {args : Array Value} {s : State} {L B : List Cond} (h1 : ∀ w ∈ L.filter goodWord, w.before args s = true) (h2 : ∀ w ∈ L.filter (fun w => !goodWord w), w ∈ B) (h3 : ∀ w ∈ B, w.before args s = true) : ∀ w ∈ L, w.before args s = true := by
  intro w hw
  by_cases g : goodWord w = true
  · exact h1 w (List.mem_filter.mpr ⟨hw, g⟩)
  · refine h3 w (h2 w (List.mem_filter.mpr ⟨hw, ?_⟩))
    show (!goodWord w) = true
    cases hgw : goodWord w
    · rfl
    · exact absurd hgw g
theorem vx_c {args : Array Value} {s : State} {w : Cond} {B : List Cond} (h : w.before args s = true) (t : ∀ w ∈ B, w.before args s = true) : ∀ w' ∈ w :: B, w'.before args s = true := fun w' h' => (List.mem_cons.mp h').elim (fun e => by rw [e]; exact h) (t w')
theorem vx_n {args : Array Value} {s : State} : ∀ w ∈ ([] : List Cond), w.before args s = true := fun _ h => nomatch h
theorem vx_own {args : Array Value} {s : State} {L : List Cond} (h1 : ∀ w ∈ L.filter vx_no, w.before args s = true)
    (hU : (Cond.isRef (.static Bundle.tN "UNASSIGNED_STACK" Bundle.steD)).before args s = true) (hN : (Cond.isRef (.static Bundle.tN "SUPPRESSED_SENTINEL" Bundle.listD)).before args s = true)
    (lU : (Cond.laysStatic Bundle.tN "UNASSIGNED_STACK" Bundle.steD).before args s = true) (lN : (Cond.laysStatic Bundle.tN "SUPPRESSED_SENTINEL" Bundle.listD).before args s = true) : ∀ w ∈ L, w.before args s = true := by
  intro w hw
  by_cases e1 : w = .isRef (.static Bundle.tN "UNASSIGNED_STACK" Bundle.steD)
  · rw [e1]; exact hU
  · by_cases e2 : w = .isRef (.static Bundle.tN "SUPPRESSED_SENTINEL" Bundle.listD)
    · rw [e2]; exact hN
    · by_cases e3 : w = .laysStatic Bundle.tN "UNASSIGNED_STACK" Bundle.steD
      · rw [e3]; exact lU
      · by_cases e4 : w = .laysStatic Bundle.tN "SUPPRESSED_SENTINEL" Bundle.listD
        · rw [e4]; exact lN
        · exact h1 w (List.mem_filter.mpr ⟨hw, by unfold vx_no; rw [decide_eq_true e1, decide_eq_true e2, decide_eq_true e3, decide_eq_true e4]; rfl⟩)
/-- where a static field lies, its class's statics cell in H -/
def vx_L (C n d : String) (A : Nat → Prop) (U : State) (H : Heap) : Prop := ∃ (c : ClassId) (k : Class) (i : Nat) (f : Field) (a : Nat) (cell : Cell), U.vm.findClass C = some c ∧ U.fieldFound? C n d = some (c, k, i, f) ∧ f.isStatic = true ∧ k.statics = some a ∧ H[a]? = some cell ∧ cell.vm.isStatics = true ∧ cell.cls = c ∧ f.slot < cell.slots.size ∧ k.staticTypes[f.slot]? = some f.type ∧ ¬ A a
theorem vx_L.moved {C n d : String} {A : Nat → Prop} {u U : State} {H : Heap} (hvm : u.vm.Alike U.vm) (h : vx_L C n d A u H) : vx_L C n d A U H := by
  obtain ⟨c, k, i, f, a, cell, h1, h2, h3, h4, h5, h6, h7, h8, h9, h10⟩ := h
  obtain ⟨k', hi', he⟩ := State.fieldFound?_setVm hvm h2
  exact ⟨c, k', i, f, a, cell, by rw [hvm.findClass]; exact h1, hi', h3, by rw [he]; exact h4, h5, h6, h7, h8, by rw [he]; exact h9, h10⟩
theorem vx_L.kept {C n d : String} {A : Nat → Prop} {U : State} {H H1 : Heap} (h : vx_L C n d A U H) (hq : ∀ a : Nat, a < H.size → ¬ A a → H1[a]? = H[a]?) : vx_L C n d A U H1 := by
  obtain ⟨c, k, i, f, a, cell, h1, h2, h3, h4, h5, h6, h7, h8, h9, h10⟩ := h
  exact ⟨c, k, i, f, a, cell, h1, h2, h3, h4, by rw [hq a (Array.getElem?_eq_some_iff.mp h5).1 h10]; exact h5, h6, h7, h8, h9, h10⟩
theorem vx_L.narrow {C n d : String} {A B : Nat → Prop} {U : State} {H : Heap} (h : vx_L C n d A U H) (hAB : ∀ q, B q → A q) : vx_L C n d B U H := by
  obtain ⟨c, k, i, f, a, cell, h1, h2, h3, h4, h5, h6, h7, h8, h9, h10⟩ := h
  exact ⟨c, k, i, f, a, cell, h1, h2, h3, h4, h5, h6, h7, h8, h9, fun z => h10 (hAB _ z)⟩
theorem vx_L.word {C n d : String} {A : Nat → Prop} {s : State} {args : Array Value} (h : vx_L C n d A s s.heap) : (Cond.laysStatic C n d).before args s = true := by
  obtain ⟨c, k, i, f, a, cell, h1, h2, h3, h4, h5, h6, h7, h8, h9, -⟩ := h
  show (Cond.laysStatic C n d).holds args s none s [] = true
  exact Cond.laysStatic_of h1 h2 h3 h4 h5 h6 h7 h8 h9
/-- .. and what it holds: null or some reference -/
def vx_Zq (C n d : String) (A : Nat → Prop) (U : State) (H : Heap) : Prop := va_Zq C n d A U H ∧ vx_L C n d A U H
theorem vx_Zq.moved {C n d : String} {A : Nat → Prop} {u U : State} {H : Heap} (hvm : u.vm.Alike U.vm) (h : vx_Zq C n d A u H) : vx_Zq C n d A U H := ⟨va_Zq.moved hvm h.1, vx_L.moved hvm h.2⟩
theorem vx_Zq.kept {C n d : String} {A : Nat → Prop} {U : State} {H H1 : Heap} (h : vx_Zq C n d A U H) (hq : ∀ a : Nat, a < H.size → ¬ A a → H1[a]? = H[a]?) : vx_Zq C n d A U H1 := ⟨va_Zq.kept h.1 hq, vx_L.kept h.2 hq⟩
theorem vx_Zq.narrow {C n d : String} {A B : Nat → Prop} {U : State} {H : Heap} (h : vx_Zq C n d A U H) (hAB : ∀ q, B q → A q) : vx_Zq C n d B U H := ⟨va_Zq.narrow h.1 hAB, vx_L.narrow h.2 hAB⟩
theorem vx_Zqof {args : Array Value} {s : State} {C n d : String} {A : Nat → Prop} (hl : (Cond.laysStatic C n d).before args s = true) (hini : (Cond.initialized C).before args s = true) (h : (Cond.isRef (.static C n d)).before args s = true) (hA : ∀ a : Nat, a < s.heap.size → ¬ A a) : vx_Zq C n d A s s.heap := by
  refine ⟨va_Zqof hl hini h hA, ?_⟩
  obtain ⟨c, k, i, f, a, cell, h1, h2, h3, h4, h5, h6, h7, h8, h9⟩ := Cond.laysStatic_spec hl
  exact ⟨c, k, i, f, a, cell, h1, h2, h3, h4, h5, h6, h7, h8, h9, hA a (Array.getElem?_eq_some_iff.mp h5).1⟩
theorem vx_isRef {C n d : String} {v : Value} {A : Nat → Prop} {s : State} {args : Array Value} (h : va_Z C n d v A s s.heap) (hv : v.isRef = true) : (Cond.isRef (.static C n d)).before args s = true := by
  obtain ⟨cf, kf, fi, f, a, cell, h1, h2, h3, h4, h5, h6, h7, -⟩ := h
  have he : (Term.static C n d).eval args s none [] s = some v := by
    simp [Term.eval, State.fieldNamed?, h1, h2, h4, h5, h6, h7]
  simp only [Cond.before, Cond.holds, Cond.value, he]
  cases v <;> simp_all [Value.isRef]
theorem vx_isRefq {C n d : String} {A : Nat → Prop} {s : State} {args : Array Value} (h : va_Zq C n d A s s.heap) : (Cond.isRef (.static C n d)).before args s = true := by
  rcases h with h | ⟨t, h⟩
  · exact vx_isRef h rfl
  · exact vx_isRef h rfl
/-- the same frame, seen from here: as if the method were called anew in this heap -/
theorem vx_rebase {T : State} (X : Stand p l e R s m args below meth c T locs cells slots) {R' : Room} (hf : R'.frames ≤ R.frames) (hl : R'.locals ≤ R.locals) (hc : cells + R'.cells ≤ R.cells) (hs : slots + R'.slots ≤ R.slots) :
    Stand p l e R' ((T.setVm s.vm).setFrames (.invoking m args :: below)) m args below meth c T [] 0 0 := by
  have htop : (T.setVm s.vm).topJava?.isSome := X.here.top
  have hF : ((T.setVm s.vm).setFrames (.invoking m args :: below)).frames = .invoking m args :: below := State.frames_setFrames _ (State.cur_lt_of_top htop)
  obtain ⟨g₀, hg0⟩ := Option.isSome_iff_exists.mp htop
  obtain ⟨r, hr⟩ := State.topJava?_eq_some.mp hg0
  have hl9 : e.platform.stackLimits (T.setVm s.vm).me = e.platform.stackLimits s.me := X.limits
  have hb9 : (T.setVm s.vm).me.stackBytes = s.me.stackBytes := X.bytes
  refine ⟨X.admits, X.cas, X.clock, hF, ?_, X.hears, X.method, X.code, X.here, X.tail, X.warmed, ?_, ?_, ?_⟩
  · have h := X.room
    have hU : ((T.setVm s.vm).setFrames (.invoking m args :: below)).localsInUse = s.localsInUse := by
      rw [State.localsInUse_invoking hF (meth := meth) (c := c) X.method X.code, State.localsInUse_invoking X.frames X.method X.code]
    simp only [State.hasRoom, Bool.and_eq_true, decide_eq_true_eq] at h ⊢
    obtain ⟨⟨⟨⟨h1, h2, h3, h4, h5, h6⟩, h7⟩, h8⟩, h9⟩ := h
    rw [X.frames, List.length_cons] at h2 h3
    have q1 := X.heapSize
    have q2 := X.used
    simp only [hF, hU, List.length_cons, State.stackLimits_setFrames, State.stackBytes_setFrames, hl9, hb9]
    refine ⟨⟨⟨⟨by omega, by omega, by omega, by omega, by omega, h6⟩, ?_⟩, ?_⟩, X.book⟩
    · show T.heap.size + R'.cells ≤ e.platform.maxCells
      omega
    · show T.slotsUsed + R'.slots ≤ e.platform.maxSlots
      omega
  · rw [State.stackLimits_setFrames]; rfl
  · rw [State.stackBytes_setFrames]; rfl
  · refine ⟨?_, Nat.le_refl _, Nat.le_refl _, ?_, ?_, fun a c9 h9 => ⟨c9, h9, rfl, rfl, fun _ _ => rfl⟩⟩
    · obtain ⟨t, ht, -⟩ := State.frames_cons hr
      show T.setVm s.vm = { ((T.setVm s.vm).setFrames (.invoking m args :: below)).setFrames (T.setVm s.vm).frames with heap := T.heap, slotsUsed := T.slotsUsed }
      rw [State.setFrames_setFrames, State.setFrames_self ht]
      rfl
    · show T.slotsUsed = T.slotsUsed + ((T.heap.toList.drop T.heap.size).map (·.slots.size)).sum
      rw [List.drop_eq_nil_of_le (Nat.le_of_eq Array.length_toList)]
      rfl
    · show ((T.heap.toList.drop T.heap.size).map (·.slots.size)).sum ≤ 0
      rw [List.drop_eq_nil_of_le (Nat.le_of_eq Array.length_toList)]
      exact Nat.le_refl _
/-- 'throw new E()': new; dup; invokespecial; athrow -/
theorem vx_throw0 {cc : ByteArray} {pc : Nat} (hexec : p.tables.exec = Jvm.exec) (hb : c.code = cc) (hl : l.stackTraces = false) {own cls : String} {names : List String} {ik ic mc ms : Nat} {A : Nat → Prop}
    (hown : s.vm.findClass own = some m.cls) (hcls : Bundle.fit cls = true) (hnames : ∀ n ∈ names, Bundle.fit n = true)
    (hk : (Cond.classLink own ik cls).before args s = true) (hini : (Cond.initialized cls).before args s = true) (hat : ∀ w ∈ vx_at0 own ic cls names, w.before args s = true)
    (hgood : ∀ w ∈ Cond.classLink own ik cls :: Cond.initialized cls :: vx_at0 own ic cls names, vx_ot w = true)
    (hU : vx_Zq Bundle.tN "UNASSIGNED_STACK" Bundle.steD A s s.heap) (hN : vx_Zq Bundle.tN "SUPPRESSED_SENTINEL" Bundle.listD A s s.heap) (hS : va_S A s.heap H locs) (hsize : ls.size = c.maxLocals)
    (d0 : decode cc pc = .ok (.new ik, 3)) (d3 : decode cc (pc + 3) = .ok (.dup, 1)) (d4 : decode cc (pc + 4) = .ok (.invokespecial ic, 3)) (d7 : decode cc (pc + 7) = .ok (.athrow, 1))
    (hout : ∀ x ∈ c.exceptionTable.toList, covers x (pc + 7) = false)
    (hRframes : names.length + 3 < R.frames) (hRlocals : (rest.map fun v => v.category).sum + (13 * (names.length + 1) + 42) ≤ R.locals) (hRcells : cells + 1 ≤ R.cells) (hRslots : slots + 6 ≤ R.slots) (hlocks : meth.locks = false)
    (hx : ∀ t : State, s.vm.Alike t.vm → H.size ≤ t.heap.size → (∀ q : Nat, q < H.size → t.heap[q]? = H[q]?) → XC cls s t)
    (hf : ∀ z ∈ locs, free z.base) (hc : cells + 1 ≤ mc) (hs : slots + 6 ≤ ms) :
    W p l e R s m args below meth c H locs cells slots (vx_MQ below Qc XC args s mc ms free) (F0 m pc ls rest) := by
  intro T hT X
  have htr : e.platform.stackTraces = false := (show e.platform.stackTraces = l.stackTraces by rw [X.admits.platform]).trans hl
  have Y := vx_rebase X (R' := { frames := R.frames, locals := R.locals, cells := 1, slots := 6 }) (Nat.le_refl _) (Nat.le_refl _) hRcells hRslots
  obtain ⟨s', hA⟩ : ∃ z, z = (T.setVm s.vm).setFrames (.invoking m args :: below) := ⟨_, rfl⟩
  rw [← hA] at Y
  have hvm : s'.vm = s.vm := by rw [hA]; rfl
  have hhp : s'.heap = H := by rw [hA]; exact hT
  have hW0 : s.WarmedH s'.vm := by rw [hvm]; exact State.WarmedH.refl s
  have hat' : ∀ w ∈ vx_at0 own ic cls names, w.before args s' = true := fun w hw => vx_ot_at hW0 hvm.symm (hgood w (List.mem_cons_of_mem _ (List.mem_cons_of_mem _ hw))) (hat w hw)
  have hk' : (Cond.classLink own ik cls).before args s' = true := vx_ot_at hW0 hvm.symm (hgood _ List.mem_cons_self) hk
  have hini' : (Cond.initialized cls).before args s' = true := vx_ot_at hW0 hvm.symm (hgood _ (List.mem_cons_of_mem _ List.mem_cons_self)) hini
  have hU' : vx_Zq Bundle.tN "UNASSIGNED_STACK" Bundle.steD A s' s'.heap := by rw [hhp]; exact vx_Zq.moved hW0.alike (hU.kept hS.2.1)
  have hN' : vx_Zq Bundle.tN "SUPPRESSED_SENTINEL" Bundle.listD A s' s'.heap := by rw [hhp]; exact vx_Zq.moved hW0.alike (hN.kept hS.2.1)
  have h : ∀ w ∈ Bundle.ownAtoms0 own ic cls names, w.before args s' = true := vx_own hat' (vx_isRefq hU'.1) (vx_isRefq hN'.1) hU'.2.word hN'.2.word
  have hown' : s'.vm.findClass own = some m.cls := by rw [hvm]; exact hown
  have hins : (Cond.instantiable cls 6).before args s' = true := h _ (by simp [Bundle.ownAtoms0])
  obtain ⟨vm₁, cX, kX, hfX, hkX, -, -, X₁, st1⟩ := Y.newCold hexec (own := own) (C := cls) (index := ik) (n := 6) hown' hk' hins hini'
    (g := F0 m pc ls rest) rfl (by rw [hb]; exact d0) (Nat.le_refl _) (Nat.le_refl _)
  generalize hT1 : (T.setVm vm₁).pushCell { cls := cX, slots := kX.instanceTypes.map defaultValue, vm := .none } = T1 at X₁ st1
  have hcat : (Value.ref T.heap.size).category = 1 := rfl
  have hcellA : T1.heap[T.heap.size]? = some (freshCell cX kX) := by rw [← hT1]; exact State.heap_pushCell_size _ _
  have d3' : decode c.code (pc + 3) = .ok (.dup, 1) := by rw [hb]; exact d3
  obtain ⟨U, hsteps, hrun, hend, hW, hsame, ce, hce, hO⟩ := X₁.ctorThrow0 hexec htr (own := own) (cls := cls) (names := names) (ic := ic) hown' hcls hnames h (fun x hx => nomatch hx) hfX hkX hcellA (by rw [hhp, hT]; exact Nat.le_refl _)
    (g := { method := m, pc := pc + 4, locals := ls, stack := .ref T.heap.size :: .ref T.heap.size :: rest, locked := none }) rfl hsize rfl rfl (rest := rest) rfl
    (by rw [hb]; exact d4) (by rw [hb]; exact d7) hout hRframes (by simp only [List.map_cons, List.sum_cons, hcat]; omega) hlocks
  obtain ⟨f1, f2⟩ := vx_frame hsame
  rw [hhp] at f1 f2
  have hWs : s.WarmedH U.vm := State.WarmedH.trans hW0 hW
  have hcl : s.vm.findClass cls = some ce.cls := by
    have h9 := hO.cls
    rw [hvm] at h9
    exact h9
  have hall : s.sameButNew ({ U with vm := s.vm } : State) locs mc ms := by
    subst hA
    obtain ⟨e1, e2⟩ := hsame
    rw [State.setFrames_setFrames] at e1
    have h2 : (T.setVm s.vm).sameButNew ({ U with vm := s.vm } : State) [] (0 + 1) (0 + 6) := ⟨e1, e2⟩
    have h3 := X.same.trans h2
    rw [List.append_nil] at h3
    exact h3.mono hc hs
  refine ⟨U, ?_, .threw T.heap.size, hrun, hend, Or.inr ⟨T.heap.size, rfl, cls, ce, locs, hx U hWs.alike f1 (fun q hq => f2 q hq (fun z hz => nomatch hz)), hce, hO.vm, hcl, hWs, hall, hf⟩⟩
  refine st1 _ ?_
  show Steps p.tables e below (T1.setTop { method := m, pc := pc + 3, locals := ls, stack := .ref T.heap.size :: rest, locked := none }) _
  jvm_step X₁.here [X₁.here.top, hexec, d3', Value.category]
  exact hsteps
/-- 'throw new E("text")': new; dup; ldc; invokespecial; athrow -/
theorem vx_throwS {cc : ByteArray} {pc : Nat} (hexec : p.tables.exec = Jvm.exec) (hb : c.code = cc) (hl : l.stackTraces = false) {own cls text : String} {names : List String} {ik is ic mc ms sa : Nat} {A : Nat → Prop}
    (hown : s.vm.findClass own = some m.cls) (hcls : Bundle.fit cls = true) (hnames : ∀ n ∈ names, Bundle.fit n = true)
    (hk : (Cond.classLink own ik cls).before args s = true) (hini : (Cond.initialized cls).before args s = true) (hstr : vk_R own is text sa s) (hat : ∀ w ∈ vx_atS own ic cls names, w.before args s = true)
    (hgood : ∀ w ∈ Cond.classLink own ik cls :: Cond.initialized cls :: vx_atS own ic cls names, vx_ot w = true)
    (hU : vx_Zq Bundle.tN "UNASSIGNED_STACK" Bundle.steD A s s.heap) (hN : vx_Zq Bundle.tN "SUPPRESSED_SENTINEL" Bundle.listD A s s.heap) (hS : va_S A s.heap H locs) (hsize : ls.size = c.maxLocals)
    (d0 : decode cc pc = .ok (.new ik, 3)) (d3 : decode cc (pc + 3) = .ok (.dup, 1)) (d4 : decode cc (pc + 4) = .ok (.ldc is, 2)) (d6 : decode cc (pc + 6) = .ok (.invokespecial ic, 3)) (d9 : decode cc (pc + 9) = .ok (.athrow, 1))
    (hout : ∀ x ∈ c.exceptionTable.toList, covers x (pc + 9) = false)
    (hRframes : names.length + 3 < R.frames) (hRlocals : (rest.map fun v => v.category).sum + (13 * (names.length + 1) + 43) ≤ R.locals) (hRcells : cells + 1 ≤ R.cells) (hRslots : slots + 6 ≤ R.slots) (hlocks : meth.locks = false)
    (hx : ∀ t : State, s.vm.Alike t.vm → H.size ≤ t.heap.size → (∀ q : Nat, q < H.size → t.heap[q]? = H[q]?) → XC cls s t)
    (hf : ∀ z ∈ locs, free z.base) (hc : cells + 1 ≤ mc) (hs : slots + 6 ≤ ms) :
    W p l e R s m args below meth c H locs cells slots (vx_MQ below Qc XC args s mc ms free) (F0 m pc ls rest) := by
  intro T hT X
  have htr : e.platform.stackTraces = false := (show e.platform.stackTraces = l.stackTraces by rw [X.admits.platform]).trans hl
  have Y := vx_rebase X (R' := { frames := R.frames, locals := R.locals, cells := 1, slots := 6 }) (Nat.le_refl _) (Nat.le_refl _) hRcells hRslots
  obtain ⟨s', hA⟩ : ∃ z, z = (T.setVm s.vm).setFrames (.invoking m args :: below) := ⟨_, rfl⟩
  rw [← hA] at Y
  have hvm : s'.vm = s.vm := by rw [hA]; rfl
  have hhp : s'.heap = H := by rw [hA]; exact hT
  have hW0 : s.WarmedH s'.vm := by rw [hvm]; exact State.WarmedH.refl s
  have hat' : ∀ w ∈ vx_atS own ic cls names, w.before args s' = true := fun w hw => vx_ot_at hW0 hvm.symm (hgood w (List.mem_cons_of_mem _ (List.mem_cons_of_mem _ hw))) (hat w hw)
  have hk' : (Cond.classLink own ik cls).before args s' = true := vx_ot_at hW0 hvm.symm (hgood _ List.mem_cons_self) hk
  have hini' : (Cond.initialized cls).before args s' = true := vx_ot_at hW0 hvm.symm (hgood _ (List.mem_cons_of_mem _ List.mem_cons_self)) hini
  have hU' : vx_Zq Bundle.tN "UNASSIGNED_STACK" Bundle.steD A s' s'.heap := by rw [hhp]; exact vx_Zq.moved hW0.alike (hU.kept hS.2.1)
  have hN' : vx_Zq Bundle.tN "SUPPRESSED_SENTINEL" Bundle.listD A s' s'.heap := by rw [hhp]; exact vx_Zq.moved hW0.alike (hN.kept hS.2.1)
  have h : ∀ w ∈ Bundle.ownAtoms own ic cls names, w.before args s' = true := vx_own hat' (vx_isRefq hU'.1) (vx_isRefq hN'.1) hU'.2.word hN'.2.word
  have hown' : s'.vm.findClass own = some m.cls := by rw [hvm]; exact hown
  have hins : (Cond.instantiable cls 6).before args s' = true := h _ (by simp [Bundle.ownAtoms])
  obtain ⟨vm₁, cX, kX, hfX, hkX, -, -, X₁, st1⟩ := Y.newCold hexec (own := own) (C := cls) (index := ik) (n := 6) hown' hk' hins hini'
    (g := F0 m pc ls rest) rfl (by rw [hb]; exact d0) (Nat.le_refl _) (Nat.le_refl _)
  generalize hT1 : (T.setVm vm₁).pushCell { cls := cX, slots := kX.instanceTypes.map defaultValue, vm := .none } = T1 at X₁ st1
  have hcat : (Value.ref T.heap.size).category = 1 := rfl
  have hcellA : T1.heap[T.heap.size]? = some (freshCell cX kX) := by rw [← hT1]; exact State.heap_pushCell_size _ _
  have d3' : decode c.code (pc + 3) = .ok (.dup, 1) := by rw [hb]; exact d3
  have d4' : decode c.code (pc + 4) = .ok (.ldc is, 2) := by rw [hb]; exact d4
  have hstr' : vk_R own is text sa s' := vk_R.warm hW0 hstr
  obtain ⟨U, hsteps, hrun, hend, hW, hsame, ce, hce, hO⟩ := X₁.ctorThrowS hexec htr (own := own) (cls := cls) (names := names) (ic := ic) hown' hcls hnames h (fun x hx => nomatch hx) hfX hkX hcellA (by rw [hhp, hT]; exact Nat.le_refl _) (msg := .ref sa) rfl
    (g := { method := m, pc := pc + 6, locals := ls, stack := .ref sa :: .ref T.heap.size :: .ref T.heap.size :: rest, locked := none }) rfl hsize rfl rfl (rest := rest) rfl
    (by rw [hb]; exact d6) (by rw [hb]; exact d9) hout hRframes (by simp only [List.map_cons, List.sum_cons, hcat]; omega) hlocks
  obtain ⟨f1, f2⟩ := vx_frame hsame
  rw [hhp] at f1 f2
  have hWs : s.WarmedH U.vm := State.WarmedH.trans hW0 hW
  have hcl : s.vm.findClass cls = some ce.cls := by
    have h9 := hO.cls
    rw [hvm] at h9
    exact h9
  have hall : s.sameButNew ({ U with vm := s.vm } : State) locs mc ms := by
    subst hA
    obtain ⟨e1, e2⟩ := hsame
    rw [State.setFrames_setFrames] at e1
    have h2 : (T.setVm s.vm).sameButNew ({ U with vm := s.vm } : State) [] (0 + 1) (0 + 6) := ⟨e1, e2⟩
    have h3 := X.same.trans h2
    rw [List.append_nil] at h3
    exact h3.mono hc hs
  refine ⟨U, ?_, .threw T.heap.size, hrun, hend, Or.inr ⟨T.heap.size, rfl, cls, ce, locs, hx U hWs.alike f1 (fun q hq => f2 q hq (fun z hz => nomatch hz)), hce, hO.vm, hcl, hWs, hall, hf⟩⟩
  refine st1 _ ?_
  show Steps p.tables e below (T1.setTop { method := m, pc := pc + 3, locals := ls, stack := .ref T.heap.size :: rest, locked := none }) _
  jvm_step X₁.here [X₁.here.top, hexec, d3', Value.category]
  exact X₁.ldcString hexec (own := own) (text := text) (index := is) (a := sa) hown' hstr'.1 hstr'.2
    (g := { method := m, pc := pc + 4, locals := ls, stack := .ref T.heap.size :: .ref T.heap.size :: rest, locked := none }) rfl d4' _ hsteps
/-- 'throw new E("text")', the text by a wide index -/
theorem vx_throwSW {cc : ByteArray} {pc : Nat} (hexec : p.tables.exec = Jvm.exec) (hb : c.code = cc) (hl : l.stackTraces = false) {own cls text : String} {names : List String} {ik is ic mc ms sa : Nat} {A : Nat → Prop}
    (hown : s.vm.findClass own = some m.cls) (hcls : Bundle.fit cls = true) (hnames : ∀ n ∈ names, Bundle.fit n = true)
    (hk : (Cond.classLink own ik cls).before args s = true) (hini : (Cond.initialized cls).before args s = true) (hstr : vk_R own is text sa s) (hat : ∀ w ∈ vx_atS own ic cls names, w.before args s = true)
    (hgood : ∀ w ∈ Cond.classLink own ik cls :: Cond.initialized cls :: vx_atS own ic cls names, vx_ot w = true)
    (hU : vx_Zq Bundle.tN "UNASSIGNED_STACK" Bundle.steD A s s.heap) (hN : vx_Zq Bundle.tN "SUPPRESSED_SENTINEL" Bundle.listD A s s.heap) (hS : va_S A s.heap H locs) (hsize : ls.size = c.maxLocals)
    (d0 : decode cc pc = .ok (.new ik, 3)) (d3 : decode cc (pc + 3) = .ok (.dup, 1)) (d4 : decode cc (pc + 4) = .ok (.ldc_w is, 3)) (d7 : decode cc (pc + 7) = .ok (.invokespecial ic, 3)) (d10 : decode cc (pc + 10) = .ok (.athrow, 1))
    (hout : ∀ x ∈ c.exceptionTable.toList, covers x (pc + 10) = false)
    (hRframes : names.length + 3 < R.frames) (hRlocals : (rest.map fun v => v.category).sum + (13 * (names.length + 1) + 43) ≤ R.locals) (hRcells : cells + 1 ≤ R.cells) (hRslots : slots + 6 ≤ R.slots) (hlocks : meth.locks = false)
    (hx : ∀ t : State, s.vm.Alike t.vm → H.size ≤ t.heap.size → (∀ q : Nat, q < H.size → t.heap[q]? = H[q]?) → XC cls s t)
    (hf : ∀ z ∈ locs, free z.base) (hc : cells + 1 ≤ mc) (hs : slots + 6 ≤ ms) :
    W p l e R s m args below meth c H locs cells slots (vx_MQ below Qc XC args s mc ms free) (F0 m pc ls rest) := by
  intro T hT X
  have htr : e.platform.stackTraces = false := (show e.platform.stackTraces = l.stackTraces by rw [X.admits.platform]).trans hl
  have Y := vx_rebase X (R' := { frames := R.frames, locals := R.locals, cells := 1, slots := 6 }) (Nat.le_refl _) (Nat.le_refl _) hRcells hRslots
  obtain ⟨s', hA⟩ : ∃ z, z = (T.setVm s.vm).setFrames (.invoking m args :: below) := ⟨_, rfl⟩
  rw [← hA] at Y
  have hvm : s'.vm = s.vm := by rw [hA]; rfl
  have hhp : s'.heap = H := by rw [hA]; exact hT
  have hW0 : s.WarmedH s'.vm := by rw [hvm]; exact State.WarmedH.refl s
  have hat' : ∀ w ∈ vx_atS own ic cls names, w.before args s' = true := fun w hw => vx_ot_at hW0 hvm.symm (hgood w (List.mem_cons_of_mem _ (List.mem_cons_of_mem _ hw))) (hat w hw)
  have hk' : (Cond.classLink own ik cls).before args s' = true := vx_ot_at hW0 hvm.symm (hgood _ List.mem_cons_self) hk
  have hini' : (Cond.initialized cls).before args s' = true := vx_ot_at hW0 hvm.symm (hgood _ (List.mem_cons_of_mem _ List.mem_cons_self)) hini
  have hU' : vx_Zq Bundle.tN "UNASSIGNED_STACK" Bundle.steD A s' s'.heap := by rw [hhp]; exact vx_Zq.moved hW0.alike (hU.kept hS.2.1)
  have hN' : vx_Zq Bundle.tN "SUPPRESSED_SENTINEL" Bundle.listD A s' s'.heap := by rw [hhp]; exact vx_Zq.moved hW0.alike (hN.kept hS.2.1)
  have h : ∀ w ∈ Bundle.ownAtoms own ic cls names, w.before args s' = true := vx_own hat' (vx_isRefq hU'.1) (vx_isRefq hN'.1) hU'.2.word hN'.2.word
  have hown' : s'.vm.findClass own = some m.cls := by rw [hvm]; exact hown
  have hins : (Cond.instantiable cls 6).before args s' = true := h _ (by simp [Bundle.ownAtoms])
  obtain ⟨vm₁, cX, kX, hfX, hkX, -, -, X₁, st1⟩ := Y.newCold hexec (own := own) (C := cls) (index := ik) (n := 6) hown' hk' hins hini'
    (g := F0 m pc ls rest) rfl (by rw [hb]; exact d0) (Nat.le_refl _) (Nat.le_refl _)
  generalize hT1 : (T.setVm vm₁).pushCell { cls := cX, slots := kX.instanceTypes.map defaultValue, vm := .none } = T1 at X₁ st1
  have hcat : (Value.ref T.heap.size).category = 1 := rfl
  have hcellA : T1.heap[T.heap.size]? = some (freshCell cX kX) := by rw [← hT1]; exact State.heap_pushCell_size _ _
  have d3' : decode c.code (pc + 3) = .ok (.dup, 1) := by rw [hb]; exact d3
  have d4' : decode c.code (pc + 4) = .ok (.ldc_w is, 3) := by rw [hb]; exact d4
  have hstr' : vk_R own is text sa s' := vk_R.warm hW0 hstr
  obtain ⟨U, hsteps, hrun, hend, hW, hsame, ce, hce, hO⟩ := X₁.ctorThrowS hexec htr (own := own) (cls := cls) (names := names) (ic := ic) hown' hcls hnames h (fun x hx => nomatch hx) hfX hkX hcellA (by rw [hhp, hT]; exact Nat.le_refl _) (msg := .ref sa) rfl
    (g := { method := m, pc := pc + 7, locals := ls, stack := .ref sa :: .ref T.heap.size :: .ref T.heap.size :: rest, locked := none }) rfl hsize rfl rfl (rest := rest) rfl
    (by rw [hb]; exact d7) (by rw [hb]; exact d10) hout hRframes (by simp only [List.map_cons, List.sum_cons, hcat]; omega) hlocks
  obtain ⟨f1, f2⟩ := vx_frame hsame
  rw [hhp] at f1 f2
  have hWs : s.WarmedH U.vm := State.WarmedH.trans hW0 hW
  have hcl : s.vm.findClass cls = some ce.cls := by
    have h9 := hO.cls
    rw [hvm] at h9
    exact h9
  have hall : s.sameButNew ({ U with vm := s.vm } : State) locs mc ms := by
    subst hA
    obtain ⟨e1, e2⟩ := hsame
    rw [State.setFrames_setFrames] at e1
    have h2 : (T.setVm s.vm).sameButNew ({ U with vm := s.vm } : State) [] (0 + 1) (0 + 6) := ⟨e1, e2⟩
    have h3 := X.same.trans h2
    rw [List.append_nil] at h3
    exact h3.mono hc hs
  refine ⟨U, ?_, .threw T.heap.size, hrun, hend, Or.inr ⟨T.heap.size, rfl, cls, ce, locs, hx U hWs.alike f1 (fun q hq => f2 q hq (fun z hz => nomatch hz)), hce, hO.vm, hcl, hWs, hall, hf⟩⟩
  refine st1 _ ?_
  show Steps p.tables e below (T1.setTop { method := m, pc := pc + 3, locals := ls, stack := .ref T.heap.size :: rest, locked := none }) _
  jvm_step X₁.here [X₁.here.top, hexec, d3', Value.category]
  exact X₁.ldcStringW hexec (own := own) (text := text) (index := is) (a := sa) hown' hstr'.1 hstr'.2
    (g := { method := m, pc := pc + 4, locals := ls, stack := .ref T.heap.size :: .ref T.heap.size :: rest, locked := none }) rfl d4' _ hsteps
end Ends
section Bodies
variable {l : Launch}
theorem vx_ofW {y : MethodName} {ws ws' : List Cond} {rm : Room} {Pc : Array Value → State → Prop} {Qc : Array Value → State → Outcome → State → Prop} {XC : String → State → State → Prop} {mc ms : Nat} {free : Addr → Prop} {cc : ByteArray} {maxL : Nat} {ret : Option FieldType}
    (hy : plainName y.cls = true) (hw : ws = Cond.code y cc maxL ret :: ws')
    (body : ∀ p e s m args below meth c s₁, BodyLoose p l y (headSpec ws rm) cc maxL ret e s m args below meth c s₁ → c.maxLocals = maxL → (∀ x ∈ c.exceptionTable.toList, False) → Pc args s →
      W p l e (headSpec ws rm).room s m args below meth c s.heap [] 0 0 (vx_MQ below Qc XC args s mc ms free) (entryFrame m args maxL)) : vx_Met l y ws rm Pc Qc XC mc ms free := by
  refine MetFree.of_bodyS (code := cc) (maxLocals := maxL) (ret := ret) hy ?_ ?_
  · intro args s m h hn
    obtain ⟨meth, c, h1, h2, h3, h4, h5, h6, -, -⟩ := Cond.code_spec hn (atoms_spec (ws := ws) h _ (by rw [hw]; exact List.mem_cons_self))
    exact ⟨meth, c, h1, h2, h3, h4, h5, h6⟩
  · intro p e s m args below meth c s₁ B hml hP _
    have hh0 : s₁.heap = s.heap := by rw [B.state]; rfl
    have ht : ∀ x ∈ c.exceptionTable.toList, False := by
      obtain ⟨meth9, c9, h1, h2, -, -, -, -, h7, -⟩ := Cond.code_spec B.named (atoms_spec (ws := ws) B.pre _ (by rw [hw]; exact List.mem_cons_self))
      cases Option.some.inj (h1.symm.trans B.method)
      cases Option.some.inj (h2.symm.trans (Stand.of_body B).code)
      intro x hx
      rw [Array.isEmpty_iff.mp h7] at hx
      cases hx
    obtain ⟨t, a1, o, b1, b2, b3⟩ := body p e s m args below meth c s₁ B hml ht hP s₁ hh0 (Stand.of_body B)
    exact ⟨t, o, a1, b1, b2, b3⟩
/-- the table of a body with handlers -/
theorem vx_table {p : Program} {x y : MethodName} {S : Spec} {cc bytes : ByteArray} {maxL maxL' : Nat} {ret ret' : Option FieldType} {e : Env} {s s₁ : State} {m : MethodId} {args : Array Value} {below : List Frame} {meth : Method} {c : Code} {hh : List (Nat × Nat × Nat × Nat)}
    (B : BodyLoose p l y S cc maxL ret e s m args below meth c s₁) (h : (Cond.codeWith y bytes maxL' ret' hh).before args s = true) : c.exceptionTable.toList = tableOf hh := by
  obtain ⟨m9, meth9, c9, hn9, h1, h2, -, -, h6, -⟩ := Cond.codeWith_spec h
  cases Option.some.inj (hn9.symm.trans B.named)
  cases Option.some.inj (h1.symm.trans B.method)
  cases Option.some.inj (h2.symm.trans (Stand.of_body B).code)
  rw [← h6, table_eq]
end Bodies
end VXA
/-! ===== END ===== -/
/-! ===== BEGIN a static call of a method with an exception table ===== -/
section VXS
variable {p : Program} {l : Launch} {e : Env} {R : Room} {s : State} {m : MethodId} {args : Array Value} {below : List Frame} {meth : Method} {c : Code} {T : State} {H : Heap} {locs : List Loc} {cells slots : Nat}
abbrev vx_CSW (R : Room) (s : State) (args : Array Value) (own : String) (index : Nat) (y : MethodName) (bytes : ByteArray) (maxL : Nat) (ret : Option FieldType) (hh : List (Nat × Nat × Nat × Nat)) (ws : List Cond) (rm : Room) (mc ms n : Nat) : Prop :=
  (rm.cells = mc ∧ rm.slots = ms ∧ rm.frames + 1 ≤ R.frames ∧ 8 + (maxL + 11) + rm.locals ≤ R.locals ∧ (∀ w ∈ ws, ∀ (a' : Array Value) (U : State), s.WarmedH U.vm → w.before a' U = true) ∧ Cond.codeWith y bytes maxL ret hh ∈ ws) ∧
  (Cond.codeWith y bytes maxL ret hh).before args s = true ∧ (Cond.initialized y.cls).before args s = true ∧ (y.cls ≠ "java/lang/invoke/MethodHandle" ∧ y.cls ≠ "java/lang/invoke/VarHandle") ∧
  (∀ sig, parseMethodDescriptor y.desc = some sig → n = sig.parameters.length) ∧ (Cond.methodLink own index y).before args s = true ∧ (Cond.static y).before args s = true
theorem vx_cwSW {own : String} {index maxL mc ms : Nat} {y : MethodName} {bytes : ByteArray} {ret : Option FieldType} {hh : List (Nat × Nat × Nat × Nat)} {Ts ws ws' : List Cond} {rm : Room} (n : Nat) (ht : ∀ w ∈ Ts, w.before args s = true) (hT : GoodIn Ts (va_wsS own index y ws)) (hw : ws = Cond.codeWith y bytes maxL ret hh :: ws') (hrc : rm.cells = mc) (hrs : rm.slots = ms)
    (hd : y.cls ≠ "java/lang/invoke/MethodHandle" ∧ y.cls ≠ "java/lang/invoke/VarHandle" ∧ (parseMethodDescriptor y.desc).map (fun d => d.parameters.length) = some n) (hR : rm.frames + 1 ≤ R.frames ∧ 8 + (maxL + 11) + rm.locals ≤ R.locals) :
    vx_CSW R s args own index y bytes maxL ret hh ws rm mc ms n := by
  have ok : ∀ w ∈ va_wsS own index y ws, w.before args s = true := fun w h => ht w (hT w h).1
  have hG : GoodIn Ts ws := fun w h => hT w (by unfold va_wsS; exact List.mem_append_right _ h)
  have hc : Cond.codeWith y bytes maxL ret hh ∈ ws := by rw [hw]; exact List.mem_cons_self
  refine ⟨⟨hrc, hrs, hR.1, hR.2, pay_in ht hG, hc⟩, ht _ (hG _ hc).1, ok _ (by simp [va_wsS]), ⟨hd.1, hd.2.1⟩, fun sig h => ?_, ok _ (by simp [va_wsS]), ok _ (by simp [va_wsS])⟩
  have h2 := hd.2.2
  rw [h] at h2
  exact (Option.some.inj h2).symm
theorem vx_callSW (X : Stand p l e R s m args below meth c T locs cells slots) (hexec : p.tables.exec = Jvm.exec) {own : String} {index : Nat} {y : MethodName} {bytes : ByteArray} {maxL : Nat} {ret : Option FieldType} {hh : List (Nat × Nat × Nat × Nat)}
    (hown : s.vm.findClass own = some m.cls) (hlink : (Cond.methodLink own index y).before args s = true) (hstat : (Cond.static y).before args s = true) (hinit : (Cond.initialized y.cls).before args s = true)
    (hcode : (Cond.codeWith y bytes maxL ret hh).before args s = true) (hy : y.cls ≠ "java/lang/invoke/MethodHandle" ∧ y.cls ≠ "java/lang/invoke/VarHandle")
    {W9 : Nat} {Pre : Pt → Array Value → Prop} {Post : Pt → Array Value → Option Value → Pt → Prop} (hK : Back l R p e below s args y 3 W9 Pre Post)
    {g : JFrame} (hg : g.method = m) (hsize : g.locals.size = c.maxLocals) {argsL rest : List Value} (hlen : ∀ sig, parseMethodDescriptor y.desc = some sig → argsL.length = sig.parameters.length)
    (hstack : g.stack = argsL.reverse ++ rest) (hW : 2 * g.monitorRoom + (rest.map fun v => v.category).sum ≤ W9) (hdg : decode c.code g.pc = .ok (.invokestatic index, 3))
    (hpre : ∀ vm₁, s.WarmedH vm₁ → Pre ⟨T.setVm vm₁, locs, cells, slots⟩ argsL.toArray) :
    ∃ (v : Option Value) (vm₁ : Vm) (B : Pt), s.WarmedH vm₁ ∧ Stand p l e R s m args below meth c B.U B.locs B.cells B.slots ∧ Post ⟨T.setVm vm₁, locs, cells, slots⟩ argsL.toArray v B ∧
      ∀ target, Steps p.tables e below (B.U.setTop { g with pc := g.pc + 3, stack := v.toList ++ rest }) target → Steps p.tables e below (T.setTop g) target := by
  obtain ⟨mk, methM, cM, hnamed, hmethM, -, -, -, -, -, -, hsigM⟩ := Cond.codeWith_spec hcode
  have hstatic : methM.isStatic = true := Cond.static_spec hnamed hmethM hstat
  obtain ⟨kP, hkP, -⟩ := className_of_methodNamed hnamed
  have hinitP : kP.init = .initialized := Cond.initialized_spec (findClass_of_methodNamed hnamed) hkP hinit
  obtain ⟨vm₁, X₁, hstep₁⟩ := X.invokestatic hexec hown hlink hnamed hmethM hstatic hkP hinitP hy (g := g) hg (argsL := argsL) (rest := rest) (hlen _ hsigM) hstack hdg
  obtain ⟨v, B, X', hpost, hsteps⟩ := hK m meth c ⟨T.setVm vm₁, locs, cells, slots⟩ { g with stack := rest } (.invokestatic index) mk argsL.toArray X₁ hg hsize hdg hW (X₁.named hnamed) (hpre vm₁ X₁.warmed)
  exact ⟨v, vm₁, B, X₁.warmed, X', hpost, fun target h => hstep₁ _ fun acts => by rw [doInvoke_state]; exact hsteps.trans h⟩
theorem vx_runSW {y : MethodName} {bytes cc : ByteArray} {maxL nL mc ms n index : Nat} {ret : Option FieldType} {hh : List (Nat × Nat × Nat × Nat)} {ws : List Cond} {rm : Room} {Pc : Array Value → State → Prop} {Qc : Array Value → State → Outcome → State → Prop} {free : Addr → Prop} {Ts : List Cond} {own : String} {As rest : List Value} {g : JFrame}
    (S : CallFix p m c cc nL s args Ts own) (hM : Met l y ws rm Pc Qc mc ms free) (cw : vx_CSW R s args own index y bytes maxL ret hh ws rm mc ms n) (hp : PreS s H Pc As)
    (hg : g.method = m) (hn : As.length = n) (hsize : g.locals.size = nL) (hstack : g.stack = As.reverse ++ rest) (hW : 2 * g.monitorRoom + (rest.map fun v => v.category).sum ≤ 8) (hdg : decode cc g.pc = .ok (.invokestatic index, 3)) (hf : cells + mc ≤ R.cells ∧ slots + ms ≤ R.slots) :
    va_Run p l e R s m args below meth c H locs cells slots mc ms g rest (Qc As.toArray) (free) := by
  obtain ⟨⟨hrc, hrs, hfr, hlo, hws, hcw⟩, hcode, hini, hy, hlen, hl, hstt⟩ := cw
  have hK : Back l R p e below s args y 3 8 (PreOf R mc ms Pc) (PostOf Qc mc ms free) := va_backW (hh := hh) (bytes := bytes) (maxL := maxL) (ret := ret) hM hp.1 hrc hrs hfr hlo hws hcw (fun a' U hW => word_at hW (Or.inl (by first | rfl | simp [Cond.onTables, Cond.keeps, Cond.steady])) hini)
  obtain ⟨hx, hb, hml, ho, -⟩ := S
  intro T hT X
  obtain ⟨v, vm₁, ⟨U', l2, c2, s2⟩, hW₁, X', ⟨g', mk, t, L, e1, e2, hq, h1, hL, h2, h3⟩, st⟩ := vx_callSW X hx (hh := hh) (bytes := bytes) (maxL := maxL) (ret := ret) ho hl hstt hini hcode hy hK hg (hsize.trans hml.symm) (argsL := As) (rest := rest) (fun sig h => hn.trans (hlen sig h)) hstack hW (by rw [hb]; exact hdg)
    (fun vm₁ hW₁ => ⟨hf.1, hf.2, hp.2 (T.setVm vm₁) hT hW₁⟩)
  dsimp only [Pt.U, Pt.locs, Pt.cells, Pt.slots] at X' e1 e2 h1 h2 h3 st
  subst h1; subst h2; subst h3
  exact ⟨v, (T.setVm vm₁).calling g' mk As.toArray, t, U', L, hT, X', hL, e1, e2, hq, st⟩
/-- a thing of a world lies in the heap -/
theorem vx_lt {D : va_G} {cl : List vw_C} {ws : va_W} {H1 : Heap} (h : va_P D cl ws H1) {k : Nat} {q : Nat × va_E} (hk : ws[k]? = some q) : q.1 < H1.size := (h k q hk).lt
end VXS
/-! ===== END ===== -/
/-! ===== BEGIN methods with a table of their own: called by a name, returning or throwing ===== -/
section VXH
/-! vx_backW, vx_callVX, vx_callSX, vx_callVW, vx_runVW, vx_runVX, vx_runSX, vx_ofWH follow the same proofs as their sisters above (Free/Laws.lean, Shelf42/LK1.lean); vx_outP calls Shelf42/NT130.lean (outThrough). -/
section
variable {l : Launch} {R : Room} {p : Program} {e : Env} {below : List Frame} {s : State} {sargs : Array Value} {y : MethodName} {len W9 : Nat}
theorem vx_backW {ws : List Cond} {rm : Room} {Pc : Array Value → State → Prop} {Qc : Array Value → State → Outcome → State → Prop} {XC : String → State → State → Prop} {mc ms : Nat} {free : Addr → Prop} {bytes : ByteArray} {maxL : Nat} {ret : Option FieldType} {hh : List (Nat × Nat × Nat × Nat)}
    (hM : vx_Met l y ws rm Pc Qc XC mc ms free) (hblind : FrameBlind Pc) (hrc : rm.cells = mc) (hrs : rm.slots = ms)
    (hframes : rm.frames + 1 ≤ R.frames) (hlocals : W9 + (maxL + 11) + rm.locals ≤ R.locals)
    (hws : ∀ w ∈ ws, ∀ a' U, s.WarmedH U.vm → w.before a' U = true) (hcode : Cond.codeWith y bytes maxL ret hh ∈ ws) (hinit : ∀ a' U, s.WarmedH U.vm → (Cond.initialized y.cls).before a' U = true) :
    vx_Back l R p e below s sargs y len W9 (PreOf R mc ms Pc) (PostOf Qc mc ms free) (vx_Post XC mc ms free) := by
  intro m meth c A g ig mk a X hg hsize hdg hW hn hp
  have h1 : (headSpec ws rm).pre.before a A.U = true := atoms_intro fun w hw => hws w hw _ _ X.warmed
  have h2 : (Cond.codeWith y bytes maxL ret hh).before a A.U = true := hws _ hcode _ _ X.warmed
  have h3 : (Cond.initialized y.cls).before a A.U = true := hinit _ _ X.warmed
  have h4 : A.cells + (headSpec ws rm).room.cells ≤ R.cells := by rw [show (headSpec ws rm).room.cells = mc from hrc]; exact hp.1
  have h5 : A.slots + (headSpec ws rm).room.slots ≤ R.slots := by rw [show (headSpec ws rm).room.slots = ms from hrs]; exact hp.2.1
  have hPc : Pc a (A.U.calling g mk a) := hblind _ _ _ _ hp.2.2
  obtain ⟨U, Ls, c0, s0⟩ := A
  dsimp only [Pt.U, Pt.locs, Pt.cells, Pt.slots] at h1 h2 h3 h4 h5 X hn hPc ⊢
  obtain ⟨m9, methY, cY, hn9, hmY, hcY, -, hlY, -⟩ := Cond.codeWith_spec h2
  cases Option.some.inj (hn9.symm.trans hn)
  obtain ⟨kY, hkY, -⟩ := className_of_methodNamed hn
  have hinitY : kY.init = .initialized := Cond.initialized_spec (findClass_of_methodNamed hn) hkY h3
  have h : At U g.method c below := by rw [hg]; exact X.here
  have hlocals9 : W9 + (maxL + 11) + (headSpec ws rm).room.locals ≤ R.locals := hlocals
  have happ : (headSpec ws rm).appliesLoose y e.platform (U.calling g mk a) = true :=
    Spec.appliesLoose_calling (g := g) h hdg hn hkY hinitY
      (X.room_calling (g := g) (R' := (headSpec ws rm).room) hsize hmY hcY hframes (by rw [hlY]; omega) h4 h5) h1
  obtain ⟨mid, hmid⟩ := h.above
  have hfr : (U.setTop g).frames = (.java g :: mid) ++ below := by rw [State.frames_setTop' g h.top, hmid]; rfl
  obtain ⟨o, s₂, hsteps, -, hend, hq⟩ := Steps.callFree hM p X.admits X.cas X.clock (acts := []) hfr happ hPc trivial
  have hq' : vx_Q Qc XC mc ms free a (U.calling g mk a) o s₂ := hq
  rw [State.frames_setTop' g h.top] at hend
  obtain ⟨g₀, hg0⟩ := Option.isSome_iff_exists.mp h.top
  obtain ⟨r, hr⟩ := State.topJava?_eq_some.mp hg0
  have hr' : (({ U with heap := s₂.heap, slotsUsed := s₂.slotsUsed } : State).setVm s₂.vm).frames = .java g₀ :: r := hr
  rcases hq' with ⟨hqc, L, hfe, hL⟩ | ⟨q, rfl, E, ce, L, hx, hce, hcv, hcl, hW₂, hsm, hL⟩
  · obtain ⟨⟨v, rfl⟩, hW₂, e2, q2, q3, q4, q5, q6⟩ := id hfe
    have e3 : s₂ = ({ (U.calling g mk a).setFrames s₂.frames with heap := s₂.heap, slotsUsed := s₂.slotsUsed } : State).setVm s₂.vm := by
      have : s₂ = ({ s₂ with vm := (U.calling g mk a).vm } : State).setVm s₂.vm := rfl
      rw [e2] at this
      exact this
    obtain ⟨c₂, i₂, len₂, hc₂, hd₂, hf₂⟩ := hend
    have hW' : U.WarmedH s₂.vm := hW₂
    have hcc : c₂ = c := by
      have h1 : s₂.code? g.method = U.code? g.method := by
        rw [State.code?_eq, State.code?_eq, hW'.alike.method?]
      exact Option.some.inj (hc₂.symm.trans (h1.trans h.code))
    subst hcc
    have hlen : len₂ = len := by rw [hdg] at hd₂; cases hd₂; rfl
    subst hlen
    have hs₂ : s₂ = (({ U with heap := s₂.heap, slotsUsed := s₂.slotsUsed } : State).setVm s₂.vm).setTop { g with pc := g.pc + len₂, stack := v.toList ++ g.stack } := by
      refine e3.trans ?_
      rw [hf₂, State.calling_eq h.top, State.setFrames_setFrames, State.setTop_of_frames _ hr', hr]
      rfl
    have hsame : U.sameButNew ({ U with heap := s₂.heap, slotsUsed := s₂.slotsUsed } : State) L mc ms := by
      refine ⟨?_, q2, q3, q4, q5, q6⟩
      obtain ⟨t, ht, -⟩ := State.frames_cons hr
      show ({ U with heap := s₂.heap, slotsUsed := s₂.slotsUsed } : State) = { U.setFrames U.frames with heap := s₂.heap, slotsUsed := s₂.slotsUsed }
      rw [State.setFrames_self ht]
    subst hg
    refine Or.inl ⟨v, ⟨(({ U with heap := s₂.heap, slotsUsed := s₂.slotsUsed } : State).setVm s₂.vm), Ls ++ L, c0 + mc, s0 + ms⟩,
      ⟨X.admits, X.cas, X.clock, X.frames, X.room, X.hears, X.method, X.code, (X.here.setHeapUsed s₂.heap s₂.slotsUsed).setVm hW'.alike, X.tail, State.WarmedH.trans X.warmed hW', X.limits, X.bytes, X.same.trans (hsame.setVm s.vm)⟩,
      ⟨g, mk, s₂, L, rfl, rfl, hqc, rfl, hL, rfl, rfl⟩, ?_⟩
    show Steps p.tables e below _ ((({ U with heap := s₂.heap, slotsUsed := s₂.slotsUsed } : State).setVm s₂.vm).setTop { g with pc := g.pc + len₂, stack := v.toList ++ g.stack })
    rw [← hs₂]
    exact hsteps
  · obtain ⟨e2, q2, q3, q4, q5, q6⟩ := id hsm
    have e3 : s₂ = ({ (U.calling g mk a).setFrames s₂.frames with heap := s₂.heap, slotsUsed := s₂.slotsUsed } : State).setVm s₂.vm := by
      have : s₂ = ({ s₂ with vm := (U.calling g mk a).vm } : State).setVm s₂.vm := rfl
      rw [e2] at this
      exact this
    have hf₂ : s₂.frames = .throwing q :: .java g :: U.frames.tail := hend
    have hW' : U.WarmedH s₂.vm := hW₂
    have hs₂ : s₂ = ((({ U with heap := s₂.heap, slotsUsed := s₂.slotsUsed } : State).setVm s₂.vm).setTop g).pushFrame (.throwing q) := by
      refine e3.trans ?_
      rw [hf₂, State.calling_eq h.top, State.setFrames_setFrames, State.pushFrame, State.frames_setTop _ hr', State.setTop_of_frames _ hr', State.setFrames_setFrames, hr]
      rfl
    have hsame : U.sameButNew ({ U with heap := s₂.heap, slotsUsed := s₂.slotsUsed } : State) L mc ms := by
      refine ⟨?_, q2, q3, q4, q5, q6⟩
      obtain ⟨t, ht, -⟩ := State.frames_cons hr
      show ({ U with heap := s₂.heap, slotsUsed := s₂.slotsUsed } : State) = { U.setFrames U.frames with heap := s₂.heap, slotsUsed := s₂.slotsUsed }
      rw [State.setFrames_self ht]
    subst hg
    refine Or.inr ⟨q, ⟨(({ U with heap := s₂.heap, slotsUsed := s₂.slotsUsed } : State).setVm s₂.vm), Ls ++ L, c0 + mc, s0 + ms⟩,
      ⟨X.admits, X.cas, X.clock, X.frames, X.room, X.hears, X.method, X.code, (X.here.setHeapUsed s₂.heap s₂.slotsUsed).setVm hW'.alike, X.tail, State.WarmedH.trans X.warmed hW', X.limits, X.bytes, X.same.trans (hsame.setVm s.vm)⟩,
      ⟨g, mk, s₂, L, E, ce, rfl, rfl, hx, hce, hcv, hcl, rfl, hL, rfl, rfl⟩, ?_⟩
    show Steps p.tables e below _ (((({ U with heap := s₂.heap, slotsUsed := s₂.slotsUsed } : State).setVm s₂.vm).setTop g).pushFrame (.throwing q))
    rw [← hs₂]
    exact hsteps
end
variable {p : Program} {l : Launch} {e : Env} {R : Room} {s : State} {m : MethodId} {args : Array Value} {below : List Frame} {meth : Method} {c : Code} {T : State} {H : Heap} {locs : List Loc} {cells slots : Nat}
theorem vx_callVX (X : Stand p l e R s m args below meth c T locs cells slots) (hexec : p.tables.exec = Jvm.exec) {own C : String} {index : Nat} {y : MethodName} {bytes : ByteArray} {maxL : Nat} {ret : Option FieldType} {hh : List (Nat × Nat × Nat × Nat)}
    (hown : s.vm.findClass own = some m.cls) (hlink : (Cond.methodLink own index y).before args s = true) (hinst : (Cond.instanceMethod y).before args s = true) (hsel : (Cond.selects C y y).before args s = true)
    (hcode : (Cond.codeWith y bytes maxL ret hh).before args s = true) (hy : y.cls ≠ "java/lang/invoke/MethodHandle" ∧ y.cls ≠ "java/lang/invoke/VarHandle")
    {W9 : Nat} {Pre : Pt → Array Value → Prop} {Post : Pt → Array Value → Option Value → Pt → Prop} {PostX : Pt → Array Value → Addr → Pt → Prop} (hK : vx_Back l R p e below s args y 3 W9 Pre Post PostX)
    {b : Addr} {cellB : Cell} (hcell : T.heap[b]? = some cellB) (hobj : cellB.vm.isStatics = false) (hcls : s.vm.findClass C = some cellB.cls)
    {g : JFrame} (hg : g.method = m) (hsize : g.locals.size = c.maxLocals) {argsL rest : List Value} (hlen : ∀ sig, parseMethodDescriptor y.desc = some sig → argsL.length = sig.parameters.length)
    (hstack : g.stack = argsL.reverse ++ .ref b :: rest) (hW : 2 * g.monitorRoom + (rest.map fun v => v.category).sum ≤ W9) (hdg : decode c.code g.pc = .ok (.invokevirtual index, 3))
    (hpre : ∀ vm₁, s.WarmedH vm₁ → Pre ⟨T.setVm vm₁, locs, cells, slots⟩ (Value.ref b :: argsL).toArray) :
    (∃ (v : Option Value) (vm₁ : Vm) (B : Pt), s.WarmedH vm₁ ∧ Stand p l e R s m args below meth c B.U B.locs B.cells B.slots ∧ Post ⟨T.setVm vm₁, locs, cells, slots⟩ (Value.ref b :: argsL).toArray v B ∧
      ∀ target, Steps p.tables e below (B.U.setTop { g with pc := g.pc + 3, stack := v.toList ++ rest }) target → Steps p.tables e below (T.setTop g) target) ∨
    (∃ (q : Addr) (vm₁ : Vm) (B : Pt), s.WarmedH vm₁ ∧ Stand p l e R s m args below meth c B.U B.locs B.cells B.slots ∧ PostX ⟨T.setVm vm₁, locs, cells, slots⟩ (Value.ref b :: argsL).toArray q B ∧
      Steps p.tables e below (T.setTop g) ((B.U.setTop { g with stack := rest }).pushFrame (.throwing q))) := by
  obtain ⟨mk, methM, hnamed, hmethM, hstM, habM⟩ := Cond.instanceMethod_spec hinst
  obtain ⟨m8, methM', cM, hn8, hmethM', -, -, -, -, -, -, hsigM⟩ := Cond.codeWith_spec hcode
  cases Option.some.inj (hn8.symm.trans hnamed)
  cases hmethM.symm.trans hmethM'
  obtain ⟨c2, r2, m2, q1, q2, q3, q4, kP, hkP, hkPi⟩ := Cond.selects_spec hsel
  cases hcls.symm.trans q1
  cases (State.methodFound?_of_named hnamed hy).symm.trans q2
  cases hnamed.symm.trans q3
  have hselP : selectMethod e.platform s.vm cellB.cls mk = .method mk := by rw [Launch.admits_selectMethod X.admits]; exact q4
  obtain ⟨vm₁, X₁, hstep₁⟩ := X.invokevirtual hexec hown hlink hnamed hmethM hstM hkP hkPi hy (a := b) (cell := cellB) hcell
    (fun z h => by rw [h] at hobj; cases hobj) hselP hmethM habM hkP hkPi (g := g) hg (argsL := argsL) (rest := rest) (hlen _ hsigM) hstack hdg
  rcases hK m meth c ⟨T.setVm vm₁, locs, cells, slots⟩ { g with stack := rest } (.invokevirtual index) mk (Value.ref b :: argsL).toArray X₁ hg hsize hdg hW (X₁.named hnamed) (hpre vm₁ X₁.warmed) with ⟨v, B, X', hpost, hsteps⟩ | ⟨q, B, X', hpost, hsteps⟩
  · exact Or.inl ⟨v, vm₁, B, X₁.warmed, X', hpost, fun target h => hstep₁ _ fun acts => by rw [doInvoke_state]; exact hsteps.trans h⟩
  · exact Or.inr ⟨q, vm₁, B, X₁.warmed, X', hpost, hstep₁ _ fun acts => by rw [doInvoke_state]; exact hsteps⟩
theorem vx_callSX (X : Stand p l e R s m args below meth c T locs cells slots) (hexec : p.tables.exec = Jvm.exec) {own : String} {index : Nat} {y : MethodName} {bytes : ByteArray} {maxL : Nat} {ret : Option FieldType} {hh : List (Nat × Nat × Nat × Nat)}
    (hown : s.vm.findClass own = some m.cls) (hlink : (Cond.methodLink own index y).before args s = true) (hstat : (Cond.static y).before args s = true) (hinit : (Cond.initialized y.cls).before args s = true)
    (hcode : (Cond.codeWith y bytes maxL ret hh).before args s = true) (hy : y.cls ≠ "java/lang/invoke/MethodHandle" ∧ y.cls ≠ "java/lang/invoke/VarHandle")
    {W9 : Nat} {Pre : Pt → Array Value → Prop} {Post : Pt → Array Value → Option Value → Pt → Prop} {PostX : Pt → Array Value → Addr → Pt → Prop} (hK : vx_Back l R p e below s args y 3 W9 Pre Post PostX)
    {g : JFrame} (hg : g.method = m) (hsize : g.locals.size = c.maxLocals) {argsL rest : List Value} (hlen : ∀ sig, parseMethodDescriptor y.desc = some sig → argsL.length = sig.parameters.length)
    (hstack : g.stack = argsL.reverse ++ rest) (hW : 2 * g.monitorRoom + (rest.map fun v => v.category).sum ≤ W9) (hdg : decode c.code g.pc = .ok (.invokestatic index, 3))
    (hpre : ∀ vm₁, s.WarmedH vm₁ → Pre ⟨T.setVm vm₁, locs, cells, slots⟩ argsL.toArray) :
    (∃ (v : Option Value) (vm₁ : Vm) (B : Pt), s.WarmedH vm₁ ∧ Stand p l e R s m args below meth c B.U B.locs B.cells B.slots ∧ Post ⟨T.setVm vm₁, locs, cells, slots⟩ argsL.toArray v B ∧
      ∀ target, Steps p.tables e below (B.U.setTop { g with pc := g.pc + 3, stack := v.toList ++ rest }) target → Steps p.tables e below (T.setTop g) target) ∨
    (∃ (q : Addr) (vm₁ : Vm) (B : Pt), s.WarmedH vm₁ ∧ Stand p l e R s m args below meth c B.U B.locs B.cells B.slots ∧ PostX ⟨T.setVm vm₁, locs, cells, slots⟩ argsL.toArray q B ∧
      Steps p.tables e below (T.setTop g) ((B.U.setTop { g with stack := rest }).pushFrame (.throwing q))) := by
  obtain ⟨mk, methM, cM, hnamed, hmethM, -, -, -, -, -, -, hsigM⟩ := Cond.codeWith_spec hcode
  have hstatic : methM.isStatic = true := Cond.static_spec hnamed hmethM hstat
  obtain ⟨kP, hkP, -⟩ := className_of_methodNamed hnamed
  have hinitP : kP.init = .initialized := Cond.initialized_spec (findClass_of_methodNamed hnamed) hkP hinit
  obtain ⟨vm₁, X₁, hstep₁⟩ := X.invokestatic hexec hown hlink hnamed hmethM hstatic hkP hinitP hy (g := g) hg (argsL := argsL) (rest := rest) (hlen _ hsigM) hstack hdg
  rcases hK m meth c ⟨T.setVm vm₁, locs, cells, slots⟩ { g with stack := rest } (.invokestatic index) mk argsL.toArray X₁ hg hsize hdg hW (X₁.named hnamed) (hpre vm₁ X₁.warmed) with ⟨v, B, X', hpost, hsteps⟩ | ⟨q, B, X', hpost, hsteps⟩
  · exact Or.inl ⟨v, vm₁, B, X₁.warmed, X', hpost, fun target h => hstep₁ _ fun acts => by rw [doInvoke_state]; exact hsteps.trans h⟩
  · exact Or.inr ⟨q, vm₁, B, X₁.warmed, X', hpost, hstep₁ _ fun acts => by rw [doInvoke_state]; exact hsteps⟩
theorem vx_callVW (X : Stand p l e R s m args below meth c T locs cells slots) (hexec : p.tables.exec = Jvm.exec) {own C : String} {index : Nat} {y : MethodName} {bytes : ByteArray} {maxL : Nat} {ret : Option FieldType} {hh : List (Nat × Nat × Nat × Nat)}
    (hown : s.vm.findClass own = some m.cls) (hlink : (Cond.methodLink own index y).before args s = true) (hinst : (Cond.instanceMethod y).before args s = true) (hsel : (Cond.selects C y y).before args s = true)
    (hcode : (Cond.codeWith y bytes maxL ret hh).before args s = true) (hy : y.cls ≠ "java/lang/invoke/MethodHandle" ∧ y.cls ≠ "java/lang/invoke/VarHandle")
    {W9 : Nat} {Pre : Pt → Array Value → Prop} {Post : Pt → Array Value → Option Value → Pt → Prop} (hK : Back l R p e below s args y 3 W9 Pre Post)
    {b : Addr} {cellB : Cell} (hcell : T.heap[b]? = some cellB) (hobj : cellB.vm.isStatics = false) (hcls : s.vm.findClass C = some cellB.cls)
    {g : JFrame} (hg : g.method = m) (hsize : g.locals.size = c.maxLocals) {argsL rest : List Value} (hlen : ∀ sig, parseMethodDescriptor y.desc = some sig → argsL.length = sig.parameters.length)
    (hstack : g.stack = argsL.reverse ++ .ref b :: rest) (hW : 2 * g.monitorRoom + (rest.map fun v => v.category).sum ≤ W9) (hdg : decode c.code g.pc = .ok (.invokevirtual index, 3))
    (hpre : ∀ vm₁, s.WarmedH vm₁ → Pre ⟨T.setVm vm₁, locs, cells, slots⟩ (Value.ref b :: argsL).toArray) :
    ∃ (v : Option Value) (vm₁ : Vm) (B : Pt), s.WarmedH vm₁ ∧ Stand p l e R s m args below meth c B.U B.locs B.cells B.slots ∧ Post ⟨T.setVm vm₁, locs, cells, slots⟩ (Value.ref b :: argsL).toArray v B ∧
      ∀ target, Steps p.tables e below (B.U.setTop { g with pc := g.pc + 3, stack := v.toList ++ rest }) target → Steps p.tables e below (T.setTop g) target := by
  obtain ⟨mk, methM, hnamed, hmethM, hstM, habM⟩ := Cond.instanceMethod_spec hinst
  obtain ⟨m8, methM', cM, hn8, hmethM', -, -, -, -, -, -, hsigM⟩ := Cond.codeWith_spec hcode
  cases Option.some.inj (hn8.symm.trans hnamed)
  cases hmethM.symm.trans hmethM'
  obtain ⟨c2, r2, m2, q1, q2, q3, q4, kP, hkP, hkPi⟩ := Cond.selects_spec hsel
  cases hcls.symm.trans q1
  cases (State.methodFound?_of_named hnamed hy).symm.trans q2
  cases hnamed.symm.trans q3
  have hselP : selectMethod e.platform s.vm cellB.cls mk = .method mk := by rw [Launch.admits_selectMethod X.admits]; exact q4
  obtain ⟨vm₁, X₁, hstep₁⟩ := X.invokevirtual hexec hown hlink hnamed hmethM hstM hkP hkPi hy (a := b) (cell := cellB) hcell
    (fun z h => by rw [h] at hobj; cases hobj) hselP hmethM habM hkP hkPi (g := g) hg (argsL := argsL) (rest := rest) (hlen _ hsigM) hstack hdg
  obtain ⟨v, B, X', hpost, hsteps⟩ := hK m meth c ⟨T.setVm vm₁, locs, cells, slots⟩ { g with stack := rest } (.invokevirtual index) mk (Value.ref b :: argsL).toArray X₁ hg hsize hdg hW (X₁.named hnamed) (hpre vm₁ X₁.warmed)
  exact ⟨v, vm₁, B, X₁.warmed, X', hpost, fun target h => hstep₁ _ fun acts => by rw [doInvoke_state]; exact hsteps.trans h⟩
abbrev vx_CVW (R : Room) (s : State) (args : Array Value) (own C : String) (index : Nat) (y : MethodName) (bytes : ByteArray) (maxL : Nat) (ret : Option FieldType) (hh : List (Nat × Nat × Nat × Nat)) (ws : List Cond) (rm : Room) (mc ms n : Nat) : Prop :=
  (rm.cells = mc ∧ rm.slots = ms ∧ rm.frames + 1 ≤ R.frames ∧ 8 + (maxL + 11) + rm.locals ≤ R.locals ∧ (∀ w ∈ ws, ∀ (a' : Array Value) (U : State), s.WarmedH U.vm → w.before a' U = true) ∧ Cond.codeWith y bytes maxL ret hh ∈ ws) ∧
  (Cond.codeWith y bytes maxL ret hh).before args s = true ∧ (Cond.initialized y.cls).before args s = true ∧ (y.cls ≠ "java/lang/invoke/MethodHandle" ∧ y.cls ≠ "java/lang/invoke/VarHandle") ∧
  (∀ sig, parseMethodDescriptor y.desc = some sig → n = sig.parameters.length) ∧ (Cond.methodLink own index y).before args s = true ∧ (Cond.instanceMethod y).before args s = true ∧ (Cond.selects C y y).before args s = true
theorem vx_cwVW {own C : String} {index maxL mc ms : Nat} {y : MethodName} {bytes : ByteArray} {ret : Option FieldType} {hh : List (Nat × Nat × Nat × Nat)} {Ts ws ws' : List Cond} {rm : Room} (n : Nat) (ht : ∀ w ∈ Ts, w.before args s = true) (hT : GoodIn Ts (wsV own index C y ws)) (hw : ws = Cond.codeWith y bytes maxL ret hh :: ws') (hrc : rm.cells = mc) (hrs : rm.slots = ms)
    (hd : y.cls = C ∧ y.cls ≠ "java/lang/invoke/MethodHandle" ∧ y.cls ≠ "java/lang/invoke/VarHandle" ∧ (parseMethodDescriptor y.desc).map (fun d => d.parameters.length) = some n) (hR : rm.frames + 1 ≤ R.frames ∧ 8 + (maxL + 11) + rm.locals ≤ R.locals) :
    vx_CVW R s args own C index y bytes maxL ret hh ws rm mc ms n := by
  obtain ⟨hC, hd⟩ := hd
  subst hC
  have ok : ∀ w ∈ wsV own index y.cls y ws, w.before args s = true := fun w h => ht w (hT w h).1
  have hG : GoodIn Ts ws := fun w h => hT w (by unfold wsV; exact List.mem_append_right _ h)
  have hc : Cond.codeWith y bytes maxL ret hh ∈ ws := by rw [hw]; exact List.mem_cons_self
  refine ⟨⟨hrc, hrs, hR.1, hR.2, pay_in ht hG, hc⟩, ht _ (hG _ hc).1, ok _ (by simp [wsV]), ⟨hd.1, hd.2.1⟩, fun sig h => ?_, ok _ (by simp [wsV]), ok _ (by simp [wsV]), ok _ (by simp [wsV])⟩
  have h2 := hd.2.2
  rw [h] at h2
  exact (Option.some.inj h2).symm
theorem vx_runVW {y : MethodName} {bytes cc : ByteArray} {maxL nL mc ms n index : Nat} {ret : Option FieldType} {hh : List (Nat × Nat × Nat × Nat)} {ws : List Cond} {rm : Room} {Pc : Array Value → State → Prop} {Qc : Array Value → State → Outcome → State → Prop} {free : Addr → Prop} {Ts : List Cond} {own C : String} {b : Addr} {As rest : List Value} {g : JFrame}
    (S : CallFix p m c cc nL s args Ts own) (hM : Met l y ws rm Pc Qc mc ms free) (cw : vx_CVW R s args own C index y bytes maxL ret hh ws rm mc ms n) (hp : PreV s H C b Pc As)
    (hg : g.method = m) (hn : As.length = n) (hsize : g.locals.size = nL) (hstack : g.stack = As.reverse ++ .ref b :: rest) (hW : 2 * g.monitorRoom + (rest.map fun v => v.category).sum ≤ 8) (hdg : decode cc g.pc = .ok (.invokevirtual index, 3)) (hf : cells + mc ≤ R.cells ∧ slots + ms ≤ R.slots) :
    va_Run p l e R s m args below meth c H locs cells slots mc ms g rest (Qc (Value.ref b :: As).toArray) free := by
  obtain ⟨⟨hrc, hrs, hfr, hlo, hws, hcw⟩, hcode, hini, hy, hlen, hl, hin, hse⟩ := cw
  have hK : Back l R p e below s args y 3 8 (PreOf R mc ms Pc) (PostOf Qc mc ms free) := va_backW (hh := hh) (bytes := bytes) (maxL := maxL) (ret := ret) hM hp.1 hrc hrs hfr hlo hws hcw (fun a' U hW => word_at hW (Or.inl (by first | rfl | simp [Cond.onTables, Cond.keeps, Cond.steady])) hini)
  obtain ⟨hx, hb, hml, ho, -⟩ := S
  obtain ⟨-, ⟨cellB, hcB, hoB, hclB⟩, hPc⟩ := hp
  intro T hT X
  obtain ⟨v, vm₁, ⟨U', l2, c2, s2⟩, hW₁, X', ⟨g', mk, t, L, e1, e2, hq, h1, hL, h2, h3⟩, st⟩ := vx_callVW X hx (C := C) (hh := hh) (bytes := bytes) (maxL := maxL) (ret := ret) ho hl hin hse hcode hy hK (by rw [hT]; exact hcB) hoB hclB hg (hsize.trans hml.symm) (argsL := As) (rest := rest) (fun sig h => hn.trans (hlen sig h)) hstack hW (by rw [hb]; exact hdg)
    (fun vm₁ hW₁ => ⟨hf.1, hf.2, hPc (T.setVm vm₁) hT hW₁⟩)
  dsimp only [Pt.U, Pt.locs, Pt.cells, Pt.slots] at X' e1 e2 h1 h2 h3 st
  subst h1; subst h2; subst h3
  exact ⟨v, (T.setVm vm₁).calling g' mk (Value.ref b :: As).toArray, t, U', L, hT, X', hL, e1, e2, hq, st⟩
section
variable {y : MethodName} {bytes cc : ByteArray} {maxL nL mc ms n index : Nat} {ret : Option FieldType} {ws : List Cond} {rm : Room} {Pc : Array Value → State → Prop} {Qc : Array Value → State → Outcome → State → Prop} {XC : String → State → State → Prop} {free : Addr → Prop} {Ts : List Cond} {own C : String} {b : Addr} {As rest : List Value} {g : JFrame}
theorem vx_runVX {hh : List (Nat × Nat × Nat × Nat)} (S : CallFix p m c cc nL s args Ts own) (hM : vx_Met l y ws rm Pc Qc XC mc ms free) (cw : vx_CVW R s args own C index y bytes maxL ret hh ws rm mc ms n) (hp : PreV s H C b Pc As)
    (hg : g.method = m) (hn : As.length = n) (hsize : g.locals.size = nL) (hstack : g.stack = As.reverse ++ .ref b :: rest) (hW : 2 * g.monitorRoom + (rest.map fun v => v.category).sum ≤ 8) (hdg : decode cc g.pc = .ok (.invokevirtual index, 3)) (hf : cells + mc ≤ R.cells ∧ slots + ms ≤ R.slots) :
    vx_Run p l e R s m args below meth c H locs cells slots mc ms g rest (Qc (Value.ref b :: As).toArray) XC free := by
  obtain ⟨⟨hrc, hrs, hfr, hlo, hws, hcw⟩, hcode, hini, hy, hlen, hl, hin, hse⟩ := cw
  have hK : vx_Back l R p e below s args y 3 8 (PreOf R mc ms Pc) (PostOf Qc mc ms free) (vx_Post XC mc ms free) := vx_backW (hh := hh) (bytes := bytes) (maxL := maxL) (ret := ret) hM hp.1 hrc hrs hfr hlo hws hcw (fun a' U hW => word_at hW (Or.inl (by first | rfl | simp [Cond.onTables, Cond.keeps, Cond.steady])) hini)
  obtain ⟨hx, hb, hml, ho, -⟩ := S
  obtain ⟨-, ⟨cellB, hcB, hoB, hclB⟩, hPc⟩ := hp
  intro T hT X
  rcases vx_callVX X hx (C := C) (hh := hh) (bytes := bytes) (maxL := maxL) (ret := ret) ho hl hin hse hcode hy hK (by rw [hT]; exact hcB) hoB hclB hg (hsize.trans hml.symm) (argsL := As) (rest := rest) (fun sig h => hn.trans (hlen sig h)) hstack hW (by rw [hb]; exact hdg)
    (fun vm₁ hW₁ => ⟨hf.1, hf.2, hPc (T.setVm vm₁) hT hW₁⟩) with ⟨v, vm₁, ⟨U', l2, c2, s2⟩, hW₁, X', ⟨g', mk, t, L, e1, e2, hq, h1, hL, h2, h3⟩, st⟩ | ⟨q, vm₁, ⟨U', l2, c2, s2⟩, hW₁, X', ⟨g', mk, t, L, E, ce, e1, e2, hq, hce, hcv, hcl, h1, hL, h2, h3⟩, st⟩
  · dsimp only [Pt.U, Pt.locs, Pt.cells, Pt.slots] at X' e1 e2 h1 h2 h3 st
    subst h1; subst h2; subst h3
    exact Or.inl ⟨v, (T.setVm vm₁).calling g' mk (Value.ref b :: As).toArray, t, U', L, hT, X', hL, e1, e2, hq, st⟩
  · dsimp only [Pt.U, Pt.locs, Pt.cells, Pt.slots] at X' e1 e2 h1 h2 h3 st hcl
    subst h1; subst h2; subst h3
    exact Or.inr ⟨q, (T.setVm vm₁).calling g' mk (Value.ref b :: As).toArray, t, U', L, E, ce, hT, X', hL, e1, e2, hq, hce, hcv, vx_cls hW₁ hcl, st⟩
theorem vx_runSX {hh : List (Nat × Nat × Nat × Nat)} (S : CallFix p m c cc nL s args Ts own) (hM : vx_Met l y ws rm Pc Qc XC mc ms free) (cw : vx_CSW R s args own index y bytes maxL ret hh ws rm mc ms n) (hp : PreS s H Pc As)
    (hg : g.method = m) (hn : As.length = n) (hsize : g.locals.size = nL) (hstack : g.stack = As.reverse ++ rest) (hW : 2 * g.monitorRoom + (rest.map fun v => v.category).sum ≤ 8) (hdg : decode cc g.pc = .ok (.invokestatic index, 3)) (hf : cells + mc ≤ R.cells ∧ slots + ms ≤ R.slots) :
    vx_Run p l e R s m args below meth c H locs cells slots mc ms g rest (Qc As.toArray) XC free := by
  obtain ⟨⟨hrc, hrs, hfr, hlo, hws, hcw⟩, hcode, hini, hy, hlen, hl, hstt⟩ := cw
  have hK : vx_Back l R p e below s args y 3 8 (PreOf R mc ms Pc) (PostOf Qc mc ms free) (vx_Post XC mc ms free) := vx_backW (hh := hh) (bytes := bytes) (maxL := maxL) (ret := ret) hM hp.1 hrc hrs hfr hlo hws hcw (fun a' U hW => word_at hW (Or.inl (by first | rfl | simp [Cond.onTables, Cond.keeps, Cond.steady])) hini)
  obtain ⟨hx, hb, hml, ho, -⟩ := S
  intro T hT X
  rcases vx_callSX X hx (hh := hh) (bytes := bytes) (maxL := maxL) (ret := ret) ho hl hstt hini hcode hy hK hg (hsize.trans hml.symm) (argsL := As) (rest := rest) (fun sig h => hn.trans (hlen sig h)) hstack hW (by rw [hb]; exact hdg)
    (fun vm₁ hW₁ => ⟨hf.1, hf.2, hp.2 (T.setVm vm₁) hT hW₁⟩) with ⟨v, vm₁, ⟨U', l2, c2, s2⟩, hW₁, X', ⟨g', mk, t, L, e1, e2, hq, h1, hL, h2, h3⟩, st⟩ | ⟨q, vm₁, ⟨U', l2, c2, s2⟩, hW₁, X', ⟨g', mk, t, L, E, ce, e1, e2, hq, hce, hcv, hcl, h1, hL, h2, h3⟩, st⟩
  · dsimp only [Pt.U, Pt.locs, Pt.cells, Pt.slots] at X' e1 e2 h1 h2 h3 st
    subst h1; subst h2; subst h3
    exact Or.inl ⟨v, (T.setVm vm₁).calling g' mk As.toArray, t, U', L, hT, X', hL, e1, e2, hq, st⟩
  · dsimp only [Pt.U, Pt.locs, Pt.cells, Pt.slots] at X' e1 e2 h1 h2 h3 st hcl
    subst h1; subst h2; subst h3
    exact Or.inr ⟨q, (T.setVm vm₁).calling g' mk As.toArray, t, U', L, E, ce, hT, X', hL, e1, e2, hq, hce, hcv, vx_cls hW₁ hcl, st⟩
end
end VXH
theorem vx_ofWH {l : Launch} {y : MethodName} {ws ws' : List Cond} {rm : Room} {Pc : Array Value → State → Prop} {Qc : Array Value → State → Outcome → State → Prop} {XC : String → State → State → Prop} {mc ms : Nat} {free : Addr → Prop} {cc : ByteArray} {maxL : Nat} {ret : Option FieldType} {hh : List (Nat × Nat × Nat × Nat)}
    (hy : plainName y.cls = true) (hw : ws = Cond.codeWith y cc maxL ret hh :: ws')
    (body : ∀ p e s m args below meth c s₁, BodyLoose p l y (headSpec ws rm) cc maxL ret e s m args below meth c s₁ → c.maxLocals = maxL → Pc args s →
      W p l e (headSpec ws rm).room s m args below meth c s.heap [] 0 0 (vx_MQ below Qc XC args s mc ms free) (entryFrame m args maxL)) : vx_Met l y ws rm Pc Qc XC mc ms free := by
  refine MetFree.of_bodyS (code := cc) (maxLocals := maxL) (ret := ret) hy ?_ ?_
  · intro args s m h hn
    obtain ⟨m9, meth, c, hn9, h1, h2, h3, h4, -, h5, h6, -⟩ := Cond.codeWith_spec (atoms_spec (ws := ws) h _ (by rw [hw]; exact List.mem_cons_self))
    cases hn.symm.trans hn9
    exact ⟨meth, c, h1, h2, h3, h4, h5, h6⟩
  · intro p e s m args below meth c s₁ B hml hP _
    have hh0 : s₁.heap = s.heap := by rw [B.state]; rfl
    obtain ⟨t, a1, o, b1, b2, b3⟩ := body p e s m args below meth c s₁ B hml hP s₁ hh0 (Stand.of_body B)
    exact ⟨t, o, a1, b1, b2, b3⟩
/-! ===== END ===== -/
end
section
/-! ===== BEGIN printed: names, fields, word lists, decode rows ===== -/
def RX0 : String := "CountLearners$Fractions"
def TX0 : u_T := fun k => match k with
  | _ => ("", "", "", false)
def tyX0 : Nat → FieldType := fun k => match k with
  | _ => .int
abbrev wsX00 : List Cond := u_ws RX0 TX0 0
theorem nmX0 : ∀ a, a < 0 → ∀ b, b < 0 → a ≠ b → (TX0 a).2.1 ≠ (TX0 b).2.1 := by decide +kernel
theorem tyX0_ok : ∀ k, k < 0 → parseFieldDescriptor (TX0 k).2.2.1 = some (tyX0 k) := by decide +kernel
abbrev cX0_sideOf : ByteArray := prog_2_method_2_code
def yX0_sideOf : MethodName := ⟨RX0, "sideOf", "(JJI)J"⟩
abbrev cX0_commonDivisor : ByteArray := prog_2_method_3_code
def yX0_commonDivisor : MethodName := ⟨RX0, "commonDivisor", "(JJ)J"⟩
abbrev cX0_isAbove : ByteArray := prog_2_method_4_code
def yX0_isAbove : MethodName := ⟨RX0, "isAbove", "(JJJJ)Z"⟩
def RX1 : String := "CountLearners$HiddenStates"
def TX1 : u_T := fun k => match k with
  | 0 => ("CountLearners$HiddenStates", "weights", "[I", true)
  | 1 => ("CountLearners$HiddenStates", "freshWeights", "[I", true)
  | 2 => ("CountLearners$HiddenStates", "signs", "[I", true)
  | 3 => ("CountLearners$HiddenStates", "lengths", "[I", true)
  | 4 => ("CountLearners$HiddenStates", "sums", "[J", true)
  | 5 => ("CountLearners$HiddenStates", "nextSums", "[J", true)
  | 6 => ("CountLearners$HiddenStates", "bestFrom", "[J", true)
  | _ => ("CountLearners$HiddenStates", "bestPath", "[I", true)
def tyX1 : Nat → FieldType := fun k => match k with
  | 0 => .array .int
  | 1 => .array .int
  | 2 => .array .int
  | 3 => .array .int
  | 4 => .array .long
  | 5 => .array .long
  | 6 => .array .long
  | _ => .array .int
abbrev wsX10 : List Cond := u_ws RX1 TX1 8
theorem nmX1 : ∀ a, a < 8 → ∀ b, b < 8 → a ≠ b → (TX1 a).2.1 ≠ (TX1 b).2.1 := by decide +kernel
theorem tyX1_ok : ∀ k, k < 8 → parseFieldDescriptor (TX1 k).2.2.1 = some (tyX1 k) := by decide +kernel
abbrev cX1_init : ByteArray := prog_3_method_1_code
def yX1_init : MethodName := ⟨RX1, "<init>", "()V"⟩
abbrev cX1_isRow : ByteArray := prog_3_method_2_code
def yX1_isRow : MethodName := ⟨RX1, "isRow", "(I)Z"⟩
abbrev cX1_isSign : ByteArray := prog_3_method_3_code
def yX1_isSign : MethodName := ⟨RX1, "isSign", "(I)Z"⟩
abbrev cX1_isState : ByteArray := prog_3_method_4_code
def yX1_isState : MethodName := ⟨RX1, "isState", "(I)Z"⟩
abbrev cX1_placeOf : ByteArray := prog_3_method_5_code
def yX1_placeOf : MethodName := ⟨RX1, "placeOf", "(III)I"⟩
abbrev cX1_moveAt : ByteArray := prog_3_method_6_code
def yX1_moveAt : MethodName := ⟨RX1, "moveAt", "(II)I"⟩
abbrev cX1_showAt : ByteArray := prog_3_method_7_code
def yX1_showAt : MethodName := ⟨RX1, "showAt", "(II)I"⟩
abbrev cX1_reweigh : ByteArray := prog_3_method_8_code
def yX1_reweigh : MethodName := ⟨RX1, "reweigh", "(II)I"⟩
abbrev cX1_isFullRow : ByteArray := prog_3_method_9_code
def yX1_isFullRow : MethodName := ⟨RX1, "isFullRow", "(I)Z"⟩
abbrev cX1_hasPlace : ByteArray := prog_3_method_10_code
def yX1_hasPlace : MethodName := ⟨RX1, "hasPlace", "(II)Z"⟩
abbrev cX1_append : ByteArray := prog_3_method_11_code
def yX1_append : MethodName := ⟨RX1, "append", "(II)I"⟩
abbrev cX1_signsOfAll : ByteArray := prog_3_method_12_code
def yX1_signsOfAll : MethodName := ⟨RX1, "signsOfAll", "()I"⟩
abbrev cX1_totalOf : ByteArray := prog_3_method_13_code
def yX1_totalOf : MethodName := ⟨RX1, "totalOf", "(I)J"⟩
abbrev cX1_totalThrough : ByteArray := prog_3_method_14_code
def yX1_totalThrough : MethodName := ⟨RX1, "totalThrough", "(III)J"⟩
abbrev cX1_sumInto : ByteArray := prog_3_method_15_code
def yX1_sumInto : MethodName := ⟨RX1, "sumInto", "(I)J"⟩
abbrev cX1_shown : ByteArray := prog_3_method_16_code
def yX1_shown : MethodName := ⟨RX1, "shown", "(III)I"⟩
abbrev cX1_findBestPath : ByteArray := prog_3_method_17_code
def yX1_findBestPath : MethodName := ⟨RX1, "findBestPath", "(I)Z"⟩
abbrev cX1_stateOnBestPath : ByteArray := prog_3_method_18_code
def yX1_stateOnBestPath : MethodName := ⟨RX1, "stateOnBestPath", "(I)I"⟩
abbrev cX1_bestStart : ByteArray := prog_3_method_19_code
def yX1_bestStart : MethodName := ⟨RX1, "bestStart", "()I"⟩
abbrev cX1_bestOnward : ByteArray := prog_3_method_20_code
def yX1_bestOnward : MethodName := ⟨RX1, "bestOnward", "(II)I"⟩
abbrev cX1_weightOnward : ByteArray := prog_3_method_21_code
def yX1_weightOnward : MethodName := ⟨RX1, "weightOnward", "(III)J"⟩
abbrev cX1_weighAnew : ByteArray := prog_3_method_22_code
def yX1_weighAnew : MethodName := ⟨RX1, "weighAnew", "()Z"⟩
abbrev cX1_countBestPath : ByteArray := prog_3_method_23_code
def yX1_countBestPath : MethodName := ⟨RX1, "countBestPath", "(I)V"⟩
def RX2 : String := "CountLearners$LabelledRows"
def TX2 : u_T := fun k => match k with
  | 0 => ("CountLearners$LabelledRows", "labels", "[I", true)
  | 1 => ("CountLearners$LabelledRows", "guesses", "[I", true)
  | 2 => ("CountLearners$LabelledRows", "lengths", "[I", true)
  | 3 => ("CountLearners$LabelledRows", "words", "[I", true)
  | 4 => ("CountLearners$LabelledRows", "times", "[I", true)
  | 5 => ("CountLearners$LabelledRows", "totals", "[I", true)
  | 6 => ("CountLearners$LabelledRows", "sizes", "[I", true)
  | 7 => ("CountLearners$LabelledRows", "rowCount", "I", false)
  | 8 => ("CountLearners$LabelledRows", "addedUp", "I", false)
  | _ => ("CountLearners$LabelledRows", "addedDown", "I", false)
def tyX2 : Nat → FieldType := fun k => match k with
  | 0 => .array .int
  | 1 => .array .int
  | 2 => .array .int
  | 3 => .array .int
  | 4 => .array .int
  | 5 => .array .int
  | 6 => .array .int
  | 7 => .int
  | 8 => .int
  | _ => .int
abbrev wsX20 : List Cond := u_ws RX2 TX2 10
theorem nmX2 : ∀ a, a < 10 → ∀ b, b < 10 → a ≠ b → (TX2 a).2.1 ≠ (TX2 b).2.1 := by decide +kernel
theorem tyX2_ok : ∀ k, k < 10 → parseFieldDescriptor (TX2 k).2.2.1 = some (tyX2 k) := by decide +kernel
abbrev cX2_init : ByteArray := prog_4_method_1_code
def yX2_init : MethodName := ⟨RX2, "<init>", "()V"⟩
abbrev cX2_has : ByteArray := prog_4_method_2_code
def yX2_has : MethodName := ⟨RX2, "has", "(I)Z"⟩
abbrev cX2_isFull : ByteArray := prog_4_method_3_code
def yX2_isFull : MethodName := ⟨RX2, "isFull", "()Z"⟩
abbrev cX2_isFullRow : ByteArray := prog_4_method_4_code
def yX2_isFullRow : MethodName := ⟨RX2, "isFullRow", "(I)Z"⟩
abbrev cX2_size : ByteArray := prog_4_method_5_code
def yX2_size : MethodName := ⟨RX2, "size", "()I"⟩
abbrev cX2_labelledRows : ByteArray := prog_4_method_6_code
def yX2_labelledRows : MethodName := ⟨RX2, "labelledRows", "()I"⟩
abbrev cX2_open : ByteArray := prog_4_method_7_code
def yX2_open : MethodName := ⟨RX2, "open", "(I)I"⟩
abbrev cX2_append : ByteArray := prog_4_method_8_code
def yX2_append : MethodName := ⟨RX2, "append", "(II)I"⟩
abbrev cX2_relabel : ByteArray := prog_4_method_9_code
def yX2_relabel : MethodName := ⟨RX2, "relabel", "(II)I"⟩
abbrev cX2_setAddition : ByteArray := prog_4_method_10_code
def yX2_setAddition : MethodName := ⟨RX2, "setAddition", "(II)V"⟩
abbrev cX2_timesIn : ByteArray := prog_4_method_11_code
def yX2_timesIn : MethodName := ⟨RX2, "timesIn", "(II)I"⟩
abbrev cX2_wordsIn : ByteArray := prog_4_method_12_code
def yX2_wordsIn : MethodName := ⟨RX2, "wordsIn", "(I)I"⟩
abbrev cX2_rowsIn : ByteArray := prog_4_method_13_code
def yX2_rowsIn : MethodName := ⟨RX2, "rowsIn", "(I)I"⟩
abbrev cX2_guessOf : ByteArray := prog_4_method_14_code
def yX2_guessOf : MethodName := ⟨RX2, "guessOf", "(I)I"⟩
abbrev cX2_wordSet : ByteArray := prog_4_method_15_code
def yX2_wordSet : MethodName := ⟨RX2, "wordSet", "(I)I"⟩
abbrev cX2_shareUpper : ByteArray := prog_4_method_16_code
def yX2_shareUpper : MethodName := ⟨RX2, "shareUpper", "(II)J"⟩
abbrev cX2_shareLower : ByteArray := prog_4_method_17_code
def yX2_shareLower : MethodName := ⟨RX2, "shareLower", "(I)J"⟩
abbrev cX2_weightUpper : ByteArray := prog_4_method_18_code
def yX2_weightUpper : MethodName := ⟨RX2, "weightUpper", "(II)J"⟩
abbrev cX2_weightLower : ByteArray := prog_4_method_19_code
def yX2_weightLower : MethodName := ⟨RX2, "weightLower", "(II)J"⟩
abbrev cX2_bestLabel : ByteArray := prog_4_method_20_code
def yX2_bestLabel : MethodName := ⟨RX2, "bestLabel", "(I)I"⟩
abbrev cX2_guessAnew : ByteArray := prog_4_method_21_code
def yX2_guessAnew : MethodName := ⟨RX2, "guessAnew", "()Z"⟩
abbrev cX2_startAnew : ByteArray := prog_4_method_22_code
def yX2_startAnew : MethodName := ⟨RX2, "startAnew", "()V"⟩
abbrev cX2_tally : ByteArray := prog_4_method_23_code
def yX2_tally : MethodName := ⟨RX2, "tally", "()V"⟩
abbrev cX2_tallyRow : ByteArray := prog_4_method_24_code
def yX2_tallyRow : MethodName := ⟨RX2, "tallyRow", "(II)V"⟩
def RX3 : String := "CountLearners$TextTables"
def TX3 : u_T := fun k => match k with
  | 0 => ("CountLearners$TextTables", "text", "[I", true)
  | 1 => ("CountLearners$TextTables", "behind", "[I", true)
  | 2 => ("CountLearners$TextTables", "uppers", "[J", true)
  | 3 => ("CountLearners$TextTables", "lower", "J", false)
  | _ => ("CountLearners$TextTables", "textLength", "I", false)
def tyX3 : Nat → FieldType := fun k => match k with
  | 0 => .array .int
  | 1 => .array .int
  | 2 => .array .long
  | 3 => .long
  | _ => .int
abbrev wsX30 : List Cond := u_ws RX3 TX3 5
theorem nmX3 : ∀ a, a < 5 → ∀ b, b < 5 → a ≠ b → (TX3 a).2.1 ≠ (TX3 b).2.1 := by decide +kernel
theorem tyX3_ok : ∀ k, k < 5 → parseFieldDescriptor (TX3 k).2.2.1 = some (tyX3 k) := by decide +kernel
abbrev cX3_init : ByteArray := prog_5_method_1_code
def yX3_init : MethodName := ⟨RX3, "<init>", "()V"⟩
abbrev cX3_isFull : ByteArray := prog_5_method_2_code
def yX3_isFull : MethodName := ⟨RX3, "isFull", "()Z"⟩
abbrev cX3_length : ByteArray := prog_5_method_3_code
def yX3_length : MethodName := ⟨RX3, "length", "()I"⟩
abbrev cX3_append : ByteArray := prog_5_method_4_code
def yX3_append : MethodName := ⟨RX3, "append", "(I)I"⟩
abbrev cX3_upperOf : ByteArray := prog_5_method_5_code
def yX3_upperOf : MethodName := ⟨RX3, "upperOf", "(I)J"⟩
abbrev cX3_lowerOfAll : ByteArray := prog_5_method_6_code
def yX3_lowerOfAll : MethodName := ⟨RX3, "lowerOfAll", "()J"⟩
abbrev cX3_greatest : ByteArray := prog_5_method_7_code
def yX3_greatest : MethodName := ⟨RX3, "greatest", "()I"⟩
abbrev cX3_fill : ByteArray := prog_5_method_8_code
def yX3_fill : MethodName := ⟨RX3, "fill", "(II)V"⟩
abbrev cX3_fillFirst : ByteArray := prog_5_method_9_code
def yX3_fillFirst : MethodName := ⟨RX3, "fillFirst", "()V"⟩
abbrev cX3_countBehind : ByteArray := prog_5_method_10_code
def yX3_countBehind : MethodName := ⟨RX3, "countBehind", "(II)V"⟩
abbrev cX3_putAbove : ByteArray := prog_5_method_11_code
def yX3_putAbove : MethodName := ⟨RX3, "putAbove", "()V"⟩
abbrev cX3_takeCounts : ByteArray := prog_5_method_12_code
def yX3_takeCounts : MethodName := ⟨RX3, "takeCounts", "(I)V"⟩
abbrev cX3_handDown : ByteArray := prog_5_method_13_code
def yX3_handDown : MethodName := ⟨RX3, "handDown", "(IIJ)V"⟩
def RX4 : String := "CountLearners$WordRules"
def TX4 : u_T := fun k => match k with
  | 0 => ("CountLearners$WordRules", "support", "[I", true)
  | 1 => ("CountLearners$WordRules", "having", "[I", true)
  | 2 => ("CountLearners$WordRules", "keys", "[I", true)
  | _ => ("CountLearners$WordRules", "ruleCount", "I", false)
def tyX4 : Nat → FieldType := fun k => match k with
  | 0 => .array .int
  | 1 => .array .int
  | 2 => .array .int
  | _ => .int
abbrev wsX40 : List Cond := u_ws RX4 TX4 4
theorem nmX4 : ∀ a, a < 4 → ∀ b, b < 4 → a ≠ b → (TX4 a).2.1 ≠ (TX4 b).2.1 := by decide +kernel
theorem tyX4_ok : ∀ k, k < 4 → parseFieldDescriptor (TX4 k).2.2.1 = some (tyX4 k) := by decide +kernel
abbrev cX4_init : ByteArray := prog_6_method_1_code
def yX4_init : MethodName := ⟨RX4, "<init>", "()V"⟩
abbrev cX4_has : ByteArray := prog_6_method_2_code
def yX4_has : MethodName := ⟨RX4, "has", "(I)Z"⟩
abbrev cX4_size : ByteArray := prog_6_method_3_code
def yX4_size : MethodName := ⟨RX4, "size", "()I"⟩
abbrev cX4_partOf : ByteArray := prog_6_method_4_code
def yX4_partOf : MethodName := ⟨RX4, "partOf", "(II)I"⟩
abbrev cX4_gather : ByteArray := prog_6_method_5_code
def yX4_gather : MethodName := ⟨RX4, "gather", "(LCountLearners$LabelledRows;)V"⟩
abbrev cX4_countSet : ByteArray := prog_6_method_6_code
def yX4_countSet : MethodName := ⟨RX4, "countSet", "(I)V"⟩
abbrev cX4_countPairs : ByteArray := prog_6_method_7_code
def yX4_countPairs : MethodName := ⟨RX4, "countPairs", "(II)V"⟩
abbrev cX4_keyOf : ByteArray := prog_6_method_8_code
def yX4_keyOf : MethodName := ⟨RX4, "keyOf", "(I)I"⟩
abbrev cX4_insert : ByteArray := prog_6_method_9_code
def yX4_insert : MethodName := ⟨RX4, "insert", "(I)V"⟩
def RX5 : String := "CountLearners"
def TX5 : u_T := fun k => match k with
  | 0 => ("CountLearners", "rows", "LCountLearners$LabelledRows;", true)
  | 1 => ("CountLearners", "tables", "LCountLearners$TextTables;", true)
  | 2 => ("CountLearners", "states", "LCountLearners$HiddenStates;", true)
  | _ => ("CountLearners", "rules", "LCountLearners$WordRules;", true)
def tyX5 : Nat → FieldType := fun k => match k with
  | 0 => .object "CountLearners$LabelledRows"
  | 1 => .object "CountLearners$TextTables"
  | 2 => .object "CountLearners$HiddenStates"
  | _ => .object "CountLearners$WordRules"
abbrev wsX50 : List Cond := u_ws RX5 TX5 4
theorem nmX5 : ∀ a, a < 4 → ∀ b, b < 4 → a ≠ b → (TX5 a).2.1 ≠ (TX5 b).2.1 := by decide +kernel
theorem tyX5_ok : ∀ k, k < 4 → parseFieldDescriptor (TX5 k).2.2.1 = some (tyX5 k) := by decide +kernel
abbrev cX5_init : ByteArray := prog_1_method_1_code
def yX5_init : MethodName := ⟨RX5, "<init>", "()V"⟩
abbrev cX5_row : ByteArray := prog_1_method_2_code
def yX5_row : MethodName := ⟨RX5, "row", "(I)I"⟩
abbrev cX5_word : ByteArray := prog_1_method_3_code
def yX5_word : MethodName := ⟨RX5, "word", "(II)I"⟩
abbrev cX5_label : ByteArray := prog_1_method_4_code
def yX5_label : MethodName := ⟨RX5, "label", "(II)I"⟩
abbrev cX5_addition : ByteArray := prog_1_method_5_code
def yX5_addition : MethodName := ⟨RX5, "addition", "(II)I"⟩
abbrev cX5_counted : ByteArray := prog_1_method_6_code
def yX5_counted : MethodName := ⟨RX5, "counted", "(II)I"⟩
abbrev cX5_share : ByteArray := prog_1_method_7_code
def yX5_share : MethodName := ⟨RX5, "share", "(III)J"⟩
abbrev cX5_weight : ByteArray := prog_1_method_8_code
def yX5_weight : MethodName := ⟨RX5, "weight", "(III)J"⟩
abbrev cX5_best : ByteArray := prog_1_method_9_code
def yX5_best : MethodName := ⟨RX5, "best", "(I)I"⟩
abbrev cX5_rounds : ByteArray := prog_1_method_10_code
def yX5_rounds : MethodName := ⟨RX5, "rounds", "(I)I"⟩
abbrev cX5_guess : ByteArray := prog_1_method_11_code
def yX5_guess : MethodName := ⟨RX5, "guess", "(I)I"⟩
abbrev cX5_text : ByteArray := prog_1_method_12_code
def yX5_text : MethodName := ⟨RX5, "text", "(I)I"⟩
abbrev cX5_next : ByteArray := prog_1_method_13_code
def yX5_next : MethodName := ⟨RX5, "next", "(IIII)J"⟩
abbrev cX5_likely : ByteArray := prog_1_method_14_code
def yX5_likely : MethodName := ⟨RX5, "likely", "(II)I"⟩
abbrev cX5_weigh : ByteArray := prog_1_method_15_code
def yX5_weigh : MethodName := ⟨RX5, "weigh", "(IIII)I"⟩
abbrev cX5_sign : ByteArray := prog_1_method_16_code
def yX5_sign : MethodName := ⟨RX5, "sign", "(II)I"⟩
abbrev cX5_path : ByteArray := prog_1_method_17_code
def yX5_path : MethodName := ⟨RX5, "path", "(II)I"⟩
abbrev cX5_total : ByteArray := prog_1_method_18_code
def yX5_total : MethodName := ⟨RX5, "total", "(I)J"⟩
abbrev cX5_at : ByteArray := prog_1_method_19_code
def yX5_at : MethodName := ⟨RX5, "at", "(IIII)J"⟩
abbrev cX5_learn : ByteArray := prog_1_method_20_code
def yX5_learn : MethodName := ⟨RX5, "learn", "(I)I"⟩
abbrev cX5_rule : ByteArray := prog_1_method_21_code
def yX5_rule : MethodName := ⟨RX5, "rule", "(II)I"⟩
abbrev cX5_count : ByteArray := prog_1_method_22_code
def yX5_count : MethodName := ⟨RX5, "count", "(I)I"⟩
abbrev cX5_isWithin : ByteArray := prog_1_method_23_code
def yX5_isWithin : MethodName := ⟨RX5, "isWithin", "(III)Z"⟩
abbrev cX5_isWord : ByteArray := prog_1_method_24_code
def yX5_isWord : MethodName := ⟨RX5, "isWord", "(I)Z"⟩
abbrev cX5_isLabel : ByteArray := prog_1_method_25_code
def yX5_isLabel : MethodName := ⟨RX5, "isLabel", "(I)Z"⟩
abbrev cX5_isLabelOrNone : ByteArray := prog_1_method_26_code
def yX5_isLabelOrNone : MethodName := ⟨RX5, "isLabelOrNone", "(I)Z"⟩
abbrev cX5_isSide : ByteArray := prog_1_method_27_code
def yX5_isSide : MethodName := ⟨RX5, "isSide", "(I)Z"⟩
abbrev cX5_isTable : ByteArray := prog_1_method_28_code
def yX5_isTable : MethodName := ⟨RX5, "isTable", "(II)Z"⟩
abbrev cX5_setAll : ByteArray := prog_1_method_29_code
def yX5_setAll : MethodName := ⟨RX5, "setAll", "([II)V"⟩
def RX6 : String := "CountLearnersModel"
def TX6 : u_T := fun k => match k with
  | 0 => ("CountLearnersModel", "thrown", "I", false)
  | 1 => ("CountLearnersModel", "rows", "I", false)
  | 2 => ("CountLearnersModel", "labels", "[I", true)
  | 3 => ("CountLearnersModel", "guesses", "[I", true)
  | 4 => ("CountLearnersModel", "comes", "[I", true)
  | 5 => ("CountLearnersModel", "sizes", "[I", true)
  | 6 => ("CountLearnersModel", "words", "[I", true)
  | 7 => ("CountLearnersModel", "up", "I", false)
  | 8 => ("CountLearnersModel", "down", "I", false)
  | 9 => ("CountLearnersModel", "weightAbove", "J", false)
  | 10 => ("CountLearnersModel", "weightBelow", "J", false)
  | 11 => ("CountLearnersModel", "told", "[I", true)
  | 12 => ("CountLearnersModel", "length", "I", false)
  | 13 => ("CountLearnersModel", "behind", "[I", true)
  | 14 => ("CountLearnersModel", "shares", "[J", true)
  | 15 => ("CountLearnersModel", "over", "J", false)
  | 16 => ("CountLearnersModel", "start", "[I", true)
  | 17 => ("CountLearnersModel", "move", "[I", true)
  | 18 => ("CountLearnersModel", "show", "[I", true)
  | 19 => ("CountLearnersModel", "signs", "[I", true)
  | 20 => ("CountLearnersModel", "many", "[I", true)
  | 21 => ("CountLearnersModel", "bestPath", "[I", true)
  | 22 => ("CountLearnersModel", "nextStart", "[I", true)
  | 23 => ("CountLearnersModel", "nextMove", "[I", true)
  | _ => ("CountLearnersModel", "nextShow", "[I", true)
def tyX6 : Nat → FieldType := fun k => match k with
  | 0 => .int
  | 1 => .int
  | 2 => .array .int
  | 3 => .array .int
  | 4 => .array .int
  | 5 => .array .int
  | 6 => .array .int
  | 7 => .int
  | 8 => .int
  | 9 => .long
  | 10 => .long
  | 11 => .array .int
  | 12 => .int
  | 13 => .array .int
  | 14 => .array .long
  | 15 => .long
  | 16 => .array .int
  | 17 => .array .int
  | 18 => .array .int
  | 19 => .array .int
  | 20 => .array .int
  | 21 => .array .int
  | 22 => .array .int
  | 23 => .array .int
  | _ => .array .int
abbrev wsX60 : List Cond := u_ws RX6 TX6 25
theorem nmX6 : ∀ a, a < 25 → ∀ b, b < 25 → a ≠ b → (TX6 a).2.1 ≠ (TX6 b).2.1 := by decide +kernel
theorem tyX6_ok : ∀ k, k < 25 → parseFieldDescriptor (TX6 k).2.2.1 = some (tyX6 k) := by decide +kernel
abbrev cX6_init : ByteArray := prog_8_method_1_code
def yX6_init : MethodName := ⟨RX6, "<init>", "()V"⟩
abbrev cX6_thrown : ByteArray := prog_8_method_2_code
def yX6_thrown : MethodName := ⟨RX6, "thrown", "()I"⟩
abbrev cX6_within : ByteArray := prog_8_method_3_code
def yX6_within : MethodName := ⟨RX6, "within", "(III)Z"⟩
abbrev cX6_measure : ByteArray := prog_8_method_4_code
def yX6_measure : MethodName := ⟨RX6, "measure", "(JJ)J"⟩
abbrev cX6_side : ByteArray := prog_8_method_5_code
def yX6_side : MethodName := ⟨RX6, "side", "(JJI)J"⟩
abbrev cX6_isAbove : ByteArray := prog_8_method_6_code
def yX6_isAbove : MethodName := ⟨RX6, "isAbove", "(JJJJ)Z"⟩
abbrev cX6_isRow : ByteArray := prog_8_method_7_code
def yX6_isRow : MethodName := ⟨RX6, "isRow", "(I)Z"⟩
abbrev cX6_forget : ByteArray := prog_8_method_8_code
def yX6_forget : MethodName := ⟨RX6, "forget", "()V"⟩
abbrev cX6_mayBe : ByteArray := prog_8_method_9_code
def yX6_mayBe : MethodName := ⟨RX6, "mayBe", "(I)Z"⟩
abbrev cX6_row : ByteArray := prog_8_method_10_code
def yX6_row : MethodName := ⟨RX6, "row", "(I)I"⟩
abbrev cX6_word : ByteArray := prog_8_method_11_code
def yX6_word : MethodName := ⟨RX6, "word", "(II)I"⟩
abbrev cX6_label : ByteArray := prog_8_method_12_code
def yX6_label : MethodName := ⟨RX6, "label", "(II)I"⟩
abbrev cX6_addition : ByteArray := prog_8_method_13_code
def yX6_addition : MethodName := ⟨RX6, "addition", "(II)I"⟩
abbrev cX6_asLabel : ByteArray := prog_8_method_14_code
def yX6_asLabel : MethodName := ⟨RX6, "asLabel", "(I)I"⟩
abbrev cX6_rowsOf : ByteArray := prog_8_method_15_code
def yX6_rowsOf : MethodName := ⟨RX6, "rowsOf", "(I)I"⟩
abbrev cX6_timesOf : ByteArray := prog_8_method_16_code
def yX6_timesOf : MethodName := ⟨RX6, "timesOf", "(II)I"⟩
abbrev cX6_counted : ByteArray := prog_8_method_17_code
def yX6_counted : MethodName := ⟨RX6, "counted", "(II)I"⟩
abbrev cX6_shareAbove : ByteArray := prog_8_method_18_code
def yX6_shareAbove : MethodName := ⟨RX6, "shareAbove", "(II)J"⟩
abbrev cX6_shareBelow : ByteArray := prog_8_method_19_code
def yX6_shareBelow : MethodName := ⟨RX6, "shareBelow", "(I)J"⟩
abbrev cX6_share : ByteArray := prog_8_method_20_code
def yX6_share : MethodName := ⟨RX6, "share", "(III)J"⟩
abbrev cX6_weighRow : ByteArray := prog_8_method_21_code
def yX6_weighRow : MethodName := ⟨RX6, "weighRow", "(II)V"⟩
abbrev cX6_weight : ByteArray := prog_8_method_22_code
def yX6_weight : MethodName := ⟨RX6, "weight", "(III)J"⟩
abbrev cX6_bestOf : ByteArray := prog_8_method_23_code
def yX6_bestOf : MethodName := ⟨RX6, "bestOf", "(I)I"⟩
abbrev cX6_best : ByteArray := prog_8_method_24_code
def yX6_best : MethodName := ⟨RX6, "best", "(I)I"⟩
abbrev cX6_round : ByteArray := prog_8_method_25_code
def yX6_round : MethodName := ⟨RX6, "round", "()Z"⟩
abbrev cX6_rounds : ByteArray := prog_8_method_26_code
def yX6_rounds : MethodName := ⟨RX6, "rounds", "(I)I"⟩
abbrev cX6_guess : ByteArray := prog_8_method_27_code
def yX6_guess : MethodName := ⟨RX6, "guess", "(I)I"⟩
abbrev cX6_text : ByteArray := prog_8_method_28_code
def yX6_text : MethodName := ⟨RX6, "text", "(I)I"⟩
abbrev cX6_count : ByteArray := prog_8_method_29_code
def yX6_count : MethodName := ⟨RX6, "count", "(II)I"⟩
abbrev cX6_first : ByteArray := prog_8_method_30_code
def yX6_first : MethodName := ⟨RX6, "first", "()V"⟩
abbrev cX6_above : ByteArray := prog_8_method_31_code
def yX6_above : MethodName := ⟨RX6, "above", "(I)V"⟩
abbrev cX6_table : ByteArray := prog_8_method_32_code
def yX6_table : MethodName := ⟨RX6, "table", "(II)V"⟩
abbrev cX6_isTable : ByteArray := prog_8_method_33_code
def yX6_isTable : MethodName := ⟨RX6, "isTable", "(II)Z"⟩
abbrev cX6_next : ByteArray := prog_8_method_34_code
def yX6_next : MethodName := ⟨RX6, "next", "(IIII)J"⟩
abbrev cX6_likely : ByteArray := prog_8_method_35_code
def yX6_likely : MethodName := ⟨RX6, "likely", "(II)I"⟩
abbrev cX6_weigh : ByteArray := prog_8_method_36_code
def yX6_weigh : MethodName := ⟨RX6, "weigh", "(IIII)I"⟩
abbrev cX6_sign : ByteArray := prog_8_method_37_code
def yX6_sign : MethodName := ⟨RX6, "sign", "(II)I"⟩
abbrev cX6_stateOf : ByteArray := prog_8_method_38_code
def yX6_stateOf : MethodName := ⟨RX6, "stateOf", "(III)I"⟩
abbrev cX6_weighPath : ByteArray := prog_8_method_39_code
def yX6_weighPath : MethodName := ⟨RX6, "weighPath", "(II)J"⟩
abbrev cX6_paths : ByteArray := prog_8_method_40_code
def yX6_paths : MethodName := ⟨RX6, "paths", "(I)I"⟩
abbrev cX6_sum : ByteArray := prog_8_method_41_code
def yX6_sum : MethodName := ⟨RX6, "sum", "(III)J"⟩
abbrev cX6_bestPathOf : ByteArray := prog_8_method_42_code
def yX6_bestPathOf : MethodName := ⟨RX6, "bestPathOf", "(I)I"⟩
abbrev cX6_path : ByteArray := prog_8_method_43_code
def yX6_path : MethodName := ⟨RX6, "path", "(II)I"⟩
abbrev cX6_total : ByteArray := prog_8_method_44_code
def yX6_total : MethodName := ⟨RX6, "total", "(I)J"⟩
abbrev cX6_at : ByteArray := prog_8_method_45_code
def yX6_at : MethodName := ⟨RX6, "at", "(IIII)J"⟩
abbrev cX6_countPath : ByteArray := prog_8_method_46_code
def yX6_countPath : MethodName := ⟨RX6, "countPath", "(II)V"⟩
abbrev cX6_learnt : ByteArray := prog_8_method_47_code
def yX6_learnt : MethodName := ⟨RX6, "learnt", "()Z"⟩
abbrev cX6_learn : ByteArray := prog_8_method_48_code
def yX6_learn : MethodName := ⟨RX6, "learn", "(I)I"⟩
abbrev cX6_has : ByteArray := prog_8_method_49_code
def yX6_has : MethodName := ⟨RX6, "has", "(II)Z"⟩
abbrev cX6_support : ByteArray := prog_8_method_50_code
def yX6_support : MethodName := ⟨RX6, "support", "(II)I"⟩
abbrev cX6_isRule : ByteArray := prog_8_method_51_code
def yX6_isRule : MethodName := ⟨RX6, "isRule", "(I)Z"⟩
abbrev cX6_isAhead : ByteArray := prog_8_method_52_code
def yX6_isAhead : MethodName := ⟨RX6, "isAhead", "(II)Z"⟩
abbrev cX6_rules : ByteArray := prog_8_method_53_code
def yX6_rules : MethodName := ⟨RX6, "rules", "()I"⟩
abbrev cX6_ruleAt : ByteArray := prog_8_method_54_code
def yX6_ruleAt : MethodName := ⟨RX6, "ruleAt", "(I)I"⟩
abbrev cX6_rule : ByteArray := prog_8_method_55_code
def yX6_rule : MethodName := ⟨RX6, "rule", "(II)I"⟩
abbrev cX6_count_ : ByteArray := prog_8_method_56_code
def yX6_count_ : MethodName := ⟨RX6, "count", "(I)I"⟩
def RJ0 : String := "java/lang/String"
def TJ0 : u_T := fun k => match k with
  | _ => ("", "", "", false)
def tyJ0 : Nat → FieldType := fun k => match k with
  | _ => .int
abbrev wsJ00 : List Cond := u_ws RJ0 TJ0 0
theorem nmJ0 : ∀ a, a < 0 → ∀ b, b < 0 → a ≠ b → (TJ0 a).2.1 ≠ (TJ0 b).2.1 := by decide +kernel
theorem tyJ0_ok : ∀ k, k < 0 → parseFieldDescriptor (TJ0 k).2.2.1 = some (tyJ0 k) := by decide +kernel
def RL : String := "CountLearnersLaw"
abbrev cL_share : ByteArray := method_3_code
def yL_share : MethodName := ⟨RL, "share", "(LCountLearners;III[J)I"⟩
abbrev cL_at : ByteArray := method_4_code
def yL_at : MethodName := ⟨RL, "at", "(LCountLearners;IIII[J)I"⟩
abbrev cL_law : ByteArray := code
def yL_law : MethodName := ⟨RL, "law", "([I)Z"⟩
def wsX0_commonDivisor : List Cond := .code yX0_commonDivisor cX0_commonDivisor 11 (some .long) :: ([])
def wsX0_sideOf : List Cond := .code yX0_sideOf cX0_sideOf 7 (some .long) :: ([.methodLink RX0 7 yX0_commonDivisor, .static yX0_commonDivisor, .initialized RX0, .code yX0_commonDivisor cX0_commonDivisor 11 (some .long)])
def wsX0_isAbove : List Cond := .code yX0_isAbove cX0_isAbove 25 (some .boolean) :: ([])
def wsX5_setAll : List Cond := .code yX5_setAll cX5_setAll 3 none :: ([])
def wsX1_init : List Cond := .code yX1_init cX1_init 1 none :: ([.methodLink RX1 5 objectInit, .instanceMethod objectInit, .code objectInit ⟨#[0xb1]⟩ 1 none, .arrayClass .int, .fieldLink RX1 11 "CountLearners$HiddenStates" "weights" "[I", .fieldLink RX1 15 "CountLearners$HiddenStates" "freshWeights" "[I", .fieldLink RX1 18 "CountLearners$HiddenStates" "signs" "[I", .fieldLink RX1 21 "CountLearners$HiddenStates" "lengths" "[I", .arrayClass .long, .fieldLink RX1 24 "CountLearners$HiddenStates" "sums" "[J", .fieldLink RX1 28 "CountLearners$HiddenStates" "nextSums" "[J", .fieldLink RX1 31 "CountLearners$HiddenStates" "bestFrom" "[J", .fieldLink RX1 34 "CountLearners$HiddenStates" "bestPath" "[I", .static yX5_setAll, .initialized RX5, .code yX5_setAll cX5_setAll 3 none] ++ wsX10)
def wsX1_isRow : List Cond := .code yX1_isRow cX1_isRow 1 (some .boolean) :: ([])
def wsX1_isSign : List Cond := .code yX1_isSign cX1_isSign 1 (some .boolean) :: ([])
def wsX1_isState : List Cond := .code yX1_isState cX1_isState 1 (some .boolean) :: ([])
def wsX1_moveAt : List Cond := .code yX1_moveAt cX1_moveAt 2 (some .int) :: ([])
def wsX1_showAt : List Cond := .code yX1_showAt cX1_showAt 2 (some .int) :: ([])
def wsX1_placeOf : List Cond := .code yX1_placeOf cX1_placeOf 3 (some .int) :: ([.methodLink RX1 41 yX1_isState, .static yX1_isState, .initialized RX1, .code yX1_isState cX1_isState 1 (some .boolean), .methodLink RX1 45 yX1_moveAt, .static yX1_moveAt, .code yX1_moveAt cX1_moveAt 2 (some .int), .methodLink RX1 49 yX1_isSign, .static yX1_isSign, .code yX1_isSign cX1_isSign 1 (some .boolean), .methodLink RX1 52 yX1_showAt, .static yX1_showAt, .code yX1_showAt cX1_showAt 2 (some .int)])
def wsX1_reweigh : List Cond := .code yX1_reweigh cX1_reweigh 4 (some .int) :: ([.fieldLink RX1 11 "CountLearners$HiddenStates" "weights" "[I"] ++ wsX10)
def wsX1_isFullRow : List Cond := .code yX1_isFullRow cX1_isFullRow 2 (some .boolean) :: ([.fieldLink RX1 21 "CountLearners$HiddenStates" "lengths" "[I"] ++ wsX10)
def wsX1_hasPlace : List Cond := .code yX1_hasPlace cX1_hasPlace 3 (some .boolean) :: ([.fieldLink RX1 21 "CountLearners$HiddenStates" "lengths" "[I"] ++ wsX10)
def wsX1_append : List Cond := .code yX1_append cX1_append 3 (some .int) :: ([.fieldLink RX1 18 "CountLearners$HiddenStates" "signs" "[I", .fieldLink RX1 21 "CountLearners$HiddenStates" "lengths" "[I"] ++ wsX10)
def wsX1_signsOfAll : List Cond := .code yX1_signsOfAll cX1_signsOfAll 3 (some .int) :: ([.fieldLink RX1 21 "CountLearners$HiddenStates" "lengths" "[I"] ++ wsX10)
def wsX1_shown : List Cond := .code yX1_shown cX1_shown 4 (some .int) :: ([.fieldLink RX1 11 "CountLearners$HiddenStates" "weights" "[I", .fieldLink RX1 18 "CountLearners$HiddenStates" "signs" "[I", .methodLink RX1 52 yX1_showAt, .static yX1_showAt, .initialized RX1, .code yX1_showAt cX1_showAt 2 (some .int)] ++ wsX10)
def wsX1_sumInto : List Cond := .code yX1_sumInto cX1_sumInto 5 (some .long) :: ([.fieldLink RX1 24 "CountLearners$HiddenStates" "sums" "[J", .fieldLink RX1 11 "CountLearners$HiddenStates" "weights" "[I", .methodLink RX1 45 yX1_moveAt, .static yX1_moveAt, .initialized RX1, .code yX1_moveAt cX1_moveAt 2 (some .int)] ++ wsX10)
def wsX1_totalThrough : List Cond := .code yX1_totalThrough cX1_totalThrough 7 (some .long) :: ([.fieldLink RX1 21 "CountLearners$HiddenStates" "lengths" "[I", .fieldLink RX1 24 "CountLearners$HiddenStates" "sums" "[J", .fieldLink RX1 11 "CountLearners$HiddenStates" "weights" "[I", .fieldLink RX1 28 "CountLearners$HiddenStates" "nextSums" "[J", .methodLink RX1 59 yX1_shown, .instanceMethod yX1_shown, .selects RX1 yX1_shown yX1_shown, .initialized RX1, .code yX1_shown cX1_shown 4 (some .int), .fieldLink RX1 18 "CountLearners$HiddenStates" "signs" "[I", .methodLink RX1 52 yX1_showAt, .static yX1_showAt, .code yX1_showAt cX1_showAt 2 (some .int), .methodLink RX1 63 yX1_sumInto, .instanceMethod yX1_sumInto, .selects RX1 yX1_sumInto yX1_sumInto, .code yX1_sumInto cX1_sumInto 5 (some .long), .methodLink RX1 45 yX1_moveAt, .static yX1_moveAt, .code yX1_moveAt cX1_moveAt 2 (some .int)] ++ wsX10)
def wsX1_totalOf : List Cond := .code yX1_totalOf cX1_totalOf 2 (some .long) :: ([.methodLink RX1 55 yX1_totalThrough, .instanceMethod yX1_totalThrough, .selects RX1 yX1_totalThrough yX1_totalThrough, .initialized RX1, .code yX1_totalThrough cX1_totalThrough 7 (some .long), .fieldLink RX1 21 "CountLearners$HiddenStates" "lengths" "[I", .fieldLink RX1 24 "CountLearners$HiddenStates" "sums" "[J", .fieldLink RX1 11 "CountLearners$HiddenStates" "weights" "[I", .fieldLink RX1 28 "CountLearners$HiddenStates" "nextSums" "[J", .methodLink RX1 59 yX1_shown, .instanceMethod yX1_shown, .selects RX1 yX1_shown yX1_shown, .code yX1_shown cX1_shown 4 (some .int), .fieldLink RX1 18 "CountLearners$HiddenStates" "signs" "[I", .methodLink RX1 52 yX1_showAt, .static yX1_showAt, .code yX1_showAt cX1_showAt 2 (some .int), .methodLink RX1 63 yX1_sumInto, .instanceMethod yX1_sumInto, .selects RX1 yX1_sumInto yX1_sumInto, .code yX1_sumInto cX1_sumInto 5 (some .long), .methodLink RX1 45 yX1_moveAt, .static yX1_moveAt, .code yX1_moveAt cX1_moveAt 2 (some .int)] ++ wsX10)
def wsX1_weightOnward : List Cond := .code yX1_weightOnward cX1_weightOnward 4 (some .long) :: ([.fieldLink RX1 11 "CountLearners$HiddenStates" "weights" "[I", .fieldLink RX1 31 "CountLearners$HiddenStates" "bestFrom" "[J", .methodLink RX1 45 yX1_moveAt, .static yX1_moveAt, .initialized RX1, .code yX1_moveAt cX1_moveAt 2 (some .int)] ++ wsX10)
def wsX1_bestOnward : List Cond := .code yX1_bestOnward cX1_bestOnward 5 (some .int) :: ([.methodLink RX1 70 yX1_weightOnward, .instanceMethod yX1_weightOnward, .selects RX1 yX1_weightOnward yX1_weightOnward, .initialized RX1, .code yX1_weightOnward cX1_weightOnward 4 (some .long), .fieldLink RX1 11 "CountLearners$HiddenStates" "weights" "[I", .fieldLink RX1 31 "CountLearners$HiddenStates" "bestFrom" "[J", .methodLink RX1 45 yX1_moveAt, .static yX1_moveAt, .code yX1_moveAt cX1_moveAt 2 (some .int)] ++ wsX10)
def wsX1_bestStart : List Cond := .code yX1_bestStart cX1_bestStart 3 (some .int) :: ([.fieldLink RX1 11 "CountLearners$HiddenStates" "weights" "[I", .fieldLink RX1 31 "CountLearners$HiddenStates" "bestFrom" "[J"] ++ wsX10)
def wsX1_findBestPath_r1 : List Cond := [Cond.fieldLink RX1 21 "CountLearners$HiddenStates" "lengths" "[I", Cond.fieldLink RX1 31 "CountLearners$HiddenStates" "bestFrom" "[J", Cond.fieldLink RX1 34 "CountLearners$HiddenStates" "bestPath" "[I", Cond.fieldLink RX1 11 "CountLearners$HiddenStates" "weights" "[I", Cond.methodLink RX1 67 yX1_bestOnward, Cond.instanceMethod yX1_bestOnward, Cond.selects RX1 yX1_bestOnward yX1_bestOnward, Cond.initialized RX1, Cond.code yX1_bestOnward cX1_bestOnward 5 (some .int), Cond.methodLink RX1 70 yX1_weightOnward, Cond.instanceMethod yX1_weightOnward, Cond.selects RX1 yX1_weightOnward yX1_weightOnward, Cond.code yX1_weightOnward cX1_weightOnward 4 (some .long), Cond.methodLink RX1 45 yX1_moveAt, Cond.static yX1_moveAt, Cond.code yX1_moveAt cX1_moveAt 2 (some .int), Cond.methodLink RX1 59 yX1_shown, Cond.instanceMethod yX1_shown, Cond.selects RX1 yX1_shown yX1_shown, Cond.code yX1_shown cX1_shown 4 (some .int), Cond.fieldLink RX1 18 "CountLearners$HiddenStates" "signs" "[I", Cond.methodLink RX1 52 yX1_showAt, Cond.static yX1_showAt, Cond.code yX1_showAt cX1_showAt 2 (some .int)]
def wsX1_findBestPath_r2 : List Cond := [Cond.methodLink RX1 73 yX1_bestStart, Cond.instanceMethod yX1_bestStart, Cond.selects RX1 yX1_bestStart yX1_bestStart, Cond.code yX1_bestStart cX1_bestStart 3 (some .int)]
def wsX1_findBestPath : List Cond := .code yX1_findBestPath cX1_findBestPath 7 (some .boolean) :: ((wsX1_findBestPath_r1 ++ wsX1_findBestPath_r2) ++ wsX10)
def wsX1_stateOnBestPath : List Cond := .code yX1_stateOnBestPath cX1_stateOnBestPath 2 (some .int) :: ([.fieldLink RX1 34 "CountLearners$HiddenStates" "bestPath" "[I"] ++ wsX10)
def wsX1_countBestPath : List Cond := .code yX1_countBestPath cX1_countBestPath 3 none :: ([.fieldLink RX1 15 "CountLearners$HiddenStates" "freshWeights" "[I", .fieldLink RX1 34 "CountLearners$HiddenStates" "bestPath" "[I", .fieldLink RX1 21 "CountLearners$HiddenStates" "lengths" "[I", .fieldLink RX1 18 "CountLearners$HiddenStates" "signs" "[I", .methodLink RX1 52 yX1_showAt, .static yX1_showAt, .initialized RX1, .code yX1_showAt cX1_showAt 2 (some .int), .methodLink RX1 45 yX1_moveAt, .static yX1_moveAt, .code yX1_moveAt cX1_moveAt 2 (some .int)] ++ wsX10)
def wsX1_weighAnew_r1 : List Cond := [Cond.fieldLink RX1 15 "CountLearners$HiddenStates" "freshWeights" "[I", Cond.fieldLink RX1 11 "CountLearners$HiddenStates" "weights" "[I", Cond.static yX5_setAll, Cond.initialized RX5, Cond.code yX5_setAll cX5_setAll 3 none, Cond.methodLink RX1 77 yX1_findBestPath, Cond.instanceMethod yX1_findBestPath, Cond.selects RX1 yX1_findBestPath yX1_findBestPath, Cond.initialized RX1, Cond.code yX1_findBestPath cX1_findBestPath 7 (some .boolean), Cond.fieldLink RX1 21 "CountLearners$HiddenStates" "lengths" "[I", Cond.fieldLink RX1 31 "CountLearners$HiddenStates" "bestFrom" "[J", Cond.fieldLink RX1 34 "CountLearners$HiddenStates" "bestPath" "[I", Cond.methodLink RX1 67 yX1_bestOnward, Cond.instanceMethod yX1_bestOnward, Cond.selects RX1 yX1_bestOnward yX1_bestOnward, Cond.code yX1_bestOnward cX1_bestOnward 5 (some .int), Cond.methodLink RX1 70 yX1_weightOnward, Cond.instanceMethod yX1_weightOnward, Cond.selects RX1 yX1_weightOnward yX1_weightOnward, Cond.code yX1_weightOnward cX1_weightOnward 4 (some .long), Cond.methodLink RX1 45 yX1_moveAt, Cond.static yX1_moveAt, Cond.code yX1_moveAt cX1_moveAt 2 (some .int)]
def wsX1_weighAnew_r2 : List Cond := [Cond.methodLink RX1 59 yX1_shown, Cond.instanceMethod yX1_shown, Cond.selects RX1 yX1_shown yX1_shown, Cond.code yX1_shown cX1_shown 4 (some .int), Cond.fieldLink RX1 18 "CountLearners$HiddenStates" "signs" "[I", Cond.methodLink RX1 52 yX1_showAt, Cond.static yX1_showAt, Cond.code yX1_showAt cX1_showAt 2 (some .int), Cond.methodLink RX1 73 yX1_bestStart, Cond.instanceMethod yX1_bestStart, Cond.selects RX1 yX1_bestStart yX1_bestStart, Cond.code yX1_bestStart cX1_bestStart 3 (some .int), Cond.methodLink RX1 80 yX1_countBestPath, Cond.instanceMethod yX1_countBestPath, Cond.selects RX1 yX1_countBestPath yX1_countBestPath, Cond.code yX1_countBestPath cX1_countBestPath 3 none]
def wsX1_weighAnew : List Cond := .code yX1_weighAnew cX1_weighAnew 3 (some .boolean) :: ((wsX1_weighAnew_r1 ++ wsX1_weighAnew_r2) ++ wsX10)
def wsX2_init : List Cond := .code yX2_init cX2_init 1 none :: ([.methodLink RX2 3 objectInit, .instanceMethod objectInit, .code objectInit ⟨#[0xb1]⟩ 1 none, .arrayClass .int, .fieldLink RX2 11 "CountLearners$LabelledRows" "labels" "[I", .fieldLink RX2 15 "CountLearners$LabelledRows" "guesses" "[I", .fieldLink RX2 18 "CountLearners$LabelledRows" "lengths" "[I", .fieldLink RX2 21 "CountLearners$LabelledRows" "words" "[I", .fieldLink RX2 24 "CountLearners$LabelledRows" "times" "[I", .fieldLink RX2 27 "CountLearners$LabelledRows" "totals" "[I", .fieldLink RX2 30 "CountLearners$LabelledRows" "sizes" "[I", .fieldLink RX2 33 "CountLearners$LabelledRows" "rowCount" "I", .fieldLink RX2 37 "CountLearners$LabelledRows" "addedUp" "I", .fieldLink RX2 40 "CountLearners$LabelledRows" "addedDown" "I"] ++ wsX20)
def wsX2_has : List Cond := .code yX2_has cX2_has 2 (some .boolean) :: ([.fieldLink RX2 33 "CountLearners$LabelledRows" "rowCount" "I"] ++ wsX20)
def wsX2_isFull : List Cond := .code yX2_isFull cX2_isFull 1 (some .boolean) :: ([.fieldLink RX2 33 "CountLearners$LabelledRows" "rowCount" "I"] ++ wsX20)
def wsX2_isFullRow : List Cond := .code yX2_isFullRow cX2_isFullRow 2 (some .boolean) :: ([.fieldLink RX2 18 "CountLearners$LabelledRows" "lengths" "[I"] ++ wsX20)
def wsX2_size : List Cond := .code yX2_size cX2_size 1 (some .int) :: ([.fieldLink RX2 33 "CountLearners$LabelledRows" "rowCount" "I"] ++ wsX20)
def wsX2_labelledRows : List Cond := .code yX2_labelledRows cX2_labelledRows 3 (some .int) :: ([.fieldLink RX2 33 "CountLearners$LabelledRows" "rowCount" "I", .fieldLink RX2 11 "CountLearners$LabelledRows" "labels" "[I"] ++ wsX20)
def wsX2_tallyRow : List Cond := .code yX2_tallyRow cX2_tallyRow 4 none :: ([.fieldLink RX2 30 "CountLearners$LabelledRows" "sizes" "[I", .fieldLink RX2 27 "CountLearners$LabelledRows" "totals" "[I", .fieldLink RX2 18 "CountLearners$LabelledRows" "lengths" "[I", .fieldLink RX2 24 "CountLearners$LabelledRows" "times" "[I", .fieldLink RX2 21 "CountLearners$LabelledRows" "words" "[I"] ++ wsX20)
def wsX2_tally : List Cond := .code yX2_tally cX2_tally 3 none :: ([.fieldLink RX2 24 "CountLearners$LabelledRows" "times" "[I", .fieldLink RX2 27 "CountLearners$LabelledRows" "totals" "[I", .fieldLink RX2 30 "CountLearners$LabelledRows" "sizes" "[I", .fieldLink RX2 33 "CountLearners$LabelledRows" "rowCount" "I", .fieldLink RX2 11 "CountLearners$LabelledRows" "labels" "[I", .fieldLink RX2 15 "CountLearners$LabelledRows" "guesses" "[I", .static yX5_setAll, .initialized RX5, .code yX5_setAll cX5_setAll 3 none, .methodLink RX2 83 yX2_tallyRow, .instanceMethod yX2_tallyRow, .selects RX2 yX2_tallyRow yX2_tallyRow, .initialized RX2, .code yX2_tallyRow cX2_tallyRow 4 none, .fieldLink RX2 18 "CountLearners$LabelledRows" "lengths" "[I", .fieldLink RX2 21 "CountLearners$LabelledRows" "words" "[I"] ++ wsX20)
def wsX2_startAnew : List Cond := .code yX2_startAnew cX2_startAnew 1 none :: ([.fieldLink RX2 15 "CountLearners$LabelledRows" "guesses" "[I", .static yX5_setAll, .initialized RX5, .code yX5_setAll cX5_setAll 3 none, .methodLink RX2 76 yX2_tally, .instanceMethod yX2_tally, .selects RX2 yX2_tally yX2_tally, .initialized RX2, .code yX2_tally cX2_tally 3 none, .fieldLink RX2 24 "CountLearners$LabelledRows" "times" "[I", .fieldLink RX2 27 "CountLearners$LabelledRows" "totals" "[I", .fieldLink RX2 30 "CountLearners$LabelledRows" "sizes" "[I", .fieldLink RX2 33 "CountLearners$LabelledRows" "rowCount" "I", .fieldLink RX2 11 "CountLearners$LabelledRows" "labels" "[I", .methodLink RX2 83 yX2_tallyRow, .instanceMethod yX2_tallyRow, .selects RX2 yX2_tallyRow yX2_tallyRow, .code yX2_tallyRow cX2_tallyRow 4 none, .fieldLink RX2 18 "CountLearners$LabelledRows" "lengths" "[I", .fieldLink RX2 21 "CountLearners$LabelledRows" "words" "[I"] ++ wsX20)
def wsX2_open : List Cond := .code yX2_open cX2_open 3 (some .int) :: ([.fieldLink RX2 33 "CountLearners$LabelledRows" "rowCount" "I", .fieldLink RX2 11 "CountLearners$LabelledRows" "labels" "[I", .methodLink RX2 43 yX2_startAnew, .instanceMethod yX2_startAnew, .selects RX2 yX2_startAnew yX2_startAnew, .initialized RX2, .code yX2_startAnew cX2_startAnew 1 none, .fieldLink RX2 15 "CountLearners$LabelledRows" "guesses" "[I", .static yX5_setAll, .initialized RX5, .code yX5_setAll cX5_setAll 3 none, .methodLink RX2 76 yX2_tally, .instanceMethod yX2_tally, .selects RX2 yX2_tally yX2_tally, .code yX2_tally cX2_tally 3 none, .fieldLink RX2 24 "CountLearners$LabelledRows" "times" "[I", .fieldLink RX2 27 "CountLearners$LabelledRows" "totals" "[I", .fieldLink RX2 30 "CountLearners$LabelledRows" "sizes" "[I", .methodLink RX2 83 yX2_tallyRow, .instanceMethod yX2_tallyRow, .selects RX2 yX2_tallyRow yX2_tallyRow, .code yX2_tallyRow cX2_tallyRow 4 none, .fieldLink RX2 18 "CountLearners$LabelledRows" "lengths" "[I", .fieldLink RX2 21 "CountLearners$LabelledRows" "words" "[I"] ++ wsX20)
def wsX2_append : List Cond := .code yX2_append cX2_append 3 (some .int) :: ([.fieldLink RX2 21 "CountLearners$LabelledRows" "words" "[I", .fieldLink RX2 18 "CountLearners$LabelledRows" "lengths" "[I", .methodLink RX2 43 yX2_startAnew, .instanceMethod yX2_startAnew, .selects RX2 yX2_startAnew yX2_startAnew, .initialized RX2, .code yX2_startAnew cX2_startAnew 1 none, .fieldLink RX2 15 "CountLearners$LabelledRows" "guesses" "[I", .static yX5_setAll, .initialized RX5, .code yX5_setAll cX5_setAll 3 none, .methodLink RX2 76 yX2_tally, .instanceMethod yX2_tally, .selects RX2 yX2_tally yX2_tally, .code yX2_tally cX2_tally 3 none, .fieldLink RX2 24 "CountLearners$LabelledRows" "times" "[I", .fieldLink RX2 27 "CountLearners$LabelledRows" "totals" "[I", .fieldLink RX2 30 "CountLearners$LabelledRows" "sizes" "[I", .fieldLink RX2 33 "CountLearners$LabelledRows" "rowCount" "I", .fieldLink RX2 11 "CountLearners$LabelledRows" "labels" "[I", .methodLink RX2 83 yX2_tallyRow, .instanceMethod yX2_tallyRow, .selects RX2 yX2_tallyRow yX2_tallyRow, .code yX2_tallyRow cX2_tallyRow 4 none] ++ wsX20)
def wsX2_relabel : List Cond := .code yX2_relabel cX2_relabel 4 (some .int) :: ([.fieldLink RX2 11 "CountLearners$LabelledRows" "labels" "[I", .methodLink RX2 43 yX2_startAnew, .instanceMethod yX2_startAnew, .selects RX2 yX2_startAnew yX2_startAnew, .initialized RX2, .code yX2_startAnew cX2_startAnew 1 none, .fieldLink RX2 15 "CountLearners$LabelledRows" "guesses" "[I", .static yX5_setAll, .initialized RX5, .code yX5_setAll cX5_setAll 3 none, .methodLink RX2 76 yX2_tally, .instanceMethod yX2_tally, .selects RX2 yX2_tally yX2_tally, .code yX2_tally cX2_tally 3 none, .fieldLink RX2 24 "CountLearners$LabelledRows" "times" "[I", .fieldLink RX2 27 "CountLearners$LabelledRows" "totals" "[I", .fieldLink RX2 30 "CountLearners$LabelledRows" "sizes" "[I", .fieldLink RX2 33 "CountLearners$LabelledRows" "rowCount" "I", .methodLink RX2 83 yX2_tallyRow, .instanceMethod yX2_tallyRow, .selects RX2 yX2_tallyRow yX2_tallyRow, .code yX2_tallyRow cX2_tallyRow 4 none, .fieldLink RX2 18 "CountLearners$LabelledRows" "lengths" "[I", .fieldLink RX2 21 "CountLearners$LabelledRows" "words" "[I"] ++ wsX20)
def wsX2_setAddition_r1 : List Cond := [Cond.fieldLink RX2 37 "CountLearners$LabelledRows" "addedUp" "I", Cond.fieldLink RX2 40 "CountLearners$LabelledRows" "addedDown" "I", Cond.methodLink RX2 43 yX2_startAnew, Cond.instanceMethod yX2_startAnew, Cond.selects RX2 yX2_startAnew yX2_startAnew, Cond.initialized RX2, Cond.code yX2_startAnew cX2_startAnew 1 none, Cond.fieldLink RX2 15 "CountLearners$LabelledRows" "guesses" "[I", Cond.static yX5_setAll, Cond.initialized RX5, Cond.code yX5_setAll cX5_setAll 3 none, Cond.methodLink RX2 76 yX2_tally, Cond.instanceMethod yX2_tally, Cond.selects RX2 yX2_tally yX2_tally, Cond.code yX2_tally cX2_tally 3 none, Cond.fieldLink RX2 24 "CountLearners$LabelledRows" "times" "[I", Cond.fieldLink RX2 27 "CountLearners$LabelledRows" "totals" "[I", Cond.fieldLink RX2 30 "CountLearners$LabelledRows" "sizes" "[I", Cond.fieldLink RX2 33 "CountLearners$LabelledRows" "rowCount" "I", Cond.fieldLink RX2 11 "CountLearners$LabelledRows" "labels" "[I", Cond.methodLink RX2 83 yX2_tallyRow, Cond.instanceMethod yX2_tallyRow, Cond.selects RX2 yX2_tallyRow yX2_tallyRow, Cond.code yX2_tallyRow cX2_tallyRow 4 none]
def wsX2_setAddition_r2 : List Cond := [Cond.fieldLink RX2 18 "CountLearners$LabelledRows" "lengths" "[I", Cond.fieldLink RX2 21 "CountLearners$LabelledRows" "words" "[I"]
def wsX2_setAddition : List Cond := .code yX2_setAddition cX2_setAddition 3 none :: ((wsX2_setAddition_r1 ++ wsX2_setAddition_r2) ++ wsX20)
def wsX2_timesIn : List Cond := .code yX2_timesIn cX2_timesIn 3 (some .int) :: ([.fieldLink RX2 24 "CountLearners$LabelledRows" "times" "[I"] ++ wsX20)
def wsX2_wordsIn : List Cond := .code yX2_wordsIn cX2_wordsIn 2 (some .int) :: ([.fieldLink RX2 27 "CountLearners$LabelledRows" "totals" "[I"] ++ wsX20)
def wsX2_rowsIn : List Cond := .code yX2_rowsIn cX2_rowsIn 2 (some .int) :: ([.fieldLink RX2 30 "CountLearners$LabelledRows" "sizes" "[I"] ++ wsX20)
def wsX2_guessOf : List Cond := .code yX2_guessOf cX2_guessOf 2 (some .int) :: ([.fieldLink RX2 15 "CountLearners$LabelledRows" "guesses" "[I"] ++ wsX20)
def wsX2_wordSet : List Cond := .code yX2_wordSet cX2_wordSet 4 (some .int) :: ([.fieldLink RX2 18 "CountLearners$LabelledRows" "lengths" "[I", .fieldLink RX2 21 "CountLearners$LabelledRows" "words" "[I"] ++ wsX20)
def wsX2_shareUpper : List Cond := .code yX2_shareUpper cX2_shareUpper 3 (some .long) :: ([.fieldLink RX2 40 "CountLearners$LabelledRows" "addedDown" "I", .fieldLink RX2 37 "CountLearners$LabelledRows" "addedUp" "I", .methodLink RX2 46 yX2_timesIn, .instanceMethod yX2_timesIn, .selects RX2 yX2_timesIn yX2_timesIn, .initialized RX2, .code yX2_timesIn cX2_timesIn 3 (some .int), .fieldLink RX2 24 "CountLearners$LabelledRows" "times" "[I"] ++ wsX20)
def wsX2_shareLower : List Cond := .code yX2_shareLower cX2_shareLower 2 (some .long) :: ([.fieldLink RX2 27 "CountLearners$LabelledRows" "totals" "[I", .fieldLink RX2 40 "CountLearners$LabelledRows" "addedDown" "I", .constantLong RX2 50 (8), .fieldLink RX2 37 "CountLearners$LabelledRows" "addedUp" "I"] ++ wsX20)
def wsX2_weightUpper : List Cond := .code yX2_weightUpper cX2_weightUpper 6 (some .long) :: ([.fieldLink RX2 30 "CountLearners$LabelledRows" "sizes" "[I", .fieldLink RX2 18 "CountLearners$LabelledRows" "lengths" "[I", .fieldLink RX2 21 "CountLearners$LabelledRows" "words" "[I", .methodLink RX2 52 yX2_shareUpper, .instanceMethod yX2_shareUpper, .selects RX2 yX2_shareUpper yX2_shareUpper, .initialized RX2, .code yX2_shareUpper cX2_shareUpper 3 (some .long), .fieldLink RX2 40 "CountLearners$LabelledRows" "addedDown" "I", .fieldLink RX2 37 "CountLearners$LabelledRows" "addedUp" "I", .methodLink RX2 46 yX2_timesIn, .instanceMethod yX2_timesIn, .selects RX2 yX2_timesIn yX2_timesIn, .code yX2_timesIn cX2_timesIn 3 (some .int), .fieldLink RX2 24 "CountLearners$LabelledRows" "times" "[I"] ++ wsX20)
def wsX2_weightLower : List Cond := .code yX2_weightLower cX2_weightLower 6 (some .long) :: ([.fieldLink RX2 18 "CountLearners$LabelledRows" "lengths" "[I", .methodLink RX2 56 yX2_shareLower, .instanceMethod yX2_shareLower, .selects RX2 yX2_shareLower yX2_shareLower, .initialized RX2, .code yX2_shareLower cX2_shareLower 2 (some .long), .fieldLink RX2 27 "CountLearners$LabelledRows" "totals" "[I", .fieldLink RX2 40 "CountLearners$LabelledRows" "addedDown" "I", .constantLong RX2 50 (8), .fieldLink RX2 37 "CountLearners$LabelledRows" "addedUp" "I"] ++ wsX20)
def wsX2_bestLabel_r1 : List Cond := [Cond.methodLink RX2 60 yX2_weightUpper, Cond.instanceMethod yX2_weightUpper, Cond.selects RX2 yX2_weightUpper yX2_weightUpper, Cond.initialized RX2, Cond.code yX2_weightUpper cX2_weightUpper 6 (some .long), Cond.fieldLink RX2 30 "CountLearners$LabelledRows" "sizes" "[I", Cond.fieldLink RX2 18 "CountLearners$LabelledRows" "lengths" "[I", Cond.fieldLink RX2 21 "CountLearners$LabelledRows" "words" "[I", Cond.methodLink RX2 52 yX2_shareUpper, Cond.instanceMethod yX2_shareUpper, Cond.selects RX2 yX2_shareUpper yX2_shareUpper, Cond.code yX2_shareUpper cX2_shareUpper 3 (some .long), Cond.fieldLink RX2 40 "CountLearners$LabelledRows" "addedDown" "I", Cond.fieldLink RX2 37 "CountLearners$LabelledRows" "addedUp" "I", Cond.methodLink RX2 46 yX2_timesIn, Cond.instanceMethod yX2_timesIn, Cond.selects RX2 yX2_timesIn yX2_timesIn, Cond.code yX2_timesIn cX2_timesIn 3 (some .int), Cond.fieldLink RX2 24 "CountLearners$LabelledRows" "times" "[I", Cond.methodLink RX2 63 yX2_weightLower, Cond.instanceMethod yX2_weightLower, Cond.selects RX2 yX2_weightLower yX2_weightLower, Cond.code yX2_weightLower cX2_weightLower 6 (some .long), Cond.methodLink RX2 56 yX2_shareLower]
def wsX2_bestLabel_r2 : List Cond := [Cond.instanceMethod yX2_shareLower, Cond.selects RX2 yX2_shareLower yX2_shareLower, Cond.code yX2_shareLower cX2_shareLower 2 (some .long), Cond.fieldLink RX2 27 "CountLearners$LabelledRows" "totals" "[I", Cond.constantLong RX2 50 (8), Cond.methodLink RX2 66 yX0_isAbove, Cond.static yX0_isAbove, Cond.initialized RX0, Cond.code yX0_isAbove cX0_isAbove 25 (some .boolean)]
def wsX2_bestLabel : List Cond := .code yX2_bestLabel cX2_bestLabel 12 (some .int) :: ((wsX2_bestLabel_r1 ++ wsX2_bestLabel_r2) ++ wsX20)
def wsX2_guessAnew_r1 : List Cond := [Cond.fieldLink RX2 33 "CountLearners$LabelledRows" "rowCount" "I", Cond.fieldLink RX2 11 "CountLearners$LabelledRows" "labels" "[I", Cond.fieldLink RX2 15 "CountLearners$LabelledRows" "guesses" "[I", Cond.methodLink RX2 72 yX2_bestLabel, Cond.instanceMethod yX2_bestLabel, Cond.selects RX2 yX2_bestLabel yX2_bestLabel, Cond.initialized RX2, Cond.code yX2_bestLabel cX2_bestLabel 12 (some .int), Cond.methodLink RX2 60 yX2_weightUpper, Cond.instanceMethod yX2_weightUpper, Cond.selects RX2 yX2_weightUpper yX2_weightUpper, Cond.code yX2_weightUpper cX2_weightUpper 6 (some .long), Cond.fieldLink RX2 30 "CountLearners$LabelledRows" "sizes" "[I", Cond.fieldLink RX2 18 "CountLearners$LabelledRows" "lengths" "[I", Cond.fieldLink RX2 21 "CountLearners$LabelledRows" "words" "[I", Cond.methodLink RX2 52 yX2_shareUpper, Cond.instanceMethod yX2_shareUpper, Cond.selects RX2 yX2_shareUpper yX2_shareUpper, Cond.code yX2_shareUpper cX2_shareUpper 3 (some .long), Cond.fieldLink RX2 40 "CountLearners$LabelledRows" "addedDown" "I", Cond.fieldLink RX2 37 "CountLearners$LabelledRows" "addedUp" "I", Cond.methodLink RX2 46 yX2_timesIn, Cond.instanceMethod yX2_timesIn, Cond.selects RX2 yX2_timesIn yX2_timesIn]
def wsX2_guessAnew_r2 : List Cond := [Cond.code yX2_timesIn cX2_timesIn 3 (some .int), Cond.fieldLink RX2 24 "CountLearners$LabelledRows" "times" "[I", Cond.methodLink RX2 63 yX2_weightLower, Cond.instanceMethod yX2_weightLower, Cond.selects RX2 yX2_weightLower yX2_weightLower, Cond.code yX2_weightLower cX2_weightLower 6 (some .long), Cond.methodLink RX2 56 yX2_shareLower, Cond.instanceMethod yX2_shareLower, Cond.selects RX2 yX2_shareLower yX2_shareLower, Cond.code yX2_shareLower cX2_shareLower 2 (some .long), Cond.fieldLink RX2 27 "CountLearners$LabelledRows" "totals" "[I", Cond.constantLong RX2 50 (8), Cond.methodLink RX2 66 yX0_isAbove, Cond.static yX0_isAbove, Cond.initialized RX0, Cond.code yX0_isAbove cX0_isAbove 25 (some .boolean), Cond.methodLink RX2 76 yX2_tally, Cond.instanceMethod yX2_tally, Cond.selects RX2 yX2_tally yX2_tally, Cond.code yX2_tally cX2_tally 3 none, Cond.static yX5_setAll, Cond.initialized RX5, Cond.code yX5_setAll cX5_setAll 3 none, Cond.methodLink RX2 83 yX2_tallyRow]
def wsX2_guessAnew_r3 : List Cond := [Cond.instanceMethod yX2_tallyRow, Cond.selects RX2 yX2_tallyRow yX2_tallyRow, Cond.code yX2_tallyRow cX2_tallyRow 4 none]
def wsX2_guessAnew : List Cond := .code yX2_guessAnew cX2_guessAnew 4 (some .boolean) :: ((wsX2_guessAnew_r1 ++ (wsX2_guessAnew_r2 ++ wsX2_guessAnew_r3)) ++ wsX20)
def wsX3_init : List Cond := .code yX3_init cX3_init 1 none :: ([.methodLink RX3 3 objectInit, .instanceMethod objectInit, .code objectInit ⟨#[0xb1]⟩ 1 none, .arrayClass .int, .fieldLink RX3 11 "CountLearners$TextTables" "text" "[I", .fieldLink RX3 15 "CountLearners$TextTables" "behind" "[I", .arrayClass .long, .fieldLink RX3 18 "CountLearners$TextTables" "uppers" "[J", .fieldLink RX3 22 "CountLearners$TextTables" "lower" "J", .fieldLink RX3 26 "CountLearners$TextTables" "textLength" "I"] ++ wsX30)
def wsX3_isFull : List Cond := .code yX3_isFull cX3_isFull 1 (some .boolean) :: ([.fieldLink RX3 26 "CountLearners$TextTables" "textLength" "I"] ++ wsX30)
def wsX3_length : List Cond := .code yX3_length cX3_length 1 (some .int) :: ([.fieldLink RX3 26 "CountLearners$TextTables" "textLength" "I"] ++ wsX30)
def wsX3_append : List Cond := .code yX3_append cX3_append 2 (some .int) :: ([.fieldLink RX3 11 "CountLearners$TextTables" "text" "[I", .fieldLink RX3 26 "CountLearners$TextTables" "textLength" "I"] ++ wsX30)
def wsX3_upperOf : List Cond := .code yX3_upperOf cX3_upperOf 2 (some .long) :: ([.fieldLink RX3 18 "CountLearners$TextTables" "uppers" "[J"] ++ wsX30)
def wsX3_lowerOfAll : List Cond := .code yX3_lowerOfAll cX3_lowerOfAll 1 (some .long) :: ([.fieldLink RX3 22 "CountLearners$TextTables" "lower" "J"] ++ wsX30)
def wsX3_greatest : List Cond := .code yX3_greatest cX3_greatest 3 (some .int) :: ([.fieldLink RX3 18 "CountLearners$TextTables" "uppers" "[J"] ++ wsX30)
def wsX3_fillFirst : List Cond := .code yX3_fillFirst cX3_fillFirst 2 none :: ([.fieldLink RX3 18 "CountLearners$TextTables" "uppers" "[J", .fieldLink RX3 26 "CountLearners$TextTables" "textLength" "I", .fieldLink RX3 11 "CountLearners$TextTables" "text" "[I", .fieldLink RX3 22 "CountLearners$TextTables" "lower" "J"] ++ wsX30)
def wsX3_countBehind : List Cond := .code yX3_countBehind cX3_countBehind 4 none :: ([.fieldLink RX3 15 "CountLearners$TextTables" "behind" "[I", .fieldLink RX3 26 "CountLearners$TextTables" "textLength" "I", .fieldLink RX3 11 "CountLearners$TextTables" "text" "[I", .static yX5_setAll, .initialized RX5, .code yX5_setAll cX5_setAll 3 none] ++ wsX30)
def wsX3_takeCounts : List Cond := .code yX3_takeCounts cX3_takeCounts 3 none :: ([.fieldLink RX3 18 "CountLearners$TextTables" "uppers" "[J", .fieldLink RX3 15 "CountLearners$TextTables" "behind" "[I", .fieldLink RX3 22 "CountLearners$TextTables" "lower" "J"] ++ wsX30)
def wsX3_handDown : List Cond := .code yX3_handDown cX3_handDown 6 none :: ([.fieldLink RX3 15 "CountLearners$TextTables" "behind" "[I", .fieldLink RX3 18 "CountLearners$TextTables" "uppers" "[J", .constantLong RX3 52 (2), .fieldLink RX3 22 "CountLearners$TextTables" "lower" "J"] ++ wsX30)
def wsX3_putAbove : List Cond := .code yX3_putAbove cX3_putAbove 6 none :: ([.fieldLink RX3 15 "CountLearners$TextTables" "behind" "[I", .fieldLink RX3 18 "CountLearners$TextTables" "uppers" "[J", .methodLink RX3 44 yX3_takeCounts, .instanceMethod yX3_takeCounts, .selects RX3 yX3_takeCounts yX3_takeCounts, .initialized RX3, .code yX3_takeCounts cX3_takeCounts 3 none, .fieldLink RX3 22 "CountLearners$TextTables" "lower" "J", .methodLink RX3 48 yX3_handDown, .instanceMethod yX3_handDown, .selects RX3 yX3_handDown yX3_handDown, .code yX3_handDown cX3_handDown 6 none, .constantLong RX3 52 (2)] ++ wsX30)
def wsX3_fill_r1 : List Cond := [Cond.methodLink RX3 30 yX3_fillFirst, Cond.instanceMethod yX3_fillFirst, Cond.selects RX3 yX3_fillFirst yX3_fillFirst, Cond.initialized RX3, Cond.code yX3_fillFirst cX3_fillFirst 2 none, Cond.fieldLink RX3 18 "CountLearners$TextTables" "uppers" "[J", Cond.fieldLink RX3 26 "CountLearners$TextTables" "textLength" "I", Cond.fieldLink RX3 11 "CountLearners$TextTables" "text" "[I", Cond.fieldLink RX3 22 "CountLearners$TextTables" "lower" "J", Cond.methodLink RX3 33 yX3_countBehind, Cond.instanceMethod yX3_countBehind, Cond.selects RX3 yX3_countBehind yX3_countBehind, Cond.code yX3_countBehind cX3_countBehind 4 none, Cond.fieldLink RX3 15 "CountLearners$TextTables" "behind" "[I", Cond.static yX5_setAll, Cond.initialized RX5, Cond.code yX5_setAll cX5_setAll 3 none, Cond.methodLink RX3 37 yX3_putAbove, Cond.instanceMethod yX3_putAbove, Cond.selects RX3 yX3_putAbove yX3_putAbove, Cond.code yX3_putAbove cX3_putAbove 6 none, Cond.methodLink RX3 44 yX3_takeCounts, Cond.instanceMethod yX3_takeCounts, Cond.selects RX3 yX3_takeCounts yX3_takeCounts]
def wsX3_fill_r2 : List Cond := [Cond.code yX3_takeCounts cX3_takeCounts 3 none, Cond.methodLink RX3 48 yX3_handDown, Cond.instanceMethod yX3_handDown, Cond.selects RX3 yX3_handDown yX3_handDown, Cond.code yX3_handDown cX3_handDown 6 none, Cond.constantLong RX3 52 (2)]
def wsX3_fill : List Cond := .code yX3_fill cX3_fill 3 none :: ((wsX3_fill_r1 ++ wsX3_fill_r2) ++ wsX30)
def wsX4_init : List Cond := .code yX4_init cX4_init 1 none :: ([.methodLink RX4 3 objectInit, .instanceMethod objectInit, .code objectInit ⟨#[0xb1]⟩ 1 none, .arrayClass .int, .fieldLink RX4 11 "CountLearners$WordRules" "support" "[I", .fieldLink RX4 15 "CountLearners$WordRules" "having" "[I", .fieldLink RX4 18 "CountLearners$WordRules" "keys" "[I", .fieldLink RX4 21 "CountLearners$WordRules" "ruleCount" "I"] ++ wsX40)
def wsX4_has : List Cond := .code yX4_has cX4_has 2 (some .boolean) :: ([.fieldLink RX4 21 "CountLearners$WordRules" "ruleCount" "I"] ++ wsX40)
def wsX4_size : List Cond := .code yX4_size cX4_size 1 (some .int) :: ([.fieldLink RX4 21 "CountLearners$WordRules" "ruleCount" "I"] ++ wsX40)
def wsX4_partOf : List Cond := .code yX4_partOf cX4_partOf 5 (some .int) :: ([.fieldLink RX4 18 "CountLearners$WordRules" "keys" "[I", .fieldLink RX4 11 "CountLearners$WordRules" "support" "[I", .fieldLink RX4 15 "CountLearners$WordRules" "having" "[I", .methodLink RX4 25 yX0_sideOf, .static yX0_sideOf, .initialized RX0, .code yX0_sideOf cX0_sideOf 7 (some .long), .methodLink RX0 7 yX0_commonDivisor, .static yX0_commonDivisor, .code yX0_commonDivisor cX0_commonDivisor 11 (some .long)] ++ wsX40)
def wsX4_countPairs : List Cond := .code yX4_countPairs cX4_countPairs 4 none :: ([.fieldLink RX4 11 "CountLearners$WordRules" "support" "[I"] ++ wsX40)
def wsX4_countSet : List Cond := .code yX4_countSet cX4_countSet 3 none :: ([.fieldLink RX4 15 "CountLearners$WordRules" "having" "[I", .methodLink RX4 55 yX4_countPairs, .instanceMethod yX4_countPairs, .selects RX4 yX4_countPairs yX4_countPairs, .initialized RX4, .code yX4_countPairs cX4_countPairs 4 none, .fieldLink RX4 11 "CountLearners$WordRules" "support" "[I"] ++ wsX40)
def wsX4_keyOf : List Cond := .code yX4_keyOf cX4_keyOf 3 (some .int) :: ([.fieldLink RX4 11 "CountLearners$WordRules" "support" "[I", .fieldLink RX4 15 "CountLearners$WordRules" "having" "[I"] ++ wsX40)
def wsX4_insert : List Cond := .code yX4_insert cX4_insert 3 none :: ([.fieldLink RX4 21 "CountLearners$WordRules" "ruleCount" "I", .fieldLink RX4 18 "CountLearners$WordRules" "keys" "[I"] ++ wsX40)
def wsX4_gather_r1 : List Cond := [Cond.fieldLink RX4 11 "CountLearners$WordRules" "support" "[I", Cond.fieldLink RX4 15 "CountLearners$WordRules" "having" "[I", Cond.fieldLink RX4 21 "CountLearners$WordRules" "ruleCount" "I", Cond.static yX5_setAll, Cond.initialized RX5, Cond.code yX5_setAll cX5_setAll 3 none, Cond.methodLink RX4 35 yX2_size, Cond.instanceMethod yX2_size, Cond.selects RX2 yX2_size yX2_size, Cond.initialized RX2, Cond.code yX2_size cX2_size 1 (some .int), Cond.fieldLink RX2 33 "CountLearners$LabelledRows" "rowCount" "I", Cond.methodLink RX4 41 yX2_wordSet, Cond.instanceMethod yX2_wordSet, Cond.selects RX2 yX2_wordSet yX2_wordSet, Cond.code yX2_wordSet cX2_wordSet 4 (some .int), Cond.fieldLink RX2 18 "CountLearners$LabelledRows" "lengths" "[I", Cond.fieldLink RX2 21 "CountLearners$LabelledRows" "words" "[I", Cond.methodLink RX4 45 yX4_countSet, Cond.instanceMethod yX4_countSet, Cond.selects RX4 yX4_countSet yX4_countSet, Cond.initialized RX4, Cond.code yX4_countSet cX4_countSet 3 none, Cond.methodLink RX4 55 yX4_countPairs]
def wsX4_gather_r2 : List Cond := [Cond.instanceMethod yX4_countPairs, Cond.selects RX4 yX4_countPairs yX4_countPairs, Cond.code yX4_countPairs cX4_countPairs 4 none, Cond.methodLink RX4 49 yX4_keyOf, Cond.instanceMethod yX4_keyOf, Cond.selects RX4 yX4_keyOf yX4_keyOf, Cond.code yX4_keyOf cX4_keyOf 3 (some .int), Cond.methodLink RX4 52 yX4_insert, Cond.instanceMethod yX4_insert, Cond.selects RX4 yX4_insert yX4_insert, Cond.code yX4_insert cX4_insert 3 none, Cond.fieldLink RX4 18 "CountLearners$WordRules" "keys" "[I"]
def wsX4_gather : List Cond := .code yX4_gather cX4_gather 3 none :: ((wsX4_gather_r1 ++ wsX4_gather_r2) ++ wsX40 ++ wsX20)
def wsX5_init_r1 : List Cond := [Cond.methodLink RX5 1 objectInit, Cond.instanceMethod objectInit, Cond.code objectInit ⟨#[0xb1]⟩ 1 none, Cond.classLink RX5 7 RX2, Cond.instantiable RX2 10, Cond.initialized RX2, Cond.fieldLink RX5 10 "CountLearners" "rows" "LCountLearners$LabelledRows;", Cond.classLink RX5 16 RX3, Cond.instantiable RX3 5, Cond.initialized RX3, Cond.fieldLink RX5 19 "CountLearners" "tables" "LCountLearners$TextTables;", Cond.classLink RX5 23 RX1, Cond.instantiable RX1 8, Cond.initialized RX1, Cond.fieldLink RX5 26 "CountLearners" "states" "LCountLearners$HiddenStates;", Cond.classLink RX5 30 RX4, Cond.instantiable RX4 4, Cond.initialized RX4, Cond.fieldLink RX5 33 "CountLearners" "rules" "LCountLearners$WordRules;", Cond.instanceMethod yX2_init, Cond.code yX2_init cX2_init 1 none, Cond.methodLink RX2 3 objectInit, Cond.arrayClass .int, Cond.fieldLink RX2 11 "CountLearners$LabelledRows" "labels" "[I"]
def wsX5_init_r2 : List Cond := [Cond.fieldLink RX2 15 "CountLearners$LabelledRows" "guesses" "[I", Cond.fieldLink RX2 18 "CountLearners$LabelledRows" "lengths" "[I", Cond.fieldLink RX2 21 "CountLearners$LabelledRows" "words" "[I", Cond.fieldLink RX2 24 "CountLearners$LabelledRows" "times" "[I", Cond.fieldLink RX2 27 "CountLearners$LabelledRows" "totals" "[I", Cond.fieldLink RX2 30 "CountLearners$LabelledRows" "sizes" "[I", Cond.fieldLink RX2 33 "CountLearners$LabelledRows" "rowCount" "I", Cond.fieldLink RX2 37 "CountLearners$LabelledRows" "addedUp" "I", Cond.fieldLink RX2 40 "CountLearners$LabelledRows" "addedDown" "I", Cond.instanceMethod yX3_init, Cond.code yX3_init cX3_init 1 none, Cond.methodLink RX3 3 objectInit, Cond.fieldLink RX3 11 "CountLearners$TextTables" "text" "[I", Cond.fieldLink RX3 15 "CountLearners$TextTables" "behind" "[I", Cond.arrayClass .long, Cond.fieldLink RX3 18 "CountLearners$TextTables" "uppers" "[J", Cond.fieldLink RX3 22 "CountLearners$TextTables" "lower" "J", Cond.fieldLink RX3 26 "CountLearners$TextTables" "textLength" "I", Cond.methodLink RX5 25 yX1_init, Cond.instanceMethod yX1_init, Cond.code yX1_init cX1_init 1 none, Cond.methodLink RX1 5 objectInit, Cond.fieldLink RX1 11 "CountLearners$HiddenStates" "weights" "[I", Cond.fieldLink RX1 15 "CountLearners$HiddenStates" "freshWeights" "[I"]
def wsX5_init_r3 : List Cond := [Cond.fieldLink RX1 18 "CountLearners$HiddenStates" "signs" "[I", Cond.fieldLink RX1 21 "CountLearners$HiddenStates" "lengths" "[I", Cond.fieldLink RX1 24 "CountLearners$HiddenStates" "sums" "[J", Cond.fieldLink RX1 28 "CountLearners$HiddenStates" "nextSums" "[J", Cond.fieldLink RX1 31 "CountLearners$HiddenStates" "bestFrom" "[J", Cond.fieldLink RX1 34 "CountLearners$HiddenStates" "bestPath" "[I", Cond.static yX5_setAll, Cond.initialized RX5, Cond.code yX5_setAll cX5_setAll 3 none, Cond.instanceMethod yX4_init, Cond.code yX4_init cX4_init 1 none, Cond.methodLink RX4 3 objectInit, Cond.fieldLink RX4 11 "CountLearners$WordRules" "support" "[I", Cond.fieldLink RX4 15 "CountLearners$WordRules" "having" "[I", Cond.fieldLink RX4 18 "CountLearners$WordRules" "keys" "[I", Cond.fieldLink RX4 21 "CountLearners$WordRules" "ruleCount" "I"]
def wsX5_init : List Cond := .code yX5_init cX5_init 1 none :: ((wsX5_init_r1 ++ (wsX5_init_r2 ++ wsX5_init_r3)) ++ wsX20 ++ wsX50 ++ wsX30 ++ wsX10 ++ wsX40)
def wsX5_isWithin : List Cond := .code yX5_isWithin cX5_isWithin 3 (some .boolean) :: ([])
def wsX5_isLabel : List Cond := .code yX5_isLabel cX5_isLabel 1 (some .boolean) :: ([.methodLink RX5 65 yX5_isWithin, .static yX5_isWithin, .initialized RX5, .code yX5_isWithin cX5_isWithin 3 (some .boolean)])
def wsX5_isLabelOrNone : List Cond := .code yX5_isLabelOrNone cX5_isLabelOrNone 1 (some .boolean) :: ([.methodLink RX5 73 yX5_isLabel, .static yX5_isLabel, .initialized RX5, .code yX5_isLabel cX5_isLabel 1 (some .boolean), .methodLink RX5 65 yX5_isWithin, .static yX5_isWithin, .code yX5_isWithin cX5_isWithin 3 (some .boolean)])
def wsX5_row_r1 : List Cond := [Cond.fieldLink RX5 10 "CountLearners" "rows" "LCountLearners$LabelledRows;", Cond.methodLink RX5 37 yX5_isLabelOrNone, Cond.static yX5_isLabelOrNone, Cond.initialized RX5, Cond.code yX5_isLabelOrNone cX5_isLabelOrNone 1 (some .boolean), Cond.methodLink RX5 73 yX5_isLabel, Cond.static yX5_isLabel, Cond.code yX5_isLabel cX5_isLabel 1 (some .boolean), Cond.methodLink RX5 65 yX5_isWithin, Cond.static yX5_isWithin, Cond.code yX5_isWithin cX5_isWithin 3 (some .boolean), Cond.methodLink RX5 41 yX2_isFull, Cond.instanceMethod yX2_isFull, Cond.selects RX2 yX2_isFull yX2_isFull, Cond.initialized RX2, Cond.code yX2_isFull cX2_isFull 1 (some .boolean), Cond.fieldLink RX2 33 "CountLearners$LabelledRows" "rowCount" "I", Cond.methodLink RX5 45 yX2_open, Cond.instanceMethod yX2_open, Cond.selects RX2 yX2_open yX2_open, Cond.code yX2_open cX2_open 3 (some .int), Cond.fieldLink RX2 11 "CountLearners$LabelledRows" "labels" "[I", Cond.methodLink RX2 43 yX2_startAnew, Cond.instanceMethod yX2_startAnew]
def wsX5_row_r2 : List Cond := [Cond.selects RX2 yX2_startAnew yX2_startAnew, Cond.code yX2_startAnew cX2_startAnew 1 none, Cond.fieldLink RX2 15 "CountLearners$LabelledRows" "guesses" "[I", Cond.static yX5_setAll, Cond.code yX5_setAll cX5_setAll 3 none, Cond.methodLink RX2 76 yX2_tally, Cond.instanceMethod yX2_tally, Cond.selects RX2 yX2_tally yX2_tally, Cond.code yX2_tally cX2_tally 3 none, Cond.fieldLink RX2 24 "CountLearners$LabelledRows" "times" "[I", Cond.fieldLink RX2 27 "CountLearners$LabelledRows" "totals" "[I", Cond.fieldLink RX2 30 "CountLearners$LabelledRows" "sizes" "[I", Cond.methodLink RX2 83 yX2_tallyRow, Cond.instanceMethod yX2_tallyRow, Cond.selects RX2 yX2_tallyRow yX2_tallyRow, Cond.code yX2_tallyRow cX2_tallyRow 4 none, Cond.fieldLink RX2 18 "CountLearners$LabelledRows" "lengths" "[I", Cond.fieldLink RX2 21 "CountLearners$LabelledRows" "words" "[I"]
def wsX5_row : List Cond := .code yX5_row cX5_row 2 (some .int) :: ((wsX5_row_r1 ++ wsX5_row_r2) ++ wsX50 ++ wsX20)
def wsX5_isWord : List Cond := .code yX5_isWord cX5_isWord 1 (some .boolean) :: ([.methodLink RX5 65 yX5_isWithin, .static yX5_isWithin, .initialized RX5, .code yX5_isWithin cX5_isWithin 3 (some .boolean)])
def wsX5_word_r1 : List Cond := [Cond.fieldLink RX5 10 "CountLearners" "rows" "LCountLearners$LabelledRows;", Cond.methodLink RX5 49 yX2_has, Cond.instanceMethod yX2_has, Cond.selects RX2 yX2_has yX2_has, Cond.initialized RX2, Cond.code yX2_has cX2_has 2 (some .boolean), Cond.fieldLink RX2 33 "CountLearners$LabelledRows" "rowCount" "I", Cond.methodLink RX5 52 yX5_isWord, Cond.static yX5_isWord, Cond.initialized RX5, Cond.code yX5_isWord cX5_isWord 1 (some .boolean), Cond.methodLink RX5 65 yX5_isWithin, Cond.static yX5_isWithin, Cond.code yX5_isWithin cX5_isWithin 3 (some .boolean), Cond.methodLink RX5 55 yX2_isFullRow, Cond.instanceMethod yX2_isFullRow, Cond.selects RX2 yX2_isFullRow yX2_isFullRow, Cond.code yX2_isFullRow cX2_isFullRow 2 (some .boolean), Cond.fieldLink RX2 18 "CountLearners$LabelledRows" "lengths" "[I", Cond.methodLink RX5 58 yX2_append, Cond.instanceMethod yX2_append, Cond.selects RX2 yX2_append yX2_append, Cond.code yX2_append cX2_append 3 (some .int), Cond.fieldLink RX2 21 "CountLearners$LabelledRows" "words" "[I"]
def wsX5_word_r2 : List Cond := [Cond.methodLink RX2 43 yX2_startAnew, Cond.instanceMethod yX2_startAnew, Cond.selects RX2 yX2_startAnew yX2_startAnew, Cond.code yX2_startAnew cX2_startAnew 1 none, Cond.fieldLink RX2 15 "CountLearners$LabelledRows" "guesses" "[I", Cond.static yX5_setAll, Cond.code yX5_setAll cX5_setAll 3 none, Cond.methodLink RX2 76 yX2_tally, Cond.instanceMethod yX2_tally, Cond.selects RX2 yX2_tally yX2_tally, Cond.code yX2_tally cX2_tally 3 none, Cond.fieldLink RX2 24 "CountLearners$LabelledRows" "times" "[I", Cond.fieldLink RX2 27 "CountLearners$LabelledRows" "totals" "[I", Cond.fieldLink RX2 30 "CountLearners$LabelledRows" "sizes" "[I", Cond.fieldLink RX2 11 "CountLearners$LabelledRows" "labels" "[I", Cond.methodLink RX2 83 yX2_tallyRow, Cond.instanceMethod yX2_tallyRow, Cond.selects RX2 yX2_tallyRow yX2_tallyRow, Cond.code yX2_tallyRow cX2_tallyRow 4 none]
def wsX5_word : List Cond := .code yX5_word cX5_word 3 (some .int) :: ((wsX5_word_r1 ++ wsX5_word_r2) ++ wsX50 ++ wsX20)
def wsX5_label_r1 : List Cond := [Cond.fieldLink RX5 10 "CountLearners" "rows" "LCountLearners$LabelledRows;", Cond.methodLink RX5 49 yX2_has, Cond.instanceMethod yX2_has, Cond.selects RX2 yX2_has yX2_has, Cond.initialized RX2, Cond.code yX2_has cX2_has 2 (some .boolean), Cond.fieldLink RX2 33 "CountLearners$LabelledRows" "rowCount" "I", Cond.methodLink RX5 37 yX5_isLabelOrNone, Cond.static yX5_isLabelOrNone, Cond.initialized RX5, Cond.code yX5_isLabelOrNone cX5_isLabelOrNone 1 (some .boolean), Cond.methodLink RX5 73 yX5_isLabel, Cond.static yX5_isLabel, Cond.code yX5_isLabel cX5_isLabel 1 (some .boolean), Cond.methodLink RX5 65 yX5_isWithin, Cond.static yX5_isWithin, Cond.code yX5_isWithin cX5_isWithin 3 (some .boolean), Cond.methodLink RX5 62 yX2_relabel, Cond.instanceMethod yX2_relabel, Cond.selects RX2 yX2_relabel yX2_relabel, Cond.code yX2_relabel cX2_relabel 4 (some .int), Cond.fieldLink RX2 11 "CountLearners$LabelledRows" "labels" "[I", Cond.methodLink RX2 43 yX2_startAnew, Cond.instanceMethod yX2_startAnew]
def wsX5_label_r2 : List Cond := [Cond.selects RX2 yX2_startAnew yX2_startAnew, Cond.code yX2_startAnew cX2_startAnew 1 none, Cond.fieldLink RX2 15 "CountLearners$LabelledRows" "guesses" "[I", Cond.static yX5_setAll, Cond.code yX5_setAll cX5_setAll 3 none, Cond.methodLink RX2 76 yX2_tally, Cond.instanceMethod yX2_tally, Cond.selects RX2 yX2_tally yX2_tally, Cond.code yX2_tally cX2_tally 3 none, Cond.fieldLink RX2 24 "CountLearners$LabelledRows" "times" "[I", Cond.fieldLink RX2 27 "CountLearners$LabelledRows" "totals" "[I", Cond.fieldLink RX2 30 "CountLearners$LabelledRows" "sizes" "[I", Cond.methodLink RX2 83 yX2_tallyRow, Cond.instanceMethod yX2_tallyRow, Cond.selects RX2 yX2_tallyRow yX2_tallyRow, Cond.code yX2_tallyRow cX2_tallyRow 4 none, Cond.fieldLink RX2 18 "CountLearners$LabelledRows" "lengths" "[I", Cond.fieldLink RX2 21 "CountLearners$LabelledRows" "words" "[I"]
def wsX5_label : List Cond := .code yX5_label cX5_label 3 (some .int) :: ((wsX5_label_r1 ++ wsX5_label_r2) ++ wsX50 ++ wsX20)
def wsX5_addition_r1 : List Cond := [Cond.fieldLink RX5 10 "CountLearners" "rows" "LCountLearners$LabelledRows;", Cond.methodLink RX5 65 yX5_isWithin, Cond.static yX5_isWithin, Cond.initialized RX5, Cond.code yX5_isWithin cX5_isWithin 3 (some .boolean), Cond.methodLink RX5 69 yX2_setAddition, Cond.instanceMethod yX2_setAddition, Cond.selects RX2 yX2_setAddition yX2_setAddition, Cond.initialized RX2, Cond.code yX2_setAddition cX2_setAddition 3 none, Cond.fieldLink RX2 37 "CountLearners$LabelledRows" "addedUp" "I", Cond.fieldLink RX2 40 "CountLearners$LabelledRows" "addedDown" "I", Cond.methodLink RX2 43 yX2_startAnew, Cond.instanceMethod yX2_startAnew, Cond.selects RX2 yX2_startAnew yX2_startAnew, Cond.code yX2_startAnew cX2_startAnew 1 none, Cond.fieldLink RX2 15 "CountLearners$LabelledRows" "guesses" "[I", Cond.static yX5_setAll, Cond.code yX5_setAll cX5_setAll 3 none, Cond.methodLink RX2 76 yX2_tally, Cond.instanceMethod yX2_tally, Cond.selects RX2 yX2_tally yX2_tally, Cond.code yX2_tally cX2_tally 3 none, Cond.fieldLink RX2 24 "CountLearners$LabelledRows" "times" "[I"]
def wsX5_addition_r2 : List Cond := [Cond.fieldLink RX2 27 "CountLearners$LabelledRows" "totals" "[I", Cond.fieldLink RX2 30 "CountLearners$LabelledRows" "sizes" "[I", Cond.fieldLink RX2 33 "CountLearners$LabelledRows" "rowCount" "I", Cond.fieldLink RX2 11 "CountLearners$LabelledRows" "labels" "[I", Cond.methodLink RX2 83 yX2_tallyRow, Cond.instanceMethod yX2_tallyRow, Cond.selects RX2 yX2_tallyRow yX2_tallyRow, Cond.code yX2_tallyRow cX2_tallyRow 4 none, Cond.fieldLink RX2 18 "CountLearners$LabelledRows" "lengths" "[I", Cond.fieldLink RX2 21 "CountLearners$LabelledRows" "words" "[I"]
def wsX5_addition : List Cond := .code yX5_addition cX5_addition 3 (some .int) :: ((wsX5_addition_r1 ++ wsX5_addition_r2) ++ wsX50 ++ wsX20)
def wsX5_counted_r1 : List Cond := [Cond.fieldLink RX5 10 "CountLearners" "rows" "LCountLearners$LabelledRows;", Cond.methodLink RX5 73 yX5_isLabel, Cond.static yX5_isLabel, Cond.initialized RX5, Cond.code yX5_isLabel cX5_isLabel 1 (some .boolean), Cond.methodLink RX5 65 yX5_isWithin, Cond.static yX5_isWithin, Cond.code yX5_isWithin cX5_isWithin 3 (some .boolean), Cond.methodLink RX5 52 yX5_isWord, Cond.static yX5_isWord, Cond.code yX5_isWord cX5_isWord 1 (some .boolean), Cond.methodLink RX5 76 yX2_timesIn, Cond.instanceMethod yX2_timesIn, Cond.selects RX2 yX2_timesIn yX2_timesIn, Cond.initialized RX2, Cond.code yX2_timesIn cX2_timesIn 3 (some .int), Cond.fieldLink RX2 24 "CountLearners$LabelledRows" "times" "[I", Cond.methodLink RX5 79 yX2_wordsIn, Cond.instanceMethod yX2_wordsIn, Cond.selects RX2 yX2_wordsIn yX2_wordsIn, Cond.code yX2_wordsIn cX2_wordsIn 2 (some .int), Cond.fieldLink RX2 27 "CountLearners$LabelledRows" "totals" "[I", Cond.methodLink RX5 82 yX2_rowsIn, Cond.instanceMethod yX2_rowsIn]
def wsX5_counted_r2 : List Cond := [Cond.selects RX2 yX2_rowsIn yX2_rowsIn, Cond.code yX2_rowsIn cX2_rowsIn 2 (some .int), Cond.fieldLink RX2 30 "CountLearners$LabelledRows" "sizes" "[I"]
def wsX5_counted : List Cond := .code yX5_counted cX5_counted 3 (some .int) :: ((wsX5_counted_r1 ++ wsX5_counted_r2) ++ wsX50 ++ wsX20)
def wsX5_isSide : List Cond := .code yX5_isSide cX5_isSide 1 (some .boolean) :: ([.methodLink RX5 65 yX5_isWithin, .static yX5_isWithin, .initialized RX5, .code yX5_isWithin cX5_isWithin 3 (some .boolean)])
def wsX5_share_r1 : List Cond := [Cond.classLink RX5 94 "java/lang/ArithmeticException", Cond.initialized "java/lang/ArithmeticException", Cond.constantLong RX5 88 (-2), Cond.fieldLink RX5 10 "CountLearners" "rows" "LCountLearners$LabelledRows;", Cond.methodLink RX5 73 yX5_isLabel, Cond.static yX5_isLabel, Cond.initialized RX5, Cond.code yX5_isLabel cX5_isLabel 1 (some .boolean), Cond.methodLink RX5 65 yX5_isWithin, Cond.static yX5_isWithin, Cond.code yX5_isWithin cX5_isWithin 3 (some .boolean), Cond.methodLink RX5 52 yX5_isWord, Cond.static yX5_isWord, Cond.code yX5_isWord cX5_isWord 1 (some .boolean), Cond.methodLink RX5 85 yX5_isSide, Cond.static yX5_isSide, Cond.code yX5_isSide cX5_isSide 1 (some .boolean), Cond.methodLink RX5 90 yX2_shareLower, Cond.instanceMethod yX2_shareLower, Cond.selects RX2 yX2_shareLower yX2_shareLower, Cond.initialized RX2, Cond.code yX2_shareLower cX2_shareLower 2 (some .long), Cond.fieldLink RX2 27 "CountLearners$LabelledRows" "totals" "[I", Cond.fieldLink RX2 40 "CountLearners$LabelledRows" "addedDown" "I"]
def wsX5_share_r2 : List Cond := [Cond.constantLong RX2 50 (8), Cond.fieldLink RX2 37 "CountLearners$LabelledRows" "addedUp" "I", Cond.methodLink RX5 101 yX2_shareUpper, Cond.instanceMethod yX2_shareUpper, Cond.selects RX2 yX2_shareUpper yX2_shareUpper, Cond.code yX2_shareUpper cX2_shareUpper 3 (some .long), Cond.methodLink RX2 46 yX2_timesIn, Cond.instanceMethod yX2_timesIn, Cond.selects RX2 yX2_timesIn yX2_timesIn, Cond.code yX2_timesIn cX2_timesIn 3 (some .int), Cond.fieldLink RX2 24 "CountLearners$LabelledRows" "times" "[I", Cond.methodLink RX5 105 yX0_sideOf, Cond.static yX0_sideOf, Cond.initialized RX0, Cond.code yX0_sideOf cX0_sideOf 7 (some .long), Cond.methodLink RX0 7 yX0_commonDivisor, Cond.static yX0_commonDivisor, Cond.code yX0_commonDivisor cX0_commonDivisor 11 (some .long)]
def wsX5_share : List Cond := .code yX5_share cX5_share 6 (some .long) :: ((wsX5_share_r1 ++ wsX5_share_r2) ++ wsX50 ++ wsX20 ++ (vx_atS RX5 98 "java/lang/ArithmeticException" ["java/lang/RuntimeException", "java/lang/Exception"]).filter goodWord)
def wsX5_weight_r1 : List Cond := [Cond.fieldLink RX5 10 "CountLearners" "rows" "LCountLearners$LabelledRows;", Cond.constantLong RX5 88 (-2), Cond.methodLink RX5 49 yX2_has, Cond.instanceMethod yX2_has, Cond.selects RX2 yX2_has yX2_has, Cond.initialized RX2, Cond.code yX2_has cX2_has 2 (some .boolean), Cond.fieldLink RX2 33 "CountLearners$LabelledRows" "rowCount" "I", Cond.methodLink RX5 73 yX5_isLabel, Cond.static yX5_isLabel, Cond.initialized RX5, Cond.code yX5_isLabel cX5_isLabel 1 (some .boolean), Cond.methodLink RX5 65 yX5_isWithin, Cond.static yX5_isWithin, Cond.code yX5_isWithin cX5_isWithin 3 (some .boolean), Cond.methodLink RX5 85 yX5_isSide, Cond.static yX5_isSide, Cond.code yX5_isSide cX5_isSide 1 (some .boolean), Cond.methodLink RX5 111 yX2_weightUpper, Cond.instanceMethod yX2_weightUpper, Cond.selects RX2 yX2_weightUpper yX2_weightUpper, Cond.code yX2_weightUpper cX2_weightUpper 6 (some .long), Cond.fieldLink RX2 30 "CountLearners$LabelledRows" "sizes" "[I", Cond.fieldLink RX2 18 "CountLearners$LabelledRows" "lengths" "[I"]
def wsX5_weight_r2 : List Cond := [Cond.fieldLink RX2 21 "CountLearners$LabelledRows" "words" "[I", Cond.methodLink RX2 52 yX2_shareUpper, Cond.instanceMethod yX2_shareUpper, Cond.selects RX2 yX2_shareUpper yX2_shareUpper, Cond.code yX2_shareUpper cX2_shareUpper 3 (some .long), Cond.fieldLink RX2 40 "CountLearners$LabelledRows" "addedDown" "I", Cond.fieldLink RX2 37 "CountLearners$LabelledRows" "addedUp" "I", Cond.methodLink RX2 46 yX2_timesIn, Cond.instanceMethod yX2_timesIn, Cond.selects RX2 yX2_timesIn yX2_timesIn, Cond.code yX2_timesIn cX2_timesIn 3 (some .int), Cond.fieldLink RX2 24 "CountLearners$LabelledRows" "times" "[I", Cond.methodLink RX5 114 yX2_weightLower, Cond.instanceMethod yX2_weightLower, Cond.selects RX2 yX2_weightLower yX2_weightLower, Cond.code yX2_weightLower cX2_weightLower 6 (some .long), Cond.methodLink RX2 56 yX2_shareLower, Cond.instanceMethod yX2_shareLower, Cond.selects RX2 yX2_shareLower yX2_shareLower, Cond.code yX2_shareLower cX2_shareLower 2 (some .long), Cond.fieldLink RX2 27 "CountLearners$LabelledRows" "totals" "[I", Cond.constantLong RX2 50 (8), Cond.methodLink RX5 105 yX0_sideOf, Cond.static yX0_sideOf]
def wsX5_weight_r3 : List Cond := [Cond.initialized RX0, Cond.code yX0_sideOf cX0_sideOf 7 (some .long), Cond.methodLink RX0 7 yX0_commonDivisor, Cond.static yX0_commonDivisor, Cond.code yX0_commonDivisor cX0_commonDivisor 11 (some .long)]
def wsX5_weight : List Cond := .code yX5_weight cX5_weight 4 (some .long) :: ((wsX5_weight_r1 ++ (wsX5_weight_r2 ++ wsX5_weight_r3)) ++ wsX50 ++ wsX20)
def wsX5_best_r1 : List Cond := [Cond.fieldLink RX5 10 "CountLearners" "rows" "LCountLearners$LabelledRows;", Cond.methodLink RX5 49 yX2_has, Cond.instanceMethod yX2_has, Cond.selects RX2 yX2_has yX2_has, Cond.initialized RX2, Cond.code yX2_has cX2_has 2 (some .boolean), Cond.fieldLink RX2 33 "CountLearners$LabelledRows" "rowCount" "I", Cond.methodLink RX5 117 yX2_bestLabel, Cond.instanceMethod yX2_bestLabel, Cond.selects RX2 yX2_bestLabel yX2_bestLabel, Cond.code yX2_bestLabel cX2_bestLabel 12 (some .int), Cond.methodLink RX2 60 yX2_weightUpper, Cond.instanceMethod yX2_weightUpper, Cond.selects RX2 yX2_weightUpper yX2_weightUpper, Cond.code yX2_weightUpper cX2_weightUpper 6 (some .long), Cond.fieldLink RX2 30 "CountLearners$LabelledRows" "sizes" "[I", Cond.fieldLink RX2 18 "CountLearners$LabelledRows" "lengths" "[I", Cond.fieldLink RX2 21 "CountLearners$LabelledRows" "words" "[I", Cond.methodLink RX2 52 yX2_shareUpper, Cond.instanceMethod yX2_shareUpper, Cond.selects RX2 yX2_shareUpper yX2_shareUpper, Cond.code yX2_shareUpper cX2_shareUpper 3 (some .long), Cond.fieldLink RX2 40 "CountLearners$LabelledRows" "addedDown" "I", Cond.fieldLink RX2 37 "CountLearners$LabelledRows" "addedUp" "I"]
def wsX5_best_r2 : List Cond := [Cond.methodLink RX2 46 yX2_timesIn, Cond.instanceMethod yX2_timesIn, Cond.selects RX2 yX2_timesIn yX2_timesIn, Cond.code yX2_timesIn cX2_timesIn 3 (some .int), Cond.fieldLink RX2 24 "CountLearners$LabelledRows" "times" "[I", Cond.methodLink RX2 63 yX2_weightLower, Cond.instanceMethod yX2_weightLower, Cond.selects RX2 yX2_weightLower yX2_weightLower, Cond.code yX2_weightLower cX2_weightLower 6 (some .long), Cond.methodLink RX2 56 yX2_shareLower, Cond.instanceMethod yX2_shareLower, Cond.selects RX2 yX2_shareLower yX2_shareLower, Cond.code yX2_shareLower cX2_shareLower 2 (some .long), Cond.fieldLink RX2 27 "CountLearners$LabelledRows" "totals" "[I", Cond.constantLong RX2 50 (8), Cond.methodLink RX2 66 yX0_isAbove, Cond.static yX0_isAbove, Cond.initialized RX0, Cond.code yX0_isAbove cX0_isAbove 25 (some .boolean)]
def wsX5_best : List Cond := .code yX5_best cX5_best 2 (some .int) :: ((wsX5_best_r1 ++ wsX5_best_r2) ++ wsX50 ++ wsX20)
def wsX5_rounds_r1 : List Cond := [Cond.fieldLink RX5 10 "CountLearners" "rows" "LCountLearners$LabelledRows;", Cond.methodLink RX5 65 yX5_isWithin, Cond.static yX5_isWithin, Cond.initialized RX5, Cond.code yX5_isWithin cX5_isWithin 3 (some .boolean), Cond.methodLink RX5 120 yX2_guessAnew, Cond.instanceMethod yX2_guessAnew, Cond.selects RX2 yX2_guessAnew yX2_guessAnew, Cond.initialized RX2, Cond.code yX2_guessAnew cX2_guessAnew 4 (some .boolean), Cond.fieldLink RX2 33 "CountLearners$LabelledRows" "rowCount" "I", Cond.fieldLink RX2 11 "CountLearners$LabelledRows" "labels" "[I", Cond.fieldLink RX2 15 "CountLearners$LabelledRows" "guesses" "[I", Cond.methodLink RX2 72 yX2_bestLabel, Cond.instanceMethod yX2_bestLabel, Cond.selects RX2 yX2_bestLabel yX2_bestLabel, Cond.code yX2_bestLabel cX2_bestLabel 12 (some .int), Cond.methodLink RX2 60 yX2_weightUpper, Cond.instanceMethod yX2_weightUpper, Cond.selects RX2 yX2_weightUpper yX2_weightUpper, Cond.code yX2_weightUpper cX2_weightUpper 6 (some .long), Cond.fieldLink RX2 30 "CountLearners$LabelledRows" "sizes" "[I", Cond.fieldLink RX2 18 "CountLearners$LabelledRows" "lengths" "[I", Cond.fieldLink RX2 21 "CountLearners$LabelledRows" "words" "[I"]
def wsX5_rounds_r2 : List Cond := [Cond.methodLink RX2 52 yX2_shareUpper, Cond.instanceMethod yX2_shareUpper, Cond.selects RX2 yX2_shareUpper yX2_shareUpper, Cond.code yX2_shareUpper cX2_shareUpper 3 (some .long), Cond.fieldLink RX2 40 "CountLearners$LabelledRows" "addedDown" "I", Cond.fieldLink RX2 37 "CountLearners$LabelledRows" "addedUp" "I", Cond.methodLink RX2 46 yX2_timesIn, Cond.instanceMethod yX2_timesIn, Cond.selects RX2 yX2_timesIn yX2_timesIn, Cond.code yX2_timesIn cX2_timesIn 3 (some .int), Cond.fieldLink RX2 24 "CountLearners$LabelledRows" "times" "[I", Cond.methodLink RX2 63 yX2_weightLower, Cond.instanceMethod yX2_weightLower, Cond.selects RX2 yX2_weightLower yX2_weightLower, Cond.code yX2_weightLower cX2_weightLower 6 (some .long), Cond.methodLink RX2 56 yX2_shareLower, Cond.instanceMethod yX2_shareLower, Cond.selects RX2 yX2_shareLower yX2_shareLower, Cond.code yX2_shareLower cX2_shareLower 2 (some .long), Cond.fieldLink RX2 27 "CountLearners$LabelledRows" "totals" "[I", Cond.constantLong RX2 50 (8), Cond.methodLink RX2 66 yX0_isAbove, Cond.static yX0_isAbove, Cond.initialized RX0]
def wsX5_rounds_r3 : List Cond := [Cond.code yX0_isAbove cX0_isAbove 25 (some .boolean), Cond.methodLink RX2 76 yX2_tally, Cond.instanceMethod yX2_tally, Cond.selects RX2 yX2_tally yX2_tally, Cond.code yX2_tally cX2_tally 3 none, Cond.static yX5_setAll, Cond.code yX5_setAll cX5_setAll 3 none, Cond.methodLink RX2 83 yX2_tallyRow, Cond.instanceMethod yX2_tallyRow, Cond.selects RX2 yX2_tallyRow yX2_tallyRow, Cond.code yX2_tallyRow cX2_tallyRow 4 none]
def wsX5_rounds : List Cond := .code yX5_rounds cX5_rounds 4 (some .int) :: ((wsX5_rounds_r1 ++ (wsX5_rounds_r2 ++ wsX5_rounds_r3)) ++ wsX50 ++ wsX20)
def wsX5_guess : List Cond := .code yX5_guess cX5_guess 2 (some .int) :: ([.fieldLink RX5 10 "CountLearners" "rows" "LCountLearners$LabelledRows;", .methodLink RX5 49 yX2_has, .instanceMethod yX2_has, .selects RX2 yX2_has yX2_has, .initialized RX2, .code yX2_has cX2_has 2 (some .boolean), .fieldLink RX2 33 "CountLearners$LabelledRows" "rowCount" "I", .methodLink RX5 123 yX2_guessOf, .instanceMethod yX2_guessOf, .selects RX2 yX2_guessOf yX2_guessOf, .code yX2_guessOf cX2_guessOf 2 (some .int), .fieldLink RX2 15 "CountLearners$LabelledRows" "guesses" "[I"] ++ wsX50 ++ wsX20)
def wsX5_text : List Cond := .code yX5_text cX5_text 2 (some .int) :: ([.fieldLink RX5 19 "CountLearners" "tables" "LCountLearners$TextTables;", .methodLink RX5 52 yX5_isWord, .static yX5_isWord, .initialized RX5, .code yX5_isWord cX5_isWord 1 (some .boolean), .methodLink RX5 65 yX5_isWithin, .static yX5_isWithin, .code yX5_isWithin cX5_isWithin 3 (some .boolean), .methodLink RX5 126 yX3_isFull, .instanceMethod yX3_isFull, .selects RX3 yX3_isFull yX3_isFull, .initialized RX3, .code yX3_isFull cX3_isFull 1 (some .boolean), .fieldLink RX3 26 "CountLearners$TextTables" "textLength" "I", .methodLink RX5 127 yX3_append, .instanceMethod yX3_append, .selects RX3 yX3_append yX3_append, .code yX3_append cX3_append 2 (some .int), .fieldLink RX3 11 "CountLearners$TextTables" "text" "[I"] ++ wsX50 ++ wsX30)
def wsX5_isTable : List Cond := .code yX5_isTable cX5_isTable 2 (some .boolean) :: ([.methodLink RX5 52 yX5_isWord, .static yX5_isWord, .initialized RX5, .code yX5_isWord cX5_isWord 1 (some .boolean), .methodLink RX5 65 yX5_isWithin, .static yX5_isWithin, .code yX5_isWithin cX5_isWithin 3 (some .boolean)])
def wsX5_next_r1 : List Cond := [Cond.constantLong RX5 88 (-2), Cond.fieldLink RX5 19 "CountLearners" "tables" "LCountLearners$TextTables;", Cond.methodLink RX5 129 yX5_isTable, Cond.static yX5_isTable, Cond.initialized RX5, Cond.code yX5_isTable cX5_isTable 2 (some .boolean), Cond.methodLink RX5 52 yX5_isWord, Cond.static yX5_isWord, Cond.code yX5_isWord cX5_isWord 1 (some .boolean), Cond.methodLink RX5 65 yX5_isWithin, Cond.static yX5_isWithin, Cond.code yX5_isWithin cX5_isWithin 3 (some .boolean), Cond.methodLink RX5 85 yX5_isSide, Cond.static yX5_isSide, Cond.code yX5_isSide cX5_isSide 1 (some .boolean), Cond.methodLink RX5 133 yX3_fill, Cond.instanceMethod yX3_fill, Cond.selects RX3 yX3_fill yX3_fill, Cond.initialized RX3, Cond.code yX3_fill cX3_fill 3 none, Cond.methodLink RX3 30 yX3_fillFirst, Cond.instanceMethod yX3_fillFirst, Cond.selects RX3 yX3_fillFirst yX3_fillFirst, Cond.code yX3_fillFirst cX3_fillFirst 2 none]
def wsX5_next_r2 : List Cond := [Cond.fieldLink RX3 18 "CountLearners$TextTables" "uppers" "[J", Cond.fieldLink RX3 26 "CountLearners$TextTables" "textLength" "I", Cond.fieldLink RX3 11 "CountLearners$TextTables" "text" "[I", Cond.fieldLink RX3 22 "CountLearners$TextTables" "lower" "J", Cond.methodLink RX3 33 yX3_countBehind, Cond.instanceMethod yX3_countBehind, Cond.selects RX3 yX3_countBehind yX3_countBehind, Cond.code yX3_countBehind cX3_countBehind 4 none, Cond.fieldLink RX3 15 "CountLearners$TextTables" "behind" "[I", Cond.static yX5_setAll, Cond.code yX5_setAll cX5_setAll 3 none, Cond.methodLink RX3 37 yX3_putAbove, Cond.instanceMethod yX3_putAbove, Cond.selects RX3 yX3_putAbove yX3_putAbove, Cond.code yX3_putAbove cX3_putAbove 6 none, Cond.methodLink RX3 44 yX3_takeCounts, Cond.instanceMethod yX3_takeCounts, Cond.selects RX3 yX3_takeCounts yX3_takeCounts, Cond.code yX3_takeCounts cX3_takeCounts 3 none, Cond.methodLink RX3 48 yX3_handDown, Cond.instanceMethod yX3_handDown, Cond.selects RX3 yX3_handDown yX3_handDown, Cond.code yX3_handDown cX3_handDown 6 none, Cond.constantLong RX3 52 (2)]
def wsX5_next_r3 : List Cond := [Cond.methodLink RX5 136 yX3_upperOf, Cond.instanceMethod yX3_upperOf, Cond.selects RX3 yX3_upperOf yX3_upperOf, Cond.code yX3_upperOf cX3_upperOf 2 (some .long), Cond.methodLink RX5 139 yX3_lowerOfAll, Cond.instanceMethod yX3_lowerOfAll, Cond.selects RX3 yX3_lowerOfAll yX3_lowerOfAll, Cond.code yX3_lowerOfAll cX3_lowerOfAll 1 (some .long), Cond.methodLink RX5 105 yX0_sideOf, Cond.static yX0_sideOf, Cond.initialized RX0, Cond.code yX0_sideOf cX0_sideOf 7 (some .long), Cond.methodLink RX0 7 yX0_commonDivisor, Cond.static yX0_commonDivisor, Cond.code yX0_commonDivisor cX0_commonDivisor 11 (some .long)]
def wsX5_next : List Cond := .code yX5_next cX5_next 5 (some .long) :: ((wsX5_next_r1 ++ (wsX5_next_r2 ++ wsX5_next_r3)) ++ wsX50 ++ wsX30)
def wsX5_likely_r1 : List Cond := [Cond.fieldLink RX5 19 "CountLearners" "tables" "LCountLearners$TextTables;", Cond.methodLink RX5 129 yX5_isTable, Cond.static yX5_isTable, Cond.initialized RX5, Cond.code yX5_isTable cX5_isTable 2 (some .boolean), Cond.methodLink RX5 52 yX5_isWord, Cond.static yX5_isWord, Cond.code yX5_isWord cX5_isWord 1 (some .boolean), Cond.methodLink RX5 65 yX5_isWithin, Cond.static yX5_isWithin, Cond.code yX5_isWithin cX5_isWithin 3 (some .boolean), Cond.methodLink RX5 133 yX3_fill, Cond.instanceMethod yX3_fill, Cond.selects RX3 yX3_fill yX3_fill, Cond.initialized RX3, Cond.code yX3_fill cX3_fill 3 none, Cond.methodLink RX3 30 yX3_fillFirst, Cond.instanceMethod yX3_fillFirst, Cond.selects RX3 yX3_fillFirst yX3_fillFirst, Cond.code yX3_fillFirst cX3_fillFirst 2 none, Cond.fieldLink RX3 18 "CountLearners$TextTables" "uppers" "[J", Cond.fieldLink RX3 26 "CountLearners$TextTables" "textLength" "I", Cond.fieldLink RX3 11 "CountLearners$TextTables" "text" "[I", Cond.fieldLink RX3 22 "CountLearners$TextTables" "lower" "J"]
def wsX5_likely_r2 : List Cond := [Cond.methodLink RX3 33 yX3_countBehind, Cond.instanceMethod yX3_countBehind, Cond.selects RX3 yX3_countBehind yX3_countBehind, Cond.code yX3_countBehind cX3_countBehind 4 none, Cond.fieldLink RX3 15 "CountLearners$TextTables" "behind" "[I", Cond.static yX5_setAll, Cond.code yX5_setAll cX5_setAll 3 none, Cond.methodLink RX3 37 yX3_putAbove, Cond.instanceMethod yX3_putAbove, Cond.selects RX3 yX3_putAbove yX3_putAbove, Cond.code yX3_putAbove cX3_putAbove 6 none, Cond.methodLink RX3 44 yX3_takeCounts, Cond.instanceMethod yX3_takeCounts, Cond.selects RX3 yX3_takeCounts yX3_takeCounts, Cond.code yX3_takeCounts cX3_takeCounts 3 none, Cond.methodLink RX3 48 yX3_handDown, Cond.instanceMethod yX3_handDown, Cond.selects RX3 yX3_handDown yX3_handDown, Cond.code yX3_handDown cX3_handDown 6 none, Cond.constantLong RX3 52 (2), Cond.methodLink RX5 143 yX3_greatest, Cond.instanceMethod yX3_greatest, Cond.selects RX3 yX3_greatest yX3_greatest, Cond.code yX3_greatest cX3_greatest 3 (some .int)]
def wsX5_likely : List Cond := .code yX5_likely cX5_likely 3 (some .int) :: ((wsX5_likely_r1 ++ wsX5_likely_r2) ++ wsX50 ++ wsX30)
def wsX5_weigh_r1 : List Cond := [Cond.fieldLink RX5 26 "CountLearners" "states" "LCountLearners$HiddenStates;", Cond.methodLink RX5 147 yX1_placeOf, Cond.static yX1_placeOf, Cond.initialized RX1, Cond.code yX1_placeOf cX1_placeOf 3 (some .int), Cond.methodLink RX1 41 yX1_isState, Cond.static yX1_isState, Cond.code yX1_isState cX1_isState 1 (some .boolean), Cond.methodLink RX1 45 yX1_moveAt, Cond.static yX1_moveAt, Cond.code yX1_moveAt cX1_moveAt 2 (some .int), Cond.methodLink RX1 49 yX1_isSign, Cond.static yX1_isSign, Cond.code yX1_isSign cX1_isSign 1 (some .boolean), Cond.methodLink RX1 52 yX1_showAt, Cond.static yX1_showAt, Cond.code yX1_showAt cX1_showAt 2 (some .int), Cond.methodLink RX5 65 yX5_isWithin, Cond.static yX5_isWithin, Cond.initialized RX5, Cond.code yX5_isWithin cX5_isWithin 3 (some .boolean), Cond.methodLink RX5 151 yX1_reweigh, Cond.instanceMethod yX1_reweigh, Cond.selects RX1 yX1_reweigh yX1_reweigh]
def wsX5_weigh_r2 : List Cond := [Cond.code yX1_reweigh cX1_reweigh 4 (some .int), Cond.fieldLink RX1 11 "CountLearners$HiddenStates" "weights" "[I"]
def wsX5_weigh : List Cond := .code yX5_weigh cX5_weigh 6 (some .int) :: ((wsX5_weigh_r1 ++ wsX5_weigh_r2) ++ wsX50 ++ wsX10)
def wsX5_sign : List Cond := .code yX5_sign cX5_sign 3 (some .int) :: ([.fieldLink RX5 26 "CountLearners" "states" "LCountLearners$HiddenStates;", .methodLink RX5 154 yX1_isRow, .static yX1_isRow, .initialized RX1, .code yX1_isRow cX1_isRow 1 (some .boolean), .methodLink RX5 157 yX1_isSign, .static yX1_isSign, .code yX1_isSign cX1_isSign 1 (some .boolean), .methodLink RX5 160 yX1_isFullRow, .instanceMethod yX1_isFullRow, .selects RX1 yX1_isFullRow yX1_isFullRow, .code yX1_isFullRow cX1_isFullRow 2 (some .boolean), .fieldLink RX1 21 "CountLearners$HiddenStates" "lengths" "[I", .methodLink RX5 161 yX1_append, .instanceMethod yX1_append, .selects RX1 yX1_append yX1_append, .code yX1_append cX1_append 3 (some .int), .fieldLink RX1 18 "CountLearners$HiddenStates" "signs" "[I"] ++ wsX50 ++ wsX10)
def wsX5_path_r1 : List Cond := [Cond.fieldLink RX5 26 "CountLearners" "states" "LCountLearners$HiddenStates;", Cond.methodLink RX5 154 yX1_isRow, Cond.static yX1_isRow, Cond.initialized RX1, Cond.code yX1_isRow cX1_isRow 1 (some .boolean), Cond.methodLink RX5 162 yX1_hasPlace, Cond.instanceMethod yX1_hasPlace, Cond.selects RX1 yX1_hasPlace yX1_hasPlace, Cond.code yX1_hasPlace cX1_hasPlace 3 (some .boolean), Cond.fieldLink RX1 21 "CountLearners$HiddenStates" "lengths" "[I", Cond.methodLink RX5 165 yX1_findBestPath, Cond.instanceMethod yX1_findBestPath, Cond.selects RX1 yX1_findBestPath yX1_findBestPath, Cond.code yX1_findBestPath cX1_findBestPath 7 (some .boolean), Cond.fieldLink RX1 31 "CountLearners$HiddenStates" "bestFrom" "[J", Cond.fieldLink RX1 34 "CountLearners$HiddenStates" "bestPath" "[I", Cond.fieldLink RX1 11 "CountLearners$HiddenStates" "weights" "[I", Cond.methodLink RX1 67 yX1_bestOnward, Cond.instanceMethod yX1_bestOnward, Cond.selects RX1 yX1_bestOnward yX1_bestOnward, Cond.code yX1_bestOnward cX1_bestOnward 5 (some .int), Cond.methodLink RX1 70 yX1_weightOnward, Cond.instanceMethod yX1_weightOnward, Cond.selects RX1 yX1_weightOnward yX1_weightOnward]
def wsX5_path_r2 : List Cond := [Cond.code yX1_weightOnward cX1_weightOnward 4 (some .long), Cond.methodLink RX1 45 yX1_moveAt, Cond.static yX1_moveAt, Cond.code yX1_moveAt cX1_moveAt 2 (some .int), Cond.methodLink RX1 59 yX1_shown, Cond.instanceMethod yX1_shown, Cond.selects RX1 yX1_shown yX1_shown, Cond.code yX1_shown cX1_shown 4 (some .int), Cond.fieldLink RX1 18 "CountLearners$HiddenStates" "signs" "[I", Cond.methodLink RX1 52 yX1_showAt, Cond.static yX1_showAt, Cond.code yX1_showAt cX1_showAt 2 (some .int), Cond.methodLink RX1 73 yX1_bestStart, Cond.instanceMethod yX1_bestStart, Cond.selects RX1 yX1_bestStart yX1_bestStart, Cond.code yX1_bestStart cX1_bestStart 3 (some .int), Cond.methodLink RX5 168 yX1_stateOnBestPath, Cond.instanceMethod yX1_stateOnBestPath, Cond.selects RX1 yX1_stateOnBestPath yX1_stateOnBestPath, Cond.code yX1_stateOnBestPath cX1_stateOnBestPath 2 (some .int)]
def wsX5_path : List Cond := .code yX5_path cX5_path 3 (some .int) :: ((wsX5_path_r1 ++ wsX5_path_r2) ++ wsX50 ++ wsX10)
def wsX5_total_r1 : List Cond := [Cond.fieldLink RX5 26 "CountLearners" "states" "LCountLearners$HiddenStates;", Cond.constantLong RX5 88 (-2), Cond.methodLink RX5 154 yX1_isRow, Cond.static yX1_isRow, Cond.initialized RX1, Cond.code yX1_isRow cX1_isRow 1 (some .boolean), Cond.methodLink RX5 171 yX1_totalOf, Cond.instanceMethod yX1_totalOf, Cond.selects RX1 yX1_totalOf yX1_totalOf, Cond.code yX1_totalOf cX1_totalOf 2 (some .long), Cond.methodLink RX1 55 yX1_totalThrough, Cond.instanceMethod yX1_totalThrough, Cond.selects RX1 yX1_totalThrough yX1_totalThrough, Cond.code yX1_totalThrough cX1_totalThrough 7 (some .long), Cond.fieldLink RX1 21 "CountLearners$HiddenStates" "lengths" "[I", Cond.fieldLink RX1 24 "CountLearners$HiddenStates" "sums" "[J", Cond.fieldLink RX1 11 "CountLearners$HiddenStates" "weights" "[I", Cond.fieldLink RX1 28 "CountLearners$HiddenStates" "nextSums" "[J", Cond.methodLink RX1 59 yX1_shown, Cond.instanceMethod yX1_shown, Cond.selects RX1 yX1_shown yX1_shown, Cond.code yX1_shown cX1_shown 4 (some .int), Cond.fieldLink RX1 18 "CountLearners$HiddenStates" "signs" "[I", Cond.methodLink RX1 52 yX1_showAt]
def wsX5_total_r2 : List Cond := [Cond.static yX1_showAt, Cond.code yX1_showAt cX1_showAt 2 (some .int), Cond.methodLink RX1 63 yX1_sumInto, Cond.instanceMethod yX1_sumInto, Cond.selects RX1 yX1_sumInto yX1_sumInto, Cond.code yX1_sumInto cX1_sumInto 5 (some .long), Cond.methodLink RX1 45 yX1_moveAt, Cond.static yX1_moveAt, Cond.code yX1_moveAt cX1_moveAt 2 (some .int)]
def wsX5_total : List Cond := .code yX5_total cX5_total 2 (some .long) :: ((wsX5_total_r1 ++ wsX5_total_r2) ++ wsX50 ++ wsX10)
def wsX5_at_r1 : List Cond := [Cond.classLink RX5 94 "java/lang/ArithmeticException", Cond.initialized "java/lang/ArithmeticException", Cond.fieldLink RX5 26 "CountLearners" "states" "LCountLearners$HiddenStates;", Cond.constantLong RX5 88 (-2), Cond.methodLink RX5 154 yX1_isRow, Cond.static yX1_isRow, Cond.initialized RX1, Cond.code yX1_isRow cX1_isRow 1 (some .boolean), Cond.methodLink RX5 162 yX1_hasPlace, Cond.instanceMethod yX1_hasPlace, Cond.selects RX1 yX1_hasPlace yX1_hasPlace, Cond.code yX1_hasPlace cX1_hasPlace 3 (some .boolean), Cond.fieldLink RX1 21 "CountLearners$HiddenStates" "lengths" "[I", Cond.methodLink RX5 174 yX1_isState, Cond.static yX1_isState, Cond.code yX1_isState cX1_isState 1 (some .boolean), Cond.methodLink RX5 85 yX5_isSide, Cond.static yX5_isSide, Cond.initialized RX5, Cond.code yX5_isSide cX5_isSide 1 (some .boolean), Cond.methodLink RX5 65 yX5_isWithin, Cond.static yX5_isWithin, Cond.code yX5_isWithin cX5_isWithin 3 (some .boolean), Cond.methodLink RX5 171 yX1_totalOf]
def wsX5_at_r2 : List Cond := [Cond.instanceMethod yX1_totalOf, Cond.selects RX1 yX1_totalOf yX1_totalOf, Cond.code yX1_totalOf cX1_totalOf 2 (some .long), Cond.methodLink RX1 55 yX1_totalThrough, Cond.instanceMethod yX1_totalThrough, Cond.selects RX1 yX1_totalThrough yX1_totalThrough, Cond.code yX1_totalThrough cX1_totalThrough 7 (some .long), Cond.fieldLink RX1 24 "CountLearners$HiddenStates" "sums" "[J", Cond.fieldLink RX1 11 "CountLearners$HiddenStates" "weights" "[I", Cond.fieldLink RX1 28 "CountLearners$HiddenStates" "nextSums" "[J", Cond.methodLink RX1 59 yX1_shown, Cond.instanceMethod yX1_shown, Cond.selects RX1 yX1_shown yX1_shown, Cond.code yX1_shown cX1_shown 4 (some .int), Cond.fieldLink RX1 18 "CountLearners$HiddenStates" "signs" "[I", Cond.methodLink RX1 52 yX1_showAt, Cond.static yX1_showAt, Cond.code yX1_showAt cX1_showAt 2 (some .int), Cond.methodLink RX1 63 yX1_sumInto, Cond.instanceMethod yX1_sumInto, Cond.selects RX1 yX1_sumInto yX1_sumInto, Cond.code yX1_sumInto cX1_sumInto 5 (some .long), Cond.methodLink RX1 45 yX1_moveAt, Cond.static yX1_moveAt]
def wsX5_at_r3 : List Cond := [Cond.code yX1_moveAt cX1_moveAt 2 (some .int), Cond.methodLink RX5 179 yX1_totalThrough, Cond.methodLink RX5 105 yX0_sideOf, Cond.static yX0_sideOf, Cond.initialized RX0, Cond.code yX0_sideOf cX0_sideOf 7 (some .long), Cond.methodLink RX0 7 yX0_commonDivisor, Cond.static yX0_commonDivisor, Cond.code yX0_commonDivisor cX0_commonDivisor 11 (some .long)]
def wsX5_at : List Cond := .code yX5_at cX5_at 7 (some .long) :: ((wsX5_at_r1 ++ (wsX5_at_r2 ++ wsX5_at_r3)) ++ wsX50 ++ wsX10 ++ (vx_atS RX5 98 "java/lang/ArithmeticException" ["java/lang/RuntimeException", "java/lang/Exception"]).filter goodWord)
def wsX5_learn_r1 : List Cond := [Cond.fieldLink RX5 26 "CountLearners" "states" "LCountLearners$HiddenStates;", Cond.methodLink RX5 65 yX5_isWithin, Cond.static yX5_isWithin, Cond.initialized RX5, Cond.code yX5_isWithin cX5_isWithin 3 (some .boolean), Cond.methodLink RX5 183 yX1_weighAnew, Cond.instanceMethod yX1_weighAnew, Cond.selects RX1 yX1_weighAnew yX1_weighAnew, Cond.initialized RX1, Cond.code yX1_weighAnew cX1_weighAnew 3 (some .boolean), Cond.fieldLink RX1 15 "CountLearners$HiddenStates" "freshWeights" "[I", Cond.fieldLink RX1 11 "CountLearners$HiddenStates" "weights" "[I", Cond.static yX5_setAll, Cond.code yX5_setAll cX5_setAll 3 none, Cond.methodLink RX1 77 yX1_findBestPath, Cond.instanceMethod yX1_findBestPath, Cond.selects RX1 yX1_findBestPath yX1_findBestPath, Cond.code yX1_findBestPath cX1_findBestPath 7 (some .boolean), Cond.fieldLink RX1 21 "CountLearners$HiddenStates" "lengths" "[I", Cond.fieldLink RX1 31 "CountLearners$HiddenStates" "bestFrom" "[J", Cond.fieldLink RX1 34 "CountLearners$HiddenStates" "bestPath" "[I", Cond.methodLink RX1 67 yX1_bestOnward, Cond.instanceMethod yX1_bestOnward, Cond.selects RX1 yX1_bestOnward yX1_bestOnward]
def wsX5_learn_r2 : List Cond := [Cond.code yX1_bestOnward cX1_bestOnward 5 (some .int), Cond.methodLink RX1 70 yX1_weightOnward, Cond.instanceMethod yX1_weightOnward, Cond.selects RX1 yX1_weightOnward yX1_weightOnward, Cond.code yX1_weightOnward cX1_weightOnward 4 (some .long), Cond.methodLink RX1 45 yX1_moveAt, Cond.static yX1_moveAt, Cond.code yX1_moveAt cX1_moveAt 2 (some .int), Cond.methodLink RX1 59 yX1_shown, Cond.instanceMethod yX1_shown, Cond.selects RX1 yX1_shown yX1_shown, Cond.code yX1_shown cX1_shown 4 (some .int), Cond.fieldLink RX1 18 "CountLearners$HiddenStates" "signs" "[I", Cond.methodLink RX1 52 yX1_showAt, Cond.static yX1_showAt, Cond.code yX1_showAt cX1_showAt 2 (some .int), Cond.methodLink RX1 73 yX1_bestStart, Cond.instanceMethod yX1_bestStart, Cond.selects RX1 yX1_bestStart yX1_bestStart, Cond.code yX1_bestStart cX1_bestStart 3 (some .int), Cond.methodLink RX1 80 yX1_countBestPath, Cond.instanceMethod yX1_countBestPath, Cond.selects RX1 yX1_countBestPath yX1_countBestPath, Cond.code yX1_countBestPath cX1_countBestPath 3 none]
def wsX5_learn : List Cond := .code yX5_learn cX5_learn 4 (some .int) :: ((wsX5_learn_r1 ++ wsX5_learn_r2) ++ wsX50 ++ wsX10)
def wsX5_rule_r1 : List Cond := [Cond.fieldLink RX5 33 "CountLearners" "rules" "LCountLearners$WordRules;", Cond.fieldLink RX5 10 "CountLearners" "rows" "LCountLearners$LabelledRows;", Cond.methodLink RX5 65 yX5_isWithin, Cond.static yX5_isWithin, Cond.initialized RX5, Cond.code yX5_isWithin cX5_isWithin 3 (some .boolean), Cond.methodLink RX5 186 yX4_gather, Cond.instanceMethod yX4_gather, Cond.selects RX4 yX4_gather yX4_gather, Cond.initialized RX4, Cond.code yX4_gather cX4_gather 3 none, Cond.fieldLink RX4 11 "CountLearners$WordRules" "support" "[I", Cond.fieldLink RX4 15 "CountLearners$WordRules" "having" "[I", Cond.fieldLink RX4 21 "CountLearners$WordRules" "ruleCount" "I", Cond.static yX5_setAll, Cond.code yX5_setAll cX5_setAll 3 none, Cond.methodLink RX4 35 yX2_size, Cond.instanceMethod yX2_size, Cond.selects RX2 yX2_size yX2_size, Cond.initialized RX2, Cond.code yX2_size cX2_size 1 (some .int), Cond.fieldLink RX2 33 "CountLearners$LabelledRows" "rowCount" "I", Cond.methodLink RX4 41 yX2_wordSet, Cond.instanceMethod yX2_wordSet]
def wsX5_rule_r2 : List Cond := [Cond.selects RX2 yX2_wordSet yX2_wordSet, Cond.code yX2_wordSet cX2_wordSet 4 (some .int), Cond.fieldLink RX2 18 "CountLearners$LabelledRows" "lengths" "[I", Cond.fieldLink RX2 21 "CountLearners$LabelledRows" "words" "[I", Cond.methodLink RX4 45 yX4_countSet, Cond.instanceMethod yX4_countSet, Cond.selects RX4 yX4_countSet yX4_countSet, Cond.code yX4_countSet cX4_countSet 3 none, Cond.methodLink RX4 55 yX4_countPairs, Cond.instanceMethod yX4_countPairs, Cond.selects RX4 yX4_countPairs yX4_countPairs, Cond.code yX4_countPairs cX4_countPairs 4 none, Cond.methodLink RX4 49 yX4_keyOf, Cond.instanceMethod yX4_keyOf, Cond.selects RX4 yX4_keyOf yX4_keyOf, Cond.code yX4_keyOf cX4_keyOf 3 (some .int), Cond.methodLink RX4 52 yX4_insert, Cond.instanceMethod yX4_insert, Cond.selects RX4 yX4_insert yX4_insert, Cond.code yX4_insert cX4_insert 3 none, Cond.fieldLink RX4 18 "CountLearners$WordRules" "keys" "[I", Cond.methodLink RX5 190 yX4_has, Cond.instanceMethod yX4_has, Cond.selects RX4 yX4_has yX4_has]
def wsX5_rule_r3 : List Cond := [Cond.code yX4_has cX4_has 2 (some .boolean), Cond.methodLink RX5 191 yX4_partOf, Cond.instanceMethod yX4_partOf, Cond.selects RX4 yX4_partOf yX4_partOf, Cond.code yX4_partOf cX4_partOf 5 (some .int), Cond.methodLink RX4 25 yX0_sideOf, Cond.static yX0_sideOf, Cond.initialized RX0, Cond.code yX0_sideOf cX0_sideOf 7 (some .long), Cond.methodLink RX0 7 yX0_commonDivisor, Cond.static yX0_commonDivisor, Cond.code yX0_commonDivisor cX0_commonDivisor 11 (some .long)]
def wsX5_rule : List Cond := .code yX5_rule cX5_rule 3 (some .int) :: ((wsX5_rule_r1 ++ (wsX5_rule_r2 ++ wsX5_rule_r3)) ++ wsX50 ++ wsX40 ++ wsX20)
def wsX5_count_r1 : List Cond := [Cond.fieldLink RX5 10 "CountLearners" "rows" "LCountLearners$LabelledRows;", Cond.fieldLink RX5 19 "CountLearners" "tables" "LCountLearners$TextTables;", Cond.fieldLink RX5 33 "CountLearners" "rules" "LCountLearners$WordRules;", Cond.fieldLink RX5 26 "CountLearners" "states" "LCountLearners$HiddenStates;", Cond.methodLink RX5 194 yX2_size, Cond.instanceMethod yX2_size, Cond.selects RX2 yX2_size yX2_size, Cond.initialized RX2, Cond.code yX2_size cX2_size 1 (some .int), Cond.fieldLink RX2 33 "CountLearners$LabelledRows" "rowCount" "I", Cond.methodLink RX5 197 yX2_labelledRows, Cond.instanceMethod yX2_labelledRows, Cond.selects RX2 yX2_labelledRows yX2_labelledRows, Cond.code yX2_labelledRows cX2_labelledRows 3 (some .int), Cond.fieldLink RX2 11 "CountLearners$LabelledRows" "labels" "[I", Cond.methodLink RX5 200 yX3_length, Cond.instanceMethod yX3_length, Cond.selects RX3 yX3_length yX3_length, Cond.initialized RX3, Cond.code yX3_length cX3_length 1 (some .int), Cond.fieldLink RX3 26 "CountLearners$TextTables" "textLength" "I", Cond.methodLink RX5 186 yX4_gather, Cond.instanceMethod yX4_gather, Cond.selects RX4 yX4_gather yX4_gather]
def wsX5_count_r2 : List Cond := [Cond.initialized RX4, Cond.code yX4_gather cX4_gather 3 none, Cond.fieldLink RX4 11 "CountLearners$WordRules" "support" "[I", Cond.fieldLink RX4 15 "CountLearners$WordRules" "having" "[I", Cond.fieldLink RX4 21 "CountLearners$WordRules" "ruleCount" "I", Cond.static yX5_setAll, Cond.initialized RX5, Cond.code yX5_setAll cX5_setAll 3 none, Cond.methodLink RX4 35 yX2_size, Cond.methodLink RX4 41 yX2_wordSet, Cond.instanceMethod yX2_wordSet, Cond.selects RX2 yX2_wordSet yX2_wordSet, Cond.code yX2_wordSet cX2_wordSet 4 (some .int), Cond.fieldLink RX2 18 "CountLearners$LabelledRows" "lengths" "[I", Cond.fieldLink RX2 21 "CountLearners$LabelledRows" "words" "[I", Cond.methodLink RX4 45 yX4_countSet, Cond.instanceMethod yX4_countSet, Cond.selects RX4 yX4_countSet yX4_countSet, Cond.code yX4_countSet cX4_countSet 3 none, Cond.methodLink RX4 55 yX4_countPairs, Cond.instanceMethod yX4_countPairs, Cond.selects RX4 yX4_countPairs yX4_countPairs, Cond.code yX4_countPairs cX4_countPairs 4 none, Cond.methodLink RX4 49 yX4_keyOf]
def wsX5_count_r3 : List Cond := [Cond.instanceMethod yX4_keyOf, Cond.selects RX4 yX4_keyOf yX4_keyOf, Cond.code yX4_keyOf cX4_keyOf 3 (some .int), Cond.methodLink RX4 52 yX4_insert, Cond.instanceMethod yX4_insert, Cond.selects RX4 yX4_insert yX4_insert, Cond.code yX4_insert cX4_insert 3 none, Cond.fieldLink RX4 18 "CountLearners$WordRules" "keys" "[I", Cond.methodLink RX5 203 yX4_size, Cond.instanceMethod yX4_size, Cond.selects RX4 yX4_size yX4_size, Cond.code yX4_size cX4_size 1 (some .int), Cond.methodLink RX5 204 yX1_signsOfAll, Cond.instanceMethod yX1_signsOfAll, Cond.selects RX1 yX1_signsOfAll yX1_signsOfAll, Cond.initialized RX1, Cond.code yX1_signsOfAll cX1_signsOfAll 3 (some .int), Cond.fieldLink RX1 21 "CountLearners$HiddenStates" "lengths" "[I"]
def wsX5_count : List Cond := .code yX5_count cX5_count 2 (some .int) :: ((wsX5_count_r1 ++ (wsX5_count_r2 ++ wsX5_count_r3)) ++ wsX50 ++ wsX20 ++ wsX30 ++ wsX40 ++ wsX10)
def wsX6_init : List Cond := .code yX6_init cX6_init 2 none :: ([.methodLink RX6 1 objectInit, .instanceMethod objectInit, .code objectInit ⟨#[0xb1]⟩ 1 none, .arrayClass .int, .fieldLink RX6 7 "CountLearnersModel" "labels" "[I", .fieldLink RX6 13 "CountLearnersModel" "guesses" "[I", .fieldLink RX6 16 "CountLearnersModel" "comes" "[I", .fieldLink RX6 19 "CountLearnersModel" "sizes" "[I", .fieldLink RX6 22 "CountLearnersModel" "words" "[I", .fieldLink RX6 25 "CountLearnersModel" "up" "I", .fieldLink RX6 29 "CountLearnersModel" "down" "I", .fieldLink RX6 32 "CountLearnersModel" "told" "[I", .fieldLink RX6 35 "CountLearnersModel" "behind" "[I", .arrayClass .long, .fieldLink RX6 38 "CountLearnersModel" "shares" "[J", .fieldLink RX6 42 "CountLearnersModel" "start" "[I", .fieldLink RX6 45 "CountLearnersModel" "move" "[I", .fieldLink RX6 48 "CountLearnersModel" "show" "[I", .fieldLink RX6 51 "CountLearnersModel" "signs" "[I", .fieldLink RX6 54 "CountLearnersModel" "many" "[I", .fieldLink RX6 57 "CountLearnersModel" "bestPath" "[I", .fieldLink RX6 60 "CountLearnersModel" "nextStart" "[I", .fieldLink RX6 63 "CountLearnersModel" "nextMove" "[I", .fieldLink RX6 66 "CountLearnersModel" "nextShow" "[I"] ++ wsX60)
def wsX6_thrown : List Cond := .code yX6_thrown cX6_thrown 1 (some .int) :: ([.fieldLink RX6 69 "CountLearnersModel" "thrown" "I"] ++ wsX60)
def wsX6_within : List Cond := .code yX6_within cX6_within 3 (some .boolean) :: ([])
def wsX6_measure : List Cond := .code yX6_measure cX6_measure 10 (some .long) :: ([])
def wsX6_side : List Cond := .code yX6_side cX6_side 7 (some .long) :: ([.methodLink RX6 72 yX6_measure, .static yX6_measure, .initialized RX6, .code yX6_measure cX6_measure 10 (some .long)])
def wsX6_isAbove : List Cond := .code yX6_isAbove cX6_isAbove 23 (some .boolean) :: ([])
def wsX6_isRow : List Cond := .code yX6_isRow cX6_isRow 2 (some .boolean) :: ([.fieldLink RX6 76 "CountLearnersModel" "rows" "I", .methodLink RX6 79 yX6_within, .static yX6_within, .initialized RX6, .code yX6_within cX6_within 3 (some .boolean)] ++ wsX60)
def wsX6_forget : List Cond := .code yX6_forget cX6_forget 2 none :: ([.fieldLink RX6 13 "CountLearnersModel" "guesses" "[I"] ++ wsX60)
def wsX6_mayBe : List Cond := .code yX6_mayBe cX6_mayBe 1 (some .boolean) :: ([.methodLink RX6 79 yX6_within, .static yX6_within, .initialized RX6, .code yX6_within cX6_within 3 (some .boolean)])
def wsX6_row : List Cond := .code yX6_row cX6_row 2 (some .int) :: ([.fieldLink RX6 69 "CountLearnersModel" "thrown" "I", .fieldLink RX6 76 "CountLearnersModel" "rows" "I", .fieldLink RX6 7 "CountLearnersModel" "labels" "[I", .fieldLink RX6 19 "CountLearnersModel" "sizes" "[I", .methodLink RX6 83 yX6_mayBe, .static yX6_mayBe, .initialized RX6, .code yX6_mayBe cX6_mayBe 1 (some .boolean), .methodLink RX6 79 yX6_within, .static yX6_within, .code yX6_within cX6_within 3 (some .boolean), .methodLink RX6 87 yX6_forget, .instanceMethod yX6_forget, .selects RX6 yX6_forget yX6_forget, .code yX6_forget cX6_forget 2 none, .fieldLink RX6 13 "CountLearnersModel" "guesses" "[I"] ++ wsX60)
def wsX6_word : List Cond := .code yX6_word cX6_word 3 (some .int) :: ([.fieldLink RX6 69 "CountLearnersModel" "thrown" "I", .fieldLink RX6 19 "CountLearnersModel" "sizes" "[I", .fieldLink RX6 22 "CountLearnersModel" "words" "[I", .methodLink RX6 90 yX6_isRow, .instanceMethod yX6_isRow, .selects RX6 yX6_isRow yX6_isRow, .initialized RX6, .code yX6_isRow cX6_isRow 2 (some .boolean), .fieldLink RX6 76 "CountLearnersModel" "rows" "I", .methodLink RX6 79 yX6_within, .static yX6_within, .code yX6_within cX6_within 3 (some .boolean), .methodLink RX6 87 yX6_forget, .instanceMethod yX6_forget, .selects RX6 yX6_forget yX6_forget, .code yX6_forget cX6_forget 2 none, .fieldLink RX6 13 "CountLearnersModel" "guesses" "[I"] ++ wsX60)
def wsX6_label : List Cond := .code yX6_label cX6_label 4 (some .int) :: ([.fieldLink RX6 69 "CountLearnersModel" "thrown" "I", .fieldLink RX6 7 "CountLearnersModel" "labels" "[I", .methodLink RX6 90 yX6_isRow, .instanceMethod yX6_isRow, .selects RX6 yX6_isRow yX6_isRow, .initialized RX6, .code yX6_isRow cX6_isRow 2 (some .boolean), .fieldLink RX6 76 "CountLearnersModel" "rows" "I", .methodLink RX6 79 yX6_within, .static yX6_within, .code yX6_within cX6_within 3 (some .boolean), .methodLink RX6 83 yX6_mayBe, .static yX6_mayBe, .code yX6_mayBe cX6_mayBe 1 (some .boolean), .methodLink RX6 87 yX6_forget, .instanceMethod yX6_forget, .selects RX6 yX6_forget yX6_forget, .code yX6_forget cX6_forget 2 none, .fieldLink RX6 13 "CountLearnersModel" "guesses" "[I"] ++ wsX60)
def wsX6_addition : List Cond := .code yX6_addition cX6_addition 3 (some .int) :: ([.fieldLink RX6 69 "CountLearnersModel" "thrown" "I", .fieldLink RX6 25 "CountLearnersModel" "up" "I", .fieldLink RX6 29 "CountLearnersModel" "down" "I", .methodLink RX6 79 yX6_within, .static yX6_within, .initialized RX6, .code yX6_within cX6_within 3 (some .boolean), .methodLink RX6 87 yX6_forget, .instanceMethod yX6_forget, .selects RX6 yX6_forget yX6_forget, .code yX6_forget cX6_forget 2 none, .fieldLink RX6 13 "CountLearnersModel" "guesses" "[I"] ++ wsX60)
def wsX6_asLabel : List Cond := .code yX6_asLabel cX6_asLabel 2 (some .int) :: ([.fieldLink RX6 7 "CountLearnersModel" "labels" "[I", .fieldLink RX6 13 "CountLearnersModel" "guesses" "[I"] ++ wsX60)
def wsX6_rowsOf : List Cond := .code yX6_rowsOf cX6_rowsOf 4 (some .int) :: ([.fieldLink RX6 76 "CountLearnersModel" "rows" "I", .methodLink RX6 93 yX6_asLabel, .instanceMethod yX6_asLabel, .selects RX6 yX6_asLabel yX6_asLabel, .initialized RX6, .code yX6_asLabel cX6_asLabel 2 (some .int), .fieldLink RX6 7 "CountLearnersModel" "labels" "[I", .fieldLink RX6 13 "CountLearnersModel" "guesses" "[I"] ++ wsX60)
def wsX6_timesOf : List Cond := .code yX6_timesOf cX6_timesOf 6 (some .int) :: ([.fieldLink RX6 76 "CountLearnersModel" "rows" "I", .fieldLink RX6 19 "CountLearnersModel" "sizes" "[I", .fieldLink RX6 22 "CountLearnersModel" "words" "[I", .methodLink RX6 93 yX6_asLabel, .instanceMethod yX6_asLabel, .selects RX6 yX6_asLabel yX6_asLabel, .initialized RX6, .code yX6_asLabel cX6_asLabel 2 (some .int), .fieldLink RX6 7 "CountLearnersModel" "labels" "[I", .fieldLink RX6 13 "CountLearnersModel" "guesses" "[I"] ++ wsX60)
def wsX6_counted : List Cond := .code yX6_counted cX6_counted 3 (some .int) :: ([.fieldLink RX6 69 "CountLearnersModel" "thrown" "I", .methodLink RX6 79 yX6_within, .static yX6_within, .initialized RX6, .code yX6_within cX6_within 3 (some .boolean), .methodLink RX6 97 yX6_rowsOf, .instanceMethod yX6_rowsOf, .selects RX6 yX6_rowsOf yX6_rowsOf, .code yX6_rowsOf cX6_rowsOf 4 (some .int), .fieldLink RX6 76 "CountLearnersModel" "rows" "I", .methodLink RX6 93 yX6_asLabel, .instanceMethod yX6_asLabel, .selects RX6 yX6_asLabel yX6_asLabel, .code yX6_asLabel cX6_asLabel 2 (some .int), .fieldLink RX6 7 "CountLearnersModel" "labels" "[I", .fieldLink RX6 13 "CountLearnersModel" "guesses" "[I", .methodLink RX6 100 yX6_timesOf, .instanceMethod yX6_timesOf, .selects RX6 yX6_timesOf yX6_timesOf, .code yX6_timesOf cX6_timesOf 6 (some .int), .fieldLink RX6 19 "CountLearnersModel" "sizes" "[I", .fieldLink RX6 22 "CountLearnersModel" "words" "[I"] ++ wsX60)
def wsX6_shareAbove : List Cond := .code yX6_shareAbove cX6_shareAbove 3 (some .long) :: ([.fieldLink RX6 29 "CountLearnersModel" "down" "I", .fieldLink RX6 25 "CountLearnersModel" "up" "I", .methodLink RX6 100 yX6_timesOf, .instanceMethod yX6_timesOf, .selects RX6 yX6_timesOf yX6_timesOf, .initialized RX6, .code yX6_timesOf cX6_timesOf 6 (some .int), .fieldLink RX6 76 "CountLearnersModel" "rows" "I", .fieldLink RX6 19 "CountLearnersModel" "sizes" "[I", .fieldLink RX6 22 "CountLearnersModel" "words" "[I", .methodLink RX6 93 yX6_asLabel, .instanceMethod yX6_asLabel, .selects RX6 yX6_asLabel yX6_asLabel, .code yX6_asLabel cX6_asLabel 2 (some .int), .fieldLink RX6 7 "CountLearnersModel" "labels" "[I", .fieldLink RX6 13 "CountLearnersModel" "guesses" "[I"] ++ wsX60)
def wsX6_shareBelow : List Cond := .code yX6_shareBelow cX6_shareBelow 2 (some .long) :: ([.fieldLink RX6 29 "CountLearnersModel" "down" "I", .constantLong RX6 104 (8), .fieldLink RX6 25 "CountLearnersModel" "up" "I", .methodLink RX6 100 yX6_timesOf, .instanceMethod yX6_timesOf, .selects RX6 yX6_timesOf yX6_timesOf, .initialized RX6, .code yX6_timesOf cX6_timesOf 6 (some .int), .fieldLink RX6 76 "CountLearnersModel" "rows" "I", .fieldLink RX6 19 "CountLearnersModel" "sizes" "[I", .fieldLink RX6 22 "CountLearnersModel" "words" "[I", .methodLink RX6 93 yX6_asLabel, .instanceMethod yX6_asLabel, .selects RX6 yX6_asLabel yX6_asLabel, .code yX6_asLabel cX6_asLabel 2 (some .int), .fieldLink RX6 7 "CountLearnersModel" "labels" "[I", .fieldLink RX6 13 "CountLearnersModel" "guesses" "[I"] ++ wsX60)
def wsX6_share_r1 : List Cond := [Cond.fieldLink RX6 69 "CountLearnersModel" "thrown" "I", Cond.constantLong RX6 106 (-2), Cond.methodLink RX6 79 yX6_within, Cond.static yX6_within, Cond.initialized RX6, Cond.code yX6_within cX6_within 3 (some .boolean), Cond.methodLink RX6 108 yX6_shareBelow, Cond.instanceMethod yX6_shareBelow, Cond.selects RX6 yX6_shareBelow yX6_shareBelow, Cond.code yX6_shareBelow cX6_shareBelow 2 (some .long), Cond.fieldLink RX6 29 "CountLearnersModel" "down" "I", Cond.constantLong RX6 104 (8), Cond.fieldLink RX6 25 "CountLearnersModel" "up" "I", Cond.methodLink RX6 100 yX6_timesOf, Cond.instanceMethod yX6_timesOf, Cond.selects RX6 yX6_timesOf yX6_timesOf, Cond.code yX6_timesOf cX6_timesOf 6 (some .int), Cond.fieldLink RX6 76 "CountLearnersModel" "rows" "I", Cond.fieldLink RX6 19 "CountLearnersModel" "sizes" "[I", Cond.fieldLink RX6 22 "CountLearnersModel" "words" "[I", Cond.methodLink RX6 93 yX6_asLabel, Cond.instanceMethod yX6_asLabel, Cond.selects RX6 yX6_asLabel yX6_asLabel, Cond.code yX6_asLabel cX6_asLabel 2 (some .int)]
def wsX6_share_r2 : List Cond := [Cond.fieldLink RX6 7 "CountLearnersModel" "labels" "[I", Cond.fieldLink RX6 13 "CountLearnersModel" "guesses" "[I", Cond.methodLink RX6 112 yX6_shareAbove, Cond.instanceMethod yX6_shareAbove, Cond.selects RX6 yX6_shareAbove yX6_shareAbove, Cond.code yX6_shareAbove cX6_shareAbove 3 (some .long), Cond.methodLink RX6 116 yX6_side, Cond.static yX6_side, Cond.code yX6_side cX6_side 7 (some .long), Cond.methodLink RX6 72 yX6_measure, Cond.static yX6_measure, Cond.code yX6_measure cX6_measure 10 (some .long)]
def wsX6_share : List Cond := .code yX6_share cX6_share 4 (some .long) :: ((wsX6_share_r1 ++ wsX6_share_r2) ++ wsX60)
def wsX6_weighRow_r1 : List Cond := [Cond.fieldLink RX6 120 "CountLearnersModel" "weightAbove" "J", Cond.fieldLink RX6 124 "CountLearnersModel" "weightBelow" "J", Cond.fieldLink RX6 19 "CountLearnersModel" "sizes" "[I", Cond.fieldLink RX6 22 "CountLearnersModel" "words" "[I", Cond.methodLink RX6 97 yX6_rowsOf, Cond.instanceMethod yX6_rowsOf, Cond.selects RX6 yX6_rowsOf yX6_rowsOf, Cond.initialized RX6, Cond.code yX6_rowsOf cX6_rowsOf 4 (some .int), Cond.fieldLink RX6 76 "CountLearnersModel" "rows" "I", Cond.methodLink RX6 93 yX6_asLabel, Cond.instanceMethod yX6_asLabel, Cond.selects RX6 yX6_asLabel yX6_asLabel, Cond.code yX6_asLabel cX6_asLabel 2 (some .int), Cond.fieldLink RX6 7 "CountLearnersModel" "labels" "[I", Cond.fieldLink RX6 13 "CountLearnersModel" "guesses" "[I", Cond.methodLink RX6 108 yX6_shareBelow, Cond.instanceMethod yX6_shareBelow, Cond.selects RX6 yX6_shareBelow yX6_shareBelow, Cond.code yX6_shareBelow cX6_shareBelow 2 (some .long), Cond.fieldLink RX6 29 "CountLearnersModel" "down" "I", Cond.constantLong RX6 104 (8), Cond.fieldLink RX6 25 "CountLearnersModel" "up" "I", Cond.methodLink RX6 100 yX6_timesOf]
def wsX6_weighRow_r2 : List Cond := [Cond.instanceMethod yX6_timesOf, Cond.selects RX6 yX6_timesOf yX6_timesOf, Cond.code yX6_timesOf cX6_timesOf 6 (some .int), Cond.methodLink RX6 112 yX6_shareAbove, Cond.instanceMethod yX6_shareAbove, Cond.selects RX6 yX6_shareAbove yX6_shareAbove, Cond.code yX6_shareAbove cX6_shareAbove 3 (some .long)]
def wsX6_weighRow : List Cond := .code yX6_weighRow cX6_weighRow 6 none :: ((wsX6_weighRow_r1 ++ wsX6_weighRow_r2) ++ wsX60)
def wsX6_weight_r1 : List Cond := [Cond.fieldLink RX6 69 "CountLearnersModel" "thrown" "I", Cond.constantLong RX6 106 (-2), Cond.fieldLink RX6 120 "CountLearnersModel" "weightAbove" "J", Cond.fieldLink RX6 124 "CountLearnersModel" "weightBelow" "J", Cond.methodLink RX6 90 yX6_isRow, Cond.instanceMethod yX6_isRow, Cond.selects RX6 yX6_isRow yX6_isRow, Cond.initialized RX6, Cond.code yX6_isRow cX6_isRow 2 (some .boolean), Cond.fieldLink RX6 76 "CountLearnersModel" "rows" "I", Cond.methodLink RX6 79 yX6_within, Cond.static yX6_within, Cond.code yX6_within cX6_within 3 (some .boolean), Cond.methodLink RX6 127 yX6_weighRow, Cond.instanceMethod yX6_weighRow, Cond.selects RX6 yX6_weighRow yX6_weighRow, Cond.code yX6_weighRow cX6_weighRow 6 none, Cond.fieldLink RX6 19 "CountLearnersModel" "sizes" "[I", Cond.fieldLink RX6 22 "CountLearnersModel" "words" "[I", Cond.methodLink RX6 97 yX6_rowsOf, Cond.instanceMethod yX6_rowsOf, Cond.selects RX6 yX6_rowsOf yX6_rowsOf, Cond.code yX6_rowsOf cX6_rowsOf 4 (some .int), Cond.methodLink RX6 93 yX6_asLabel]
def wsX6_weight_r2 : List Cond := [Cond.instanceMethod yX6_asLabel, Cond.selects RX6 yX6_asLabel yX6_asLabel, Cond.code yX6_asLabel cX6_asLabel 2 (some .int), Cond.fieldLink RX6 7 "CountLearnersModel" "labels" "[I", Cond.fieldLink RX6 13 "CountLearnersModel" "guesses" "[I", Cond.methodLink RX6 108 yX6_shareBelow, Cond.instanceMethod yX6_shareBelow, Cond.selects RX6 yX6_shareBelow yX6_shareBelow, Cond.code yX6_shareBelow cX6_shareBelow 2 (some .long), Cond.fieldLink RX6 29 "CountLearnersModel" "down" "I", Cond.constantLong RX6 104 (8), Cond.fieldLink RX6 25 "CountLearnersModel" "up" "I", Cond.methodLink RX6 100 yX6_timesOf, Cond.instanceMethod yX6_timesOf, Cond.selects RX6 yX6_timesOf yX6_timesOf, Cond.code yX6_timesOf cX6_timesOf 6 (some .int), Cond.methodLink RX6 112 yX6_shareAbove, Cond.instanceMethod yX6_shareAbove, Cond.selects RX6 yX6_shareAbove yX6_shareAbove, Cond.code yX6_shareAbove cX6_shareAbove 3 (some .long), Cond.methodLink RX6 116 yX6_side, Cond.static yX6_side, Cond.code yX6_side cX6_side 7 (some .long), Cond.methodLink RX6 72 yX6_measure]
def wsX6_weight_r3 : List Cond := [Cond.static yX6_measure, Cond.code yX6_measure cX6_measure 10 (some .long)]
def wsX6_weight : List Cond := .code yX6_weight cX6_weight 4 (some .long) :: ((wsX6_weight_r1 ++ (wsX6_weight_r2 ++ wsX6_weight_r3)) ++ wsX60)
def wsX6_bestOf_r1 : List Cond := [Cond.fieldLink RX6 120 "CountLearnersModel" "weightAbove" "J", Cond.fieldLink RX6 124 "CountLearnersModel" "weightBelow" "J", Cond.methodLink RX6 127 yX6_weighRow, Cond.instanceMethod yX6_weighRow, Cond.selects RX6 yX6_weighRow yX6_weighRow, Cond.initialized RX6, Cond.code yX6_weighRow cX6_weighRow 6 none, Cond.fieldLink RX6 19 "CountLearnersModel" "sizes" "[I", Cond.fieldLink RX6 22 "CountLearnersModel" "words" "[I", Cond.methodLink RX6 97 yX6_rowsOf, Cond.instanceMethod yX6_rowsOf, Cond.selects RX6 yX6_rowsOf yX6_rowsOf, Cond.code yX6_rowsOf cX6_rowsOf 4 (some .int), Cond.fieldLink RX6 76 "CountLearnersModel" "rows" "I", Cond.methodLink RX6 93 yX6_asLabel, Cond.instanceMethod yX6_asLabel, Cond.selects RX6 yX6_asLabel yX6_asLabel, Cond.code yX6_asLabel cX6_asLabel 2 (some .int), Cond.fieldLink RX6 7 "CountLearnersModel" "labels" "[I", Cond.fieldLink RX6 13 "CountLearnersModel" "guesses" "[I", Cond.methodLink RX6 108 yX6_shareBelow, Cond.instanceMethod yX6_shareBelow, Cond.selects RX6 yX6_shareBelow yX6_shareBelow, Cond.code yX6_shareBelow cX6_shareBelow 2 (some .long)]
def wsX6_bestOf_r2 : List Cond := [Cond.fieldLink RX6 29 "CountLearnersModel" "down" "I", Cond.constantLong RX6 104 (8), Cond.fieldLink RX6 25 "CountLearnersModel" "up" "I", Cond.methodLink RX6 100 yX6_timesOf, Cond.instanceMethod yX6_timesOf, Cond.selects RX6 yX6_timesOf yX6_timesOf, Cond.code yX6_timesOf cX6_timesOf 6 (some .int), Cond.methodLink RX6 112 yX6_shareAbove, Cond.instanceMethod yX6_shareAbove, Cond.selects RX6 yX6_shareAbove yX6_shareAbove, Cond.code yX6_shareAbove cX6_shareAbove 3 (some .long), Cond.methodLink RX6 131 yX6_isAbove, Cond.static yX6_isAbove, Cond.code yX6_isAbove cX6_isAbove 23 (some .boolean)]
def wsX6_bestOf : List Cond := .code yX6_bestOf cX6_bestOf 8 (some .int) :: ((wsX6_bestOf_r1 ++ wsX6_bestOf_r2) ++ wsX60)
def wsX6_best_r1 : List Cond := [Cond.fieldLink RX6 69 "CountLearnersModel" "thrown" "I", Cond.methodLink RX6 90 yX6_isRow, Cond.instanceMethod yX6_isRow, Cond.selects RX6 yX6_isRow yX6_isRow, Cond.initialized RX6, Cond.code yX6_isRow cX6_isRow 2 (some .boolean), Cond.fieldLink RX6 76 "CountLearnersModel" "rows" "I", Cond.methodLink RX6 79 yX6_within, Cond.static yX6_within, Cond.code yX6_within cX6_within 3 (some .boolean), Cond.methodLink RX6 135 yX6_bestOf, Cond.instanceMethod yX6_bestOf, Cond.selects RX6 yX6_bestOf yX6_bestOf, Cond.code yX6_bestOf cX6_bestOf 8 (some .int), Cond.fieldLink RX6 120 "CountLearnersModel" "weightAbove" "J", Cond.fieldLink RX6 124 "CountLearnersModel" "weightBelow" "J", Cond.methodLink RX6 127 yX6_weighRow, Cond.instanceMethod yX6_weighRow, Cond.selects RX6 yX6_weighRow yX6_weighRow, Cond.code yX6_weighRow cX6_weighRow 6 none, Cond.fieldLink RX6 19 "CountLearnersModel" "sizes" "[I", Cond.fieldLink RX6 22 "CountLearnersModel" "words" "[I", Cond.methodLink RX6 97 yX6_rowsOf, Cond.instanceMethod yX6_rowsOf]
def wsX6_best_r2 : List Cond := [Cond.selects RX6 yX6_rowsOf yX6_rowsOf, Cond.code yX6_rowsOf cX6_rowsOf 4 (some .int), Cond.methodLink RX6 93 yX6_asLabel, Cond.instanceMethod yX6_asLabel, Cond.selects RX6 yX6_asLabel yX6_asLabel, Cond.code yX6_asLabel cX6_asLabel 2 (some .int), Cond.fieldLink RX6 7 "CountLearnersModel" "labels" "[I", Cond.fieldLink RX6 13 "CountLearnersModel" "guesses" "[I", Cond.methodLink RX6 108 yX6_shareBelow, Cond.instanceMethod yX6_shareBelow, Cond.selects RX6 yX6_shareBelow yX6_shareBelow, Cond.code yX6_shareBelow cX6_shareBelow 2 (some .long), Cond.fieldLink RX6 29 "CountLearnersModel" "down" "I", Cond.constantLong RX6 104 (8), Cond.fieldLink RX6 25 "CountLearnersModel" "up" "I", Cond.methodLink RX6 100 yX6_timesOf, Cond.instanceMethod yX6_timesOf, Cond.selects RX6 yX6_timesOf yX6_timesOf, Cond.code yX6_timesOf cX6_timesOf 6 (some .int), Cond.methodLink RX6 112 yX6_shareAbove, Cond.instanceMethod yX6_shareAbove, Cond.selects RX6 yX6_shareAbove yX6_shareAbove, Cond.code yX6_shareAbove cX6_shareAbove 3 (some .long), Cond.methodLink RX6 131 yX6_isAbove]
def wsX6_best_r3 : List Cond := [Cond.static yX6_isAbove, Cond.code yX6_isAbove cX6_isAbove 23 (some .boolean)]
def wsX6_best : List Cond := .code yX6_best cX6_best 2 (some .int) :: ((wsX6_best_r1 ++ (wsX6_best_r2 ++ wsX6_best_r3)) ++ wsX60)
def wsX6_round_r1 : List Cond := [Cond.fieldLink RX6 76 "CountLearnersModel" "rows" "I", Cond.fieldLink RX6 16 "CountLearnersModel" "comes" "[I", Cond.fieldLink RX6 7 "CountLearnersModel" "labels" "[I", Cond.fieldLink RX6 13 "CountLearnersModel" "guesses" "[I", Cond.methodLink RX6 135 yX6_bestOf, Cond.instanceMethod yX6_bestOf, Cond.selects RX6 yX6_bestOf yX6_bestOf, Cond.initialized RX6, Cond.code yX6_bestOf cX6_bestOf 8 (some .int), Cond.fieldLink RX6 120 "CountLearnersModel" "weightAbove" "J", Cond.fieldLink RX6 124 "CountLearnersModel" "weightBelow" "J", Cond.methodLink RX6 127 yX6_weighRow, Cond.instanceMethod yX6_weighRow, Cond.selects RX6 yX6_weighRow yX6_weighRow, Cond.code yX6_weighRow cX6_weighRow 6 none, Cond.fieldLink RX6 19 "CountLearnersModel" "sizes" "[I", Cond.fieldLink RX6 22 "CountLearnersModel" "words" "[I", Cond.methodLink RX6 97 yX6_rowsOf, Cond.instanceMethod yX6_rowsOf, Cond.selects RX6 yX6_rowsOf yX6_rowsOf, Cond.code yX6_rowsOf cX6_rowsOf 4 (some .int), Cond.methodLink RX6 93 yX6_asLabel, Cond.instanceMethod yX6_asLabel, Cond.selects RX6 yX6_asLabel yX6_asLabel]
def wsX6_round_r2 : List Cond := [Cond.code yX6_asLabel cX6_asLabel 2 (some .int), Cond.methodLink RX6 108 yX6_shareBelow, Cond.instanceMethod yX6_shareBelow, Cond.selects RX6 yX6_shareBelow yX6_shareBelow, Cond.code yX6_shareBelow cX6_shareBelow 2 (some .long), Cond.fieldLink RX6 29 "CountLearnersModel" "down" "I", Cond.constantLong RX6 104 (8), Cond.fieldLink RX6 25 "CountLearnersModel" "up" "I", Cond.methodLink RX6 100 yX6_timesOf, Cond.instanceMethod yX6_timesOf, Cond.selects RX6 yX6_timesOf yX6_timesOf, Cond.code yX6_timesOf cX6_timesOf 6 (some .int), Cond.methodLink RX6 112 yX6_shareAbove, Cond.instanceMethod yX6_shareAbove, Cond.selects RX6 yX6_shareAbove yX6_shareAbove, Cond.code yX6_shareAbove cX6_shareAbove 3 (some .long), Cond.methodLink RX6 131 yX6_isAbove, Cond.static yX6_isAbove, Cond.code yX6_isAbove cX6_isAbove 23 (some .boolean)]
def wsX6_round : List Cond := .code yX6_round cX6_round 3 (some .boolean) :: ((wsX6_round_r1 ++ wsX6_round_r2) ++ wsX60)
def wsX6_rounds_r1 : List Cond := [Cond.fieldLink RX6 69 "CountLearnersModel" "thrown" "I", Cond.methodLink RX6 79 yX6_within, Cond.static yX6_within, Cond.initialized RX6, Cond.code yX6_within cX6_within 3 (some .boolean), Cond.methodLink RX6 138 yX6_round, Cond.instanceMethod yX6_round, Cond.selects RX6 yX6_round yX6_round, Cond.code yX6_round cX6_round 3 (some .boolean), Cond.fieldLink RX6 76 "CountLearnersModel" "rows" "I", Cond.fieldLink RX6 16 "CountLearnersModel" "comes" "[I", Cond.fieldLink RX6 7 "CountLearnersModel" "labels" "[I", Cond.fieldLink RX6 13 "CountLearnersModel" "guesses" "[I", Cond.methodLink RX6 135 yX6_bestOf, Cond.instanceMethod yX6_bestOf, Cond.selects RX6 yX6_bestOf yX6_bestOf, Cond.code yX6_bestOf cX6_bestOf 8 (some .int), Cond.fieldLink RX6 120 "CountLearnersModel" "weightAbove" "J", Cond.fieldLink RX6 124 "CountLearnersModel" "weightBelow" "J", Cond.methodLink RX6 127 yX6_weighRow, Cond.instanceMethod yX6_weighRow, Cond.selects RX6 yX6_weighRow yX6_weighRow, Cond.code yX6_weighRow cX6_weighRow 6 none, Cond.fieldLink RX6 19 "CountLearnersModel" "sizes" "[I"]
def wsX6_rounds_r2 : List Cond := [Cond.fieldLink RX6 22 "CountLearnersModel" "words" "[I", Cond.methodLink RX6 97 yX6_rowsOf, Cond.instanceMethod yX6_rowsOf, Cond.selects RX6 yX6_rowsOf yX6_rowsOf, Cond.code yX6_rowsOf cX6_rowsOf 4 (some .int), Cond.methodLink RX6 93 yX6_asLabel, Cond.instanceMethod yX6_asLabel, Cond.selects RX6 yX6_asLabel yX6_asLabel, Cond.code yX6_asLabel cX6_asLabel 2 (some .int), Cond.methodLink RX6 108 yX6_shareBelow, Cond.instanceMethod yX6_shareBelow, Cond.selects RX6 yX6_shareBelow yX6_shareBelow, Cond.code yX6_shareBelow cX6_shareBelow 2 (some .long), Cond.fieldLink RX6 29 "CountLearnersModel" "down" "I", Cond.constantLong RX6 104 (8), Cond.fieldLink RX6 25 "CountLearnersModel" "up" "I", Cond.methodLink RX6 100 yX6_timesOf, Cond.instanceMethod yX6_timesOf, Cond.selects RX6 yX6_timesOf yX6_timesOf, Cond.code yX6_timesOf cX6_timesOf 6 (some .int), Cond.methodLink RX6 112 yX6_shareAbove, Cond.instanceMethod yX6_shareAbove, Cond.selects RX6 yX6_shareAbove yX6_shareAbove, Cond.code yX6_shareAbove cX6_shareAbove 3 (some .long)]
def wsX6_rounds_r3 : List Cond := [Cond.methodLink RX6 131 yX6_isAbove, Cond.static yX6_isAbove, Cond.code yX6_isAbove cX6_isAbove 23 (some .boolean)]
def wsX6_rounds : List Cond := .code yX6_rounds cX6_rounds 3 (some .int) :: ((wsX6_rounds_r1 ++ (wsX6_rounds_r2 ++ wsX6_rounds_r3)) ++ wsX60)
def wsX6_guess : List Cond := .code yX6_guess cX6_guess 2 (some .int) :: ([.fieldLink RX6 69 "CountLearnersModel" "thrown" "I", .fieldLink RX6 13 "CountLearnersModel" "guesses" "[I", .methodLink RX6 90 yX6_isRow, .instanceMethod yX6_isRow, .selects RX6 yX6_isRow yX6_isRow, .initialized RX6, .code yX6_isRow cX6_isRow 2 (some .boolean), .fieldLink RX6 76 "CountLearnersModel" "rows" "I", .methodLink RX6 79 yX6_within, .static yX6_within, .code yX6_within cX6_within 3 (some .boolean)] ++ wsX60)
def wsX6_text : List Cond := .code yX6_text cX6_text 2 (some .int) :: ([.fieldLink RX6 69 "CountLearnersModel" "thrown" "I", .fieldLink RX6 142 "CountLearnersModel" "length" "I", .fieldLink RX6 32 "CountLearnersModel" "told" "[I", .methodLink RX6 79 yX6_within, .static yX6_within, .initialized RX6, .code yX6_within cX6_within 3 (some .boolean)] ++ wsX60)
def wsX6_count : List Cond := .code yX6_count cX6_count 5 (some .int) :: ([.fieldLink RX6 35 "CountLearnersModel" "behind" "[I", .fieldLink RX6 142 "CountLearnersModel" "length" "I", .fieldLink RX6 32 "CountLearnersModel" "told" "[I"] ++ wsX60)
def wsX6_first : List Cond := .code yX6_first cX6_first 2 none :: ([.fieldLink RX6 38 "CountLearnersModel" "shares" "[J", .fieldLink RX6 142 "CountLearnersModel" "length" "I", .fieldLink RX6 32 "CountLearnersModel" "told" "[I", .constantLong RX6 104 (8), .fieldLink RX6 145 "CountLearnersModel" "over" "J"] ++ wsX60)
def wsX6_above : List Cond := .code yX6_above cX6_above 6 none :: ([.fieldLink RX6 35 "CountLearnersModel" "behind" "[I", .fieldLink RX6 38 "CountLearnersModel" "shares" "[J", .constantLong RX6 148 (2), .fieldLink RX6 145 "CountLearnersModel" "over" "J"] ++ wsX60)
def wsX6_table : List Cond := .code yX6_table cX6_table 3 none :: ([.methodLink RX6 150 yX6_first, .instanceMethod yX6_first, .selects RX6 yX6_first yX6_first, .initialized RX6, .code yX6_first cX6_first 2 none, .fieldLink RX6 38 "CountLearnersModel" "shares" "[J", .fieldLink RX6 142 "CountLearnersModel" "length" "I", .fieldLink RX6 32 "CountLearnersModel" "told" "[I", .constantLong RX6 104 (8), .fieldLink RX6 145 "CountLearnersModel" "over" "J", .methodLink RX6 153 yX6_count, .instanceMethod yX6_count, .selects RX6 yX6_count yX6_count, .code yX6_count cX6_count 5 (some .int), .fieldLink RX6 35 "CountLearnersModel" "behind" "[I", .methodLink RX6 156 yX6_above, .instanceMethod yX6_above, .selects RX6 yX6_above yX6_above, .code yX6_above cX6_above 6 none, .constantLong RX6 148 (2)] ++ wsX60)
def wsX6_isTable : List Cond := .code yX6_isTable cX6_isTable 2 (some .boolean) :: ([.methodLink RX6 79 yX6_within, .static yX6_within, .initialized RX6, .code yX6_within cX6_within 3 (some .boolean)])
def wsX6_next_r1 : List Cond := [Cond.fieldLink RX6 69 "CountLearnersModel" "thrown" "I", Cond.constantLong RX6 106 (-2), Cond.fieldLink RX6 38 "CountLearnersModel" "shares" "[J", Cond.fieldLink RX6 145 "CountLearnersModel" "over" "J", Cond.methodLink RX6 160 yX6_isTable, Cond.static yX6_isTable, Cond.initialized RX6, Cond.code yX6_isTable cX6_isTable 2 (some .boolean), Cond.methodLink RX6 79 yX6_within, Cond.static yX6_within, Cond.code yX6_within cX6_within 3 (some .boolean), Cond.methodLink RX6 164 yX6_table, Cond.instanceMethod yX6_table, Cond.selects RX6 yX6_table yX6_table, Cond.code yX6_table cX6_table 3 none, Cond.methodLink RX6 150 yX6_first, Cond.instanceMethod yX6_first, Cond.selects RX6 yX6_first yX6_first, Cond.code yX6_first cX6_first 2 none, Cond.fieldLink RX6 142 "CountLearnersModel" "length" "I", Cond.fieldLink RX6 32 "CountLearnersModel" "told" "[I", Cond.constantLong RX6 104 (8), Cond.methodLink RX6 153 yX6_count, Cond.instanceMethod yX6_count]
def wsX6_next_r2 : List Cond := [Cond.selects RX6 yX6_count yX6_count, Cond.code yX6_count cX6_count 5 (some .int), Cond.fieldLink RX6 35 "CountLearnersModel" "behind" "[I", Cond.methodLink RX6 156 yX6_above, Cond.instanceMethod yX6_above, Cond.selects RX6 yX6_above yX6_above, Cond.code yX6_above cX6_above 6 none, Cond.constantLong RX6 148 (2), Cond.methodLink RX6 116 yX6_side, Cond.static yX6_side, Cond.code yX6_side cX6_side 7 (some .long), Cond.methodLink RX6 72 yX6_measure, Cond.static yX6_measure, Cond.code yX6_measure cX6_measure 10 (some .long)]
def wsX6_next : List Cond := .code yX6_next cX6_next 5 (some .long) :: ((wsX6_next_r1 ++ wsX6_next_r2) ++ wsX60)
def wsX6_likely_r1 : List Cond := [Cond.fieldLink RX6 69 "CountLearnersModel" "thrown" "I", Cond.fieldLink RX6 38 "CountLearnersModel" "shares" "[J", Cond.methodLink RX6 160 yX6_isTable, Cond.static yX6_isTable, Cond.initialized RX6, Cond.code yX6_isTable cX6_isTable 2 (some .boolean), Cond.methodLink RX6 79 yX6_within, Cond.static yX6_within, Cond.code yX6_within cX6_within 3 (some .boolean), Cond.methodLink RX6 164 yX6_table, Cond.instanceMethod yX6_table, Cond.selects RX6 yX6_table yX6_table, Cond.code yX6_table cX6_table 3 none, Cond.methodLink RX6 150 yX6_first, Cond.instanceMethod yX6_first, Cond.selects RX6 yX6_first yX6_first, Cond.code yX6_first cX6_first 2 none, Cond.fieldLink RX6 142 "CountLearnersModel" "length" "I", Cond.fieldLink RX6 32 "CountLearnersModel" "told" "[I", Cond.constantLong RX6 104 (8), Cond.fieldLink RX6 145 "CountLearnersModel" "over" "J", Cond.methodLink RX6 153 yX6_count, Cond.instanceMethod yX6_count, Cond.selects RX6 yX6_count yX6_count]
def wsX6_likely_r2 : List Cond := [Cond.code yX6_count cX6_count 5 (some .int), Cond.fieldLink RX6 35 "CountLearnersModel" "behind" "[I", Cond.methodLink RX6 156 yX6_above, Cond.instanceMethod yX6_above, Cond.selects RX6 yX6_above yX6_above, Cond.code yX6_above cX6_above 6 none, Cond.constantLong RX6 148 (2)]
def wsX6_likely : List Cond := .code yX6_likely cX6_likely 5 (some .int) :: ((wsX6_likely_r1 ++ wsX6_likely_r2) ++ wsX60)
def wsX6_weigh : List Cond := .code yX6_weigh cX6_weigh 7 (some .int) :: ([.fieldLink RX6 69 "CountLearnersModel" "thrown" "I", .fieldLink RX6 42 "CountLearnersModel" "start" "[I", .fieldLink RX6 45 "CountLearnersModel" "move" "[I", .fieldLink RX6 48 "CountLearnersModel" "show" "[I", .methodLink RX6 79 yX6_within, .static yX6_within, .initialized RX6, .code yX6_within cX6_within 3 (some .boolean)] ++ wsX60)
def wsX6_sign : List Cond := .code yX6_sign cX6_sign 3 (some .int) :: ([.fieldLink RX6 69 "CountLearnersModel" "thrown" "I", .fieldLink RX6 54 "CountLearnersModel" "many" "[I", .fieldLink RX6 51 "CountLearnersModel" "signs" "[I", .methodLink RX6 79 yX6_within, .static yX6_within, .initialized RX6, .code yX6_within cX6_within 3 (some .boolean)] ++ wsX60)
def wsX6_stateOf : List Cond := .code yX6_stateOf cX6_stateOf 4 (some .int) :: ([.fieldLink RX6 54 "CountLearnersModel" "many" "[I"] ++ wsX60)
def wsX6_weighPath : List Cond := .code yX6_weighPath cX6_weighPath 7 (some .long) :: ([.fieldLink RX6 54 "CountLearnersModel" "many" "[I", .fieldLink RX6 42 "CountLearnersModel" "start" "[I", .fieldLink RX6 45 "CountLearnersModel" "move" "[I", .fieldLink RX6 48 "CountLearnersModel" "show" "[I", .fieldLink RX6 51 "CountLearnersModel" "signs" "[I", .methodLink RX6 167 yX6_stateOf, .instanceMethod yX6_stateOf, .selects RX6 yX6_stateOf yX6_stateOf, .initialized RX6, .code yX6_stateOf cX6_stateOf 4 (some .int)] ++ wsX60)
def wsX6_paths : List Cond := .code yX6_paths cX6_paths 2 (some .int) :: ([.fieldLink RX6 54 "CountLearnersModel" "many" "[I"] ++ wsX60)
def wsX6_sum : List Cond := .code yX6_sum cX6_sum 7 (some .long) :: ([.methodLink RX6 171 yX6_paths, .instanceMethod yX6_paths, .selects RX6 yX6_paths yX6_paths, .initialized RX6, .code yX6_paths cX6_paths 2 (some .int), .fieldLink RX6 54 "CountLearnersModel" "many" "[I", .methodLink RX6 167 yX6_stateOf, .instanceMethod yX6_stateOf, .selects RX6 yX6_stateOf yX6_stateOf, .code yX6_stateOf cX6_stateOf 4 (some .int), .methodLink RX6 174 yX6_weighPath, .instanceMethod yX6_weighPath, .selects RX6 yX6_weighPath yX6_weighPath, .code yX6_weighPath cX6_weighPath 7 (some .long), .fieldLink RX6 42 "CountLearnersModel" "start" "[I", .fieldLink RX6 45 "CountLearnersModel" "move" "[I", .fieldLink RX6 48 "CountLearnersModel" "show" "[I", .fieldLink RX6 51 "CountLearnersModel" "signs" "[I"] ++ wsX60)
def wsX6_bestPathOf : List Cond := .code yX6_bestPathOf cX6_bestPathOf 8 (some .int) :: ([.methodLink RX6 171 yX6_paths, .instanceMethod yX6_paths, .selects RX6 yX6_paths yX6_paths, .initialized RX6, .code yX6_paths cX6_paths 2 (some .int), .fieldLink RX6 54 "CountLearnersModel" "many" "[I", .methodLink RX6 174 yX6_weighPath, .instanceMethod yX6_weighPath, .selects RX6 yX6_weighPath yX6_weighPath, .code yX6_weighPath cX6_weighPath 7 (some .long), .fieldLink RX6 42 "CountLearnersModel" "start" "[I", .fieldLink RX6 45 "CountLearnersModel" "move" "[I", .fieldLink RX6 48 "CountLearnersModel" "show" "[I", .fieldLink RX6 51 "CountLearnersModel" "signs" "[I", .methodLink RX6 167 yX6_stateOf, .instanceMethod yX6_stateOf, .selects RX6 yX6_stateOf yX6_stateOf, .code yX6_stateOf cX6_stateOf 4 (some .int)] ++ wsX60)
def wsX6_path_r1 : List Cond := [Cond.fieldLink RX6 69 "CountLearnersModel" "thrown" "I", Cond.fieldLink RX6 54 "CountLearnersModel" "many" "[I", Cond.methodLink RX6 79 yX6_within, Cond.static yX6_within, Cond.initialized RX6, Cond.code yX6_within cX6_within 3 (some .boolean), Cond.methodLink RX6 177 yX6_bestPathOf, Cond.instanceMethod yX6_bestPathOf, Cond.selects RX6 yX6_bestPathOf yX6_bestPathOf, Cond.code yX6_bestPathOf cX6_bestPathOf 8 (some .int), Cond.methodLink RX6 171 yX6_paths, Cond.instanceMethod yX6_paths, Cond.selects RX6 yX6_paths yX6_paths, Cond.code yX6_paths cX6_paths 2 (some .int), Cond.methodLink RX6 174 yX6_weighPath, Cond.instanceMethod yX6_weighPath, Cond.selects RX6 yX6_weighPath yX6_weighPath, Cond.code yX6_weighPath cX6_weighPath 7 (some .long), Cond.fieldLink RX6 42 "CountLearnersModel" "start" "[I", Cond.fieldLink RX6 45 "CountLearnersModel" "move" "[I", Cond.fieldLink RX6 48 "CountLearnersModel" "show" "[I", Cond.fieldLink RX6 51 "CountLearnersModel" "signs" "[I", Cond.methodLink RX6 167 yX6_stateOf, Cond.instanceMethod yX6_stateOf]
def wsX6_path_r2 : List Cond := [Cond.selects RX6 yX6_stateOf yX6_stateOf, Cond.code yX6_stateOf cX6_stateOf 4 (some .int)]
def wsX6_path : List Cond := .code yX6_path cX6_path 4 (some .int) :: ((wsX6_path_r1 ++ wsX6_path_r2) ++ wsX60)
def wsX6_total_r1 : List Cond := [Cond.fieldLink RX6 69 "CountLearnersModel" "thrown" "I", Cond.constantLong RX6 106 (-2), Cond.methodLink RX6 79 yX6_within, Cond.static yX6_within, Cond.initialized RX6, Cond.code yX6_within cX6_within 3 (some .boolean), Cond.methodLink RX6 180 yX6_sum, Cond.instanceMethod yX6_sum, Cond.selects RX6 yX6_sum yX6_sum, Cond.code yX6_sum cX6_sum 7 (some .long), Cond.methodLink RX6 171 yX6_paths, Cond.instanceMethod yX6_paths, Cond.selects RX6 yX6_paths yX6_paths, Cond.code yX6_paths cX6_paths 2 (some .int), Cond.fieldLink RX6 54 "CountLearnersModel" "many" "[I", Cond.methodLink RX6 167 yX6_stateOf, Cond.instanceMethod yX6_stateOf, Cond.selects RX6 yX6_stateOf yX6_stateOf, Cond.code yX6_stateOf cX6_stateOf 4 (some .int), Cond.methodLink RX6 174 yX6_weighPath, Cond.instanceMethod yX6_weighPath, Cond.selects RX6 yX6_weighPath yX6_weighPath, Cond.code yX6_weighPath cX6_weighPath 7 (some .long), Cond.fieldLink RX6 42 "CountLearnersModel" "start" "[I"]
def wsX6_total_r2 : List Cond := [Cond.fieldLink RX6 45 "CountLearnersModel" "move" "[I", Cond.fieldLink RX6 48 "CountLearnersModel" "show" "[I", Cond.fieldLink RX6 51 "CountLearnersModel" "signs" "[I"]
def wsX6_total : List Cond := .code yX6_total cX6_total 2 (some .long) :: ((wsX6_total_r1 ++ wsX6_total_r2) ++ wsX60)
def wsX6_at_r1 : List Cond := [Cond.fieldLink RX6 69 "CountLearnersModel" "thrown" "I", Cond.fieldLink RX6 54 "CountLearnersModel" "many" "[I", Cond.constantLong RX6 106 (-2), Cond.methodLink RX6 79 yX6_within, Cond.static yX6_within, Cond.initialized RX6, Cond.code yX6_within cX6_within 3 (some .boolean), Cond.methodLink RX6 180 yX6_sum, Cond.instanceMethod yX6_sum, Cond.selects RX6 yX6_sum yX6_sum, Cond.code yX6_sum cX6_sum 7 (some .long), Cond.methodLink RX6 171 yX6_paths, Cond.instanceMethod yX6_paths, Cond.selects RX6 yX6_paths yX6_paths, Cond.code yX6_paths cX6_paths 2 (some .int), Cond.methodLink RX6 167 yX6_stateOf, Cond.instanceMethod yX6_stateOf, Cond.selects RX6 yX6_stateOf yX6_stateOf, Cond.code yX6_stateOf cX6_stateOf 4 (some .int), Cond.methodLink RX6 174 yX6_weighPath, Cond.instanceMethod yX6_weighPath, Cond.selects RX6 yX6_weighPath yX6_weighPath, Cond.code yX6_weighPath cX6_weighPath 7 (some .long), Cond.fieldLink RX6 42 "CountLearnersModel" "start" "[I"]
def wsX6_at_r2 : List Cond := [Cond.fieldLink RX6 45 "CountLearnersModel" "move" "[I", Cond.fieldLink RX6 48 "CountLearnersModel" "show" "[I", Cond.fieldLink RX6 51 "CountLearnersModel" "signs" "[I", Cond.methodLink RX6 116 yX6_side, Cond.static yX6_side, Cond.code yX6_side cX6_side 7 (some .long), Cond.methodLink RX6 72 yX6_measure, Cond.static yX6_measure, Cond.code yX6_measure cX6_measure 10 (some .long)]
def wsX6_at : List Cond := .code yX6_at cX6_at 7 (some .long) :: ((wsX6_at_r1 ++ wsX6_at_r2) ++ wsX60)
def wsX6_countPath : List Cond := .code yX6_countPath cX6_countPath 5 none :: ([.fieldLink RX6 54 "CountLearnersModel" "many" "[I", .fieldLink RX6 60 "CountLearnersModel" "nextStart" "[I", .fieldLink RX6 63 "CountLearnersModel" "nextMove" "[I", .fieldLink RX6 66 "CountLearnersModel" "nextShow" "[I", .fieldLink RX6 51 "CountLearnersModel" "signs" "[I", .methodLink RX6 167 yX6_stateOf, .instanceMethod yX6_stateOf, .selects RX6 yX6_stateOf yX6_stateOf, .initialized RX6, .code yX6_stateOf cX6_stateOf 4 (some .int)] ++ wsX60)
def wsX6_learnt_r1 : List Cond := [Cond.fieldLink RX6 60 "CountLearnersModel" "nextStart" "[I", Cond.fieldLink RX6 63 "CountLearnersModel" "nextMove" "[I", Cond.fieldLink RX6 66 "CountLearnersModel" "nextShow" "[I", Cond.fieldLink RX6 57 "CountLearnersModel" "bestPath" "[I", Cond.fieldLink RX6 42 "CountLearnersModel" "start" "[I", Cond.fieldLink RX6 45 "CountLearnersModel" "move" "[I", Cond.fieldLink RX6 48 "CountLearnersModel" "show" "[I", Cond.methodLink RX6 177 yX6_bestPathOf, Cond.instanceMethod yX6_bestPathOf, Cond.selects RX6 yX6_bestPathOf yX6_bestPathOf, Cond.initialized RX6, Cond.code yX6_bestPathOf cX6_bestPathOf 8 (some .int), Cond.methodLink RX6 171 yX6_paths, Cond.instanceMethod yX6_paths, Cond.selects RX6 yX6_paths yX6_paths, Cond.code yX6_paths cX6_paths 2 (some .int), Cond.fieldLink RX6 54 "CountLearnersModel" "many" "[I", Cond.methodLink RX6 174 yX6_weighPath, Cond.instanceMethod yX6_weighPath, Cond.selects RX6 yX6_weighPath yX6_weighPath, Cond.code yX6_weighPath cX6_weighPath 7 (some .long), Cond.fieldLink RX6 51 "CountLearnersModel" "signs" "[I", Cond.methodLink RX6 167 yX6_stateOf, Cond.instanceMethod yX6_stateOf]
def wsX6_learnt_r2 : List Cond := [Cond.selects RX6 yX6_stateOf yX6_stateOf, Cond.code yX6_stateOf cX6_stateOf 4 (some .int), Cond.methodLink RX6 184 yX6_countPath, Cond.instanceMethod yX6_countPath, Cond.selects RX6 yX6_countPath yX6_countPath, Cond.code yX6_countPath cX6_countPath 5 none]
def wsX6_learnt : List Cond := .code yX6_learnt cX6_learnt 3 (some .boolean) :: ((wsX6_learnt_r1 ++ wsX6_learnt_r2) ++ wsX60)
def wsX6_learn_r1 : List Cond := [Cond.fieldLink RX6 69 "CountLearnersModel" "thrown" "I", Cond.methodLink RX6 79 yX6_within, Cond.static yX6_within, Cond.initialized RX6, Cond.code yX6_within cX6_within 3 (some .boolean), Cond.methodLink RX6 187 yX6_learnt, Cond.instanceMethod yX6_learnt, Cond.selects RX6 yX6_learnt yX6_learnt, Cond.code yX6_learnt cX6_learnt 3 (some .boolean), Cond.fieldLink RX6 60 "CountLearnersModel" "nextStart" "[I", Cond.fieldLink RX6 63 "CountLearnersModel" "nextMove" "[I", Cond.fieldLink RX6 66 "CountLearnersModel" "nextShow" "[I", Cond.fieldLink RX6 57 "CountLearnersModel" "bestPath" "[I", Cond.fieldLink RX6 42 "CountLearnersModel" "start" "[I", Cond.fieldLink RX6 45 "CountLearnersModel" "move" "[I", Cond.fieldLink RX6 48 "CountLearnersModel" "show" "[I", Cond.methodLink RX6 177 yX6_bestPathOf, Cond.instanceMethod yX6_bestPathOf, Cond.selects RX6 yX6_bestPathOf yX6_bestPathOf, Cond.code yX6_bestPathOf cX6_bestPathOf 8 (some .int), Cond.methodLink RX6 171 yX6_paths, Cond.instanceMethod yX6_paths, Cond.selects RX6 yX6_paths yX6_paths, Cond.code yX6_paths cX6_paths 2 (some .int)]
def wsX6_learn_r2 : List Cond := [Cond.fieldLink RX6 54 "CountLearnersModel" "many" "[I", Cond.methodLink RX6 174 yX6_weighPath, Cond.instanceMethod yX6_weighPath, Cond.selects RX6 yX6_weighPath yX6_weighPath, Cond.code yX6_weighPath cX6_weighPath 7 (some .long), Cond.fieldLink RX6 51 "CountLearnersModel" "signs" "[I", Cond.methodLink RX6 167 yX6_stateOf, Cond.instanceMethod yX6_stateOf, Cond.selects RX6 yX6_stateOf yX6_stateOf, Cond.code yX6_stateOf cX6_stateOf 4 (some .int), Cond.methodLink RX6 184 yX6_countPath, Cond.instanceMethod yX6_countPath, Cond.selects RX6 yX6_countPath yX6_countPath, Cond.code yX6_countPath cX6_countPath 5 none]
def wsX6_learn : List Cond := .code yX6_learn cX6_learn 3 (some .int) :: ((wsX6_learn_r1 ++ wsX6_learn_r2) ++ wsX60)
def wsX6_has : List Cond := .code yX6_has cX6_has 5 (some .boolean) :: ([.fieldLink RX6 19 "CountLearnersModel" "sizes" "[I", .fieldLink RX6 22 "CountLearnersModel" "words" "[I"] ++ wsX60)
def wsX6_support : List Cond := .code yX6_support cX6_support 5 (some .int) :: ([.fieldLink RX6 76 "CountLearnersModel" "rows" "I", .methodLink RX6 190 yX6_has, .instanceMethod yX6_has, .selects RX6 yX6_has yX6_has, .initialized RX6, .code yX6_has cX6_has 5 (some .boolean), .fieldLink RX6 19 "CountLearnersModel" "sizes" "[I", .fieldLink RX6 22 "CountLearnersModel" "words" "[I"] ++ wsX60)
def wsX6_isRule : List Cond := .code yX6_isRule cX6_isRule 2 (some .boolean) :: ([.methodLink RX6 193 yX6_support, .instanceMethod yX6_support, .selects RX6 yX6_support yX6_support, .initialized RX6, .code yX6_support cX6_support 5 (some .int), .fieldLink RX6 76 "CountLearnersModel" "rows" "I", .methodLink RX6 190 yX6_has, .instanceMethod yX6_has, .selects RX6 yX6_has yX6_has, .code yX6_has cX6_has 5 (some .boolean), .fieldLink RX6 19 "CountLearnersModel" "sizes" "[I", .fieldLink RX6 22 "CountLearnersModel" "words" "[I"] ++ wsX60)
def wsX6_isAhead : List Cond := .code yX6_isAhead cX6_isAhead 7 (some .boolean) :: ([.methodLink RX6 193 yX6_support, .instanceMethod yX6_support, .selects RX6 yX6_support yX6_support, .initialized RX6, .code yX6_support cX6_support 5 (some .int), .fieldLink RX6 76 "CountLearnersModel" "rows" "I", .methodLink RX6 190 yX6_has, .instanceMethod yX6_has, .selects RX6 yX6_has yX6_has, .code yX6_has cX6_has 5 (some .boolean), .fieldLink RX6 19 "CountLearnersModel" "sizes" "[I", .fieldLink RX6 22 "CountLearnersModel" "words" "[I"] ++ wsX60)
def wsX6_rules : List Cond := .code yX6_rules cX6_rules 3 (some .int) :: ([.methodLink RX6 196 yX6_isRule, .instanceMethod yX6_isRule, .selects RX6 yX6_isRule yX6_isRule, .initialized RX6, .code yX6_isRule cX6_isRule 2 (some .boolean), .methodLink RX6 193 yX6_support, .instanceMethod yX6_support, .selects RX6 yX6_support yX6_support, .code yX6_support cX6_support 5 (some .int), .fieldLink RX6 76 "CountLearnersModel" "rows" "I", .methodLink RX6 190 yX6_has, .instanceMethod yX6_has, .selects RX6 yX6_has yX6_has, .code yX6_has cX6_has 5 (some .boolean), .fieldLink RX6 19 "CountLearnersModel" "sizes" "[I", .fieldLink RX6 22 "CountLearnersModel" "words" "[I"] ++ wsX60)
def wsX6_ruleAt : List Cond := .code yX6_ruleAt cX6_ruleAt 5 (some .int) :: ([.methodLink RX6 196 yX6_isRule, .instanceMethod yX6_isRule, .selects RX6 yX6_isRule yX6_isRule, .initialized RX6, .code yX6_isRule cX6_isRule 2 (some .boolean), .methodLink RX6 193 yX6_support, .instanceMethod yX6_support, .selects RX6 yX6_support yX6_support, .code yX6_support cX6_support 5 (some .int), .fieldLink RX6 76 "CountLearnersModel" "rows" "I", .methodLink RX6 190 yX6_has, .instanceMethod yX6_has, .selects RX6 yX6_has yX6_has, .code yX6_has cX6_has 5 (some .boolean), .fieldLink RX6 19 "CountLearnersModel" "sizes" "[I", .fieldLink RX6 22 "CountLearnersModel" "words" "[I", .methodLink RX6 199 yX6_isAhead, .instanceMethod yX6_isAhead, .selects RX6 yX6_isAhead yX6_isAhead, .code yX6_isAhead cX6_isAhead 7 (some .boolean)] ++ wsX60)
def wsX6_rule_r1 : List Cond := [Cond.fieldLink RX6 69 "CountLearnersModel" "thrown" "I", Cond.methodLink RX6 79 yX6_within, Cond.static yX6_within, Cond.initialized RX6, Cond.code yX6_within cX6_within 3 (some .boolean), Cond.methodLink RX6 202 yX6_rules, Cond.instanceMethod yX6_rules, Cond.selects RX6 yX6_rules yX6_rules, Cond.code yX6_rules cX6_rules 3 (some .int), Cond.methodLink RX6 196 yX6_isRule, Cond.instanceMethod yX6_isRule, Cond.selects RX6 yX6_isRule yX6_isRule, Cond.code yX6_isRule cX6_isRule 2 (some .boolean), Cond.methodLink RX6 193 yX6_support, Cond.instanceMethod yX6_support, Cond.selects RX6 yX6_support yX6_support, Cond.code yX6_support cX6_support 5 (some .int), Cond.fieldLink RX6 76 "CountLearnersModel" "rows" "I", Cond.methodLink RX6 190 yX6_has, Cond.instanceMethod yX6_has, Cond.selects RX6 yX6_has yX6_has, Cond.code yX6_has cX6_has 5 (some .boolean), Cond.fieldLink RX6 19 "CountLearnersModel" "sizes" "[I", Cond.fieldLink RX6 22 "CountLearnersModel" "words" "[I"]
def wsX6_rule_r2 : List Cond := [Cond.methodLink RX6 206 yX6_ruleAt, Cond.instanceMethod yX6_ruleAt, Cond.selects RX6 yX6_ruleAt yX6_ruleAt, Cond.code yX6_ruleAt cX6_ruleAt 5 (some .int), Cond.methodLink RX6 199 yX6_isAhead, Cond.instanceMethod yX6_isAhead, Cond.selects RX6 yX6_isAhead yX6_isAhead, Cond.code yX6_isAhead cX6_isAhead 7 (some .boolean), Cond.methodLink RX6 116 yX6_side, Cond.static yX6_side, Cond.code yX6_side cX6_side 7 (some .long), Cond.methodLink RX6 72 yX6_measure, Cond.static yX6_measure, Cond.code yX6_measure cX6_measure 10 (some .long)]
def wsX6_rule : List Cond := .code yX6_rule cX6_rule 5 (some .int) :: ((wsX6_rule_r1 ++ wsX6_rule_r2) ++ wsX60)
def wsX6_count_ : List Cond := .code yX6_count_ cX6_count_ 4 (some .int) :: ([.fieldLink RX6 69 "CountLearnersModel" "thrown" "I", .fieldLink RX6 76 "CountLearnersModel" "rows" "I", .fieldLink RX6 7 "CountLearnersModel" "labels" "[I", .fieldLink RX6 142 "CountLearnersModel" "length" "I", .fieldLink RX6 54 "CountLearnersModel" "many" "[I", .methodLink RX6 202 yX6_rules, .instanceMethod yX6_rules, .selects RX6 yX6_rules yX6_rules, .initialized RX6, .code yX6_rules cX6_rules 3 (some .int), .methodLink RX6 196 yX6_isRule, .instanceMethod yX6_isRule, .selects RX6 yX6_isRule yX6_isRule, .code yX6_isRule cX6_isRule 2 (some .boolean), .methodLink RX6 193 yX6_support, .instanceMethod yX6_support, .selects RX6 yX6_support yX6_support, .code yX6_support cX6_support 5 (some .int), .methodLink RX6 190 yX6_has, .instanceMethod yX6_has, .selects RX6 yX6_has yX6_has, .code yX6_has cX6_has 5 (some .boolean), .fieldLink RX6 19 "CountLearnersModel" "sizes" "[I", .fieldLink RX6 22 "CountLearnersModel" "words" "[I"] ++ wsX60)
def wsL_share_r1 : List Cond := [Cond.classLink RL 13 "java/lang/ArithmeticException", Cond.methodLink RL 7 yX5_share, Cond.instanceMethod yX5_share, Cond.selects RX5 yX5_share yX5_share, Cond.initialized RX5, Cond.code yX5_share cX5_share 6 (some .long), Cond.classLink RX5 94 "java/lang/ArithmeticException", Cond.initialized "java/lang/ArithmeticException", Cond.constantLong RX5 88 (-2), Cond.fieldLink RX5 10 "CountLearners" "rows" "LCountLearners$LabelledRows;", Cond.methodLink RX5 73 yX5_isLabel, Cond.static yX5_isLabel, Cond.code yX5_isLabel cX5_isLabel 1 (some .boolean), Cond.methodLink RX5 65 yX5_isWithin, Cond.static yX5_isWithin, Cond.code yX5_isWithin cX5_isWithin 3 (some .boolean), Cond.methodLink RX5 52 yX5_isWord, Cond.static yX5_isWord, Cond.code yX5_isWord cX5_isWord 1 (some .boolean), Cond.methodLink RX5 85 yX5_isSide, Cond.static yX5_isSide, Cond.code yX5_isSide cX5_isSide 1 (some .boolean), Cond.methodLink RX5 90 yX2_shareLower, Cond.instanceMethod yX2_shareLower]
def wsL_share_r2 : List Cond := [Cond.selects RX2 yX2_shareLower yX2_shareLower, Cond.initialized RX2, Cond.code yX2_shareLower cX2_shareLower 2 (some .long), Cond.fieldLink RX2 27 "CountLearners$LabelledRows" "totals" "[I", Cond.fieldLink RX2 40 "CountLearners$LabelledRows" "addedDown" "I", Cond.constantLong RX2 50 (8), Cond.fieldLink RX2 37 "CountLearners$LabelledRows" "addedUp" "I", Cond.methodLink RX5 101 yX2_shareUpper, Cond.instanceMethod yX2_shareUpper, Cond.selects RX2 yX2_shareUpper yX2_shareUpper, Cond.code yX2_shareUpper cX2_shareUpper 3 (some .long), Cond.methodLink RX2 46 yX2_timesIn, Cond.instanceMethod yX2_timesIn, Cond.selects RX2 yX2_timesIn yX2_timesIn, Cond.code yX2_timesIn cX2_timesIn 3 (some .int), Cond.fieldLink RX2 24 "CountLearners$LabelledRows" "times" "[I", Cond.methodLink RX5 105 yX0_sideOf, Cond.static yX0_sideOf, Cond.initialized RX0, Cond.code yX0_sideOf cX0_sideOf 7 (some .long), Cond.methodLink RX0 7 yX0_commonDivisor, Cond.static yX0_commonDivisor, Cond.code yX0_commonDivisor cX0_commonDivisor 11 (some .long)]
def wsL_share : List Cond := .codeWith yL_share cL_share 6 (some .int) [(0, 11, 14, 13)] :: ((wsL_share_r1 ++ wsL_share_r2) ++ wsX50 ++ wsX20 ++ (vx_atS RX5 98 "java/lang/ArithmeticException" ["java/lang/RuntimeException", "java/lang/Exception"]).filter goodWord)
def wsL_at_r1 : List Cond := [Cond.classLink RL 13 "java/lang/ArithmeticException", Cond.methodLink RL 15 yX5_at, Cond.instanceMethod yX5_at, Cond.selects RX5 yX5_at yX5_at, Cond.initialized RX5, Cond.code yX5_at cX5_at 7 (some .long), Cond.classLink RX5 94 "java/lang/ArithmeticException", Cond.initialized "java/lang/ArithmeticException", Cond.fieldLink RX5 26 "CountLearners" "states" "LCountLearners$HiddenStates;", Cond.constantLong RX5 88 (-2), Cond.methodLink RX5 154 yX1_isRow, Cond.static yX1_isRow, Cond.initialized RX1, Cond.code yX1_isRow cX1_isRow 1 (some .boolean), Cond.methodLink RX5 162 yX1_hasPlace, Cond.instanceMethod yX1_hasPlace, Cond.selects RX1 yX1_hasPlace yX1_hasPlace, Cond.code yX1_hasPlace cX1_hasPlace 3 (some .boolean), Cond.fieldLink RX1 21 "CountLearners$HiddenStates" "lengths" "[I", Cond.methodLink RX5 174 yX1_isState, Cond.static yX1_isState, Cond.code yX1_isState cX1_isState 1 (some .boolean), Cond.methodLink RX5 85 yX5_isSide, Cond.static yX5_isSide]
def wsL_at_r2 : List Cond := [Cond.code yX5_isSide cX5_isSide 1 (some .boolean), Cond.methodLink RX5 65 yX5_isWithin, Cond.static yX5_isWithin, Cond.code yX5_isWithin cX5_isWithin 3 (some .boolean), Cond.methodLink RX5 171 yX1_totalOf, Cond.instanceMethod yX1_totalOf, Cond.selects RX1 yX1_totalOf yX1_totalOf, Cond.code yX1_totalOf cX1_totalOf 2 (some .long), Cond.methodLink RX1 55 yX1_totalThrough, Cond.instanceMethod yX1_totalThrough, Cond.selects RX1 yX1_totalThrough yX1_totalThrough, Cond.code yX1_totalThrough cX1_totalThrough 7 (some .long), Cond.fieldLink RX1 24 "CountLearners$HiddenStates" "sums" "[J", Cond.fieldLink RX1 11 "CountLearners$HiddenStates" "weights" "[I", Cond.fieldLink RX1 28 "CountLearners$HiddenStates" "nextSums" "[J", Cond.methodLink RX1 59 yX1_shown, Cond.instanceMethod yX1_shown, Cond.selects RX1 yX1_shown yX1_shown, Cond.code yX1_shown cX1_shown 4 (some .int), Cond.fieldLink RX1 18 "CountLearners$HiddenStates" "signs" "[I", Cond.methodLink RX1 52 yX1_showAt, Cond.static yX1_showAt, Cond.code yX1_showAt cX1_showAt 2 (some .int), Cond.methodLink RX1 63 yX1_sumInto]
def wsL_at_r3 : List Cond := [Cond.instanceMethod yX1_sumInto, Cond.selects RX1 yX1_sumInto yX1_sumInto, Cond.code yX1_sumInto cX1_sumInto 5 (some .long), Cond.methodLink RX1 45 yX1_moveAt, Cond.static yX1_moveAt, Cond.code yX1_moveAt cX1_moveAt 2 (some .int), Cond.methodLink RX5 179 yX1_totalThrough, Cond.methodLink RX5 105 yX0_sideOf, Cond.static yX0_sideOf, Cond.initialized RX0, Cond.code yX0_sideOf cX0_sideOf 7 (some .long), Cond.methodLink RX0 7 yX0_commonDivisor, Cond.static yX0_commonDivisor, Cond.code yX0_commonDivisor cX0_commonDivisor 11 (some .long)]
def wsL_at : List Cond := .codeWith yL_at cL_at 7 (some .int) [(0, 13, 16, 13)] :: ((wsL_at_r1 ++ (wsL_at_r2 ++ wsL_at_r3)) ++ wsX50 ++ wsX10 ++ (vx_atS RX5 98 "java/lang/ArithmeticException" ["java/lang/RuntimeException", "java/lang/Exception"]).filter goodWord)
def wsL_law0_r1 : List Cond := [Cond.classLink RL 8 RX5, Cond.instantiable RX5 4, Cond.initialized RX5, Cond.classLink RL 20 RX6, Cond.instantiable RX6 25, Cond.initialized RX6, Cond.arrayClass .long, Cond.methodLink RL 19 yX5_init, Cond.instanceMethod yX5_init, Cond.code yX5_init cX5_init 1 none, Cond.methodLink RX5 1 objectInit, Cond.instanceMethod objectInit, Cond.code objectInit ⟨#[0xb1]⟩ 1 none, Cond.classLink RX5 7 RX2, Cond.instantiable RX2 10, Cond.initialized RX2, Cond.fieldLink RX5 10 "CountLearners" "rows" "LCountLearners$LabelledRows;", Cond.classLink RX5 16 RX3, Cond.instantiable RX3 5, Cond.initialized RX3, Cond.fieldLink RX5 19 "CountLearners" "tables" "LCountLearners$TextTables;", Cond.classLink RX5 23 RX1, Cond.instantiable RX1 8, Cond.initialized RX1]
def wsL_law0_r2 : List Cond := [Cond.fieldLink RX5 26 "CountLearners" "states" "LCountLearners$HiddenStates;", Cond.classLink RX5 30 RX4, Cond.instantiable RX4 4, Cond.initialized RX4, Cond.fieldLink RX5 33 "CountLearners" "rules" "LCountLearners$WordRules;", Cond.instanceMethod yX2_init, Cond.code yX2_init cX2_init 1 none, Cond.methodLink RX2 3 objectInit, Cond.arrayClass .int, Cond.fieldLink RX2 11 "CountLearners$LabelledRows" "labels" "[I", Cond.fieldLink RX2 15 "CountLearners$LabelledRows" "guesses" "[I", Cond.fieldLink RX2 18 "CountLearners$LabelledRows" "lengths" "[I", Cond.fieldLink RX2 21 "CountLearners$LabelledRows" "words" "[I", Cond.fieldLink RX2 24 "CountLearners$LabelledRows" "times" "[I", Cond.fieldLink RX2 27 "CountLearners$LabelledRows" "totals" "[I", Cond.fieldLink RX2 30 "CountLearners$LabelledRows" "sizes" "[I", Cond.fieldLink RX2 33 "CountLearners$LabelledRows" "rowCount" "I", Cond.fieldLink RX2 37 "CountLearners$LabelledRows" "addedUp" "I", Cond.fieldLink RX2 40 "CountLearners$LabelledRows" "addedDown" "I", Cond.instanceMethod yX3_init, Cond.code yX3_init cX3_init 1 none, Cond.methodLink RX3 3 objectInit, Cond.fieldLink RX3 11 "CountLearners$TextTables" "text" "[I", Cond.fieldLink RX3 15 "CountLearners$TextTables" "behind" "[I"]
def wsL_law0_r3 : List Cond := [Cond.fieldLink RX3 18 "CountLearners$TextTables" "uppers" "[J", Cond.fieldLink RX3 22 "CountLearners$TextTables" "lower" "J", Cond.fieldLink RX3 26 "CountLearners$TextTables" "textLength" "I", Cond.methodLink RX5 25 yX1_init, Cond.instanceMethod yX1_init, Cond.code yX1_init cX1_init 1 none, Cond.methodLink RX1 5 objectInit, Cond.fieldLink RX1 11 "CountLearners$HiddenStates" "weights" "[I", Cond.fieldLink RX1 15 "CountLearners$HiddenStates" "freshWeights" "[I", Cond.fieldLink RX1 18 "CountLearners$HiddenStates" "signs" "[I", Cond.fieldLink RX1 21 "CountLearners$HiddenStates" "lengths" "[I", Cond.fieldLink RX1 24 "CountLearners$HiddenStates" "sums" "[J", Cond.fieldLink RX1 28 "CountLearners$HiddenStates" "nextSums" "[J", Cond.fieldLink RX1 31 "CountLearners$HiddenStates" "bestFrom" "[J", Cond.fieldLink RX1 34 "CountLearners$HiddenStates" "bestPath" "[I", Cond.static yX5_setAll, Cond.code yX5_setAll cX5_setAll 3 none, Cond.instanceMethod yX4_init, Cond.code yX4_init cX4_init 1 none, Cond.methodLink RX4 3 objectInit, Cond.fieldLink RX4 11 "CountLearners$WordRules" "support" "[I", Cond.fieldLink RX4 15 "CountLearners$WordRules" "having" "[I", Cond.fieldLink RX4 18 "CountLearners$WordRules" "keys" "[I", Cond.fieldLink RX4 21 "CountLearners$WordRules" "ruleCount" "I"]
def wsL_law0_r4 : List Cond := [Cond.methodLink RL 22 yX6_init, Cond.instanceMethod yX6_init, Cond.code yX6_init cX6_init 2 none, Cond.methodLink RX6 1 objectInit, Cond.fieldLink RX6 7 "CountLearnersModel" "labels" "[I", Cond.fieldLink RX6 13 "CountLearnersModel" "guesses" "[I", Cond.fieldLink RX6 16 "CountLearnersModel" "comes" "[I", Cond.fieldLink RX6 19 "CountLearnersModel" "sizes" "[I", Cond.fieldLink RX6 22 "CountLearnersModel" "words" "[I", Cond.fieldLink RX6 25 "CountLearnersModel" "up" "I", Cond.fieldLink RX6 29 "CountLearnersModel" "down" "I", Cond.fieldLink RX6 32 "CountLearnersModel" "told" "[I", Cond.fieldLink RX6 35 "CountLearnersModel" "behind" "[I", Cond.fieldLink RX6 38 "CountLearnersModel" "shares" "[J", Cond.fieldLink RX6 42 "CountLearnersModel" "start" "[I", Cond.fieldLink RX6 45 "CountLearnersModel" "move" "[I", Cond.fieldLink RX6 48 "CountLearnersModel" "show" "[I", Cond.fieldLink RX6 51 "CountLearnersModel" "signs" "[I", Cond.fieldLink RX6 54 "CountLearnersModel" "many" "[I", Cond.fieldLink RX6 57 "CountLearnersModel" "bestPath" "[I", Cond.fieldLink RX6 60 "CountLearnersModel" "nextStart" "[I", Cond.fieldLink RX6 63 "CountLearnersModel" "nextMove" "[I", Cond.fieldLink RX6 66 "CountLearnersModel" "nextShow" "[I", Cond.methodLink RL 23 yX5_row]
def wsL_law0_r5 : List Cond := [Cond.instanceMethod yX5_row, Cond.selects RX5 yX5_row yX5_row, Cond.code yX5_row cX5_row 2 (some .int), Cond.methodLink RX5 37 yX5_isLabelOrNone, Cond.static yX5_isLabelOrNone, Cond.code yX5_isLabelOrNone cX5_isLabelOrNone 1 (some .boolean), Cond.methodLink RX5 73 yX5_isLabel, Cond.static yX5_isLabel, Cond.code yX5_isLabel cX5_isLabel 1 (some .boolean), Cond.methodLink RX5 65 yX5_isWithin, Cond.static yX5_isWithin, Cond.code yX5_isWithin cX5_isWithin 3 (some .boolean), Cond.methodLink RX5 41 yX2_isFull, Cond.instanceMethod yX2_isFull, Cond.selects RX2 yX2_isFull yX2_isFull, Cond.code yX2_isFull cX2_isFull 1 (some .boolean), Cond.methodLink RX5 45 yX2_open, Cond.instanceMethod yX2_open, Cond.selects RX2 yX2_open yX2_open, Cond.code yX2_open cX2_open 3 (some .int), Cond.methodLink RX2 43 yX2_startAnew, Cond.instanceMethod yX2_startAnew, Cond.selects RX2 yX2_startAnew yX2_startAnew, Cond.code yX2_startAnew cX2_startAnew 1 none]
def wsL_law0_r6 : List Cond := [Cond.methodLink RX2 76 yX2_tally, Cond.instanceMethod yX2_tally, Cond.selects RX2 yX2_tally yX2_tally, Cond.code yX2_tally cX2_tally 3 none, Cond.methodLink RX2 83 yX2_tallyRow, Cond.instanceMethod yX2_tallyRow, Cond.selects RX2 yX2_tallyRow yX2_tallyRow, Cond.code yX2_tallyRow cX2_tallyRow 4 none, Cond.methodLink RL 27 yX6_row, Cond.instanceMethod yX6_row, Cond.selects RX6 yX6_row yX6_row, Cond.code yX6_row cX6_row 2 (some .int), Cond.fieldLink RX6 69 "CountLearnersModel" "thrown" "I", Cond.fieldLink RX6 76 "CountLearnersModel" "rows" "I", Cond.methodLink RX6 83 yX6_mayBe, Cond.static yX6_mayBe, Cond.code yX6_mayBe cX6_mayBe 1 (some .boolean), Cond.methodLink RX6 79 yX6_within, Cond.static yX6_within, Cond.code yX6_within cX6_within 3 (some .boolean), Cond.methodLink RX6 87 yX6_forget, Cond.instanceMethod yX6_forget, Cond.selects RX6 yX6_forget yX6_forget, Cond.code yX6_forget cX6_forget 2 none]
def wsL_law0_r7 : List Cond := [Cond.methodLink RL 28 yX5_word, Cond.instanceMethod yX5_word, Cond.selects RX5 yX5_word yX5_word, Cond.code yX5_word cX5_word 3 (some .int), Cond.methodLink RX5 49 yX2_has, Cond.instanceMethod yX2_has, Cond.selects RX2 yX2_has yX2_has, Cond.code yX2_has cX2_has 2 (some .boolean), Cond.methodLink RX5 52 yX5_isWord, Cond.static yX5_isWord, Cond.code yX5_isWord cX5_isWord 1 (some .boolean), Cond.methodLink RX5 55 yX2_isFullRow, Cond.instanceMethod yX2_isFullRow, Cond.selects RX2 yX2_isFullRow yX2_isFullRow, Cond.code yX2_isFullRow cX2_isFullRow 2 (some .boolean), Cond.methodLink RX5 58 yX2_append, Cond.instanceMethod yX2_append, Cond.selects RX2 yX2_append yX2_append, Cond.code yX2_append cX2_append 3 (some .int), Cond.methodLink RL 32 yX6_word, Cond.instanceMethod yX6_word, Cond.selects RX6 yX6_word yX6_word, Cond.code yX6_word cX6_word 3 (some .int), Cond.methodLink RX6 90 yX6_isRow]
def wsL_law0_r8 : List Cond := [Cond.instanceMethod yX6_isRow, Cond.selects RX6 yX6_isRow yX6_isRow, Cond.code yX6_isRow cX6_isRow 2 (some .boolean), Cond.methodLink RL 33 yX5_label, Cond.instanceMethod yX5_label, Cond.selects RX5 yX5_label yX5_label, Cond.code yX5_label cX5_label 3 (some .int), Cond.methodLink RX5 62 yX2_relabel, Cond.instanceMethod yX2_relabel, Cond.selects RX2 yX2_relabel yX2_relabel, Cond.code yX2_relabel cX2_relabel 4 (some .int), Cond.methodLink RL 36 yX6_label, Cond.instanceMethod yX6_label, Cond.selects RX6 yX6_label yX6_label, Cond.code yX6_label cX6_label 4 (some .int), Cond.methodLink RL 37 yX5_addition, Cond.instanceMethod yX5_addition, Cond.selects RX5 yX5_addition yX5_addition, Cond.code yX5_addition cX5_addition 3 (some .int), Cond.methodLink RX5 69 yX2_setAddition, Cond.instanceMethod yX2_setAddition, Cond.selects RX2 yX2_setAddition yX2_setAddition, Cond.code yX2_setAddition cX2_setAddition 3 none, Cond.methodLink RL 40 yX6_addition]
def wsL_law0_r9 : List Cond := [Cond.instanceMethod yX6_addition, Cond.selects RX6 yX6_addition yX6_addition, Cond.code yX6_addition cX6_addition 3 (some .int), Cond.methodLink RL 41 yX5_counted, Cond.instanceMethod yX5_counted, Cond.selects RX5 yX5_counted yX5_counted, Cond.code yX5_counted cX5_counted 3 (some .int), Cond.methodLink RX5 76 yX2_timesIn, Cond.instanceMethod yX2_timesIn, Cond.selects RX2 yX2_timesIn yX2_timesIn, Cond.code yX2_timesIn cX2_timesIn 3 (some .int), Cond.methodLink RX5 79 yX2_wordsIn, Cond.instanceMethod yX2_wordsIn, Cond.selects RX2 yX2_wordsIn yX2_wordsIn, Cond.code yX2_wordsIn cX2_wordsIn 2 (some .int), Cond.methodLink RX5 82 yX2_rowsIn, Cond.instanceMethod yX2_rowsIn, Cond.selects RX2 yX2_rowsIn yX2_rowsIn, Cond.code yX2_rowsIn cX2_rowsIn 2 (some .int), Cond.methodLink RL 44 yX6_counted, Cond.instanceMethod yX6_counted, Cond.selects RX6 yX6_counted yX6_counted, Cond.code yX6_counted cX6_counted 3 (some .int), Cond.methodLink RX6 97 yX6_rowsOf]
def wsL_law0_r10 : List Cond := [Cond.instanceMethod yX6_rowsOf, Cond.selects RX6 yX6_rowsOf yX6_rowsOf, Cond.code yX6_rowsOf cX6_rowsOf 4 (some .int), Cond.methodLink RX6 93 yX6_asLabel, Cond.instanceMethod yX6_asLabel, Cond.selects RX6 yX6_asLabel yX6_asLabel, Cond.code yX6_asLabel cX6_asLabel 2 (some .int), Cond.methodLink RX6 100 yX6_timesOf, Cond.instanceMethod yX6_timesOf, Cond.selects RX6 yX6_timesOf yX6_timesOf, Cond.code yX6_timesOf cX6_timesOf 6 (some .int), Cond.methodLink RL 45 yL_share, Cond.static yL_share, Cond.initialized RL, Cond.codeWith yL_share cL_share 6 (some .int) [(0, 11, 14, 13)], Cond.classLink RL 13 "java/lang/ArithmeticException", Cond.methodLink RL 7 yX5_share, Cond.instanceMethod yX5_share, Cond.selects RX5 yX5_share yX5_share, Cond.code yX5_share cX5_share 6 (some .long), Cond.classLink RX5 94 "java/lang/ArithmeticException", Cond.initialized "java/lang/ArithmeticException", Cond.constantLong RX5 88 (-2), Cond.methodLink RX5 85 yX5_isSide]
def wsL_law0_r11 : List Cond := [Cond.static yX5_isSide, Cond.code yX5_isSide cX5_isSide 1 (some .boolean), Cond.methodLink RX5 90 yX2_shareLower, Cond.instanceMethod yX2_shareLower, Cond.selects RX2 yX2_shareLower yX2_shareLower, Cond.code yX2_shareLower cX2_shareLower 2 (some .long), Cond.constantLong RX2 50 (8), Cond.methodLink RX5 101 yX2_shareUpper, Cond.instanceMethod yX2_shareUpper, Cond.selects RX2 yX2_shareUpper yX2_shareUpper, Cond.code yX2_shareUpper cX2_shareUpper 3 (some .long), Cond.methodLink RX2 46 yX2_timesIn, Cond.methodLink RX5 105 yX0_sideOf, Cond.static yX0_sideOf, Cond.initialized RX0, Cond.code yX0_sideOf cX0_sideOf 7 (some .long), Cond.methodLink RX0 7 yX0_commonDivisor, Cond.static yX0_commonDivisor, Cond.code yX0_commonDivisor cX0_commonDivisor 11 (some .long), Cond.methodLink RL 50 yX6_share, Cond.instanceMethod yX6_share, Cond.selects RX6 yX6_share yX6_share, Cond.code yX6_share cX6_share 4 (some .long), Cond.constantLong RX6 106 (-2)]
def wsL_law0_r12 : List Cond := [Cond.methodLink RX6 108 yX6_shareBelow, Cond.instanceMethod yX6_shareBelow, Cond.selects RX6 yX6_shareBelow yX6_shareBelow, Cond.code yX6_shareBelow cX6_shareBelow 2 (some .long), Cond.constantLong RX6 104 (8), Cond.methodLink RX6 112 yX6_shareAbove, Cond.instanceMethod yX6_shareAbove, Cond.selects RX6 yX6_shareAbove yX6_shareAbove, Cond.code yX6_shareAbove cX6_shareAbove 3 (some .long), Cond.methodLink RX6 116 yX6_side, Cond.static yX6_side, Cond.code yX6_side cX6_side 7 (some .long), Cond.methodLink RX6 72 yX6_measure, Cond.static yX6_measure, Cond.code yX6_measure cX6_measure 10 (some .long), Cond.methodLink RL 51 yX6_thrown, Cond.instanceMethod yX6_thrown, Cond.selects RX6 yX6_thrown yX6_thrown, Cond.code yX6_thrown cX6_thrown 1 (some .int), Cond.methodLink RL 55 yX5_weight, Cond.instanceMethod yX5_weight, Cond.selects RX5 yX5_weight yX5_weight, Cond.code yX5_weight cX5_weight 4 (some .long), Cond.methodLink RX5 111 yX2_weightUpper]
def wsL_law0_r13 : List Cond := [Cond.instanceMethod yX2_weightUpper, Cond.selects RX2 yX2_weightUpper yX2_weightUpper, Cond.code yX2_weightUpper cX2_weightUpper 6 (some .long), Cond.methodLink RX2 52 yX2_shareUpper, Cond.methodLink RX5 114 yX2_weightLower, Cond.instanceMethod yX2_weightLower, Cond.selects RX2 yX2_weightLower yX2_weightLower, Cond.code yX2_weightLower cX2_weightLower 6 (some .long), Cond.methodLink RX2 56 yX2_shareLower, Cond.methodLink RL 58 yX6_weight, Cond.instanceMethod yX6_weight, Cond.selects RX6 yX6_weight yX6_weight, Cond.code yX6_weight cX6_weight 4 (some .long), Cond.fieldLink RX6 120 "CountLearnersModel" "weightAbove" "J", Cond.fieldLink RX6 124 "CountLearnersModel" "weightBelow" "J", Cond.methodLink RX6 127 yX6_weighRow, Cond.instanceMethod yX6_weighRow, Cond.selects RX6 yX6_weighRow yX6_weighRow, Cond.code yX6_weighRow cX6_weighRow 6 none, Cond.methodLink RL 59 yX5_best, Cond.instanceMethod yX5_best, Cond.selects RX5 yX5_best yX5_best, Cond.code yX5_best cX5_best 2 (some .int), Cond.methodLink RX5 117 yX2_bestLabel]
def wsL_law0_r14 : List Cond := [Cond.instanceMethod yX2_bestLabel, Cond.selects RX2 yX2_bestLabel yX2_bestLabel, Cond.code yX2_bestLabel cX2_bestLabel 12 (some .int), Cond.methodLink RX2 60 yX2_weightUpper, Cond.methodLink RX2 63 yX2_weightLower, Cond.methodLink RX2 66 yX0_isAbove, Cond.static yX0_isAbove, Cond.code yX0_isAbove cX0_isAbove 25 (some .boolean), Cond.methodLink RL 62 yX6_best, Cond.instanceMethod yX6_best, Cond.selects RX6 yX6_best yX6_best, Cond.code yX6_best cX6_best 2 (some .int), Cond.methodLink RX6 135 yX6_bestOf, Cond.instanceMethod yX6_bestOf, Cond.selects RX6 yX6_bestOf yX6_bestOf, Cond.code yX6_bestOf cX6_bestOf 8 (some .int), Cond.methodLink RX6 131 yX6_isAbove, Cond.static yX6_isAbove, Cond.code yX6_isAbove cX6_isAbove 23 (some .boolean), Cond.methodLink RL 63 yX5_rounds, Cond.instanceMethod yX5_rounds, Cond.selects RX5 yX5_rounds yX5_rounds, Cond.code yX5_rounds cX5_rounds 4 (some .int), Cond.methodLink RX5 120 yX2_guessAnew]
def wsL_law0_r15 : List Cond := [Cond.instanceMethod yX2_guessAnew, Cond.selects RX2 yX2_guessAnew yX2_guessAnew, Cond.code yX2_guessAnew cX2_guessAnew 4 (some .boolean), Cond.methodLink RX2 72 yX2_bestLabel, Cond.methodLink RL 66 yX6_rounds, Cond.instanceMethod yX6_rounds, Cond.selects RX6 yX6_rounds yX6_rounds, Cond.code yX6_rounds cX6_rounds 3 (some .int), Cond.methodLink RX6 138 yX6_round, Cond.instanceMethod yX6_round, Cond.selects RX6 yX6_round yX6_round, Cond.code yX6_round cX6_round 3 (some .boolean), Cond.methodLink RL 67 yX5_guess, Cond.instanceMethod yX5_guess, Cond.selects RX5 yX5_guess yX5_guess, Cond.code yX5_guess cX5_guess 2 (some .int), Cond.methodLink RX5 123 yX2_guessOf, Cond.instanceMethod yX2_guessOf, Cond.selects RX2 yX2_guessOf yX2_guessOf, Cond.code yX2_guessOf cX2_guessOf 2 (some .int), Cond.methodLink RL 70 yX6_guess, Cond.instanceMethod yX6_guess, Cond.selects RX6 yX6_guess yX6_guess, Cond.code yX6_guess cX6_guess 2 (some .int)]
def wsL_law0_r16 : List Cond := [Cond.methodLink RL 71 yX5_text, Cond.instanceMethod yX5_text, Cond.selects RX5 yX5_text yX5_text, Cond.code yX5_text cX5_text 2 (some .int), Cond.methodLink RX5 126 yX3_isFull, Cond.instanceMethod yX3_isFull, Cond.selects RX3 yX3_isFull yX3_isFull, Cond.code yX3_isFull cX3_isFull 1 (some .boolean), Cond.methodLink RX5 127 yX3_append, Cond.instanceMethod yX3_append, Cond.selects RX3 yX3_append yX3_append, Cond.code yX3_append cX3_append 2 (some .int), Cond.methodLink RL 74 yX6_text, Cond.instanceMethod yX6_text, Cond.selects RX6 yX6_text yX6_text, Cond.code yX6_text cX6_text 2 (some .int), Cond.fieldLink RX6 142 "CountLearnersModel" "length" "I", Cond.methodLink RL 75 yX5_next, Cond.instanceMethod yX5_next, Cond.selects RX5 yX5_next yX5_next, Cond.code yX5_next cX5_next 5 (some .long), Cond.methodLink RX5 129 yX5_isTable, Cond.static yX5_isTable, Cond.code yX5_isTable cX5_isTable 2 (some .boolean)]
def wsL_law0_r17 : List Cond := [Cond.methodLink RX5 133 yX3_fill, Cond.instanceMethod yX3_fill, Cond.selects RX3 yX3_fill yX3_fill, Cond.code yX3_fill cX3_fill 3 none, Cond.methodLink RX3 30 yX3_fillFirst, Cond.instanceMethod yX3_fillFirst, Cond.selects RX3 yX3_fillFirst yX3_fillFirst, Cond.code yX3_fillFirst cX3_fillFirst 2 none, Cond.methodLink RX3 33 yX3_countBehind, Cond.instanceMethod yX3_countBehind, Cond.selects RX3 yX3_countBehind yX3_countBehind, Cond.code yX3_countBehind cX3_countBehind 4 none, Cond.methodLink RX3 37 yX3_putAbove, Cond.instanceMethod yX3_putAbove, Cond.selects RX3 yX3_putAbove yX3_putAbove, Cond.code yX3_putAbove cX3_putAbove 6 none, Cond.methodLink RX3 44 yX3_takeCounts, Cond.instanceMethod yX3_takeCounts, Cond.selects RX3 yX3_takeCounts yX3_takeCounts, Cond.code yX3_takeCounts cX3_takeCounts 3 none, Cond.methodLink RX3 48 yX3_handDown, Cond.instanceMethod yX3_handDown, Cond.selects RX3 yX3_handDown yX3_handDown, Cond.code yX3_handDown cX3_handDown 6 none]
def wsL_law0_r18 : List Cond := [Cond.constantLong RX3 52 (2), Cond.methodLink RX5 136 yX3_upperOf, Cond.instanceMethod yX3_upperOf, Cond.selects RX3 yX3_upperOf yX3_upperOf, Cond.code yX3_upperOf cX3_upperOf 2 (some .long), Cond.methodLink RX5 139 yX3_lowerOfAll, Cond.instanceMethod yX3_lowerOfAll, Cond.selects RX3 yX3_lowerOfAll yX3_lowerOfAll, Cond.code yX3_lowerOfAll cX3_lowerOfAll 1 (some .long), Cond.methodLink RL 78 yX6_next, Cond.instanceMethod yX6_next, Cond.selects RX6 yX6_next yX6_next, Cond.code yX6_next cX6_next 5 (some .long), Cond.fieldLink RX6 145 "CountLearnersModel" "over" "J", Cond.methodLink RX6 160 yX6_isTable, Cond.static yX6_isTable, Cond.code yX6_isTable cX6_isTable 2 (some .boolean), Cond.methodLink RX6 164 yX6_table, Cond.instanceMethod yX6_table, Cond.selects RX6 yX6_table yX6_table, Cond.code yX6_table cX6_table 3 none, Cond.methodLink RX6 150 yX6_first, Cond.instanceMethod yX6_first, Cond.selects RX6 yX6_first yX6_first]
def wsL_law0_r19 : List Cond := [Cond.code yX6_first cX6_first 2 none, Cond.methodLink RX6 153 yX6_count, Cond.instanceMethod yX6_count, Cond.selects RX6 yX6_count yX6_count, Cond.code yX6_count cX6_count 5 (some .int), Cond.methodLink RX6 156 yX6_above, Cond.instanceMethod yX6_above, Cond.selects RX6 yX6_above yX6_above, Cond.code yX6_above cX6_above 6 none, Cond.constantLong RX6 148 (2), Cond.methodLink RL 79 yX5_likely, Cond.instanceMethod yX5_likely, Cond.selects RX5 yX5_likely yX5_likely, Cond.code yX5_likely cX5_likely 3 (some .int), Cond.methodLink RX5 143 yX3_greatest, Cond.instanceMethod yX3_greatest, Cond.selects RX3 yX3_greatest yX3_greatest, Cond.code yX3_greatest cX3_greatest 3 (some .int), Cond.methodLink RL 82 yX6_likely, Cond.instanceMethod yX6_likely, Cond.selects RX6 yX6_likely yX6_likely, Cond.code yX6_likely cX6_likely 5 (some .int), Cond.methodLink RL 83 yX5_weigh, Cond.instanceMethod yX5_weigh]
def wsL_law0_r20 : List Cond := [Cond.selects RX5 yX5_weigh yX5_weigh, Cond.code yX5_weigh cX5_weigh 6 (some .int), Cond.methodLink RX5 147 yX1_placeOf, Cond.static yX1_placeOf, Cond.code yX1_placeOf cX1_placeOf 3 (some .int), Cond.methodLink RX1 41 yX1_isState, Cond.static yX1_isState, Cond.code yX1_isState cX1_isState 1 (some .boolean), Cond.methodLink RX1 45 yX1_moveAt, Cond.static yX1_moveAt, Cond.code yX1_moveAt cX1_moveAt 2 (some .int), Cond.methodLink RX1 49 yX1_isSign, Cond.static yX1_isSign, Cond.code yX1_isSign cX1_isSign 1 (some .boolean), Cond.methodLink RX1 52 yX1_showAt, Cond.static yX1_showAt, Cond.code yX1_showAt cX1_showAt 2 (some .int), Cond.methodLink RX5 151 yX1_reweigh, Cond.instanceMethod yX1_reweigh, Cond.selects RX1 yX1_reweigh yX1_reweigh, Cond.code yX1_reweigh cX1_reweigh 4 (some .int), Cond.methodLink RL 87 yX6_weigh, Cond.instanceMethod yX6_weigh, Cond.selects RX6 yX6_weigh yX6_weigh]
def wsL_law0_r21 : List Cond := [Cond.code yX6_weigh cX6_weigh 7 (some .int), Cond.methodLink RL 88 yX5_sign, Cond.instanceMethod yX5_sign, Cond.selects RX5 yX5_sign yX5_sign, Cond.code yX5_sign cX5_sign 3 (some .int), Cond.methodLink RX5 154 yX1_isRow, Cond.static yX1_isRow, Cond.code yX1_isRow cX1_isRow 1 (some .boolean), Cond.methodLink RX5 157 yX1_isSign, Cond.methodLink RX5 160 yX1_isFullRow, Cond.instanceMethod yX1_isFullRow, Cond.selects RX1 yX1_isFullRow yX1_isFullRow, Cond.code yX1_isFullRow cX1_isFullRow 2 (some .boolean), Cond.methodLink RX5 161 yX1_append, Cond.instanceMethod yX1_append, Cond.selects RX1 yX1_append yX1_append, Cond.code yX1_append cX1_append 3 (some .int), Cond.methodLink RL 91 yX6_sign, Cond.instanceMethod yX6_sign, Cond.selects RX6 yX6_sign yX6_sign, Cond.code yX6_sign cX6_sign 3 (some .int), Cond.methodLink RL 92 yX5_path, Cond.instanceMethod yX5_path, Cond.selects RX5 yX5_path yX5_path]
def wsL_law0_r22 : List Cond := [Cond.code yX5_path cX5_path 3 (some .int), Cond.methodLink RX5 162 yX1_hasPlace, Cond.instanceMethod yX1_hasPlace, Cond.selects RX1 yX1_hasPlace yX1_hasPlace, Cond.code yX1_hasPlace cX1_hasPlace 3 (some .boolean), Cond.methodLink RX5 165 yX1_findBestPath, Cond.instanceMethod yX1_findBestPath, Cond.selects RX1 yX1_findBestPath yX1_findBestPath, Cond.code yX1_findBestPath cX1_findBestPath 7 (some .boolean), Cond.methodLink RX1 67 yX1_bestOnward, Cond.instanceMethod yX1_bestOnward, Cond.selects RX1 yX1_bestOnward yX1_bestOnward, Cond.code yX1_bestOnward cX1_bestOnward 5 (some .int), Cond.methodLink RX1 70 yX1_weightOnward, Cond.instanceMethod yX1_weightOnward, Cond.selects RX1 yX1_weightOnward yX1_weightOnward, Cond.code yX1_weightOnward cX1_weightOnward 4 (some .long), Cond.methodLink RX1 59 yX1_shown, Cond.instanceMethod yX1_shown, Cond.selects RX1 yX1_shown yX1_shown, Cond.code yX1_shown cX1_shown 4 (some .int), Cond.methodLink RX1 73 yX1_bestStart, Cond.instanceMethod yX1_bestStart, Cond.selects RX1 yX1_bestStart yX1_bestStart]
def wsL_law0_r23 : List Cond := [Cond.code yX1_bestStart cX1_bestStart 3 (some .int), Cond.methodLink RX5 168 yX1_stateOnBestPath, Cond.instanceMethod yX1_stateOnBestPath, Cond.selects RX1 yX1_stateOnBestPath yX1_stateOnBestPath, Cond.code yX1_stateOnBestPath cX1_stateOnBestPath 2 (some .int), Cond.methodLink RL 95 yX6_path, Cond.instanceMethod yX6_path, Cond.selects RX6 yX6_path yX6_path, Cond.code yX6_path cX6_path 4 (some .int), Cond.methodLink RX6 177 yX6_bestPathOf, Cond.instanceMethod yX6_bestPathOf, Cond.selects RX6 yX6_bestPathOf yX6_bestPathOf, Cond.code yX6_bestPathOf cX6_bestPathOf 8 (some .int), Cond.methodLink RX6 171 yX6_paths, Cond.instanceMethod yX6_paths, Cond.selects RX6 yX6_paths yX6_paths, Cond.code yX6_paths cX6_paths 2 (some .int), Cond.methodLink RX6 174 yX6_weighPath, Cond.instanceMethod yX6_weighPath, Cond.selects RX6 yX6_weighPath yX6_weighPath, Cond.code yX6_weighPath cX6_weighPath 7 (some .long), Cond.methodLink RX6 167 yX6_stateOf, Cond.instanceMethod yX6_stateOf, Cond.selects RX6 yX6_stateOf yX6_stateOf]
def wsL_law0_r24 : List Cond := [Cond.code yX6_stateOf cX6_stateOf 4 (some .int), Cond.methodLink RL 96 yX5_total, Cond.instanceMethod yX5_total, Cond.selects RX5 yX5_total yX5_total, Cond.code yX5_total cX5_total 2 (some .long), Cond.methodLink RX5 171 yX1_totalOf, Cond.instanceMethod yX1_totalOf, Cond.selects RX1 yX1_totalOf yX1_totalOf, Cond.code yX1_totalOf cX1_totalOf 2 (some .long), Cond.methodLink RX1 55 yX1_totalThrough, Cond.instanceMethod yX1_totalThrough, Cond.selects RX1 yX1_totalThrough yX1_totalThrough, Cond.code yX1_totalThrough cX1_totalThrough 7 (some .long), Cond.methodLink RX1 63 yX1_sumInto, Cond.instanceMethod yX1_sumInto, Cond.selects RX1 yX1_sumInto yX1_sumInto, Cond.code yX1_sumInto cX1_sumInto 5 (some .long), Cond.methodLink RL 100 yX6_total, Cond.instanceMethod yX6_total, Cond.selects RX6 yX6_total yX6_total, Cond.code yX6_total cX6_total 2 (some .long), Cond.methodLink RX6 180 yX6_sum, Cond.instanceMethod yX6_sum, Cond.selects RX6 yX6_sum yX6_sum]
def wsL_law0_r25 : List Cond := [Cond.code yX6_sum cX6_sum 7 (some .long), Cond.methodLink RL 101 yL_at, Cond.static yL_at, Cond.codeWith yL_at cL_at 7 (some .int) [(0, 13, 16, 13)], Cond.methodLink RL 15 yX5_at, Cond.instanceMethod yX5_at, Cond.selects RX5 yX5_at yX5_at, Cond.code yX5_at cX5_at 7 (some .long), Cond.methodLink RX5 174 yX1_isState, Cond.methodLink RX5 179 yX1_totalThrough, Cond.methodLink RL 104 yX6_at, Cond.instanceMethod yX6_at, Cond.selects RX6 yX6_at yX6_at, Cond.code yX6_at cX6_at 7 (some .long), Cond.methodLink RL 105 yX5_learn, Cond.instanceMethod yX5_learn, Cond.selects RX5 yX5_learn yX5_learn, Cond.code yX5_learn cX5_learn 4 (some .int), Cond.methodLink RX5 183 yX1_weighAnew, Cond.instanceMethod yX1_weighAnew, Cond.selects RX1 yX1_weighAnew yX1_weighAnew, Cond.code yX1_weighAnew cX1_weighAnew 3 (some .boolean), Cond.methodLink RX1 77 yX1_findBestPath, Cond.methodLink RX1 80 yX1_countBestPath]
def wsL_law0_r26 : List Cond := [Cond.instanceMethod yX1_countBestPath, Cond.selects RX1 yX1_countBestPath yX1_countBestPath, Cond.code yX1_countBestPath cX1_countBestPath 3 none, Cond.methodLink RL 108 yX6_learn, Cond.instanceMethod yX6_learn, Cond.selects RX6 yX6_learn yX6_learn, Cond.code yX6_learn cX6_learn 3 (some .int), Cond.methodLink RX6 187 yX6_learnt, Cond.instanceMethod yX6_learnt, Cond.selects RX6 yX6_learnt yX6_learnt, Cond.code yX6_learnt cX6_learnt 3 (some .boolean), Cond.methodLink RX6 184 yX6_countPath, Cond.instanceMethod yX6_countPath, Cond.selects RX6 yX6_countPath yX6_countPath, Cond.code yX6_countPath cX6_countPath 5 none, Cond.methodLink RL 109 yX5_rule, Cond.instanceMethod yX5_rule, Cond.selects RX5 yX5_rule yX5_rule, Cond.code yX5_rule cX5_rule 3 (some .int), Cond.methodLink RX5 186 yX4_gather, Cond.instanceMethod yX4_gather, Cond.selects RX4 yX4_gather yX4_gather, Cond.code yX4_gather cX4_gather 3 none, Cond.methodLink RX4 35 yX2_size]
def wsL_law0_r27 : List Cond := [Cond.instanceMethod yX2_size, Cond.selects RX2 yX2_size yX2_size, Cond.code yX2_size cX2_size 1 (some .int), Cond.methodLink RX4 41 yX2_wordSet, Cond.instanceMethod yX2_wordSet, Cond.selects RX2 yX2_wordSet yX2_wordSet, Cond.code yX2_wordSet cX2_wordSet 4 (some .int), Cond.methodLink RX4 45 yX4_countSet, Cond.instanceMethod yX4_countSet, Cond.selects RX4 yX4_countSet yX4_countSet, Cond.code yX4_countSet cX4_countSet 3 none, Cond.methodLink RX4 55 yX4_countPairs, Cond.instanceMethod yX4_countPairs, Cond.selects RX4 yX4_countPairs yX4_countPairs, Cond.code yX4_countPairs cX4_countPairs 4 none, Cond.methodLink RX4 49 yX4_keyOf, Cond.instanceMethod yX4_keyOf, Cond.selects RX4 yX4_keyOf yX4_keyOf, Cond.code yX4_keyOf cX4_keyOf 3 (some .int), Cond.methodLink RX4 52 yX4_insert, Cond.instanceMethod yX4_insert, Cond.selects RX4 yX4_insert yX4_insert, Cond.code yX4_insert cX4_insert 3 none, Cond.methodLink RX5 190 yX4_has]
def wsL_law0_r28 : List Cond := [Cond.instanceMethod yX4_has, Cond.selects RX4 yX4_has yX4_has, Cond.code yX4_has cX4_has 2 (some .boolean), Cond.methodLink RX5 191 yX4_partOf, Cond.instanceMethod yX4_partOf, Cond.selects RX4 yX4_partOf yX4_partOf, Cond.code yX4_partOf cX4_partOf 5 (some .int), Cond.methodLink RX4 25 yX0_sideOf, Cond.methodLink RL 112 yX6_rule, Cond.instanceMethod yX6_rule, Cond.selects RX6 yX6_rule yX6_rule, Cond.code yX6_rule cX6_rule 5 (some .int), Cond.methodLink RX6 202 yX6_rules, Cond.instanceMethod yX6_rules, Cond.selects RX6 yX6_rules yX6_rules, Cond.code yX6_rules cX6_rules 3 (some .int), Cond.methodLink RX6 196 yX6_isRule, Cond.instanceMethod yX6_isRule, Cond.selects RX6 yX6_isRule yX6_isRule, Cond.code yX6_isRule cX6_isRule 2 (some .boolean), Cond.methodLink RX6 193 yX6_support, Cond.instanceMethod yX6_support, Cond.selects RX6 yX6_support yX6_support, Cond.code yX6_support cX6_support 5 (some .int)]
def wsL_law0_r29 : List Cond := [Cond.methodLink RX6 190 yX6_has, Cond.instanceMethod yX6_has, Cond.selects RX6 yX6_has yX6_has, Cond.code yX6_has cX6_has 5 (some .boolean), Cond.methodLink RX6 206 yX6_ruleAt, Cond.instanceMethod yX6_ruleAt, Cond.selects RX6 yX6_ruleAt yX6_ruleAt, Cond.code yX6_ruleAt cX6_ruleAt 5 (some .int), Cond.methodLink RX6 199 yX6_isAhead, Cond.instanceMethod yX6_isAhead, Cond.selects RX6 yX6_isAhead yX6_isAhead, Cond.code yX6_isAhead cX6_isAhead 7 (some .boolean), Cond.methodLink RL 113 yX5_count, Cond.instanceMethod yX5_count, Cond.selects RX5 yX5_count yX5_count, Cond.code yX5_count cX5_count 2 (some .int), Cond.methodLink RX5 194 yX2_size, Cond.methodLink RX5 197 yX2_labelledRows, Cond.instanceMethod yX2_labelledRows, Cond.selects RX2 yX2_labelledRows yX2_labelledRows, Cond.code yX2_labelledRows cX2_labelledRows 3 (some .int), Cond.methodLink RX5 200 yX3_length, Cond.instanceMethod yX3_length, Cond.selects RX3 yX3_length yX3_length]
def wsL_law0_r30 : List Cond := [Cond.code yX3_length cX3_length 1 (some .int), Cond.methodLink RX5 203 yX4_size, Cond.instanceMethod yX4_size, Cond.selects RX4 yX4_size yX4_size, Cond.code yX4_size cX4_size 1 (some .int), Cond.methodLink RX5 204 yX1_signsOfAll, Cond.instanceMethod yX1_signsOfAll, Cond.selects RX1 yX1_signsOfAll yX1_signsOfAll, Cond.code yX1_signsOfAll cX1_signsOfAll 3 (some .int), Cond.methodLink RL 116 yX6_count_, Cond.instanceMethod yX6_count_, Cond.selects RX6 yX6_count_ yX6_count_, Cond.code yX6_count_ cX6_count_ 4 (some .int)]
end
section
/-! my own base: contracts of one form, the ways in and out of a walk, calls, and the mirror's small words -/
abbrev vwK : List vw_C := [(RX1, TX1, 8), (RX2, TX2, 10), (RX3, TX3, 5), (RX4, TX4, 4), (RX5, TX5, 4), (RX6, TX6, 25)]
abbrev tyA (cI cJ : ClassId) : List (ClassId × FieldType) := [(cI, .int), (cJ, .long)]
abbrev hostN : String := "CountLearners"
def NW (U : State) : Prop := va_Nw (.methodLinkNest RX1 37 yX5_setAll hostN) U ∧ va_Nw (.methodLinkNest RX2 79 yX5_setAll hostN) U ∧ va_Nw (.methodLinkNest RX3 40 yX5_setAll hostN) U ∧ va_Nw (.methodLinkNest RX4 31 yX5_setAll hostN) U
theorem NW.same {u U : State} (h : u.vm = U.vm) (n : NW u) : NW U := ⟨n.1.same rfl h, n.2.1.same rfl h, n.2.2.1.same rfl h, n.2.2.2.same rfl h⟩
theorem NW.warm {u U : State} (h : u.WarmedH U.vm) (n : NW u) : NW U := ⟨n.1.warmM h, n.2.1.warmM h, n.2.2.1.warmM h, n.2.2.2.warmM h⟩
def KN (D : va_G) (cI cJ : ClassId) (U : State) : Prop := va_K D vwK (tyA cI cJ) U ∧ NW U
def PRE (D : va_G) (cI cJ : ClassId) (sz : Nat) (ws : va_W) (U : State) : Prop := U.heap.size = sz ∧ va_P D vwK ws U.heap ∧ KN D cI cJ U ∧ va_D (fun _ => True) ws
def AFT (D : va_G) (ws ws' : va_W) (sz : Nat) (_ : Unit) (t : State) : Prop := va_P D vwK ws' t.heap ∧ va_D (va_A ws sz) ws'
abbrev rmOf (fr lo : Nat) : Room := { frames := fr, cells := 0, slots := 0, locals := lo }
abbrev QV (D : va_G) (ws ws' : va_W) (sz : Nat) : Array Value → State → Outcome → State → Prop := va_Qv (fun _ : Unit => True) (AFT D ws ws' sz) (va_A ws sz)
abbrev QI (D : va_G) (ws ws' : va_W) (sz : Nat) (r : Int32) : Array Value → State → Outcome → State → Prop := va_Qi (fun (x : Int32) (_ : Unit) => x = r) (AFT D ws ws' sz) (va_A ws sz)
abbrev QL (D : va_G) (ws ws' : va_W) (sz : Nat) (r : Int64) : Array Value → State → Outcome → State → Prop := va_Ql (fun (x : Int64) (_ : Unit) => x = r) (AFT D ws ws' sz) (va_A ws sz)
def CV (l : Launch) (D : va_G) (cI cJ : ClassId) (y : MethodName) (wl : List Cond) (fr lo : Nat) (av : List Value) (ws ws' : va_W) : Prop := ∀ sz : Nat, Met l y wl (rmOf fr lo) (va_Pc av (PRE D cI cJ sz ws)) (QV D ws ws' sz) 0 0 (va_A ws sz)
def CI (l : Launch) (D : va_G) (cI cJ : ClassId) (y : MethodName) (wl : List Cond) (fr lo : Nat) (av : List Value) (ws ws' : va_W) (r : Int32) : Prop := ∀ sz : Nat, Met l y wl (rmOf fr lo) (va_Pc av (PRE D cI cJ sz ws)) (QI D ws ws' sz r) 0 0 (va_A ws sz)
def CL (l : Launch) (D : va_G) (cI cJ : ClassId) (y : MethodName) (wl : List Cond) (fr lo : Nat) (av : List Value) (ws ws' : va_W) (r : Int64) : Prop := ∀ sz : Nat, Met l y wl (rmOf fr lo) (va_Pc av (PRE D cI cJ sz ws)) (QL D ws ws' sz r) 0 0 (va_A ws sz)
theorem PRE_blind (av : List Value) (D : va_G) (cI cJ : ClassId) (sz : Nat) (ws : va_W) : FrameBlind (va_Pc av (PRE D cI cJ sz ws)) := by
  intro a U g mk q
  obtain ⟨q0, q1, q2, q3, q4⟩ := q
  exact ⟨q0, q1, q2, ⟨va_K.moved (u := U) (U := U.calling g mk a) (Vm.Alike.refl U.vm) q3.1, q3.2.same rfl⟩, q4⟩
theorem PRE_at {s : State} {D : va_G} {cI cJ : ClassId} {ws : va_W} {H : Heap} {A : Nat → Prop} (av : List Value) (hK : KN D cI cJ s) (hP : va_P D vwK ws H) (hD : va_D A ws) : ∀ U : State, U.heap = H → s.WarmedH U.vm → va_Pc av (PRE D cI cJ H.size ws) av.toArray U := by
  intro U hU hW
  exact ⟨rfl, by rw [hU], by rw [hU]; exact hP, ⟨va_K.moved hW.alike hK.1, hK.2.warm hW⟩, hD.weaken (fun _ _ _ _ => trivial)⟩
theorem fm_of_map {α : Type} {f : Nat → Option α} : ∀ {is : List Nat} {w : List α}, is.map f = w.map some → is.filterMap f = w
  | [], [], _ => rfl
  | [], _ :: _, h => by simp at h
  | _ :: _, [], h => by simp at h
  | i :: is, x :: w, h => by
    simp only [List.map_cons, List.cons.injEq] at h
    rw [List.filterMap_cons, h.1, fm_of_map h.2]
section Enter
variable {l : Launch} {D : va_G} {cI cJ : ClassId} {y : MethodName} {wl wl' : List Cond} {fr lo : Nat} {av : List Value} {ws ws' : va_W} {cc : ByteArray} {maxL : Nat} {ret : Option FieldType}
/-- what a walk begins with -/
def Ctx (p : Program) (e : Env) (s : State) (m : MethodId) (meth : Method) (c : Code) (D : va_G) (cI cJ : ClassId) (y : MethodName) (wl : List Cond) (av : List Value) (ws : va_W) (cc : ByteArray) (maxL : Nat) (ret : Option FieldType) (A : Nat → Prop) (ls : Array Slot) : Prop :=
  p.tables.exec = Jvm.exec ∧ c.code = cc ∧ meth.sig.returnType = ret ∧ c.maxLocals = maxL ∧ (∀ w ∈ wl, w.before av.toArray s = true) ∧ s.vm.findClass y.cls = some m.cls ∧ meth.locks = false ∧ KN D cI cJ s ∧ (∀ q : Nat, s.heap.size ≤ q → A q) ∧ va_P D vwK ws s.heap ∧ va_D A ws ∧ va_S A s.heap s.heap [] ∧ lv_has ls maxL (lv_args 0 av) ∧ meth.name = y.name
theorem entW {Qc : Nat → Array Value → State → Outcome → State → Prop} (hy : plainName y.cls = true) (hw : wl = Cond.code y cc maxL ret :: wl') (hn : (lg_sl av).length ≤ maxL)
    (body : ∀ (p : Program) (e : Env) (s : State) (m : MethodId) (below : List Frame) (meth : Method) (c : Code) (ls : Array Slot), Ctx p e s m meth c D cI cJ y wl av ws cc maxL ret (va_A ws s.heap.size) ls →
      W p l e (rmOf fr lo) s m av.toArray below meth c s.heap [] 0 0 (MQ below (Qc s.heap.size) av.toArray s 0 0 (va_A ws s.heap.size)) (F0 m 0 ls [])) (sz : Nat) :
    Met l y wl (rmOf fr lo) (va_Pc av (PRE D cI cJ sz ws)) (Qc sz) 0 0 (va_A ws sz) := by
  refine Met.ofW (cc := cc) (maxL := maxL) (ret := ret) hy hw ?_
  intro p e s m args below meth c s₁ B hml hv
  obtain ⟨rfl, hsz, hP, hK, hD0⟩ := hv
  subst hsz
  have hl := lv_entry av (n := maxL) hn
  rw [lg_entry_eq]
  exact body p e s m below meth c _ ⟨B.exec, B.bytes, B.returns, hml, atoms_spec (ws := wl) B.pre, findClass_of_methodNamed B.named, B.notSynchronized, hK, fun q h => Or.inr h, hP, hD0.self, va_S.rf, hl, (name_of_methodNamed B.named B.method).1⟩
end Enter
section Leave
variable {p : Program} {l : Launch} {e : Env} {R : Room} {s : State} {m : MethodId} {args : Array Value} {below : List Frame} {meth : Method} {c : Code} {H : Heap} {locs : List Loc} {D : va_G} {ws ws' : va_W} {cc : ByteArray} {pc : Nat} {ls : Array Slot}
theorem retV (hx : p.tables.exec = Jvm.exec) (hb : c.code = cc) (hr : meth.sig.returnType = none) (hlk : meth.locks = false) (hP : va_P D vwK ws' H) (hD : va_D (va_A ws s.heap.size) ws') (hS : va_S (va_A ws s.heap.size) s.heap H locs) (hdg : decode cc pc = .ok (.return_, 1)) :
    W p l e R s m args below meth c H locs 0 0 (MQ below (QV D ws ws' s.heap.size) args s 0 0 (va_A ws s.heap.size)) (F0 m pc ls []) :=
  W.vret hx hb hr (fun t ht hW => ⟨⟨(), rfl, trivial, by rw [ht]; exact hP, hD⟩, hS.F ht⟩) hS.2.2 hdg hlk
theorem retI {r : Int32} (hx : p.tables.exec = Jvm.exec) (hb : c.code = cc) (hr : meth.sig.returnType = some .int) (hlk : meth.locks = false) (hP : va_P D vwK ws' H) (hD : va_D (va_A ws s.heap.size) ws') (hS : va_S (va_A ws s.heap.size) s.heap H locs) (hdg : decode cc pc = .ok (.ireturn, 1)) :
    W p l e R s m args below meth c H locs 0 0 (MQ below (QI D ws ws' s.heap.size r) args s 0 0 (va_A ws s.heap.size)) (F0 m pc ls [.int r]) :=
  W.iret (v := r) hx hb hr (fun t ht hW => ⟨⟨r, (), rfl, rfl, by rw [ht]; exact hP, hD⟩, hS.F ht⟩) hS.2.2 hdg hlk
theorem retZ {r : Int32} (hx : p.tables.exec = Jvm.exec) (hb : c.code = cc) (hr : meth.sig.returnType = some .boolean) (hlk : meth.locks = false) (hP : va_P D vwK ws' H) (hD : va_D (va_A ws s.heap.size) ws') (hS : va_S (va_A ws s.heap.size) s.heap H locs) (hz : r = 0 ∨ r = 1) (hdg : decode cc pc = .ok (.ireturn, 1)) :
    W p l e R s m args below meth c H locs 0 0 (MQ below (QI D ws ws' s.heap.size r) args s 0 0 (va_A ws s.heap.size)) (F0 m pc ls [.int r]) :=
  W.zret (v := r) (ty := .boolean) hx hb hr (by rcases hz with rfl | rfl <;> rfl) (fun t ht hW => ⟨⟨r, (), rfl, rfl, by rw [ht]; exact hP, hD⟩, hS.F ht⟩) hS.2.2 hdg hlk
theorem retL {r : Int64} (hx : p.tables.exec = Jvm.exec) (hb : c.code = cc) (hr : meth.sig.returnType = some .long) (hlk : meth.locks = false) (hP : va_P D vwK ws' H) (hD : va_D (va_A ws s.heap.size) ws') (hS : va_S (va_A ws s.heap.size) s.heap H locs) (hdg : decode cc pc = .ok (.lreturn, 1)) :
    W p l e R s m args below meth c H locs 0 0 (MQ below (QL D ws ws' s.heap.size r) args s 0 0 (va_A ws s.heap.size)) (F0 m pc ls [.long r]) :=
  W.lret (v := r) hx hb hr (fun t ht hW => ⟨⟨r, (), rfl, rfl, by rw [ht]; exact hP, hD⟩, hS.F ht⟩) hS.2.2 hdg hlk
end Leave
section Call
variable {p : Program} {l : Launch} {e : Env} {R : Room} {s : State} {m : MethodId} {args : Array Value} {below : List Frame} {meth : Method} {c : Code} {H : Heap} {locs : List Loc} {cells slots : Nat} {Q : State → Prop} {D : va_G} {cI cJ : ClassId} {A : Nat → Prop}
  {ws wc wc' wr ws2 : va_W} {y : MethodName} {bytes cc : ByteArray} {maxL nL n index : Nat} {ret : Option FieldType} {wl Ts : List Cond} {fr lo : Nat} {own C : String} {b : Addr} {As rest st0 : List Value} {pc : Nat} {ls : Array Slot} {r : Int32} {rl : Int64}
/-- the places of a callee's cells and of the rest, and how they go together again -/
def Cut (ws wc wc' ws2 : va_W) (isC isR is2 : List Nat) : Prop :=
  ∃ wr : va_W, isC.map (fun i => ws[i]?) = wc.map some ∧ va_nd isC = true ∧ isR.map (fun i => ws[i]?) = wr.map some ∧ va_nd isR = true ∧ (∀ i ∈ isR, i ∉ isC) ∧ is2.map (fun i => (wr ++ wc')[i]?) = ws2.map some ∧ va_nd is2 = true
theorem Cut.pp {isC isR is2 : List Nat} (k : Cut ws wc wc' ws2 isC isR is2) (hP : va_P D vwK ws H) : va_P D vwK wc H := by
  obtain ⟨wr, h1, -⟩ := k
  exact hP.sub isC (fm_of_map h1)
theorem Cut.dd {isC isR is2 : List Nat} (k : Cut ws wc wc' ws2 isC isR is2) (hD : va_D A ws) : va_D A wc := by
  obtain ⟨wr, h1, h2, -⟩ := k
  exact hD.sub isC h2 h1
theorem Cut.free {isC isR is2 : List Nat} (k : Cut ws wc wc' ws2 isC isR is2) (hD : va_D A ws) (hS : va_S A s.heap H locs) (hA : ∀ q, s.heap.size ≤ q → A q) : ∀ q, va_A wc H.size q → A q := by
  obtain ⟨wr, h1, -⟩ := k
  exact va_free hD hS hA isC h1
theorem Cut.join {isC isR is2 : List Nat} {H1 : Heap} (k : Cut ws wc wc' ws2 isC isR is2) (hP : va_P D vwK ws H) (hD : va_D A ws) (hS : va_S A s.heap H locs) (hA : ∀ q, s.heap.size ≤ q → A q) (hk : ∀ q : Nat, q < H.size → ¬ va_A wc H.size q → H1[q]? = H[q]?) (hP1 : va_P D vwK wc' H1) (hD1 : va_D (va_A wc H.size) wc') : va_P D vwK ws2 H1 ∧ va_D A ws2 := by
  have hF := k.free hD hS hA
  obtain ⟨wr, h1, -, h3, h4, h5, h6, h7⟩ := k
  obtain ⟨j1, j2⟩ := va_join hP hD isC isR h1 h3 h4 h5 hk hF hP1 hD1
  exact ⟨j1.sub is2 (fm_of_map h6), j2.sub is2 h7 h6⟩
theorem callVi (fx : CallFix p m c cc nL s args Ts own) (hC : CI l D cI cJ y wl fr lo (.ref b :: As) wc wc' r) (cw : CallW R s args own C index y bytes maxL ret wl (rmOf fr lo) 0 0 n) (hK : KN D cI cJ s) (hP : va_P D vwK ws H) (hD : va_D A ws) (hS : va_S A s.heap H locs) (hA : ∀ q, s.heap.size ≤ q → A q)
    (isC isR is2 : List Nat) (k : Cut ws wc wc' ws2 isC isR is2) (q0 ci : Nat) {cq : vw_C} {fs : List Value} (hc : vwK[ci]? = some cq) (he : wc[q0]? = some (b, .inr (ci, fs))) (hq : cq.1 = C) (hn : As.length = n) (hsize : ls.size = nL) (hst : st0 = As.reverse ++ .ref b :: rest) (hW : (rest.map fun v => v.category).sum ≤ 8) (hdg : decode cc pc = .ok (.invokevirtual index, 3)) (hcap : cells ≤ R.cells ∧ slots ≤ R.slots)
    (kk : ∀ (H : Heap) (locs : List Loc), va_P D vwK ws2 H → va_D A ws2 → va_S A s.heap H locs → W p l e R s m args below meth c H locs cells slots Q (F0 m (pc + 3) ls (.int r :: rest))) : W p l e R s m args below meth c H locs cells slots Q (F0 m pc ls st0) := by
  subst hq hst
  refine va_calli (va_runV (As := As) (rest := rest) fx (hC H.size) cw ⟨PRE_blind _ _ _ _ _ _, va_recv hK.1 (k.pp hP) hc he, PRE_at _ hK (k.pp hP) (k.dd hD)⟩ rfl hn hsize rfl (lv_room hW) hdg hcap) hS (fun q _ h => k.free hD hS hA q h) (k.free hD hS hA) (fun r1 u t H1 locs1 ht hvm hw hB hz1 hk1 hS1 => ?_)
  obtain ⟨hP1, hD1⟩ := hB
  rw [ht] at hP1
  subst hw
  obtain ⟨j1, j2⟩ := k.join hP hD hS hA hk1 hP1 hD1
  exact kk H1 locs1 j1 j2 hS1
theorem callVl (fx : CallFix p m c cc nL s args Ts own) (hC : CL l D cI cJ y wl fr lo (.ref b :: As) wc wc' rl) (cw : CallW R s args own C index y bytes maxL ret wl (rmOf fr lo) 0 0 n) (hK : KN D cI cJ s) (hP : va_P D vwK ws H) (hD : va_D A ws) (hS : va_S A s.heap H locs) (hA : ∀ q, s.heap.size ≤ q → A q)
    (isC isR is2 : List Nat) (k : Cut ws wc wc' ws2 isC isR is2) (q0 ci : Nat) {cq : vw_C} {fs : List Value} (hc : vwK[ci]? = some cq) (he : wc[q0]? = some (b, .inr (ci, fs))) (hq : cq.1 = C) (hn : As.length = n) (hsize : ls.size = nL) (hst : st0 = As.reverse ++ .ref b :: rest) (hW : (rest.map fun v => v.category).sum ≤ 8) (hdg : decode cc pc = .ok (.invokevirtual index, 3)) (hcap : cells ≤ R.cells ∧ slots ≤ R.slots)
    (kk : ∀ (H : Heap) (locs : List Loc), va_P D vwK ws2 H → va_D A ws2 → va_S A s.heap H locs → W p l e R s m args below meth c H locs cells slots Q (F0 m (pc + 3) ls (.long rl :: rest))) : W p l e R s m args below meth c H locs cells slots Q (F0 m pc ls st0) := by
  subst hq hst
  refine va_calll (va_runV (As := As) (rest := rest) fx (hC H.size) cw ⟨PRE_blind _ _ _ _ _ _, va_recv hK.1 (k.pp hP) hc he, PRE_at _ hK (k.pp hP) (k.dd hD)⟩ rfl hn hsize rfl (lv_room hW) hdg hcap) hS (fun q _ h => k.free hD hS hA q h) (k.free hD hS hA) (fun r1 u t H1 locs1 ht hvm hw hB hz1 hk1 hS1 => ?_)
  obtain ⟨hP1, hD1⟩ := hB
  rw [ht] at hP1
  subst hw
  obtain ⟨j1, j2⟩ := k.join hP hD hS hA hk1 hP1 hD1
  exact kk H1 locs1 j1 j2 hS1
theorem callVv (fx : CallFix p m c cc nL s args Ts own) (hC : CV l D cI cJ y wl fr lo (.ref b :: As) wc wc') (cw : CallW R s args own C index y bytes maxL ret wl (rmOf fr lo) 0 0 n) (hK : KN D cI cJ s) (hP : va_P D vwK ws H) (hD : va_D A ws) (hS : va_S A s.heap H locs) (hA : ∀ q, s.heap.size ≤ q → A q)
    (isC isR is2 : List Nat) (k : Cut ws wc wc' ws2 isC isR is2) (q0 ci : Nat) {cq : vw_C} {fs : List Value} (hc : vwK[ci]? = some cq) (he : wc[q0]? = some (b, .inr (ci, fs))) (hq : cq.1 = C) (hn : As.length = n) (hsize : ls.size = nL) (hst : st0 = As.reverse ++ .ref b :: rest) (hW : (rest.map fun v => v.category).sum ≤ 8) (hdg : decode cc pc = .ok (.invokevirtual index, 3)) (hcap : cells ≤ R.cells ∧ slots ≤ R.slots)
    (kk : ∀ (H : Heap) (locs : List Loc), va_P D vwK ws2 H → va_D A ws2 → va_S A s.heap H locs → W p l e R s m args below meth c H locs cells slots Q (F0 m (pc + 3) ls rest)) : W p l e R s m args below meth c H locs cells slots Q (F0 m pc ls st0) := by
  subst hq hst
  refine va_callv (va_runV (As := As) (rest := rest) fx (hC H.size) cw ⟨PRE_blind _ _ _ _ _ _, va_recv hK.1 (k.pp hP) hc he, PRE_at _ hK (k.pp hP) (k.dd hD)⟩ rfl hn hsize rfl (lv_room hW) hdg hcap) hS (fun q _ h => k.free hD hS hA q h) (k.free hD hS hA) (fun u t H1 locs1 ht hvm hw hB hz1 hk1 hS1 => ?_)
  obtain ⟨hP1, hD1⟩ := hB
  rw [ht] at hP1
  obtain ⟨j1, j2⟩ := k.join hP hD hS hA hk1 hP1 hD1
  exact kk H1 locs1 j1 j2 hS1
theorem callSi (fx : CallFix p m c cc nL s args Ts own) (hC : CI l D cI cJ y wl fr lo As wc wc' r) (cw : CallB R s args own index y bytes maxL ret wl (rmOf fr lo) 0 0 n ∧ (Cond.static y).before args s = true) (hK : KN D cI cJ s) (hP : va_P D vwK ws H) (hD : va_D A ws) (hS : va_S A s.heap H locs) (hA : ∀ q, s.heap.size ≤ q → A q)
    (isC isR is2 : List Nat) (k : Cut ws wc wc' ws2 isC isR is2) (hn : As.length = n) (hsize : ls.size = nL) (hst : st0 = As.reverse ++ rest) (hW : (rest.map fun v => v.category).sum ≤ 8) (hdg : decode cc pc = .ok (.invokestatic index, 3)) (hcap : cells ≤ R.cells ∧ slots ≤ R.slots)
    (kk : ∀ (H : Heap) (locs : List Loc), va_P D vwK ws2 H → va_D A ws2 → va_S A s.heap H locs → W p l e R s m args below meth c H locs cells slots Q (F0 m (pc + 3) ls (.int r :: rest))) : W p l e R s m args below meth c H locs cells slots Q (F0 m pc ls st0) := by
  subst hst
  refine va_calli (va_runS (As := As) (rest := rest) fx (hC H.size) cw ⟨PRE_blind _ _ _ _ _ _, PRE_at _ hK (k.pp hP) (k.dd hD)⟩ rfl hn hsize rfl (lv_room hW) hdg hcap) hS (fun q _ h => k.free hD hS hA q h) (k.free hD hS hA) (fun r1 u t H1 locs1 ht hvm hw hB hz1 hk1 hS1 => ?_)
  obtain ⟨hP1, hD1⟩ := hB
  rw [ht] at hP1
  subst hw
  obtain ⟨j1, j2⟩ := k.join hP hD hS hA hk1 hP1 hD1
  exact kk H1 locs1 j1 j2 hS1
theorem callSl (fx : CallFix p m c cc nL s args Ts own) (hC : CL l D cI cJ y wl fr lo As wc wc' rl) (cw : CallB R s args own index y bytes maxL ret wl (rmOf fr lo) 0 0 n ∧ (Cond.static y).before args s = true) (hK : KN D cI cJ s) (hP : va_P D vwK ws H) (hD : va_D A ws) (hS : va_S A s.heap H locs) (hA : ∀ q, s.heap.size ≤ q → A q)
    (isC isR is2 : List Nat) (k : Cut ws wc wc' ws2 isC isR is2) (hn : As.length = n) (hsize : ls.size = nL) (hst : st0 = As.reverse ++ rest) (hW : (rest.map fun v => v.category).sum ≤ 8) (hdg : decode cc pc = .ok (.invokestatic index, 3)) (hcap : cells ≤ R.cells ∧ slots ≤ R.slots)
    (kk : ∀ (H : Heap) (locs : List Loc), va_P D vwK ws2 H → va_D A ws2 → va_S A s.heap H locs → W p l e R s m args below meth c H locs cells slots Q (F0 m (pc + 3) ls (.long rl :: rest))) : W p l e R s m args below meth c H locs cells slots Q (F0 m pc ls st0) := by
  subst hst
  refine va_calll (va_runS (As := As) (rest := rest) fx (hC H.size) cw ⟨PRE_blind _ _ _ _ _ _, PRE_at _ hK (k.pp hP) (k.dd hD)⟩ rfl hn hsize rfl (lv_room hW) hdg hcap) hS (fun q _ h => k.free hD hS hA q h) (k.free hD hS hA) (fun r1 u t H1 locs1 ht hvm hw hB hz1 hk1 hS1 => ?_)
  obtain ⟨hP1, hD1⟩ := hB
  rw [ht] at hP1
  subst hw
  obtain ⟨j1, j2⟩ := k.join hP hD hS hA hk1 hP1 hD1
  exact kk H1 locs1 j1 j2 hS1
theorem callNv {host : String} (fx : CallFix p m c cc nL s args Ts own) (hC : CV l D cI cJ y wl fr lo As wc wc') (cw : va_CN R s args own index y host bytes maxL ret wl (rmOf fr lo) 0 0 n ∧ (Cond.static y).before args s = true ∧ True) (hK : KN D cI cJ s) (hP : va_P D vwK ws H) (hD : va_D A ws) (hS : va_S A s.heap H locs) (hA : ∀ q, s.heap.size ≤ q → A q)
    (isC isR is2 : List Nat) (k : Cut ws wc wc' ws2 isC isR is2) (hn : As.length = n) (hsize : ls.size = nL) (hst : st0 = As.reverse ++ rest) (hW : (rest.map fun v => v.category).sum ≤ 8) (hdg : decode cc pc = .ok (.invokestatic index, 3)) (hcap : cells ≤ R.cells ∧ slots ≤ R.slots)
    (kk : ∀ (H : Heap) (locs : List Loc), va_P D vwK ws2 H → va_D A ws2 → va_S A s.heap H locs → W p l e R s m args below meth c H locs cells slots Q (F0 m (pc + 3) ls rest)) : W p l e R s m args below meth c H locs cells slots Q (F0 m pc ls st0) := by
  subst hst
  refine va_callv (va_runSN (As := As) (rest := rest) fx (hC H.size) cw ⟨PRE_blind _ _ _ _ _ _, PRE_at _ hK (k.pp hP) (k.dd hD)⟩ rfl hn hsize rfl (lv_room hW) hdg hcap) hS (fun q _ h => k.free hD hS hA q h) (k.free hD hS hA) (fun u t H1 locs1 ht hvm hw hB hz1 hk1 hS1 => ?_)
  obtain ⟨hP1, hD1⟩ := hB
  rw [ht] at hP1
  obtain ⟨j1, j2⟩ := k.join hP hD hS hA hk1 hP1 hD1
  exact kk H1 locs1 j1 j2 hS1
end Call
section Mirror
/-- an array is read, or written, at a place that it has -/
def gA {α β : Type} (n : Nat) (f : Nat → α) (i : Int32) (k : α → Option β) : Option β := if i < 0 ∨ n ≤ i.toNatClampNeg then none else k (f i.toNatClampNeg)
def sI {β : Type} (n : Nat) (f : Nat → Int32) (i x : Int32) (k : (Nat → Int32) → Option β) : Option β := if i < 0 ∨ n ≤ i.toNatClampNeg then none else k (upd f i.toNatClampNeg x)
def sL {β : Type} (n : Nat) (f : Nat → Int64) (i : Int32) (x : Int64) (k : (Nat → Int64) → Option β) : Option β := if i < 0 ∨ n ≤ i.toNatClampNeg then none else k (vp_updL f i.toNatClampNeg x)
def nm {α β : Type} (x : α) (k : α → Option β) : Option β := k x
def dz {β : Type} (y : Int32) (k : Option β) : Option β := if y = 0 then none else k
def dzL {β : Type} (y : Int64) (k : Option β) : Option β := if y = 0 then none else k
def bz {β : Type} (r : Int32) (k : Option β) : Option β := if r = 0 ∨ r = 1 then k else none
theorem gA_s {α β : Type} {n : Nat} {f : Nat → α} {i : Int32} {k : α → Option β} {r : β} (h : gA n f i k = some r) : vp_in i n ∧ k (f i.toNatClampNeg) = some r := by
  unfold gA at h
  by_cases c : i < 0 ∨ n ≤ i.toNatClampNeg
  · rw [if_pos c] at h; cases h
  · exact ⟨c, by rw [if_neg c] at h; exact h⟩
theorem sI_s {β : Type} {n : Nat} {f : Nat → Int32} {i x : Int32} {k : (Nat → Int32) → Option β} {r : β} (h : sI n f i x k = some r) : vp_in i n ∧ ∃ g, g = upd f i.toNatClampNeg x ∧ k g = some r := by
  unfold sI at h
  by_cases c : i < 0 ∨ n ≤ i.toNatClampNeg
  · rw [if_pos c] at h; cases h
  · exact ⟨c, _, rfl, by rw [if_neg c] at h; exact h⟩
theorem sL_s {β : Type} {n : Nat} {f : Nat → Int64} {i : Int32} {x : Int64} {k : (Nat → Int64) → Option β} {r : β} (h : sL n f i x k = some r) : vp_in i n ∧ ∃ g, g = vp_updL f i.toNatClampNeg x ∧ k g = some r := by
  unfold sL at h
  by_cases c : i < 0 ∨ n ≤ i.toNatClampNeg
  · rw [if_pos c] at h; cases h
  · exact ⟨c, _, rfl, by rw [if_neg c] at h; exact h⟩
theorem nm_s {α β : Type} {x : α} {k : α → Option β} {r : Option β} (h : nm x k = r) (z : α) (e : z = x) : k z = r := by
  rw [e]; exact h
theorem dz_s {β : Type} {y : Int32} {k : Option β} {r : β} (h : dz y k = some r) : ¬ y = 0 ∧ k = some r := by
  unfold dz at h
  by_cases c : y = 0
  · rw [if_pos c] at h; cases h
  · exact ⟨c, by rw [if_neg c] at h; exact h⟩
theorem dzL_s {β : Type} {y : Int64} {k : Option β} {r : β} (h : dzL y k = some r) : ¬ y = 0 ∧ k = some r := by
  unfold dzL at h
  by_cases c : y = 0
  · rw [if_pos c] at h; cases h
  · exact ⟨c, by rw [if_neg c] at h; exact h⟩
theorem bz_s {β : Type} {y : Int32} {k : Option β} {r : β} (h : bz y k = some r) : (y = 0 ∨ y = 1) ∧ k = some r := by
  unfold bz at h
  by_cases c : y = 0 ∨ y = 1
  · exact ⟨c, by rw [if_pos c] at h; exact h⟩
  · rw [if_neg c] at h; cases h
theorem bd_s {α β : Type} {o : Option α} {k : α → Option β} {r : β} (h : o.bind k = some r) : ∃ a, o = some a ∧ k a = some r := by
  cases o with
  | none => cases h
  | some a => exact ⟨a, rfl, h⟩
theorem it_p {α : Type} {P : Prop} {i : Decidable P} {a b r : α} (c : P) (h : @ite α P i a b = r) : a = r := by rw [if_pos c] at h; exact h
theorem it_n {α : Type} {P : Prop} {i : Decidable P} {a b r : α} (c : ¬ P) (h : @ite α P i a b = r) : b = r := by rw [if_neg c] at h; exact h
/-- how many turns a loop of the mirror may take -/
def FU : Nat := 3000
end Mirror
end
