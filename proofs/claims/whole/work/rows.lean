section
-- ===== PART A: goes FIRST, ahead of the names: the tables' words, and 'selects' of the private methods out of them =====
/-- a private method of a class that the tables say can be made, by its rows of tables_1 -/
def lw_okq (q : MethodName × Nat) : Prop := (q.1.cls ≠ "java/lang/invoke/MethodHandle" ∧ q.1.cls ≠ "java/lang/invoke/VarHandle") ∧ Cond.instantiable q.1.cls q.2 ∈ tables_1 ∧ Cond.privateMethod q.1 ∈ tables_1 ∧ Cond.instanceMethod q.1 ∈ tables_1
theorem lw_p0 : lw_okq (⟨"CoverHouses$Tape", "takeWord", "()V"⟩, 8) := ⟨⟨by decide +kernel, by decide +kernel⟩, List.mem_of_getElem? (i := 36) (by decide +kernel), List.mem_of_getElem? (i := 95) (by decide +kernel), List.mem_of_getElem? (i := 96) (by decide +kernel)⟩
theorem lw_p1 : lw_okq (⟨"CoverHouses$Tape", "takeNumber", "()V"⟩, 8) := ⟨⟨by decide +kernel, by decide +kernel⟩, List.mem_of_getElem? (i := 36) (by decide +kernel), List.mem_of_getElem? (i := 100) (by decide +kernel), List.mem_of_getElem? (i := 101) (by decide +kernel)⟩
theorem lw_p2 : lw_okq (⟨"CoverHouses", "forgetAnswers", "()V"⟩, 12) := ⟨⟨by decide +kernel, by decide +kernel⟩, List.mem_of_getElem? (i := 28) (by decide +kernel), List.mem_of_getElem? (i := 645) (by decide +kernel), List.mem_of_getElem? (i := 646) (by decide +kernel)⟩
theorem lw_p3 : lw_okq (⟨"CoverHouses$Reader", "readHouse", "()Z"⟩, 5) := ⟨⟨by decide +kernel, by decide +kernel⟩, List.mem_of_getElem? (i := 197) (by decide +kernel), List.mem_of_getElem? (i := 677) (by decide +kernel), List.mem_of_getElem? (i := 678) (by decide +kernel)⟩
theorem lw_p4 : lw_okq (⟨"CoverHouses$Reader", "fail", "(I)Z"⟩, 5) := ⟨⟨by decide +kernel, by decide +kernel⟩, List.mem_of_getElem? (i := 197) (by decide +kernel), List.mem_of_getElem? (i := 681) (by decide +kernel), List.mem_of_getElem? (i := 682) (by decide +kernel)⟩
theorem lw_p5 : lw_okq (⟨"CoverHouses$Reader", "isNewName", "()Z"⟩, 5) := ⟨⟨by decide +kernel, by decide +kernel⟩, List.mem_of_getElem? (i := 197) (by decide +kernel), List.mem_of_getElem? (i := 686) (by decide +kernel), List.mem_of_getElem? (i := 687) (by decide +kernel)⟩
theorem lw_p6 : lw_okq (⟨"CoverHouses$Reader", "take", "(I)Z"⟩, 5) := ⟨⟨by decide +kernel, by decide +kernel⟩, List.mem_of_getElem? (i := 197) (by decide +kernel), List.mem_of_getElem? (i := 697) (by decide +kernel), List.mem_of_getElem? (i := 698) (by decide +kernel)⟩
theorem lw_p7 : lw_okq (⟨"CoverHouses$Reader", "readEvent", "()Z"⟩, 5) := ⟨⟨by decide +kernel, by decide +kernel⟩, List.mem_of_getElem? (i := 197) (by decide +kernel), List.mem_of_getElem? (i := 701) (by decide +kernel), List.mem_of_getElem? (i := 702) (by decide +kernel)⟩
theorem lw_p8 : lw_okq (⟨"CoverHouses$Reader", "isNumber", "(II)Z"⟩, 5) := ⟨⟨by decide +kernel, by decide +kernel⟩, List.mem_of_getElem? (i := 197) (by decide +kernel), List.mem_of_getElem? (i := 705) (by decide +kernel), List.mem_of_getElem? (i := 706) (by decide +kernel)⟩
theorem lw_p9 : lw_okq (⟨"CoverHouses$Reader", "readTreaty", "(Z)Z"⟩, 5) := ⟨⟨by decide +kernel, by decide +kernel⟩, List.mem_of_getElem? (i := 197) (by decide +kernel), List.mem_of_getElem? (i := 709) (by decide +kernel), List.mem_of_getElem? (i := 710) (by decide +kernel)⟩
theorem lw_p10 : lw_okq (⟨"CoverHouses$Reader", "houseHere", "()I"⟩, 5) := ⟨⟨by decide +kernel, by decide +kernel⟩, List.mem_of_getElem? (i := 197) (by decide +kernel), List.mem_of_getElem? (i := 713) (by decide +kernel), List.mem_of_getElem? (i := 714) (by decide +kernel)⟩
theorem lw_p11 : lw_okq (⟨"CoverHouses$Reader", "readLimit", "(LCoverHouses$Treaty;)Z"⟩, 5) := ⟨⟨by decide +kernel, by decide +kernel⟩, List.mem_of_getElem? (i := 197) (by decide +kernel), List.mem_of_getElem? (i := 725) (by decide +kernel), List.mem_of_getElem? (i := 726) (by decide +kernel)⟩
theorem lw_p12 : lw_okq (⟨"CoverHouses$Reader", "readParts", "(LCoverHouses$Treaty;)Z"⟩, 5) := ⟨⟨by decide +kernel, by decide +kernel⟩, List.mem_of_getElem? (i := 197) (by decide +kernel), List.mem_of_getElem? (i := 730) (by decide +kernel), List.mem_of_getElem? (i := 731) (by decide +kernel)⟩
theorem lw_p13 : lw_okq (⟨"CoverHouses$Reader", "readPart", "(LCoverHouses$Treaty;)Z"⟩, 5) := ⟨⟨by decide +kernel, by decide +kernel⟩, List.mem_of_getElem? (i := 197) (by decide +kernel), List.mem_of_getElem? (i := 734) (by decide +kernel), List.mem_of_getElem? (i := 735) (by decide +kernel)⟩
theorem lw_p14 : lw_okq (⟨"CoverHouses$Reader", "readAgain", "(LCoverHouses$Treaty;)Z"⟩, 5) := ⟨⟨by decide +kernel, by decide +kernel⟩, List.mem_of_getElem? (i := 197) (by decide +kernel), List.mem_of_getElem? (i := 750) (by decide +kernel), List.mem_of_getElem? (i := 751) (by decide +kernel)⟩
theorem lw_p15 : lw_okq (⟨"CoverHouses$Reader", "readCondition", "(LCoverHouses$Treaty;)Z"⟩, 5) := ⟨⟨by decide +kernel, by decide +kernel⟩, List.mem_of_getElem? (i := 197) (by decide +kernel), List.mem_of_getElem? (i := 754) (by decide +kernel), List.mem_of_getElem? (i := 755) (by decide +kernel)⟩
def lw_privs_1 : List (MethodName × Nat) := [(⟨"CoverHouses$Tape", "takeWord", "()V"⟩, 8), (⟨"CoverHouses$Tape", "takeNumber", "()V"⟩, 8), (⟨"CoverHouses", "forgetAnswers", "()V"⟩, 12), (⟨"CoverHouses$Reader", "readHouse", "()Z"⟩, 5), (⟨"CoverHouses$Reader", "fail", "(I)Z"⟩, 5), (⟨"CoverHouses$Reader", "isNewName", "()Z"⟩, 5), (⟨"CoverHouses$Reader", "take", "(I)Z"⟩, 5), (⟨"CoverHouses$Reader", "readEvent", "()Z"⟩, 5), (⟨"CoverHouses$Reader", "isNumber", "(II)Z"⟩, 5), (⟨"CoverHouses$Reader", "readTreaty", "(Z)Z"⟩, 5), (⟨"CoverHouses$Reader", "houseHere", "()I"⟩, 5), (⟨"CoverHouses$Reader", "readLimit", "(LCoverHouses$Treaty;)Z"⟩, 5), (⟨"CoverHouses$Reader", "readParts", "(LCoverHouses$Treaty;)Z"⟩, 5), (⟨"CoverHouses$Reader", "readPart", "(LCoverHouses$Treaty;)Z"⟩, 5), (⟨"CoverHouses$Reader", "readAgain", "(LCoverHouses$Treaty;)Z"⟩, 5), (⟨"CoverHouses$Reader", "readCondition", "(LCoverHouses$Treaty;)Z"⟩, 5)]
theorem lw_r1 : ∀ q ∈ lw_privs_1, lw_okq q := List.forall_mem_cons.mpr ⟨lw_p0, List.forall_mem_cons.mpr ⟨lw_p1, List.forall_mem_cons.mpr ⟨lw_p2, List.forall_mem_cons.mpr ⟨lw_p3, List.forall_mem_cons.mpr ⟨lw_p4, List.forall_mem_cons.mpr ⟨lw_p5, List.forall_mem_cons.mpr ⟨lw_p6, List.forall_mem_cons.mpr ⟨lw_p7, List.forall_mem_cons.mpr ⟨lw_p8, List.forall_mem_cons.mpr ⟨lw_p9, List.forall_mem_cons.mpr ⟨lw_p10, List.forall_mem_cons.mpr ⟨lw_p11, List.forall_mem_cons.mpr ⟨lw_p12, List.forall_mem_cons.mpr ⟨lw_p13, List.forall_mem_cons.mpr ⟨lw_p14, List.forall_mem_cons.mpr ⟨lw_p15, fun _ h => absurd h List.not_mem_nil⟩⟩⟩⟩⟩⟩⟩⟩⟩⟩⟩⟩⟩⟩⟩⟩
theorem lw_p16 : lw_okq (⟨"CoverHouses$Reader", "readChain", "(II)Z"⟩, 5) := ⟨⟨by decide +kernel, by decide +kernel⟩, List.mem_of_getElem? (i := 197) (by decide +kernel), List.mem_of_getElem? (i := 758) (by decide +kernel), List.mem_of_getElem? (i := 759) (by decide +kernel)⟩
theorem lw_p17 : lw_okq (⟨"CoverHouses$Reader", "readValue", "(I)Z"⟩, 5) := ⟨⟨by decide +kernel, by decide +kernel⟩, List.mem_of_getElem? (i := 197) (by decide +kernel), List.mem_of_getElem? (i := 762) (by decide +kernel), List.mem_of_getElem? (i := 763) (by decide +kernel)⟩
theorem lw_p18 : lw_okq (⟨"CoverHouses", "isLoss", "(I)Z"⟩, 12) := ⟨⟨by decide +kernel, by decide +kernel⟩, List.mem_of_getElem? (i := 28) (by decide +kernel), List.mem_of_getElem? (i := 798) (by decide +kernel), List.mem_of_getElem? (i := 799) (by decide +kernel)⟩
theorem lw_p19 : lw_okq (⟨"CoverHouses", "reckonIfNeeded", "()V"⟩, 12) := ⟨⟨by decide +kernel, by decide +kernel⟩, List.mem_of_getElem? (i := 28) (by decide +kernel), List.mem_of_getElem? (i := 814) (by decide +kernel), List.mem_of_getElem? (i := 815) (by decide +kernel)⟩
theorem lw_p20 : lw_okq (⟨"CoverHouses", "viewDay", "()I"⟩, 12) := ⟨⟨by decide +kernel, by decide +kernel⟩, List.mem_of_getElem? (i := 28) (by decide +kernel), List.mem_of_getElem? (i := 818) (by decide +kernel), List.mem_of_getElem? (i := 819) (by decide +kernel)⟩
theorem lw_p21 : lw_okq (⟨"CoverHouses", "stormsIn", "()I"⟩, 12) := ⟨⟨by decide +kernel, by decide +kernel⟩, List.mem_of_getElem? (i := 28) (by decide +kernel), List.mem_of_getElem? (i := 822) (by decide +kernel), List.mem_of_getElem? (i := 823) (by decide +kernel)⟩
theorem lw_p22 : lw_okq (⟨"CoverHouses$Gathering", "eventToJoin", "(LCoverHouses$Terms;I)I"⟩, 7) := ⟨⟨by decide +kernel, by decide +kernel⟩, List.mem_of_getElem? (i := 454) (by decide +kernel), List.mem_of_getElem? (i := 838) (by decide +kernel), List.mem_of_getElem? (i := 839) (by decide +kernel)⟩
theorem lw_p23 : lw_okq (⟨"CoverHouses$Gathering", "begin", "(I)I"⟩, 7) := ⟨⟨by decide +kernel, by decide +kernel⟩, List.mem_of_getElem? (i := 454) (by decide +kernel), List.mem_of_getElem? (i := 845) (by decide +kernel), List.mem_of_getElem? (i := 846) (by decide +kernel)⟩
theorem lw_p24 : lw_okq (⟨"CoverHouses$Gathering", "join", "(III)V"⟩, 7) := ⟨⟨by decide +kernel, by decide +kernel⟩, List.mem_of_getElem? (i := 454) (by decide +kernel), List.mem_of_getElem? (i := 849) (by decide +kernel), List.mem_of_getElem? (i := 850) (by decide +kernel)⟩
theorem lw_p25 : lw_okq (⟨"CoverHouses$Reckoning", "asksAnew", "(LCoverHouses$Happening;LCoverHouses$Terms;II)Z"⟩, 8) := ⟨⟨by decide +kernel, by decide +kernel⟩, List.mem_of_getElem? (i := 430) (by decide +kernel), List.mem_of_getElem? (i := 952) (by decide +kernel), List.mem_of_getElem? (i := 953) (by decide +kernel)⟩
theorem lw_p26 : lw_okq (⟨"CoverHouses$Terms", "worth", "(LCoverHouses$Happening;LCoverHouses$Treaty;I)I"⟩, 11) := ⟨⟨by decide +kernel, by decide +kernel⟩, List.mem_of_getElem? (i := 203) (by decide +kernel), List.mem_of_getElem? (i := 977) (by decide +kernel), List.mem_of_getElem? (i := 978) (by decide +kernel)⟩
theorem lw_p27 : lw_okq (⟨"CoverHouses$Rounds", "passOn", "(LCoverHouses$Happening;LCoverHouses$Terms;I)V"⟩, 3) := ⟨⟨by decide +kernel, by decide +kernel⟩, List.mem_of_getElem? (i := 436) (by decide +kernel), List.mem_of_getElem? (i := 1003) (by decide +kernel), List.mem_of_getElem? (i := 1004) (by decide +kernel)⟩
theorem lw_p28 : lw_okq (⟨"CoverHouses$Rounds", "payParts", "(LCoverHouses$Treaty;II)I"⟩, 3) := ⟨⟨by decide +kernel, by decide +kernel⟩, List.mem_of_getElem? (i := 436) (by decide +kernel), List.mem_of_getElem? (i := 1016) (by decide +kernel), List.mem_of_getElem? (i := 1017) (by decide +kernel)⟩
theorem lw_p29 : lw_okq (⟨"CoverHouses$Rounds", "takeOver", "(LCoverHouses$Happening;I)Z"⟩, 3) := ⟨⟨by decide +kernel, by decide +kernel⟩, List.mem_of_getElem? (i := 436) (by decide +kernel), List.mem_of_getElem? (i := 1024) (by decide +kernel), List.mem_of_getElem? (i := 1025) (by decide +kernel)⟩
theorem lw_p30 : lw_okq (⟨"CoverHouses$Reckoning", "settle", "(LCoverHouses$Happening;LCoverHouses$Terms;)V"⟩, 8) := ⟨⟨by decide +kernel, by decide +kernel⟩, List.mem_of_getElem? (i := 430) (by decide +kernel), List.mem_of_getElem? (i := 1032) (by decide +kernel), List.mem_of_getElem? (i := 1033) (by decide +kernel)⟩
theorem lw_p31 : lw_okq (⟨"CoverHouses$Reckoning", "reinstate", "(LCoverHouses$Happening;LCoverHouses$Treaty;I)V"⟩, 8) := ⟨⟨by decide +kernel, by decide +kernel⟩, List.mem_of_getElem? (i := 430) (by decide +kernel), List.mem_of_getElem? (i := 1045) (by decide +kernel), List.mem_of_getElem? (i := 1046) (by decide +kernel)⟩
def lw_privs_2 : List (MethodName × Nat) := [(⟨"CoverHouses$Reader", "readChain", "(II)Z"⟩, 5), (⟨"CoverHouses$Reader", "readValue", "(I)Z"⟩, 5), (⟨"CoverHouses", "isLoss", "(I)Z"⟩, 12), (⟨"CoverHouses", "reckonIfNeeded", "()V"⟩, 12), (⟨"CoverHouses", "viewDay", "()I"⟩, 12), (⟨"CoverHouses", "stormsIn", "()I"⟩, 12), (⟨"CoverHouses$Gathering", "eventToJoin", "(LCoverHouses$Terms;I)I"⟩, 7), (⟨"CoverHouses$Gathering", "begin", "(I)I"⟩, 7), (⟨"CoverHouses$Gathering", "join", "(III)V"⟩, 7), (⟨"CoverHouses$Reckoning", "asksAnew", "(LCoverHouses$Happening;LCoverHouses$Terms;II)Z"⟩, 8), (⟨"CoverHouses$Terms", "worth", "(LCoverHouses$Happening;LCoverHouses$Treaty;I)I"⟩, 11), (⟨"CoverHouses$Rounds", "passOn", "(LCoverHouses$Happening;LCoverHouses$Terms;I)V"⟩, 3), (⟨"CoverHouses$Rounds", "payParts", "(LCoverHouses$Treaty;II)I"⟩, 3), (⟨"CoverHouses$Rounds", "takeOver", "(LCoverHouses$Happening;I)Z"⟩, 3), (⟨"CoverHouses$Reckoning", "settle", "(LCoverHouses$Happening;LCoverHouses$Terms;)V"⟩, 8), (⟨"CoverHouses$Reckoning", "reinstate", "(LCoverHouses$Happening;LCoverHouses$Treaty;I)V"⟩, 8)]
theorem lw_r2 : ∀ q ∈ lw_privs_2, lw_okq q := List.forall_mem_cons.mpr ⟨lw_p16, List.forall_mem_cons.mpr ⟨lw_p17, List.forall_mem_cons.mpr ⟨lw_p18, List.forall_mem_cons.mpr ⟨lw_p19, List.forall_mem_cons.mpr ⟨lw_p20, List.forall_mem_cons.mpr ⟨lw_p21, List.forall_mem_cons.mpr ⟨lw_p22, List.forall_mem_cons.mpr ⟨lw_p23, List.forall_mem_cons.mpr ⟨lw_p24, List.forall_mem_cons.mpr ⟨lw_p25, List.forall_mem_cons.mpr ⟨lw_p26, List.forall_mem_cons.mpr ⟨lw_p27, List.forall_mem_cons.mpr ⟨lw_p28, List.forall_mem_cons.mpr ⟨lw_p29, List.forall_mem_cons.mpr ⟨lw_p30, List.forall_mem_cons.mpr ⟨lw_p31, fun _ h => absurd h List.not_mem_nil⟩⟩⟩⟩⟩⟩⟩⟩⟩⟩⟩⟩⟩⟩⟩⟩
theorem lw_p32 : lw_okq (⟨"CoverHouses", "isEvent", "(I)Z"⟩, 12) := ⟨⟨by decide +kernel, by decide +kernel⟩, List.mem_of_getElem? (i := 28) (by decide +kernel), List.mem_of_getElem? (i := 1062) (by decide +kernel), List.mem_of_getElem? (i := 1063) (by decide +kernel)⟩
theorem lw_p33 : lw_okq (⟨"CoverHouses", "isHouse", "(I)Z"⟩, 12) := ⟨⟨by decide +kernel, by decide +kernel⟩, List.mem_of_getElem? (i := 28) (by decide +kernel), List.mem_of_getElem? (i := 1079) (by decide +kernel), List.mem_of_getElem? (i := 1080) (by decide +kernel)⟩
theorem lw_p34 : lw_okq (⟨"CoverHouses", "isTreaty", "(I)Z"⟩, 12) := ⟨⟨by decide +kernel, by decide +kernel⟩, List.mem_of_getElem? (i := 28) (by decide +kernel), List.mem_of_getElem? (i := 1087) (by decide +kernel), List.mem_of_getElem? (i := 1088) (by decide +kernel)⟩
theorem lw_p35 : lw_okq (⟨"CoverHouses$Trials", "markWorthTrying", "(I)V"⟩, 8) := ⟨⟨by decide +kernel, by decide +kernel⟩, List.mem_of_getElem? (i := 520) (by decide +kernel), List.mem_of_getElem? (i := 1118) (by decide +kernel), List.mem_of_getElem? (i := 1119) (by decide +kernel)⟩
theorem lw_p36 : lw_okq (⟨"CoverHouses$Trials", "keepBetter", "(II)V"⟩, 8) := ⟨⟨by decide +kernel, by decide +kernel⟩, List.mem_of_getElem? (i := 520) (by decide +kernel), List.mem_of_getElem? (i := 1122) (by decide +kernel), List.mem_of_getElem? (i := 1123) (by decide +kernel)⟩
theorem lw_p37 : lw_okq (⟨"CoverHouses$Trials", "stormsThatCount", "()I"⟩, 8) := ⟨⟨by decide +kernel, by decide +kernel⟩, List.mem_of_getElem? (i := 520) (by decide +kernel), List.mem_of_getElem? (i := 1134) (by decide +kernel), List.mem_of_getElem? (i := 1135) (by decide +kernel)⟩
theorem lw_p38 : lw_okq (⟨"CoverHouses$Book", "yearOf", "(I)I"⟩, 13) := ⟨⟨by decide +kernel, by decide +kernel⟩, List.mem_of_getElem? (i := 364) (by decide +kernel), List.mem_of_getElem? (i := 1164) (by decide +kernel), List.mem_of_getElem? (i := 1165) (by decide +kernel)⟩
theorem lw_p39 : lw_okq (⟨"CoverHouses$Book", "lateAmount", "(II)I"⟩, 13) := ⟨⟨by decide +kernel, by decide +kernel⟩, List.mem_of_getElem? (i := 364) (by decide +kernel), List.mem_of_getElem? (i := 1168) (by decide +kernel), List.mem_of_getElem? (i := 1169) (by decide +kernel)⟩
theorem lw_p40 : lw_okq (⟨"CoverHouses", "clearIfNeeded", "()V"⟩, 12) := ⟨⟨by decide +kernel, by decide +kernel⟩, List.mem_of_getElem? (i := 28) (by decide +kernel), List.mem_of_getElem? (i := 1207) (by decide +kernel), List.mem_of_getElem? (i := 1208) (by decide +kernel)⟩
theorem lw_p41 : lw_okq (⟨"CoverHouses$Clearing", "takeNet", "(LCoverHouses$Reckoning;II)V"⟩, 9) := ⟨⟨by decide +kernel, by decide +kernel⟩, List.mem_of_getElem? (i := 554) (by decide +kernel), List.mem_of_getElem? (i := 1215) (by decide +kernel), List.mem_of_getElem? (i := 1216) (by decide +kernel)⟩
theorem lw_p42 : lw_okq (⟨"CoverHouses$Clearing", "takeShares", "(I)V"⟩, 9) := ⟨⟨by decide +kernel, by decide +kernel⟩, List.mem_of_getElem? (i := 554) (by decide +kernel), List.mem_of_getElem? (i := 1221) (by decide +kernel), List.mem_of_getElem? (i := 1222) (by decide +kernel)⟩
theorem lw_p43 : lw_okq (⟨"CoverHouses$Clearing", "shareOf", "(II)I"⟩, 9) := ⟨⟨by decide +kernel, by decide +kernel⟩, List.mem_of_getElem? (i := 554) (by decide +kernel), List.mem_of_getElem? (i := 1225) (by decide +kernel), List.mem_of_getElem? (i := 1226) (by decide +kernel)⟩
theorem lw_p44 : lw_okq (⟨"CoverHouses$Clearing", "payRound", "(I)Z"⟩, 9) := ⟨⟨by decide +kernel, by decide +kernel⟩, List.mem_of_getElem? (i := 554) (by decide +kernel), List.mem_of_getElem? (i := 1229) (by decide +kernel), List.mem_of_getElem? (i := 1230) (by decide +kernel)⟩
theorem lw_p45 : lw_okq (⟨"java/lang/Throwable", "fillInStackTrace", "(I)Ljava/lang/Throwable;"⟩, 6) := ⟨⟨by decide +kernel, by decide +kernel⟩, List.mem_of_getElem? (i := 1278) (by decide +kernel), List.mem_of_getElem? (i := 1276) (by decide +kernel), List.mem_of_getElem? (i := 1277) (by decide +kernel)⟩
theorem lw_p46 : lw_okq (⟨"CoverHousesModel", "lay", "(J)V"⟩, 84) := ⟨⟨by decide +kernel, by decide +kernel⟩, List.mem_of_getElem? (i := 1344) (by decide +kernel), List.mem_of_getElem? (i := 1342) (by decide +kernel), List.mem_of_getElem? (i := 1343) (by decide +kernel)⟩
theorem lw_p47 : lw_okq (⟨"CoverHousesModel", "cutAll", "()V"⟩, 84) := ⟨⟨by decide +kernel, by decide +kernel⟩, List.mem_of_getElem? (i := 1344) (by decide +kernel), List.mem_of_getElem? (i := 1630) (by decide +kernel), List.mem_of_getElem? (i := 1631) (by decide +kernel)⟩
def lw_privs_3 : List (MethodName × Nat) := [(⟨"CoverHouses", "isEvent", "(I)Z"⟩, 12), (⟨"CoverHouses", "isHouse", "(I)Z"⟩, 12), (⟨"CoverHouses", "isTreaty", "(I)Z"⟩, 12), (⟨"CoverHouses$Trials", "markWorthTrying", "(I)V"⟩, 8), (⟨"CoverHouses$Trials", "keepBetter", "(II)V"⟩, 8), (⟨"CoverHouses$Trials", "stormsThatCount", "()I"⟩, 8), (⟨"CoverHouses$Book", "yearOf", "(I)I"⟩, 13), (⟨"CoverHouses$Book", "lateAmount", "(II)I"⟩, 13), (⟨"CoverHouses", "clearIfNeeded", "()V"⟩, 12), (⟨"CoverHouses$Clearing", "takeNet", "(LCoverHouses$Reckoning;II)V"⟩, 9), (⟨"CoverHouses$Clearing", "takeShares", "(I)V"⟩, 9), (⟨"CoverHouses$Clearing", "shareOf", "(II)I"⟩, 9), (⟨"CoverHouses$Clearing", "payRound", "(I)Z"⟩, 9), (⟨"java/lang/Throwable", "fillInStackTrace", "(I)Ljava/lang/Throwable;"⟩, 6), (⟨"CoverHousesModel", "lay", "(J)V"⟩, 84), (⟨"CoverHousesModel", "cutAll", "()V"⟩, 84)]
theorem lw_r3 : ∀ q ∈ lw_privs_3, lw_okq q := List.forall_mem_cons.mpr ⟨lw_p32, List.forall_mem_cons.mpr ⟨lw_p33, List.forall_mem_cons.mpr ⟨lw_p34, List.forall_mem_cons.mpr ⟨lw_p35, List.forall_mem_cons.mpr ⟨lw_p36, List.forall_mem_cons.mpr ⟨lw_p37, List.forall_mem_cons.mpr ⟨lw_p38, List.forall_mem_cons.mpr ⟨lw_p39, List.forall_mem_cons.mpr ⟨lw_p40, List.forall_mem_cons.mpr ⟨lw_p41, List.forall_mem_cons.mpr ⟨lw_p42, List.forall_mem_cons.mpr ⟨lw_p43, List.forall_mem_cons.mpr ⟨lw_p44, List.forall_mem_cons.mpr ⟨lw_p45, List.forall_mem_cons.mpr ⟨lw_p46, List.forall_mem_cons.mpr ⟨lw_p47, fun _ h => absurd h List.not_mem_nil⟩⟩⟩⟩⟩⟩⟩⟩⟩⟩⟩⟩⟩⟩⟩⟩
theorem lw_p48 : lw_okq (⟨"CoverHousesModel", "line", "()V"⟩, 84) := ⟨⟨by decide +kernel, by decide +kernel⟩, List.mem_of_getElem? (i := 1344) (by decide +kernel), List.mem_of_getElem? (i := 1649) (by decide +kernel), List.mem_of_getElem? (i := 1650) (by decide +kernel)⟩
theorem lw_p49 : lw_okq (⟨"CoverHousesModel", "isWord", "(I)Z"⟩, 84) := ⟨⟨by decide +kernel, by decide +kernel⟩, List.mem_of_getElem? (i := 1344) (by decide +kernel), List.mem_of_getElem? (i := 1653) (by decide +kernel), List.mem_of_getElem? (i := 1654) (by decide +kernel)⟩
theorem lw_p50 : lw_okq (⟨"CoverHousesModel", "readHouse", "()V"⟩, 84) := ⟨⟨by decide +kernel, by decide +kernel⟩, List.mem_of_getElem? (i := 1344) (by decide +kernel), List.mem_of_getElem? (i := 1657) (by decide +kernel), List.mem_of_getElem? (i := 1658) (by decide +kernel)⟩
theorem lw_p51 : lw_okq (⟨"CoverHousesModel", "wrong", "(I)V"⟩, 84) := ⟨⟨by decide +kernel, by decide +kernel⟩, List.mem_of_getElem? (i := 1344) (by decide +kernel), List.mem_of_getElem? (i := 1661) (by decide +kernel), List.mem_of_getElem? (i := 1662) (by decide +kernel)⟩
theorem lw_p52 : lw_okq (⟨"CoverHousesModel", "takeNewName", "()J"⟩, 84) := ⟨⟨by decide +kernel, by decide +kernel⟩, List.mem_of_getElem? (i := 1344) (by decide +kernel), List.mem_of_getElem? (i := 1665) (by decide +kernel), List.mem_of_getElem? (i := 1666) (by decide +kernel)⟩
theorem lw_p53 : lw_okq (⟨"CoverHousesModel", "isName", "()Z"⟩, 84) := ⟨⟨by decide +kernel, by decide +kernel⟩, List.mem_of_getElem? (i := 1344) (by decide +kernel), List.mem_of_getElem? (i := 1669) (by decide +kernel), List.mem_of_getElem? (i := 1670) (by decide +kernel)⟩
theorem lw_p54 : lw_okq (⟨"CoverHousesModel", "isTold", "()Z"⟩, 84) := ⟨⟨by decide +kernel, by decide +kernel⟩, List.mem_of_getElem? (i := 1344) (by decide +kernel), List.mem_of_getElem? (i := 1673) (by decide +kernel), List.mem_of_getElem? (i := 1674) (by decide +kernel)⟩
theorem lw_p55 : lw_okq (⟨"CoverHousesModel", "findHouse", "()I"⟩, 84) := ⟨⟨by decide +kernel, by decide +kernel⟩, List.mem_of_getElem? (i := 1344) (by decide +kernel), List.mem_of_getElem? (i := 1677) (by decide +kernel), List.mem_of_getElem? (i := 1678) (by decide +kernel)⟩
theorem lw_p56 : lw_okq (⟨"CoverHousesModel", "readEvent", "()V"⟩, 84) := ⟨⟨by decide +kernel, by decide +kernel⟩, List.mem_of_getElem? (i := 1344) (by decide +kernel), List.mem_of_getElem? (i := 1681) (by decide +kernel), List.mem_of_getElem? (i := 1682) (by decide +kernel)⟩
theorem lw_p57 : lw_okq (⟨"CoverHousesModel", "takeNumber", "(JJ)J"⟩, 84) := ⟨⟨by decide +kernel, by decide +kernel⟩, List.mem_of_getElem? (i := 1344) (by decide +kernel), List.mem_of_getElem? (i := 1686) (by decide +kernel), List.mem_of_getElem? (i := 1687) (by decide +kernel)⟩
theorem lw_p58 : lw_okq (⟨"CoverHousesModel", "takeWord", "(I)V"⟩, 84) := ⟨⟨by decide +kernel, by decide +kernel⟩, List.mem_of_getElem? (i := 1344) (by decide +kernel), List.mem_of_getElem? (i := 1690) (by decide +kernel), List.mem_of_getElem? (i := 1691) (by decide +kernel)⟩
theorem lw_p59 : lw_okq (⟨"CoverHousesModel", "hasWord", "(I)Z"⟩, 84) := ⟨⟨by decide +kernel, by decide +kernel⟩, List.mem_of_getElem? (i := 1344) (by decide +kernel), List.mem_of_getElem? (i := 1694) (by decide +kernel), List.mem_of_getElem? (i := 1695) (by decide +kernel)⟩
theorem lw_p60 : lw_okq (⟨"CoverHousesModel", "readTreaty", "()V"⟩, 84) := ⟨⟨by decide +kernel, by decide +kernel⟩, List.mem_of_getElem? (i := 1344) (by decide +kernel), List.mem_of_getElem? (i := 1699) (by decide +kernel), List.mem_of_getElem? (i := 1700) (by decide +kernel)⟩
theorem lw_p61 : lw_okq (⟨"CoverHousesModel", "takeHouse", "()I"⟩, 84) := ⟨⟨by decide +kernel, by decide +kernel⟩, List.mem_of_getElem? (i := 1344) (by decide +kernel), List.mem_of_getElem? (i := 1703) (by decide +kernel), List.mem_of_getElem? (i := 1704) (by decide +kernel)⟩
theorem lw_p62 : lw_okq (⟨"CoverHousesModel", "takeSign", "(I)V"⟩, 84) := ⟨⟨by decide +kernel, by decide +kernel⟩, List.mem_of_getElem? (i := 1344) (by decide +kernel), List.mem_of_getElem? (i := 1707) (by decide +kernel), List.mem_of_getElem? (i := 1708) (by decide +kernel)⟩
theorem lw_p63 : lw_okq (⟨"CoverHousesModel", "isSign", "(I)Z"⟩, 84) := ⟨⟨by decide +kernel, by decide +kernel⟩, List.mem_of_getElem? (i := 1344) (by decide +kernel), List.mem_of_getElem? (i := 1711) (by decide +kernel), List.mem_of_getElem? (i := 1712) (by decide +kernel)⟩
def lw_privs_4 : List (MethodName × Nat) := [(⟨"CoverHousesModel", "line", "()V"⟩, 84), (⟨"CoverHousesModel", "isWord", "(I)Z"⟩, 84), (⟨"CoverHousesModel", "readHouse", "()V"⟩, 84), (⟨"CoverHousesModel", "wrong", "(I)V"⟩, 84), (⟨"CoverHousesModel", "takeNewName", "()J"⟩, 84), (⟨"CoverHousesModel", "isName", "()Z"⟩, 84), (⟨"CoverHousesModel", "isTold", "()Z"⟩, 84), (⟨"CoverHousesModel", "findHouse", "()I"⟩, 84), (⟨"CoverHousesModel", "readEvent", "()V"⟩, 84), (⟨"CoverHousesModel", "takeNumber", "(JJ)J"⟩, 84), (⟨"CoverHousesModel", "takeWord", "(I)V"⟩, 84), (⟨"CoverHousesModel", "hasWord", "(I)Z"⟩, 84), (⟨"CoverHousesModel", "readTreaty", "()V"⟩, 84), (⟨"CoverHousesModel", "takeHouse", "()I"⟩, 84), (⟨"CoverHousesModel", "takeSign", "(I)V"⟩, 84), (⟨"CoverHousesModel", "isSign", "(I)Z"⟩, 84)]
theorem lw_r4 : ∀ q ∈ lw_privs_4, lw_okq q := List.forall_mem_cons.mpr ⟨lw_p48, List.forall_mem_cons.mpr ⟨lw_p49, List.forall_mem_cons.mpr ⟨lw_p50, List.forall_mem_cons.mpr ⟨lw_p51, List.forall_mem_cons.mpr ⟨lw_p52, List.forall_mem_cons.mpr ⟨lw_p53, List.forall_mem_cons.mpr ⟨lw_p54, List.forall_mem_cons.mpr ⟨lw_p55, List.forall_mem_cons.mpr ⟨lw_p56, List.forall_mem_cons.mpr ⟨lw_p57, List.forall_mem_cons.mpr ⟨lw_p58, List.forall_mem_cons.mpr ⟨lw_p59, List.forall_mem_cons.mpr ⟨lw_p60, List.forall_mem_cons.mpr ⟨lw_p61, List.forall_mem_cons.mpr ⟨lw_p62, List.forall_mem_cons.mpr ⟨lw_p63, fun _ h => absurd h List.not_mem_nil⟩⟩⟩⟩⟩⟩⟩⟩⟩⟩⟩⟩⟩⟩⟩⟩
theorem lw_p64 : lw_okq (⟨"CoverHousesModel", "readPart", "(I)V"⟩, 84) := ⟨⟨by decide +kernel, by decide +kernel⟩, List.mem_of_getElem? (i := 1344) (by decide +kernel), List.mem_of_getElem? (i := 1716) (by decide +kernel), List.mem_of_getElem? (i := 1717) (by decide +kernel)⟩
theorem lw_p65 : lw_okq (⟨"CoverHousesModel", "all", "(I)V"⟩, 84) := ⟨⟨by decide +kernel, by decide +kernel⟩, List.mem_of_getElem? (i := 1344) (by decide +kernel), List.mem_of_getElem? (i := 1722) (by decide +kernel), List.mem_of_getElem? (i := 1723) (by decide +kernel)⟩
theorem lw_p66 : lw_okq (⟨"CoverHousesModel", "test", "(I)V"⟩, 84) := ⟨⟨by decide +kernel, by decide +kernel⟩, List.mem_of_getElem? (i := 1344) (by decide +kernel), List.mem_of_getElem? (i := 1726) (by decide +kernel), List.mem_of_getElem? (i := 1727) (by decide +kernel)⟩
theorem lw_p67 : lw_okq (⟨"CoverHousesModel", "sums", "(I)V"⟩, 84) := ⟨⟨by decide +kernel, by decide +kernel⟩, List.mem_of_getElem? (i := 1344) (by decide +kernel), List.mem_of_getElem? (i := 1730) (by decide +kernel), List.mem_of_getElem? (i := 1731) (by decide +kernel)⟩
theorem lw_p68 : lw_okq (⟨"CoverHousesModel", "takeValue", "(I)V"⟩, 84) := ⟨⟨by decide +kernel, by decide +kernel⟩, List.mem_of_getElem? (i := 1344) (by decide +kernel), List.mem_of_getElem? (i := 1734) (by decide +kernel), List.mem_of_getElem? (i := 1735) (by decide +kernel)⟩
theorem lw_p69 : lw_okq (⟨"CoverHousesModel", "emit", "(II)V"⟩, 84) := ⟨⟨by decide +kernel, by decide +kernel⟩, List.mem_of_getElem? (i := 1344) (by decide +kernel), List.mem_of_getElem? (i := 1738) (by decide +kernel), List.mem_of_getElem? (i := 1739) (by decide +kernel)⟩
theorem lw_p70 : lw_okq (⟨"CoverHousesModel", "hasSign", "(I)Z"⟩, 84) := ⟨⟨by decide +kernel, by decide +kernel⟩, List.mem_of_getElem? (i := 1344) (by decide +kernel), List.mem_of_getElem? (i := 1742) (by decide +kernel), List.mem_of_getElem? (i := 1743) (by decide +kernel)⟩
theorem lw_p71 : lw_okq (⟨"CoverHousesModel", "tells", "(II)V"⟩, 84) := ⟨⟨by decide +kernel, by decide +kernel⟩, List.mem_of_getElem? (i := 1344) (by decide +kernel), List.mem_of_getElem? (i := 1763) (by decide +kernel), List.mem_of_getElem? (i := 1764) (by decide +kernel)⟩
theorem lw_p72 : lw_okq (⟨"CoverHousesModel", "isLoss", "(I)Z"⟩, 84) := ⟨⟨by decide +kernel, by decide +kernel⟩, List.mem_of_getElem? (i := 1344) (by decide +kernel), List.mem_of_getElem? (i := 1771) (by decide +kernel), List.mem_of_getElem? (i := 1772) (by decide +kernel)⟩
theorem lw_p73 : lw_okq (⟨"CoverHousesModel", "findEvents", "()V"⟩, 84) := ⟨⟨by decide +kernel, by decide +kernel⟩, List.mem_of_getElem? (i := 1344) (by decide +kernel), List.mem_of_getElem? (i := 1787) (by decide +kernel), List.mem_of_getElem? (i := 1788) (by decide +kernel)⟩
theorem lw_p74 : lw_okq (⟨"CoverHousesModel", "viewDay", "()I"⟩, 84) := ⟨⟨by decide +kernel, by decide +kernel⟩, List.mem_of_getElem? (i := 1344) (by decide +kernel), List.mem_of_getElem? (i := 1791) (by decide +kernel), List.mem_of_getElem? (i := 1792) (by decide +kernel)⟩
theorem lw_p75 : lw_okq (⟨"CoverHousesModel", "amountOn", "(II)I"⟩, 84) := ⟨⟨by decide +kernel, by decide +kernel⟩, List.mem_of_getElem? (i := 1344) (by decide +kernel), List.mem_of_getElem? (i := 1795) (by decide +kernel), List.mem_of_getElem? (i := 1796) (by decide +kernel)⟩
theorem lw_p76 : lw_okq (⟨"CoverHousesModel", "isCounted", "(I)Z"⟩, 84) := ⟨⟨by decide +kernel, by decide +kernel⟩, List.mem_of_getElem? (i := 1344) (by decide +kernel), List.mem_of_getElem? (i := 1799) (by decide +kernel), List.mem_of_getElem? (i := 1800) (by decide +kernel)⟩
theorem lw_p77 : lw_okq (⟨"CoverHousesModel", "eventFor", "(I)I"⟩, 84) := ⟨⟨by decide +kernel, by decide +kernel⟩, List.mem_of_getElem? (i := 1344) (by decide +kernel), List.mem_of_getElem? (i := 1803) (by decide +kernel), List.mem_of_getElem? (i := 1804) (by decide +kernel)⟩
theorem lw_p78 : lw_okq (⟨"CoverHousesModel", "settlesAll", "()V"⟩, 84) := ⟨⟨by decide +kernel, by decide +kernel⟩, List.mem_of_getElem? (i := 1344) (by decide +kernel), List.mem_of_getElem? (i := 1811) (by decide +kernel), List.mem_of_getElem? (i := 1812) (by decide +kernel)⟩
theorem lw_p79 : lw_okq (⟨"CoverHousesModel", "settles", "(II)V"⟩, 84) := ⟨⟨by decide +kernel, by decide +kernel⟩, List.mem_of_getElem? (i := 1344) (by decide +kernel), List.mem_of_getElem? (i := 1815) (by decide +kernel), List.mem_of_getElem? (i := 1816) (by decide +kernel)⟩
def lw_privs_5 : List (MethodName × Nat) := [(⟨"CoverHousesModel", "readPart", "(I)V"⟩, 84), (⟨"CoverHousesModel", "all", "(I)V"⟩, 84), (⟨"CoverHousesModel", "test", "(I)V"⟩, 84), (⟨"CoverHousesModel", "sums", "(I)V"⟩, 84), (⟨"CoverHousesModel", "takeValue", "(I)V"⟩, 84), (⟨"CoverHousesModel", "emit", "(II)V"⟩, 84), (⟨"CoverHousesModel", "hasSign", "(I)Z"⟩, 84), (⟨"CoverHousesModel", "tells", "(II)V"⟩, 84), (⟨"CoverHousesModel", "isLoss", "(I)Z"⟩, 84), (⟨"CoverHousesModel", "findEvents", "()V"⟩, 84), (⟨"CoverHousesModel", "viewDay", "()I"⟩, 84), (⟨"CoverHousesModel", "amountOn", "(II)I"⟩, 84), (⟨"CoverHousesModel", "isCounted", "(I)Z"⟩, 84), (⟨"CoverHousesModel", "eventFor", "(I)I"⟩, 84), (⟨"CoverHousesModel", "settlesAll", "()V"⟩, 84), (⟨"CoverHousesModel", "settles", "(II)V"⟩, 84)]
theorem lw_r5 : ∀ q ∈ lw_privs_5, lw_okq q := List.forall_mem_cons.mpr ⟨lw_p64, List.forall_mem_cons.mpr ⟨lw_p65, List.forall_mem_cons.mpr ⟨lw_p66, List.forall_mem_cons.mpr ⟨lw_p67, List.forall_mem_cons.mpr ⟨lw_p68, List.forall_mem_cons.mpr ⟨lw_p69, List.forall_mem_cons.mpr ⟨lw_p70, List.forall_mem_cons.mpr ⟨lw_p71, List.forall_mem_cons.mpr ⟨lw_p72, List.forall_mem_cons.mpr ⟨lw_p73, List.forall_mem_cons.mpr ⟨lw_p74, List.forall_mem_cons.mpr ⟨lw_p75, List.forall_mem_cons.mpr ⟨lw_p76, List.forall_mem_cons.mpr ⟨lw_p77, List.forall_mem_cons.mpr ⟨lw_p78, List.forall_mem_cons.mpr ⟨lw_p79, fun _ h => absurd h List.not_mem_nil⟩⟩⟩⟩⟩⟩⟩⟩⟩⟩⟩⟩⟩⟩⟩⟩
theorem lw_p80 : lw_okq (⟨"CoverHousesModel", "settle", "(I)V"⟩, 84) := ⟨⟨by decide +kernel, by decide +kernel⟩, List.mem_of_getElem? (i := 1344) (by decide +kernel), List.mem_of_getElem? (i := 1819) (by decide +kernel), List.mem_of_getElem? (i := 1820) (by decide +kernel)⟩
theorem lw_p81 : lw_okq (⟨"CoverHousesModel", "findDirect", "(I)V"⟩, 84) := ⟨⟨by decide +kernel, by decide +kernel⟩, List.mem_of_getElem? (i := 1344) (by decide +kernel), List.mem_of_getElem? (i := 1823) (by decide +kernel), List.mem_of_getElem? (i := 1824) (by decide +kernel)⟩
theorem lw_p82 : lw_okq (⟨"CoverHousesModel", "isCommuted", "(I)Z"⟩, 84) := ⟨⟨by decide +kernel, by decide +kernel⟩, List.mem_of_getElem? (i := 1344) (by decide +kernel), List.mem_of_getElem? (i := 1827) (by decide +kernel), List.mem_of_getElem? (i := 1828) (by decide +kernel)⟩
theorem lw_p83 : lw_okq (⟨"CoverHousesModel", "worth", "(I)I"⟩, 84) := ⟨⟨by decide +kernel, by decide +kernel⟩, List.mem_of_getElem? (i := 1344) (by decide +kernel), List.mem_of_getElem? (i := 1831) (by decide +kernel), List.mem_of_getElem? (i := 1832) (by decide +kernel)⟩
theorem lw_p84 : lw_okq (⟨"CoverHousesModel", "round", "(I)V"⟩, 84) := ⟨⟨by decide +kernel, by decide +kernel⟩, List.mem_of_getElem? (i := 1344) (by decide +kernel), List.mem_of_getElem? (i := 1838) (by decide +kernel), List.mem_of_getElem? (i := 1839) (by decide +kernel)⟩
theorem lw_p85 : lw_okq (⟨"CoverHousesModel", "acts", "(II)V"⟩, 84) := ⟨⟨by decide +kernel, by decide +kernel⟩, List.mem_of_getElem? (i := 1344) (by decide +kernel), List.mem_of_getElem? (i := 1842) (by decide +kernel), List.mem_of_getElem? (i := 1843) (by decide +kernel)⟩
theorem lw_p86 : lw_okq (⟨"CoverHousesModel", "closes", "(I)V"⟩, 84) := ⟨⟨by decide +kernel, by decide +kernel⟩, List.mem_of_getElem? (i := 1344) (by decide +kernel), List.mem_of_getElem? (i := 1847) (by decide +kernel), List.mem_of_getElem? (i := 1848) (by decide +kernel)⟩
theorem lw_p87 : lw_okq (⟨"CoverHousesModel", "isHouse", "(I)Z"⟩, 84) := ⟨⟨by decide +kernel, by decide +kernel⟩, List.mem_of_getElem? (i := 1344) (by decide +kernel), List.mem_of_getElem? (i := 1860) (by decide +kernel), List.mem_of_getElem? (i := 1861) (by decide +kernel)⟩
theorem lw_p88 : lw_okq (⟨"CoverHousesModel", "isTreaty", "(I)Z"⟩, 84) := ⟨⟨by decide +kernel, by decide +kernel⟩, List.mem_of_getElem? (i := 1344) (by decide +kernel), List.mem_of_getElem? (i := 1868) (by decide +kernel), List.mem_of_getElem? (i := 1869) (by decide +kernel)⟩
theorem lw_p89 : lw_okq (⟨"CoverHousesModel", "bearsNow", "(I)J"⟩, 84) := ⟨⟨by decide +kernel, by decide +kernel⟩, List.mem_of_getElem? (i := 1344) (by decide +kernel), List.mem_of_getElem? (i := 1889) (by decide +kernel), List.mem_of_getElem? (i := 1890) (by decide +kernel)⟩
theorem lw_p90 : lw_okq (⟨"CoverHousesModel", "directOf", "(I)J"⟩, 84) := ⟨⟨by decide +kernel, by decide +kernel⟩, List.mem_of_getElem? (i := 1344) (by decide +kernel), List.mem_of_getElem? (i := 1893) (by decide +kernel), List.mem_of_getElem? (i := 1894) (by decide +kernel)⟩
theorem lw_p91 : lw_okq (⟨"CoverHousesModel", "clearsAll", "()V"⟩, 84) := ⟨⟨by decide +kernel, by decide +kernel⟩, List.mem_of_getElem? (i := 1344) (by decide +kernel), List.mem_of_getElem? (i := 1917) (by decide +kernel), List.mem_of_getElem? (i := 1918) (by decide +kernel)⟩
theorem lw_p92 : lw_okq (⟨"CoverHousesModel", "findGets", "()V"⟩, 84) := ⟨⟨by decide +kernel, by decide +kernel⟩, List.mem_of_getElem? (i := 1344) (by decide +kernel), List.mem_of_getElem? (i := 1921) (by decide +kernel), List.mem_of_getElem? (i := 1922) (by decide +kernel)⟩
theorem lw_p93 : lw_okq (⟨"CoverHousesModel", "hasFailed", "(I)Z"⟩, 84) := ⟨⟨by decide +kernel, by decide +kernel⟩, List.mem_of_getElem? (i := 1344) (by decide +kernel), List.mem_of_getElem? (i := 1925) (by decide +kernel), List.mem_of_getElem? (i := 1926) (by decide +kernel)⟩
theorem lw_p94 : lw_okq (⟨"CoverHousesModel", "canBeKnown", "(II)Z"⟩, 84) := ⟨⟨by decide +kernel, by decide +kernel⟩, List.mem_of_getElem? (i := 1344) (by decide +kernel), List.mem_of_getElem? (i := 1933) (by decide +kernel), List.mem_of_getElem? (i := 1934) (by decide +kernel)⟩
theorem lw_p95 : lw_okq (⟨"CoverHousesModel", "knownOf", "(III)I"⟩, 84) := ⟨⟨by decide +kernel, by decide +kernel⟩, List.mem_of_getElem? (i := 1344) (by decide +kernel), List.mem_of_getElem? (i := 1937) (by decide +kernel), List.mem_of_getElem? (i := 1938) (by decide +kernel)⟩
def lw_privs_6 : List (MethodName × Nat) := [(⟨"CoverHousesModel", "settle", "(I)V"⟩, 84), (⟨"CoverHousesModel", "findDirect", "(I)V"⟩, 84), (⟨"CoverHousesModel", "isCommuted", "(I)Z"⟩, 84), (⟨"CoverHousesModel", "worth", "(I)I"⟩, 84), (⟨"CoverHousesModel", "round", "(I)V"⟩, 84), (⟨"CoverHousesModel", "acts", "(II)V"⟩, 84), (⟨"CoverHousesModel", "closes", "(I)V"⟩, 84), (⟨"CoverHousesModel", "isHouse", "(I)Z"⟩, 84), (⟨"CoverHousesModel", "isTreaty", "(I)Z"⟩, 84), (⟨"CoverHousesModel", "bearsNow", "(I)J"⟩, 84), (⟨"CoverHousesModel", "directOf", "(I)J"⟩, 84), (⟨"CoverHousesModel", "clearsAll", "()V"⟩, 84), (⟨"CoverHousesModel", "findGets", "()V"⟩, 84), (⟨"CoverHousesModel", "hasFailed", "(I)Z"⟩, 84), (⟨"CoverHousesModel", "canBeKnown", "(II)Z"⟩, 84), (⟨"CoverHousesModel", "knownOf", "(III)I"⟩, 84)]
theorem lw_r6 : ∀ q ∈ lw_privs_6, lw_okq q := List.forall_mem_cons.mpr ⟨lw_p80, List.forall_mem_cons.mpr ⟨lw_p81, List.forall_mem_cons.mpr ⟨lw_p82, List.forall_mem_cons.mpr ⟨lw_p83, List.forall_mem_cons.mpr ⟨lw_p84, List.forall_mem_cons.mpr ⟨lw_p85, List.forall_mem_cons.mpr ⟨lw_p86, List.forall_mem_cons.mpr ⟨lw_p87, List.forall_mem_cons.mpr ⟨lw_p88, List.forall_mem_cons.mpr ⟨lw_p89, List.forall_mem_cons.mpr ⟨lw_p90, List.forall_mem_cons.mpr ⟨lw_p91, List.forall_mem_cons.mpr ⟨lw_p92, List.forall_mem_cons.mpr ⟨lw_p93, List.forall_mem_cons.mpr ⟨lw_p94, List.forall_mem_cons.mpr ⟨lw_p95, fun _ h => absurd h List.not_mem_nil⟩⟩⟩⟩⟩⟩⟩⟩⟩⟩⟩⟩⟩⟩⟩⟩
theorem lw_p96 : lw_okq (⟨"CoverHousesModel", "factorOf", "(II)I"⟩, 84) := ⟨⟨by decide +kernel, by decide +kernel⟩, List.mem_of_getElem? (i := 1344) (by decide +kernel), List.mem_of_getElem? (i := 1945) (by decide +kernel), List.mem_of_getElem? (i := 1946) (by decide +kernel)⟩
theorem lw_p97 : lw_okq (⟨"CoverHousesModel", "failed", "()I"⟩, 84) := ⟨⟨by decide +kernel, by decide +kernel⟩, List.mem_of_getElem? (i := 1344) (by decide +kernel), List.mem_of_getElem? (i := 1964) (by decide +kernel), List.mem_of_getElem? (i := 1965) (by decide +kernel)⟩
def lw_privs_7 : List (MethodName × Nat) := [(⟨"CoverHousesModel", "factorOf", "(II)I"⟩, 84), (⟨"CoverHousesModel", "failed", "()I"⟩, 84)]
theorem lw_r7 : ∀ q ∈ lw_privs_7, lw_okq q := List.forall_mem_cons.mpr ⟨lw_p96, List.forall_mem_cons.mpr ⟨lw_p97, fun _ h => absurd h List.not_mem_nil⟩⟩
def lw_privs : List (MethodName × Nat) := lw_privs_1 ++ (lw_privs_2 ++ (lw_privs_3 ++ (lw_privs_4 ++ (lw_privs_5 ++ (lw_privs_6 ++ (lw_privs_7))))))
def lw_tbl : List Cond := k2_sels lw_privs ++ tables_1
theorem lw_privs_ok : ∀ q ∈ lw_privs, lw_okq q := by
  show ∀ q ∈ lw_privs_1 ++ (lw_privs_2 ++ (lw_privs_3 ++ (lw_privs_4 ++ (lw_privs_5 ++ (lw_privs_6 ++ (lw_privs_7)))))), lw_okq q
  exact List.forall_mem_append.mpr ⟨lw_r1, List.forall_mem_append.mpr ⟨lw_r2, List.forall_mem_append.mpr ⟨lw_r3, List.forall_mem_append.mpr ⟨lw_r4, List.forall_mem_append.mpr ⟨lw_r5, List.forall_mem_append.mpr ⟨lw_r6, lw_r7⟩⟩⟩⟩⟩⟩
end
section
def RX0 : String := "CoverHouses$Book"
def TX0 : u_T := fun k => match k with
  | 0 => ("CoverHouses$Book", "losses", "I", false)
  | 1 => ("CoverHouses$Book", "words", "I", false)
  | 2 => ("CoverHouses$Book", "house", "[I", true)
  | 3 => ("CoverHouses$Book", "hour", "[I", true)
  | 4 => ("CoverHouses$Book", "place", "[I", true)
  | 5 => ("CoverHouses$Book", "cause", "[I", true)
  | 6 => ("CoverHouses$Book", "storm", "[I", true)
  | 7 => ("CoverHouses$Book", "isSplit", "[Z", true)
  | 8 => ("CoverHouses$Book", "byHour", "[I", true)
  | 9 => ("CoverHouses$Book", "lastWord", "[I", true)
  | 10 => ("CoverHouses$Book", "wordDay", "[I", true)
  | 11 => ("CoverHouses$Book", "wordAmount", "[I", true)
  | _ => ("CoverHouses$Book", "wordAhead", "[I", true)
def tyX0 : Nat → FieldType := fun k => match k with
  | 0 => .int
  | 1 => .int
  | 2 => .array .int
  | 3 => .array .int
  | 4 => .array .int
  | 5 => .array .int
  | 6 => .array .int
  | 7 => .array .boolean
  | 8 => .array .int
  | 9 => .array .int
  | 10 => .array .int
  | 11 => .array .int
  | _ => .array .int
abbrev wsX00 : List Cond := u_ws RX0 TX0 13
theorem nmX0 : ∀ a, a < 13 → ∀ b, b < 13 → a ≠ b → (TX0 a).2.1 ≠ (TX0 b).2.1 := by decide +kernel
theorem tyX0_ok : ∀ k, k < 13 → parseFieldDescriptor (TX0 k).2.2.1 = some (tyX0 k) := by decide +kernel
abbrev cX0_init : ByteArray := prog_2_method_1_code
def yX0_init : MethodName := ⟨RX0, "<init>", "()V"⟩
abbrev cX0_addLoss : ByteArray := prog_2_method_2_code
def yX0_addLoss : MethodName := ⟨RX0, "addLoss", "(IIIII)I"⟩
abbrev cX0_addWord : ByteArray := prog_2_method_3_code
def yX0_addWord : MethodName := ⟨RX0, "addWord", "(III)V"⟩
abbrev cX0_amountOn : ByteArray := prog_2_method_4_code
def yX0_amountOn : MethodName := ⟨RX0, "amountOn", "(II)I"⟩
abbrev cX0_lateDay : ByteArray := prog_2_method_5_code
def yX0_lateDay : MethodName := ⟨RX0, "lateDay", "(II)I"⟩
abbrev cX0_sumOfYear : ByteArray := prog_2_method_6_code
def yX0_sumOfYear : MethodName := ⟨RX0, "sumOfYear", "(III)I"⟩
abbrev cX0_growth : ByteArray := prog_2_method_7_code
def yX0_growth : MethodName := ⟨RX0, "growth", "(III)I"⟩
abbrev cX0_foretell : ByteArray := prog_2_method_8_code
def yX0_foretell : MethodName := ⟨RX0, "foretell", "(III)I"⟩
abbrev cX0_lateAmount : ByteArray := prog_2_method_9_code
def yX0_lateAmount : MethodName := ⟨RX0, "lateAmount", "(II)I"⟩
abbrev cX0_yearOf : ByteArray := prog_2_method_10_code
def yX0_yearOf : MethodName := ⟨RX0, "yearOf", "(I)I"⟩
def RX1 : String := "CoverHouses$Clearing"
def TX1 : u_T := fun k => match k with
  | 0 => ("CoverHouses$Clearing", "purse", "[I", true)
  | 1 => ("CoverHouses$Clearing", "owes", "[I", true)
  | 2 => ("CoverHouses$Clearing", "pays", "[I", true)
  | 3 => ("CoverHouses$Clearing", "gets", "[I", true)
  | 4 => ("CoverHouses$Clearing", "hasFailed", "[Z", true)
  | 5 => ("CoverHouses$Clearing", "net", "[I", true)
  | 6 => ("CoverHouses$Clearing", "spare", "[I", true)
  | 7 => ("CoverHouses$Clearing", "rounds", "I", false)
  | _ => ("CoverHouses$Clearing", "failures", "I", false)
def tyX1 : Nat → FieldType := fun k => match k with
  | 0 => .array .int
  | 1 => .array .int
  | 2 => .array .int
  | 3 => .array .int
  | 4 => .array .boolean
  | 5 => .array .int
  | 6 => .array .int
  | 7 => .int
  | _ => .int
abbrev wsX10 : List Cond := u_ws RX1 TX1 9
theorem nmX1 : ∀ a, a < 9 → ∀ b, b < 9 → a ≠ b → (TX1 a).2.1 ≠ (TX1 b).2.1 := by decide +kernel
theorem tyX1_ok : ∀ k, k < 9 → parseFieldDescriptor (TX1 k).2.2.1 = some (tyX1 k) := by decide +kernel
abbrev cX1_init : ByteArray := prog_3_method_1_code
def yX1_init : MethodName := ⟨RX1, "<init>", "()V"⟩
abbrev cX1_settleAll : ByteArray := prog_3_method_2_code
def yX1_settleAll : MethodName := ⟨RX1, "settleAll", "(LCoverHouses$Reckoning;I)V"⟩
abbrev cX1_takeNet : ByteArray := prog_3_method_3_code
def yX1_takeNet : MethodName := ⟨RX1, "takeNet", "(LCoverHouses$Reckoning;II)V"⟩
abbrev cX1_takeShares : ByteArray := prog_3_method_4_code
def yX1_takeShares : MethodName := ⟨RX1, "takeShares", "(I)V"⟩
abbrev cX1_payRound : ByteArray := prog_3_method_5_code
def yX1_payRound : MethodName := ⟨RX1, "payRound", "(I)Z"⟩
abbrev cX1_shareOf : ByteArray := prog_3_method_6_code
def yX1_shareOf : MethodName := ⟨RX1, "shareOf", "(II)I"⟩
def RX2 : String := "CoverHouses$Gathering"
def TX2 : u_T := fun k => match k with
  | 0 => ("CoverHouses$Gathering", "book", "LCoverHouses$Book;", true)
  | 1 => ("CoverHouses$Gathering", "found", "I", false)
  | 2 => ("CoverHouses$Gathering", "counted", "I", false)
  | 3 => ("CoverHouses$Gathering", "joined", "[I", true)
  | 4 => ("CoverHouses$Gathering", "firstLoss", "[I", true)
  | 5 => ("CoverHouses$Gathering", "size", "[I", true)
  | _ => ("CoverHouses$Gathering", "direct", "[I", true)
def tyX2 : Nat → FieldType := fun k => match k with
  | 0 => .object "CoverHouses$Book"
  | 1 => .int
  | 2 => .int
  | 3 => .array .int
  | 4 => .array .int
  | 5 => .array .int
  | _ => .array .int
abbrev wsX20 : List Cond := u_ws RX2 TX2 7
theorem nmX2 : ∀ a, a < 7 → ∀ b, b < 7 → a ≠ b → (TX2 a).2.1 ≠ (TX2 b).2.1 := by decide +kernel
theorem tyX2_ok : ∀ k, k < 7 → parseFieldDescriptor (TX2 k).2.2.1 = some (tyX2 k) := by decide +kernel
abbrev cX2_init : ByteArray := prog_4_method_1_code
def yX2_init : MethodName := ⟨RX2, "<init>", "(LCoverHouses$Book;)V"⟩
abbrev cX2_gather : ByteArray := prog_4_method_2_code
def yX2_gather : MethodName := ⟨RX2, "gather", "(LCoverHouses$Terms;III)V"⟩
abbrev cX2_eventToJoin : ByteArray := prog_4_method_3_code
def yX2_eventToJoin : MethodName := ⟨RX2, "eventToJoin", "(LCoverHouses$Terms;I)I"⟩
abbrev cX2_begin : ByteArray := prog_4_method_4_code
def yX2_begin : MethodName := ⟨RX2, "begin", "(I)I"⟩
abbrev cX2_join : ByteArray := prog_4_method_5_code
def yX2_join : MethodName := ⟨RX2, "join", "(III)V"⟩
def RX3 : String := "CoverHouses$Happening"
def TX3 : u_T := fun k => match k with
  | 0 => ("CoverHouses$Happening", "isSolved", "Z", false)
  | 1 => ("CoverHouses$Happening", "firstLoss", "I", false)
  | 2 => ("CoverHouses$Happening", "losses", "I", false)
  | 3 => ("CoverHouses$Happening", "cause", "I", false)
  | 4 => ("CoverHouses$Happening", "day", "I", false)
  | 5 => ("CoverHouses$Happening", "paying", "I", false)
  | 6 => ("CoverHouses$Happening", "rounds", "I", false)
  | 7 => ("CoverHouses$Happening", "isEndless", "Z", false)
  | 8 => ("CoverHouses$Happening", "direct", "[I", true)
  | 9 => ("CoverHouses$Happening", "gross", "[I", true)
  | 10 => ("CoverHouses$Happening", "rest", "[I", true)
  | 11 => ("CoverHouses$Happening", "room", "[I", true)
  | 12 => ("CoverHouses$Happening", "base", "[I", true)
  | 13 => ("CoverHouses$Happening", "use", "[I", true)
  | 14 => ("CoverHouses$Happening", "paid", "[I", true)
  | 15 => ("CoverHouses$Happening", "reinstated", "[I", true)
  | _ => ("CoverHouses$Happening", "premium", "[I", true)
def tyX3 : Nat → FieldType := fun k => match k with
  | 0 => .boolean
  | 1 => .int
  | 2 => .int
  | 3 => .int
  | 4 => .int
  | 5 => .int
  | 6 => .int
  | 7 => .boolean
  | 8 => .array .int
  | 9 => .array .int
  | 10 => .array .int
  | 11 => .array .int
  | 12 => .array .int
  | 13 => .array .int
  | 14 => .array .int
  | 15 => .array .int
  | _ => .array .int
abbrev wsX30 : List Cond := u_ws RX3 TX3 17
theorem nmX3 : ∀ a, a < 17 → ∀ b, b < 17 → a ≠ b → (TX3 a).2.1 ≠ (TX3 b).2.1 := by decide +kernel
theorem tyX3_ok : ∀ k, k < 17 → parseFieldDescriptor (TX3 k).2.2.1 = some (tyX3 k) := by decide +kernel
abbrev cX3_init : ByteArray := prog_5_method_1_code
def yX3_init : MethodName := ⟨RX3, "<init>", "()V"⟩
abbrev cX3_directOfAll : ByteArray := prog_5_method_2_code
def yX3_directOfAll : MethodName := ⟨RX3, "directOfAll", "()I"⟩
abbrev cX3_housesHit : ByteArray := prog_5_method_3_code
def yX3_housesHit : MethodName := ⟨RX3, "housesHit", "()I"⟩
abbrev cX3_isPaying : ByteArray := prog_5_method_4_code
def yX3_isPaying : MethodName := ⟨RX3, "isPaying", "(I)Z"⟩
abbrev cX3_payNothing : ByteArray := prog_5_method_5_code
def yX3_payNothing : MethodName := ⟨RX3, "payNothing", "()V"⟩
def RX4 : String := "CoverHouses$Reader"
def TX4 : u_T := fun k => match k with
  | 0 => ("CoverHouses$Reader", "tape", "LCoverHouses$Tape;", true)
  | 1 => ("CoverHouses$Reader", "houseNames", "[J", true)
  | 2 => ("CoverHouses$Reader", "treatyNames", "[J", true)
  | 3 => ("CoverHouses$Reader", "draft", "LCoverHouses$Terms;", false)
  | _ => ("CoverHouses$Reader", "fault", "I", false)
def tyX4 : Nat → FieldType := fun k => match k with
  | 0 => .object "CoverHouses$Tape"
  | 1 => .array .long
  | 2 => .array .long
  | 3 => .object "CoverHouses$Terms"
  | _ => .int
abbrev wsX40 : List Cond := u_ws RX4 TX4 5
theorem nmX4 : ∀ a, a < 5 → ∀ b, b < 5 → a ≠ b → (TX4 a).2.1 ≠ (TX4 b).2.1 := by decide +kernel
theorem tyX4_ok : ∀ k, k < 5 → parseFieldDescriptor (TX4 k).2.2.1 = some (tyX4 k) := by decide +kernel
abbrev cX4_init : ByteArray := prog_6_method_1_code
def yX4_init : MethodName := ⟨RX4, "<init>", "(LCoverHouses$Tape;)V"⟩
abbrev cX4_readDraft : ByteArray := prog_6_method_2_code
def yX4_readDraft : MethodName := ⟨RX4, "readDraft", "()I"⟩
abbrev cX4_readHouse : ByteArray := prog_6_method_3_code
def yX4_readHouse : MethodName := ⟨RX4, "readHouse", "()Z"⟩
abbrev cX4_readEvent : ByteArray := prog_6_method_4_code
def yX4_readEvent : MethodName := ⟨RX4, "readEvent", "()Z"⟩
abbrev cX4_readTreaty : ByteArray := prog_6_method_5_code
def yX4_readTreaty : MethodName := ⟨RX4, "readTreaty", "(Z)Z"⟩
abbrev cX4_readLimit : ByteArray := prog_6_method_6_code
def yX4_readLimit : MethodName := ⟨RX4, "readLimit", "(LCoverHouses$Treaty;)Z"⟩
abbrev cX4_readParts : ByteArray := prog_6_method_7_code
def yX4_readParts : MethodName := ⟨RX4, "readParts", "(LCoverHouses$Treaty;)Z"⟩
abbrev cX4_readPart : ByteArray := prog_6_method_8_code
def yX4_readPart : MethodName := ⟨RX4, "readPart", "(LCoverHouses$Treaty;)Z"⟩
abbrev cX4_readAgain : ByteArray := prog_6_method_9_code
def yX4_readAgain : MethodName := ⟨RX4, "readAgain", "(LCoverHouses$Treaty;)Z"⟩
abbrev cX4_readCondition : ByteArray := prog_6_method_10_code
def yX4_readCondition : MethodName := ⟨RX4, "readCondition", "(LCoverHouses$Treaty;)Z"⟩
abbrev cX4_readChain : ByteArray := prog_6_method_11_code
def yX4_readChain : MethodName := ⟨RX4, "readChain", "(II)Z"⟩
abbrev cX4_isOfLevel : ByteArray := prog_6_method_12_code
def yX4_isOfLevel : MethodName := ⟨RX4, "isOfLevel", "(II)Z"⟩
abbrev cX4_readValue : ByteArray := prog_6_method_13_code
def yX4_readValue : MethodName := ⟨RX4, "readValue", "(I)Z"⟩
abbrev cX4_isFact : ByteArray := prog_6_method_14_code
def yX4_isFact : MethodName := ⟨RX4, "isFact", "(I)Z"⟩
abbrev cX4_fail : ByteArray := prog_6_method_15_code
def yX4_fail : MethodName := ⟨RX4, "fail", "(I)Z"⟩
abbrev cX4_take : ByteArray := prog_6_method_16_code
def yX4_take : MethodName := ⟨RX4, "take", "(I)Z"⟩
abbrev cX4_isNumber : ByteArray := prog_6_method_17_code
def yX4_isNumber : MethodName := ⟨RX4, "isNumber", "(II)Z"⟩
abbrev cX4_isNewName : ByteArray := prog_6_method_18_code
def yX4_isNewName : MethodName := ⟨RX4, "isNewName", "()Z"⟩
abbrev cX4_houseHere : ByteArray := prog_6_method_19_code
def yX4_houseHere : MethodName := ⟨RX4, "houseHere", "()I"⟩
abbrev cX4_indexOf : ByteArray := prog_6_method_20_code
def yX4_indexOf : MethodName := ⟨RX4, "indexOf", "([JIJ)I"⟩
def RX5 : String := "CoverHouses$Reckoning"
def TX5 : u_T := fun k => match k with
  | 0 => ("CoverHouses$Reckoning", "book", "LCoverHouses$Book;", true)
  | 1 => ("CoverHouses$Reckoning", "gathering", "LCoverHouses$Gathering;", true)
  | 2 => ("CoverHouses$Reckoning", "owes", "[I", true)
  | 3 => ("CoverHouses$Reckoning", "direct", "[I", true)
  | 4 => ("CoverHouses$Reckoning", "rounds", "LCoverHouses$Rounds;", true)
  | 5 => ("CoverHouses$Reckoning", "happenings", "[LCoverHouses$Happening;", true)
  | 6 => ("CoverHouses$Reckoning", "used", "[I", true)
  | _ => ("CoverHouses$Reckoning", "reinstated", "[I", true)
def tyX5 : Nat → FieldType := fun k => match k with
  | 0 => .object "CoverHouses$Book"
  | 1 => .object "CoverHouses$Gathering"
  | 2 => .array .int
  | 3 => .array .int
  | 4 => .object "CoverHouses$Rounds"
  | 5 => .array (.object "CoverHouses$Happening")
  | 6 => .array .int
  | _ => .array .int
abbrev wsX50 : List Cond := u_ws RX5 TX5 8
theorem nmX5 : ∀ a, a < 8 → ∀ b, b < 8 → a ≠ b → (TX5 a).2.1 ≠ (TX5 b).2.1 := by decide +kernel
theorem tyX5_ok : ∀ k, k < 8 → parseFieldDescriptor (TX5 k).2.2.1 = some (tyX5 k) := by decide +kernel
abbrev cX5_init : ByteArray := prog_7_method_1_code
def yX5_init : MethodName := ⟨RX5, "<init>", "(LCoverHouses$Book;)V"⟩
abbrev cX5_happeningAt : ByteArray := prog_7_method_2_code
def yX5_happeningAt : MethodName := ⟨RX5, "happeningAt", "(I)LCoverHouses$Happening;"⟩
abbrev cX5_forgetSolved : ByteArray := prog_7_method_3_code
def yX5_forgetSolved : MethodName := ⟨RX5, "forgetSolved", "()V"⟩
abbrev cX5_reckon : ByteArray := prog_7_method_4_code
def yX5_reckon : MethodName := ⟨RX5, "reckon", "(LCoverHouses$Terms;III)V"⟩
abbrev cX5_leftOf : ByteArray := prog_7_method_5_code
def yX5_leftOf : MethodName := ⟨RX5, "leftOf", "(LCoverHouses$Terms;I)I"⟩
abbrev cX5_asksAnew : ByteArray := prog_7_method_6_code
def yX5_asksAnew : MethodName := ⟨RX5, "asksAnew", "(LCoverHouses$Happening;LCoverHouses$Terms;II)Z"⟩
abbrev cX5_settle : ByteArray := prog_7_method_7_code
def yX5_settle : MethodName := ⟨RX5, "settle", "(LCoverHouses$Happening;LCoverHouses$Terms;)V"⟩
abbrev cX5_reinstate : ByteArray := prog_7_method_8_code
def yX5_reinstate : MethodName := ⟨RX5, "reinstate", "(LCoverHouses$Happening;LCoverHouses$Treaty;I)V"⟩
abbrev cX5_owedBy : ByteArray := prog_7_method_9_code
def yX5_owedBy : MethodName := ⟨RX5, "owedBy", "(II)I"⟩
abbrev cX5_burdenOf : ByteArray := prog_7_method_10_code
def yX5_burdenOf : MethodName := ⟨RX5, "burdenOf", "(I)I"⟩
abbrev cX5_addDirect : ByteArray := prog_7_method_11_code
def yX5_addDirect : MethodName := ⟨RX5, "addDirect", "(LCoverHouses$Happening;)V"⟩
abbrev cX5_partsOweOwner : ByteArray := prog_7_method_12_code
def yX5_partsOweOwner : MethodName := ⟨RX5, "partsOweOwner", "(LCoverHouses$Treaty;I)V"⟩
abbrev cX5_ownerOwesParts : ByteArray := prog_7_method_13_code
def yX5_ownerOwesParts : MethodName := ⟨RX5, "ownerOwesParts", "(LCoverHouses$Treaty;I)V"⟩
abbrev cX5_addCommuted : ByteArray := prog_7_method_14_code
def yX5_addCommuted : MethodName := ⟨RX5, "addCommuted", "(LCoverHouses$Terms;I)V"⟩
def RX6 : String := "CoverHouses$Rounds"
def TX6 : u_T := fun k => match k with
  | 0 => ("CoverHouses$Rounds", "forOthers", "[I", true)
  | 1 => ("CoverHouses$Rounds", "hasMoved", "[Z", true)
  | _ => ("CoverHouses$Rounds", "partPaid", "[I", true)
def tyX6 : Nat → FieldType := fun k => match k with
  | 0 => .array .int
  | 1 => .array .boolean
  | _ => .array .int
abbrev wsX60 : List Cond := u_ws RX6 TX6 3
theorem nmX6 : ∀ a, a < 3 → ∀ b, b < 3 → a ≠ b → (TX6 a).2.1 ≠ (TX6 b).2.1 := by decide +kernel
theorem tyX6_ok : ∀ k, k < 3 → parseFieldDescriptor (TX6 k).2.2.1 = some (tyX6 k) := by decide +kernel
abbrev cX6_init : ByteArray := prog_8_method_1_code
def yX6_init : MethodName := ⟨RX6, "<init>", "()V"⟩
abbrev cX6_solve : ByteArray := prog_8_method_2_code
def yX6_solve : MethodName := ⟨RX6, "solve", "(LCoverHouses$Happening;LCoverHouses$Terms;)V"⟩
abbrev cX6_passOn : ByteArray := prog_8_method_3_code
def yX6_passOn : MethodName := ⟨RX6, "passOn", "(LCoverHouses$Happening;LCoverHouses$Terms;I)V"⟩
abbrev cX6_amountOf : ByteArray := prog_8_method_4_code
def yX6_amountOf : MethodName := ⟨RX6, "amountOf", "(LCoverHouses$Treaty;II)I"⟩
abbrev cX6_payParts : ByteArray := prog_8_method_5_code
def yX6_payParts : MethodName := ⟨RX6, "payParts", "(LCoverHouses$Treaty;II)I"⟩
abbrev cX6_takeOver : ByteArray := prog_8_method_6_code
def yX6_takeOver : MethodName := ⟨RX6, "takeOver", "(LCoverHouses$Happening;I)Z"⟩
abbrev cX6_isTooMuch : ByteArray := prog_8_method_7_code
def yX6_isTooMuch : MethodName := ⟨RX6, "isTooMuch", "(LCoverHouses$Happening;I)Z"⟩
abbrev cX6_partOf : ByteArray := prog_8_method_8_code
def yX6_partOf : MethodName := ⟨RX6, "partOf", "(II)I"⟩
def RX7 : String := "CoverHouses$Tape"
def TX7 : u_T := fun k => match k with
  | 0 => ("CoverHouses$Tape", "signs", "[C", true)
  | 1 => ("CoverHouses$Tape", "keywords", "[J", true)
  | 2 => ("CoverHouses$Tape", "end", "I", false)
  | 3 => ("CoverHouses$Tape", "length", "I", false)
  | 4 => ("CoverHouses$Tape", "kind", "I", false)
  | 5 => ("CoverHouses$Tape", "place", "I", false)
  | 6 => ("CoverHouses$Tape", "number", "I", false)
  | _ => ("CoverHouses$Tape", "letters", "J", false)
def tyX7 : Nat → FieldType := fun k => match k with
  | 0 => .array .char
  | 1 => .array .long
  | 2 => .int
  | 3 => .int
  | 4 => .int
  | 5 => .int
  | 6 => .int
  | _ => .long
abbrev wsX70 : List Cond := u_ws RX7 TX7 8
theorem nmX7 : ∀ a, a < 8 → ∀ b, b < 8 → a ≠ b → (TX7 a).2.1 ≠ (TX7 b).2.1 := by decide +kernel
theorem tyX7_ok : ∀ k, k < 8 → parseFieldDescriptor (TX7 k).2.2.1 = some (tyX7 k) := by decide +kernel
abbrev cX7_init : ByteArray := prog_9_method_1_code
def yX7_init : MethodName := ⟨RX7, "<init>", "()V"⟩
abbrev cX7_addBytes : ByteArray := prog_9_method_2_code
def yX7_addBytes : MethodName := ⟨RX7, "addBytes", "(J)V"⟩
abbrev cX7_startReading : ByteArray := prog_9_method_3_code
def yX7_startReading : MethodName := ⟨RX7, "startReading", "()V"⟩
abbrev cX7_advance : ByteArray := prog_9_method_4_code
def yX7_advance : MethodName := ⟨RX7, "advance", "()V"⟩
abbrev cX7_takeWord : ByteArray := prog_9_method_5_code
def yX7_takeWord : MethodName := ⟨RX7, "takeWord", "()V"⟩
abbrev cX7_takeNumber : ByteArray := prog_9_method_6_code
def yX7_takeNumber : MethodName := ⟨RX7, "takeNumber", "()V"⟩
def RX8 : String := "CoverHouses$Terms"
def TX8 : u_T := fun k => match k with
  | 0 => ("CoverHouses$Terms", "houseCount", "I", false)
  | 1 => ("CoverHouses$Terms", "treatyCount", "I", false)
  | 2 => ("CoverHouses$Terms", "treaties", "[LCoverHouses$Treaty;", true)
  | 3 => ("CoverHouses$Terms", "firstOf", "[I", true)
  | 4 => ("CoverHouses$Terms", "lastOf", "[I", true)
  | 5 => ("CoverHouses$Terms", "hours", "[I", true)
  | 6 => ("CoverHouses$Terms", "miles", "[I", true)
  | 7 => ("CoverHouses$Terms", "isCauseTold", "[Z", true)
  | 8 => ("CoverHouses$Terms", "code", "[I", true)
  | 9 => ("CoverHouses$Terms", "codeLength", "I", false)
  | _ => ("CoverHouses$Terms", "stack", "[I", true)
def tyX8 : Nat → FieldType := fun k => match k with
  | 0 => .int
  | 1 => .int
  | 2 => .array (.object "CoverHouses$Treaty")
  | 3 => .array .int
  | 4 => .array .int
  | 5 => .array .int
  | 6 => .array .int
  | 7 => .array .boolean
  | 8 => .array .int
  | 9 => .int
  | _ => .array .int
abbrev wsX80 : List Cond := u_ws RX8 TX8 11
theorem nmX8 : ∀ a, a < 11 → ∀ b, b < 11 → a ≠ b → (TX8 a).2.1 ≠ (TX8 b).2.1 := by decide +kernel
theorem tyX8_ok : ∀ k, k < 11 → parseFieldDescriptor (TX8 k).2.2.1 = some (tyX8 k) := by decide +kernel
abbrev cX8_init : ByteArray := prog_10_method_1_code
def yX8_init : MethodName := ⟨RX8, "<init>", "()V"⟩
abbrev cX8_clear : ByteArray := prog_10_method_2_code
def yX8_clear : MethodName := ⟨RX8, "clear", "()V"⟩
abbrev cX8_addHouse : ByteArray := prog_10_method_3_code
def yX8_addHouse : MethodName := ⟨RX8, "addHouse", "()V"⟩
abbrev cX8_addTreaty : ByteArray := prog_10_method_4_code
def yX8_addTreaty : MethodName := ⟨RX8, "addTreaty", "(IZ)LCoverHouses$Treaty;"⟩
abbrev cX8_addCode : ByteArray := prog_10_method_5_code
def yX8_addCode : MethodName := ⟨RX8, "addCode", "(I)V"⟩
abbrev cX8_commutedBy : ByteArray := prog_10_method_6_code
def yX8_commutedBy : MethodName := ⟨RX8, "commutedBy", "(I)I"⟩
abbrev cX8_payingTreaties : ByteArray := prog_10_method_7_code
def yX8_payingTreaties : MethodName := ⟨RX8, "payingTreaties", "(LCoverHouses$Happening;I)I"⟩
abbrev cX8_worth : ByteArray := prog_10_method_8_code
def yX8_worth : MethodName := ⟨RX8, "worth", "(LCoverHouses$Happening;LCoverHouses$Treaty;I)I"⟩
abbrev cX8_isJoin : ByteArray := prog_10_method_9_code
def yX8_isJoin : MethodName := ⟨RX8, "isJoin", "(I)Z"⟩
abbrev cX8_join : ByteArray := prog_10_method_10_code
def yX8_join : MethodName := ⟨RX8, "join", "(III)I"⟩
abbrev cX8_fact : ByteArray := prog_10_method_11_code
def yX8_fact : MethodName := ⟨RX8, "fact", "(ILCoverHouses$Happening;LCoverHouses$Treaty;I)I"⟩
def RX9 : String := "CoverHouses$Treaty"
def TX9 : u_T := fun k => match k with
  | 0 => ("CoverHouses$Treaty", "owner", "I", false)
  | 1 => ("CoverHouses$Treaty", "isLayer", "Z", false)
  | 2 => ("CoverHouses$Treaty", "isOwn", "Z", false)
  | 3 => ("CoverHouses$Treaty", "limit", "I", false)
  | 4 => ("CoverHouses$Treaty", "over", "I", false)
  | 5 => ("CoverHouses$Treaty", "again", "I", false)
  | 6 => ("CoverHouses$Treaty", "price", "I", false)
  | 7 => ("CoverHouses$Treaty", "parts", "I", false)
  | 8 => ("CoverHouses$Treaty", "partHouse", "[I", true)
  | 9 => ("CoverHouses$Treaty", "partShare", "[I", true)
  | 10 => ("CoverHouses$Treaty", "codeFrom", "I", false)
  | 11 => ("CoverHouses$Treaty", "codeTo", "I", false)
  | 12 => ("CoverHouses$Treaty", "following", "I", false)
  | 13 => ("CoverHouses$Treaty", "commutedDay", "I", false)
  | _ => ("CoverHouses$Treaty", "commutedSum", "I", false)
def tyX9 : Nat → FieldType := fun k => match k with
  | 0 => .int
  | 1 => .boolean
  | 2 => .boolean
  | 3 => .int
  | 4 => .int
  | 5 => .int
  | 6 => .int
  | 7 => .int
  | 8 => .array .int
  | 9 => .array .int
  | 10 => .int
  | 11 => .int
  | 12 => .int
  | 13 => .int
  | _ => .int
abbrev wsX90 : List Cond := u_ws RX9 TX9 15
theorem nmX9 : ∀ a, a < 15 → ∀ b, b < 15 → a ≠ b → (TX9 a).2.1 ≠ (TX9 b).2.1 := by decide +kernel
theorem tyX9_ok : ∀ k, k < 15 → parseFieldDescriptor (TX9 k).2.2.1 = some (tyX9 k) := by decide +kernel
abbrev cX9_init : ByteArray := prog_11_method_1_code
def yX9_init : MethodName := ⟨RX9, "<init>", "()V"⟩
abbrev cX9_begin : ByteArray := prog_11_method_2_code
def yX9_begin : MethodName := ⟨RX9, "begin", "(IZ)V"⟩
abbrev cX9_hasPart : ByteArray := prog_11_method_3_code
def yX9_hasPart : MethodName := ⟨RX9, "hasPart", "(I)Z"⟩
abbrev cX9_sharesTogether : ByteArray := prog_11_method_4_code
def yX9_sharesTogether : MethodName := ⟨RX9, "sharesTogether", "()I"⟩
abbrev cX9_addPart : ByteArray := prog_11_method_5_code
def yX9_addPart : MethodName := ⟨RX9, "addPart", "(II)V"⟩
abbrev cX9_isCommutedBy : ByteArray := prog_11_method_6_code
def yX9_isCommutedBy : MethodName := ⟨RX9, "isCommutedBy", "(I)Z"⟩
abbrev cX9_mostInAll : ByteArray := prog_11_method_7_code
def yX9_mostInAll : MethodName := ⟨RX9, "mostInAll", "()I"⟩
def RX10 : String := "CoverHouses$Trials"
def TX10 : u_T := fun k => match k with
  | 0 => ("CoverHouses$Trials", "reckoning", "LCoverHouses$Reckoning;", true)
  | 1 => ("CoverHouses$Trials", "haveSplits", "Z", false)
  | 2 => ("CoverHouses$Trials", "haveStorms", "Z", false)
  | 3 => ("CoverHouses$Trials", "wanted", "[I", true)
  | 4 => ("CoverHouses$Trials", "least", "[I", true)
  | 5 => ("CoverHouses$Trials", "isWorthTrying", "[Z", true)
  | 6 => ("CoverHouses$Trials", "burdens", "[I", true)
  | _ => ("CoverHouses$Trials", "present", "I", false)
def tyX10 : Nat → FieldType := fun k => match k with
  | 0 => .object "CoverHouses$Reckoning"
  | 1 => .boolean
  | 2 => .boolean
  | 3 => .array .int
  | 4 => .array .int
  | 5 => .array .boolean
  | 6 => .array .int
  | _ => .int
abbrev wsX100 : List Cond := u_ws RX10 TX10 8
theorem nmX10 : ∀ a, a < 8 → ∀ b, b < 8 → a ≠ b → (TX10 a).2.1 ≠ (TX10 b).2.1 := by decide +kernel
theorem tyX10_ok : ∀ k, k < 8 → parseFieldDescriptor (TX10 k).2.2.1 = some (tyX10 k) := by decide +kernel
abbrev cX10_init : ByteArray := prog_12_method_1_code
def yX10_init : MethodName := ⟨RX10, "<init>", "(LCoverHouses$Reckoning;)V"⟩
abbrev cX10_trySplits : ByteArray := prog_12_method_2_code
def yX10_trySplits : MethodName := ⟨RX10, "trySplits", "(LCoverHouses$Terms;II)V"⟩
abbrev cX10_markWorthTrying : ByteArray := prog_12_method_3_code
def yX10_markWorthTrying : MethodName := ⟨RX10, "markWorthTrying", "(I)V"⟩
abbrev cX10_keepBetter : ByteArray := prog_12_method_4_code
def yX10_keepBetter : MethodName := ⟨RX10, "keepBetter", "(II)V"⟩
abbrev cX10_tryStorms : ByteArray := prog_12_method_5_code
def yX10_tryStorms : MethodName := ⟨RX10, "tryStorms", "(LCoverHouses$Terms;II)V"⟩
abbrev cX10_stormsThatCount : ByteArray := prog_12_method_6_code
def yX10_stormsThatCount : MethodName := ⟨RX10, "stormsThatCount", "()I"⟩
abbrev cX10_worstSet : ByteArray := prog_12_method_7_code
def yX10_worstSet : MethodName := ⟨RX10, "worstSet", "(II)I"⟩
def RX11 : String := "CoverHouses"
def TX11 : u_T := fun k => match k with
  | 0 => ("CoverHouses", "tape", "LCoverHouses$Tape;", true)
  | 1 => ("CoverHouses", "reader", "LCoverHouses$Reader;", true)
  | 2 => ("CoverHouses", "book", "LCoverHouses$Book;", true)
  | 3 => ("CoverHouses", "reckoning", "LCoverHouses$Reckoning;", true)
  | 4 => ("CoverHouses", "trials", "LCoverHouses$Trials;", true)
  | 5 => ("CoverHouses", "clearing", "LCoverHouses$Clearing;", true)
  | 6 => ("CoverHouses", "terms", "LCoverHouses$Terms;", false)
  | 7 => ("CoverHouses", "now", "I", false)
  | 8 => ("CoverHouses", "toldView", "I", false)
  | 9 => ("CoverHouses", "leftOut", "I", false)
  | 10 => ("CoverHouses", "reckoned", "Z", false)
  | _ => ("CoverHouses", "cleared", "Z", false)
def tyX11 : Nat → FieldType := fun k => match k with
  | 0 => .object "CoverHouses$Tape"
  | 1 => .object "CoverHouses$Reader"
  | 2 => .object "CoverHouses$Book"
  | 3 => .object "CoverHouses$Reckoning"
  | 4 => .object "CoverHouses$Trials"
  | 5 => .object "CoverHouses$Clearing"
  | 6 => .object "CoverHouses$Terms"
  | 7 => .int
  | 8 => .int
  | 9 => .int
  | 10 => .boolean
  | _ => .boolean
abbrev wsX110 : List Cond := u_ws RX11 TX11 12
theorem nmX11 : ∀ a, a < 12 → ∀ b, b < 12 → a ≠ b → (TX11 a).2.1 ≠ (TX11 b).2.1 := by decide +kernel
theorem tyX11_ok : ∀ k, k < 12 → parseFieldDescriptor (TX11 k).2.2.1 = some (tyX11 k) := by decide +kernel
abbrev cX11_init : ByteArray := prog_1_method_1_code
def yX11_init : MethodName := ⟨RX11, "<init>", "()V"⟩
abbrev cX11_days : ByteArray := prog_1_method_2_code
def yX11_days : MethodName := ⟨RX11, "days", "(I)I"⟩
abbrev cX11_view : ByteArray := prog_1_method_3_code
def yX11_view : MethodName := ⟨RX11, "view", "(I)Z"⟩
abbrev cX11_feed : ByteArray := prog_1_method_4_code
def yX11_feed : MethodName := ⟨RX11, "feed", "(JJJ)I"⟩
abbrev cX11_wording : ByteArray := prog_1_method_5_code
def yX11_wording : MethodName := ⟨RX11, "wording", "()I"⟩
abbrev cX11_loss : ByteArray := prog_1_method_6_code
def yX11_loss : MethodName := ⟨RX11, "loss", "(IIIIII)I"⟩
abbrev cX11_word : ByteArray := prog_1_method_7_code
def yX11_word : MethodName := ⟨RX11, "word", "(II)Z"⟩
abbrev cX11_split : ByteArray := prog_1_method_8_code
def yX11_split : MethodName := ⟨RX11, "split", "(IZ)Z"⟩
abbrev cX11_leave : ByteArray := prog_1_method_9_code
def yX11_leave : MethodName := ⟨RX11, "leave", "(IZ)Z"⟩
abbrev cX11_events : ByteArray := prog_1_method_10_code
def yX11_events : MethodName := ⟨RX11, "events", "()I"⟩
abbrev cX11_event : ByteArray := prog_1_method_11_code
def yX11_event : MethodName := ⟨RX11, "event", "(II)I"⟩
abbrev cX11_eventOf : ByteArray := prog_1_method_12_code
def yX11_eventOf : MethodName := ⟨RX11, "eventOf", "(I)I"⟩
abbrev cX11_gross : ByteArray := prog_1_method_13_code
def yX11_gross : MethodName := ⟨RX11, "gross", "(III)I"⟩
abbrev cX11_treaty : ByteArray := prog_1_method_14_code
def yX11_treaty : MethodName := ⟨RX11, "treaty", "(III)I"⟩
abbrev cX11_left : ByteArray := prog_1_method_15_code
def yX11_left : MethodName := ⟨RX11, "left", "(I)I"⟩
abbrev cX11_commute : ByteArray := prog_1_method_16_code
def yX11_commute : MethodName := ⟨RX11, "commute", "(II)Z"⟩
abbrev cX11_owed : ByteArray := prog_1_method_17_code
def yX11_owed : MethodName := ⟨RX11, "owed", "(II)I"⟩
abbrev cX11_bears : ByteArray := prog_1_method_18_code
def yX11_bears : MethodName := ⟨RX11, "bears", "(I)I"⟩
abbrev cX11_wants : ByteArray := prog_1_method_19_code
def yX11_wants : MethodName := ⟨RX11, "wants", "(I)I"⟩
abbrev cX11_worst : ByteArray := prog_1_method_20_code
def yX11_worst : MethodName := ⟨RX11, "worst", "(II)I"⟩
abbrev cX11_purse : ByteArray := prog_1_method_21_code
def yX11_purse : MethodName := ⟨RX11, "purse", "(II)Z"⟩
abbrev cX11_clears : ByteArray := prog_1_method_22_code
def yX11_clears : MethodName := ⟨RX11, "clears", "(II)I"⟩
abbrev cX11_known : ByteArray := prog_1_method_23_code
def yX11_known : MethodName := ⟨RX11, "known", "(III)I"⟩
abbrev cX11_factor : ByteArray := prog_1_method_24_code
def yX11_factor : MethodName := ⟨RX11, "factor", "(II)I"⟩
abbrev cX11_foretold : ByteArray := prog_1_method_25_code
def yX11_foretold : MethodName := ⟨RX11, "foretold", "(II)I"⟩
abbrev cX11_look : ByteArray := prog_1_method_26_code
def yX11_look : MethodName := ⟨RX11, "look", "(II)I"⟩
abbrev cX11_count : ByteArray := prog_1_method_27_code
def yX11_count : MethodName := ⟨RX11, "count", "(I)I"⟩
abbrev cX11_isWithin : ByteArray := prog_1_method_28_code
def yX11_isWithin : MethodName := ⟨RX11, "isWithin", "(II)Z"⟩
abbrev cX11_isLoss : ByteArray := prog_1_method_29_code
def yX11_isLoss : MethodName := ⟨RX11, "isLoss", "(I)Z"⟩
abbrev cX11_isHouse : ByteArray := prog_1_method_30_code
def yX11_isHouse : MethodName := ⟨RX11, "isHouse", "(I)Z"⟩
abbrev cX11_isTreaty : ByteArray := prog_1_method_31_code
def yX11_isTreaty : MethodName := ⟨RX11, "isTreaty", "(I)Z"⟩
abbrev cX11_isEvent : ByteArray := prog_1_method_32_code
def yX11_isEvent : MethodName := ⟨RX11, "isEvent", "(I)Z"⟩
abbrev cX11_viewDay : ByteArray := prog_1_method_33_code
def yX11_viewDay : MethodName := ⟨RX11, "viewDay", "()I"⟩
abbrev cX11_stormsIn : ByteArray := prog_1_method_34_code
def yX11_stormsIn : MethodName := ⟨RX11, "stormsIn", "()I"⟩
abbrev cX11_forgetAnswers : ByteArray := prog_1_method_35_code
def yX11_forgetAnswers : MethodName := ⟨RX11, "forgetAnswers", "()V"⟩
abbrev cX11_reckonIfNeeded : ByteArray := prog_1_method_36_code
def yX11_reckonIfNeeded : MethodName := ⟨RX11, "reckonIfNeeded", "()V"⟩
abbrev cX11_clearIfNeeded : ByteArray := prog_1_method_37_code
def yX11_clearIfNeeded : MethodName := ⟨RX11, "clearIfNeeded", "()V"⟩
def RX12 : String := "CoverHousesModel"
def TX12 : u_T := fun k => match k with
  | 0 => ("CoverHousesModel", "thrown", "I", false)
  | 1 => ("CoverHousesModel", "tape", "[I", true)
  | 2 => ("CoverHousesModel", "taped", "I", false)
  | 3 => ("CoverHousesModel", "size", "I", false)
  | 4 => ("CoverHousesModel", "sort", "[I", true)
  | 5 => ("CoverHousesModel", "place", "[I", true)
  | 6 => ("CoverHousesModel", "value", "[J", true)
  | 7 => ("CoverHousesModel", "at", "I", false)
  | 8 => ("CoverHousesModel", "fault", "I", false)
  | 9 => ("CoverHousesModel", "words", "[J", true)
  | 10 => ("CoverHousesModel", "holds", "I", false)
  | 11 => ("CoverHousesModel", "next", "I", false)
  | 12 => ("CoverHousesModel", "houses", "[I", true)
  | 13 => ("CoverHousesModel", "houseName", "[J", true)
  | 14 => ("CoverHousesModel", "isEventTold", "[Z", true)
  | 15 => ("CoverHousesModel", "hours", "[I", true)
  | 16 => ("CoverHousesModel", "miles", "[I", true)
  | 17 => ("CoverHousesModel", "treaties", "[I", true)
  | 18 => ("CoverHousesModel", "treatyName", "[J", true)
  | 19 => ("CoverHousesModel", "isLayer", "[Z", true)
  | 20 => ("CoverHousesModel", "treatyOf", "[I", true)
  | 21 => ("CoverHousesModel", "isOwn", "[Z", true)
  | 22 => ("CoverHousesModel", "limit", "[I", true)
  | 23 => ("CoverHousesModel", "over", "[I", true)
  | 24 => ("CoverHousesModel", "again", "[I", true)
  | 25 => ("CoverHousesModel", "premium", "[I", true)
  | 26 => ("CoverHousesModel", "parts", "[I", true)
  | 27 => ("CoverHousesModel", "partN", "[I", true)
  | 28 => ("CoverHousesModel", "partTo", "[I", true)
  | 29 => ("CoverHousesModel", "when", "[I", true)
  | 30 => ("CoverHousesModel", "codes", "I", false)
  | 31 => ("CoverHousesModel", "op", "[I", true)
  | 32 => ("CoverHousesModel", "one", "[I", true)
  | 33 => ("CoverHousesModel", "known", "[I", true)
  | 34 => ("CoverHousesModel", "pile", "[I", true)
  | 35 => ("CoverHousesModel", "now", "I", false)
  | 36 => ("CoverHousesModel", "viewed", "I", false)
  | 37 => ("CoverHousesModel", "losses", "I", false)
  | 38 => ("CoverHousesModel", "houseOf", "[I", true)
  | 39 => ("CoverHousesModel", "hourOf", "[I", true)
  | 40 => ("CoverHousesModel", "placeOf", "[I", true)
  | 41 => ("CoverHousesModel", "causeOf", "[I", true)
  | 42 => ("CoverHousesModel", "stormOf", "[I", true)
  | 43 => ("CoverHousesModel", "isSplit", "[Z", true)
  | 44 => ("CoverHousesModel", "isLeft", "[Z", true)
  | 45 => ("CoverHousesModel", "told", "I", false)
  | 46 => ("CoverHousesModel", "wordOf", "[I", true)
  | 47 => ("CoverHousesModel", "wordOn", "[I", true)
  | 48 => ("CoverHousesModel", "wordAmount", "[I", true)
  | 49 => ("CoverHousesModel", "splitToo", "I", false)
  | 50 => ("CoverHousesModel", "stormSet", "I", false)
  | 51 => ("CoverHousesModel", "counted", "I", false)
  | 52 => ("CoverHousesModel", "line", "[I", true)
  | 53 => ("CoverHousesModel", "amount", "[I", true)
  | 54 => ("CoverHousesModel", "eventsMany", "I", false)
  | 55 => ("CoverHousesModel", "firstLoss", "[I", true)
  | 56 => ("CoverHousesModel", "manyIn", "[I", true)
  | 57 => ("CoverHousesModel", "eventOf", "[I", true)
  | 58 => ("CoverHousesModel", "rounds", "[I", true)
  | 59 => ("CoverHousesModel", "isEndless", "[Z", true)
  | 60 => ("CoverHousesModel", "direct", "[J", true)
  | 61 => ("CoverHousesModel", "gross", "[J", true)
  | 62 => ("CoverHousesModel", "behind", "[J", true)
  | 63 => ("CoverHousesModel", "bases", "[J", true)
  | 64 => ("CoverHousesModel", "uses", "[J", true)
  | 65 => ("CoverHousesModel", "pays", "[J", true)
  | 66 => ("CoverHousesModel", "restored", "[J", true)
  | 67 => ("CoverHousesModel", "premiums", "[J", true)
  | 68 => ("CoverHousesModel", "usedAhead", "[J", true)
  | 69 => ("CoverHousesModel", "restoredAhead", "[J", true)
  | 70 => ("CoverHousesModel", "commutedOn", "[I", true)
  | 71 => ("CoverHousesModel", "commutedBy", "[I", true)
  | 72 => ("CoverHousesModel", "owed", "[J", true)
  | 73 => ("CoverHousesModel", "isPaying", "[Z", true)
  | 74 => ("CoverHousesModel", "then", "[J", true)
  | 75 => ("CoverHousesModel", "all", "[J", true)
  | 76 => ("CoverHousesModel", "own", "[J", true)
  | 77 => ("CoverHousesModel", "purse", "[I", true)
  | 78 => ("CoverHousesModel", "net", "[J", true)
  | 79 => ("CoverHousesModel", "netAll", "[J", true)
  | 80 => ("CoverHousesModel", "purseLeft", "[J", true)
  | 81 => ("CoverHousesModel", "paid", "[J", true)
  | 82 => ("CoverHousesModel", "gets", "[J", true)
  | _ => ("CoverHousesModel", "clearings", "I", false)
def tyX12 : Nat → FieldType := fun k => match k with
  | 0 => .int
  | 1 => .array .int
  | 2 => .int
  | 3 => .int
  | 4 => .array .int
  | 5 => .array .int
  | 6 => .array .long
  | 7 => .int
  | 8 => .int
  | 9 => .array .long
  | 10 => .int
  | 11 => .int
  | 12 => .array .int
  | 13 => .array .long
  | 14 => .array .boolean
  | 15 => .array .int
  | 16 => .array .int
  | 17 => .array .int
  | 18 => .array .long
  | 19 => .array .boolean
  | 20 => .array .int
  | 21 => .array .boolean
  | 22 => .array .int
  | 23 => .array .int
  | 24 => .array .int
  | 25 => .array .int
  | 26 => .array .int
  | 27 => .array .int
  | 28 => .array .int
  | 29 => .array .int
  | 30 => .int
  | 31 => .array .int
  | 32 => .array .int
  | 33 => .array .int
  | 34 => .array .int
  | 35 => .int
  | 36 => .int
  | 37 => .int
  | 38 => .array .int
  | 39 => .array .int
  | 40 => .array .int
  | 41 => .array .int
  | 42 => .array .int
  | 43 => .array .boolean
  | 44 => .array .boolean
  | 45 => .int
  | 46 => .array .int
  | 47 => .array .int
  | 48 => .array .int
  | 49 => .int
  | 50 => .int
  | 51 => .int
  | 52 => .array .int
  | 53 => .array .int
  | 54 => .int
  | 55 => .array .int
  | 56 => .array .int
  | 57 => .array .int
  | 58 => .array .int
  | 59 => .array .boolean
  | 60 => .array .long
  | 61 => .array .long
  | 62 => .array .long
  | 63 => .array .long
  | 64 => .array .long
  | 65 => .array .long
  | 66 => .array .long
  | 67 => .array .long
  | 68 => .array .long
  | 69 => .array .long
  | 70 => .array .int
  | 71 => .array .int
  | 72 => .array .long
  | 73 => .array .boolean
  | 74 => .array .long
  | 75 => .array .long
  | 76 => .array .long
  | 77 => .array .int
  | 78 => .array .long
  | 79 => .array .long
  | 80 => .array .long
  | 81 => .array .long
  | 82 => .array .long
  | _ => .int
abbrev wsX120 : List Cond := u_ws RX12 TX12 84
theorem nmX12 : ∀ a, a < 84 → ∀ b, b < 84 → a ≠ b → (TX12 a).2.1 ≠ (TX12 b).2.1 := by decide +kernel
theorem tyX12_ok : ∀ k, k < 84 → parseFieldDescriptor (TX12 k).2.2.1 = some (tyX12 k) := by decide +kernel
abbrev cX12_thrown : ByteArray := prog_14_method_1_code
def yX12_thrown : MethodName := ⟨RX12, "thrown", "()I"⟩
abbrev cX12_feed : ByteArray := prog_14_method_2_code
def yX12_feed : MethodName := ⟨RX12, "feed", "(JJJ)I"⟩
abbrev cX12_lay : ByteArray := prog_14_method_3_code
def yX12_lay : MethodName := ⟨RX12, "lay", "(J)V"⟩
abbrev cX12_init : ByteArray := prog_14_method_4_code
def yX12_init : MethodName := ⟨RX12, "<init>", "()V"⟩
abbrev cX12_isLetter : ByteArray := prog_14_method_5_code
def yX12_isLetter : MethodName := ⟨RX12, "isLetter", "(I)Z"⟩
abbrev cX12_isDigit : ByteArray := prog_14_method_6_code
def yX12_isDigit : MethodName := ⟨RX12, "isDigit", "(I)Z"⟩
abbrev cX12_rank : ByteArray := prog_14_method_7_code
def yX12_rank : MethodName := ⟨RX12, "rank", "(I)I"⟩
abbrev cX12_isSignOf : ByteArray := prog_14_method_8_code
def yX12_isSignOf : MethodName := ⟨RX12, "isSignOf", "(I)Z"⟩
abbrev cX12_cutAll : ByteArray := prog_14_method_9_code
def yX12_cutAll : MethodName := ⟨RX12, "cutAll", "()V"⟩
abbrev cX12_wrong : ByteArray := prog_14_method_10_code
def yX12_wrong : MethodName := ⟨RX12, "wrong", "(I)V"⟩
abbrev cX12_isSign : ByteArray := prog_14_method_11_code
def yX12_isSign : MethodName := ⟨RX12, "isSign", "(I)Z"⟩
abbrev cX12_isWord : ByteArray := prog_14_method_12_code
def yX12_isWord : MethodName := ⟨RX12, "isWord", "(I)Z"⟩
abbrev cX12_takeSign : ByteArray := prog_14_method_13_code
def yX12_takeSign : MethodName := ⟨RX12, "takeSign", "(I)V"⟩
abbrev cX12_hasSign : ByteArray := prog_14_method_14_code
def yX12_hasSign : MethodName := ⟨RX12, "hasSign", "(I)Z"⟩
abbrev cX12_hasWord : ByteArray := prog_14_method_15_code
def yX12_hasWord : MethodName := ⟨RX12, "hasWord", "(I)Z"⟩
abbrev cX12_takeWord : ByteArray := prog_14_method_16_code
def yX12_takeWord : MethodName := ⟨RX12, "takeWord", "(I)V"⟩
abbrev cX12_emit : ByteArray := prog_14_method_17_code
def yX12_emit : MethodName := ⟨RX12, "emit", "(II)V"⟩
abbrev cX12_wording : ByteArray := prog_14_method_18_code
def yX12_wording : MethodName := ⟨RX12, "wording", "()I"⟩
abbrev cX12_line : ByteArray := prog_14_method_19_code
def yX12_line : MethodName := ⟨RX12, "line", "()V"⟩
abbrev cX12_takeNumber : ByteArray := prog_14_method_20_code
def yX12_takeNumber : MethodName := ⟨RX12, "takeNumber", "(JJ)J"⟩
abbrev cX12_isName : ByteArray := prog_14_method_21_code
def yX12_isName : MethodName := ⟨RX12, "isName", "()Z"⟩
abbrev cX12_findHouse : ByteArray := prog_14_method_22_code
def yX12_findHouse : MethodName := ⟨RX12, "findHouse", "()I"⟩
abbrev cX12_isTold : ByteArray := prog_14_method_23_code
def yX12_isTold : MethodName := ⟨RX12, "isTold", "()Z"⟩
abbrev cX12_takeNewName : ByteArray := prog_14_method_24_code
def yX12_takeNewName : MethodName := ⟨RX12, "takeNewName", "()J"⟩
abbrev cX12_takeHouse : ByteArray := prog_14_method_25_code
def yX12_takeHouse : MethodName := ⟨RX12, "takeHouse", "()I"⟩
abbrev cX12_readHouse : ByteArray := prog_14_method_26_code
def yX12_readHouse : MethodName := ⟨RX12, "readHouse", "()V"⟩
abbrev cX12_readEvent : ByteArray := prog_14_method_27_code
def yX12_readEvent : MethodName := ⟨RX12, "readEvent", "()V"⟩
abbrev cX12_readTreaty : ByteArray := prog_14_method_28_code
def yX12_readTreaty : MethodName := ⟨RX12, "readTreaty", "()V"⟩
abbrev cX12_readPart : ByteArray := prog_14_method_29_code
def yX12_readPart : MethodName := ⟨RX12, "readPart", "(I)V"⟩
abbrev cX12_all : ByteArray := prog_14_method_30_code
def yX12_all : MethodName := ⟨RX12, "all", "(I)V"⟩
abbrev cX12_test : ByteArray := prog_14_method_31_code
def yX12_test : MethodName := ⟨RX12, "test", "(I)V"⟩
abbrev cX12_sums : ByteArray := prog_14_method_32_code
def yX12_sums : MethodName := ⟨RX12, "sums", "(I)V"⟩
abbrev cX12_takeValue : ByteArray := prog_14_method_33_code
def yX12_takeValue : MethodName := ⟨RX12, "takeValue", "(I)V"⟩
abbrev cX12_worth : ByteArray := prog_14_method_34_code
def yX12_worth : MethodName := ⟨RX12, "worth", "(I)I"⟩
abbrev cX12_both : ByteArray := prog_14_method_35_code
def yX12_both : MethodName := ⟨RX12, "both", "(III)I"⟩
abbrev cX12_within : ByteArray := prog_14_method_36_code
def yX12_within : MethodName := ⟨RX12, "within", "(III)Z"⟩
abbrev cX12_days : ByteArray := prog_14_method_37_code
def yX12_days : MethodName := ⟨RX12, "days", "(I)I"⟩
abbrev cX12_view : ByteArray := prog_14_method_38_code
def yX12_view : MethodName := ⟨RX12, "view", "(I)Z"⟩
abbrev cX12_viewDay : ByteArray := prog_14_method_39_code
def yX12_viewDay : MethodName := ⟨RX12, "viewDay", "()I"⟩
abbrev cX12_loss : ByteArray := prog_14_method_40_code
def yX12_loss : MethodName := ⟨RX12, "loss", "(IIIIII)I"⟩
abbrev cX12_tells : ByteArray := prog_14_method_41_code
def yX12_tells : MethodName := ⟨RX12, "tells", "(II)V"⟩
abbrev cX12_isLoss : ByteArray := prog_14_method_42_code
def yX12_isLoss : MethodName := ⟨RX12, "isLoss", "(I)Z"⟩
abbrev cX12_word : ByteArray := prog_14_method_43_code
def yX12_word : MethodName := ⟨RX12, "word", "(II)Z"⟩
abbrev cX12_split : ByteArray := prog_14_method_44_code
def yX12_split : MethodName := ⟨RX12, "split", "(IZ)Z"⟩
abbrev cX12_leave : ByteArray := prog_14_method_45_code
def yX12_leave : MethodName := ⟨RX12, "leave", "(IZ)Z"⟩
abbrev cX12_amountOn : ByteArray := prog_14_method_46_code
def yX12_amountOn : MethodName := ⟨RX12, "amountOn", "(II)I"⟩
abbrev cX12_isCounted : ByteArray := prog_14_method_47_code
def yX12_isCounted : MethodName := ⟨RX12, "isCounted", "(I)Z"⟩
abbrev cX12_findEvents : ByteArray := prog_14_method_48_code
def yX12_findEvents : MethodName := ⟨RX12, "findEvents", "()V"⟩
abbrev cX12_eventFor : ByteArray := prog_14_method_49_code
def yX12_eventFor : MethodName := ⟨RX12, "eventFor", "(I)I"⟩
abbrev cX12_isCommuted : ByteArray := prog_14_method_50_code
def yX12_isCommuted : MethodName := ⟨RX12, "isCommuted", "(I)Z"⟩
abbrev cX12_settles : ByteArray := prog_14_method_51_code
def yX12_settles : MethodName := ⟨RX12, "settles", "(II)V"⟩
abbrev cX12_findDirect : ByteArray := prog_14_method_52_code
def yX12_findDirect : MethodName := ⟨RX12, "findDirect", "(I)V"⟩
abbrev cX12_settle : ByteArray := prog_14_method_53_code
def yX12_settle : MethodName := ⟨RX12, "settle", "(I)V"⟩
abbrev cX12_round : ByteArray := prog_14_method_54_code
def yX12_round : MethodName := ⟨RX12, "round", "(I)V"⟩
abbrev cX12_acts : ByteArray := prog_14_method_55_code
def yX12_acts : MethodName := ⟨RX12, "acts", "(II)V"⟩
abbrev cX12_closes : ByteArray := prog_14_method_56_code
def yX12_closes : MethodName := ⟨RX12, "closes", "(I)V"⟩
abbrev cX12_settlesAll : ByteArray := prog_14_method_57_code
def yX12_settlesAll : MethodName := ⟨RX12, "settlesAll", "()V"⟩
abbrev cX12_events : ByteArray := prog_14_method_58_code
def yX12_events : MethodName := ⟨RX12, "events", "()I"⟩
abbrev cX12_event : ByteArray := prog_14_method_59_code
def yX12_event : MethodName := ⟨RX12, "event", "(II)I"⟩
abbrev cX12_eventOf : ByteArray := prog_14_method_60_code
def yX12_eventOf : MethodName := ⟨RX12, "eventOf", "(I)I"⟩
abbrev cX12_isHouse : ByteArray := prog_14_method_61_code
def yX12_isHouse : MethodName := ⟨RX12, "isHouse", "(I)Z"⟩
abbrev cX12_gross : ByteArray := prog_14_method_62_code
def yX12_gross : MethodName := ⟨RX12, "gross", "(III)I"⟩
abbrev cX12_isTreaty : ByteArray := prog_14_method_63_code
def yX12_isTreaty : MethodName := ⟨RX12, "isTreaty", "(I)Z"⟩
abbrev cX12_treaty : ByteArray := prog_14_method_64_code
def yX12_treaty : MethodName := ⟨RX12, "treaty", "(III)I"⟩
abbrev cX12_left : ByteArray := prog_14_method_65_code
def yX12_left : MethodName := ⟨RX12, "left", "(I)I"⟩
abbrev cX12_commute : ByteArray := prog_14_method_66_code
def yX12_commute : MethodName := ⟨RX12, "commute", "(II)Z"⟩
abbrev cX12_owed : ByteArray := prog_14_method_67_code
def yX12_owed : MethodName := ⟨RX12, "owed", "(II)I"⟩
abbrev cX12_bearsNow : ByteArray := prog_14_method_68_code
def yX12_bearsNow : MethodName := ⟨RX12, "bearsNow", "(I)J"⟩
abbrev cX12_directOf : ByteArray := prog_14_method_69_code
def yX12_directOf : MethodName := ⟨RX12, "directOf", "(I)J"⟩
abbrev cX12_bears : ByteArray := prog_14_method_70_code
def yX12_bears : MethodName := ⟨RX12, "bears", "(I)I"⟩
abbrev cX12_wants : ByteArray := prog_14_method_71_code
def yX12_wants : MethodName := ⟨RX12, "wants", "(I)I"⟩
abbrev cX12_bits : ByteArray := prog_14_method_72_code
def yX12_bits : MethodName := ⟨RX12, "bits", "(I)I"⟩
abbrev cX12_worst : ByteArray := prog_14_method_73_code
def yX12_worst : MethodName := ⟨RX12, "worst", "(II)I"⟩
abbrev cX12_purse : ByteArray := prog_14_method_74_code
def yX12_purse : MethodName := ⟨RX12, "purse", "(II)Z"⟩
abbrev cX12_findGets : ByteArray := prog_14_method_75_code
def yX12_findGets : MethodName := ⟨RX12, "findGets", "()V"⟩
abbrev cX12_clearsAll : ByteArray := prog_14_method_76_code
def yX12_clearsAll : MethodName := ⟨RX12, "clearsAll", "()V"⟩
abbrev cX12_hasFailed : ByteArray := prog_14_method_77_code
def yX12_hasFailed : MethodName := ⟨RX12, "hasFailed", "(I)Z"⟩
abbrev cX12_clears : ByteArray := prog_14_method_78_code
def yX12_clears : MethodName := ⟨RX12, "clears", "(II)I"⟩
abbrev cX12_canBeKnown : ByteArray := prog_14_method_79_code
def yX12_canBeKnown : MethodName := ⟨RX12, "canBeKnown", "(II)Z"⟩
abbrev cX12_knownOf : ByteArray := prog_14_method_80_code
def yX12_knownOf : MethodName := ⟨RX12, "knownOf", "(III)I"⟩
abbrev cX12_known : ByteArray := prog_14_method_81_code
def yX12_known : MethodName := ⟨RX12, "known", "(III)I"⟩
abbrev cX12_factorOf : ByteArray := prog_14_method_82_code
def yX12_factorOf : MethodName := ⟨RX12, "factorOf", "(II)I"⟩
abbrev cX12_factor : ByteArray := prog_14_method_83_code
def yX12_factor : MethodName := ⟨RX12, "factor", "(II)I"⟩
abbrev cX12_foretold : ByteArray := prog_14_method_84_code
def yX12_foretold : MethodName := ⟨RX12, "foretold", "(II)I"⟩
abbrev cX12_look : ByteArray := prog_14_method_85_code
def yX12_look : MethodName := ⟨RX12, "look", "(II)I"⟩
abbrev cX12_failed : ByteArray := prog_14_method_86_code
def yX12_failed : MethodName := ⟨RX12, "failed", "()I"⟩
abbrev cX12_count : ByteArray := prog_14_method_87_code
def yX12_count : MethodName := ⟨RX12, "count", "(I)I"⟩
def RJ11 : String := "java/lang/Character"
abbrev cJ11_isValidCodePoint_9a6ad : ByteArray := prog_15_method_11_code
def yJ11_isValidCodePoint_9a6ad : MethodName := ⟨RJ11, "isValidCodePoint", "(I)Z"⟩
abbrev cJ11_highSurrogate_5068e : ByteArray := prog_15_method_28_code
def yJ11_highSurrogate_5068e : MethodName := ⟨RJ11, "highSurrogate", "(I)C"⟩
abbrev cJ11_lowSurrogate_5068e : ByteArray := prog_15_method_29_code
def yJ11_lowSurrogate_5068e : MethodName := ⟨RJ11, "lowSurrogate", "(I)C"⟩
def RJ6 : String := "java/lang/Integer"
abbrev cJ6_bitCount_0f7a4 : ByteArray := prog_17_method_49_code
def yJ6_bitCount_0f7a4 : MethodName := ⟨RJ6, "bitCount", "(I)I"⟩
def RJ9 : String := "java/lang/Math"
abbrev cJ9_abs_0f7a4 : ByteArray := prog_18_method_59_code
def yJ9_abs_0f7a4 : MethodName := ⟨RJ9, "abs", "(I)I"⟩
abbrev cJ9_max_7cf53 : ByteArray := prog_18_method_65_code
def yJ9_max_7cf53 : MethodName := ⟨RJ9, "max", "(II)I"⟩
abbrev cJ9_min_7cf53 : ByteArray := prog_18_method_69_code
def yJ9_min_7cf53 : MethodName := ⟨RJ9, "min", "(II)I"⟩
abbrev cJ9_min_f86c9 : ByteArray := prog_18_method_70_code
def yJ9_min_f86c9 : MethodName := ⟨RJ9, "min", "(JJ)J"⟩
def RJ0 : String := "java/lang/String"
abbrev cJ0_length_8abf5 : ByteArray := prog_20_method_54_code
def yJ0_length_8abf5 : MethodName := ⟨RJ0, "length", "()I"⟩
abbrev cJ0_charAt_5068e : ByteArray := prog_20_method_56_code
def yJ0_charAt_5068e : MethodName := ⟨RJ0, "charAt", "(I)C"⟩
abbrev cJ0_indexOf_0f7a4 : ByteArray := prog_20_method_79_code
def yJ0_indexOf_0f7a4 : MethodName := ⟨RJ0, "indexOf", "(I)I"⟩
abbrev cJ0_indexOf_7cf53 : ByteArray := prog_20_method_80_code
def yJ0_indexOf_7cf53 : MethodName := ⟨RJ0, "indexOf", "(II)I"⟩
abbrev cJ0_coder_7d493 : ByteArray := prog_20_method_152_code
def yJ0_coder_7d493 : MethodName := ⟨RJ0, "coder", "()B"⟩
abbrev cJ0_isLatin1_aae02 : ByteArray := prog_20_method_154_code
def yJ0_isLatin1_aae02 : MethodName := ⟨RJ0, "isLatin1", "()Z"⟩
abbrev cJ0_checkIndex_df160 : ByteArray := prog_20_method_155_code
def yJ0_checkIndex_df160 : MethodName := ⟨RJ0, "checkIndex", "(II)V"⟩
abbrev cJ0_checkBoundsBeginEnd_23922 : ByteArray := prog_20_method_158_code
def yJ0_checkBoundsBeginEnd_23922 : MethodName := ⟨RJ0, "checkBoundsBeginEnd", "(III)V"⟩
def RJ1 : String := "java/lang/StringLatin1"
abbrev cJ1_charAt_3b067 : ByteArray := prog_21_method_2_code
def yJ1_charAt_3b067 : MethodName := ⟨RJ1, "charAt", "([BI)C"⟩
abbrev cJ1_canEncode_9a6ad : ByteArray := prog_21_method_4_code
def yJ1_canEncode_9a6ad : MethodName := ⟨RJ1, "canEncode", "(I)Z"⟩
abbrev cJ1_indexOf_4cfef : ByteArray := prog_21_method_22_code
def yJ1_indexOf_4cfef : MethodName := ⟨RJ1, "indexOf", "([BIII)I"⟩
abbrev cJ1_indexOfChar_4cfef : ByteArray := prog_21_method_23_code
def yJ1_indexOfChar_4cfef : MethodName := ⟨RJ1, "indexOfChar", "([BIII)I"⟩
def RJ2 : String := "java/lang/StringUTF16"
abbrev cJ2_getChar_3b067 : ByteArray := prog_22_method_5_code
def yJ2_getChar_3b067 : MethodName := ⟨RJ2, "getChar", "([BI)C"⟩
abbrev cJ2_length_9d52b : ByteArray := prog_22_method_6_code
def yJ2_length_9d52b : MethodName := ⟨RJ2, "length", "([B)I"⟩
abbrev cJ2_indexOf_4cfef : ByteArray := prog_22_method_40_code
def yJ2_indexOf_4cfef : MethodName := ⟨RJ2, "indexOf", "([BIII)I"⟩
abbrev cJ2_indexOfChar_4cfef : ByteArray := prog_22_method_47_code
def yJ2_indexOfChar_4cfef : MethodName := ⟨RJ2, "indexOfChar", "([BIII)I"⟩
abbrev cJ2_indexOfCharUnsafe_4cfef : ByteArray := prog_22_method_48_code
def yJ2_indexOfCharUnsafe_4cfef : MethodName := ⟨RJ2, "indexOfCharUnsafe", "([BIII)I"⟩
abbrev cJ2_indexOfSupplementary_4cfef : ByteArray := prog_22_method_49_code
def yJ2_indexOfSupplementary_4cfef : MethodName := ⟨RJ2, "indexOfSupplementary", "([BIII)I"⟩
abbrev cJ2_charAt_3b067 : ByteArray := prog_22_method_83_code
def yJ2_charAt_3b067 : MethodName := ⟨RJ2, "charAt", "([BI)C"⟩
abbrev cJ2_checkIndex_2214a : ByteArray := prog_22_method_91_code
def yJ2_checkIndex_2214a : MethodName := ⟨RJ2, "checkIndex", "(I[B)V"⟩
abbrev cJ2_checkBoundsBeginEnd_d044e : ByteArray := prog_22_method_93_code
def yJ2_checkBoundsBeginEnd_d044e : MethodName := ⟨RJ2, "checkBoundsBeginEnd", "(II[B)V"⟩
def RJ10 : String := "java/lang/System"
def RJ7 : String := "java/util/Arrays"
abbrev cJ7_fill_53178 : ByteArray := prog_25_method_103_code
def yJ7_fill_53178 : MethodName := ⟨RJ7, "fill", "([II)V"⟩
def RJ3 : String := "jdk/internal/util/Preconditions"
abbrev cJ3_checkIndex_8e157 : ByteArray := prog_27_method_11_code
def yJ3_checkIndex_8e157 : MethodName := ⟨RJ3, "checkIndex", "(IILjava/util/function/BiFunction;)I"⟩
abbrev cJ3_checkFromToIndex_8c36e : ByteArray := prog_27_method_12_code
def yJ3_checkFromToIndex_8c36e : MethodName := ⟨RJ3, "checkFromToIndex", "(IIILjava/util/function/BiFunction;)I"⟩
def RL : String := "CoverHousesLaw"
abbrev cL_owed : ByteArray := method_3_code
def yL_owed : MethodName := ⟨RL, "owed", "(LCoverHouses;II[J)I"⟩
abbrev cL_bears : ByteArray := method_4_code
def yL_bears : MethodName := ⟨RL, "bears", "(LCoverHouses;I[J)I"⟩
abbrev cL_clears : ByteArray := method_5_code
def yL_clears : MethodName := ⟨RL, "clears", "(LCoverHouses;II[J)I"⟩
abbrev cL_look : ByteArray := method_6_code
def yL_look : MethodName := ⟨RL, "look", "(LCoverHouses;II[J)I"⟩
abbrev cL_law : ByteArray := code
def yL_law : MethodName := ⟨RL, "law", "([I)Z"⟩
abbrev vwCl : List vw_C := [(RX0, TX0, 13), (RX1, TX1, 9), (RX2, TX2, 7), (RX3, TX3, 17), (RX4, TX4, 5), (RX5, TX5, 8), (RX6, TX6, 3), (RX7, TX7, 8), (RX8, TX8, 11), (RX9, TX9, 15), (RX10, TX10, 8), (RX11, TX11, 12), (RX12, TX12, 84)]
def gTbl : List Cond := lw_tbl.filter goodWord
theorem gIn {w : Cond} (i : Nat) (h : lw_tbl[i]? = some w) (hg : goodWord w = true) : w ∈ gTbl := List.mem_filter.mpr ⟨List.mem_of_getElem? h, hg⟩
theorem gInAll {ws : List Cond} (h : ws.all (fun w => decide (w ∈ lw_tbl) && goodWord w) = true) : ∀ w ∈ ws, w ∈ gTbl := fun w hw => by
  have h1 := List.all_eq_true.mp h w hw
  simp only [Bool.and_eq_true, decide_eq_true_eq] at h1
  exact List.mem_filter.mpr h1
theorem gGood : ∀ w ∈ gTbl, goodWord w = true := fun _ h => (List.mem_filter.mp h).2
theorem inX0 : ∀ w ∈ u_ws RX0 TX0 13, w ∈ gTbl := gInAll (by decide +kernel)
theorem inX1 : ∀ w ∈ u_ws RX1 TX1 9, w ∈ gTbl := gInAll (by decide +kernel)
theorem inX2 : ∀ w ∈ u_ws RX2 TX2 7, w ∈ gTbl := gInAll (by decide +kernel)
theorem inX3 : ∀ w ∈ u_ws RX3 TX3 17, w ∈ gTbl := gInAll (by decide +kernel)
theorem inX4 : ∀ w ∈ u_ws RX4 TX4 5, w ∈ gTbl := gInAll (by decide +kernel)
theorem inX5 : ∀ w ∈ u_ws RX5 TX5 8, w ∈ gTbl := gInAll (by decide +kernel)
theorem inX6 : ∀ w ∈ u_ws RX6 TX6 3, w ∈ gTbl := gInAll (by decide +kernel)
theorem inX7 : ∀ w ∈ u_ws RX7 TX7 8, w ∈ gTbl := gInAll (by decide +kernel)
theorem inX8 : ∀ w ∈ u_ws RX8 TX8 11, w ∈ gTbl := gInAll (by decide +kernel)
theorem inX9 : ∀ w ∈ u_ws RX9 TX9 15, w ∈ gTbl := gInAll (by decide +kernel)
theorem inX10 : ∀ w ∈ u_ws RX10 TX10 8, w ∈ gTbl := gInAll (by decide +kernel)
theorem inX11 : ∀ w ∈ u_ws RX11 TX11 12, w ∈ gTbl := gInAll (by decide +kernel)
theorem inX12 : ∀ w ∈ u_ws RX12 TX12 84, w ∈ gTbl := gInAll (by decide +kernel)
end
section
/-! ===== numbers: words are whole numbers, an int's and a long's range ===== -/
def wr (x : Int) : Int := x.bmod 4294967296
def wl (x : Int) : Int := x.bmod 18446744073709551616
def i32 (x : Int) : Prop := -2147483648 ≤ x ∧ x < 2147483648
def i64 (x : Int) : Prop := -9223372036854775808 ≤ x ∧ x < 9223372036854775808
theorem i32_wr (x : Int) : i32 (wr x) := by
  have h1 := Int.le_bmod (x := x) (m := 4294967296) (by decide)
  have h2 := Int.bmod_lt (x := x) (m := 4294967296) (by decide)
  exact ⟨by unfold wr; omega, by unfold wr; omega⟩
theorem i64_wl (x : Int) : i64 (wl x) := by
  have h1 := Int.le_bmod (x := x) (m := 18446744073709551616) (by decide)
  have h2 := Int.bmod_lt (x := x) (m := 18446744073709551616) (by decide)
  exact ⟨by unfold wl; omega, by unfold wl; omega⟩
theorem wr_id {x : Int} (h : i32 x) : wr x = x := by
  unfold wr
  exact Int.bmod_eq_of_le (by have := h.1; omega) (by have := h.2; omega)
theorem wl_id {x : Int} (h : i64 x) : wl x = x := by
  unfold wl
  exact Int.bmod_eq_of_le (by have := h.1; omega) (by have := h.2; omega)
theorem i32_64 {x : Int} (h : i32 x) : i64 x := ⟨by have := h.1; omega, by have := h.2; omega⟩
theorem aT32 {x : Int} (h : i32 x) : (Int32.ofInt x).toInt = x := Int32.toInt_ofInt_of_le (by have := h.1; omega) (by have := h.2; omega)
theorem aT64 {x : Int} (h : i64 x) : (Int64.ofInt x).toInt = x := Int64.toInt_ofInt_of_le (by have := h.1; omega) (by have := h.2; omega)
theorem i32_to (x : Int32) : i32 x.toInt := ⟨by have := x.le_toInt; omega, by have := x.toInt_lt; omega⟩
theorem i64_to (x : Int64) : i64 x.toInt := ⟨by have := x.le_toInt; omega, by have := x.toInt_lt; omega⟩
theorem of_wr (x : Int) : Int32.ofInt (wr x) = Int32.ofInt x := by
  apply Int32.toInt_inj.mp
  rw [aT32 (i32_wr x), Int32.toInt_ofInt]
  rfl
theorem of_wl (x : Int) : Int64.ofInt (wl x) = Int64.ofInt x := by
  apply Int64.toInt_inj.mp
  rw [aT64 (i64_wl x), Int64.toInt_ofInt]
  rfl
theorem of_add (x y : Int) : Int32.ofInt x + Int32.ofInt y = Int32.ofInt (wr (x + y)) := by rw [of_wr, Int32.ofInt_add]
theorem of_sub (x y : Int) : Int32.ofInt x - Int32.ofInt y = Int32.ofInt (wr (x - y)) := by rw [of_wr, Int32.ofInt_sub]
theorem of_mul (x y : Int) : Int32.ofInt x * Int32.ofInt y = Int32.ofInt (wr (x * y)) := by rw [of_wr, Int32.ofInt_mul]
theorem of_neg (x : Int) : -Int32.ofInt x = Int32.ofInt (wr (-x)) := by rw [of_wr, Int32.ofInt_neg]
theorem of_div {x y : Int} (hx : i32 x) (hy : i32 y) : Int32.ofInt x / Int32.ofInt y = Int32.ofInt (wr (x.tdiv y)) := by
  apply Int32.toInt_inj.mp
  rw [Int32.toInt_div, aT32 hx, aT32 hy, aT32 (i32_wr _)]
  rfl
theorem of_addL (x y : Int) : Int64.ofInt x + Int64.ofInt y = Int64.ofInt (wl (x + y)) := by rw [of_wl, Int64.ofInt_add]
theorem of_subL (x y : Int) : Int64.ofInt x - Int64.ofInt y = Int64.ofInt (wl (x - y)) := by rw [of_wl, Int64.ofInt_sub]
theorem of_mulL (x y : Int) : Int64.ofInt x * Int64.ofInt y = Int64.ofInt (wl (x * y)) := by rw [of_wl, Int64.ofInt_mul]
theorem of_divL {x y : Int} (hx : i64 x) (hy : i64 y) : Int64.ofInt x / Int64.ofInt y = Int64.ofInt (wl (x.tdiv y)) := by
  apply Int64.toInt_inj.mp
  rw [Int64.toInt_div, aT64 hx, aT64 hy, aT64 (i64_wl _)]
  rfl
theorem of_i2l {x : Int} (hx : i32 x) : (Int32.ofInt x).toInt64 = Int64.ofInt x := by
  apply Int64.toInt_inj.mp
  rw [Int32.toInt_toInt64, aT32 hx, aT64 (i32_64 hx)]
theorem of_l2i (x : Int) : (Int64.ofInt x).toInt32 = Int32.ofInt (wr x) := by rw [of_wr, Int64.toInt32_ofInt]
theorem of_lt {x y : Int} (hx : i32 x) (hy : i32 y) : Int32.ofInt x < Int32.ofInt y ↔ x < y := by rw [Int32.lt_iff_toInt_lt, aT32 hx, aT32 hy]
theorem of_le {x y : Int} (hx : i32 x) (hy : i32 y) : Int32.ofInt x ≤ Int32.ofInt y ↔ x ≤ y := by rw [Int32.le_iff_toInt_le, aT32 hx, aT32 hy]
theorem of_eq {x y : Int} (hx : i32 x) (hy : i32 y) : Int32.ofInt x = Int32.ofInt y ↔ x = y := by rw [← Int32.toInt_inj, aT32 hx, aT32 hy]
theorem of_ltL {x y : Int} (hx : i64 x) (hy : i64 y) : Int64.ofInt x < Int64.ofInt y ↔ x < y := by rw [Int64.lt_iff_toInt_lt, aT64 hx, aT64 hy]
theorem of_leL {x y : Int} (hx : i64 x) (hy : i64 y) : Int64.ofInt x ≤ Int64.ofInt y ↔ x ≤ y := by rw [Int64.le_iff_toInt_le, aT64 hx, aT64 hy]
theorem of_eqL {x y : Int} (hx : i64 x) (hy : i64 y) : Int64.ofInt x = Int64.ofInt y ↔ x = y := by rw [← Int64.toInt_inj, aT64 hx, aT64 hy]
theorem i32_0 : i32 0 := ⟨by decide, by decide⟩
theorem of_zero : Int32.ofInt 0 = 0 := rfl
theorem of_lt0 {x : Int} (hx : i32 x) : Int32.ofInt x < 0 ↔ x < 0 := by rw [← of_zero]; exact of_lt hx i32_0
theorem of_eq0 {x : Int} (hx : i32 x) : Int32.ofInt x = 0 ↔ x = 0 := by rw [← of_zero]; exact of_eq hx i32_0
theorem of_eq0L {x : Int} (hx : i64 x) : Int64.ofInt x = 0 ↔ x = 0 := by
  rw [show (0 : Int64) = Int64.ofInt 0 from rfl]; exact of_eqL hx (i32_64 i32_0)
theorem of_clamp {x : Int} (hx : i32 x) : (Int32.ofInt x).toNatClampNeg = x.toNat := Int32.toNatClampNeg_ofInt_of_le (by have := hx.1; omega) (by have := hx.2; omega)
theorem of_in {x : Int} {n : Nat} (hx : i32 x) (h0 : 0 ≤ x) (h : x < n) : vp_in (Int32.ofInt x) n := by
  rw [vp_in_iff, aT32 hx]
  exact ⟨h0, h⟩
/-- the numbers of bits: as the machine has them -/
def bAnd (a b : Int) : Int := (Int32.ofInt a &&& Int32.ofInt b).toInt
def bOr (a b : Int) : Int := (Int32.ofInt a ||| Int32.ofInt b).toInt
def bXor (a b : Int) : Int := (Int32.ofInt a ^^^ Int32.ofInt b).toInt
def bShl (a b : Int) : Int := (Int32.ofInt a <<< (Int32.ofInt b &&& 31)).toInt
def bShr (a b : Int) : Int := (Int32.ofInt a >>> (Int32.ofInt b &&& 31)).toInt
def bUsh (a b : Int) : Int := ((Int32.ofInt a).toUInt32 >>> ((Int32.ofInt b).toUInt32 &&& Int32.toUInt32 31)).toInt32.toInt
def bAndL (a b : Int) : Int := (Int64.ofInt a &&& Int64.ofInt b).toInt
def bOrL (a b : Int) : Int := (Int64.ofInt a ||| Int64.ofInt b).toInt
def bShlL (a b : Int) : Int := (Int64.ofInt a <<< ((Int32.ofInt b).toInt64 &&& 63)).toInt
def bShrL (a b : Int) : Int := (Int64.ofInt a >>> ((Int32.ofInt b).toInt64 &&& 63)).toInt
def bUshL (a b : Int) : Int := ((Int64.ofInt a).toUInt64 >>> ((Int32.ofInt b).toInt64.toUInt64 &&& Int64.toUInt64 63)).toInt64.toInt
def cmp3 (a b : Int) : Int := if a < b then -1 else if a = b then 0 else 1
theorem cmp3_lt {a b : Int} : cmp3 a b < 0 ↔ a < b := by unfold cmp3; split <;> (try split) <;> omega
theorem cmp3_le {a b : Int} : cmp3 a b ≤ 0 ↔ a ≤ b := by unfold cmp3; split <;> (try split) <;> omega
theorem cmp3_gt {a b : Int} : cmp3 a b > 0 ↔ a > b := by unfold cmp3; split <;> (try split) <;> omega
theorem cmp3_ge {a b : Int} : cmp3 a b ≥ 0 ↔ a ≥ b := by unfold cmp3; split <;> (try split) <;> omega
theorem cmp3_eq {a b : Int} : cmp3 a b = 0 ↔ a = b := by unfold cmp3; split <;> (try split) <;> omega
theorem i32_cmp3 (a b : Int) : i32 (cmp3 a b) := by unfold cmp3 i32; split <;> (try split) <;> omega
def wc (x : Int) : Int := x % 65536
theorem wc_in (x : Int) : 0 ≤ wc x ∧ wc x < 65536 := by unfold wc; omega
theorem i32_wc (x : Int) : i32 (wc x) := by have := wc_in x; exact ⟨by omega, by omega⟩
theorem of_i2c {x : Int} (hx : i32 x) : ((Int32.ofInt x).toUInt32 % 65536).toInt32 = Int32.ofInt (wc x) := by
  rw [pk_char]
  have h : (((Int32.ofInt x).toBitVec.toNat % 65536 : Nat) : Int) = wc x := by
    have h1 : (Int32.ofInt x).toBitVec.toInt = x := aT32 hx
    unfold wc
    rw [BitVec.toInt_eq_toNat_bmod] at h1
    have e : ((2 ^ 32 : Nat) : Int) = 4294967296 := rfl
    simp only [Int.bmod, e] at h1
    split at h1 <;> omega
  rw [← h, nI, Int32.ofInt_eq_ofNat]
end
