section
-- ===== PART A: goes FIRST, ahead of the names: the tables' words, and 'selects' of the private methods out of them =====
/-- a private method of a class that the tables say can be made, by its rows of tables_1 -/
def lw_okq (q : MethodName × Nat) : Prop := (q.1.cls ≠ "java/lang/invoke/MethodHandle" ∧ q.1.cls ≠ "java/lang/invoke/VarHandle") ∧ Cond.instantiable q.1.cls q.2 ∈ tables_1 ∧ Cond.privateMethod q.1 ∈ tables_1 ∧ Cond.instanceMethod q.1 ∈ tables_1
theorem lw_p0 : lw_okq (⟨"WallDown", "finding", "(I)I"⟩, 9) := ⟨⟨by decide +kernel, by decide +kernel⟩, List.mem_of_getElem? (i := 17) (by decide +kernel), List.mem_of_getElem? (i := 237) (by decide +kernel), List.mem_of_getElem? (i := 238) (by decide +kernel)⟩
theorem lw_p1 : lw_okq (⟨"WallDown", "isStone", "(II)Z"⟩, 9) := ⟨⟨by decide +kernel, by decide +kernel⟩, List.mem_of_getElem? (i := 17) (by decide +kernel), List.mem_of_getElem? (i := 276) (by decide +kernel), List.mem_of_getElem? (i := 277) (by decide +kernel)⟩
theorem lw_p2 : lw_okq (⟨"WallDown", "mayGoAsLowest", "(II)Z"⟩, 9) := ⟨⟨by decide +kernel, by decide +kernel⟩, List.mem_of_getElem? (i := 17) (by decide +kernel), List.mem_of_getElem? (i := 283) (by decide +kernel), List.mem_of_getElem? (i := 284) (by decide +kernel)⟩
theorem lw_p3 : lw_okq (⟨"WallDown", "isStand", "(I)Z"⟩, 9) := ⟨⟨by decide +kernel, by decide +kernel⟩, List.mem_of_getElem? (i := 17) (by decide +kernel), List.mem_of_getElem? (i := 410) (by decide +kernel), List.mem_of_getElem? (i := 411) (by decide +kernel)⟩
theorem lw_p4 : lw_okq (⟨"WallDown", "canBe", "(LWallDown$House;I)Z"⟩, 9) := ⟨⟨by decide +kernel, by decide +kernel⟩, List.mem_of_getElem? (i := 17) (by decide +kernel), List.mem_of_getElem? (i := 417) (by decide +kernel), List.mem_of_getElem? (i := 418) (by decide +kernel)⟩
theorem lw_p5 : lw_okq (⟨"WallDown", "standsOf", "(LWallDown$House;)I"⟩, 9) := ⟨⟨by decide +kernel, by decide +kernel⟩, List.mem_of_getElem? (i := 17) (by decide +kernel), List.mem_of_getElem? (i := 421) (by decide +kernel), List.mem_of_getElem? (i := 422) (by decide +kernel)⟩
theorem lw_p6 : lw_okq (⟨"WallDown", "leastSlack", "(I)I"⟩, 9) := ⟨⟨by decide +kernel, by decide +kernel⟩, List.mem_of_getElem? (i := 17) (by decide +kernel), List.mem_of_getElem? (i := 493) (by decide +kernel), List.mem_of_getElem? (i := 494) (by decide +kernel)⟩
theorem lw_p7 : lw_okq (⟨"WallDown", "bestStand", "(I)I"⟩, 9) := ⟨⟨by decide +kernel, by decide +kernel⟩, List.mem_of_getElem? (i := 17) (by decide +kernel), List.mem_of_getElem? (i := 505) (by decide +kernel), List.mem_of_getElem? (i := 506) (by decide +kernel)⟩
theorem lw_p8 : lw_okq (⟨"WallDown$Tape", "isLetter", "(I)Z"⟩, 6) := ⟨⟨by decide +kernel, by decide +kernel⟩, List.mem_of_getElem? (i := 127) (by decide +kernel), List.mem_of_getElem? (i := 592) (by decide +kernel), List.mem_of_getElem? (i := 593) (by decide +kernel)⟩
theorem lw_p9 : lw_okq (⟨"WallDown$Tape", "skipLetters", "()V"⟩, 6) := ⟨⟨by decide +kernel, by decide +kernel⟩, List.mem_of_getElem? (i := 127) (by decide +kernel), List.mem_of_getElem? (i := 597) (by decide +kernel), List.mem_of_getElem? (i := 598) (by decide +kernel)⟩
theorem lw_p10 : lw_okq (⟨"WallDown$Tape", "isDigit", "(I)Z"⟩, 6) := ⟨⟨by decide +kernel, by decide +kernel⟩, List.mem_of_getElem? (i := 127) (by decide +kernel), List.mem_of_getElem? (i := 601) (by decide +kernel), List.mem_of_getElem? (i := 602) (by decide +kernel)⟩
theorem lw_p11 : lw_okq (⟨"WallDown$Tape", "skipDigits", "()V"⟩, 6) := ⟨⟨by decide +kernel, by decide +kernel⟩, List.mem_of_getElem? (i := 127) (by decide +kernel), List.mem_of_getElem? (i := 605) (by decide +kernel), List.mem_of_getElem? (i := 606) (by decide +kernel)⟩
theorem lw_p12 : lw_okq (⟨"WallDown$Teller", "tellItem", "()Z"⟩, 3) := ⟨⟨by decide +kernel, by decide +kernel⟩, List.mem_of_getElem? (i := 121) (by decide +kernel), List.mem_of_getElem? (i := 610) (by decide +kernel), List.mem_of_getElem? (i := 611) (by decide +kernel)⟩
theorem lw_p13 : lw_okq (⟨"WallDown$Teller", "tellStone", "(I)Z"⟩, 3) := ⟨⟨by decide +kernel, by decide +kernel⟩, List.mem_of_getElem? (i := 121) (by decide +kernel), List.mem_of_getElem? (i := 676) (by decide +kernel), List.mem_of_getElem? (i := 677) (by decide +kernel)⟩
theorem lw_p14 : lw_okq (⟨"WallDown$Teller", "tellBeam", "()Z"⟩, 3) := ⟨⟨by decide +kernel, by decide +kernel⟩, List.mem_of_getElem? (i := 121) (by decide +kernel), List.mem_of_getElem? (i := 688) (by decide +kernel), List.mem_of_getElem? (i := 689) (by decide +kernel)⟩
theorem lw_p15 : lw_okq (⟨"WallDown$Teller", "tellWedge", "()Z"⟩, 3) := ⟨⟨by decide +kernel, by decide +kernel⟩, List.mem_of_getElem? (i := 121) (by decide +kernel), List.mem_of_getElem? (i := 696) (by decide +kernel), List.mem_of_getElem? (i := 697) (by decide +kernel)⟩
def lw_privs_1 : List (MethodName × Nat) := [(⟨"WallDown", "finding", "(I)I"⟩, 9), (⟨"WallDown", "isStone", "(II)Z"⟩, 9), (⟨"WallDown", "mayGoAsLowest", "(II)Z"⟩, 9), (⟨"WallDown", "isStand", "(I)Z"⟩, 9), (⟨"WallDown", "canBe", "(LWallDown$House;I)Z"⟩, 9), (⟨"WallDown", "standsOf", "(LWallDown$House;)I"⟩, 9), (⟨"WallDown", "leastSlack", "(I)I"⟩, 9), (⟨"WallDown", "bestStand", "(I)I"⟩, 9), (⟨"WallDown$Tape", "isLetter", "(I)Z"⟩, 6), (⟨"WallDown$Tape", "skipLetters", "()V"⟩, 6), (⟨"WallDown$Tape", "isDigit", "(I)Z"⟩, 6), (⟨"WallDown$Tape", "skipDigits", "()V"⟩, 6), (⟨"WallDown$Teller", "tellItem", "()Z"⟩, 3), (⟨"WallDown$Teller", "tellStone", "(I)Z"⟩, 3), (⟨"WallDown$Teller", "tellBeam", "()Z"⟩, 3), (⟨"WallDown$Teller", "tellWedge", "()Z"⟩, 3)]
theorem lw_r1 : ∀ q ∈ lw_privs_1, lw_okq q := List.forall_mem_cons.mpr ⟨lw_p0, List.forall_mem_cons.mpr ⟨lw_p1, List.forall_mem_cons.mpr ⟨lw_p2, List.forall_mem_cons.mpr ⟨lw_p3, List.forall_mem_cons.mpr ⟨lw_p4, List.forall_mem_cons.mpr ⟨lw_p5, List.forall_mem_cons.mpr ⟨lw_p6, List.forall_mem_cons.mpr ⟨lw_p7, List.forall_mem_cons.mpr ⟨lw_p8, List.forall_mem_cons.mpr ⟨lw_p9, List.forall_mem_cons.mpr ⟨lw_p10, List.forall_mem_cons.mpr ⟨lw_p11, List.forall_mem_cons.mpr ⟨lw_p12, List.forall_mem_cons.mpr ⟨lw_p13, List.forall_mem_cons.mpr ⟨lw_p14, List.forall_mem_cons.mpr ⟨lw_p15, fun _ h => absurd h List.not_mem_nil⟩⟩⟩⟩⟩⟩⟩⟩⟩⟩⟩⟩⟩⟩⟩⟩
theorem lw_p16 : lw_okq (⟨"WallDown$Teller", "tellSlack", "()Z"⟩, 3) := ⟨⟨by decide +kernel, by decide +kernel⟩, List.mem_of_getElem? (i := 121) (by decide +kernel), List.mem_of_getElem? (i := 701) (by decide +kernel), List.mem_of_getElem? (i := 702) (by decide +kernel)⟩
theorem lw_p17 : lw_okq (⟨"WallDown$Teller", "tellPulls", "()Z"⟩, 3) := ⟨⟨by decide +kernel, by decide +kernel⟩, List.mem_of_getElem? (i := 121) (by decide +kernel), List.mem_of_getElem? (i := 706) (by decide +kernel), List.mem_of_getElem? (i := 707) (by decide +kernel)⟩
theorem lw_p18 : lw_okq (⟨"WallDown", "sheetFinding", "(I)I"⟩, 9) := ⟨⟨by decide +kernel, by decide +kernel⟩, List.mem_of_getElem? (i := 17) (by decide +kernel), List.mem_of_getElem? (i := 736) (by decide +kernel), List.mem_of_getElem? (i := 737) (by decide +kernel)⟩
theorem lw_p19 : lw_okq (⟨"WallDownModel", "finds", "(I)I"⟩, 23) := ⟨⟨by decide +kernel, by decide +kernel⟩, List.mem_of_getElem? (i := 797) (by decide +kernel), List.mem_of_getElem? (i := 888) (by decide +kernel), List.mem_of_getElem? (i := 889) (by decide +kernel)⟩
theorem lw_p20 : lw_okq (⟨"WallDownModel", "many", "(I)I"⟩, 23) := ⟨⟨by decide +kernel, by decide +kernel⟩, List.mem_of_getElem? (i := 797) (by decide +kernel), List.mem_of_getElem? (i := 892) (by decide +kernel), List.mem_of_getElem? (i := 893) (by decide +kernel)⟩
theorem lw_p21 : lw_okq (⟨"WallDownModel", "addStone", "(IIII)V"⟩, 23) := ⟨⟨by decide +kernel, by decide +kernel⟩, List.mem_of_getElem? (i := 797) (by decide +kernel), List.mem_of_getElem? (i := 897) (by decide +kernel), List.mem_of_getElem? (i := 898) (by decide +kernel)⟩
theorem lw_p22 : lw_okq (⟨"WallDownModel", "findTops", "()V"⟩, 23) := ⟨⟨by decide +kernel, by decide +kernel⟩, List.mem_of_getElem? (i := 797) (by decide +kernel), List.mem_of_getElem? (i := 908) (by decide +kernel), List.mem_of_getElem? (i := 909) (by decide +kernel)⟩
theorem lw_p23 : lw_okq (⟨"WallDownModel", "tall", "(II)I"⟩, 23) := ⟨⟨by decide +kernel, by decide +kernel⟩, List.mem_of_getElem? (i := 797) (by decide +kernel), List.mem_of_getElem? (i := 912) (by decide +kernel), List.mem_of_getElem? (i := 913) (by decide +kernel)⟩
theorem lw_p24 : lw_okq (⟨"WallDownModel", "its", "(III)I"⟩, 23) := ⟨⟨by decide +kernel, by decide +kernel⟩, List.mem_of_getElem? (i := 797) (by decide +kernel), List.mem_of_getElem? (i := 916) (by decide +kernel), List.mem_of_getElem? (i := 917) (by decide +kernel)⟩
theorem lw_p25 : lw_okq (⟨"WallDownModel", "coin", "(II)I"⟩, 23) := ⟨⟨by decide +kernel, by decide +kernel⟩, List.mem_of_getElem? (i := 797) (by decide +kernel), List.mem_of_getElem? (i := 920) (by decide +kernel), List.mem_of_getElem? (i := 921) (by decide +kernel)⟩
theorem lw_p26 : lw_okq (⟨"WallDownModel", "isStone", "(II)Z"⟩, 23) := ⟨⟨by decide +kernel, by decide +kernel⟩, List.mem_of_getElem? (i := 797) (by decide +kernel), List.mem_of_getElem? (i := 928) (by decide +kernel), List.mem_of_getElem? (i := 929) (by decide +kernel)⟩
theorem lw_p27 : lw_okq (⟨"WallDownModel", "standNow", "()I"⟩, 23) := ⟨⟨by decide +kernel, by decide +kernel⟩, List.mem_of_getElem? (i := 797) (by decide +kernel), List.mem_of_getElem? (i := 932) (by decide +kernel), List.mem_of_getElem? (i := 933) (by decide +kernel)⟩
theorem lw_p28 : lw_okq (⟨"WallDownModel", "mayGo", "(III)Z"⟩, 23) := ⟨⟨by decide +kernel, by decide +kernel⟩, List.mem_of_getElem? (i := 797) (by decide +kernel), List.mem_of_getElem? (i := 936) (by decide +kernel), List.mem_of_getElem? (i := 937) (by decide +kernel)⟩
theorem lw_p29 : lw_okq (⟨"WallDownModel", "lies", "(I)Z"⟩, 23) := ⟨⟨by decide +kernel, by decide +kernel⟩, List.mem_of_getElem? (i := 797) (by decide +kernel), List.mem_of_getElem? (i := 971) (by decide +kernel), List.mem_of_getElem? (i := 972) (by decide +kernel)⟩
theorem lw_p30 : lw_okq (⟨"WallDownModel", "allTops", "()I"⟩, 23) := ⟨⟨by decide +kernel, by decide +kernel⟩, List.mem_of_getElem? (i := 797) (by decide +kernel), List.mem_of_getElem? (i := 980) (by decide +kernel), List.mem_of_getElem? (i := 981) (by decide +kernel)⟩
theorem lw_p31 : lw_okq (⟨"WallDownModel", "mostUnlike", "()I"⟩, 23) := ⟨⟨by decide +kernel, by decide +kernel⟩, List.mem_of_getElem? (i := 797) (by decide +kernel), List.mem_of_getElem? (i := 991) (by decide +kernel), List.mem_of_getElem? (i := 992) (by decide +kernel)⟩
def lw_privs_2 : List (MethodName × Nat) := [(⟨"WallDown$Teller", "tellSlack", "()Z"⟩, 3), (⟨"WallDown$Teller", "tellPulls", "()Z"⟩, 3), (⟨"WallDown", "sheetFinding", "(I)I"⟩, 9), (⟨"WallDownModel", "finds", "(I)I"⟩, 23), (⟨"WallDownModel", "many", "(I)I"⟩, 23), (⟨"WallDownModel", "addStone", "(IIII)V"⟩, 23), (⟨"WallDownModel", "findTops", "()V"⟩, 23), (⟨"WallDownModel", "tall", "(II)I"⟩, 23), (⟨"WallDownModel", "its", "(III)I"⟩, 23), (⟨"WallDownModel", "coin", "(II)I"⟩, 23), (⟨"WallDownModel", "isStone", "(II)Z"⟩, 23), (⟨"WallDownModel", "standNow", "()I"⟩, 23), (⟨"WallDownModel", "mayGo", "(III)Z"⟩, 23), (⟨"WallDownModel", "lies", "(I)Z"⟩, 23), (⟨"WallDownModel", "allTops", "()I"⟩, 23), (⟨"WallDownModel", "mostUnlike", "()I"⟩, 23)]
theorem lw_r2 : ∀ q ∈ lw_privs_2, lw_okq q := List.forall_mem_cons.mpr ⟨lw_p16, List.forall_mem_cons.mpr ⟨lw_p17, List.forall_mem_cons.mpr ⟨lw_p18, List.forall_mem_cons.mpr ⟨lw_p19, List.forall_mem_cons.mpr ⟨lw_p20, List.forall_mem_cons.mpr ⟨lw_p21, List.forall_mem_cons.mpr ⟨lw_p22, List.forall_mem_cons.mpr ⟨lw_p23, List.forall_mem_cons.mpr ⟨lw_p24, List.forall_mem_cons.mpr ⟨lw_p25, List.forall_mem_cons.mpr ⟨lw_p26, List.forall_mem_cons.mpr ⟨lw_p27, List.forall_mem_cons.mpr ⟨lw_p28, List.forall_mem_cons.mpr ⟨lw_p29, List.forall_mem_cons.mpr ⟨lw_p30, List.forall_mem_cons.mpr ⟨lw_p31, fun _ h => absurd h List.not_mem_nil⟩⟩⟩⟩⟩⟩⟩⟩⟩⟩⟩⟩⟩⟩⟩⟩
theorem lw_p32 : lw_okq (⟨"WallDownModel", "unlikeAt", "(II)I"⟩, 23) := ⟨⟨by decide +kernel, by decide +kernel⟩, List.mem_of_getElem? (i := 797) (by decide +kernel), List.mem_of_getElem? (i := 995) (by decide +kernel), List.mem_of_getElem? (i := 996) (by decide +kernel)⟩
theorem lw_p33 : lw_okq (⟨"WallDownModel", "topIn", "(II)I"⟩, 23) := ⟨⟨by decide +kernel, by decide +kernel⟩, List.mem_of_getElem? (i := 797) (by decide +kernel), List.mem_of_getElem? (i := 999) (by decide +kernel), List.mem_of_getElem? (i := 1000) (by decide +kernel)⟩
theorem lw_p34 : lw_okq (⟨"WallDownModel", "canPullNow", "(I)Z"⟩, 23) := ⟨⟨by decide +kernel, by decide +kernel⟩, List.mem_of_getElem? (i := 797) (by decide +kernel), List.mem_of_getElem? (i := 1007) (by decide +kernel), List.mem_of_getElem? (i := 1008) (by decide +kernel)⟩
theorem lw_p35 : lw_okq (⟨"WallDownModel", "canPull", "(II)Z"⟩, 23) := ⟨⟨by decide +kernel, by decide +kernel⟩, List.mem_of_getElem? (i := 797) (by decide +kernel), List.mem_of_getElem? (i := 1011) (by decide +kernel), List.mem_of_getElem? (i := 1012) (by decide +kernel)⟩
theorem lw_p36 : lw_okq (⟨"WallDownModel", "isSafe", "(I)Z"⟩, 23) := ⟨⟨by decide +kernel, by decide +kernel⟩, List.mem_of_getElem? (i := 797) (by decide +kernel), List.mem_of_getElem? (i := 1015) (by decide +kernel), List.mem_of_getElem? (i := 1016) (by decide +kernel)⟩
theorem lw_p37 : lw_okq (⟨"WallDownModel", "takeOut", "(I)V"⟩, 23) := ⟨⟨by decide +kernel, by decide +kernel⟩, List.mem_of_getElem? (i := 797) (by decide +kernel), List.mem_of_getElem? (i := 1019) (by decide +kernel), List.mem_of_getElem? (i := 1020) (by decide +kernel)⟩
theorem lw_p38 : lw_okq (⟨"WallDownModel", "isStand", "(I)Z"⟩, 23) := ⟨⟨by decide +kernel, by decide +kernel⟩, List.mem_of_getElem? (i := 797) (by decide +kernel), List.mem_of_getElem? (i := 1032) (by decide +kernel), List.mem_of_getElem? (i := 1033) (by decide +kernel)⟩
theorem lw_p39 : lw_okq (⟨"WallDownModel", "findRows", "()V"⟩, 23) := ⟨⟨by decide +kernel, by decide +kernel⟩, List.mem_of_getElem? (i := 797) (by decide +kernel), List.mem_of_getElem? (i := 1036) (by decide +kernel), List.mem_of_getElem? (i := 1037) (by decide +kernel)⟩
theorem lw_p40 : lw_okq (⟨"WallDownModel", "findGoes", "()V"⟩, 23) := ⟨⟨by decide +kernel, by decide +kernel⟩, List.mem_of_getElem? (i := 797) (by decide +kernel), List.mem_of_getElem? (i := 1040) (by decide +kernel), List.mem_of_getElem? (i := 1041) (by decide +kernel)⟩
theorem lw_p41 : lw_okq (⟨"WallDownModel", "countRows", "()V"⟩, 23) := ⟨⟨by decide +kernel, by decide +kernel⟩, List.mem_of_getElem? (i := 797) (by decide +kernel), List.mem_of_getElem? (i := 1044) (by decide +kernel), List.mem_of_getElem? (i := 1045) (by decide +kernel)⟩
theorem lw_p42 : lw_okq (⟨"WallDownModel", "howMany", "()I"⟩, 23) := ⟨⟨by decide +kernel, by decide +kernel⟩, List.mem_of_getElem? (i := 797) (by decide +kernel), List.mem_of_getElem? (i := 1052) (by decide +kernel), List.mem_of_getElem? (i := 1053) (by decide +kernel)⟩
theorem lw_p43 : lw_okq (⟨"WallDownModel", "howManyNow", "()I"⟩, 23) := ⟨⟨by decide +kernel, by decide +kernel⟩, List.mem_of_getElem? (i := 797) (by decide +kernel), List.mem_of_getElem? (i := 1056) (by decide +kernel), List.mem_of_getElem? (i := 1057) (by decide +kernel)⟩
theorem lw_p44 : lw_okq (⟨"WallDownModel", "findLeads", "(I)V"⟩, 23) := ⟨⟨by decide +kernel, by decide +kernel⟩, List.mem_of_getElem? (i := 797) (by decide +kernel), List.mem_of_getElem? (i := 1072) (by decide +kernel), List.mem_of_getElem? (i := 1073) (by decide +kernel)⟩
theorem lw_p45 : lw_okq (⟨"WallDownModel", "firstFrom", "(I)I"⟩, 23) := ⟨⟨by decide +kernel, by decide +kernel⟩, List.mem_of_getElem? (i := 797) (by decide +kernel), List.mem_of_getElem? (i := 1077) (by decide +kernel), List.mem_of_getElem? (i := 1078) (by decide +kernel)⟩
theorem lw_p46 : lw_okq (⟨"WallDownModel", "slackTo", "(I)I"⟩, 23) := ⟨⟨by decide +kernel, by decide +kernel⟩, List.mem_of_getElem? (i := 797) (by decide +kernel), List.mem_of_getElem? (i := 1089) (by decide +kernel), List.mem_of_getElem? (i := 1090) (by decide +kernel)⟩
theorem lw_p47 : lw_okq (⟨"WallDownModel", "widest", "(I)I"⟩, 23) := ⟨⟨by decide +kernel, by decide +kernel⟩, List.mem_of_getElem? (i := 797) (by decide +kernel), List.mem_of_getElem? (i := 1093) (by decide +kernel), List.mem_of_getElem? (i := 1094) (by decide +kernel)⟩
def lw_privs_3 : List (MethodName × Nat) := [(⟨"WallDownModel", "unlikeAt", "(II)I"⟩, 23), (⟨"WallDownModel", "topIn", "(II)I"⟩, 23), (⟨"WallDownModel", "canPullNow", "(I)Z"⟩, 23), (⟨"WallDownModel", "canPull", "(II)Z"⟩, 23), (⟨"WallDownModel", "isSafe", "(I)Z"⟩, 23), (⟨"WallDownModel", "takeOut", "(I)V"⟩, 23), (⟨"WallDownModel", "isStand", "(I)Z"⟩, 23), (⟨"WallDownModel", "findRows", "()V"⟩, 23), (⟨"WallDownModel", "findGoes", "()V"⟩, 23), (⟨"WallDownModel", "countRows", "()V"⟩, 23), (⟨"WallDownModel", "howMany", "()I"⟩, 23), (⟨"WallDownModel", "howManyNow", "()I"⟩, 23), (⟨"WallDownModel", "findLeads", "(I)V"⟩, 23), (⟨"WallDownModel", "firstFrom", "(I)I"⟩, 23), (⟨"WallDownModel", "slackTo", "(I)I"⟩, 23), (⟨"WallDownModel", "widest", "(I)I"⟩, 23)]
theorem lw_r3 : ∀ q ∈ lw_privs_3, lw_okq q := List.forall_mem_cons.mpr ⟨lw_p32, List.forall_mem_cons.mpr ⟨lw_p33, List.forall_mem_cons.mpr ⟨lw_p34, List.forall_mem_cons.mpr ⟨lw_p35, List.forall_mem_cons.mpr ⟨lw_p36, List.forall_mem_cons.mpr ⟨lw_p37, List.forall_mem_cons.mpr ⟨lw_p38, List.forall_mem_cons.mpr ⟨lw_p39, List.forall_mem_cons.mpr ⟨lw_p40, List.forall_mem_cons.mpr ⟨lw_p41, List.forall_mem_cons.mpr ⟨lw_p42, List.forall_mem_cons.mpr ⟨lw_p43, List.forall_mem_cons.mpr ⟨lw_p44, List.forall_mem_cons.mpr ⟨lw_p45, List.forall_mem_cons.mpr ⟨lw_p46, List.forall_mem_cons.mpr ⟨lw_p47, fun _ h => absurd h List.not_mem_nil⟩⟩⟩⟩⟩⟩⟩⟩⟩⟩⟩⟩⟩⟩⟩⟩
theorem lw_p48 : lw_okq (⟨"WallDownModel", "richest", "(I)I"⟩, 23) := ⟨⟨by decide +kernel, by decide +kernel⟩, List.mem_of_getElem? (i := 797) (by decide +kernel), List.mem_of_getElem? (i := 1105) (by decide +kernel), List.mem_of_getElem? (i := 1106) (by decide +kernel)⟩
theorem lw_p49 : lw_okq (⟨"WallDownModel", "richestNow", "(I)I"⟩, 23) := ⟨⟨by decide +kernel, by decide +kernel⟩, List.mem_of_getElem? (i := 797) (by decide +kernel), List.mem_of_getElem? (i := 1109) (by decide +kernel), List.mem_of_getElem? (i := 1110) (by decide +kernel)⟩
theorem lw_p50 : lw_okq (⟨"WallDownModel", "paidIn", "(I)I"⟩, 23) := ⟨⟨by decide +kernel, by decide +kernel⟩, List.mem_of_getElem? (i := 797) (by decide +kernel), List.mem_of_getElem? (i := 1113) (by decide +kernel), List.mem_of_getElem? (i := 1114) (by decide +kernel)⟩
theorem lw_p51 : lw_okq (⟨"WallDownModel", "moveAll", "(Z[I)V"⟩, 23) := ⟨⟨by decide +kernel, by decide +kernel⟩, List.mem_of_getElem? (i := 797) (by decide +kernel), List.mem_of_getElem? (i := 1157) (by decide +kernel), List.mem_of_getElem? (i := 1158) (by decide +kernel)⟩
theorem lw_p52 : lw_okq (⟨"WallDownModel", "advance", "()V"⟩, 23) := ⟨⟨by decide +kernel, by decide +kernel⟩, List.mem_of_getElem? (i := 797) (by decide +kernel), List.mem_of_getElem? (i := 1161) (by decide +kernel), List.mem_of_getElem? (i := 1162) (by decide +kernel)⟩
theorem lw_p53 : lw_okq (⟨"WallDownModel", "byteAt", "(I)I"⟩, 23) := ⟨⟨by decide +kernel, by decide +kernel⟩, List.mem_of_getElem? (i := 797) (by decide +kernel), List.mem_of_getElem? (i := 1165) (by decide +kernel), List.mem_of_getElem? (i := 1166) (by decide +kernel)⟩
theorem lw_p54 : lw_okq (⟨"WallDownModel", "wantItem", "()V"⟩, 23) := ⟨⟨by decide +kernel, by decide +kernel⟩, List.mem_of_getElem? (i := 797) (by decide +kernel), List.mem_of_getElem? (i := 1178) (by decide +kernel), List.mem_of_getElem? (i := 1179) (by decide +kernel)⟩
theorem lw_p55 : lw_okq (⟨"WallDownModel", "kindHere", "()I"⟩, 23) := ⟨⟨by decide +kernel, by decide +kernel⟩, List.mem_of_getElem? (i := 797) (by decide +kernel), List.mem_of_getElem? (i := 1182) (by decide +kernel), List.mem_of_getElem? (i := 1183) (by decide +kernel)⟩
theorem lw_p56 : lw_okq (⟨"WallDownModel", "isWord", "(J)Z"⟩, 23) := ⟨⟨by decide +kernel, by decide +kernel⟩, List.mem_of_getElem? (i := 797) (by decide +kernel), List.mem_of_getElem? (i := 1187) (by decide +kernel), List.mem_of_getElem? (i := 1188) (by decide +kernel)⟩
theorem lw_p57 : lw_okq (⟨"WallDownModel", "wantStone", "(I)V"⟩, 23) := ⟨⟨by decide +kernel, by decide +kernel⟩, List.mem_of_getElem? (i := 797) (by decide +kernel), List.mem_of_getElem? (i := 1196) (by decide +kernel), List.mem_of_getElem? (i := 1197) (by decide +kernel)⟩
theorem lw_p58 : lw_okq (⟨"WallDownModel", "wantNumber", "(II)I"⟩, 23) := ⟨⟨by decide +kernel, by decide +kernel⟩, List.mem_of_getElem? (i := 797) (by decide +kernel), List.mem_of_getElem? (i := 1200) (by decide +kernel), List.mem_of_getElem? (i := 1201) (by decide +kernel)⟩
theorem lw_p59 : lw_okq (⟨"WallDownModel", "mayWant", "(JIII)I"⟩, 23) := ⟨⟨by decide +kernel, by decide +kernel⟩, List.mem_of_getElem? (i := 797) (by decide +kernel), List.mem_of_getElem? (i := 1205) (by decide +kernel), List.mem_of_getElem? (i := 1206) (by decide +kernel)⟩
theorem lw_p60 : lw_okq (⟨"WallDownModel", "wantBeam", "()V"⟩, 23) := ⟨⟨by decide +kernel, by decide +kernel⟩, List.mem_of_getElem? (i := 797) (by decide +kernel), List.mem_of_getElem? (i := 1211) (by decide +kernel), List.mem_of_getElem? (i := 1212) (by decide +kernel)⟩
theorem lw_p61 : lw_okq (⟨"WallDownModel", "wantWedge", "()V"⟩, 23) := ⟨⟨by decide +kernel, by decide +kernel⟩, List.mem_of_getElem? (i := 797) (by decide +kernel), List.mem_of_getElem? (i := 1218) (by decide +kernel), List.mem_of_getElem? (i := 1219) (by decide +kernel)⟩
theorem lw_p62 : lw_okq (⟨"WallDownModel", "wantSlack", "()V"⟩, 23) := ⟨⟨by decide +kernel, by decide +kernel⟩, List.mem_of_getElem? (i := 797) (by decide +kernel), List.mem_of_getElem? (i := 1223) (by decide +kernel), List.mem_of_getElem? (i := 1224) (by decide +kernel)⟩
theorem lw_p63 : lw_okq (⟨"WallDownModel", "wantPulls", "()V"⟩, 23) := ⟨⟨by decide +kernel, by decide +kernel⟩, List.mem_of_getElem? (i := 797) (by decide +kernel), List.mem_of_getElem? (i := 1228) (by decide +kernel), List.mem_of_getElem? (i := 1229) (by decide +kernel)⟩
def lw_privs_4 : List (MethodName × Nat) := [(⟨"WallDownModel", "richest", "(I)I"⟩, 23), (⟨"WallDownModel", "richestNow", "(I)I"⟩, 23), (⟨"WallDownModel", "paidIn", "(I)I"⟩, 23), (⟨"WallDownModel", "moveAll", "(Z[I)V"⟩, 23), (⟨"WallDownModel", "advance", "()V"⟩, 23), (⟨"WallDownModel", "byteAt", "(I)I"⟩, 23), (⟨"WallDownModel", "wantItem", "()V"⟩, 23), (⟨"WallDownModel", "kindHere", "()I"⟩, 23), (⟨"WallDownModel", "isWord", "(J)Z"⟩, 23), (⟨"WallDownModel", "wantStone", "(I)V"⟩, 23), (⟨"WallDownModel", "wantNumber", "(II)I"⟩, 23), (⟨"WallDownModel", "mayWant", "(JIII)I"⟩, 23), (⟨"WallDownModel", "wantBeam", "()V"⟩, 23), (⟨"WallDownModel", "wantWedge", "()V"⟩, 23), (⟨"WallDownModel", "wantSlack", "()V"⟩, 23), (⟨"WallDownModel", "wantPulls", "()V"⟩, 23)]
theorem lw_r4 : ∀ q ∈ lw_privs_4, lw_okq q := List.forall_mem_cons.mpr ⟨lw_p48, List.forall_mem_cons.mpr ⟨lw_p49, List.forall_mem_cons.mpr ⟨lw_p50, List.forall_mem_cons.mpr ⟨lw_p51, List.forall_mem_cons.mpr ⟨lw_p52, List.forall_mem_cons.mpr ⟨lw_p53, List.forall_mem_cons.mpr ⟨lw_p54, List.forall_mem_cons.mpr ⟨lw_p55, List.forall_mem_cons.mpr ⟨lw_p56, List.forall_mem_cons.mpr ⟨lw_p57, List.forall_mem_cons.mpr ⟨lw_p58, List.forall_mem_cons.mpr ⟨lw_p59, List.forall_mem_cons.mpr ⟨lw_p60, List.forall_mem_cons.mpr ⟨lw_p61, List.forall_mem_cons.mpr ⟨lw_p62, List.forall_mem_cons.mpr ⟨lw_p63, fun _ h => absurd h List.not_mem_nil⟩⟩⟩⟩⟩⟩⟩⟩⟩⟩⟩⟩⟩⟩⟩⟩
theorem lw_p64 : lw_okq (⟨"WallDownModel", "isPart", "(III)Z"⟩, 23) := ⟨⟨by decide +kernel, by decide +kernel⟩, List.mem_of_getElem? (i := 797) (by decide +kernel), List.mem_of_getElem? (i := 1252) (by decide +kernel), List.mem_of_getElem? (i := 1253) (by decide +kernel)⟩
def lw_privs_5 : List (MethodName × Nat) := [(⟨"WallDownModel", "isPart", "(III)Z"⟩, 23)]
theorem lw_r5 : ∀ q ∈ lw_privs_5, lw_okq q := List.forall_mem_cons.mpr ⟨lw_p64, fun _ h => absurd h List.not_mem_nil⟩
def lw_privs : List (MethodName × Nat) := lw_privs_1 ++ (lw_privs_2 ++ (lw_privs_3 ++ (lw_privs_4 ++ (lw_privs_5))))
def lw_tbl : List Cond := k2_sels lw_privs ++ tables_1
theorem lw_privs_ok : ∀ q ∈ lw_privs, lw_okq q := by
  show ∀ q ∈ lw_privs_1 ++ (lw_privs_2 ++ (lw_privs_3 ++ (lw_privs_4 ++ (lw_privs_5)))), lw_okq q
  exact List.forall_mem_append.mpr ⟨lw_r1, List.forall_mem_append.mpr ⟨lw_r2, List.forall_mem_append.mpr ⟨lw_r3, List.forall_mem_append.mpr ⟨lw_r4, lw_r5⟩⟩⟩⟩
end
section
def RX0 : String := "WallDown$House"
def TX0 : u_T := fun k => match k with
  | 0 => ("WallDown$House", "kinds", "[I", true)
  | 1 => ("WallDown$House", "highs", "[I", true)
  | 2 => ("WallDown$House", "prices", "[I", true)
  | 3 => ("WallDown$House", "counts", "[I", true)
  | 4 => ("WallDown$House", "wedges", "[I", true)
  | 5 => ("WallDown$House", "beams", "I", false)
  | 6 => ("WallDown$House", "slack", "I", false)
  | 7 => ("WallDown$House", "night", "I", false)
  | _ => ("WallDown$House", "purse", "I", false)
def tyX0 : Nat → FieldType := fun k => match k with
  | 0 => .array .int
  | 1 => .array .int
  | 2 => .array .int
  | 3 => .array .int
  | 4 => .array .int
  | 5 => .int
  | 6 => .int
  | 7 => .int
  | _ => .int
abbrev wsX00 : List Cond := u_ws RX0 TX0 9
theorem nmX0 : ∀ a, a < 9 → ∀ b, b < 9 → a ≠ b → (TX0 a).2.1 ≠ (TX0 b).2.1 := by decide +kernel
theorem tyX0_ok : ∀ k, k < 9 → parseFieldDescriptor (TX0 k).2.2.1 = some (tyX0 k) := by decide +kernel
abbrev cX0_init : ByteArray := prog_2_method_1_code
def yX0_init : MethodName := ⟨RX0, "<init>", "()V"⟩
abbrev cX0_place : ByteArray := prog_2_method_2_code
def yX0_place : MethodName := ⟨RX0, "place", "(II)I"⟩
abbrev cX0_becomeLike : ByteArray := prog_2_method_3_code
def yX0_becomeLike : MethodName := ⟨RX0, "becomeLike", "(LWallDown$House;)V"⟩
abbrev cX0_put : ByteArray := prog_2_method_4_code
def yX0_put : MethodName := ⟨RX0, "put", "(IIII)V"⟩
abbrev cX0_takeLowest : ByteArray := prog_2_method_5_code
def yX0_takeLowest : MethodName := ⟨RX0, "takeLowest", "(I)V"⟩
abbrev cX0_layBeam : ByteArray := prog_2_method_6_code
def yX0_layBeam : MethodName := ⟨RX0, "layBeam", "(IZ)V"⟩
abbrev cX0_tallOf : ByteArray := prog_2_method_7_code
def yX0_tallOf : MethodName := ⟨RX0, "tallOf", "(II)I"⟩
abbrev cX0_coinOf : ByteArray := prog_2_method_8_code
def yX0_coinOf : MethodName := ⟨RX0, "coinOf", "(II)I"⟩
abbrev cX0_topOf : ByteArray := prog_2_method_9_code
def yX0_topOf : MethodName := ⟨RX0, "topOf", "(I)I"⟩
abbrev cX0_coinsOf : ByteArray := prog_2_method_10_code
def yX0_coinsOf : MethodName := ⟨RX0, "coinsOf", "(I)I"⟩
abbrev cX0_allTops : ByteArray := prog_2_method_11_code
def yX0_allTops : MethodName := ⟨RX0, "allTops", "()I"⟩
abbrev cX0_allCoins : ByteArray := prog_2_method_12_code
def yX0_allCoins : MethodName := ⟨RX0, "allCoins", "()I"⟩
abbrev cX0_allStones : ByteArray := prog_2_method_13_code
def yX0_allStones : MethodName := ⟨RX0, "allStones", "()I"⟩
abbrev cX0_standNow : ByteArray := prog_2_method_14_code
def yX0_standNow : MethodName := ⟨RX0, "standNow", "()I"⟩
def RX1 : String := "WallDown$Rows"
def TX1 : u_T := fun k => match k with
  | 0 => ("WallDown$Rows", "ways", "[J", true)
  | _ => ("WallDown$Rows", "best", "[I", true)
def tyX1 : Nat → FieldType := fun k => match k with
  | 0 => .array .long
  | _ => .array .int
abbrev wsX10 : List Cond := u_ws RX1 TX1 2
theorem nmX1 : ∀ a, a < 2 → ∀ b, b < 2 → a ≠ b → (TX1 a).2.1 ≠ (TX1 b).2.1 := by decide +kernel
theorem tyX1_ok : ∀ k, k < 2 → parseFieldDescriptor (TX1 k).2.2.1 = some (tyX1 k) := by decide +kernel
abbrev cX1_init : ByteArray := prog_3_method_1_code
def yX1_init : MethodName := ⟨RX1, "<init>", "()V"⟩
abbrev cX1_fill : ByteArray := prog_3_method_2_code
def yX1_fill : MethodName := ⟨RX1, "fill", "(LWallDown$Survey;LWallDown$Sheet;)I"⟩
abbrev cX1_lead : ByteArray := prog_3_method_3_code
def yX1_lead : MethodName := ⟨RX1, "lead", "(LWallDown$Survey;I)V"⟩
abbrev cX1_leadFrom : ByteArray := prog_3_method_4_code
def yX1_leadFrom : MethodName := ⟨RX1, "leadFrom", "(LWallDown$Survey;I)I"⟩
abbrev cX1_leastStand : ByteArray := prog_3_method_5_code
def yX1_leastStand : MethodName := ⟨RX1, "leastStand", "(LWallDown$Survey;)I"⟩
abbrev cX1_fewestPulls : ByteArray := prog_3_method_6_code
def yX1_fewestPulls : MethodName := ⟨RX1, "fewestPulls", "(LWallDown$Survey;II)I"⟩
abbrev cX1_fewestLeft : ByteArray := prog_3_method_7_code
def yX1_fewestLeft : MethodName := ⟨RX1, "fewestLeft", "(LWallDown$Survey;I)I"⟩
abbrev cX1_rank : ByteArray := prog_3_method_8_code
def yX1_rank : MethodName := ⟨RX1, "rank", "(LWallDown$Survey;)V"⟩
abbrev cX1_bestUpTo : ByteArray := prog_3_method_9_code
def yX1_bestUpTo : MethodName := ⟨RX1, "bestUpTo", "(LWallDown$Survey;I)I"⟩
abbrev cX1_waysBy : ByteArray := prog_3_method_10_code
def yX1_waysBy : MethodName := ⟨RX1, "waysBy", "(LWallDown$Survey;I)J"⟩
def RX2 : String := "WallDown$Sheet"
def TX2 : u_T := fun k => match k with
  | 0 => ("WallDown$Sheet", "numbers", "[J", true)
  | 1 => ("WallDown$Sheet", "bits", "I", false)
  | _ => ("WallDown$Sheet", "size", "I", false)
def tyX2 : Nat → FieldType := fun k => match k with
  | 0 => .array .long
  | 1 => .int
  | _ => .int
abbrev wsX20 : List Cond := u_ws RX2 TX2 3
theorem nmX2 : ∀ a, a < 3 → ∀ b, b < 3 → a ≠ b → (TX2 a).2.1 ≠ (TX2 b).2.1 := by decide +kernel
theorem tyX2_ok : ∀ k, k < 3 → parseFieldDescriptor (TX2 k).2.2.1 = some (tyX2 k) := by decide +kernel
abbrev cX2_init : ByteArray := prog_4_method_1_code
def yX2_init : MethodName := ⟨RX2, "<init>", "()V"⟩
abbrev cX2_layOut : ByteArray := prog_4_method_2_code
def yX2_layOut : MethodName := ⟨RX2, "layOut", "(II)V"⟩
abbrev cX2_put : ByteArray := prog_4_method_3_code
def yX2_put : MethodName := ⟨RX2, "put", "(IJ)V"⟩
abbrev cX2_hasPart : ByteArray := prog_4_method_4_code
def yX2_hasPart : MethodName := ⟨RX2, "hasPart", "(II)Z"⟩
abbrev cX2_tells : ByteArray := prog_4_method_5_code
def yX2_tells : MethodName := ⟨RX2, "tells", "(II)Z"⟩
def RX3 : String := "WallDown$Survey"
def TX3 : u_T := fun k => match k with
  | 0 => ("WallDown$Survey", "tops", "[I", true)
  | 1 => ("WallDown$Survey", "coinsOut", "[I", true)
  | 2 => ("WallDown$Survey", "lowestKinds", "[I", true)
  | 3 => ("WallDown$Survey", "now", "I", false)
  | 4 => ("WallDown$Survey", "beams", "I", false)
  | _ => ("WallDown$Survey", "slack", "I", false)
def tyX3 : Nat → FieldType := fun k => match k with
  | 0 => .array .int
  | 1 => .array .int
  | 2 => .array .int
  | 3 => .int
  | 4 => .int
  | _ => .int
abbrev wsX30 : List Cond := u_ws RX3 TX3 6
theorem nmX3 : ∀ a, a < 6 → ∀ b, b < 6 → a ≠ b → (TX3 a).2.1 ≠ (TX3 b).2.1 := by decide +kernel
theorem tyX3_ok : ∀ k, k < 6 → parseFieldDescriptor (TX3 k).2.2.1 = some (tyX3 k) := by decide +kernel
abbrev cX3_init : ByteArray := prog_5_method_1_code
def yX3_init : MethodName := ⟨RX3, "<init>", "()V"⟩
abbrev cX3_unit : ByteArray := prog_5_method_2_code
def yX3_unit : MethodName := ⟨RX3, "unit", "(I)I"⟩
abbrev cX3_leftAt : ByteArray := prog_5_method_3_code
def yX3_leftAt : MethodName := ⟨RX3, "leftAt", "(II)I"⟩
abbrev cX3_stonesAt : ByteArray := prog_5_method_4_code
def yX3_stonesAt : MethodName := ⟨RX3, "stonesAt", "(I)I"⟩
abbrev cX3_isPartOf : ByteArray := prog_5_method_5_code
def yX3_isPartOf : MethodName := ⟨RX3, "isPartOf", "(II)Z"⟩
abbrev cX3_measure : ByteArray := prog_5_method_6_code
def yX3_measure : MethodName := ⟨RX3, "measure", "(LWallDown$House;)V"⟩
abbrev cX3_pulledAt : ByteArray := prog_5_method_7_code
def yX3_pulledAt : MethodName := ⟨RX3, "pulledAt", "(I)I"⟩
abbrev cX3_coinAt : ByteArray := prog_5_method_8_code
def yX3_coinAt : MethodName := ⟨RX3, "coinAt", "(I)I"⟩
abbrev cX3_unlikeAt : ByteArray := prog_5_method_9_code
def yX3_unlikeAt : MethodName := ⟨RX3, "unlikeAt", "(I)I"⟩
abbrev cX3_lowestMayGo : ByteArray := prog_5_method_10_code
def yX3_lowestMayGo : MethodName := ⟨RX3, "lowestMayGo", "(II)Z"⟩
abbrev cX3_canPullAt : ByteArray := prog_5_method_11_code
def yX3_canPullAt : MethodName := ⟨RX3, "canPullAt", "(II)Z"⟩
abbrev cX3_nextCoin : ByteArray := prog_5_method_12_code
def yX3_nextCoin : MethodName := ⟨RX3, "nextCoin", "(II)I"⟩
def RX4 : String := "WallDown$Tape"
def TX4 : u_T := fun k => match k with
  | 0 => ("WallDown$Tape", "bytes", "[I", true)
  | 1 => ("WallDown$Tape", "length", "I", false)
  | 2 => ("WallDown$Tape", "token", "I", false)
  | 3 => ("WallDown$Tape", "start", "I", false)
  | 4 => ("WallDown$Tape", "number", "I", false)
  | _ => ("WallDown$Tape", "end", "I", false)
def tyX4 : Nat → FieldType := fun k => match k with
  | 0 => .array .int
  | 1 => .int
  | 2 => .int
  | 3 => .int
  | 4 => .int
  | _ => .int
abbrev wsX40 : List Cond := u_ws RX4 TX4 6
theorem nmX4 : ∀ a, a < 6 → ∀ b, b < 6 → a ≠ b → (TX4 a).2.1 ≠ (TX4 b).2.1 := by decide +kernel
theorem tyX4_ok : ∀ k, k < 6 → parseFieldDescriptor (TX4 k).2.2.1 = some (tyX4 k) := by decide +kernel
abbrev cX4_init : ByteArray := prog_6_method_1_code
def yX4_init : MethodName := ⟨RX4, "<init>", "()V"⟩
abbrev cX4_append : ByteArray := prog_6_method_2_code
def yX4_append : MethodName := ⟨RX4, "append", "(I)V"⟩
abbrev cX4_rewind : ByteArray := prog_6_method_3_code
def yX4_rewind : MethodName := ⟨RX4, "rewind", "()V"⟩
abbrev cX4_step : ByteArray := prog_6_method_4_code
def yX4_step : MethodName := ⟨RX4, "step", "()V"⟩
abbrev cX4_skipLetters : ByteArray := prog_6_method_5_code
def yX4_skipLetters : MethodName := ⟨RX4, "skipLetters", "()V"⟩
abbrev cX4_skipDigits : ByteArray := prog_6_method_6_code
def yX4_skipDigits : MethodName := ⟨RX4, "skipDigits", "()V"⟩
abbrev cX4_isLetter : ByteArray := prog_6_method_7_code
def yX4_isLetter : MethodName := ⟨RX4, "isLetter", "(I)Z"⟩
abbrev cX4_isDigit : ByteArray := prog_6_method_8_code
def yX4_isDigit : MethodName := ⟨RX4, "isDigit", "(I)Z"⟩
abbrev cX4_isNumber : ByteArray := prog_6_method_9_code
def yX4_isNumber : MethodName := ⟨RX4, "isNumber", "(II)Z"⟩
abbrev cX4_isWord : ByteArray := prog_6_method_10_code
def yX4_isWord : MethodName := ⟨RX4, "isWord", "(Ljava/lang/String;)Z"⟩
def RX5 : String := "WallDown$Teller"
def TX5 : u_T := fun k => match k with
  | 0 => ("WallDown$Teller", "tape", "LWallDown$Tape;", true)
  | 1 => ("WallDown$Teller", "site", "LWallDown$House;", true)
  | _ => ("WallDown$Teller", "survey", "LWallDown$Survey;", true)
def tyX5 : Nat → FieldType := fun k => match k with
  | 0 => .object "WallDown$Tape"
  | 1 => .object "WallDown$House"
  | _ => .object "WallDown$Survey"
abbrev wsX50 : List Cond := u_ws RX5 TX5 3
theorem nmX5 : ∀ a, a < 3 → ∀ b, b < 3 → a ≠ b → (TX5 a).2.1 ≠ (TX5 b).2.1 := by decide +kernel
theorem tyX5_ok : ∀ k, k < 3 → parseFieldDescriptor (TX5 k).2.2.1 = some (tyX5 k) := by decide +kernel
abbrev cX5_init : ByteArray := prog_7_method_1_code
def yX5_init : MethodName := ⟨RX5, "<init>", "()V"⟩
abbrev cX5_tell : ByteArray := prog_7_method_2_code
def yX5_tell : MethodName := ⟨RX5, "tell", "(LWallDown$House;)I"⟩
abbrev cX5_tellItem : ByteArray := prog_7_method_3_code
def yX5_tellItem : MethodName := ⟨RX5, "tellItem", "()Z"⟩
abbrev cX5_nameOf : ByteArray := prog_7_method_4_code
def yX5_nameOf : MethodName := ⟨RX5, "nameOf", "(I)Ljava/lang/String;"⟩
abbrev cX5_tellStone : ByteArray := prog_7_method_5_code
def yX5_tellStone : MethodName := ⟨RX5, "tellStone", "(I)Z"⟩
abbrev cX5_tellBeam : ByteArray := prog_7_method_6_code
def yX5_tellBeam : MethodName := ⟨RX5, "tellBeam", "()Z"⟩
abbrev cX5_tellWedge : ByteArray := prog_7_method_7_code
def yX5_tellWedge : MethodName := ⟨RX5, "tellWedge", "()Z"⟩
abbrev cX5_tellSlack : ByteArray := prog_7_method_8_code
def yX5_tellSlack : MethodName := ⟨RX5, "tellSlack", "()Z"⟩
abbrev cX5_tellPulls : ByteArray := prog_7_method_9_code
def yX5_tellPulls : MethodName := ⟨RX5, "tellPulls", "()Z"⟩
def RX6 : String := "WallDown"
def TX6 : u_T := fun k => match k with
  | 0 => ("WallDown", "house", "LWallDown$House;", true)
  | 1 => ("WallDown", "kept", "LWallDown$House;", true)
  | 2 => ("WallDown", "trial", "LWallDown$House;", true)
  | 3 => ("WallDown", "survey", "LWallDown$Survey;", true)
  | 4 => ("WallDown", "rows", "LWallDown$Rows;", true)
  | 5 => ("WallDown", "teller", "LWallDown$Teller;", true)
  | 6 => ("WallDown", "sheets", "[LWallDown$Sheet;", true)
  | 7 => ("WallDown", "found", "[I", true)
  | _ => ("WallDown", "keeps", "Z", false)
def tyX6 : Nat → FieldType := fun k => match k with
  | 0 => .object "WallDown$House"
  | 1 => .object "WallDown$House"
  | 2 => .object "WallDown$House"
  | 3 => .object "WallDown$Survey"
  | 4 => .object "WallDown$Rows"
  | 5 => .object "WallDown$Teller"
  | 6 => .array (.object "WallDown$Sheet")
  | 7 => .array .int
  | _ => .boolean
abbrev wsX60 : List Cond := u_ws RX6 TX6 9
theorem nmX6 : ∀ a, a < 9 → ∀ b, b < 9 → a ≠ b → (TX6 a).2.1 ≠ (TX6 b).2.1 := by decide +kernel
theorem tyX6_ok : ∀ k, k < 9 → parseFieldDescriptor (TX6 k).2.2.1 = some (tyX6 k) := by decide +kernel
abbrev cX6_init : ByteArray := prog_1_method_1_code
def yX6_init : MethodName := ⟨RX6, "<init>", "()V"⟩
abbrev cX6_stone : ByteArray := prog_1_method_2_code
def yX6_stone : MethodName := ⟨RX6, "stone", "(III)I"⟩
abbrev cX6_wallOf : ByteArray := prog_1_method_3_code
def yX6_wallOf : MethodName := ⟨RX6, "wallOf", "(II)I"⟩
abbrev cX6_of : ByteArray := prog_1_method_4_code
def yX6_of : MethodName := ⟨RX6, "of", "(III)I"⟩
abbrev cX6_set : ByteArray := prog_1_method_5_code
def yX6_set : MethodName := ⟨RX6, "set", "(IIII)I"⟩
abbrev cX6_turn : ByteArray := prog_1_method_6_code
def yX6_turn : MethodName := ⟨RX6, "turn", "(III)I"⟩
abbrev cX6_as : ByteArray := prog_1_method_7_code
def yX6_as : MethodName := ⟨RX6, "as", "(III)I"⟩
abbrev cX6_wedge : ByteArray := prog_1_method_8_code
def yX6_wedge : MethodName := ⟨RX6, "wedge", "(II)I"⟩
abbrev cX6_slack : ByteArray := prog_1_method_9_code
def yX6_slack : MethodName := ⟨RX6, "slack", "(I)I"⟩
abbrev cX6_beam : ByteArray := prog_1_method_10_code
def yX6_beam : MethodName := ⟨RX6, "beam", "(IZ)I"⟩
abbrev cX6_nights : ByteArray := prog_1_method_11_code
def yX6_nights : MethodName := ⟨RX6, "nights", "(I)I"⟩
abbrev cX6_now : ByteArray := prog_1_method_12_code
def yX6_now : MethodName := ⟨RX6, "now", "(I)I"⟩
abbrev cX6_pull : ByteArray := prog_1_method_13_code
def yX6_pull : MethodName := ⟨RX6, "pull", "(I)I"⟩
abbrev cX6_pulls : ByteArray := prog_1_method_14_code
def yX6_pulls : MethodName := ⟨RX6, "pulls", "()I"⟩
abbrev cX6_can : ByteArray := prog_1_method_15_code
def yX6_can : MethodName := ⟨RX6, "can", "(I)I"⟩
abbrev cX6_stands : ByteArray := prog_1_method_16_code
def yX6_stands : MethodName := ⟨RX6, "stands", "()I"⟩
abbrev cX6_least : ByteArray := prog_1_method_17_code
def yX6_least : MethodName := ⟨RX6, "least", "()I"⟩
abbrev cX6_ways : ByteArray := prog_1_method_18_code
def yX6_ways : MethodName := ⟨RX6, "ways", "(I)J"⟩
abbrev cX6_first : ByteArray := prog_1_method_19_code
def yX6_first : MethodName := ⟨RX6, "first", "(I)I"⟩
abbrev cX6_bring : ByteArray := prog_1_method_20_code
def yX6_bring : MethodName := ⟨RX6, "bring", "(I)I"⟩
abbrev cX6_slackFor : ByteArray := prog_1_method_21_code
def yX6_slackFor : MethodName := ⟨RX6, "slackFor", "(I)I"⟩
abbrev cX6_slackAll : ByteArray := prog_1_method_22_code
def yX6_slackAll : MethodName := ⟨RX6, "slackAll", "()I"⟩
abbrev cX6_most : ByteArray := prog_1_method_23_code
def yX6_most : MethodName := ⟨RX6, "most", "(I)I"⟩
abbrev cX6_where : ByteArray := prog_1_method_24_code
def yX6_where : MethodName := ⟨RX6, "where", "(I)I"⟩
abbrev cX6_out : ByteArray := prog_1_method_25_code
def yX6_out : MethodName := ⟨RX6, "out", "(II)I"⟩
abbrev cX6_reach : ByteArray := prog_1_method_26_code
def yX6_reach : MethodName := ⟨RX6, "reach", "(I)I"⟩
abbrev cX6_help : ByteArray := prog_1_method_27_code
def yX6_help : MethodName := ⟨RX6, "help", "()I"⟩
abbrev cX6_frees : ByteArray := prog_1_method_28_code
def yX6_frees : MethodName := ⟨RX6, "frees", "()I"⟩
abbrev cX6_kind : ByteArray := prog_1_method_29_code
def yX6_kind : MethodName := ⟨RX6, "kind", "(I)I"⟩
abbrev cX6_till : ByteArray := prog_1_method_30_code
def yX6_till : MethodName := ⟨RX6, "till", "()I"⟩
abbrev cX6_feed : ByteArray := prog_1_method_31_code
def yX6_feed : MethodName := ⟨RX6, "feed", "(II)I"⟩
abbrev cX6_wipe : ByteArray := prog_1_method_32_code
def yX6_wipe : MethodName := ⟨RX6, "wipe", "()I"⟩
abbrev cX6_house : ByteArray := prog_1_method_33_code
def yX6_house : MethodName := ⟨RX6, "house", "()I"⟩
abbrev cX6_sheet : ByteArray := prog_1_method_34_code
def yX6_sheet : MethodName := ⟨RX6, "sheet", "(III)I"⟩
abbrev cX6_write : ByteArray := prog_1_method_35_code
def yX6_write : MethodName := ⟨RX6, "write", "(IIJ)J"⟩
abbrev cX6_copy : ByteArray := prog_1_method_36_code
def yX6_copy : MethodName := ⟨RX6, "copy", "(IIIII)I"⟩
abbrev cX6_lays : ByteArray := prog_1_method_37_code
def yX6_lays : MethodName := ⟨RX6, "lays", "(I)I"⟩
abbrev cX6_book : ByteArray := prog_1_method_38_code
def yX6_book : MethodName := ⟨RX6, "book", "(I)I"⟩
abbrev cX6_read : ByteArray := prog_1_method_39_code
def yX6_read : MethodName := ⟨RX6, "read", "(I)J"⟩
abbrev cX6_image : ByteArray := prog_1_method_40_code
def yX6_image : MethodName := ⟨RX6, "image", "()I"⟩
abbrev cX6_undo : ByteArray := prog_1_method_41_code
def yX6_undo : MethodName := ⟨RX6, "undo", "()I"⟩
abbrev cX6_tear : ByteArray := prog_1_method_42_code
def yX6_tear : MethodName := ⟨RX6, "tear", "()I"⟩
abbrev cX6_count : ByteArray := prog_1_method_43_code
def yX6_count : MethodName := ⟨RX6, "count", "(I)I"⟩
abbrev cX6_status : ByteArray := prog_1_method_44_code
def yX6_status : MethodName := ⟨RX6, "status", "(I)I"⟩
abbrev cX6_finding : ByteArray := prog_1_method_45_code
def yX6_finding : MethodName := ⟨RX6, "finding", "(I)I"⟩
abbrev cX6_sheetFinding : ByteArray := prog_1_method_46_code
def yX6_sheetFinding : MethodName := ⟨RX6, "sheetFinding", "(I)I"⟩
abbrev cX6_isStone : ByteArray := prog_1_method_47_code
def yX6_isStone : MethodName := ⟨RX6, "isStone", "(II)Z"⟩
abbrev cX6_isStand : ByteArray := prog_1_method_48_code
def yX6_isStand : MethodName := ⟨RX6, "isStand", "(I)Z"⟩
abbrev cX6_mayGoAsLowest : ByteArray := prog_1_method_49_code
def yX6_mayGoAsLowest : MethodName := ⟨RX6, "mayGoAsLowest", "(II)Z"⟩
abbrev cX6_standsOf : ByteArray := prog_1_method_50_code
def yX6_standsOf : MethodName := ⟨RX6, "standsOf", "(LWallDown$House;)I"⟩
abbrev cX6_canBe : ByteArray := prog_1_method_51_code
def yX6_canBe : MethodName := ⟨RX6, "canBe", "(LWallDown$House;I)Z"⟩
abbrev cX6_bestStand : ByteArray := prog_1_method_52_code
def yX6_bestStand : MethodName := ⟨RX6, "bestStand", "(I)I"⟩
abbrev cX6_leastSlack : ByteArray := prog_1_method_53_code
def yX6_leastSlack : MethodName := ⟨RX6, "leastSlack", "(I)I"⟩
abbrev cX6_isWithin : ByteArray := prog_1_method_54_code
def yX6_isWithin : MethodName := ⟨RX6, "isWithin", "(III)Z"⟩
abbrev cX6_isWall : ByteArray := prog_1_method_55_code
def yX6_isWall : MethodName := ⟨RX6, "isWall", "(I)Z"⟩
abbrev cX6_isKind : ByteArray := prog_1_method_56_code
def yX6_isKind : MethodName := ⟨RX6, "isKind", "(I)Z"⟩
abbrev cX6_isHigh : ByteArray := prog_1_method_57_code
def yX6_isHigh : MethodName := ⟨RX6, "isHigh", "(I)Z"⟩
abbrev cX6_isSheet : ByteArray := prog_1_method_58_code
def yX6_isSheet : MethodName := ⟨RX6, "isSheet", "(I)Z"⟩
abbrev cX6_isWidth : ByteArray := prog_1_method_59_code
def yX6_isWidth : MethodName := ⟨RX6, "isWidth", "(I)Z"⟩
abbrev cX6_isUnder : ByteArray := prog_1_method_60_code
def yX6_isUnder : MethodName := ⟨RX6, "isUnder", "(II)Z"⟩
abbrev cX6_asNumber : ByteArray := prog_1_method_61_code
def yX6_asNumber : MethodName := ⟨RX6, "asNumber", "(Z)I"⟩
def RX7 : String := "WallDownModel"
def TX7 : u_T := fun k => match k with
  | 0 => ("WallDownModel", "row", "[I", true)
  | 1 => ("WallDownModel", "found", "[I", true)
  | 2 => ("WallDownModel", "top", "[I", true)
  | 3 => ("WallDownModel", "paid", "[I", true)
  | 4 => ("WallDownModel", "rows", "[J", true)
  | 5 => ("WallDownModel", "goes", "[I", true)
  | 6 => ("WallDownModel", "leads", "[Z", true)
  | 7 => ("WallDownModel", "need", "[I", true)
  | 8 => ("WallDownModel", "tape", "[I", true)
  | 9 => ("WallDownModel", "tapeMany", "I", false)
  | 10 => ("WallDownModel", "sort", "I", false)
  | 11 => ("WallDownModel", "begins", "I", false)
  | 12 => ("WallDownModel", "tokenEnds", "I", false)
  | 13 => ("WallDownModel", "word", "J", false)
  | 14 => ("WallDownModel", "value", "I", false)
  | 15 => ("WallDownModel", "good", "Z", false)
  | 16 => ("WallDownModel", "bitsOf", "[I", true)
  | 17 => ("WallDownModel", "sizeOf", "[I", true)
  | 18 => ("WallDownModel", "sheets", "[J", true)
  | 19 => ("WallDownModel", "lent", "[J", true)
  | 20 => ("WallDownModel", "image", "[I", true)
  | 21 => ("WallDownModel", "before", "[I", true)
  | _ => ("WallDownModel", "isKept", "Z", false)
def tyX7 : Nat → FieldType := fun k => match k with
  | 0 => .array .int
  | 1 => .array .int
  | 2 => .array .int
  | 3 => .array .int
  | 4 => .array .long
  | 5 => .array .int
  | 6 => .array .boolean
  | 7 => .array .int
  | 8 => .array .int
  | 9 => .int
  | 10 => .int
  | 11 => .int
  | 12 => .int
  | 13 => .long
  | 14 => .int
  | 15 => .boolean
  | 16 => .array .int
  | 17 => .array .int
  | 18 => .array .long
  | 19 => .array .long
  | 20 => .array .int
  | 21 => .array .int
  | _ => .boolean
abbrev wsX70 : List Cond := u_ws RX7 TX7 23
theorem nmX7 : ∀ a, a < 23 → ∀ b, b < 23 → a ≠ b → (TX7 a).2.1 ≠ (TX7 b).2.1 := by decide +kernel
theorem tyX7_ok : ∀ k, k < 23 → parseFieldDescriptor (TX7 k).2.2.1 = some (tyX7 k) := by decide +kernel
abbrev cX7_init : ByteArray := prog_9_method_1_code
def yX7_init : MethodName := ⟨RX7, "<init>", "()V"⟩
abbrev cX7_in : ByteArray := prog_9_method_2_code
def yX7_in : MethodName := ⟨RX7, "in", "(III)Z"⟩
abbrev cX7_finds : ByteArray := prog_9_method_3_code
def yX7_finds : MethodName := ⟨RX7, "finds", "(I)I"⟩
abbrev cX7_isWall : ByteArray := prog_9_method_4_code
def yX7_isWall : MethodName := ⟨RX7, "isWall", "(I)Z"⟩
abbrev cX7_isKind : ByteArray := prog_9_method_5_code
def yX7_isKind : MethodName := ⟨RX7, "isKind", "(I)Z"⟩
abbrev cX7_many : ByteArray := prog_9_method_6_code
def yX7_many : MethodName := ⟨RX7, "many", "(I)I"⟩
abbrev cX7_isStone : ByteArray := prog_9_method_7_code
def yX7_isStone : MethodName := ⟨RX7, "isStone", "(II)Z"⟩
abbrev cX7_at : ByteArray := prog_9_method_8_code
def yX7_at : MethodName := ⟨RX7, "at", "(III)I"⟩
abbrev cX7_its : ByteArray := prog_9_method_9_code
def yX7_its : MethodName := ⟨RX7, "its", "(III)I"⟩
abbrev cX7_tall : ByteArray := prog_9_method_10_code
def yX7_tall : MethodName := ⟨RX7, "tall", "(II)I"⟩
abbrev cX7_coin : ByteArray := prog_9_method_11_code
def yX7_coin : MethodName := ⟨RX7, "coin", "(II)I"⟩
abbrev cX7_left : ByteArray := prog_9_method_12_code
def yX7_left : MethodName := ⟨RX7, "left", "(II)I"⟩
abbrev cX7_mayGo : ByteArray := prog_9_method_13_code
def yX7_mayGo : MethodName := ⟨RX7, "mayGo", "(III)Z"⟩
abbrev cX7_standNow : ByteArray := prog_9_method_14_code
def yX7_standNow : MethodName := ⟨RX7, "standNow", "()I"⟩
abbrev cX7_stones : ByteArray := prog_9_method_15_code
def yX7_stones : MethodName := ⟨RX7, "stones", "(I)I"⟩
abbrev cX7_findTops : ByteArray := prog_9_method_16_code
def yX7_findTops : MethodName := ⟨RX7, "findTops", "()V"⟩
abbrev cX7_topIn : ByteArray := prog_9_method_17_code
def yX7_topIn : MethodName := ⟨RX7, "topIn", "(II)I"⟩
abbrev cX7_lies : ByteArray := prog_9_method_18_code
def yX7_lies : MethodName := ⟨RX7, "lies", "(I)Z"⟩
abbrev cX7_unlikeAt : ByteArray := prog_9_method_19_code
def yX7_unlikeAt : MethodName := ⟨RX7, "unlikeAt", "(II)I"⟩
abbrev cX7_isSafe : ByteArray := prog_9_method_20_code
def yX7_isSafe : MethodName := ⟨RX7, "isSafe", "(I)Z"⟩
abbrev cX7_canPull : ByteArray := prog_9_method_21_code
def yX7_canPull : MethodName := ⟨RX7, "canPull", "(II)Z"⟩
abbrev cX7_addStone : ByteArray := prog_9_method_22_code
def yX7_addStone : MethodName := ⟨RX7, "addStone", "(IIII)V"⟩
abbrev cX7_stone : ByteArray := prog_9_method_23_code
def yX7_stone : MethodName := ⟨RX7, "stone", "(III)I"⟩
abbrev cX7_wallOf : ByteArray := prog_9_method_24_code
def yX7_wallOf : MethodName := ⟨RX7, "wallOf", "(II)I"⟩
abbrev cX7_of : ByteArray := prog_9_method_25_code
def yX7_of : MethodName := ⟨RX7, "of", "(III)I"⟩
abbrev cX7_set : ByteArray := prog_9_method_26_code
def yX7_set : MethodName := ⟨RX7, "set", "(IIII)I"⟩
abbrev cX7_turn : ByteArray := prog_9_method_27_code
def yX7_turn : MethodName := ⟨RX7, "turn", "(III)I"⟩
abbrev cX7_isUnder : ByteArray := prog_9_method_28_code
def yX7_isUnder : MethodName := ⟨RX7, "isUnder", "(II)Z"⟩
abbrev cX7_as : ByteArray := prog_9_method_29_code
def yX7_as : MethodName := ⟨RX7, "as", "(III)I"⟩
abbrev cX7_wedge : ByteArray := prog_9_method_30_code
def yX7_wedge : MethodName := ⟨RX7, "wedge", "(II)I"⟩
abbrev cX7_slack : ByteArray := prog_9_method_31_code
def yX7_slack : MethodName := ⟨RX7, "slack", "(I)I"⟩
abbrev cX7_beam : ByteArray := prog_9_method_32_code
def yX7_beam : MethodName := ⟨RX7, "beam", "(IZ)I"⟩
abbrev cX7_allTops : ByteArray := prog_9_method_33_code
def yX7_allTops : MethodName := ⟨RX7, "allTops", "()I"⟩
abbrev cX7_nights : ByteArray := prog_9_method_34_code
def yX7_nights : MethodName := ⟨RX7, "nights", "(I)I"⟩
abbrev cX7_mostUnlike : ByteArray := prog_9_method_35_code
def yX7_mostUnlike : MethodName := ⟨RX7, "mostUnlike", "()I"⟩
abbrev cX7_now : ByteArray := prog_9_method_36_code
def yX7_now : MethodName := ⟨RX7, "now", "(I)I"⟩
abbrev cX7_takeOut : ByteArray := prog_9_method_37_code
def yX7_takeOut : MethodName := ⟨RX7, "takeOut", "(I)V"⟩
abbrev cX7_canPullNow : ByteArray := prog_9_method_38_code
def yX7_canPullNow : MethodName := ⟨RX7, "canPullNow", "(I)Z"⟩
abbrev cX7_pull : ByteArray := prog_9_method_39_code
def yX7_pull : MethodName := ⟨RX7, "pull", "(I)I"⟩
abbrev cX7_pulls : ByteArray := prog_9_method_40_code
def yX7_pulls : MethodName := ⟨RX7, "pulls", "()I"⟩
abbrev cX7_findGoes : ByteArray := prog_9_method_41_code
def yX7_findGoes : MethodName := ⟨RX7, "findGoes", "()V"⟩
abbrev cX7_countRows : ByteArray := prog_9_method_42_code
def yX7_countRows : MethodName := ⟨RX7, "countRows", "()V"⟩
abbrev cX7_findRows : ByteArray := prog_9_method_43_code
def yX7_findRows : MethodName := ⟨RX7, "findRows", "()V"⟩
abbrev cX7_isStand : ByteArray := prog_9_method_44_code
def yX7_isStand : MethodName := ⟨RX7, "isStand", "(I)Z"⟩
abbrev cX7_can : ByteArray := prog_9_method_45_code
def yX7_can : MethodName := ⟨RX7, "can", "(I)I"⟩
abbrev cX7_howMany : ByteArray := prog_9_method_46_code
def yX7_howMany : MethodName := ⟨RX7, "howMany", "()I"⟩
abbrev cX7_howManyNow : ByteArray := prog_9_method_47_code
def yX7_howManyNow : MethodName := ⟨RX7, "howManyNow", "()I"⟩
abbrev cX7_stands : ByteArray := prog_9_method_48_code
def yX7_stands : MethodName := ⟨RX7, "stands", "()I"⟩
abbrev cX7_least : ByteArray := prog_9_method_49_code
def yX7_least : MethodName := ⟨RX7, "least", "()I"⟩
abbrev cX7_ways : ByteArray := prog_9_method_50_code
def yX7_ways : MethodName := ⟨RX7, "ways", "(I)J"⟩
abbrev cX7_findLeads : ByteArray := prog_9_method_51_code
def yX7_findLeads : MethodName := ⟨RX7, "findLeads", "(I)V"⟩
abbrev cX7_firstFrom : ByteArray := prog_9_method_52_code
def yX7_firstFrom : MethodName := ⟨RX7, "firstFrom", "(I)I"⟩
abbrev cX7_first : ByteArray := prog_9_method_53_code
def yX7_first : MethodName := ⟨RX7, "first", "(I)I"⟩
abbrev cX7_bring : ByteArray := prog_9_method_54_code
def yX7_bring : MethodName := ⟨RX7, "bring", "(I)I"⟩
abbrev cX7_widest : ByteArray := prog_9_method_55_code
def yX7_widest : MethodName := ⟨RX7, "widest", "(I)I"⟩
abbrev cX7_slackTo : ByteArray := prog_9_method_56_code
def yX7_slackTo : MethodName := ⟨RX7, "slackTo", "(I)I"⟩
abbrev cX7_slackFor : ByteArray := prog_9_method_57_code
def yX7_slackFor : MethodName := ⟨RX7, "slackFor", "(I)I"⟩
abbrev cX7_slackAll : ByteArray := prog_9_method_58_code
def yX7_slackAll : MethodName := ⟨RX7, "slackAll", "()I"⟩
abbrev cX7_paidIn : ByteArray := prog_9_method_59_code
def yX7_paidIn : MethodName := ⟨RX7, "paidIn", "(I)I"⟩
abbrev cX7_richest : ByteArray := prog_9_method_60_code
def yX7_richest : MethodName := ⟨RX7, "richest", "(I)I"⟩
abbrev cX7_richestNow : ByteArray := prog_9_method_61_code
def yX7_richestNow : MethodName := ⟨RX7, "richestNow", "(I)I"⟩
abbrev cX7_most : ByteArray := prog_9_method_62_code
def yX7_most : MethodName := ⟨RX7, "most", "(I)I"⟩
abbrev cX7_where : ByteArray := prog_9_method_63_code
def yX7_where : MethodName := ⟨RX7, "where", "(I)I"⟩
abbrev cX7_out : ByteArray := prog_9_method_64_code
def yX7_out : MethodName := ⟨RX7, "out", "(II)I"⟩
abbrev cX7_reach : ByteArray := prog_9_method_65_code
def yX7_reach : MethodName := ⟨RX7, "reach", "(I)I"⟩
abbrev cX7_help : ByteArray := prog_9_method_66_code
def yX7_help : MethodName := ⟨RX7, "help", "()I"⟩
abbrev cX7_frees : ByteArray := prog_9_method_67_code
def yX7_frees : MethodName := ⟨RX7, "frees", "()I"⟩
abbrev cX7_kind : ByteArray := prog_9_method_68_code
def yX7_kind : MethodName := ⟨RX7, "kind", "(I)I"⟩
abbrev cX7_till : ByteArray := prog_9_method_69_code
def yX7_till : MethodName := ⟨RX7, "till", "()I"⟩
abbrev cX7_feed : ByteArray := prog_9_method_70_code
def yX7_feed : MethodName := ⟨RX7, "feed", "(II)I"⟩
abbrev cX7_wipe : ByteArray := prog_9_method_71_code
def yX7_wipe : MethodName := ⟨RX7, "wipe", "()I"⟩
abbrev cX7_byteAt : ByteArray := prog_9_method_72_code
def yX7_byteAt : MethodName := ⟨RX7, "byteAt", "(I)I"⟩
abbrev cX7_isLetter : ByteArray := prog_9_method_73_code
def yX7_isLetter : MethodName := ⟨RX7, "isLetter", "(I)Z"⟩
abbrev cX7_isDigit : ByteArray := prog_9_method_74_code
def yX7_isDigit : MethodName := ⟨RX7, "isDigit", "(I)Z"⟩
abbrev cX7_advance : ByteArray := prog_9_method_75_code
def yX7_advance : MethodName := ⟨RX7, "advance", "()V"⟩
abbrev cX7_isWord : ByteArray := prog_9_method_76_code
def yX7_isWord : MethodName := ⟨RX7, "isWord", "(J)Z"⟩
abbrev cX7_kindHere : ByteArray := prog_9_method_77_code
def yX7_kindHere : MethodName := ⟨RX7, "kindHere", "()I"⟩
abbrev cX7_wantNumber : ByteArray := prog_9_method_78_code
def yX7_wantNumber : MethodName := ⟨RX7, "wantNumber", "(II)I"⟩
abbrev cX7_mayWant : ByteArray := prog_9_method_79_code
def yX7_mayWant : MethodName := ⟨RX7, "mayWant", "(JIII)I"⟩
abbrev cX7_wantStone : ByteArray := prog_9_method_80_code
def yX7_wantStone : MethodName := ⟨RX7, "wantStone", "(I)V"⟩
abbrev cX7_wantBeam : ByteArray := prog_9_method_81_code
def yX7_wantBeam : MethodName := ⟨RX7, "wantBeam", "()V"⟩
abbrev cX7_wantWedge : ByteArray := prog_9_method_82_code
def yX7_wantWedge : MethodName := ⟨RX7, "wantWedge", "()V"⟩
abbrev cX7_wantSlack : ByteArray := prog_9_method_83_code
def yX7_wantSlack : MethodName := ⟨RX7, "wantSlack", "()V"⟩
abbrev cX7_wantPulls : ByteArray := prog_9_method_84_code
def yX7_wantPulls : MethodName := ⟨RX7, "wantPulls", "()V"⟩
abbrev cX7_wantItem : ByteArray := prog_9_method_85_code
def yX7_wantItem : MethodName := ⟨RX7, "wantItem", "()V"⟩
abbrev cX7_house : ByteArray := prog_9_method_86_code
def yX7_house : MethodName := ⟨RX7, "house", "()I"⟩
abbrev cX7_isSheet : ByteArray := prog_9_method_87_code
def yX7_isSheet : MethodName := ⟨RX7, "isSheet", "(I)Z"⟩
abbrev cX7_narrow : ByteArray := prog_9_method_88_code
def yX7_narrow : MethodName := ⟨RX7, "narrow", "(IJ)J"⟩
abbrev cX7_sheet : ByteArray := prog_9_method_89_code
def yX7_sheet : MethodName := ⟨RX7, "sheet", "(III)I"⟩
abbrev cX7_write : ByteArray := prog_9_method_90_code
def yX7_write : MethodName := ⟨RX7, "write", "(IIJ)J"⟩
abbrev cX7_isPart : ByteArray := prog_9_method_91_code
def yX7_isPart : MethodName := ⟨RX7, "isPart", "(III)Z"⟩
abbrev cX7_copy : ByteArray := prog_9_method_92_code
def yX7_copy : MethodName := ⟨RX7, "copy", "(IIIII)I"⟩
abbrev cX7_lays : ByteArray := prog_9_method_93_code
def yX7_lays : MethodName := ⟨RX7, "lays", "(I)I"⟩
abbrev cX7_book : ByteArray := prog_9_method_94_code
def yX7_book : MethodName := ⟨RX7, "book", "(I)I"⟩
abbrev cX7_read : ByteArray := prog_9_method_95_code
def yX7_read : MethodName := ⟨RX7, "read", "(I)J"⟩
abbrev cX7_moveAll : ByteArray := prog_9_method_96_code
def yX7_moveAll : MethodName := ⟨RX7, "moveAll", "(Z[I)V"⟩
abbrev cX7_image : ByteArray := prog_9_method_97_code
def yX7_image : MethodName := ⟨RX7, "image", "()I"⟩
abbrev cX7_undo : ByteArray := prog_9_method_98_code
def yX7_undo : MethodName := ⟨RX7, "undo", "()I"⟩
abbrev cX7_tear : ByteArray := prog_9_method_99_code
def yX7_tear : MethodName := ⟨RX7, "tear", "()I"⟩
abbrev cX7_count : ByteArray := prog_9_method_100_code
def yX7_count : MethodName := ⟨RX7, "count", "(I)I"⟩
abbrev cX7_status : ByteArray := prog_9_method_101_code
def yX7_status : MethodName := ⟨RX7, "status", "(I)I"⟩
def RJ9 : String := "java/lang/Math"
abbrev cJ9_abs_0f7a4 : ByteArray := prog_10_method_59_code
def yJ9_abs_0f7a4 : MethodName := ⟨RJ9, "abs", "(I)I"⟩
abbrev cJ9_max_7cf53 : ByteArray := prog_10_method_65_code
def yJ9_max_7cf53 : MethodName := ⟨RJ9, "max", "(II)I"⟩
abbrev cJ9_min_7cf53 : ByteArray := prog_10_method_69_code
def yJ9_min_7cf53 : MethodName := ⟨RJ9, "min", "(II)I"⟩
def RJ0 : String := "java/lang/String"
abbrev cJ0_length_8abf5 : ByteArray := prog_11_method_54_code
def yJ0_length_8abf5 : MethodName := ⟨RJ0, "length", "()I"⟩
abbrev cJ0_charAt_5068e : ByteArray := prog_11_method_56_code
def yJ0_charAt_5068e : MethodName := ⟨RJ0, "charAt", "(I)C"⟩
abbrev cJ0_coder_7d493 : ByteArray := prog_11_method_152_code
def yJ0_coder_7d493 : MethodName := ⟨RJ0, "coder", "()B"⟩
abbrev cJ0_isLatin1_aae02 : ByteArray := prog_11_method_154_code
def yJ0_isLatin1_aae02 : MethodName := ⟨RJ0, "isLatin1", "()Z"⟩
abbrev cJ0_checkIndex_df160 : ByteArray := prog_11_method_155_code
def yJ0_checkIndex_df160 : MethodName := ⟨RJ0, "checkIndex", "(II)V"⟩
def RJ1 : String := "java/lang/StringLatin1"
abbrev cJ1_charAt_3b067 : ByteArray := prog_12_method_2_code
def yJ1_charAt_3b067 : MethodName := ⟨RJ1, "charAt", "([BI)C"⟩
def RJ2 : String := "java/lang/StringUTF16"
abbrev cJ2_getChar_3b067 : ByteArray := prog_13_method_5_code
def yJ2_getChar_3b067 : MethodName := ⟨RJ2, "getChar", "([BI)C"⟩
abbrev cJ2_length_9d52b : ByteArray := prog_13_method_6_code
def yJ2_length_9d52b : MethodName := ⟨RJ2, "length", "([B)I"⟩
abbrev cJ2_charAt_3b067 : ByteArray := prog_13_method_83_code
def yJ2_charAt_3b067 : MethodName := ⟨RJ2, "charAt", "([BI)C"⟩
abbrev cJ2_checkIndex_2214a : ByteArray := prog_13_method_91_code
def yJ2_checkIndex_2214a : MethodName := ⟨RJ2, "checkIndex", "(I[B)V"⟩
def RJ10 : String := "java/lang/System"
def RJ7 : String := "java/util/Arrays"
abbrev cJ7_rangeCheck_23922 : ByteArray := prog_15_method_30_code
def yJ7_rangeCheck_23922 : MethodName := ⟨RJ7, "rangeCheck", "(III)V"⟩
abbrev cJ7_fill_d0a16 : ByteArray := prog_15_method_101_code
def yJ7_fill_d0a16 : MethodName := ⟨RJ7, "fill", "([JJ)V"⟩
abbrev cJ7_fill_bad5a : ByteArray := prog_15_method_102_code
def yJ7_fill_bad5a : MethodName := ⟨RJ7, "fill", "([JIIJ)V"⟩
abbrev cJ7_fill_53178 : ByteArray := prog_15_method_103_code
def yJ7_fill_53178 : MethodName := ⟨RJ7, "fill", "([II)V"⟩
def RJ3 : String := "jdk/internal/util/Preconditions"
abbrev cJ3_checkIndex_8e157 : ByteArray := prog_16_method_11_code
def yJ3_checkIndex_8e157 : MethodName := ⟨RJ3, "checkIndex", "(IILjava/util/function/BiFunction;)I"⟩
def RL : String := "WallDownLaw"
abbrev cL_law : ByteArray := code
def yL_law : MethodName := ⟨RL, "law", "([I)Z"⟩
end
section
/-! THE SMALL STORE. After the two constructors nothing is made any more: 65 cells, whose references never change. A state is what their ints and longs hold, by cell and slot. -/
abbrev St : Type := (Nat → Nat → Int32) × (Nat → Nat → Int64)
def gI (σ : St) (a j : Nat) : Int32 := σ.1 a j
def gL (σ : St) (a j : Nat) : Int64 := σ.2 a j
def sI (σ : St) (a j : Nat) (v : Int32) : St := (fun b => if b = a then upd (σ.1 b) j v else σ.1 b, σ.2)
def sL (σ : St) (a j : Nat) (v : Int64) : St := (σ.1, fun b => if b = a then vp_updL (σ.2 b) j v else σ.2 b)
/-- a run of ints, of longs, copied -/
def cI (σ : St) (a : Nat) (i : Nat) (d : Nat) (j : Nat) (n : Nat) : St := (fun b => if b = d then va_cpy (σ.1 a) (σ.1 d) i j n else σ.1 b, σ.2)
def cL (σ : St) (a : Nat) (i : Nat) (d : Nat) (j : Nat) (n : Nat) : St := (σ.1, fun b => if b = d then va_cpy (σ.2 a) (σ.2 d) i j n else σ.2 b)
/-- the kind of each cell: 0 to 7 an object of that class, 8 ints, 9 longs, 10 booleans, 11 sheets -/
def kdL : List Nat := [6, 0,8,8,8,8,8, 0,8,8,8,8,8, 0,8,8,8,8,8, 3,8,8,8, 1,9,8, 5,4,8, 0,8,8,8,8,8, 3,8,8,8, 11, 8, 2,9, 2,9, 2,9, 2,9, 7, 8,8,8,8,9,8,10,8,8,8,8,9,9,8,8]
def lnL : List Nat := [0, 0,28,28,28,4,4, 0,28,28,28,4,4, 0,28,28,28,4,4, 0,32,32,32, 0,4096,29, 0,0,120, 0,28,28,28,4,4, 0,32,32,32, 4, 7, 0,40, 0,40, 0,40, 0,40, 0, 96,7,32,32,4096,4096,4096,4096,120,4,4,160,40,96,96]
def kd (k : Nat) : Nat := kdL.getD k 99
def ln (k : Nat) : Nat := lnL.getD k 0
/-- a class's fields: (0, d) a reference to the cell d further on, (1, 0) an int, (2, 0) a boolean, (3, 0) a long -/
def fl (c : Nat) : List (Nat × Nat) := match c with
  | 0 => [(0,1),(0,2),(0,3),(0,4),(0,5),(1,0),(1,0),(1,0),(1,0)]
  | 1 => [(0,1),(0,2)]
  | 2 => [(0,1),(1,0),(1,0)]
  | 3 => [(0,1),(0,2),(0,3),(1,0),(1,0),(1,0)]
  | 4 => [(0,1),(1,0),(1,0),(1,0),(1,0),(1,0)]
  | 5 => [(0,1),(0,3),(0,9)]
  | 6 => [(0,1),(0,7),(0,13),(0,19),(0,23),(0,26),(0,39),(0,40),(2,0)]
  | _ => [(0,1),(0,2),(0,3),(0,4),(0,5),(0,6),(0,7),(0,8),(0,9),(1,0),(1,0),(1,0),(1,0),(3,0),(1,0),(2,0),(0,10),(0,11),(0,12),(0,13),(0,14),(0,15),(2,0)]
abbrev clsL : List vw_C := [(RX0, TX0, 9), (RX1, TX1, 2), (RX2, TX2, 3), (RX3, TX3, 6), (RX4, TX4, 6), (RX5, TX5, 3), (RX6, TX6, 9), (RX7, TX7, 23)]
/-- where it all lies in a heap: the tables' class numbers, the array classes of int, long, boolean, Sheet, the address of each cell (from 200 on: what lies outside) -/
abbrev Gx : Type := va_G × (ClassId × ClassId × ClassId × ClassId) × (Nat → Nat)
def adO (G : Gx) : Nat → Nat := G.2.2
def tysO (G : Gx) : List (ClassId × FieldType) := [(G.2.1.1, .int), (G.2.1.2.1, .long), (G.2.1.2.2.1, .boolean), (G.2.1.2.2.2, .object "WallDown$Sheet")]
def fvO (G : Gx) (σ : St) (k : Nat) (j : Nat) (f : Nat × Nat) : Value := if f.1 = 0 then .ref (adO G (k + f.2)) else if f.1 = 3 then .long (σ.2 k j) else .int (σ.1 k j)
def fsO (G : Gx) (σ : St) (k : Nat) : List Value := (fl (kd k)).mapIdx (fun j f => fvO G σ k j f)
def ceO (G : Gx) (σ : St) (k : Nat) : va_E :=
  if kd k < 8 then .inr (kd k, fsO G σ k)
  else if kd k = 8 then .inl (G.2.1.1, ln k, .inl (σ.1 k))
  else if kd k = 9 then .inl (G.2.1.2.1, ln k, .inr (.inl (σ.2 k)))
  else if kd k = 10 then .inl (G.2.1.2.2.1, ln k, .inl (σ.1 k))
  else .inl (G.2.1.2.2.2, ln k, .inr (.inr (.inr (.inr (fun j => some (adO G (k + 2 + 2 * j)))))))
def wsO (G : Gx) (σ : St) : va_W := (List.range 65).map (fun k => (adO G k, ceO G σ k))
def Aw (G : Gx) : Nat → Prop := fun q => ∃ k, k < 65 ∧ q = adO G k
theorem kd_lt {k : Nat} (h : kd k < 12) : k < 65 := by
  by_cases h1 : k < 65
  · exact h1
  · have e : kd k = 99 := by
      unfold kd
      rw [List.getD_eq_getElem?_getD, List.getElem?_eq_none (by show kdL.length ≤ k; have : kdL.length = 65 := by decide +kernel
                                                                omega)]
      rfl
    omega
theorem wsO_at {G : Gx} {σ : St} {k : Nat} (h : k < 65) : (wsO G σ)[k]? = some (adO G k, ceO G σ k) := by
  unfold wsO
  rw [List.getElem?_map, List.getElem?_range h]
  rfl
theorem wsO_obj {G : Gx} {σ : St} {k c : Nat} (h : kd k = c) (hc : c < 8) : (wsO G σ)[k]? = some (adO G k, .inr (c, fsO G σ k)) := by
  rw [wsO_at (kd_lt (by omega))]
  unfold ceO
  rw [if_pos (by omega), h]
theorem wsO_int {G : Gx} {σ : St} {k n : Nat} (h : kd k = 8) (hn : ln k = n) : (wsO G σ)[k]? = some (adO G k, .inl (G.2.1.1, n, .inl (σ.1 k))) := by
  rw [wsO_at (kd_lt (by omega))]
  unfold ceO
  rw [if_neg (by omega), if_pos h, hn]
theorem wsO_long {G : Gx} {σ : St} {k n : Nat} (h : kd k = 9) (hn : ln k = n) : (wsO G σ)[k]? = some (adO G k, .inl (G.2.1.2.1, n, .inr (.inl (σ.2 k)))) := by
  rw [wsO_at (kd_lt (by omega))]
  unfold ceO
  rw [if_neg (by omega), if_neg (by omega), if_pos h, hn]
theorem wsO_bool {G : Gx} {σ : St} {k n : Nat} (h : kd k = 10) (hn : ln k = n) : (wsO G σ)[k]? = some (adO G k, .inl (G.2.1.2.2.1, n, .inl (σ.1 k))) := by
  rw [wsO_at (kd_lt (by omega))]
  unfold ceO
  rw [if_neg (by omega), if_neg (by omega), if_neg (by omega), if_pos h, hn]
theorem wsO_sheets {G : Gx} {σ : St} {k n : Nat} (h : kd k = 11) (hn : ln k = n) : (wsO G σ)[k]? = some (adO G k, .inl (G.2.1.2.2.2, n, .inr (.inr (.inr (.inr (fun j => some (adO G (k + 2 + 2 * j)))))))) := by
  rw [wsO_at (kd_lt (by omega))]
  unfold ceO
  rw [if_neg (by omega), if_neg (by omega), if_neg (by omega), if_neg (by omega), hn]
theorem wsO_set {G : Gx} {σ σ' : St} {k : Nat} (hk : k < 65) (hs : ∀ j, j ≠ k → ceO G σ' j = ceO G σ j) : (wsO G σ).set k (adO G k, ceO G σ' k) = wsO G σ' := by
  apply List.ext_getElem?
  intro i
  rw [List.getElem?_set]
  by_cases hi : i < 65
  · rw [wsO_at hi, wsO_at hi]
    by_cases e : k = i
    · subst e
      rw [if_pos rfl, if_pos (by simp [wsO]; exact hk)]
    · rw [if_neg e, hs i (fun z => e z.symm)]
  · have h1 : (wsO G σ)[i]? = none := List.getElem?_eq_none (by simp [wsO]; omega)
    have h2 : (wsO G σ')[i]? = none := List.getElem?_eq_none (by simp [wsO]; omega)
    rw [h1, h2, if_neg (by omega)]
theorem ceO_sI {G : Gx} {σ : St} {a j : Nat} {v : Int32} (k : Nat) (hk : k ≠ a) : ceO G (sI σ a j v) k = ceO G σ k := by
  have e1 : (sI σ a j v).1 k = σ.1 k := by simp [sI, hk]
  have e2 : (sI σ a j v).2 = σ.2 := rfl
  simp only [ceO, fsO, fvO, e1, e2]
theorem ceO_sL {G : Gx} {σ : St} {a j : Nat} {v : Int64} (k : Nat) (hk : k ≠ a) : ceO G (sL σ a j v) k = ceO G σ k := by
  have e1 : (sL σ a j v).2 k = σ.2 k := by simp [sL, hk]
  have e2 : (sL σ a j v).1 = σ.1 := rfl
  simp only [ceO, fsO, fvO, e1, e2]
theorem ceO_cI {G : Gx} {σ : St} {a i d j n : Nat} (k : Nat) (hk : k ≠ d) : ceO G (cI σ a i d j n) k = ceO G σ k := by
  have e1 : (cI σ a i d j n).1 k = σ.1 k := by simp [cI, hk]
  have e2 : (cI σ a i d j n).2 = σ.2 := rfl
  simp only [ceO, fsO, fvO, e1, e2]
theorem ceO_cL {G : Gx} {σ : St} {a i d j n : Nat} (k : Nat) (hk : k ≠ d) : ceO G (cL σ a i d j n) k = ceO G σ k := by
  have e1 : (cL σ a i d j n).2 k = σ.2 k := by simp [cL, hk]
  have e2 : (cL σ a i d j n).1 = σ.1 := rfl
  simp only [ceO, fsO, fvO, e1, e2]
/-- a store of an int into an array -/
theorem wsO_sIa {G : Gx} {σ : St} {a j n : Nat} {v : Int32} (h : kd a = 8) (hn : ln a = n) : (wsO G σ).set a (adO G a, .inl (G.2.1.1, n, .inl (upd (σ.1 a) j v))) = wsO G (sI σ a j v) := by
  rw [← wsO_set (kd_lt (by omega)) (σ := σ) (fun k hk => ceO_sI k hk)]
  congr 2
  unfold ceO
  rw [if_neg (by omega), if_pos h, hn]
  simp [sI]
theorem wsO_sIz {G : Gx} {σ : St} {a j n : Nat} {v : Int32} (h : kd a = 10) (hn : ln a = n) : (wsO G σ).set a (adO G a, .inl (G.2.1.2.2.1, n, .inl (upd (σ.1 a) j v))) = wsO G (sI σ a j v) := by
  rw [← wsO_set (kd_lt (by omega)) (σ := σ) (fun k hk => ceO_sI k hk)]
  congr 2
  unfold ceO
  rw [if_neg (by omega), if_neg (by omega), if_neg (by omega), if_pos h, hn]
  simp [sI]
theorem wsO_sLa {G : Gx} {σ : St} {a j n : Nat} {v : Int64} (h : kd a = 9) (hn : ln a = n) : (wsO G σ).set a (adO G a, .inl (G.2.1.2.1, n, .inr (.inl (vp_updL (σ.2 a) j v)))) = wsO G (sL σ a j v) := by
  rw [← wsO_set (kd_lt (by omega)) (σ := σ) (fun k hk => ceO_sL k hk)]
  congr 2
  unfold ceO
  rw [if_neg (by omega), if_neg (by omega), if_pos h, hn]
  simp [sL]
theorem wsO_cIa {G : Gx} {σ : St} {a i d j c n : Nat} (h : kd d = 8) (hn : ln d = n) : (wsO G σ).set d (adO G d, .inl (G.2.1.1, n, .inl (va_cpy (σ.1 a) (σ.1 d) i j c))) = wsO G (cI σ a i d j c) := by
  rw [← wsO_set (kd_lt (by omega)) (σ := σ) (fun k hk => ceO_cI k hk)]
  congr 2
  unfold ceO
  rw [if_neg (by omega), if_pos h, hn]
  simp [cI]
theorem wsO_cLa {G : Gx} {σ : St} {a i d j c n : Nat} (h : kd d = 9) (hn : ln d = n) : (wsO G σ).set d (adO G d, .inl (G.2.1.2.1, n, .inr (.inl (va_cpy (σ.2 a) (σ.2 d) i j c)))) = wsO G (cL σ a i d j c) := by
  rw [← wsO_set (kd_lt (by omega)) (σ := σ) (fun k hk => ceO_cL k hk)]
  congr 2
  unfold ceO
  rw [if_neg (by omega), if_neg (by omega), if_pos h, hn]
  simp [cL]
theorem fsO_len (G : Gx) (σ : St) (k : Nat) : (fsO G σ k).length = (fl (kd k)).length := by simp [fsO]
theorem fsO_at {G : Gx} {σ : St} {k c j : Nat} {f : Nat × Nat} (h : kd k = c) (hf : (fl c)[j]? = some f) : (fsO G σ k)[j]? = some (fvO G σ k j f) := by
  unfold fsO
  rw [List.getElem?_mapIdx, h, hf]
  rfl
/-- a store of an int into a field -/
theorem wsO_sIf {G : Gx} {σ : St} {a c j : Nat} {f : Nat × Nat} {v : Int32} (h : kd a = c) (hc : c < 8) (hf : (fl c)[j]? = some f) (h1 : f.1 = 1 ∨ f.1 = 2) : (wsO G σ).set a (adO G a, .inr (c, (fsO G σ a).set j (.int v))) = wsO G (sI σ a j v) := by
  rw [← wsO_set (kd_lt (by omega)) (σ := σ) (fun k hk => ceO_sI k hk)]
  congr 2
  unfold ceO
  rw [if_pos (by omega), h]
  congr 2
  apply List.ext_getElem?
  intro i
  rw [List.getElem?_set]
  by_cases e : j = i
  · subst e
    rw [if_pos rfl, if_pos (by rw [fsO_len, h]; exact (List.getElem?_eq_some_iff.mp hf).1), fsO_at h hf]
    unfold fvO
    rw [if_neg (by omega), if_neg (by omega)]
    simp [sI, upd]
  · rw [if_neg e]
    unfold fsO
    rw [List.getElem?_mapIdx, List.getElem?_mapIdx]
    congr 1
    funext g
    simp only [fvO, sI, if_true]
    have e2 : upd (σ.1 a) j v i = σ.1 a i := if_neg (fun z => e z.symm)
    rw [e2]
theorem wsO_sLf {G : Gx} {σ : St} {a c j : Nat} {f : Nat × Nat} {v : Int64} (h : kd a = c) (hc : c < 8) (hf : (fl c)[j]? = some f) (h1 : f.1 = 3) : (wsO G σ).set a (adO G a, .inr (c, (fsO G σ a).set j (.long v))) = wsO G (sL σ a j v) := by
  rw [← wsO_set (kd_lt (by omega)) (σ := σ) (fun k hk => ceO_sL k hk)]
  congr 2
  unfold ceO
  rw [if_pos (by omega), h]
  congr 2
  apply List.ext_getElem?
  intro i
  rw [List.getElem?_set]
  by_cases e : j = i
  · subst e
    rw [if_pos rfl, if_pos (by rw [fsO_len, h]; exact (List.getElem?_eq_some_iff.mp hf).1), fsO_at h hf]
    unfold fvO
    rw [if_neg (by omega), if_pos (by omega)]
    simp [sL, vp_updL]
  · rw [if_neg e]
    unfold fsO
    rw [List.getElem?_mapIdx, List.getElem?_mapIdx]
    congr 1
    funext g
    simp only [fvO, sL, if_true]
    have e2 : vp_updL (σ.2 a) j v i = σ.2 a i := if_neg (fun z => e z.symm)
    rw [e2]
end
section
/-! THE JUDGEMENT Ev: a method of the class, of the reference or of the JDK stands at pc with locals ls, operand stack st, over a heap that holds the small store σ; it comes to its end with an answer and a store of which Q holds. References are the numbers of cells; 999 is null; a local that isn't known is 'un'. -/
def un : Value := .retAddr 0
def usd : Value → Bool
  | .retAddr _ => false
  | _ => true
def cv (G : Gx) : Value → Value
  | .ref k => if k = 999 then .null else .ref (adO G k)
  | v => v
theorem cv_cat (G : Gx) (v : Value) : (cv G v).category = v.category := by
  cases v with
  | ref k => by_cases h : k = 999 <;> simp [cv, h, Value.category]
  | _ => rfl
/-- the words that every contract takes: those of the tables that stay true -/
def Tg : List Cond := lw_tbl.filter goodWord
theorem tg_in {w : Cond} (h : w ∈ lw_tbl) (hg : goodWord w = true) : w ∈ Tg := List.mem_filter.mpr ⟨h, hg⟩
theorem tg_tab {w : Cond} (h : w ∈ tables_1) (hg : goodWord w = true) : w ∈ Tg := tg_in (List.mem_append_right _ h) hg
theorem tg_good (w : Cond) (h : w ∈ Tg) : (w.onTables && w.keeps) = true ∨ ∃ ty, w = .arrayClass ty := good_of_word (List.mem_filter.mp h).2
def aboveL : List Int32 := [-1, 0, 0, 0, 1, 2]
/-- the words' texts, their places in the pool of WallDown$Teller, their bytes -/
def stL : List (Nat × String × List Int32) := [(85, "key", [107, 101, 121]), (87, "rotten", [114, 111, 116, 116, 101, 110]), (89, "through", [116, 104, 114, 111, 117, 103, 104]), (91, "carved", [99, 97, 114, 118, 101, 100]), (93, "false", [102, 97, 108, 115, 101]), (95, "stone", [115, 116, 111, 110, 101]), (108, "high", [104, 105, 103, 104]), (110, "price", [112, 114, 105, 99, 101]), (65, "beam", [98, 101, 97, 109]), (116, "on", [111, 110]), (118, "off", [111, 102, 102]), (70, "wedge", [119, 101, 100, 103, 101]), (75, "slack", [115, 108, 97, 99, 107]), (80, "pull", [112, 117, 108, 108])]
def stN : Nat := 14
def stLen : List Nat := stL.map (fun q => q.2.2.length)
def stByt : List (List Int32) := stL.map (fun q => q.2.2)
/-- what stays true of the tables and of what lies outside the cells -/
def Kx (G : Gx) (U : State) : Prop :=
  va_K G.1 clsL (tysO G) U ∧ (∀ i j : Nat, i < 65 → j < 65 → adO G i = adO G j → i = j) ∧ va_Nw (.methodLinkNest "WallDown$Tape" 53 yX6_isWithin "WallDown") U ∧
  va_Z "WallDown" "ABOVE" "[I" (.ref (adO G 200)) (Aw G) U U.heap ∧ va_T .int (adO G 200) 6 (fun j => .int (aboveL.getD j 0)) (Aw G) U U.heap ∧
  va_Z "java/lang/String" "COMPACT_STRINGS" "Z" (.int 1) (Aw G) U U.heap ∧
  vk_S stN stLen stByt (fun i => adO G (300 + i)) (fun i => adO G (400 + i)) (Aw G) U U.heap ∧
  (∀ i : Nat, i < stN → vk_R "WallDown$Teller" (stL.getD i (0, "", [])).1 (stL.getD i (0, "", [])).2.1 (adO G (300 + i)) U)
theorem Kx.to {G : Gx} {s U : State} {H : Heap} {locs : List Loc} (h : Kx G s) (hS : va_S (Aw G) s.heap H locs) (hU : U.heap = H) (hW : s.WarmedH U.vm) : Kx G U := by
  obtain ⟨h1, h2, h3, h4, h5, h6, h7, h8⟩ := h
  have hq : ∀ a : Nat, a < s.heap.size → ¬ Aw G a → U.heap[a]? = s.heap[a]? := fun a ha hA => by rw [hU]; exact hS.2.1 a ha hA
  have al := hW.alike
  exact ⟨h1.moved al, h2, va_Nw.warmM hW h3, (h4.moved al).kept hq, (h5.moved al).kept hq, (h6.moved al).kept hq, (h7.moved al).kept hq, fun i hi => (h8 i hi).warm hW⟩
theorem Kx.blind {G : Gx} {U : State} (h : Kx G U) (g : JFrame) (mk : MethodId) (a : Array Value) : Kx G (U.calling g mk a) := by
  obtain ⟨h1, h2, h3, h4, h5, h6, h7, h8⟩ := h
  have al : U.vm.Alike (U.calling g mk a).vm := Vm.Alike.refl U.vm
  exact ⟨va_K.moved al h1, h2, va_Nw.same rfl rfl h3, h4.moved al, h5.moved al, h6.moved al, h7.moved al, fun i hi => (h8 i hi).same rfl⟩
theorem Kx.D {G : Gx} {U : State} (h : Kx G U) (σ : St) : va_D (Aw G) (wsO G σ) := by
  refine ⟨fun i j p q hp hq e => ?_, fun k q hk => ?_⟩
  · have hi : i < 65 := by have := (List.getElem?_eq_some_iff.mp hp).1; simpa [wsO] using this
    have hj : j < 65 := by have := (List.getElem?_eq_some_iff.mp hq).1; simpa [wsO] using this
    rw [wsO_at hi] at hp
    rw [wsO_at hj] at hq
    cases hp; cases hq
    exact h.2.1 i j hi hj e
  · have hi : k < 65 := by have := (List.getElem?_eq_some_iff.mp hk).1; simpa [wsO] using this
    rw [wsO_at hi] at hk
    cases hk
    exact ⟨k, hi, rfl⟩
/-- the method that stands -/
def CxO (p : Program) (s : State) (m : MethodId) (args : Array Value) (meth : Method) (c : Code) (cc : ByteArray) (nL : Nat) (rt : Option FieldType) (own : String) : Prop :=
  p.tables.exec = Jvm.exec ∧ c.code = cc ∧ meth.sig.returnType = rt ∧ c.maxLocals = nL ∧ s.vm.findClass own = some m.cls ∧ (∀ w ∈ Tg, w.before args s = true) ∧ meth.locks = false
/-- the locals -/
def lvO (G : Gx) (rl : Array Slot) (nL : Nat) (ls : List Value) : Prop := rl.size = nL ∧ lv_wf rl ∧ ∀ (k : Nat) (v : Value), ls[k]? = some v → usd v = true → rl[k]? = some (.val (cv G v))
/-- a method's end -/
def QcO (G : Gx) (Q : Option Value → St → Prop) : Array Value → State → Outcome → State → Prop := fun _ st o t => (∃ (r : Option Value) (σ : St), o = .returned (r.map (cv G)) ∧ Q r σ ∧ va_P G.1 clsL (wsO G σ) t.heap) ∧ va_F (Aw G) st t
def Ev (cc : ByteArray) (nL : Nat) (rt : Option FieldType) (own : String) (R : Room) (pc : Nat) (ls st : List Value) (σ : St) (Q : Option Value → St → Prop) : Prop :=
  ∀ (p : Program) (l : Launch) (e : Env) (s : State) (m : MethodId) (args : Array Value) (below : List Frame) (meth : Method) (c : Code) (G : Gx) (H : Heap) (locs : List Loc) (rl : Array Slot),
    CxO p s m args meth c cc nL rt own → Kx G s → va_P G.1 clsL (wsO G σ) H → va_S (Aw G) s.heap H locs → lvO G rl nL ls →
    W p l e R s m args below meth c H locs 0 0 (MQ below (QcO G Q) args s 0 0 (Aw G)) (F0 m pc rl (st.map (cv G)))
/-- a method's contract, of the class or of the JDK -/
def Mt (y : MethodName) (cc : ByteArray) (nL : Nat) (rt : Option FieldType) (R : Room) (av : List Value) (σ : St) (Q : Option Value → St → Prop) : Prop :=
  ∀ (l : Launch) (G : Gx), Met l y (.code y cc nL rt :: Tg) R (va_Pc (av.map (cv G)) (fun U => va_P G.1 clsL (wsO G σ) U.heap ∧ Kx G U)) (QcO G Q) 0 0 (Aw G)
/-- the locals at the entry -/
def argL : List Value → List Value
  | [] => []
  | v :: vs => if v.category = 2 then v :: un :: argL vs else v :: argL vs
theorem argL_at (G : Gx) : ∀ (vs : List Value) (o k : Nat) (v : Value), (argL vs)[k]? = some v → usd v = true → (o + k, cv G v) ∈ lv_args o (vs.map (cv G)) := by
  intro vs
  induction vs with
  | nil => intro o k v h; simp [argL] at h
  | cons w vs ih =>
    intro o k v h hu
    unfold argL at h
    simp only [List.map_cons, lv_args, cv_cat]
    by_cases hc : w.category = 2
    · rw [if_pos hc] at h ⊢
      match k, h with
      | 0, h => cases h; exact List.mem_cons_self
      | 1, h => cases h; cases hu
      | k + 2, h =>
        have h1 := ih (o + 2) k v (by simpa using h) hu
        rw [show o + (k + 2) = o + 2 + k by omega]
        exact List.mem_cons_of_mem _ h1
    · rw [if_neg hc] at h ⊢
      match k, h with
      | 0, h => cases h; exact List.mem_cons_self
      | k + 1, h =>
        have h1 := ih (o + 1) k v (by simpa using h) hu
        rw [show o + (k + 1) = o + 1 + k by omega]
        exact List.mem_cons_of_mem _ h1
theorem argL_len : ∀ (G : Gx) (vs : List Value), (lg_sl (vs.map (cv G))).length = (argL vs).length := by
  intro G vs
  induction vs with
  | nil => rfl
  | cons w vs ih =>
    simp only [lg_sl, List.map_cons, List.flatMap_cons, List.length_append, cv_cat] at ih ⊢
    unfold argL
    by_cases hc : w.category = 2
    · rw [if_pos hc, if_pos hc, ih]; simp; omega
    · rw [if_neg hc, if_neg hc, ih]; simp; omega
theorem lvO_entry (G : Gx) (av : List Value) {n k : Nat} {ls : List Value} (hl : argL av ++ List.replicate k un = ls) (hn : (argL av).length ≤ n) :
    lvO G ((lg_sl (av.map (cv G)) ++ List.replicate (n - (lg_sl (av.map (cv G))).length) Slot.unset).toArray) n ls := by
  have h := lv_entry (av.map (cv G)) (n := n) (by rw [argL_len]; exact hn)
  refine ⟨h.1, h.2.1, fun i v hi hu => ?_⟩
  subst hl
  rw [List.getElem?_append] at hi
  split at hi
  · have h1 := argL_at G av 0 i v hi hu
    rw [Nat.zero_add] at h1
    exact h.2.2 _ h1
  · rw [List.getElem?_replicate] at hi
    split at hi
    · cases hi; cases hu
    · cases hi
theorem Mt.of {y : MethodName} {cc : ByteArray} {nL k : Nat} {rt : Option FieldType} {R : Room} {av ls : List Value} {σ : St} {Q : Option Value → St → Prop} (hy : plainName y.cls = true) (hl : argL av ++ List.replicate k un = ls) (hn : (argL av).length ≤ nL)
    (h : Ev cc nL rt y.cls R 0 ls [] σ Q) : Mt y cc nL rt R av σ Q := by
  intro l G
  refine Met.ofW (cc := cc) (maxL := nL) (ret := rt) hy rfl ?_
  intro p e s m args below meth c s₁ B hml hv
  obtain ⟨rfl, hP, hK⟩ := hv
  have hts := atoms_spec (ws := .code y cc nL rt :: Tg) B.pre
  have hown : s.vm.findClass y.cls = some m.cls := findClass_of_methodNamed B.named
  rw [lg_entry_eq]
  exact h p l e s m _ below meth c G s.heap [] _ ⟨B.exec, B.bytes, B.returns, hml, hown, fun w hw => hts w (List.mem_cons_of_mem _ hw), B.notSynchronized⟩ hK hP va_S.rf (lvO_entry G av hl hn)
/-- storing into a local -/
def inv1 (ls : List Value) : Nat → List Value
  | 0 => ls
  | j + 1 => match ls[j]? with
    | some (.long _) => ls.set j un
    | some (.double _) => ls.set j un
    | _ => ls
def lset1 (ls : List Value) (i : Nat) (v : Value) : List Value := (inv1 ls i).set i v
def lset2 (ls : List Value) (i : Nat) (v : Value) : List Value := ((inv1 ls i).set i v).set (i + 1) un
def prO (G : Gx) (ls : List Value) : List (Nat × Value) := (List.range ls.length).filterMap (fun k => (ls[k]?).bind (fun v => if usd v then some (k, cv G v) else none))
theorem prO_in {G : Gx} {ls : List Value} {k : Nat} {v : Value} (h : ls[k]? = some v) (hu : usd v = true) : (k, cv G v) ∈ prO G ls := by
  refine List.mem_filterMap.mpr ⟨k, List.mem_range.mpr (List.getElem?_eq_some_iff.mp h).1, ?_⟩
  rw [h]
  simp [hu]
theorem lvO_has {G : Gx} {rl : Array Slot} {nL : Nat} {ls : List Value} (h : lvO G rl nL ls) : lv_has rl nL (prO G ls) := by
  refine ⟨h.1, h.2.1, fun q hq => ?_⟩
  obtain ⟨k, -, hk⟩ := List.mem_filterMap.mp hq
  cases hv : ls[k]? with
  | none => rw [hv] at hk; cases hk
  | some v =>
    rw [hv] at hk
    simp only [Option.bind_some] at hk
    split at hk
    · next hu => cases hk; exact h.2.2 k v hv hu
    · cases hk
theorem inv1_get {ls : List Value} {i k : Nat} {w : Value} (h : (inv1 ls i)[k]? = some w) (hu : usd w = true) : ls[k]? = some w ∧ ¬ (k + 1 = i ∧ w.category = 2) := by
  cases i with
  | zero => exact ⟨h, fun z => by omega⟩
  | succ j =>
    have key : ∀ (x : Value), ls[j]? = some x → x.category = 2 → inv1 ls (j + 1) = ls.set j un := by
      intro x hx hc
      cases x <;> first | (simp [Value.category] at hc; done) | simp [inv1, hx]
    by_cases hj : ∃ x, ls[j]? = some x ∧ x.category = 2
    · obtain ⟨x, hx, hc⟩ := hj
      rw [key x hx hc, List.getElem?_set] at h
      by_cases e : j = k
      · subst e
        rw [if_pos rfl] at h
        split at h
        · cases h; cases hu
        · cases h
      · rw [if_neg e] at h
        exact ⟨h, fun z => e (by omega)⟩
    · have e : inv1 ls (j + 1) = ls := by
        cases hx : ls[j]? with
        | none => simp [inv1, hx]
        | some x => cases x <;> first | (exact absurd ⟨_, hx, rfl⟩ hj) | simp [inv1, hx]
      rw [e] at h
      exact ⟨h, fun z => hj ⟨w, by rw [← show k = j by omega]; exact h, z.2⟩⟩
theorem lvO_set1 {G : Gx} {rl : Array Slot} {nL i : Nat} {ls ls' : List Value} {v : Value} (h : lvO G rl nL ls) (hi : i < nL) (hc : v.category = 1) (hl : lset1 ls i v = ls') :
    ∃ rl', storeLocals rl i (cv G v) = some rl' ∧ lvO G rl' nL ls' := by
  obtain ⟨rl', e, h1, h2, h3⟩ := lv_store1 (v := cv G v) (lvO_has h) hi (by rw [cv_cat]; exact hc)
  refine ⟨rl', e, h1, h2, fun k w hk hu => ?_⟩
  subst hl
  unfold lset1 at hk
  rw [List.getElem?_set] at hk
  by_cases ek : i = k
  · subst ek
    rw [if_pos rfl] at hk
    split at hk
    · cases hk; exact h3 (i, cv G v) List.mem_cons_self
    · cases hk
  · rw [if_neg ek] at hk
    obtain ⟨g1, g2⟩ := inv1_get hk hu
    refine h3 (k, cv G w) (List.mem_cons_of_mem _ (List.mem_filter.mpr ⟨prO_in g1 hu, ?_⟩))
    have n1 : (k == i) = false := by simp; exact fun z => ek z.symm
    simp only [n1, cv_cat, Bool.not_false, Bool.true_and, Bool.not_eq_true', Bool.and_eq_false_iff, beq_eq_false_iff_ne, ne_eq]
    by_cases z : k + 1 = i
    · exact Or.inr (fun y => g2 ⟨z, y⟩)
    · exact Or.inl z
theorem lvO_set2 {G : Gx} {rl : Array Slot} {nL i : Nat} {ls ls' : List Value} {v : Value} (h : lvO G rl nL ls) (hi : i + 1 < nL) (hc : v.category = 2) (hl : lset2 ls i v = ls') :
    ∃ rl', storeLocals rl i (cv G v) = some rl' ∧ lvO G rl' nL ls' := by
  obtain ⟨rl', e, h1, h2, h3⟩ := lv_store2 (v := cv G v) (lvO_has h) hi (by rw [cv_cat]; exact hc)
  refine ⟨rl', e, h1, h2, fun k w hk hu => ?_⟩
  subst hl
  unfold lset2 at hk
  rw [List.getElem?_set] at hk
  by_cases ek2 : i + 1 = k
  · rw [if_pos ek2] at hk
    split at hk
    · cases hk; cases hu
    · cases hk
  · rw [if_neg ek2, List.getElem?_set] at hk
    by_cases ek : i = k
    · subst ek
      rw [if_pos rfl] at hk
      split at hk
      · cases hk; exact h3 (i, cv G v) List.mem_cons_self
      · cases hk
    · rw [if_neg ek] at hk
      obtain ⟨g1, g2⟩ := inv1_get hk hu
      refine h3 (k, cv G w) (List.mem_cons_of_mem _ (List.mem_filter.mpr ⟨prO_in g1 hu, ?_⟩))
      have n1 : (k == i) = false := by simp; exact fun z => ek z.symm
      have n2 : (k == i + 1) = false := by simp; exact fun z => ek2 z.symm
      simp only [n1, n2, cv_cat, Bool.not_false, Bool.true_and, Bool.not_eq_true', Bool.and_eq_false_iff, beq_eq_false_iff_ne, ne_eq]
      by_cases z : k + 1 = i
      · exact Or.inr (fun y => g2 ⟨z, y⟩)
      · exact Or.inl z
end
section
section ER
variable {cc : ByteArray} {nL : Nat} {rt : Option FieldType} {own : String} {R : Room} {pc : Nat} {ls ls' st : List Value} {σ : St} {Q : Option Value → St → Prop}
theorem E_iadd {x y : Int32} (hd : decode cc pc = .ok (.iadd, 1)) (h : Ev cc nL rt own R (pc + 1) ls (.int (x + y) :: st) σ Q) : Ev cc nL rt own R pc ls (.int y :: .int x :: st) σ Q := fun p l e s m a b me c G H lo rl C K P S L => lv_iadd C.1 C.2.1 hd (h p l e s m a b me c G H lo rl C K P S L)
theorem E_isub {x y : Int32} (hd : decode cc pc = .ok (.isub, 1)) (h : Ev cc nL rt own R (pc + 1) ls (.int (x - y) :: st) σ Q) : Ev cc nL rt own R pc ls (.int y :: .int x :: st) σ Q := fun p l e s m a b me c G H lo rl C K P S L => lv_isub C.1 C.2.1 hd (h p l e s m a b me c G H lo rl C K P S L)
theorem E_imul {x y : Int32} (hd : decode cc pc = .ok (.imul, 1)) (h : Ev cc nL rt own R (pc + 1) ls (.int (x * y) :: st) σ Q) : Ev cc nL rt own R pc ls (.int y :: .int x :: st) σ Q := fun p l e s m a b me c G H lo rl C K P S L => lv_imul C.1 C.2.1 hd (h p l e s m a b me c G H lo rl C K P S L)
theorem E_iand {x y : Int32} (hd : decode cc pc = .ok (.iand, 1)) (h : Ev cc nL rt own R (pc + 1) ls (.int (x &&& y) :: st) σ Q) : Ev cc nL rt own R pc ls (.int y :: .int x :: st) σ Q := fun p l e s m a b me c G H lo rl C K P S L => lv_iand C.1 C.2.1 hd (h p l e s m a b me c G H lo rl C K P S L)
theorem E_ior {x y : Int32} (hd : decode cc pc = .ok (.ior, 1)) (h : Ev cc nL rt own R (pc + 1) ls (.int (x ||| y) :: st) σ Q) : Ev cc nL rt own R pc ls (.int y :: .int x :: st) σ Q := fun p l e s m a b me c G H lo rl C K P S L => lv_ior C.1 C.2.1 hd (h p l e s m a b me c G H lo rl C K P S L)
theorem E_ixor {x y : Int32} (hd : decode cc pc = .ok (.ixor, 1)) (h : Ev cc nL rt own R (pc + 1) ls (.int (x ^^^ y) :: st) σ Q) : Ev cc nL rt own R pc ls (.int y :: .int x :: st) σ Q := fun p l e s m a b me c G H lo rl C K P S L => lv_ixor C.1 C.2.1 hd (h p l e s m a b me c G H lo rl C K P S L)
theorem E_ishl {x y : Int32} (hd : decode cc pc = .ok (.ishl, 1)) (h : Ev cc nL rt own R (pc + 1) ls (.int (x <<< (y &&& 31)) :: st) σ Q) : Ev cc nL rt own R pc ls (.int y :: .int x :: st) σ Q := fun p l e s m a b me c G H lo rl C K P S L => lv_ishl C.1 C.2.1 hd (h p l e s m a b me c G H lo rl C K P S L)
theorem E_ishr {x y : Int32} (hd : decode cc pc = .ok (.ishr, 1)) (h : Ev cc nL rt own R (pc + 1) ls (.int (x >>> (y &&& 31)) :: st) σ Q) : Ev cc nL rt own R pc ls (.int y :: .int x :: st) σ Q := fun p l e s m a b me c G H lo rl C K P S L => lv_ishr C.1 C.2.1 hd (h p l e s m a b me c G H lo rl C K P S L)
theorem E_idiv {x y : Int32} (hd : decode cc pc = .ok (.idiv, 1)) (hne : ¬ y = 0) (h : Ev cc nL rt own R (pc + 1) ls (.int (x / y) :: st) σ Q) : Ev cc nL rt own R pc ls (.int y :: .int x :: st) σ Q := fun p l e s m a b me c G H lo rl C K P S L => lv_idiv C.1 C.2.1 hd hne (h p l e s m a b me c G H lo rl C K P S L)
theorem E_ineg {x : Int32} (hd : decode cc pc = .ok (.ineg, 1)) (h : Ev cc nL rt own R (pc + 1) ls (.int (-x) :: st) σ Q) : Ev cc nL rt own R pc ls (.int x :: st) σ Q := fun p l e s m a b me c G H lo rl C K P S L => lv_ineg C.1 C.2.1 hd (h p l e s m a b me c G H lo rl C K P S L)
theorem E_ladd {x y : Int64} (hd : decode cc pc = .ok (.ladd, 1)) (h : Ev cc nL rt own R (pc + 1) ls (.long (x + y) :: st) σ Q) : Ev cc nL rt own R pc ls (.long y :: .long x :: st) σ Q := fun p l e s m a b me c G H lo rl C K P S L => lv_ladd C.1 C.2.1 hd (h p l e s m a b me c G H lo rl C K P S L)
theorem E_lsub {x y : Int64} (hd : decode cc pc = .ok (.lsub, 1)) (h : Ev cc nL rt own R (pc + 1) ls (.long (x - y) :: st) σ Q) : Ev cc nL rt own R pc ls (.long y :: .long x :: st) σ Q := fun p l e s m a b me c G H lo rl C K P S L => lv_lsub C.1 C.2.1 hd (h p l e s m a b me c G H lo rl C K P S L)
theorem E_lmul {x y : Int64} (hd : decode cc pc = .ok (.lmul, 1)) (h : Ev cc nL rt own R (pc + 1) ls (.long (x * y) :: st) σ Q) : Ev cc nL rt own R pc ls (.long y :: .long x :: st) σ Q := fun p l e s m a b me c G H lo rl C K P S L => lv_lmul C.1 C.2.1 hd (h p l e s m a b me c G H lo rl C K P S L)
theorem E_land {x y : Int64} (hd : decode cc pc = .ok (.land, 1)) (h : Ev cc nL rt own R (pc + 1) ls (.long (x &&& y) :: st) σ Q) : Ev cc nL rt own R pc ls (.long y :: .long x :: st) σ Q := fun p l e s m a b me c G H lo rl C K P S L => lv_land C.1 C.2.1 hd (h p l e s m a b me c G H lo rl C K P S L)
theorem E_lor {x y : Int64} (hd : decode cc pc = .ok (.lor, 1)) (h : Ev cc nL rt own R (pc + 1) ls (.long (x ||| y) :: st) σ Q) : Ev cc nL rt own R pc ls (.long y :: .long x :: st) σ Q := fun p l e s m a b me c G H lo rl C K P S L => lv_lor C.1 C.2.1 hd (h p l e s m a b me c G H lo rl C K P S L)
theorem E_lcmp {x y : Int64} (hd : decode cc pc = .ok (.lcmp, 1)) (h : Ev cc nL rt own R (pc + 1) ls (.int (lg_cmp x y) :: st) σ Q) : Ev cc nL rt own R pc ls (.long y :: .long x :: st) σ Q := fun p l e s m a b me c G H lo rl C K P S L => W.lcmp C.1 C.2.1 hd (h p l e s m a b me c G H lo rl C K P S L)
theorem E_lshl {x : Int64} {y : Int32} (hd : decode cc pc = .ok (.lshl, 1)) (h : Ev cc nL rt own R (pc + 1) ls (.long (x <<< (y.toInt64 &&& 63)) :: st) σ Q) : Ev cc nL rt own R pc ls (.int y :: .long x :: st) σ Q := fun p l e s m a b me c G H lo rl C K P S L => lv_lshl C.1 C.2.1 hd rfl (h p l e s m a b me c G H lo rl C K P S L)
theorem E_lshr {x : Int64} {y : Int32} (hd : decode cc pc = .ok (.lshr, 1)) (h : Ev cc nL rt own R (pc + 1) ls (.long (x >>> (y.toInt64 &&& 63)) :: st) σ Q) : Ev cc nL rt own R pc ls (.int y :: .long x :: st) σ Q := fun p l e s m a b me c G H lo rl C K P S L => lv_lshr C.1 C.2.1 hd rfl (h p l e s m a b me c G H lo rl C K P S L)
theorem E_i2l {x : Int32} (hd : decode cc pc = .ok (.i2l, 1)) (h : Ev cc nL rt own R (pc + 1) ls (.long x.toInt64 :: st) σ Q) : Ev cc nL rt own R pc ls (.int x :: st) σ Q := fun p l e s m a b me c G H lo rl C K P S L => lv_i2l C.1 C.2.1 hd rfl (h p l e s m a b me c G H lo rl C K P S L)
theorem E_l2i {x : Int64} (hd : decode cc pc = .ok (.l2i, 1)) (h : Ev cc nL rt own R (pc + 1) ls (.int x.toInt32 :: st) σ Q) : Ev cc nL rt own R pc ls (.long x :: st) σ Q := fun p l e s m a b me c G H lo rl C K P S L => lv_l2i C.1 C.2.1 hd rfl (h p l e s m a b me c G H lo rl C K P S L)
theorem E_i2c {x : Int32} (hd : decode cc pc = .ok (.i2c, 1)) (h : Ev cc nL rt own R (pc + 1) ls (.int (x.toUInt32 % 65536).toInt32 :: st) σ Q) : Ev cc nL rt own R pc ls (.int x :: st) σ Q := fun p l e s m a b me c G H lo rl C K P S L => lv_i2c C.1 C.2.1 hd rfl (h p l e s m a b me c G H lo rl C K P S L)
theorem E_iconst {n : Int} {v : Int32} (hd : decode cc pc = .ok (.iconst n, 1)) (hv : Int32.ofInt n = v) (h : Ev cc nL rt own R (pc + 1) ls (.int v :: st) σ Q) : Ev cc nL rt own R pc ls st σ Q := fun p l e s m a b me c G H lo rl C K P S L => lv_iconst C.1 C.2.1 hd hv (h p l e s m a b me c G H lo rl C K P S L)
theorem E_bipush {n : Int} {v : Int32} (hd : decode cc pc = .ok (.bipush n, 2)) (hv : (Int8.ofInt n).toInt32 = v) (h : Ev cc nL rt own R (pc + 2) ls (.int v :: st) σ Q) : Ev cc nL rt own R pc ls st σ Q := fun p l e s m a b me c G H lo rl C K P S L => lv_bipush C.1 C.2.1 hd hv (h p l e s m a b me c G H lo rl C K P S L)
theorem E_sipush {n : Int} {v : Int32} (hd : decode cc pc = .ok (.sipush n, 3)) (hv : (Int16.ofInt n).toInt32 = v) (h : Ev cc nL rt own R (pc + 3) ls (.int v :: st) σ Q) : Ev cc nL rt own R pc ls st σ Q := fun p l e s m a b me c G H lo rl C K P S L => lv_sipush C.1 C.2.1 hd hv (h p l e s m a b me c G H lo rl C K P S L)
theorem E_lconst {n : Fin 2} {v : Int64} (hd : decode cc pc = .ok (.lconst n, 1)) (hv : Int64.ofNat (n : Nat) = v) (h : Ev cc nL rt own R (pc + 1) ls (.long v :: st) σ Q) : Ev cc nL rt own R pc ls st σ Q := fun p l e s m a b me c G H lo rl C K P S L => lv_lconst C.1 C.2.1 hd hv (h p l e s m a b me c G H lo rl C K P S L)
theorem E_ldc {i : Nat} {v : Int32} (hd : decode cc pc = .ok (.ldc i, 2)) (hw : Cond.constant own i v ∈ Tg) (h : Ev cc nL rt own R (pc + 2) ls (.int v :: st) σ Q) : Ev cc nL rt own R pc ls st σ Q := fun p l e s m a b me c G H lo rl C K P S L => lv_ldc C.1 C.2.1 C.2.2.2.2.1 (C.2.2.2.2.2.1 _ hw) hd (h p l e s m a b me c G H lo rl C K P S L)
theorem E_ldcw {i : Nat} {v : Int32} (hd : decode cc pc = .ok (.ldc_w i, 3)) (hw : Cond.constant own i v ∈ Tg) (h : Ev cc nL rt own R (pc + 3) ls (.int v :: st) σ Q) : Ev cc nL rt own R pc ls st σ Q := fun p l e s m a b me c G H lo rl C K P S L => lv_ldcw C.1 C.2.1 C.2.2.2.2.1 (C.2.2.2.2.2.1 _ hw) hd (h p l e s m a b me c G H lo rl C K P S L)
theorem E_ldc2 {i : Nat} {v : Int64} (hd : decode cc pc = .ok (.ldc2_w i, 3)) (hw : Cond.constantLong own i v ∈ Tg) (h : Ev cc nL rt own R (pc + 3) ls (.long v :: st) σ Q) : Ev cc nL rt own R pc ls st σ Q := fun p l e s m a b me c G H lo rl C K P S L => lv_ldc2 C.1 C.2.1 C.2.2.2.2.1 (C.2.2.2.2.2.1 _ hw) hd (h p l e s m a b me c G H lo rl C K P S L)
theorem E_null (hd : decode cc pc = .ok (.aconst_null, 1)) (h : Ev cc nL rt own R (pc + 1) ls (.ref 999 :: st) σ Q) : Ev cc nL rt own R pc ls st σ Q := fun p l e s m a b me c G H lo rl C K P S L => lv_null C.1 C.2.1 hd (h p l e s m a b me c G H lo rl C K P S L)
theorem E_iload_n {k : Fin 4} {x : Int32} (hd : decode cc pc = .ok (.iload_n k, 1)) (hl : ls[(k : Nat)]? = some (.int x)) (h : Ev cc nL rt own R (pc + 1) ls (.int x :: st) σ Q) : Ev cc nL rt own R pc ls st σ Q := fun p l e s m a b me c G H lo rl C K P S L => lv_iload_n C.1 C.2.1 hd rfl (L.2.2 _ _ hl rfl) (h p l e s m a b me c G H lo rl C K P S L)
theorem E_iload {k : Nat} {x : Int32} (hd : decode cc pc = .ok (.iload k, 2)) (hl : ls[k]? = some (.int x)) (h : Ev cc nL rt own R (pc + 2) ls (.int x :: st) σ Q) : Ev cc nL rt own R pc ls st σ Q := fun p l e s m a b me c G H lo rl C K P S L => lv_iload C.1 C.2.1 hd (L.2.2 _ _ hl rfl) (h p l e s m a b me c G H lo rl C K P S L)
theorem E_lload_n {k : Fin 4} {x : Int64} (hd : decode cc pc = .ok (.lload_n k, 1)) (hl : ls[(k : Nat)]? = some (.long x)) (h : Ev cc nL rt own R (pc + 1) ls (.long x :: st) σ Q) : Ev cc nL rt own R pc ls st σ Q := fun p l e s m a b me c G H lo rl C K P S L => lv_lload_n C.1 C.2.1 hd rfl (L.2.2 _ _ hl rfl) (h p l e s m a b me c G H lo rl C K P S L)
theorem E_lload {k : Nat} {x : Int64} (hd : decode cc pc = .ok (.lload k, 2)) (hl : ls[k]? = some (.long x)) (h : Ev cc nL rt own R (pc + 2) ls (.long x :: st) σ Q) : Ev cc nL rt own R pc ls st σ Q := fun p l e s m a b me c G H lo rl C K P S L => lv_lload C.1 C.2.1 hd (L.2.2 _ _ hl rfl) (h p l e s m a b me c G H lo rl C K P S L)
theorem E_aload_n {k : Fin 4} {x : Nat} (hd : decode cc pc = .ok (.aload_n k, 1)) (hl : ls[(k : Nat)]? = some (.ref x)) (h : Ev cc nL rt own R (pc + 1) ls (.ref x :: st) σ Q) : Ev cc nL rt own R pc ls st σ Q := by
  intro p l e s m a b me c G H lo rl C K P S L
  have q := L.2.2 _ _ hl rfl
  have h' := h p l e s m a b me c G H lo rl C K P S L
  rw [List.map_cons] at h'
  by_cases h9 : x = 999
  · have ec : cv G (.ref x) = .null := if_pos h9
    rw [ec] at q h'
    exact lv_aload_nN C.1 C.2.1 hd rfl q h'
  · have ec : cv G (.ref x) = .ref (adO G x) := if_neg h9
    rw [ec] at q h'
    exact lv_aload_n C.1 C.2.1 hd rfl q h'
theorem E_aload {k : Nat} {x : Nat} (hd : decode cc pc = .ok (.aload k, 2)) (hl : ls[k]? = some (.ref x)) (h : Ev cc nL rt own R (pc + 2) ls (.ref x :: st) σ Q) : Ev cc nL rt own R pc ls st σ Q := by
  intro p l e s m a b me c G H lo rl C K P S L
  have q := L.2.2 _ _ hl rfl
  have h' := h p l e s m a b me c G H lo rl C K P S L
  rw [List.map_cons] at h'
  by_cases h9 : x = 999
  · have ec : cv G (.ref x) = .null := if_pos h9
    rw [ec] at q h'
    exact lv_aloadN C.1 C.2.1 hd q h'
  · have ec : cv G (.ref x) = .ref (adO G x) := if_neg h9
    rw [ec] at q h'
    exact lv_aload C.1 C.2.1 hd q h'
theorem lvO_of1 {G : Gx} {rl rl' : Array Slot} {i : Nat} {v : Value} (h : lv_has rl' nL ((i, cv G v) :: (prO G ls).filter (fun q => !(q.1 == i) && !(q.1 + 1 == i && q.2.category == 2)))) (hl : lset1 ls i v = ls') : lvO G rl' nL ls' := by
  obtain ⟨h1, h2, h3⟩ := h
  refine ⟨h1, h2, fun k w hk hu => ?_⟩
  subst hl
  unfold lset1 at hk
  rw [List.getElem?_set] at hk
  by_cases ek : i = k
  · subst ek
    rw [if_pos rfl] at hk
    split at hk
    · cases hk; exact h3 (i, cv G v) List.mem_cons_self
    · cases hk
  · rw [if_neg ek] at hk
    obtain ⟨g1, g2⟩ := inv1_get hk hu
    refine h3 (k, cv G w) (List.mem_cons_of_mem _ (List.mem_filter.mpr ⟨prO_in g1 hu, ?_⟩))
    have n1 : (k == i) = false := by simp; exact fun z => ek z.symm
    simp only [n1, cv_cat, Bool.not_false, Bool.true_and, Bool.not_eq_true', Bool.and_eq_false_iff, beq_eq_false_iff_ne, ne_eq]
    by_cases z : k + 1 = i
    · exact Or.inr (fun y => g2 ⟨z, y⟩)
    · exact Or.inl z
theorem lvO_of2 {G : Gx} {rl rl' : Array Slot} {i : Nat} {v : Value} (h : lv_has rl' nL ((i, cv G v) :: (prO G ls).filter (fun q => !(q.1 == i) && (!(q.1 == i + 1) && !(q.1 + 1 == i && q.2.category == 2))))) (hl : lset2 ls i v = ls') : lvO G rl' nL ls' := by
  obtain ⟨h1, h2, h3⟩ := h
  refine ⟨h1, h2, fun k w hk hu => ?_⟩
  subst hl
  unfold lset2 at hk
  rw [List.getElem?_set] at hk
  by_cases ek2 : i + 1 = k
  · rw [if_pos ek2] at hk
    split at hk
    · cases hk; cases hu
    · cases hk
  · rw [if_neg ek2, List.getElem?_set] at hk
    by_cases ek : i = k
    · subst ek
      rw [if_pos rfl] at hk
      split at hk
      · cases hk; exact h3 (i, cv G v) List.mem_cons_self
      · cases hk
    · rw [if_neg ek] at hk
      obtain ⟨g1, g2⟩ := inv1_get hk hu
      refine h3 (k, cv G w) (List.mem_cons_of_mem _ (List.mem_filter.mpr ⟨prO_in g1 hu, ?_⟩))
      have n1 : (k == i) = false := by simp; exact fun z => ek z.symm
      have n2 : (k == i + 1) = false := by simp; exact fun z => ek2 z.symm
      simp only [n1, n2, cv_cat, Bool.not_false, Bool.true_and, Bool.not_eq_true', Bool.and_eq_false_iff, beq_eq_false_iff_ne, ne_eq]
      by_cases z : k + 1 = i
      · exact Or.inr (fun y => g2 ⟨z, y⟩)
      · exact Or.inl z
theorem E_istore_n {k : Fin 4} {x : Int32} (hd : decode cc pc = .ok (.istore_n k, 1)) (hn : (k : Nat) < nL) (hl : lset1 ls (k : Nat) (.int x) = ls') (h : Ev cc nL rt own R (pc + 1) ls' st σ Q) : Ev cc nL rt own R pc ls (.int x :: st) σ Q := fun p l e s m a b me c G H lo rl C K P S L => lv_istore_n C.1 C.2.1 hd rfl (lvO_has L) hn rfl (fun r2 h2 => h p l e s m a b me c G H lo r2 C K P S (lvO_of1 (rl := rl) (v := .int x) h2 hl))
theorem E_lstore_n {k : Fin 4} {x : Int64} (hd : decode cc pc = .ok (.lstore_n k, 1)) (hn : (k : Nat) + 1 < nL) (hl : lset2 ls (k : Nat) (.long x) = ls') (h : Ev cc nL rt own R (pc + 1) ls' st σ Q) : Ev cc nL rt own R pc ls (.long x :: st) σ Q := fun p l e s m a b me c G H lo rl C K P S L => lv_lstore_n C.1 C.2.1 hd rfl (lvO_has L) hn rfl (fun r2 h2 => h p l e s m a b me c G H lo r2 C K P S (lvO_of2 (rl := rl) (v := .long x) h2 hl))
theorem E_astore_n {k : Fin 4} {x : Nat} (hd : decode cc pc = .ok (.astore_n k, 1)) (hn : (k : Nat) < nL) (hx : x ≠ 999) (hl : lset1 ls (k : Nat) (.ref x) = ls') (h : Ev cc nL rt own R (pc + 1) ls' st σ Q) : Ev cc nL rt own R pc ls (.ref x :: st) σ Q := by
  intro p l e s m a b me c G H lo rl C K P S L
  rw [List.map_cons]
  have ec : cv G (.ref x) = .ref (adO G x) := if_neg hx
  rw [ec]
  refine lv_astore_n C.1 C.2.1 hd rfl (lvO_has L) hn rfl (fun r2 h2 => h p l e s m a b me c G H lo r2 C K P S (lvO_of1 (rl := rl) (v := .ref x) ?_ hl))
  rw [ec]
  exact h2
theorem E_istore {k : Nat} {x : Int32} (hd : decode cc pc = .ok (.istore k, 2)) (hn : k < nL) (hl : lset1 ls k (.int x) = ls') (h : Ev cc nL rt own R (pc + 2) ls' st σ Q) : Ev cc nL rt own R pc ls (.int x :: st) σ Q := fun p l e s m a b me c G H lo rl C K P S L => lv_istore C.1 C.2.1 hd (lvO_has L) hn rfl (fun r2 h2 => h p l e s m a b me c G H lo r2 C K P S (lvO_of1 (rl := rl) (v := .int x) h2 hl))
theorem E_lstore {k : Nat} {x : Int64} (hd : decode cc pc = .ok (.lstore k, 2)) (hn : k + 1 < nL) (hl : lset2 ls k (.long x) = ls') (h : Ev cc nL rt own R (pc + 2) ls' st σ Q) : Ev cc nL rt own R pc ls (.long x :: st) σ Q := fun p l e s m a b me c G H lo rl C K P S L => lv_lstore C.1 C.2.1 hd (lvO_has L) hn rfl (fun r2 h2 => h p l e s m a b me c G H lo r2 C K P S (lvO_of2 (rl := rl) (v := .long x) h2 hl))
theorem E_astore {k : Nat} {x : Nat} (hd : decode cc pc = .ok (.astore k, 2)) (hn : k < nL) (hx : x ≠ 999) (hl : lset1 ls k (.ref x) = ls') (h : Ev cc nL rt own R (pc + 2) ls' st σ Q) : Ev cc nL rt own R pc ls (.ref x :: st) σ Q := by
  intro p l e s m a b me c G H lo rl C K P S L
  rw [List.map_cons]
  have ec : cv G (.ref x) = .ref (adO G x) := if_neg hx
  rw [ec]
  refine lv_astore C.1 C.2.1 hd (lvO_has L) hn rfl (fun r2 h2 => h p l e s m a b me c G H lo r2 C K P S (lvO_of1 (rl := rl) (v := .ref x) ?_ hl))
  rw [ec]
  exact h2
theorem E_iinc {k : Nat} {n : Int} {x v : Int32} (hd : decode cc pc = .ok (.iinc k n, 3)) (hx : ls[k]? = some (.int x)) (hv : x + Int32.ofInt n = v) (hn : k < nL) (hl : lset1 ls k (.int v) = ls') (h : Ev cc nL rt own R (pc + 3) ls' st σ Q) : Ev cc nL rt own R pc ls st σ Q := by
  intro p l e s m a b me c G H lo rl C K P S L
  obtain ⟨q, hq⟩ := List.getElem?_of_mem (prO_in (G := G) hx rfl)
  exact lv_iinc C.1 C.2.1 hd (lvO_has L) hq hv hn rfl (fun r2 h2 => h p l e s m a b me c G H lo r2 C K P S (lvO_of1 (rl := rl) (v := .int v) h2 hl))
theorem E_dup {v : Value} (hd : decode cc pc = .ok (.dup, 1)) (hv : v.category = 1) (h : Ev cc nL rt own R (pc + 1) ls (v :: v :: st) σ Q) : Ev cc nL rt own R pc ls (v :: st) σ Q := fun p l e s m a b me c G H lo rl C K P S L => lv_dup C.1 C.2.1 hd (by rw [cv_cat]; exact hv) (h p l e s m a b me c G H lo rl C K P S L)
theorem E_pop {v : Value} (hd : decode cc pc = .ok (.pop, 1)) (hv : v.category = 1) (h : Ev cc nL rt own R (pc + 1) ls st σ Q) : Ev cc nL rt own R pc ls (v :: st) σ Q := fun p l e s m a b me c G H lo rl C K P S L => lv_pop C.1 C.2.1 hd (by rw [cv_cat]; exact hv) (h p l e s m a b me c G H lo rl C K P S L)
theorem E_dup_x1 {v w : Value} (hd : decode cc pc = .ok (.dup_x1, 1)) (hv : v.category = 1) (hw : w.category = 1) (h : Ev cc nL rt own R (pc + 1) ls (v :: w :: v :: st) σ Q) : Ev cc nL rt own R pc ls (v :: w :: st) σ Q := fun p l e s m a b me c G H lo rl C K P S L => lv_dup_x1 C.1 C.2.1 hd (by rw [cv_cat]; exact hv) (by rw [cv_cat]; exact hw) (h p l e s m a b me c G H lo rl C K P S L)
theorem E_dup2 {v w : Value} (hd : decode cc pc = .ok (.dup2, 1)) (hv : v.category = 1) (hw : w.category = 1) (h : Ev cc nL rt own R (pc + 1) ls (v :: w :: v :: w :: st) σ Q) : Ev cc nL rt own R pc ls (v :: w :: st) σ Q := fun p l e s m a b me c G H lo rl C K P S L => lv_dup2_11 C.1 C.2.1 hd (by rw [cv_cat]; exact hv) (by rw [cv_cat]; exact hw) (h p l e s m a b me c G H lo rl C K P S L)
theorem E_if_eq {x : Int32} {off : Int} (tgt : Nat) (hd : decode cc pc = .ok (.ifCond .eq off, 3)) (ht : (pc : Int) + off = (tgt : Int)) (h1 : x = 0 → Ev cc nL rt own R tgt ls st σ Q) (h2 : ¬ x = 0 → Ev cc nL rt own R (pc + 3) ls st σ Q) : Ev cc nL rt own R pc ls (.int x :: st) σ Q := fun p l e s m a b me c G H lo rl C K P S L => lv_if_eq C.1 C.2.1 hd ht (fun z => h1 z p l e s m a b me c G H lo rl C K P S L) (fun z => h2 z p l e s m a b me c G H lo rl C K P S L)
theorem E_icmp_eq {x y : Int32} {off : Int} (tgt : Nat) (hd : decode cc pc = .ok (.if_icmp .eq off, 3)) (ht : (pc : Int) + off = (tgt : Int)) (h1 : x = y → Ev cc nL rt own R tgt ls st σ Q) (h2 : ¬ x = y → Ev cc nL rt own R (pc + 3) ls st σ Q) : Ev cc nL rt own R pc ls (.int y :: .int x :: st) σ Q := fun p l e s m a b me c G H lo rl C K P S L => lv_icmp_eq C.1 C.2.1 hd ht (fun z => h1 z p l e s m a b me c G H lo rl C K P S L) (fun z => h2 z p l e s m a b me c G H lo rl C K P S L)
theorem E_if_ne {x : Int32} {off : Int} (tgt : Nat) (hd : decode cc pc = .ok (.ifCond .ne off, 3)) (ht : (pc : Int) + off = (tgt : Int)) (h1 : ¬ x = 0 → Ev cc nL rt own R tgt ls st σ Q) (h2 : x = 0 → Ev cc nL rt own R (pc + 3) ls st σ Q) : Ev cc nL rt own R pc ls (.int x :: st) σ Q := fun p l e s m a b me c G H lo rl C K P S L => lv_if_ne C.1 C.2.1 hd ht (fun z => h1 z p l e s m a b me c G H lo rl C K P S L) (fun z => h2 z p l e s m a b me c G H lo rl C K P S L)
theorem E_icmp_ne {x y : Int32} {off : Int} (tgt : Nat) (hd : decode cc pc = .ok (.if_icmp .ne off, 3)) (ht : (pc : Int) + off = (tgt : Int)) (h1 : ¬ x = y → Ev cc nL rt own R tgt ls st σ Q) (h2 : x = y → Ev cc nL rt own R (pc + 3) ls st σ Q) : Ev cc nL rt own R pc ls (.int y :: .int x :: st) σ Q := fun p l e s m a b me c G H lo rl C K P S L => lv_icmp_ne C.1 C.2.1 hd ht (fun z => h1 z p l e s m a b me c G H lo rl C K P S L) (fun z => h2 z p l e s m a b me c G H lo rl C K P S L)
theorem E_if_lt {x : Int32} {off : Int} (tgt : Nat) (hd : decode cc pc = .ok (.ifCond .lt off, 3)) (ht : (pc : Int) + off = (tgt : Int)) (h1 : x < 0 → Ev cc nL rt own R tgt ls st σ Q) (h2 : ¬ x < 0 → Ev cc nL rt own R (pc + 3) ls st σ Q) : Ev cc nL rt own R pc ls (.int x :: st) σ Q := fun p l e s m a b me c G H lo rl C K P S L => lv_if_lt C.1 C.2.1 hd ht (fun z => h1 z p l e s m a b me c G H lo rl C K P S L) (fun z => h2 z p l e s m a b me c G H lo rl C K P S L)
theorem E_icmp_lt {x y : Int32} {off : Int} (tgt : Nat) (hd : decode cc pc = .ok (.if_icmp .lt off, 3)) (ht : (pc : Int) + off = (tgt : Int)) (h1 : x < y → Ev cc nL rt own R tgt ls st σ Q) (h2 : ¬ x < y → Ev cc nL rt own R (pc + 3) ls st σ Q) : Ev cc nL rt own R pc ls (.int y :: .int x :: st) σ Q := fun p l e s m a b me c G H lo rl C K P S L => lv_icmp_lt C.1 C.2.1 hd ht (fun z => h1 z p l e s m a b me c G H lo rl C K P S L) (fun z => h2 z p l e s m a b me c G H lo rl C K P S L)
theorem E_if_ge {x : Int32} {off : Int} (tgt : Nat) (hd : decode cc pc = .ok (.ifCond .ge off, 3)) (ht : (pc : Int) + off = (tgt : Int)) (h1 : 0 ≤ x → Ev cc nL rt own R tgt ls st σ Q) (h2 : ¬ 0 ≤ x → Ev cc nL rt own R (pc + 3) ls st σ Q) : Ev cc nL rt own R pc ls (.int x :: st) σ Q := fun p l e s m a b me c G H lo rl C K P S L => lv_if_ge C.1 C.2.1 hd ht (fun z => h1 z p l e s m a b me c G H lo rl C K P S L) (fun z => h2 z p l e s m a b me c G H lo rl C K P S L)
theorem E_icmp_ge {x y : Int32} {off : Int} (tgt : Nat) (hd : decode cc pc = .ok (.if_icmp .ge off, 3)) (ht : (pc : Int) + off = (tgt : Int)) (h1 : y ≤ x → Ev cc nL rt own R tgt ls st σ Q) (h2 : ¬ y ≤ x → Ev cc nL rt own R (pc + 3) ls st σ Q) : Ev cc nL rt own R pc ls (.int y :: .int x :: st) σ Q := fun p l e s m a b me c G H lo rl C K P S L => lv_icmp_ge C.1 C.2.1 hd ht (fun z => h1 z p l e s m a b me c G H lo rl C K P S L) (fun z => h2 z p l e s m a b me c G H lo rl C K P S L)
theorem E_if_gt {x : Int32} {off : Int} (tgt : Nat) (hd : decode cc pc = .ok (.ifCond .gt off, 3)) (ht : (pc : Int) + off = (tgt : Int)) (h1 : 0 < x → Ev cc nL rt own R tgt ls st σ Q) (h2 : ¬ 0 < x → Ev cc nL rt own R (pc + 3) ls st σ Q) : Ev cc nL rt own R pc ls (.int x :: st) σ Q := fun p l e s m a b me c G H lo rl C K P S L => lv_if_gt C.1 C.2.1 hd ht (fun z => h1 z p l e s m a b me c G H lo rl C K P S L) (fun z => h2 z p l e s m a b me c G H lo rl C K P S L)
theorem E_icmp_gt {x y : Int32} {off : Int} (tgt : Nat) (hd : decode cc pc = .ok (.if_icmp .gt off, 3)) (ht : (pc : Int) + off = (tgt : Int)) (h1 : y < x → Ev cc nL rt own R tgt ls st σ Q) (h2 : ¬ y < x → Ev cc nL rt own R (pc + 3) ls st σ Q) : Ev cc nL rt own R pc ls (.int y :: .int x :: st) σ Q := fun p l e s m a b me c G H lo rl C K P S L => lv_icmp_gt C.1 C.2.1 hd ht (fun z => h1 z p l e s m a b me c G H lo rl C K P S L) (fun z => h2 z p l e s m a b me c G H lo rl C K P S L)
theorem E_if_le {x : Int32} {off : Int} (tgt : Nat) (hd : decode cc pc = .ok (.ifCond .le off, 3)) (ht : (pc : Int) + off = (tgt : Int)) (h1 : x ≤ 0 → Ev cc nL rt own R tgt ls st σ Q) (h2 : ¬ x ≤ 0 → Ev cc nL rt own R (pc + 3) ls st σ Q) : Ev cc nL rt own R pc ls (.int x :: st) σ Q := fun p l e s m a b me c G H lo rl C K P S L => lv_if_le C.1 C.2.1 hd ht (fun z => h1 z p l e s m a b me c G H lo rl C K P S L) (fun z => h2 z p l e s m a b me c G H lo rl C K P S L)
theorem E_icmp_le {x y : Int32} {off : Int} (tgt : Nat) (hd : decode cc pc = .ok (.if_icmp .le off, 3)) (ht : (pc : Int) + off = (tgt : Int)) (h1 : x ≤ y → Ev cc nL rt own R tgt ls st σ Q) (h2 : ¬ x ≤ y → Ev cc nL rt own R (pc + 3) ls st σ Q) : Ev cc nL rt own R pc ls (.int y :: .int x :: st) σ Q := fun p l e s m a b me c G H lo rl C K P S L => lv_icmp_le C.1 C.2.1 hd ht (fun z => h1 z p l e s m a b me c G H lo rl C K P S L) (fun z => h2 z p l e s m a b me c G H lo rl C K P S L)
theorem E_goto {off : Int} (tgt : Nat) (hd : decode cc pc = .ok (.goto off, 3)) (ht : (pc : Int) + off = (tgt : Int)) (h : Ev cc nL rt own R tgt ls st σ Q) : Ev cc nL rt own R pc ls st σ Q := fun p l e s m a b me c G H lo rl C K P S L => lv_goto C.1 C.2.1 hd ht (h p l e s m a b me c G H lo rl C K P S L)
theorem E_ifnull {x : Nat} {off : Int} (tgt : Nat) (hd : decode cc pc = .ok (.ifnull off, 3)) (ht : (pc : Int) + off = (tgt : Int)) (h1 : x = 999 → Ev cc nL rt own R tgt ls st σ Q) (h2 : ¬ x = 999 → Ev cc nL rt own R (pc + 3) ls st σ Q) : Ev cc nL rt own R pc ls (.ref x :: st) σ Q := by
  intro p l e s m a b me c G H lo rl C K P S L
  rw [List.map_cons]
  by_cases h9 : x = 999
  · have ec : cv G (.ref x) = .null := if_pos h9
    rw [ec]
    exact lv_ifnullN C.1 C.2.1 hd ht (h1 h9 p l e s m a b me c G H lo rl C K P S L)
  · have ec : cv G (.ref x) = .ref (adO G x) := if_neg h9
    rw [ec]
    exact lv_ifnull C.1 C.2.1 hd (h2 h9 p l e s m a b me c G H lo rl C K P S L)
theorem E_ifnonnull {x : Nat} {off : Int} (tgt : Nat) (hd : decode cc pc = .ok (.ifnonnull off, 3)) (ht : (pc : Int) + off = (tgt : Int)) (h1 : ¬ x = 999 → Ev cc nL rt own R tgt ls st σ Q) (h2 : x = 999 → Ev cc nL rt own R (pc + 3) ls st σ Q) : Ev cc nL rt own R pc ls (.ref x :: st) σ Q := by
  intro p l e s m a b me c G H lo rl C K P S L
  rw [List.map_cons]
  by_cases h9 : x = 999
  · have ec : cv G (.ref x) = .null := if_pos h9
    rw [ec]
    exact lv_ifnonnullN C.1 C.2.1 hd (h2 h9 p l e s m a b me c G H lo rl C K P S L)
  · have ec : cv G (.ref x) = .ref (adO G x) := if_neg h9
    rw [ec]
    exact lv_ifnonnull C.1 C.2.1 hd ht (h1 h9 p l e s m a b me c G H lo rl C K P S L)
theorem E_tsw {x : Int32} {d lo hi : Int} {offs : Array Int} {len : Nat} (tg : List (Int32 × Nat)) (dt : Nat) (hd : decode cc pc = .ok (.tableswitch d lo hi offs, len)) (ht : (pc : Int) + d = (dt : Int)) (hhi : hi + 1 = lo + (tg.length : Int)) (hv : tg.map (fun q => q.1.toInt) = (List.range tg.length).map (fun j : Nat => lo + (j : Int))) (ho : offs.toList.map (fun o => (pc : Int) + o) = tg.map (fun q => (q.2 : Int)))
    (h1 : ∀ q ∈ tg, x = q.1 → Ev cc nL rt own R q.2 ls st σ Q) (h2 : (∀ q ∈ tg, ¬ x = q.1) → Ev cc nL rt own R dt ls st σ Q) : Ev cc nL rt own R pc ls (.int x :: st) σ Q := by
  intro p l e s m a b me c G H lo' rl C K P S L
  have hval : ∀ (j : Nat) (hj : j < tg.length), (tg[j]).1.toInt = lo + (j : Int) := by
    intro j hj
    have e1 := congrArg (fun l => l[j]?) hv
    simp only [List.getElem?_map, List.getElem?_eq_getElem hj, List.getElem?_range hj] at e1
    exact Option.some.inj e1
  by_cases hx : x.toInt < lo ∨ hi < x.toInt
  · refine lv_tableOut C.1 C.2.1 hd hx ht (h2 (fun q hq e1 => ?_) p l e s m a b me c G H lo' rl C K P S L)
    obtain ⟨j, hj, ej⟩ := List.getElem_of_mem hq
    have := hval j hj
    rw [ej, ← e1] at this
    omega
  · have hn : ¬ x.toInt < lo := fun z => hx (Or.inl z)
    have hm : ¬ hi < x.toInt := fun z => hx (Or.inr z)
    obtain ⟨j, ej⟩ : ∃ j : Nat, (j : Int) = x.toInt - lo := ⟨(x.toInt - lo).toNat, by omega⟩
    have hj : j < tg.length := by omega
    have e0 : x = (tg[j]).1 := Int32.toInt_inj.mp (by rw [hval j hj]; omega)
    have hlen : offs.toList.length = tg.length := by have := congrArg List.length ho; simpa using this
    have hj2 : j < offs.toList.length := by omega
    have e1 : (offs.toList.map (fun o => (pc : Int) + o))[j]? = some ((tg[j]).2 : Int) := by rw [ho, List.getElem?_map, List.getElem?_eq_getElem hj]; rfl
    rw [List.getElem?_map, List.getElem?_eq_getElem hj2] at e1
    have e2 : (pc : Int) + offs.toList[j] = ((tg[j]).2 : Int) := Option.some.inj e1
    refine lv_tableIn (off := offs.toList[j]) C.1 C.2.1 hd hn hm ?_ e2 (h1 _ (List.getElem_mem hj) e0 p l e s m a b me c G H lo' rl C K P S L)
    rw [← ej, show ((j : Int)).toNat = j by omega, ← Array.getElem?_toList, List.getElem?_eq_getElem hj2]
theorem lsw_off {x : Int32} {d : Int} : ∀ (ps : List (Int × Int)) (tg : List (Int32 × Nat)), ps.map (fun q => (q.1, (pc : Int) + q.2)) = tg.map (fun q => (q.1.toInt, (q.2 : Int))) → (∃ q ∈ tg, x = q.1 ∧ (pc : Int) + Op.lookupswitch.offset ps d x.toInt = (q.2 : Int)) ∨ ((∀ q ∈ tg, ¬ x = q.1) ∧ Op.lookupswitch.offset ps d x.toInt = d) := by
  intro ps
  induction ps with
  | nil =>
    intro tg h
    have : tg = [] := by cases tg with
      | nil => rfl
      | cons q tg => simp at h
    subst this
    exact Or.inr ⟨fun q hq => (by cases hq), rfl⟩
  | cons p1 ps ih =>
    intro tg h
    cases tg with
    | nil => simp at h
    | cons q tg =>
      simp only [List.map_cons, List.cons.injEq, Prod.mk.injEq] at h
      obtain ⟨⟨ha, hb⟩, hc⟩ := h
      by_cases hx : x = q.1
      · refine Or.inl ⟨q, List.mem_cons_self, hx, ?_⟩
        obtain ⟨a1, a2⟩ := p1
        rw [Op.lookupswitch.offset_cons, if_pos (by rw [hx]; exact ha)]
        exact hb
      · obtain ⟨a1, a2⟩ := p1
        have e1 := lv_osw (x := x) (o := a2) (d := d) (r := ps) hx ha.symm
        rcases ih tg hc with ⟨q', hq', h1, h2⟩ | ⟨h1, h2⟩
        · exact Or.inl ⟨q', List.mem_cons_of_mem _ hq', h1, by rw [e1]; exact h2⟩
        · refine Or.inr ⟨fun q' hq' => ?_, by rw [e1]; exact h2⟩
          rcases List.mem_cons.mp hq' with rfl | hq'
          · exact hx
          · exact h1 q' hq'
theorem E_lsw {x : Int32} {d : Int} {ps : Array (Int × Int)} {len : Nat} (tg : List (Int32 × Nat)) (dt : Nat) (hd : decode cc pc = .ok (.lookupswitch d ps, len)) (hp : (ps.toList.zip (ps.toList.drop 1)).all (fun (a, next) => a.1 < next.1) = true) (ht : (pc : Int) + d = (dt : Int)) (ho : ps.toList.map (fun q => (q.1, (pc : Int) + q.2)) = tg.map (fun q => (q.1.toInt, (q.2 : Int))))
    (h1 : ∀ q ∈ tg, x = q.1 → Ev cc nL rt own R q.2 ls st σ Q) (h2 : (∀ q ∈ tg, ¬ x = q.1) → Ev cc nL rt own R dt ls st σ Q) : Ev cc nL rt own R pc ls (.int x :: st) σ Q := by
  intro p l e s m a b me c G H lo' rl C K P S L
  rcases lsw_off (x := x) (d := d) (pc := pc) ps.toList tg ho with ⟨q, hq, g1, g2⟩ | ⟨g1, g2⟩
  · exact lv_lookup C.1 C.2.1 hd hp rfl g2 (h1 q hq g1 p l e s m a b me c G H lo' rl C K P S L)
  · exact lv_lookup C.1 C.2.1 hd hp g2 ht (h2 g1 p l e s m a b me c G H lo' rl C K P S L)
end ER
end
section
section EH
variable {cc : ByteArray} {nL : Nat} {rt : Option FieldType} {own : String} {R : Room} {pc : Nat} {ls ls' st : List Value} {σ : St} {Q : Option Value → St → Prop}
/-- a field by its place in a pool -/
def FdO (own : String) (idx c j : Nat) : Prop := ∃ q : vw_C, clsL[c]? = some q ∧ (∀ w ∈ u_ws q.1 q.2.1 q.2.2, w ∈ Tg) ∧ j < q.2.2 ∧ Cond.fieldLink own idx (q.2.1 j).1 (q.2.1 j).2.1 (q.2.1 j).2.2.1 ∈ Tg
/-- a field that is no final one, of a type -/
def FpO (c j : Nat) (ty : FieldType) : Prop := ∃ (q : vw_C) (ty0 : Nat → FieldType), clsL[c]? = some q ∧ (∀ k, k < q.2.2 → parseFieldDescriptor (q.2.1 k).2.2.1 = some (ty0 k)) ∧ (∀ a, a < q.2.2 → ∀ b, b < q.2.2 → a ≠ b → (q.2.1 a).2.1 ≠ (q.2.1 b).2.1) ∧ (q.2.1 j).2.2.2 = false ∧ parseFieldDescriptor (q.2.1 j).2.2.1 = some ty
theorem cv_ref {G : Gx} {k : Nat} (h : k ≠ 999) : cv G (.ref k) = .ref (adO G k) := if_neg h
theorem cv_cell {G : Gx} {k : Nat} (h : kd k < 12) : cv G (.ref k) = .ref (adO G k) := cv_ref (by have := kd_lt h; omega)
theorem E_getI {k c j idx d : Nat} (hd : decode cc pc = .ok (.getfield idx, 3)) (ho : kd k = c) (hc : c < 8) (hf : (fl c)[j]? = some (1, d)) (hF : FdO own idx c j) (h : Ev cc nL rt own R (pc + 3) ls (.int (gI σ k j) :: st) σ Q) : Ev cc nL rt own R pc ls (.ref k :: st) σ Q := by
  intro p l e s m a b me c' G H lo rl C K P S L
  obtain ⟨q, q1, q2, q3, q4⟩ := hF
  rw [List.map_cons, cv_cell (by omega)]
  refine va_get (Ts := Tg) (C := q.1) (T := q.2.1) (N := q.2.2) (v := .int (gI σ k j)) C.1 C.2.1 C.2.2.2.2.2.1 q2 C.2.2.2.2.1 K.1 P k (wsO_obj ho hc) q1 j q3 (C.2.2.2.2.2.1 _ q4) (fun _ h9 => h9) ?_ hd ?_
  · rw [fsO_at ho hf]; rfl
  · have h' := h p l e s m a b me c' G H lo rl C K P S L
    exact h'
theorem E_getZ {k c j idx d : Nat} (hd : decode cc pc = .ok (.getfield idx, 3)) (ho : kd k = c) (hc : c < 8) (hf : (fl c)[j]? = some (2, d)) (hF : FdO own idx c j) (h : Ev cc nL rt own R (pc + 3) ls (.int (gI σ k j) :: st) σ Q) : Ev cc nL rt own R pc ls (.ref k :: st) σ Q := by
  intro p l e s m a b me c' G H lo rl C K P S L
  obtain ⟨q, q1, q2, q3, q4⟩ := hF
  rw [List.map_cons, cv_cell (by omega)]
  refine va_get (Ts := Tg) (C := q.1) (T := q.2.1) (N := q.2.2) (v := .int (gI σ k j)) C.1 C.2.1 C.2.2.2.2.2.1 q2 C.2.2.2.2.1 K.1 P k (wsO_obj ho hc) q1 j q3 (C.2.2.2.2.2.1 _ q4) (fun _ h9 => h9) ?_ hd ?_
  · rw [fsO_at ho hf]; rfl
  · have h' := h p l e s m a b me c' G H lo rl C K P S L
    exact h'
theorem E_getL {k c j idx d : Nat} (hd : decode cc pc = .ok (.getfield idx, 3)) (ho : kd k = c) (hc : c < 8) (hf : (fl c)[j]? = some (3, d)) (hF : FdO own idx c j) (h : Ev cc nL rt own R (pc + 3) ls (.long (gL σ k j) :: st) σ Q) : Ev cc nL rt own R pc ls (.ref k :: st) σ Q := by
  intro p l e s m a b me c' G H lo rl C K P S L
  obtain ⟨q, q1, q2, q3, q4⟩ := hF
  rw [List.map_cons, cv_cell (by omega)]
  refine va_get (Ts := Tg) (C := q.1) (T := q.2.1) (N := q.2.2) (v := .long (gL σ k j)) C.1 C.2.1 C.2.2.2.2.2.1 q2 C.2.2.2.2.1 K.1 P k (wsO_obj ho hc) q1 j q3 (C.2.2.2.2.2.1 _ q4) (fun _ h9 => h9) ?_ hd ?_
  · rw [fsO_at ho hf]; rfl
  · have h' := h p l e s m a b me c' G H lo rl C K P S L
    exact h'
theorem E_getR {k c j idx d : Nat} (hd : decode cc pc = .ok (.getfield idx, 3)) (ho : kd k = c) (hc : c < 8) (hf : (fl c)[j]? = some (0, d)) (hF : FdO own idx c j) (h9 : d < 900) (h : Ev cc nL rt own R (pc + 3) ls (.ref (k + d) :: st) σ Q) : Ev cc nL rt own R pc ls (.ref k :: st) σ Q := by
  intro p l e s m a b me c' G H lo rl C K P S L
  obtain ⟨q, q1, q2, q3, q4⟩ := hF
  rw [List.map_cons, cv_cell (by omega)]
  refine va_get (Ts := Tg) (C := q.1) (T := q.2.1) (N := q.2.2) (v := .ref (adO G (k + d))) C.1 C.2.1 C.2.2.2.2.2.1 q2 C.2.2.2.2.1 K.1 P k (wsO_obj ho hc) q1 j q3 (C.2.2.2.2.2.1 _ q4) (fun _ h9 => h9) ?_ hd ?_
  · rw [fsO_at ho hf]; rfl
  · have h' := h p l e s m a b me c' G H lo rl C K P S L
    rw [List.map_cons, show cv G (.ref (k + d)) = .ref (adO G (k + d)) from cv_ref (by have := kd_lt (k := k) (by omega); omega)] at h'
    exact h'
theorem E_putI {k c j idx d : Nat} {x : Int32} (hd : decode cc pc = .ok (.putfield idx, 3)) (ho : kd k = c) (hc : c < 8) (hf : (fl c)[j]? = some (1, d)) (hF : FdO own idx c j) (hp : FpO c j .int) (h : Ev cc nL rt own R (pc + 3) ls st (sI σ k j x) Q) : Ev cc nL rt own R pc ls (.int x :: .ref k :: st) σ Q := by
  intro p l e s m a b me c' G H lo rl C K P S L
  obtain ⟨q, q1, q2, q3, q4⟩ := hF
  obtain ⟨q', ty0, r1, r2, r3, r4, r5⟩ := hp
  cases q1.symm.trans r1
  rw [List.map_cons, List.map_cons, cv_cell (by omega)]
  refine va_put (Ts := Tg) (C := q.1) (T := q.2.1) (N := q.2.2) (v := .int x) (ty := .int) C.1 C.2.1 C.2.2.2.2.2.1 q2 ty0 r2 r3 C.2.2.2.2.1 K.1 P (K.D σ) S k (wsO_obj ho hc) q1 j q3 (C.2.2.2.2.2.1 _ q4) (fun _ h9 => h9) r4 r5 rfl rfl (by rw [fsO_len, ho]; exact (List.getElem?_eq_some_iff.mp hf).1) hd (fun H1 lo1 P1 D1 S1 => ?_)
  rw [wsO_sIf ho hc hf (Or.inl rfl)] at P1
  exact h p l e s m a b me c' G H1 lo1 rl C K P1 S1 L
theorem E_putZ {k c j idx d : Nat} {x : Int32} (hd : decode cc pc = .ok (.putfield idx, 3)) (ho : kd k = c) (hc : c < 8) (hf : (fl c)[j]? = some (2, d)) (hF : FdO own idx c j) (hp : FpO c j .boolean) (hx : x = 0 ∨ x = 1) (h : Ev cc nL rt own R (pc + 3) ls st (sI σ k j x) Q) : Ev cc nL rt own R pc ls (.int x :: .ref k :: st) σ Q := by
  intro p l e s m a b me c' G H lo rl C K P S L
  obtain ⟨q, q1, q2, q3, q4⟩ := hF
  obtain ⟨q', ty0, r1, r2, r3, r4, r5⟩ := hp
  cases q1.symm.trans r1
  rw [List.map_cons, List.map_cons, cv_cell (by omega)]
  refine va_put (Ts := Tg) (C := q.1) (T := q.2.1) (N := q.2.2) (v := .int x) (ty := .boolean) C.1 C.2.1 C.2.2.2.2.2.1 q2 ty0 r2 r3 C.2.2.2.2.1 K.1 P (K.D σ) S k (wsO_obj ho hc) q1 j q3 (C.2.2.2.2.2.1 _ q4) (fun _ h9 => h9) r4 r5 (by rcases hx with rfl | rfl <;> rfl) (by rcases hx with rfl | rfl <;> rfl) (by rw [fsO_len, ho]; exact (List.getElem?_eq_some_iff.mp hf).1) hd (fun H1 lo1 P1 D1 S1 => ?_)
  rw [wsO_sIf ho hc hf (Or.inr rfl)] at P1
  exact h p l e s m a b me c' G H1 lo1 rl C K P1 S1 L
theorem E_putL {k c j idx d : Nat} {x : Int64} (hd : decode cc pc = .ok (.putfield idx, 3)) (ho : kd k = c) (hc : c < 8) (hf : (fl c)[j]? = some (3, d)) (hF : FdO own idx c j) (hp : FpO c j .long) (h : Ev cc nL rt own R (pc + 3) ls st (sL σ k j x) Q) : Ev cc nL rt own R pc ls (.long x :: .ref k :: st) σ Q := by
  intro p l e s m a b me c' G H lo rl C K P S L
  obtain ⟨q, q1, q2, q3, q4⟩ := hF
  obtain ⟨q', ty0, r1, r2, r3, r4, r5⟩ := hp
  cases q1.symm.trans r1
  rw [List.map_cons, List.map_cons, cv_cell (by omega)]
  refine va_put (Ts := Tg) (C := q.1) (T := q.2.1) (N := q.2.2) (v := .long x) (ty := .long) C.1 C.2.1 C.2.2.2.2.2.1 q2 ty0 r2 r3 C.2.2.2.2.1 K.1 P (K.D σ) S k (wsO_obj ho hc) q1 j q3 (C.2.2.2.2.2.1 _ q4) (fun _ h9 => h9) r4 r5 rfl rfl (by rw [fsO_len, ho]; exact (List.getElem?_eq_some_iff.mp hf).1) hd (fun H1 lo1 P1 D1 S1 => ?_)
  rw [wsO_sLf ho hc hf rfl] at P1
  exact h p l e s m a b me c' G H1 lo1 rl C K P1 S1 L
theorem E_iald {k n : Nat} {i : Int32} (hd : decode cc pc = .ok (.iaload, 1)) (hk : kd k = 8) (hn : ln k = n) (hi : vp_in i n) (h : Ev cc nL rt own R (pc + 1) ls (.int (gI σ k i.toNatClampNeg) :: st) σ Q) : Ev cc nL rt own R pc ls (.int i :: .ref k :: st) σ Q := by
  intro p l e s m a b me c G H lo rl C K P S L
  rw [List.map_cons, List.map_cons, cv_cell (by omega)]
  exact va_iald C.1 C.2.1 K.1 P k 0 (wsO_int hk hn) rfl hi hd (h p l e s m a b me c G H lo rl C K P S L)
theorem E_lald {k n : Nat} {i : Int32} (hd : decode cc pc = .ok (.laload, 1)) (hk : kd k = 9) (hn : ln k = n) (hi : vp_in i n) (h : Ev cc nL rt own R (pc + 1) ls (.long (gL σ k i.toNatClampNeg) :: st) σ Q) : Ev cc nL rt own R pc ls (.int i :: .ref k :: st) σ Q := by
  intro p l e s m a b me c G H lo rl C K P S L
  rw [List.map_cons, List.map_cons, cv_cell (by omega)]
  exact va_lald C.1 C.2.1 K.1 P k 1 (wsO_long hk hn) rfl hi hd (h p l e s m a b me c G H lo rl C K P S L)
theorem E_zald {k n : Nat} {i : Int32} (hd : decode cc pc = .ok (.baload, 1)) (hk : kd k = 10) (hn : ln k = n) (hi : vp_in i n) (h : Ev cc nL rt own R (pc + 1) ls (.int (gI σ k i.toNatClampNeg) :: st) σ Q) : Ev cc nL rt own R pc ls (.int i :: .ref k :: st) σ Q := by
  intro p l e s m a b me c G H lo rl C K P S L
  rw [List.map_cons, List.map_cons, cv_cell (by omega)]
  exact va_zald C.1 C.2.1 K.1 P k 2 (wsO_bool hk hn) rfl hi hd (h p l e s m a b me c G H lo rl C K P S L)
theorem E_aald {k n : Nat} {i : Int32} (hd : decode cc pc = .ok (.aaload, 1)) (hk : kd k = 11) (hn : ln k = n) (hi : vp_in i n) (h9 : n < 100) (h : Ev cc nL rt own R (pc + 1) ls (.ref (k + 2 + 2 * i.toNatClampNeg) :: st) σ Q) : Ev cc nL rt own R pc ls (.int i :: .ref k :: st) σ Q := by
  intro p l e s m a b me c G H lo rl C K P S L
  rw [List.map_cons, List.map_cons, cv_cell (by omega)]
  have hlt : i.toNatClampNeg < n := Nat.not_le.mp fun q => hi (Or.inr q)
  have h' := h p l e s m a b me c G H lo rl C K P S L
  rw [List.map_cons, show cv G (.ref (k + 2 + 2 * i.toNatClampNeg)) = .ref (adO G (k + 2 + 2 * i.toNatClampNeg)) from cv_ref (by have := kd_lt (k := k) (by omega); omega)] at h'
  exact va_aldq C.1 C.2.1 K.1 P k 3 (wsO_sheets hk hn) rfl hi hd h'
theorem E_iast {k n : Nat} {i : Int32} {x : Int32} (hd : decode cc pc = .ok (.iastore, 1)) (hk : kd k = 8) (hn : ln k = n) (hi : vp_in i n) (h : Ev cc nL rt own R (pc + 1) ls st (sI σ k i.toNatClampNeg x) Q) : Ev cc nL rt own R pc ls (.int x :: .int i :: .ref k :: st) σ Q := by
  intro p l e s m a b me c G H lo rl C K P S L
  rw [List.map_cons, List.map_cons, List.map_cons, cv_cell (by omega)]
  refine va_iast C.1 C.2.1 K.1 P (K.D σ) S k 0 (wsO_int hk hn) rfl hi hd (fun H1 lo1 P1 D1 S1 => ?_)
  rw [wsO_sIa hk hn] at P1
  exact h p l e s m a b me c G H1 lo1 rl C K P1 S1 L
theorem E_last {k n : Nat} {i : Int32} {x : Int64} (hd : decode cc pc = .ok (.lastore, 1)) (hk : kd k = 9) (hn : ln k = n) (hi : vp_in i n) (h : Ev cc nL rt own R (pc + 1) ls st (sL σ k i.toNatClampNeg x) Q) : Ev cc nL rt own R pc ls (.long x :: .int i :: .ref k :: st) σ Q := by
  intro p l e s m a b me c G H lo rl C K P S L
  rw [List.map_cons, List.map_cons, List.map_cons, cv_cell (by omega)]
  refine va_last C.1 C.2.1 K.1 P (K.D σ) S k 1 (wsO_long hk hn) rfl hi hd (fun H1 lo1 P1 D1 S1 => ?_)
  rw [wsO_sLa hk hn] at P1
  exact h p l e s m a b me c G H1 lo1 rl C K P1 S1 L
theorem E_zast {k n : Nat} {i : Int32} {x : Int32} (hd : decode cc pc = .ok (.bastore, 1)) (hk : kd k = 10) (hn : ln k = n) (hi : vp_in i n) (hx : x = 0 ∨ x = 1) (h : Ev cc nL rt own R (pc + 1) ls st (sI σ k i.toNatClampNeg x) Q) : Ev cc nL rt own R pc ls (.int x :: .int i :: .ref k :: st) σ Q := by
  intro p l e s m a b me c G H lo rl C K P S L
  rw [List.map_cons, List.map_cons, List.map_cons, cv_cell (by omega)]
  refine va_zast C.1 C.2.1 K.1 P (K.D σ) S k 2 (wsO_bool hk hn) rfl hi hd (fun H1 lo1 P1 D1 S1 => ?_)
  rw [show vp_nar .boolean x = x by rcases hx with rfl | rfl <;> decide] at P1
  rw [wsO_sIz hk hn] at P1
  exact h p l e s m a b me c G H1 lo1 rl C K P1 S1 L
theorem E_alenI {k n : Nat} {v : Int32} (hd : decode cc pc = .ok (.arraylength, 1)) (hk : kd k = 8) (hn : ln k = n) (hv : Int32.ofNat n = v) (h : Ev cc nL rt own R (pc + 1) ls (.int v :: st) σ Q) : Ev cc nL rt own R pc ls (.ref k :: st) σ Q := by
  intro p l e s m a b me c G H lo rl C K P S L
  rw [List.map_cons, cv_cell (by omega)]
  exact va_alen C.1 C.2.1 K.1 P k 0 (wsO_int hk hn) rfl hv hd (h p l e s m a b me c G H lo rl C K P S L)
theorem E_alenL {k n : Nat} {v : Int32} (hd : decode cc pc = .ok (.arraylength, 1)) (hk : kd k = 9) (hn : ln k = n) (hv : Int32.ofNat n = v) (h : Ev cc nL rt own R (pc + 1) ls (.int v :: st) σ Q) : Ev cc nL rt own R pc ls (.ref k :: st) σ Q := by
  intro p l e s m a b me c G H lo rl C K P S L
  rw [List.map_cons, cv_cell (by omega)]
  exact va_alen C.1 C.2.1 K.1 P k 1 (wsO_long hk hn) rfl hv hd (h p l e s m a b me c G H lo rl C K P S L)
/-- the table ABOVE, the texts -/
theorem E_above {idx : Nat} (hd : decode cc pc = .ok (.getstatic idx, 3)) (hw : Cond.fieldLink own idx "WallDown" "ABOVE" "[I" ∈ Tg) (h : Ev cc nL rt own R (pc + 3) ls (.ref 200 :: st) σ Q) : Ev cc nL rt own R pc ls st σ Q :=
  fun p l e s m a b me c G H lo rl C K P S L => va_gets C.1 C.2.1 K.2.2.2.1 S C.2.2.2.2.1 (C.2.2.2.2.2.1 _ hw) (fun _ h => h) hd (h p l e s m a b me c G H lo rl C K P S L)
theorem E_aboveAt {i : Int32} (hd : decode cc pc = .ok (.iaload, 1)) (hi : vp_in i 6) (h : Ev cc nL rt own R (pc + 1) ls (.int (aboveL.getD i.toNatClampNeg 0) :: st) σ Q) : Ev cc nL rt own R pc ls (.int i :: .ref 200 :: st) σ Q :=
  fun p l e s m a b me c G H lo rl C K P S L => va_ti C.1 C.2.1 K.2.2.2.2.1 S hi rfl hd (h p l e s m a b me c G H lo rl C K P S L)
theorem E_compact {idx : Nat} (hd : decode cc pc = .ok (.getstatic idx, 3)) (hw : Cond.fieldLink own idx "java/lang/String" "COMPACT_STRINGS" "Z" ∈ Tg) (h : Ev cc nL rt own R (pc + 3) ls (.int 1 :: st) σ Q) : Ev cc nL rt own R pc ls st σ Q :=
  fun p l e s m a b me c G H lo rl C K P S L => va_gets C.1 C.2.1 K.2.2.2.2.2.1 S C.2.2.2.2.1 (C.2.2.2.2.2.1 _ hw) (fun _ h => h) hd (h p l e s m a b me c G H lo rl C K P S L)
theorem E_ldcS {idx i : Nat} (hd : decode cc pc = .ok (.ldc idx, 2)) (ho : own = "WallDown$Teller") (hi : i < stN) (hx : (stL.getD i (0, "", [])).1 = idx) (h : Ev cc nL rt own R (pc + 2) ls (.ref (300 + i) :: st) σ Q) : Ev cc nL rt own R pc ls st σ Q := by
  intro p l e s m a b me c G H lo rl C K P S L
  have h' := h p l e s m a b me c G H lo rl C K P S L
  rw [List.map_cons, show cv G (.ref (300 + i)) = .ref (adO G (300 + i)) from cv_ref (by have : stN = 14 := rfl; omega)] at h'
  subst ho
  subst hx
  exact va_ldcS C.1 C.2.1 C.2.2.2.2.1 (K.2.2.2.2.2.2.2 i hi) hd h'
theorem E_strCoder {idx i : Nat} (hd : decode cc pc = .ok (.getfield idx, 3)) (hi : i < stN) (hw : Cond.fieldLink own idx "java/lang/String" "coder" "B" ∈ Tg) (h : Ev cc nL rt own R (pc + 3) ls (.int 0 :: st) σ Q) : Ev cc nL rt own R pc ls (.ref (300 + i) :: st) σ Q := by
  intro p l e s m a b me c G H lo rl C K P S L
  rw [List.map_cons, show cv G (.ref (300 + i)) = .ref (adO G (300 + i)) from cv_ref (by have : stN = 14 := rfl; omega)]
  exact vk_getf C.1 C.2.1 (K.2.2.2.2.2.2.1.1 i hi).2.1 S C.2.2.2.2.1 (C.2.2.2.2.2.1 _ hw) (fun _ h => h) hd (h p l e s m a b me c G H lo rl C K P S L)
theorem E_strValue {idx i : Nat} (hd : decode cc pc = .ok (.getfield idx, 3)) (hi : i < stN) (hw : Cond.fieldLink own idx "java/lang/String" "value" "[B" ∈ Tg) (h : Ev cc nL rt own R (pc + 3) ls (.ref (400 + i) :: st) σ Q) : Ev cc nL rt own R pc ls (.ref (300 + i) :: st) σ Q := by
  intro p l e s m a b me c G H lo rl C K P S L
  have h' := h p l e s m a b me c G H lo rl C K P S L
  rw [List.map_cons, show cv G (.ref (400 + i)) = .ref (adO G (400 + i)) from cv_ref (by have : stN = 14 := rfl; omega)] at h'
  rw [List.map_cons, show cv G (.ref (300 + i)) = .ref (adO G (300 + i)) from cv_ref (by have : stN = 14 := rfl; omega)]
  exact vk_getf C.1 C.2.1 (K.2.2.2.2.2.2.1.1 i hi).2.2.1 S C.2.2.2.2.1 (C.2.2.2.2.2.1 _ hw) (fun _ h => h) hd h'
theorem E_strAt {i : Nat} {k : Int32} (hd : decode cc pc = .ok (.baload, 1)) (hi : i < stN) (hk : vp_in k (stLen.getD i 0)) (h : Ev cc nL rt own R (pc + 1) ls (.int ((stByt.getD i []).getD k.toNatClampNeg 0) :: st) σ Q) : Ev cc nL rt own R pc ls (.int k :: .ref (400 + i) :: st) σ Q := by
  intro p l e s m a b me c G H lo rl C K P S L
  rw [List.map_cons, List.map_cons, show cv G (.ref (400 + i)) = .ref (adO G (400 + i)) from cv_ref (by have : stN = 14 := rfl; omega)]
  exact va_tb C.1 C.2.1 (K.2.2.2.2.2.2.1.1 i hi).2.2.2 S hk rfl hd (h p l e s m a b me c G H lo rl C K P S L)
theorem E_strLen {i : Nat} {v : Int32} (hd : decode cc pc = .ok (.arraylength, 1)) (hi : i < stN) (hv : Int32.ofNat (stLen.getD i 0) = v) (h : Ev cc nL rt own R (pc + 1) ls (.int v :: st) σ Q) : Ev cc nL rt own R pc ls (.ref (400 + i) :: st) σ Q := by
  intro p l e s m a b me c G H lo rl C K P S L
  rw [List.map_cons, show cv G (.ref (400 + i)) = .ref (adO G (400 + i)) from cv_ref (by have : stN = 14 := rfl; omega)]
  exact va_tlen C.1 C.2.1 (K.2.2.2.2.2.2.1.1 i hi).2.2.2 S hv hd (h p l e s m a b me c G H lo rl C K P S L)
theorem E_cpI {k d n1 n2 idx : Nat} {i j n : Int32} (hd : decode cc pc = .ok (.invokestatic idx, 3)) (hw : Cond.methodLink own idx arraycopyName ∈ Tg) (hw2 : Cond.native arraycopyName ∈ Tg) (hw3 : Cond.static arraycopyName ∈ Tg) (hw4 : Cond.initialized "java/lang/System" ∈ Tg) (hk : kd k = 8) (hn1 : ln k = n1) (hk2 : kd d = 8) (hn2 : ln d = n2) (hR : 1 ≤ R.frames ∧ (st.map fun v => v.category).sum + 18 ≤ R.locals)
    (h1 : ¬ i < 0) (h2 : ¬ j < 0) (h3 : ¬ n < 0) (h4 : i.toNatClampNeg + n.toNatClampNeg ≤ n1) (h5 : j.toNatClampNeg + n.toNatClampNeg ≤ n2) (h : Ev cc nL rt own R (pc + 3) ls st (cI σ k i.toNatClampNeg d j.toNatClampNeg n.toNatClampNeg) Q) : Ev cc nL rt own R pc ls (.int n :: .int j :: .ref d :: .int i :: .ref k :: st) σ Q := by
  intro p l e s m a b me c G H lo rl C K P S L
  simp only [List.map_cons, cv_cell (G := G) (k := k) (by omega), cv_cell (G := G) (k := d) (by omega)]
  refine va_copyi C.1 C.2.1 (by rw [C.2.2.2.1]; exact L.1.symm) C.2.2.2.2.1 (C.2.2.2.2.2.1 _ hw) (C.2.2.2.2.2.1 _ hw2) (C.2.2.2.2.2.1 _ hw3) (C.2.2.2.2.2.1 _ hw4) K.1 P (K.D σ) S k d 0 0 (wsO_int hk hn1) (wsO_int hk2 hn2) rfl rfl rfl h1 h2 h3 h4 h5 (fun _ _ => rfl) hR.1 ?_ hd (fun H1 lo1 P1 D1 S1 => ?_)
  · have e1 : (nativeFrameWords "java/lang/System" "arraycopy" 5 + 11) = 18 := by decide
    have e2 : ((st.map (cv G)).map fun v => v.category) = st.map fun v => v.category := by rw [List.map_map]; exact List.map_congr_left (fun v _ => cv_cat G v)
    rw [e1, e2]
    exact hR.2
  · rw [wsO_cIa hk2 hn2] at P1
    exact h p l e s m a b me c G H1 lo1 rl C K P1 S1 L
theorem E_cpL {k d n1 n2 idx : Nat} {i j n : Int32} (hd : decode cc pc = .ok (.invokestatic idx, 3)) (hw : Cond.methodLink own idx arraycopyName ∈ Tg) (hw2 : Cond.native arraycopyName ∈ Tg) (hw3 : Cond.static arraycopyName ∈ Tg) (hw4 : Cond.initialized "java/lang/System" ∈ Tg) (hk : kd k = 9) (hn1 : ln k = n1) (hk2 : kd d = 9) (hn2 : ln d = n2) (hR : 1 ≤ R.frames ∧ (st.map fun v => v.category).sum + 18 ≤ R.locals)
    (h1 : ¬ i < 0) (h2 : ¬ j < 0) (h3 : ¬ n < 0) (h4 : i.toNatClampNeg + n.toNatClampNeg ≤ n1) (h5 : j.toNatClampNeg + n.toNatClampNeg ≤ n2) (h : Ev cc nL rt own R (pc + 3) ls st (cL σ k i.toNatClampNeg d j.toNatClampNeg n.toNatClampNeg) Q) : Ev cc nL rt own R pc ls (.int n :: .int j :: .ref d :: .int i :: .ref k :: st) σ Q := by
  intro p l e s m a b me c G H lo rl C K P S L
  simp only [List.map_cons, cv_cell (G := G) (k := k) (by omega), cv_cell (G := G) (k := d) (by omega)]
  refine va_copyl C.1 C.2.1 (by rw [C.2.2.2.1]; exact L.1.symm) C.2.2.2.2.1 (C.2.2.2.2.2.1 _ hw) (C.2.2.2.2.2.1 _ hw2) (C.2.2.2.2.2.1 _ hw3) (C.2.2.2.2.2.1 _ hw4) K.1 P (K.D σ) S k d 1 1 (wsO_long hk hn1) (wsO_long hk2 hn2) rfl rfl rfl h1 h2 h3 h4 h5 (fun _ _ => rfl) hR.1 ?_ hd (fun H1 lo1 P1 D1 S1 => ?_)
  · have e1 : (nativeFrameWords "java/lang/System" "arraycopy" 5 + 11) = 18 := by decide
    have e2 : ((st.map (cv G)).map fun v => v.category) = st.map fun v => v.category := by rw [List.map_map]; exact List.map_congr_left (fun v _ => cv_cat G v)
    rw [e1, e2]
    exact hR.2
  · rw [wsO_cLa hk2 hn2] at P1
    exact h p l e s m a b me c G H1 lo1 rl C K P1 S1 L
/-- what a call of y asks of the tables -/
def ClO (own : String) (idx : Nat) (y : MethodName) (cc' : ByteArray) (nL' : Nat) (rt' : Option FieldType) (n : Nat) : Prop := Cond.methodLink own idx y ∈ Tg ∧ Cond.initialized y.cls ∈ Tg ∧ Cond.code y cc' nL' rt' ∈ Tg ∧ (y.cls ≠ "java/lang/invoke/MethodHandle" ∧ y.cls ≠ "java/lang/invoke/VarHandle" ∧ (parseMethodDescriptor y.desc).map (fun d => d.parameters.length) = some n)
def RmO (R' R : Room) (nL' : Nat) : Prop := R'.cells = 0 ∧ R'.slots = 0 ∧ R'.frames + 1 ≤ R.frames ∧ 8 + (nL' + 11) + R'.locals ≤ R.locals
theorem E_cont {p : Program} {l : Launch} {e : Env} {s : State} {m : MethodId} {args : Array Value} {below : List Frame} {meth : Method} {c : Code} {G : Gx} {H : Heap} {locs : List Loc} {rl : Array Slot} {st0 : List Value} {Q' : Option Value → St → Prop} {a1 : Array Value} {rest : List Value}
    (hr : va_Run p l e R s m args below meth c H locs 0 0 0 0 (F0 m pc rl st0) (rest.map (cv G)) (QcO G Q' a1) (Aw G))
    (C : CxO p s m args meth c cc nL rt own) (K : Kx G s) (S : va_S (Aw G) s.heap H locs) (L : lvO G rl nL ls)
    (h : ∀ r σ1, Q' r σ1 → Ev cc nL rt own R (pc + 3) ls (r.toList ++ rest) σ1 Q) : W p l e R s m args below meth c H locs 0 0 (MQ below (QcO G Q) args s 0 0 (Aw G)) (F0 m pc rl st0) := by
  intro T hT X
  obtain ⟨v, st₀, t, T', L1, h0, X', hL, e1, e2, ⟨⟨r, σ1, hv, hq, hP⟩, hz, hk⟩, go⟩ := hr T hT X
  cases hv
  rw [h0] at hz hk
  have S1 : va_S (Aw G) s.heap T'.heap (locs ++ L1) := ⟨Nat.le_trans S.1 (by rw [e1]; exact hz), fun q g1 g2 => by rw [e1, hk q (Nat.lt_of_lt_of_le g1 S.1) g2]; exact S.2.1 q g1 g2, fun q hq => by
      rcases List.mem_append.mp hq with z | z
      · exact S.2.2 q z
      · exact hL q z⟩
  have h' := h r σ1 hq p l e s m args below meth c G T'.heap (locs ++ L1) rl C K (by rw [e1]; exact hP) S1 L
  have es : (r.toList ++ rest).map (cv G) = (r.map (cv G)).toList ++ rest.map (cv G) := by cases r <;> simp
  rw [es] at h'
  obtain ⟨t2, a2, b2⟩ := h' T' rfl X'
  exact ⟨t2, go t2 a2, b2⟩
theorem cat_le {G : Gx} {m : MethodId} {rl : Array Slot} {s0 rest : List Value} (h : (rest.map fun v => v.category).sum ≤ 8) : 2 * (F0 m pc rl s0).monitorRoom + ((rest.map (cv G)).map fun v => v.category).sum ≤ 8 := by
  have e2 : ((rest.map (cv G)).map fun v => v.category) = rest.map fun v => v.category := by rw [List.map_map]; exact List.map_congr_left (fun v _ => cv_cat G v)
  rw [e2]
  exact lv_room (m := m) (pc := pc) (ls := rl) (rest := s0) h
theorem tg_all {args : Array Value} {s : State} (ht : ∀ w ∈ Tg, w.before args s = true) : ∀ w ∈ Tg, ∀ (a' : Array Value) (U : State), s.WarmedH U.vm → w.before a' U = true := fun w hw a' U hW => word_at hW (tg_good w hw) (ht w hw)
theorem E_callS {y : MethodName} {cc' : ByteArray} {nL' n idx : Nat} {rt' : Option FieldType} {R' : Room} {As rest s0 : List Value} {Q' : Option Value → St → Prop} (hd : decode cc pc = .ok (.invokestatic idx, 3)) (hC : ClO own idx y cc' nL' rt' n) (hs : Cond.static y ∈ Tg) (hR : RmO R' R nL') (hn : As.length = n) (h0 : As.reverse ++ rest = s0) (h8 : (rest.map fun v => v.category).sum ≤ 8)
    (hM : Mt y cc' nL' rt' R' As σ Q') (h : ∀ r σ1, Q' r σ1 → Ev cc nL rt own R (pc + 3) ls (r.toList ++ rest) σ1 Q) : Ev cc nL rt own R pc ls s0 σ Q := by
  intro p l e s m a b me c G H lo rl C K P S L
  subst h0
  obtain ⟨w1, w2, w3, w4, w5, w6⟩ := hC
  have hT := C.2.2.2.2.2.1
  refine E_cont (va_runS (As := As.map (cv G)) (rest := rest.map (cv G)) (Ts := Tg) (own := own) (nL := nL) (cc := cc) (n := n) ⟨C.1, C.2.1, C.2.2.2.1, C.2.2.2.2.1, hT⟩ (hM l G) ⟨⟨hR.1, hR.2.1, hR.2.2.1, hR.2.2.2, fun w hw => (List.mem_cons.mp hw).elim (fun z => by rw [z]; exact tg_all hT _ w3) (fun z => tg_all hT w z), List.mem_cons_self, hT _ w3, hT _ w2, ⟨w4, w5⟩, fun sig z => ?_, hT _ w1⟩, hT _ hs⟩
    ⟨fun a' U g mk q => ⟨q.1, q.2.1, q.2.2.blind g mk a'⟩, fun U hU hW => ⟨rfl, by rw [hU]; exact P, K.to S hU hW⟩⟩ rfl (by simpa using hn) L.1 (by simp) (cat_le h8) hd ⟨Nat.zero_le _, Nat.zero_le _⟩) C K S L h
  rw [z] at w6
  exact (Option.some.inj w6).symm
theorem E_callV {y : MethodName} {cc' : ByteArray} {nL' n idx k ci : Nat} {rt' : Option FieldType} {R' : Room} {As rest s0 : List Value} {Q' : Option Value → St → Prop} {Cn : vw_C} (hd : decode cc pc = .ok (.invokevirtual idx, 3)) (hC : ClO own idx y cc' nL' rt' n) (hi : Cond.instanceMethod y ∈ Tg) (hk : kd k = ci) (h8c : ci < 8) (hcl : clsL[ci]? = some Cn) (hs : Cond.selects Cn.1 y y ∈ Tg) (hR : RmO R' R nL') (hn : As.length = n) (h0 : As.reverse ++ .ref k :: rest = s0) (h8 : (rest.map fun v => v.category).sum ≤ 8)
    (hM : Mt y cc' nL' rt' R' (.ref k :: As) σ Q') (h : ∀ r σ1, Q' r σ1 → Ev cc nL rt own R (pc + 3) ls (r.toList ++ rest) σ1 Q) : Ev cc nL rt own R pc ls s0 σ Q := by
  intro p l e s m a b me c G H lo rl C K P S L
  subst h0
  obtain ⟨w1, w2, w3, w4, w5, w6⟩ := hC
  have hT := C.2.2.2.2.2.1
  have hM1 := hM l G
  simp only [List.map_cons, cv_cell (G := G) (k := k) (by omega)] at hM1
  refine E_cont (a1 := (Value.ref (adO G k) :: As.map (cv G)).toArray) (va_runV (C := Cn.1) (b := adO G k) (As := As.map (cv G)) (rest := rest.map (cv G)) (Ts := Tg) (own := own) (nL := nL) (cc := cc) (n := n) ⟨C.1, C.2.1, C.2.2.2.1, C.2.2.2.2.1, hT⟩ hM1 ⟨⟨hR.1, hR.2.1, hR.2.2.1, hR.2.2.2, fun w hw => (List.mem_cons.mp hw).elim (fun z => by rw [z]; exact tg_all hT _ w3) (fun z => tg_all hT w z), List.mem_cons_self, hT _ w3, hT _ w2, ⟨w4, w5⟩, fun sig z => ?_, hT _ w1⟩, hT _ hi, hT _ hs⟩
    ⟨fun a' U g mk q => ⟨q.1, q.2.1, q.2.2.blind g mk a'⟩, va_recv K.1 P (ci := ci) (q0 := k) hcl (wsO_obj hk h8c), fun U hU hW => ⟨rfl, by rw [hU]; exact P, K.to S hU hW⟩⟩ rfl (by simpa using hn) L.1 (by simp [cv_cell (G := G) (k := k) (by omega)]) (cat_le h8) hd ⟨Nat.zero_le _, Nat.zero_le _⟩) C K S L h
  rw [z] at w6
  exact (Option.some.inj w6).symm
/-- a call on a text -/
theorem E_callT {y : MethodName} {cc' : ByteArray} {nL' n idx i : Nat} {rt' : Option FieldType} {R' : Room} {As rest s0 : List Value} {Q' : Option Value → St → Prop} (hd : decode cc pc = .ok (.invokevirtual idx, 3)) (hC : ClO own idx y cc' nL' rt' n) (hin : Cond.instanceMethod y ∈ Tg) (hi : i < stN) (hs : Cond.selects "java/lang/String" y y ∈ Tg) (hR : RmO R' R nL') (hn : As.length = n) (h0 : As.reverse ++ .ref (300 + i) :: rest = s0) (h8 : (rest.map fun v => v.category).sum ≤ 8)
    (hM : Mt y cc' nL' rt' R' (.ref (300 + i) :: As) σ Q') (h : ∀ r σ1, Q' r σ1 → Ev cc nL rt own R (pc + 3) ls (r.toList ++ rest) σ1 Q) : Ev cc nL rt own R pc ls s0 σ Q := by
  intro p l e s m a b me c G H lo rl C K P S L
  subst h0
  obtain ⟨w1, w2, w3, w4, w5, w6⟩ := hC
  have hT := C.2.2.2.2.2.1
  have ev : cv G (.ref (300 + i)) = .ref (adO G (300 + i))   := cv_ref (by have : stN = 14 := rfl; omega)
  have hM1 := hM l G
  simp only [List.map_cons, ev] at hM1
  refine E_cont (a1 := (Value.ref (adO G (300 + i)) :: As.map (cv G)).toArray) (va_runV (C := "java/lang/String") (b := adO G (300 + i)) (As := As.map (cv G)) (rest := rest.map (cv G)) (Ts := Tg) (own := own) (nL := nL) (cc := cc) (n := n) ⟨C.1, C.2.1, C.2.2.2.1, C.2.2.2.2.1, hT⟩ hM1 ⟨⟨hR.1, hR.2.1, hR.2.2.1, hR.2.2.2, fun w hw => (List.mem_cons.mp hw).elim (fun z => by rw [z]; exact tg_all hT _ w3) (fun z => tg_all hT w z), List.mem_cons_self, hT _ w3, hT _ w2, ⟨w4, w5⟩, fun sig z => ?_, hT _ w1⟩, hT _ hin, hT _ hs⟩
    ⟨fun a' U g mk q => ⟨q.1, q.2.1, q.2.2.blind g mk a'⟩, vk_recv (i := i) (adK := fun i => adO G (300 + i)) K.2.2.2.2.2.2.1 hi S, fun U hU hW => ⟨rfl, by rw [hU]; exact P, K.to S hU hW⟩⟩ rfl (by simpa using hn) L.1 (by simp [ev]) (cat_le h8) hd ⟨Nat.zero_le _, Nat.zero_le _⟩) C K S L h
  rw [z] at w6
  exact (Option.some.inj w6).symm
/-- WallDown.isWithin out of WallDown$Tape: a nest mate's -/
theorem E_callN {cc' : ByteArray} {nL' n : Nat} {rt' : Option FieldType} {R' : Room} {As rest s0 : List Value} {Q' : Option Value → St → Prop} (ho : own = "WallDown$Tape") (hd : decode cc pc = .ok (.invokestatic 53, 3)) (w2 : Cond.initialized yX6_isWithin.cls ∈ Tg) (w3 : Cond.code yX6_isWithin cc' nL' rt' ∈ Tg) (w4 : yX6_isWithin.cls ≠ "java/lang/invoke/MethodHandle" ∧ yX6_isWithin.cls ≠ "java/lang/invoke/VarHandle" ∧ (parseMethodDescriptor yX6_isWithin.desc).map (fun d => d.parameters.length) = some n) (hs : Cond.static yX6_isWithin ∈ Tg) (hR : RmO R' R nL') (hn : As.length = n) (h0 : As.reverse ++ rest = s0) (h8 : (rest.map fun v => v.category).sum ≤ 8)
    (hM : Mt yX6_isWithin cc' nL' rt' R' As σ Q') (h : ∀ r σ1, Q' r σ1 → Ev cc nL rt own R (pc + 3) ls (r.toList ++ rest) σ1 Q) : Ev cc nL rt own R pc ls s0 σ Q := by
  intro p l e s m a b me c G H lo rl C K P S L
  subst h0
  subst ho
  have hT := C.2.2.2.2.2.1
  refine E_cont (va_runSN (As := As.map (cv G)) (rest := rest.map (cv G)) (Ts := Tg) (own := "WallDown$Tape") (nL := nL) (cc := cc) (n := n) ⟨C.1, C.2.1, C.2.2.2.1, C.2.2.2.2.1, hT⟩ (hM l G) ⟨⟨⟨hR.1, hR.2.1, hR.2.2.1, hR.2.2.2, fun w hw => (List.mem_cons.mp hw).elim (fun z => by rw [z]; exact tg_all hT _ w3) (fun z => tg_all hT w z), List.mem_cons_self⟩, hT _ w3, hT _ w2, ⟨w4.1, w4.2.1⟩, fun sig z => ?_, va_Nw.use rfl K.2.2.1⟩, hT _ hs, trivial⟩
    ⟨fun a' U g mk q => ⟨q.1, q.2.1, q.2.2.blind g mk a'⟩, fun U hU hW => ⟨rfl, by rw [hU]; exact P, K.to S hU hW⟩⟩ rfl (by simpa using hn) L.1 (by simp) (cat_le h8) hd ⟨Nat.zero_le _, Nat.zero_le _⟩) C K S L h
  have w6 := w4.2.2
  rw [z] at w6
  exact (Option.some.inj w6).symm
/-- ends -/
theorem E_iret {x : Int32} (hd : decode cc pc = .ok (.ireturn, 1)) (hr : rt = some .int) (h : Q (some (.int x)) σ) : Ev cc nL rt own R pc ls [.int x] σ Q :=
  fun p l e s m a b me c G H lo rl C K P S L => W.iret (v := x) C.1 C.2.1 (C.2.2.1.trans hr) (fun t ht hW => ⟨⟨some (.int x), σ, rfl, h, by rw [ht]; exact P⟩, S.F ht⟩) S.2.2 hd C.2.2.2.2.2.2
theorem E_nret {x : Int32} {ty : FieldType} (hd : decode cc pc = .ok (.ireturn, 1)) (hr : rt = some ty) (hx : narrow ty (.int x) = .int x) (h : Q (some (.int x)) σ) : Ev cc nL rt own R pc ls [.int x] σ Q :=
  fun p l e s m a b me c G H lo rl C K P S L => W.zret (v := x) C.1 C.2.1 (C.2.2.1.trans hr) hx (fun t ht hW => ⟨⟨some (.int x), σ, rfl, h, by rw [ht]; exact P⟩, S.F ht⟩) S.2.2 hd C.2.2.2.2.2.2
theorem E_lret {x : Int64} (hd : decode cc pc = .ok (.lreturn, 1)) (hr : rt = some .long) (h : Q (some (.long x)) σ) : Ev cc nL rt own R pc ls [.long x] σ Q :=
  fun p l e s m a b me c G H lo rl C K P S L => W.lret (v := x) C.1 C.2.1 (C.2.2.1.trans hr) (fun t ht hW => ⟨⟨some (.long x), σ, rfl, h, by rw [ht]; exact P⟩, S.F ht⟩) S.2.2 hd C.2.2.2.2.2.2
theorem E_vret (hd : decode cc pc = .ok (.return_, 1)) (hr : rt = none) (h : Q none σ) : Ev cc nL rt own R pc ls [] σ Q :=
  fun p l e s m a b me c G H lo rl C K P S L => W.vret C.1 C.2.1 (C.2.2.1.trans hr) (fun t ht hW => ⟨⟨none, σ, rfl, h, by rw [ht]; exact P⟩, S.F ht⟩) S.2.2 hd C.2.2.2.2.2.2
theorem E_aret {x : Nat} {n : String} (hd : decode cc pc = .ok (.areturn, 1)) (hr : rt = some (.object n)) (h : Q (some (.ref x)) σ) : Ev cc nL rt own R pc ls [.ref x] σ Q :=
  fun p l e s m a b me c G H lo rl C K P S L => W.aret (v := cv G (.ref x)) C.1 C.2.1 (C.2.2.1.trans hr) (Or.inl ⟨n, rfl⟩) (by by_cases z : x = 999; exact Or.inl (if_pos z); exact Or.inr ⟨_, if_neg z⟩) (fun t ht hW => ⟨⟨some (.ref x), σ, rfl, h, by rw [ht]; exact P⟩, S.F ht⟩) S.2.2 hd C.2.2.2.2.2.2
end EH
/-- answers by their kinds -/
def qI (Q : Int32 → St → Prop) : Option Value → St → Prop := fun r σ => ∃ x, r = some (.int x) ∧ Q x σ
def qL (Q : Int64 → St → Prop) : Option Value → St → Prop := fun r σ => ∃ x, r = some (.long x) ∧ Q x σ
def qV (Q : St → Prop) : Option Value → St → Prop := fun r σ => r = none ∧ Q σ
def qR (Q : Nat → St → Prop) : Option Value → St → Prop := fun r σ => ∃ x, r = some (.ref x) ∧ Q x σ
end
