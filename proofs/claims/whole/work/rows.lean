section
-- ===== PART A: goes FIRST, ahead of the names: the tables' words, and 'selects' of the private methods out of them =====
/-- a private method of a class that the tables say can be made, by its rows of tables_1 -/
def lw_okq (q : MethodName × Nat) : Prop := (q.1.cls ≠ "java/lang/invoke/MethodHandle" ∧ q.1.cls ≠ "java/lang/invoke/VarHandle") ∧ Cond.instantiable q.1.cls q.2 ∈ tables_1 ∧ Cond.privateMethod q.1 ∈ tables_1 ∧ Cond.instanceMethod q.1 ∈ tables_1
theorem lw_p0 : lw_okq (⟨"WallDown", "finding", "(I)I"⟩, 9) := ⟨⟨by decide +kernel, by decide +kernel⟩, List.mem_of_getElem? (i := 17) (by decide +kernel), List.mem_of_getElem? (i := 237) (by decide +kernel), List.mem_of_getElem? (i := 238) (by decide +kernel)⟩
theorem lw_p1 : lw_okq (⟨"WallDown", "isStone", "(II)Z"⟩, 9) := ⟨⟨by decide +kernel, by decide +kernel⟩, List.mem_of_getElem? (i := 17) (by decide +kernel), List.mem_of_getElem? (i := 276) (by decide +kernel), List.mem_of_getElem? (i := 277) (by decide +kernel)⟩
theorem lw_p2 : lw_okq (⟨"WallDown", "mayGoAsLowest", "(II)Z"⟩, 9) := ⟨⟨by decide +kernel, by decide +kernel⟩, List.mem_of_getElem? (i := 17) (by decide +kernel), List.mem_of_getElem? (i := 283) (by decide +kernel), List.mem_of_getElem? (i := 284) (by decide +kernel)⟩
theorem lw_p3 : lw_okq (⟨"WallDown", "isStand", "(I)Z"⟩, 9) := ⟨⟨by decide +kernel, by decide +kernel⟩, List.mem_of_getElem? (i := 17) (by decide +kernel), List.mem_of_getElem? (i := 410) (by decide +kernel), List.mem_of_getElem? (i := 411) (by decide +kernel)⟩
theorem lw_p4 : lw_okq (⟨"WallDown", "canBe", "(LWallDown$House;I)Z"⟩, 9) := ⟨⟨by decide +kernel, by decide +kernel⟩, List.mem_of_getElem? (i := 17) (by decide +kernel), List.mem_of_getElem? (i := 417) (by decide +kernel), List.mem_of_getElem? (i := 418) (by decide +kernel)⟩
theorem lw_p5 : lw_okq (⟨"WallDown", "standsOf", "(LWallDown$House;)I"⟩, 9) := ⟨⟨by decide +kernel, by decide +kernel⟩, List.mem_of_getElem? (i := 17) (by decide +kernel), List.mem_of_getElem? (i := 421) (by decide +kernel), List.mem_of_getElem? (i := 422) (by decide +kernel)⟩
theorem lw_p6 : lw_okq (⟨"WallDown", "leastSlack", "(I)I"⟩, 9) := ⟨⟨by decide +kernel, by decide +kernel⟩, List.mem_of_getElem? (i := 17) (by decide +kernel), List.mem_of_getElem? (i := 493) (by decide +kernel), List.mem_of_getElem? (i := 494) (by decide +kernel)⟩
theorem lw_p7 : lw_okq (⟨"WallDown", "bestStand", "(I)I"⟩, 9) := ⟨⟨by decide +kernel, by decide +kernel⟩, List.mem_of_getElem? (i := 17) (by decide +kernel), List.mem_of_getElem? (i := 505) (by decide +kernel), List.mem_of_getElem? (i := 506) (by decide +kernel)⟩
theorem lw_p8 : lw_okq (⟨"WallDown$Tape", "isLetter", "(I)Z"⟩, 6) := ⟨⟨by decide +kernel, by decide +kernel⟩, List.mem_of_getElem? (i := 127) (by decide +kernel), List.mem_of_getElem? (i := 592) (by decide +kernel), List.mem_of_getElem? (i := 593) (by decide +kernel)⟩
theorem lw_p9 : lw_okq (⟨"WallDown$Tape", "skipLetters", "()V"⟩, 6) := ⟨⟨by decide +kernel, by decide +kernel⟩, List.mem_of_getElem? (i := 127) (by decide +kernel), List.mem_of_getElem? (i := 597) (by decide +kernel), List.mem_of_getElem? (i := 598) (by decide +kernel)⟩
theorem lw_p10 : lw_okq (⟨"WallDown$Tape", "isDigit", "(I)Z"⟩, 6) := ⟨⟨by decide +kernel, by decide +kernel⟩, List.mem_of_getElem? (i := 127) (by decide +kernel), List.mem_of_getElem? (i := 601) (by decide +kernel), List.mem_of_getElem? (i := 602) (by decide +kernel)⟩
theorem lw_p11 : lw_okq (⟨"WallDown$Tape", "skipDigits", "()V"⟩, 6) := ⟨⟨by decide +kernel, by decide +kernel⟩, List.mem_of_getElem? (i := 127) (by decide +kernel), List.mem_of_getElem? (i := 605) (by decide +kernel), List.mem_of_getElem? (i := 606) (by decide +kernel)⟩
theorem lw_p12 : lw_okq (⟨"WallDown$Teller", "tellItem", "()Z"⟩, 3) := ⟨⟨by decide +kernel, by decide +kernel⟩, List.mem_of_getElem? (i := 121) (by decide +kernel), List.mem_of_getElem? (i := 610) (by decide +kernel), List.mem_of_getElem? (i := 611) (by decide +kernel)⟩
theorem lw_p13 : lw_okq (⟨"WallDown$Teller", "tellStone", "(I)Z"⟩, 3) := ⟨⟨by decide +kernel, by decide +kernel⟩, List.mem_of_getElem? (i := 121) (by decide +kernel), List.mem_of_getElem? (i := 676) (by decide +kernel), List.mem_of_getElem? (i := 677) (by decide +kernel)⟩
theorem lw_p14 : lw_okq (⟨"WallDown$Teller", "tellBeam", "()Z"⟩, 3) := ⟨⟨by decide +kernel, by decide +kernel⟩, List.mem_of_getElem? (i := 121) (by decide +kernel), List.mem_of_getElem? (i := 688) (by decide +kernel), List.mem_of_getElem? (i := 689) (by decide +kernel)⟩
theorem lw_p15 : lw_okq (⟨"WallDown$Teller", "tellWedge", "()Z"⟩, 3) := ⟨⟨by decide +kernel, by decide +kernel⟩, List.mem_of_getElem? (i := 121) (by decide +kernel), List.mem_of_getElem? (i := 696) (by decide +kernel), List.mem_of_getElem? (i := 697) (by decide +kernel)⟩
def lw_privs_1 : List (MethodName × Nat) := [(⟨"WallDown", "finding", "(I)I"⟩, 9), (⟨"WallDown", "isStone", "(II)Z"⟩, 9), (⟨"WallDown", "mayGoAsLowest", "(II)Z"⟩, 9), (⟨"WallDown", "isStand", "(I)Z"⟩, 9), (⟨"WallDown", "canBe", "(LWallDown$House;I)Z"⟩, 9), (⟨"WallDown", "standsOf", "(LWallDown$House;)I"⟩, 9), (⟨"WallDown", "leastSlack", "(I)I"⟩, 9), (⟨"WallDown", "bestStand", "(I)I"⟩, 9), (⟨"WallDown$Tape", "isLetter", "(I)Z"⟩, 6), (⟨"WallDown$Tape", "skipLetters", "()V"⟩, 6), (⟨"WallDown$Tape", "isDigit", "(I)Z"⟩, 6), (⟨"WallDown$Tape", "skipDigits", "()V"⟩, 6), (⟨"WallDown$Teller", "tellItem", "()Z"⟩, 3), (⟨"WallDown$Teller", "tellStone", "(I)Z"⟩, 3), (⟨"WallDown$Teller", "tellBeam", "()Z"⟩, 3), (⟨"WallDown$Teller", "tellWedge", "()Z"⟩, 3)]
theorem lw_r1 : ∀ q ∈ lw_privs_1, lw_okq q := List.forall_mem_cons.mpr ⟨lw_p0, List.forall_mem_cons.mpr ⟨lw_p1, List.forall_mem_cons.mpr ⟨lw_p2, List.forall_mem_cons.mpr ⟨lw_p3, List.forall_mem_cons.mpr ⟨lw_p4, List.forall_mem_cons.mpr ⟨lw_p5, List.forall_mem_cons.mpr ⟨lw_p6, List.forall_mem_cons.mpr ⟨lw_p7, List.forall_mem_cons.mpr ⟨lw_p8, List.forall_mem_cons.mpr ⟨lw_p9, List.forall_mem_cons.mpr ⟨lw_p10, List.forall_mem_cons.mpr ⟨lw_p11, List.forall_mem_cons.mpr ⟨lw_p12, List.forall_mem_cons.mpr ⟨lw_p13, List.forall_mem_cons.mpr ⟨lw_p14, List.forall_mem_cons.mpr ⟨lw_p15, fun _ h => absurd h List.not_mem_nil⟩⟩⟩⟩⟩⟩⟩⟩⟩⟩⟩⟩⟩⟩⟩⟩
theorem lw_p16 : lw_okq (⟨"WallDown$Teller", "tellSlack", "()Z"⟩, 3) := ⟨⟨by decide +kernel, by decide +kernel⟩, List.mem_of_getElem? (i := 121) (by decide +kernel), List.mem_of_getElem? (i := 701) (by decide +kernel), List.mem_of_getElem? (i := 702) (by decide +kernel)⟩
theorem lw_p17 : lw_okq (⟨"WallDown$Teller", "tellPulls", "()Z"⟩, 3) := ⟨⟨by decide +kernel, by decide +kernel⟩, List.mem_of_getElem? (i := 121) (by decide +kernel), List.mem_of_getElem? (i := 706) (by decide +kernel), List.mem_of_getElem? (i := 707) (by decide +kernel)⟩
theorem lw_p18 : lw_okq (⟨"WallDown", "sheetFinding", "(I)I"⟩, 9) := ⟨⟨by decide +kernel, by decide +kernel⟩, List.mem_of_getElem? (i := 17) (by decide +kernel), List.mem_of_getElem? (i := 736) (by decide +kernel), List.mem_of_getElem? (i := 737) (by decide +kernel)⟩
theorem lw_p19 : lw_okq (⟨"WallDownModel", "finds", "(I)I"⟩, 23) := ⟨⟨by decide +kernel, by decide +kernel⟩, List.mem_of_getElem? (i := 797) (by decide +kernel), List.mem_of_getElem? (i := 888) (by decide +kernel), List.mem_of_getElem? (i := 889) (by decide +kernel)⟩
theorem lw_p20 : lw_okq (⟨"WallDownModel", "many", "(I)I"⟩, 23) := ⟨⟨by decide +kernel, by decide +kernel⟩, List.mem_of_getElem? (i := 797) (by decide +kernel), List.mem_of_getElem? (i := 892) (by decide +kernel), List.mem_of_getElem? (i := 893) (by decide +kernel)⟩
theorem lw_p21 : lw_okq (⟨"WallDownModel", "addStone", "(IIII)V"⟩, 23) := ⟨⟨by decide +kernel, by decide +kernel⟩, List.mem_of_getElem? (i := 797) (by decide +kernel), List.mem_of_getElem? (i := 897) (by decide +kernel), List.mem_of_getElem? (i := 898) (by decide +kernel)⟩
theorem lw_p22 : lw_okq (⟨"WallDownModel", "findTops", "()V"⟩, 23) := ⟨⟨by decide +kernel, by decide +kernel⟩, List.mem_of_getElem? (i := 797) (by decide +kernel), List.mem_of_getElem? (i := 908) (by decide +kernel), List.mem_of_getElem? (i := 909) (by decide +kernel)⟩
theorem lw_p23 : lw_okq (⟨"WallDownModel", "tall", "(II)I"⟩, 23) := ⟨⟨by decide +kernel, by decide +kernel⟩, List.mem_of_getElem? (i := 797) (by decide +kernel), List.mem_of_getElem? (i := 912) (by decide +kernel), List.mem_of_getElem? (i := 913) (by decide +kernel)⟩
theorem lw_p24 : lw_okq (⟨"WallDownModel", "its", "(III)I"⟩, 23) := ⟨⟨by decide +kernel, by decide +kernel⟩, List.mem_of_getElem? (i := 797) (by decide +kernel), List.mem_of_getElem? (i := 916) (by decide +kernel), List.mem_of_getElem? (i := 917) (by decide +kernel)⟩
theorem lw_p25 : lw_okq (⟨"WallDownModel", "coin", "(II)I"⟩, 23) := ⟨⟨by decide +kernel, by decide +kernel⟩, List.mem_of_getElem? (i := 797) (by decide +kernel), List.mem_of_getElem? (i := 920) (by decide +kernel), List.mem_of_getElem? (i := 921) (by decide +kernel)⟩
theorem lw_p26 : lw_okq (⟨"WallDownModel", "isStone", "(II)Z"⟩, 23) := ⟨⟨by decide +kernel, by decide +kernel⟩, List.mem_of_getElem? (i := 797) (by decide +kernel), List.mem_of_getElem? (i := 928) (by decide +kernel), List.mem_of_getElem? (i := 929) (by decide +kernel)⟩
theorem lw_p27 : lw_okq (⟨"WallDownModel", "standNow", "()I"⟩, 23) := ⟨⟨by decide +kernel, by decide +kernel⟩, List.mem_of_getElem? (i := 797) (by decide +kernel), List.mem_of_getElem? (i := 932) (by decide +kernel), List.mem_of_getElem? (i := 933) (by decide +kernel)⟩
theorem lw_p28 : lw_okq (⟨"WallDownModel", "mayGo", "(III)Z"⟩, 23) := ⟨⟨by decide +kernel, by decide +kernel⟩, List.mem_of_getElem? (i := 797) (by decide +kernel), List.mem_of_getElem? (i := 936) (by decide +kernel), List.mem_of_getElem? (i := 937) (by decide +kernel)⟩
theorem lw_p29 : lw_okq (⟨"WallDownModel", "lies", "(I)Z"⟩, 23) := ⟨⟨by decide +kernel, by decide +kernel⟩, List.mem_of_getElem? (i := 797) (by decide +kernel), List.mem_of_getElem? (i := 971) (by decide +kernel), List.mem_of_getElem? (i := 972) (by decide +kernel)⟩
theorem lw_p30 : lw_okq (⟨"WallDownModel", "allTops", "()I"⟩, 23) := ⟨⟨by decide +kernel, by decide +kernel⟩, List.mem_of_getElem? (i := 797) (by decide +kernel), List.mem_of_getElem? (i := 980) (by decide +kernel), List.mem_of_getElem? (i := 981) (by decide +kernel)⟩
theorem lw_p31 : lw_okq (⟨"WallDownModel", "mostUnlike", "()I"⟩, 23) := ⟨⟨by decide +kernel, by decide +kernel⟩, List.mem_of_getElem? (i := 797) (by decide +kernel), List.mem_of_getElem? (i := 991) (by decide +kernel), List.mem_of_getElem? (i := 992) (by decide +kernel)⟩
def lw_privs_2 : List (MethodName × Nat) := [(⟨"WallDown$Teller", "tellSlack", "()Z"⟩, 3), (⟨"WallDown$Teller", "tellPulls", "()Z"⟩, 3), (⟨"WallDown", "sheetFinding", "(I)I"⟩, 9), (⟨"WallDownModel", "finds", "(I)I"⟩, 23), (⟨"WallDownModel", "many", "(I)I"⟩, 23), (⟨"WallDownModel", "addStone", "(IIII)V"⟩, 23), (⟨"WallDownModel", "findTops", "()V"⟩, 23), (⟨"WallDownModel", "tall", "(II)I"⟩, 23), (⟨"WallDownModel", "its", "(III)I"⟩, 23), (⟨"WallDownModel", "coin", "(II)I"⟩, 23), (⟨"WallDownModel", "isStone", "(II)Z"⟩, 23), (⟨"WallDownModel", "standNow", "()I"⟩, 23), (⟨"WallDownModel", "mayGo", "(III)Z"⟩, 23), (⟨"WallDownModel", "lies", "(I)Z"⟩, 23), (⟨"WallDownModel", "allTops", "()I"⟩, 23), (⟨"WallDownModel", "mostUnlike", "()I"⟩, 23)]
theorem lw_r2 : ∀ q ∈ lw_privs_2, lw_okq q := List.forall_mem_cons.mpr ⟨lw_p16, List.forall_mem_cons.mpr ⟨lw_p17, List.forall_mem_cons.mpr ⟨lw_p18, List.forall_mem_cons.mpr ⟨lw_p19, List.forall_mem_cons.mpr ⟨lw_p20, List.forall_mem_cons.mpr ⟨lw_p21, List.forall_mem_cons.mpr ⟨lw_p22, List.forall_mem_cons.mpr ⟨lw_p23, List.forall_mem_cons.mpr ⟨lw_p24, List.forall_mem_cons.mpr ⟨lw_p25, List.forall_mem_cons.mpr ⟨lw_p26, List.forall_mem_cons.mpr ⟨lw_p27, List.forall_mem_cons.mpr ⟨lw_p28, List.forall_mem_cons.mpr ⟨lw_p29, List.forall_mem_cons.mpr ⟨lw_p30, List.forall_mem_cons.mpr ⟨lw_p31, fun _ h => absurd h List.not_mem_nil⟩⟩⟩⟩⟩⟩⟩⟩⟩⟩⟩⟩⟩⟩⟩⟩
theorem lw_p32 : lw_okq (⟨"WallDownModel", "unlikeAt", "(II)I"⟩, 23) := ⟨⟨by decide +kernel, by decide +kernel⟩, List.mem_of_getElem? (i := 797) (by decide +kernel), List.mem_of_getElem? (i := 995) (by decide +kernel), List.mem_of_getElem? (i := 996) (by decide +kernel)⟩
theorem lw_p33 : lw_okq (⟨"WallDownModel", "topIn", "(II)I"⟩, 23) := ⟨⟨by decide +kernel, by decide +kernel⟩, List.mem_of_getElem? (i := 797) (by decide +kernel), List.mem_of_getElem? (i := 999) (by decide +kernel), List.mem_of_getElem? (i := 1000) (by decide +kernel)⟩
theorem lw_p34 : lw_okq (⟨"WallDownModel", "canPullNow", "(I)Z"⟩, 23) := ⟨⟨by decide +kernel, by decide +kernel⟩, List.mem_of_getElem? (i := 797) (by decide +kernel), List.mem_of_getElem? (i := 1007) (by decide +kernel), List.mem_of_getElem? (i := 1008) (by decide +kernel)⟩
theorem lw_p35 : lw_okq (⟨"WallDownModel", "canPull", "(II)Z"⟩, 23) := ⟨⟨by decide +kernel, by decide +kernel⟩, List.mem_of_getElem? (i := 797) (by decide +kernel), List.mem_of_getElem? (i := 1011) (by decide +kernel), List.mem_of_getElem? (i := 1012) (by decide +kernel)⟩
theorem lw_p36 : lw_okq (⟨"WallDownModel", "isSafe", "(I)Z"⟩, 23) := ⟨⟨by decide +kernel, by decide +kernel⟩, List.mem_of_getElem? (i := 797) (by decide +kernel), List.mem_of_getElem? (i := 1015) (by decide +kernel), List.mem_of_getElem? (i := 1016) (by decide +kernel)⟩
theorem lw_p37 : lw_okq (⟨"WallDownModel", "takeOut", "(I)V"⟩, 23) := ⟨⟨by decide +kernel, by decide +kernel⟩, List.mem_of_getElem? (i := 797) (by decide +kernel), List.mem_of_getElem? (i := 1019) (by decide +kernel), List.mem_of_getElem? (i := 1020) (by decide +kernel)⟩
theorem lw_p38 : lw_okq (⟨"WallDownModel", "isStand", "(I)Z"⟩, 23) := ⟨⟨by decide +kernel, by decide +kernel⟩, List.mem_of_getElem? (i := 797) (by decide +kernel), List.mem_of_getElem? (i := 1032) (by decide +kernel), List.mem_of_getElem? (i := 1033) (by decide +kernel)⟩
theorem lw_p39 : lw_okq (⟨"WallDownModel", "findRows", "()V"⟩, 23) := ⟨⟨by decide +kernel, by decide +kernel⟩, List.mem_of_getElem? (i := 797) (by decide +kernel), List.mem_of_getElem? (i := 1036) (by decide +kernel), List.mem_of_getElem? (i := 1037) (by decide +kernel)⟩
theorem lw_p40 : lw_okq (⟨"WallDownModel", "findGoes", "()V"⟩, 23) := ⟨⟨by decide +kernel, by decide +kernel⟩, List.mem_of_getElem? (i := 797) (by decide +kernel), List.mem_of_getElem? (i := 1040) (by decide +kernel), List.mem_of_getElem? (i := 1041) (by decide +kernel)⟩
theorem lw_p41 : lw_okq (⟨"WallDownModel", "countRows", "()V"⟩, 23) := ⟨⟨by decide +kernel, by decide +kernel⟩, List.mem_of_getElem? (i := 797) (by decide +kernel), List.mem_of_getElem? (i := 1044) (by decide +kernel), List.mem_of_getElem? (i := 1045) (by decide +kernel)⟩
theorem lw_p42 : lw_okq (⟨"WallDownModel", "howMany", "()I"⟩, 23) := ⟨⟨by decide +kernel, by decide +kernel⟩, List.mem_of_getElem? (i := 797) (by decide +kernel), List.mem_of_getElem? (i := 1052) (by decide +kernel), List.mem_of_getElem? (i := 1053) (by decide +kernel)⟩
theorem lw_p43 : lw_okq (⟨"WallDownModel", "howManyNow", "()I"⟩, 23) := ⟨⟨by decide +kernel, by decide +kernel⟩, List.mem_of_getElem? (i := 797) (by decide +kernel), List.mem_of_getElem? (i := 1056) (by decide +kernel), List.mem_of_getElem? (i := 1057) (by decide +kernel)⟩
theorem lw_p44 : lw_okq (⟨"WallDownModel", "findLeads", "(I)V"⟩, 23) := ⟨⟨by decide +kernel, by decide +kernel⟩, List.mem_of_getElem? (i := 797) (by decide +kernel), List.mem_of_getElem? (i := 1072) (by decide +kernel), List.mem_of_getElem? (i := 1073) (by decide +kernel)⟩
theorem lw_p45 : lw_okq (⟨"WallDownModel", "firstFrom", "(I)I"⟩, 23) := ⟨⟨by decide +kernel, by decide +kernel⟩, List.mem_of_getElem? (i := 797) (by decide +kernel), List.mem_of_getElem? (i := 1077) (by decide +kernel), List.mem_of_getElem? (i := 1078) (by decide +kernel)⟩
theorem lw_p46 : lw_okq (⟨"WallDownModel", "slackTo", "(I)I"⟩, 23) := ⟨⟨by decide +kernel, by decide +kernel⟩, List.mem_of_getElem? (i := 797) (by decide +kernel), List.mem_of_getElem? (i := 1089) (by decide +kernel), List.mem_of_getElem? (i := 1090) (by decide +kernel)⟩
theorem lw_p47 : lw_okq (⟨"WallDownModel", "widest", "(I)I"⟩, 23) := ⟨⟨by decide +kernel, by decide +kernel⟩, List.mem_of_getElem? (i := 797) (by decide +kernel), List.mem_of_getElem? (i := 1093) (by decide +kernel), List.mem_of_getElem? (i := 1094) (by decide +kernel)⟩
def lw_privs_3 : List (MethodName × Nat) := [(⟨"WallDownModel", "unlikeAt", "(II)I"⟩, 23), (⟨"WallDownModel", "topIn", "(II)I"⟩, 23), (⟨"WallDownModel", "canPullNow", "(I)Z"⟩, 23), (⟨"WallDownModel", "canPull", "(II)Z"⟩, 23), (⟨"WallDownModel", "isSafe", "(I)Z"⟩, 23), (⟨"WallDownModel", "takeOut", "(I)V"⟩, 23), (⟨"WallDownModel", "isStand", "(I)Z"⟩, 23), (⟨"WallDownModel", "findRows", "()V"⟩, 23), (⟨"WallDownModel", "findGoes", "()V"⟩, 23), (⟨"WallDownModel", "countRows", "()V"⟩, 23), (⟨"WallDownModel", "howMany", "()I"⟩, 23), (⟨"WallDownModel", "howManyNow", "()I"⟩, 23), (⟨"WallDownModel", "findLeads", "(I)V"⟩, 23), (⟨"WallDownModel", "firstFrom", "(I)I"⟩, 23), (⟨"WallDownModel", "slackTo", "(I)I"⟩, 23), (⟨"WallDownModel", "widest", "(I)I"⟩, 23)]
theorem lw_r3 : ∀ q ∈ lw_privs_3, lw_okq q := List.forall_mem_cons.mpr ⟨lw_p32, List.forall_mem_cons.mpr ⟨lw_p33, List.forall_mem_cons.mpr ⟨lw_p34, List.forall_mem_cons.mpr ⟨lw_p35, List.forall_mem_cons.mpr ⟨lw_p36, List.forall_mem_cons.mpr ⟨lw_p37, List.forall_mem_cons.mpr ⟨lw_p38, List.forall_mem_cons.mpr ⟨lw_p39, List.forall_mem_cons.mpr ⟨lw_p40, List.forall_mem_cons.mpr ⟨lw_p41, List.forall_mem_cons.mpr ⟨lw_p42, List.forall_mem_cons.mpr ⟨lw_p43, List.forall_mem_cons.mpr ⟨lw_p44, List.forall_mem_cons.mpr ⟨lw_p45, List.forall_mem_cons.mpr ⟨lw_p46, List.forall_mem_cons.mpr ⟨lw_p47, fun _ h => absurd h List.not_mem_nil⟩⟩⟩⟩⟩⟩⟩⟩⟩⟩⟩⟩⟩⟩⟩⟩
theorem lw_p48 : lw_okq (⟨"WallDownModel", "richest", "(I)I"⟩, 23) := ⟨⟨by decide +kernel, by decide +kernel⟩, List.mem_of_getElem? (i := 797) (by decide +kernel), List.mem_of_getElem? (i := 1105) (by decide +kernel), List.mem_of_getElem? (i := 1106) (by decide +kernel)⟩
theorem lw_p49 : lw_okq (⟨"WallDownModel", "richestNow", "(I)I"⟩, 23) := ⟨⟨by decide +kernel, by decide +kernel⟩, List.mem_of_getElem? (i := 797) (by decide +kernel), List.mem_of_getElem? (i := 1109) (by decide +kernel), List.mem_of_getElem? (i := 1110) (by decide +kernel)⟩
theorem lw_p50 : lw_okq (⟨"WallDownModel", "paidIn", "(I)I"⟩, 23) := ⟨⟨by decide +kernel, by decide +kernel⟩, List.mem_of_getElem? (i := 797) (by decide +kernel), List.mem_of_getElem? (i := 1113) (by decide +kernel), List.mem_of_getElem? (i := 1114) (by decide +kernel)⟩
theorem lw_p51 : lw_okq (⟨"WallDownModel", "moveAll", "(Z[I)V"⟩, 23) := ⟨⟨by decide +kernel, by decide +kernel⟩, List.mem_of_getElem? (i := 797) (by decide +kernel), List.mem_of_getElem? (i := 1157) (by decide +kernel), List.mem_of_getElem? (i := 1158) (by decide +kernel)⟩
theorem lw_p52 : lw_okq (⟨"WallDownModel", "advance", "()V"⟩, 23) := ⟨⟨by decide +kernel, by decide +kernel⟩, List.mem_of_getElem? (i := 797) (by decide +kernel), List.mem_of_getElem? (i := 1161) (by decide +kernel), List.mem_of_getElem? (i := 1162) (by decide +kernel)⟩
theorem lw_p53 : lw_okq (⟨"WallDownModel", "byteAt", "(I)I"⟩, 23) := ⟨⟨by decide +kernel, by decide +kernel⟩, List.mem_of_getElem? (i := 797) (by decide +kernel), List.mem_of_getElem? (i := 1165) (by decide +kernel), List.mem_of_getElem? (i := 1166) (by decide +kernel)⟩
theorem lw_p54 : lw_okq (⟨"WallDownModel", "wantItem", "()V"⟩, 23) := ⟨⟨by decide +kernel, by decide +kernel⟩, List.mem_of_getElem? (i := 797) (by decide +kernel), List.mem_of_getElem? (i := 1178) (by decide +kernel), List.mem_of_getElem? (i := 1179) (by decide +kernel)⟩
theorem lw_p55 : lw_okq (⟨"WallDownModel", "kindHere", "()I"⟩, 23) := ⟨⟨by decide +kernel, by decide +kernel⟩, List.mem_of_getElem? (i := 797) (by decide +kernel), List.mem_of_getElem? (i := 1182) (by decide +kernel), List.mem_of_getElem? (i := 1183) (by decide +kernel)⟩
theorem lw_p56 : lw_okq (⟨"WallDownModel", "isWord", "(J)Z"⟩, 23) := ⟨⟨by decide +kernel, by decide +kernel⟩, List.mem_of_getElem? (i := 797) (by decide +kernel), List.mem_of_getElem? (i := 1187) (by decide +kernel), List.mem_of_getElem? (i := 1188) (by decide +kernel)⟩
theorem lw_p57 : lw_okq (⟨"WallDownModel", "wantStone", "(I)V"⟩, 23) := ⟨⟨by decide +kernel, by decide +kernel⟩, List.mem_of_getElem? (i := 797) (by decide +kernel), List.mem_of_getElem? (i := 1196) (by decide +kernel), List.mem_of_getElem? (i := 1197) (by decide +kernel)⟩
theorem lw_p58 : lw_okq (⟨"WallDownModel", "wantNumber", "(II)I"⟩, 23) := ⟨⟨by decide +kernel, by decide +kernel⟩, List.mem_of_getElem? (i := 797) (by decide +kernel), List.mem_of_getElem? (i := 1200) (by decide +kernel), List.mem_of_getElem? (i := 1201) (by decide +kernel)⟩
theorem lw_p59 : lw_okq (⟨"WallDownModel", "mayWant", "(JIII)I"⟩, 23) := ⟨⟨by decide +kernel, by decide +kernel⟩, List.mem_of_getElem? (i := 797) (by decide +kernel), List.mem_of_getElem? (i := 1205) (by decide +kernel), List.mem_of_getElem? (i := 1206) (by decide +kernel)⟩
theorem lw_p60 : lw_okq (⟨"WallDownModel", "wantBeam", "()V"⟩, 23) := ⟨⟨by decide +kernel, by decide +kernel⟩, List.mem_of_getElem? (i := 797) (by decide +kernel), List.mem_of_getElem? (i := 1211) (by decide +kernel), List.mem_of_getElem? (i := 1212) (by decide +kernel)⟩
theorem lw_p61 : lw_okq (⟨"WallDownModel", "wantWedge", "()V"⟩, 23) := ⟨⟨by decide +kernel, by decide +kernel⟩, List.mem_of_getElem? (i := 797) (by decide +kernel), List.mem_of_getElem? (i := 1218) (by decide +kernel), List.mem_of_getElem? (i := 1219) (by decide +kernel)⟩
theorem lw_p62 : lw_okq (⟨"WallDownModel", "wantSlack", "()V"⟩, 23) := ⟨⟨by decide +kernel, by decide +kernel⟩, List.mem_of_getElem? (i := 797) (by decide +kernel), List.mem_of_getElem? (i := 1223) (by decide +kernel), List.mem_of_getElem? (i := 1224) (by decide +kernel)⟩
theorem lw_p63 : lw_okq (⟨"WallDownModel", "wantPulls", "()V"⟩, 23) := ⟨⟨by decide +kernel, by decide +kernel⟩, List.mem_of_getElem? (i := 797) (by decide +kernel), List.mem_of_getElem? (i := 1228) (by decide +kernel), List.mem_of_getElem? (i := 1229) (by decide +kernel)⟩
def lw_privs_4 : List (MethodName × Nat) := [(⟨"WallDownModel", "richest", "(I)I"⟩, 23), (⟨"WallDownModel", "richestNow", "(I)I"⟩, 23), (⟨"WallDownModel", "paidIn", "(I)I"⟩, 23), (⟨"WallDownModel", "moveAll", "(Z[I)V"⟩, 23), (⟨"WallDownModel", "advance", "()V"⟩, 23), (⟨"WallDownModel", "byteAt", "(I)I"⟩, 23), (⟨"WallDownModel", "wantItem", "()V"⟩, 23), (⟨"WallDownModel", "kindHere", "()I"⟩, 23), (⟨"WallDownModel", "isWord", "(J)Z"⟩, 23), (⟨"WallDownModel", "wantStone", "(I)V"⟩, 23), (⟨"WallDownModel", "wantNumber", "(II)I"⟩, 23), (⟨"WallDownModel", "mayWant", "(JIII)I"⟩, 23), (⟨"WallDownModel", "wantBeam", "()V"⟩, 23), (⟨"WallDownModel", "wantWedge", "()V"⟩, 23), (⟨"WallDownModel", "wantSlack", "()V"⟩, 23), (⟨"WallDownModel", "wantPulls", "()V"⟩, 23)]
theorem lw_r4 : ∀ q ∈ lw_privs_4, lw_okq q := List.forall_mem_cons.mpr ⟨lw_p48, List.forall_mem_cons.mpr ⟨lw_p49, List.forall_mem_cons.mpr ⟨lw_p50, List.forall_mem_cons.mpr ⟨lw_p51, List.forall_mem_cons.mpr ⟨lw_p52, List.forall_mem_cons.mpr ⟨lw_p53, List.forall_mem_cons.mpr ⟨lw_p54, List.forall_mem_cons.mpr ⟨lw_p55, List.forall_mem_cons.mpr ⟨lw_p56, List.forall_mem_cons.mpr ⟨lw_p57, List.forall_mem_cons.mpr ⟨lw_p58, List.forall_mem_cons.mpr ⟨lw_p59, List.forall_mem_cons.mpr ⟨lw_p60, List.forall_mem_cons.mpr ⟨lw_p61, List.forall_mem_cons.mpr ⟨lw_p62, List.forall_mem_cons.mpr ⟨lw_p63, fun _ h => absurd h List.not_mem_nil⟩⟩⟩⟩⟩⟩⟩⟩⟩⟩⟩⟩⟩⟩⟩⟩
theorem lw_p64 : lw_okq (⟨"WallDownModel", "isPart", "(III)Z"⟩, 23) := ⟨⟨by decide +kernel, by decide +kernel⟩, List.mem_of_getElem? (i := 797) (by decide +kernel), List.mem_of_getElem? (i := 1252) (by decide +kernel), List.mem_of_getElem? (i := 1253) (by decide +kernel)⟩
def lw_privs_5 : List (MethodName × Nat) := [(⟨"WallDownModel", "isPart", "(III)Z"⟩, 23)]
theorem lw_r5 : ∀ q ∈ lw_privs_5, lw_okq q := List.forall_mem_cons.mpr ⟨lw_p64, fun _ h => absurd h List.not_mem_nil⟩
def lw_privs : List (MethodName × Nat) := lw_privs_1 ++ (lw_privs_2 ++ (lw_privs_3 ++ (lw_privs_4 ++ (lw_privs_5))))
def lw_tbl : List Cond := k2_sels lw_privs ++ tables_1
theorem lw_privs_ok : ∀ q ∈ lw_privs, lw_okq q := by
  show ∀ q ∈ lw_privs_1 ++ (lw_privs_2 ++ (lw_privs_3 ++ (lw_privs_4 ++ (lw_privs_5)))), lw_okq q
  exact List.forall_mem_append.mpr ⟨lw_r1, List.forall_mem_append.mpr ⟨lw_r2, List.forall_mem_append.mpr ⟨lw_r3, List.forall_mem_append.mpr ⟨lw_r4, lw_r5⟩⟩⟩⟩
end
section
def RX0 : String := "WallDown$House"
def TX0 : u_T := fun k => match k with
  | 0 => ("WallDown$House", "kinds", "[I", true)
  | 1 => ("WallDown$House", "highs", "[I", true)
  | 2 => ("WallDown$House", "prices", "[I", true)
  | 3 => ("WallDown$House", "counts", "[I", true)
  | 4 => ("WallDown$House", "wedges", "[I", true)
  | 5 => ("WallDown$House", "beams", "I", false)
  | 6 => ("WallDown$House", "slack", "I", false)
  | 7 => ("WallDown$House", "night", "I", false)
  | _ => ("WallDown$House", "purse", "I", false)
def tyX0 : Nat → FieldType := fun k => match k with
  | 0 => .array .int
  | 1 => .array .int
  | 2 => .array .int
  | 3 => .array .int
  | 4 => .array .int
  | 5 => .int
  | 6 => .int
  | 7 => .int
  | _ => .int
abbrev wsX00 : List Cond := u_ws RX0 TX0 9
theorem nmX0 : ∀ a, a < 9 → ∀ b, b < 9 → a ≠ b → (TX0 a).2.1 ≠ (TX0 b).2.1 := by decide +kernel
theorem tyX0_ok : ∀ k, k < 9 → parseFieldDescriptor (TX0 k).2.2.1 = some (tyX0 k) := by decide +kernel
abbrev cX0_init : ByteArray := prog_2_method_1_code
def yX0_init : MethodName := ⟨RX0, "<init>", "()V"⟩
abbrev cX0_place : ByteArray := prog_2_method_2_code
def yX0_place : MethodName := ⟨RX0, "place", "(II)I"⟩
abbrev cX0_becomeLike : ByteArray := prog_2_method_3_code
def yX0_becomeLike : MethodName := ⟨RX0, "becomeLike", "(LWallDown$House;)V"⟩
abbrev cX0_put : ByteArray := prog_2_method_4_code
def yX0_put : MethodName := ⟨RX0, "put", "(IIII)V"⟩
abbrev cX0_takeLowest : ByteArray := prog_2_method_5_code
def yX0_takeLowest : MethodName := ⟨RX0, "takeLowest", "(I)V"⟩
abbrev cX0_layBeam : ByteArray := prog_2_method_6_code
def yX0_layBeam : MethodName := ⟨RX0, "layBeam", "(IZ)V"⟩
abbrev cX0_tallOf : ByteArray := prog_2_method_7_code
def yX0_tallOf : MethodName := ⟨RX0, "tallOf", "(II)I"⟩
abbrev cX0_coinOf : ByteArray := prog_2_method_8_code
def yX0_coinOf : MethodName := ⟨RX0, "coinOf", "(II)I"⟩
abbrev cX0_topOf : ByteArray := prog_2_method_9_code
def yX0_topOf : MethodName := ⟨RX0, "topOf", "(I)I"⟩
abbrev cX0_coinsOf : ByteArray := prog_2_method_10_code
def yX0_coinsOf : MethodName := ⟨RX0, "coinsOf", "(I)I"⟩
abbrev cX0_allTops : ByteArray := prog_2_method_11_code
def yX0_allTops : MethodName := ⟨RX0, "allTops", "()I"⟩
abbrev cX0_allCoins : ByteArray := prog_2_method_12_code
def yX0_allCoins : MethodName := ⟨RX0, "allCoins", "()I"⟩
abbrev cX0_allStones : ByteArray := prog_2_method_13_code
def yX0_allStones : MethodName := ⟨RX0, "allStones", "()I"⟩
abbrev cX0_standNow : ByteArray := prog_2_method_14_code
def yX0_standNow : MethodName := ⟨RX0, "standNow", "()I"⟩
def RX1 : String := "WallDown$Rows"
def TX1 : u_T := fun k => match k with
  | 0 => ("WallDown$Rows", "ways", "[J", true)
  | _ => ("WallDown$Rows", "best", "[I", true)
def tyX1 : Nat → FieldType := fun k => match k with
  | 0 => .array .long
  | _ => .array .int
abbrev wsX10 : List Cond := u_ws RX1 TX1 2
theorem nmX1 : ∀ a, a < 2 → ∀ b, b < 2 → a ≠ b → (TX1 a).2.1 ≠ (TX1 b).2.1 := by decide +kernel
theorem tyX1_ok : ∀ k, k < 2 → parseFieldDescriptor (TX1 k).2.2.1 = some (tyX1 k) := by decide +kernel
abbrev cX1_init : ByteArray := prog_3_method_1_code
def yX1_init : MethodName := ⟨RX1, "<init>", "()V"⟩
abbrev cX1_fill : ByteArray := prog_3_method_2_code
def yX1_fill : MethodName := ⟨RX1, "fill", "(LWallDown$Survey;LWallDown$Sheet;)I"⟩
abbrev cX1_lead : ByteArray := prog_3_method_3_code
def yX1_lead : MethodName := ⟨RX1, "lead", "(LWallDown$Survey;I)V"⟩
abbrev cX1_leadFrom : ByteArray := prog_3_method_4_code
def yX1_leadFrom : MethodName := ⟨RX1, "leadFrom", "(LWallDown$Survey;I)I"⟩
abbrev cX1_leastStand : ByteArray := prog_3_method_5_code
def yX1_leastStand : MethodName := ⟨RX1, "leastStand", "(LWallDown$Survey;)I"⟩
abbrev cX1_fewestPulls : ByteArray := prog_3_method_6_code
def yX1_fewestPulls : MethodName := ⟨RX1, "fewestPulls", "(LWallDown$Survey;II)I"⟩
abbrev cX1_fewestLeft : ByteArray := prog_3_method_7_code
def yX1_fewestLeft : MethodName := ⟨RX1, "fewestLeft", "(LWallDown$Survey;I)I"⟩
abbrev cX1_rank : ByteArray := prog_3_method_8_code
def yX1_rank : MethodName := ⟨RX1, "rank", "(LWallDown$Survey;)V"⟩
abbrev cX1_bestUpTo : ByteArray := prog_3_method_9_code
def yX1_bestUpTo : MethodName := ⟨RX1, "bestUpTo", "(LWallDown$Survey;I)I"⟩
abbrev cX1_waysBy : ByteArray := prog_3_method_10_code
def yX1_waysBy : MethodName := ⟨RX1, "waysBy", "(LWallDown$Survey;I)J"⟩
def RX2 : String := "WallDown$Sheet"
def TX2 : u_T := fun k => match k with
  | 0 => ("WallDown$Sheet", "numbers", "[J", true)
  | 1 => ("WallDown$Sheet", "bits", "I", false)
  | _ => ("WallDown$Sheet", "size", "I", false)
def tyX2 : Nat → FieldType := fun k => match k with
  | 0 => .array .long
  | 1 => .int
  | _ => .int
abbrev wsX20 : List Cond := u_ws RX2 TX2 3
theorem nmX2 : ∀ a, a < 3 → ∀ b, b < 3 → a ≠ b → (TX2 a).2.1 ≠ (TX2 b).2.1 := by decide +kernel
theorem tyX2_ok : ∀ k, k < 3 → parseFieldDescriptor (TX2 k).2.2.1 = some (tyX2 k) := by decide +kernel
abbrev cX2_init : ByteArray := prog_4_method_1_code
def yX2_init : MethodName := ⟨RX2, "<init>", "()V"⟩
abbrev cX2_layOut : ByteArray := prog_4_method_2_code
def yX2_layOut : MethodName := ⟨RX2, "layOut", "(II)V"⟩
abbrev cX2_put : ByteArray := prog_4_method_3_code
def yX2_put : MethodName := ⟨RX2, "put", "(IJ)V"⟩
abbrev cX2_hasPart : ByteArray := prog_4_method_4_code
def yX2_hasPart : MethodName := ⟨RX2, "hasPart", "(II)Z"⟩
abbrev cX2_tells : ByteArray := prog_4_method_5_code
def yX2_tells : MethodName := ⟨RX2, "tells", "(II)Z"⟩
def RX3 : String := "WallDown$Survey"
def TX3 : u_T := fun k => match k with
  | 0 => ("WallDown$Survey", "tops", "[I", true)
  | 1 => ("WallDown$Survey", "coinsOut", "[I", true)
  | 2 => ("WallDown$Survey", "lowestKinds", "[I", true)
  | 3 => ("WallDown$Survey", "now", "I", false)
  | 4 => ("WallDown$Survey", "beams", "I", false)
  | _ => ("WallDown$Survey", "slack", "I", false)
def tyX3 : Nat → FieldType := fun k => match k with
  | 0 => .array .int
  | 1 => .array .int
  | 2 => .array .int
  | 3 => .int
  | 4 => .int
  | _ => .int
abbrev wsX30 : List Cond := u_ws RX3 TX3 6
theorem nmX3 : ∀ a, a < 6 → ∀ b, b < 6 → a ≠ b → (TX3 a).2.1 ≠ (TX3 b).2.1 := by decide +kernel
theorem tyX3_ok : ∀ k, k < 6 → parseFieldDescriptor (TX3 k).2.2.1 = some (tyX3 k) := by decide +kernel
abbrev cX3_init : ByteArray := prog_5_method_1_code
def yX3_init : MethodName := ⟨RX3, "<init>", "()V"⟩
abbrev cX3_unit : ByteArray := prog_5_method_2_code
def yX3_unit : MethodName := ⟨RX3, "unit", "(I)I"⟩
abbrev cX3_leftAt : ByteArray := prog_5_method_3_code
def yX3_leftAt : MethodName := ⟨RX3, "leftAt", "(II)I"⟩
abbrev cX3_stonesAt : ByteArray := prog_5_method_4_code
def yX3_stonesAt : MethodName := ⟨RX3, "stonesAt", "(I)I"⟩
abbrev cX3_isPartOf : ByteArray := prog_5_method_5_code
def yX3_isPartOf : MethodName := ⟨RX3, "isPartOf", "(II)Z"⟩
abbrev cX3_measure : ByteArray := prog_5_method_6_code
def yX3_measure : MethodName := ⟨RX3, "measure", "(LWallDown$House;)V"⟩
abbrev cX3_pulledAt : ByteArray := prog_5_method_7_code
def yX3_pulledAt : MethodName := ⟨RX3, "pulledAt", "(I)I"⟩
abbrev cX3_coinAt : ByteArray := prog_5_method_8_code
def yX3_coinAt : MethodName := ⟨RX3, "coinAt", "(I)I"⟩
abbrev cX3_unlikeAt : ByteArray := prog_5_method_9_code
def yX3_unlikeAt : MethodName := ⟨RX3, "unlikeAt", "(I)I"⟩
abbrev cX3_lowestMayGo : ByteArray := prog_5_method_10_code
def yX3_lowestMayGo : MethodName := ⟨RX3, "lowestMayGo", "(II)Z"⟩
abbrev cX3_canPullAt : ByteArray := prog_5_method_11_code
def yX3_canPullAt : MethodName := ⟨RX3, "canPullAt", "(II)Z"⟩
abbrev cX3_nextCoin : ByteArray := prog_5_method_12_code
def yX3_nextCoin : MethodName := ⟨RX3, "nextCoin", "(II)I"⟩
def RX4 : String := "WallDown$Tape"
def TX4 : u_T := fun k => match k with
  | 0 => ("WallDown$Tape", "bytes", "[I", true)
  | 1 => ("WallDown$Tape", "length", "I", false)
  | 2 => ("WallDown$Tape", "token", "I", false)
  | 3 => ("WallDown$Tape", "start", "I", false)
  | 4 => ("WallDown$Tape", "number", "I", false)
  | _ => ("WallDown$Tape", "end", "I", false)
def tyX4 : Nat → FieldType := fun k => match k with
  | 0 => .array .int
  | 1 => .int
  | 2 => .int
  | 3 => .int
  | 4 => .int
  | _ => .int
abbrev wsX40 : List Cond := u_ws RX4 TX4 6
theorem nmX4 : ∀ a, a < 6 → ∀ b, b < 6 → a ≠ b → (TX4 a).2.1 ≠ (TX4 b).2.1 := by decide +kernel
theorem tyX4_ok : ∀ k, k < 6 → parseFieldDescriptor (TX4 k).2.2.1 = some (tyX4 k) := by decide +kernel
abbrev cX4_init : ByteArray := prog_6_method_1_code
def yX4_init : MethodName := ⟨RX4, "<init>", "()V"⟩
abbrev cX4_append : ByteArray := prog_6_method_2_code
def yX4_append : MethodName := ⟨RX4, "append", "(I)V"⟩
abbrev cX4_rewind : ByteArray := prog_6_method_3_code
def yX4_rewind : MethodName := ⟨RX4, "rewind", "()V"⟩
abbrev cX4_step : ByteArray := prog_6_method_4_code
def yX4_step : MethodName := ⟨RX4, "step", "()V"⟩
abbrev cX4_skipLetters : ByteArray := prog_6_method_5_code
def yX4_skipLetters : MethodName := ⟨RX4, "skipLetters", "()V"⟩
abbrev cX4_skipDigits : ByteArray := prog_6_method_6_code
def yX4_skipDigits : MethodName := ⟨RX4, "skipDigits", "()V"⟩
abbrev cX4_isLetter : ByteArray := prog_6_method_7_code
def yX4_isLetter : MethodName := ⟨RX4, "isLetter", "(I)Z"⟩
abbrev cX4_isDigit : ByteArray := prog_6_method_8_code
def yX4_isDigit : MethodName := ⟨RX4, "isDigit", "(I)Z"⟩
abbrev cX4_isNumber : ByteArray := prog_6_method_9_code
def yX4_isNumber : MethodName := ⟨RX4, "isNumber", "(II)Z"⟩
abbrev cX4_isWord : ByteArray := prog_6_method_10_code
def yX4_isWord : MethodName := ⟨RX4, "isWord", "(Ljava/lang/String;)Z"⟩
def RX5 : String := "WallDown$Teller"
def TX5 : u_T := fun k => match k with
  | 0 => ("WallDown$Teller", "tape", "LWallDown$Tape;", true)
  | 1 => ("WallDown$Teller", "site", "LWallDown$House;", true)
  | _ => ("WallDown$Teller", "survey", "LWallDown$Survey;", true)
def tyX5 : Nat → FieldType := fun k => match k with
  | 0 => .object "WallDown$Tape"
  | 1 => .object "WallDown$House"
  | _ => .object "WallDown$Survey"
abbrev wsX50 : List Cond := u_ws RX5 TX5 3
theorem nmX5 : ∀ a, a < 3 → ∀ b, b < 3 → a ≠ b → (TX5 a).2.1 ≠ (TX5 b).2.1 := by decide +kernel
theorem tyX5_ok : ∀ k, k < 3 → parseFieldDescriptor (TX5 k).2.2.1 = some (tyX5 k) := by decide +kernel
abbrev cX5_init : ByteArray := prog_7_method_1_code
def yX5_init : MethodName := ⟨RX5, "<init>", "()V"⟩
abbrev cX5_tell : ByteArray := prog_7_method_2_code
def yX5_tell : MethodName := ⟨RX5, "tell", "(LWallDown$House;)I"⟩
abbrev cX5_tellItem : ByteArray := prog_7_method_3_code
def yX5_tellItem : MethodName := ⟨RX5, "tellItem", "()Z"⟩
abbrev cX5_nameOf : ByteArray := prog_7_method_4_code
def yX5_nameOf : MethodName := ⟨RX5, "nameOf", "(I)Ljava/lang/String;"⟩
abbrev cX5_tellStone : ByteArray := prog_7_method_5_code
def yX5_tellStone : MethodName := ⟨RX5, "tellStone", "(I)Z"⟩
abbrev cX5_tellBeam : ByteArray := prog_7_method_6_code
def yX5_tellBeam : MethodName := ⟨RX5, "tellBeam", "()Z"⟩
abbrev cX5_tellWedge : ByteArray := prog_7_method_7_code
def yX5_tellWedge : MethodName := ⟨RX5, "tellWedge", "()Z"⟩
abbrev cX5_tellSlack : ByteArray := prog_7_method_8_code
def yX5_tellSlack : MethodName := ⟨RX5, "tellSlack", "()Z"⟩
abbrev cX5_tellPulls : ByteArray := prog_7_method_9_code
def yX5_tellPulls : MethodName := ⟨RX5, "tellPulls", "()Z"⟩
def RX6 : String := "WallDown"
def TX6 : u_T := fun k => match k with
  | 0 => ("WallDown", "house", "LWallDown$House;", true)
  | 1 => ("WallDown", "kept", "LWallDown$House;", true)
  | 2 => ("WallDown", "trial", "LWallDown$House;", true)
  | 3 => ("WallDown", "survey", "LWallDown$Survey;", true)
  | 4 => ("WallDown", "rows", "LWallDown$Rows;", true)
  | 5 => ("WallDown", "teller", "LWallDown$Teller;", true)
  | 6 => ("WallDown", "sheets", "[LWallDown$Sheet;", true)
  | 7 => ("WallDown", "found", "[I", true)
  | _ => ("WallDown", "keeps", "Z", false)
def tyX6 : Nat → FieldType := fun k => match k with
  | 0 => .object "WallDown$House"
  | 1 => .object "WallDown$House"
  | 2 => .object "WallDown$House"
  | 3 => .object "WallDown$Survey"
  | 4 => .object "WallDown$Rows"
  | 5 => .object "WallDown$Teller"
  | 6 => .array (.object "WallDown$Sheet")
  | 7 => .array .int
  | _ => .boolean
abbrev wsX60 : List Cond := u_ws RX6 TX6 9
theorem nmX6 : ∀ a, a < 9 → ∀ b, b < 9 → a ≠ b → (TX6 a).2.1 ≠ (TX6 b).2.1 := by decide +kernel
theorem tyX6_ok : ∀ k, k < 9 → parseFieldDescriptor (TX6 k).2.2.1 = some (tyX6 k) := by decide +kernel
abbrev cX6_init : ByteArray := prog_1_method_1_code
def yX6_init : MethodName := ⟨RX6, "<init>", "()V"⟩
abbrev cX6_stone : ByteArray := prog_1_method_2_code
def yX6_stone : MethodName := ⟨RX6, "stone", "(III)I"⟩
abbrev cX6_wallOf : ByteArray := prog_1_method_3_code
def yX6_wallOf : MethodName := ⟨RX6, "wallOf", "(II)I"⟩
abbrev cX6_of : ByteArray := prog_1_method_4_code
def yX6_of : MethodName := ⟨RX6, "of", "(III)I"⟩
abbrev cX6_set : ByteArray := prog_1_method_5_code
def yX6_set : MethodName := ⟨RX6, "set", "(IIII)I"⟩
abbrev cX6_turn : ByteArray := prog_1_method_6_code
def yX6_turn : MethodName := ⟨RX6, "turn", "(III)I"⟩
abbrev cX6_as : ByteArray := prog_1_method_7_code
def yX6_as : MethodName := ⟨RX6, "as", "(III)I"⟩
abbrev cX6_wedge : ByteArray := prog_1_method_8_code
def yX6_wedge : MethodName := ⟨RX6, "wedge", "(II)I"⟩
abbrev cX6_slack : ByteArray := prog_1_method_9_code
def yX6_slack : MethodName := ⟨RX6, "slack", "(I)I"⟩
abbrev cX6_beam : ByteArray := prog_1_method_10_code
def yX6_beam : MethodName := ⟨RX6, "beam", "(IZ)I"⟩
abbrev cX6_nights : ByteArray := prog_1_method_11_code
def yX6_nights : MethodName := ⟨RX6, "nights", "(I)I"⟩
abbrev cX6_now : ByteArray := prog_1_method_12_code
def yX6_now : MethodName := ⟨RX6, "now", "(I)I"⟩
abbrev cX6_pull : ByteArray := prog_1_method_13_code
def yX6_pull : MethodName := ⟨RX6, "pull", "(I)I"⟩
abbrev cX6_pulls : ByteArray := prog_1_method_14_code
def yX6_pulls : MethodName := ⟨RX6, "pulls", "()I"⟩
abbrev cX6_can : ByteArray := prog_1_method_15_code
def yX6_can : MethodName := ⟨RX6, "can", "(I)I"⟩
abbrev cX6_stands : ByteArray := prog_1_method_16_code
def yX6_stands : MethodName := ⟨RX6, "stands", "()I"⟩
abbrev cX6_least : ByteArray := prog_1_method_17_code
def yX6_least : MethodName := ⟨RX6, "least", "()I"⟩
abbrev cX6_ways : ByteArray := prog_1_method_18_code
def yX6_ways : MethodName := ⟨RX6, "ways", "(I)J"⟩
abbrev cX6_first : ByteArray := prog_1_method_19_code
def yX6_first : MethodName := ⟨RX6, "first", "(I)I"⟩
abbrev cX6_bring : ByteArray := prog_1_method_20_code
def yX6_bring : MethodName := ⟨RX6, "bring", "(I)I"⟩
abbrev cX6_slackFor : ByteArray := prog_1_method_21_code
def yX6_slackFor : MethodName := ⟨RX6, "slackFor", "(I)I"⟩
abbrev cX6_slackAll : ByteArray := prog_1_method_22_code
def yX6_slackAll : MethodName := ⟨RX6, "slackAll", "()I"⟩
abbrev cX6_most : ByteArray := prog_1_method_23_code
def yX6_most : MethodName := ⟨RX6, "most", "(I)I"⟩
abbrev cX6_where : ByteArray := prog_1_method_24_code
def yX6_where : MethodName := ⟨RX6, "where", "(I)I"⟩
abbrev cX6_out : ByteArray := prog_1_method_25_code
def yX6_out : MethodName := ⟨RX6, "out", "(II)I"⟩
abbrev cX6_reach : ByteArray := prog_1_method_26_code
def yX6_reach : MethodName := ⟨RX6, "reach", "(I)I"⟩
abbrev cX6_help : ByteArray := prog_1_method_27_code
def yX6_help : MethodName := ⟨RX6, "help", "()I"⟩
abbrev cX6_frees : ByteArray := prog_1_method_28_code
def yX6_frees : MethodName := ⟨RX6, "frees", "()I"⟩
abbrev cX6_kind : ByteArray := prog_1_method_29_code
def yX6_kind : MethodName := ⟨RX6, "kind", "(I)I"⟩
abbrev cX6_till : ByteArray := prog_1_method_30_code
def yX6_till : MethodName := ⟨RX6, "till", "()I"⟩
abbrev cX6_feed : ByteArray := prog_1_method_31_code
def yX6_feed : MethodName := ⟨RX6, "feed", "(II)I"⟩
abbrev cX6_wipe : ByteArray := prog_1_method_32_code
def yX6_wipe : MethodName := ⟨RX6, "wipe", "()I"⟩
abbrev cX6_house : ByteArray := prog_1_method_33_code
def yX6_house : MethodName := ⟨RX6, "house", "()I"⟩
abbrev cX6_sheet : ByteArray := prog_1_method_34_code
def yX6_sheet : MethodName := ⟨RX6, "sheet", "(III)I"⟩
abbrev cX6_write : ByteArray := prog_1_method_35_code
def yX6_write : MethodName := ⟨RX6, "write", "(IIJ)J"⟩
abbrev cX6_copy : ByteArray := prog_1_method_36_code
def yX6_copy : MethodName := ⟨RX6, "copy", "(IIIII)I"⟩
abbrev cX6_lays : ByteArray := prog_1_method_37_code
def yX6_lays : MethodName := ⟨RX6, "lays", "(I)I"⟩
abbrev cX6_book : ByteArray := prog_1_method_38_code
def yX6_book : MethodName := ⟨RX6, "book", "(I)I"⟩
abbrev cX6_read : ByteArray := prog_1_method_39_code
def yX6_read : MethodName := ⟨RX6, "read", "(I)J"⟩
abbrev cX6_image : ByteArray := prog_1_method_40_code
def yX6_image : MethodName := ⟨RX6, "image", "()I"⟩
abbrev cX6_undo : ByteArray := prog_1_method_41_code
def yX6_undo : MethodName := ⟨RX6, "undo", "()I"⟩
abbrev cX6_tear : ByteArray := prog_1_method_42_code
def yX6_tear : MethodName := ⟨RX6, "tear", "()I"⟩
abbrev cX6_count : ByteArray := prog_1_method_43_code
def yX6_count : MethodName := ⟨RX6, "count", "(I)I"⟩
abbrev cX6_status : ByteArray := prog_1_method_44_code
def yX6_status : MethodName := ⟨RX6, "status", "(I)I"⟩
abbrev cX6_finding : ByteArray := prog_1_method_45_code
def yX6_finding : MethodName := ⟨RX6, "finding", "(I)I"⟩
abbrev cX6_sheetFinding : ByteArray := prog_1_method_46_code
def yX6_sheetFinding : MethodName := ⟨RX6, "sheetFinding", "(I)I"⟩
abbrev cX6_isStone : ByteArray := prog_1_method_47_code
def yX6_isStone : MethodName := ⟨RX6, "isStone", "(II)Z"⟩
abbrev cX6_isStand : ByteArray := prog_1_method_48_code
def yX6_isStand : MethodName := ⟨RX6, "isStand", "(I)Z"⟩
abbrev cX6_mayGoAsLowest : ByteArray := prog_1_method_49_code
def yX6_mayGoAsLowest : MethodName := ⟨RX6, "mayGoAsLowest", "(II)Z"⟩
abbrev cX6_standsOf : ByteArray := prog_1_method_50_code
def yX6_standsOf : MethodName := ⟨RX6, "standsOf", "(LWallDown$House;)I"⟩
abbrev cX6_canBe : ByteArray := prog_1_method_51_code
def yX6_canBe : MethodName := ⟨RX6, "canBe", "(LWallDown$House;I)Z"⟩
abbrev cX6_bestStand : ByteArray := prog_1_method_52_code
def yX6_bestStand : MethodName := ⟨RX6, "bestStand", "(I)I"⟩
abbrev cX6_leastSlack : ByteArray := prog_1_method_53_code
def yX6_leastSlack : MethodName := ⟨RX6, "leastSlack", "(I)I"⟩
abbrev cX6_isWithin : ByteArray := prog_1_method_54_code
def yX6_isWithin : MethodName := ⟨RX6, "isWithin", "(III)Z"⟩
abbrev cX6_isWall : ByteArray := prog_1_method_55_code
def yX6_isWall : MethodName := ⟨RX6, "isWall", "(I)Z"⟩
abbrev cX6_isKind : ByteArray := prog_1_method_56_code
def yX6_isKind : MethodName := ⟨RX6, "isKind", "(I)Z"⟩
abbrev cX6_isHigh : ByteArray := prog_1_method_57_code
def yX6_isHigh : MethodName := ⟨RX6, "isHigh", "(I)Z"⟩
abbrev cX6_isSheet : ByteArray := prog_1_method_58_code
def yX6_isSheet : MethodName := ⟨RX6, "isSheet", "(I)Z"⟩
abbrev cX6_isWidth : ByteArray := prog_1_method_59_code
def yX6_isWidth : MethodName := ⟨RX6, "isWidth", "(I)Z"⟩
abbrev cX6_isUnder : ByteArray := prog_1_method_60_code
def yX6_isUnder : MethodName := ⟨RX6, "isUnder", "(II)Z"⟩
abbrev cX6_asNumber : ByteArray := prog_1_method_61_code
def yX6_asNumber : MethodName := ⟨RX6, "asNumber", "(Z)I"⟩
def RX7 : String := "WallDownModel"
def TX7 : u_T := fun k => match k with
  | 0 => ("WallDownModel", "row", "[I", true)
  | 1 => ("WallDownModel", "found", "[I", true)
  | 2 => ("WallDownModel", "top", "[I", true)
  | 3 => ("WallDownModel", "paid", "[I", true)
  | 4 => ("WallDownModel", "rows", "[J", true)
  | 5 => ("WallDownModel", "goes", "[I", true)
  | 6 => ("WallDownModel", "leads", "[Z", true)
  | 7 => ("WallDownModel", "need", "[I", true)
  | 8 => ("WallDownModel", "tape", "[I", true)
  | 9 => ("WallDownModel", "tapeMany", "I", false)
  | 10 => ("WallDownModel", "sort", "I", false)
  | 11 => ("WallDownModel", "begins", "I", false)
  | 12 => ("WallDownModel", "tokenEnds", "I", false)
  | 13 => ("WallDownModel", "word", "J", false)
  | 14 => ("WallDownModel", "value", "I", false)
  | 15 => ("WallDownModel", "good", "Z", false)
  | 16 => ("WallDownModel", "bitsOf", "[I", true)
  | 17 => ("WallDownModel", "sizeOf", "[I", true)
  | 18 => ("WallDownModel", "sheets", "[J", true)
  | 19 => ("WallDownModel", "lent", "[J", true)
  | 20 => ("WallDownModel", "image", "[I", true)
  | 21 => ("WallDownModel", "before", "[I", true)
  | _ => ("WallDownModel", "isKept", "Z", false)
def tyX7 : Nat → FieldType := fun k => match k with
  | 0 => .array .int
  | 1 => .array .int
  | 2 => .array .int
  | 3 => .array .int
  | 4 => .array .long
  | 5 => .array .int
  | 6 => .array .boolean
  | 7 => .array .int
  | 8 => .array .int
  | 9 => .int
  | 10 => .int
  | 11 => .int
  | 12 => .int
  | 13 => .long
  | 14 => .int
  | 15 => .boolean
  | 16 => .array .int
  | 17 => .array .int
  | 18 => .array .long
  | 19 => .array .long
  | 20 => .array .int
  | 21 => .array .int
  | _ => .boolean
abbrev wsX70 : List Cond := u_ws RX7 TX7 23
theorem nmX7 : ∀ a, a < 23 → ∀ b, b < 23 → a ≠ b → (TX7 a).2.1 ≠ (TX7 b).2.1 := by decide +kernel
theorem tyX7_ok : ∀ k, k < 23 → parseFieldDescriptor (TX7 k).2.2.1 = some (tyX7 k) := by decide +kernel
abbrev cX7_init : ByteArray := prog_9_method_1_code
def yX7_init : MethodName := ⟨RX7, "<init>", "()V"⟩
abbrev cX7_in : ByteArray := prog_9_method_2_code
def yX7_in : MethodName := ⟨RX7, "in", "(III)Z"⟩
abbrev cX7_finds : ByteArray := prog_9_method_3_code
def yX7_finds : MethodName := ⟨RX7, "finds", "(I)I"⟩
abbrev cX7_isWall : ByteArray := prog_9_method_4_code
def yX7_isWall : MethodName := ⟨RX7, "isWall", "(I)Z"⟩
abbrev cX7_isKind : ByteArray := prog_9_method_5_code
def yX7_isKind : MethodName := ⟨RX7, "isKind", "(I)Z"⟩
abbrev cX7_many : ByteArray := prog_9_method_6_code
def yX7_many : MethodName := ⟨RX7, "many", "(I)I"⟩
abbrev cX7_isStone : ByteArray := prog_9_method_7_code
def yX7_isStone : MethodName := ⟨RX7, "isStone", "(II)Z"⟩
abbrev cX7_at : ByteArray := prog_9_method_8_code
def yX7_at : MethodName := ⟨RX7, "at", "(III)I"⟩
abbrev cX7_its : ByteArray := prog_9_method_9_code
def yX7_its : MethodName := ⟨RX7, "its", "(III)I"⟩
abbrev cX7_tall : ByteArray := prog_9_method_10_code
def yX7_tall : MethodName := ⟨RX7, "tall", "(II)I"⟩
abbrev cX7_coin : ByteArray := prog_9_method_11_code
def yX7_coin : MethodName := ⟨RX7, "coin", "(II)I"⟩
abbrev cX7_left : ByteArray := prog_9_method_12_code
def yX7_left : MethodName := ⟨RX7, "left", "(II)I"⟩
abbrev cX7_mayGo : ByteArray := prog_9_method_13_code
def yX7_mayGo : MethodName := ⟨RX7, "mayGo", "(III)Z"⟩
abbrev cX7_standNow : ByteArray := prog_9_method_14_code
def yX7_standNow : MethodName := ⟨RX7, "standNow", "()I"⟩
abbrev cX7_stones : ByteArray := prog_9_method_15_code
def yX7_stones : MethodName := ⟨RX7, "stones", "(I)I"⟩
abbrev cX7_findTops : ByteArray := prog_9_method_16_code
def yX7_findTops : MethodName := ⟨RX7, "findTops", "()V"⟩
abbrev cX7_topIn : ByteArray := prog_9_method_17_code
def yX7_topIn : MethodName := ⟨RX7, "topIn", "(II)I"⟩
abbrev cX7_lies : ByteArray := prog_9_method_18_code
def yX7_lies : MethodName := ⟨RX7, "lies", "(I)Z"⟩
abbrev cX7_unlikeAt : ByteArray := prog_9_method_19_code
def yX7_unlikeAt : MethodName := ⟨RX7, "unlikeAt", "(II)I"⟩
abbrev cX7_isSafe : ByteArray := prog_9_method_20_code
def yX7_isSafe : MethodName := ⟨RX7, "isSafe", "(I)Z"⟩
abbrev cX7_canPull : ByteArray := prog_9_method_21_code
def yX7_canPull : MethodName := ⟨RX7, "canPull", "(II)Z"⟩
abbrev cX7_addStone : ByteArray := prog_9_method_22_code
def yX7_addStone : MethodName := ⟨RX7, "addStone", "(IIII)V"⟩
abbrev cX7_stone : ByteArray := prog_9_method_23_code
def yX7_stone : MethodName := ⟨RX7, "stone", "(III)I"⟩
abbrev cX7_wallOf : ByteArray := prog_9_method_24_code
def yX7_wallOf : MethodName := ⟨RX7, "wallOf", "(II)I"⟩
abbrev cX7_of : ByteArray := prog_9_method_25_code
def yX7_of : MethodName := ⟨RX7, "of", "(III)I"⟩
abbrev cX7_set : ByteArray := prog_9_method_26_code
def yX7_set : MethodName := ⟨RX7, "set", "(IIII)I"⟩
abbrev cX7_turn : ByteArray := prog_9_method_27_code
def yX7_turn : MethodName := ⟨RX7, "turn", "(III)I"⟩
abbrev cX7_isUnder : ByteArray := prog_9_method_28_code
def yX7_isUnder : MethodName := ⟨RX7, "isUnder", "(II)Z"⟩
abbrev cX7_as : ByteArray := prog_9_method_29_code
def yX7_as : MethodName := ⟨RX7, "as", "(III)I"⟩
abbrev cX7_wedge : ByteArray := prog_9_method_30_code
def yX7_wedge : MethodName := ⟨RX7, "wedge", "(II)I"⟩
abbrev cX7_slack : ByteArray := prog_9_method_31_code
def yX7_slack : MethodName := ⟨RX7, "slack", "(I)I"⟩
abbrev cX7_beam : ByteArray := prog_9_method_32_code
def yX7_beam : MethodName := ⟨RX7, "beam", "(IZ)I"⟩
abbrev cX7_allTops : ByteArray := prog_9_method_33_code
def yX7_allTops : MethodName := ⟨RX7, "allTops", "()I"⟩
abbrev cX7_nights : ByteArray := prog_9_method_34_code
def yX7_nights : MethodName := ⟨RX7, "nights", "(I)I"⟩
abbrev cX7_mostUnlike : ByteArray := prog_9_method_35_code
def yX7_mostUnlike : MethodName := ⟨RX7, "mostUnlike", "()I"⟩
abbrev cX7_now : ByteArray := prog_9_method_36_code
def yX7_now : MethodName := ⟨RX7, "now", "(I)I"⟩
abbrev cX7_takeOut : ByteArray := prog_9_method_37_code
def yX7_takeOut : MethodName := ⟨RX7, "takeOut", "(I)V"⟩
abbrev cX7_canPullNow : ByteArray := prog_9_method_38_code
def yX7_canPullNow : MethodName := ⟨RX7, "canPullNow", "(I)Z"⟩
abbrev cX7_pull : ByteArray := prog_9_method_39_code
def yX7_pull : MethodName := ⟨RX7, "pull", "(I)I"⟩
abbrev cX7_pulls : ByteArray := prog_9_method_40_code
def yX7_pulls : MethodName := ⟨RX7, "pulls", "()I"⟩
abbrev cX7_findGoes : ByteArray := prog_9_method_41_code
def yX7_findGoes : MethodName := ⟨RX7, "findGoes", "()V"⟩
abbrev cX7_countRows : ByteArray := prog_9_method_42_code
def yX7_countRows : MethodName := ⟨RX7, "countRows", "()V"⟩
abbrev cX7_findRows : ByteArray := prog_9_method_43_code
def yX7_findRows : MethodName := ⟨RX7, "findRows", "()V"⟩
abbrev cX7_isStand : ByteArray := prog_9_method_44_code
def yX7_isStand : MethodName := ⟨RX7, "isStand", "(I)Z"⟩
abbrev cX7_can : ByteArray := prog_9_method_45_code
def yX7_can : MethodName := ⟨RX7, "can", "(I)I"⟩
abbrev cX7_howMany : ByteArray := prog_9_method_46_code
def yX7_howMany : MethodName := ⟨RX7, "howMany", "()I"⟩
abbrev cX7_howManyNow : ByteArray := prog_9_method_47_code
def yX7_howManyNow : MethodName := ⟨RX7, "howManyNow", "()I"⟩
abbrev cX7_stands : ByteArray := prog_9_method_48_code
def yX7_stands : MethodName := ⟨RX7, "stands", "()I"⟩
abbrev cX7_least : ByteArray := prog_9_method_49_code
def yX7_least : MethodName := ⟨RX7, "least", "()I"⟩
abbrev cX7_ways : ByteArray := prog_9_method_50_code
def yX7_ways : MethodName := ⟨RX7, "ways", "(I)J"⟩
abbrev cX7_findLeads : ByteArray := prog_9_method_51_code
def yX7_findLeads : MethodName := ⟨RX7, "findLeads", "(I)V"⟩
abbrev cX7_firstFrom : ByteArray := prog_9_method_52_code
def yX7_firstFrom : MethodName := ⟨RX7, "firstFrom", "(I)I"⟩
abbrev cX7_first : ByteArray := prog_9_method_53_code
def yX7_first : MethodName := ⟨RX7, "first", "(I)I"⟩
abbrev cX7_bring : ByteArray := prog_9_method_54_code
def yX7_bring : MethodName := ⟨RX7, "bring", "(I)I"⟩
abbrev cX7_widest : ByteArray := prog_9_method_55_code
def yX7_widest : MethodName := ⟨RX7, "widest", "(I)I"⟩
abbrev cX7_slackTo : ByteArray := prog_9_method_56_code
def yX7_slackTo : MethodName := ⟨RX7, "slackTo", "(I)I"⟩
abbrev cX7_slackFor : ByteArray := prog_9_method_57_code
def yX7_slackFor : MethodName := ⟨RX7, "slackFor", "(I)I"⟩
abbrev cX7_slackAll : ByteArray := prog_9_method_58_code
def yX7_slackAll : MethodName := ⟨RX7, "slackAll", "()I"⟩
abbrev cX7_paidIn : ByteArray := prog_9_method_59_code
def yX7_paidIn : MethodName := ⟨RX7, "paidIn", "(I)I"⟩
abbrev cX7_richest : ByteArray := prog_9_method_60_code
def yX7_richest : MethodName := ⟨RX7, "richest", "(I)I"⟩
abbrev cX7_richestNow : ByteArray := prog_9_method_61_code
def yX7_richestNow : MethodName := ⟨RX7, "richestNow", "(I)I"⟩
abbrev cX7_most : ByteArray := prog_9_method_62_code
def yX7_most : MethodName := ⟨RX7, "most", "(I)I"⟩
abbrev cX7_where : ByteArray := prog_9_method_63_code
def yX7_where : MethodName := ⟨RX7, "where", "(I)I"⟩
abbrev cX7_out : ByteArray := prog_9_method_64_code
def yX7_out : MethodName := ⟨RX7, "out", "(II)I"⟩
abbrev cX7_reach : ByteArray := prog_9_method_65_code
def yX7_reach : MethodName := ⟨RX7, "reach", "(I)I"⟩
abbrev cX7_help : ByteArray := prog_9_method_66_code
def yX7_help : MethodName := ⟨RX7, "help", "()I"⟩
abbrev cX7_frees : ByteArray := prog_9_method_67_code
def yX7_frees : MethodName := ⟨RX7, "frees", "()I"⟩
abbrev cX7_kind : ByteArray := prog_9_method_68_code
def yX7_kind : MethodName := ⟨RX7, "kind", "(I)I"⟩
abbrev cX7_till : ByteArray := prog_9_method_69_code
def yX7_till : MethodName := ⟨RX7, "till", "()I"⟩
abbrev cX7_feed : ByteArray := prog_9_method_70_code
def yX7_feed : MethodName := ⟨RX7, "feed", "(II)I"⟩
abbrev cX7_wipe : ByteArray := prog_9_method_71_code
def yX7_wipe : MethodName := ⟨RX7, "wipe", "()I"⟩
abbrev cX7_byteAt : ByteArray := prog_9_method_72_code
def yX7_byteAt : MethodName := ⟨RX7, "byteAt", "(I)I"⟩
abbrev cX7_isLetter : ByteArray := prog_9_method_73_code
def yX7_isLetter : MethodName := ⟨RX7, "isLetter", "(I)Z"⟩
abbrev cX7_isDigit : ByteArray := prog_9_method_74_code
def yX7_isDigit : MethodName := ⟨RX7, "isDigit", "(I)Z"⟩
abbrev cX7_advance : ByteArray := prog_9_method_75_code
def yX7_advance : MethodName := ⟨RX7, "advance", "()V"⟩
abbrev cX7_isWord : ByteArray := prog_9_method_76_code
def yX7_isWord : MethodName := ⟨RX7, "isWord", "(J)Z"⟩
abbrev cX7_kindHere : ByteArray := prog_9_method_77_code
def yX7_kindHere : MethodName := ⟨RX7, "kindHere", "()I"⟩
abbrev cX7_wantNumber : ByteArray := prog_9_method_78_code
def yX7_wantNumber : MethodName := ⟨RX7, "wantNumber", "(II)I"⟩
abbrev cX7_mayWant : ByteArray := prog_9_method_79_code
def yX7_mayWant : MethodName := ⟨RX7, "mayWant", "(JIII)I"⟩
abbrev cX7_wantStone : ByteArray := prog_9_method_80_code
def yX7_wantStone : MethodName := ⟨RX7, "wantStone", "(I)V"⟩
abbrev cX7_wantBeam : ByteArray := prog_9_method_81_code
def yX7_wantBeam : MethodName := ⟨RX7, "wantBeam", "()V"⟩
abbrev cX7_wantWedge : ByteArray := prog_9_method_82_code
def yX7_wantWedge : MethodName := ⟨RX7, "wantWedge", "()V"⟩
abbrev cX7_wantSlack : ByteArray := prog_9_method_83_code
def yX7_wantSlack : MethodName := ⟨RX7, "wantSlack", "()V"⟩
abbrev cX7_wantPulls : ByteArray := prog_9_method_84_code
def yX7_wantPulls : MethodName := ⟨RX7, "wantPulls", "()V"⟩
abbrev cX7_wantItem : ByteArray := prog_9_method_85_code
def yX7_wantItem : MethodName := ⟨RX7, "wantItem", "()V"⟩
abbrev cX7_house : ByteArray := prog_9_method_86_code
def yX7_house : MethodName := ⟨RX7, "house", "()I"⟩
abbrev cX7_isSheet : ByteArray := prog_9_method_87_code
def yX7_isSheet : MethodName := ⟨RX7, "isSheet", "(I)Z"⟩
abbrev cX7_narrow : ByteArray := prog_9_method_88_code
def yX7_narrow : MethodName := ⟨RX7, "narrow", "(IJ)J"⟩
abbrev cX7_sheet : ByteArray := prog_9_method_89_code
def yX7_sheet : MethodName := ⟨RX7, "sheet", "(III)I"⟩
abbrev cX7_write : ByteArray := prog_9_method_90_code
def yX7_write : MethodName := ⟨RX7, "write", "(IIJ)J"⟩
abbrev cX7_isPart : ByteArray := prog_9_method_91_code
def yX7_isPart : MethodName := ⟨RX7, "isPart", "(III)Z"⟩
abbrev cX7_copy : ByteArray := prog_9_method_92_code
def yX7_copy : MethodName := ⟨RX7, "copy", "(IIIII)I"⟩
abbrev cX7_lays : ByteArray := prog_9_method_93_code
def yX7_lays : MethodName := ⟨RX7, "lays", "(I)I"⟩
abbrev cX7_book : ByteArray := prog_9_method_94_code
def yX7_book : MethodName := ⟨RX7, "book", "(I)I"⟩
abbrev cX7_read : ByteArray := prog_9_method_95_code
def yX7_read : MethodName := ⟨RX7, "read", "(I)J"⟩
abbrev cX7_moveAll : ByteArray := prog_9_method_96_code
def yX7_moveAll : MethodName := ⟨RX7, "moveAll", "(Z[I)V"⟩
abbrev cX7_image : ByteArray := prog_9_method_97_code
def yX7_image : MethodName := ⟨RX7, "image", "()I"⟩
abbrev cX7_undo : ByteArray := prog_9_method_98_code
def yX7_undo : MethodName := ⟨RX7, "undo", "()I"⟩
abbrev cX7_tear : ByteArray := prog_9_method_99_code
def yX7_tear : MethodName := ⟨RX7, "tear", "()I"⟩
abbrev cX7_count : ByteArray := prog_9_method_100_code
def yX7_count : MethodName := ⟨RX7, "count", "(I)I"⟩
abbrev cX7_status : ByteArray := prog_9_method_101_code
def yX7_status : MethodName := ⟨RX7, "status", "(I)I"⟩
def RJ9 : String := "java/lang/Math"
abbrev cJ9_abs_0f7a4 : ByteArray := prog_10_method_59_code
def yJ9_abs_0f7a4 : MethodName := ⟨RJ9, "abs", "(I)I"⟩
abbrev cJ9_max_7cf53 : ByteArray := prog_10_method_65_code
def yJ9_max_7cf53 : MethodName := ⟨RJ9, "max", "(II)I"⟩
abbrev cJ9_min_7cf53 : ByteArray := prog_10_method_69_code
def yJ9_min_7cf53 : MethodName := ⟨RJ9, "min", "(II)I"⟩
def RJ0 : String := "java/lang/String"
abbrev cJ0_length_8abf5 : ByteArray := prog_11_method_54_code
def yJ0_length_8abf5 : MethodName := ⟨RJ0, "length", "()I"⟩
abbrev cJ0_charAt_5068e : ByteArray := prog_11_method_56_code
def yJ0_charAt_5068e : MethodName := ⟨RJ0, "charAt", "(I)C"⟩
abbrev cJ0_coder_7d493 : ByteArray := prog_11_method_152_code
def yJ0_coder_7d493 : MethodName := ⟨RJ0, "coder", "()B"⟩
abbrev cJ0_isLatin1_aae02 : ByteArray := prog_11_method_154_code
def yJ0_isLatin1_aae02 : MethodName := ⟨RJ0, "isLatin1", "()Z"⟩
abbrev cJ0_checkIndex_df160 : ByteArray := prog_11_method_155_code
def yJ0_checkIndex_df160 : MethodName := ⟨RJ0, "checkIndex", "(II)V"⟩
def RJ1 : String := "java/lang/StringLatin1"
abbrev cJ1_charAt_3b067 : ByteArray := prog_12_method_2_code
def yJ1_charAt_3b067 : MethodName := ⟨RJ1, "charAt", "([BI)C"⟩
def RJ2 : String := "java/lang/StringUTF16"
abbrev cJ2_getChar_3b067 : ByteArray := prog_13_method_5_code
def yJ2_getChar_3b067 : MethodName := ⟨RJ2, "getChar", "([BI)C"⟩
abbrev cJ2_length_9d52b : ByteArray := prog_13_method_6_code
def yJ2_length_9d52b : MethodName := ⟨RJ2, "length", "([B)I"⟩
abbrev cJ2_charAt_3b067 : ByteArray := prog_13_method_83_code
def yJ2_charAt_3b067 : MethodName := ⟨RJ2, "charAt", "([BI)C"⟩
abbrev cJ2_checkIndex_2214a : ByteArray := prog_13_method_91_code
def yJ2_checkIndex_2214a : MethodName := ⟨RJ2, "checkIndex", "(I[B)V"⟩
def RJ10 : String := "java/lang/System"
def RJ7 : String := "java/util/Arrays"
abbrev cJ7_rangeCheck_23922 : ByteArray := prog_15_method_30_code
def yJ7_rangeCheck_23922 : MethodName := ⟨RJ7, "rangeCheck", "(III)V"⟩
abbrev cJ7_fill_d0a16 : ByteArray := prog_15_method_101_code
def yJ7_fill_d0a16 : MethodName := ⟨RJ7, "fill", "([JJ)V"⟩
abbrev cJ7_fill_bad5a : ByteArray := prog_15_method_102_code
def yJ7_fill_bad5a : MethodName := ⟨RJ7, "fill", "([JIIJ)V"⟩
abbrev cJ7_fill_53178 : ByteArray := prog_15_method_103_code
def yJ7_fill_53178 : MethodName := ⟨RJ7, "fill", "([II)V"⟩
def RJ3 : String := "jdk/internal/util/Preconditions"
abbrev cJ3_checkIndex_8e157 : ByteArray := prog_16_method_11_code
def yJ3_checkIndex_8e157 : MethodName := ⟨RJ3, "checkIndex", "(IILjava/util/function/BiFunction;)I"⟩
def RL : String := "WallDownLaw"
abbrev cL_law : ByteArray := code
def yL_law : MethodName := ⟨RL, "law", "([I)Z"⟩
end
section
/-! THE SMALL STORE. After the two constructors nothing is made any more: 65 cells, whose references never change. A state is what their ints and longs hold, by cell and slot. -/
abbrev St : Type := (Nat → Nat → Int32) × (Nat → Nat → Int64)
def gI (σ : St) (a j : Nat) : Int32 := σ.1 a j
def gL (σ : St) (a j : Nat) : Int64 := σ.2 a j
def sI (σ : St) (a j : Nat) (v : Int32) : St := (fun b => if b = a then upd (σ.1 b) j v else σ.1 b, σ.2)
def sL (σ : St) (a j : Nat) (v : Int64) : St := (σ.1, fun b => if b = a then vp_updL (σ.2 b) j v else σ.2 b)
/-- a run of ints, of longs, copied -/
def cI (σ : St) (a : Nat) (i : Nat) (d : Nat) (j : Nat) (n : Nat) : St := (fun b => if b = d then va_cpy (σ.1 a) (σ.1 d) i j n else σ.1 b, σ.2)
def cL (σ : St) (a : Nat) (i : Nat) (d : Nat) (j : Nat) (n : Nat) : St := (σ.1, fun b => if b = d then va_cpy (σ.2 a) (σ.2 d) i j n else σ.2 b)
/-- the kind of each cell: 0 to 7 an object of that class, 8 ints, 9 longs, 10 booleans, 11 sheets -/
def kdL : List Nat := [6, 0,8,8,8,8,8, 0,8,8,8,8,8, 0,8,8,8,8,8, 3,8,8,8, 1,9,8, 5,4,8, 0,8,8,8,8,8, 3,8,8,8, 11, 8, 2,9, 2,9, 2,9, 2,9, 7, 8,8,8,8,9,8,10,8,8,8,8,9,9,8,8]
def lnL : List Nat := [0, 0,28,28,28,4,4, 0,28,28,28,4,4, 0,28,28,28,4,4, 0,32,32,32, 0,4096,29, 0,0,120, 0,28,28,28,4,4, 0,32,32,32, 4, 7, 0,40, 0,40, 0,40, 0,40, 0, 96,7,32,32,4096,4096,4096,4096,120,4,4,160,40,96,96]
def kd (k : Nat) : Nat := kdL.getD k 99
def ln (k : Nat) : Nat := lnL.getD k 0
/-- a class's fields: (0, d) a reference to the cell d further on, (1, 0) an int, (2, 0) a boolean, (3, 0) a long -/
def fl (c : Nat) : List (Nat × Nat) := match c with
  | 0 => [(0,1),(0,2),(0,3),(0,4),(0,5),(1,0),(1,0),(1,0),(1,0)]
  | 1 => [(0,1),(0,2)]
  | 2 => [(0,1),(1,0),(1,0)]
  | 3 => [(0,1),(0,2),(0,3),(1,0),(1,0),(1,0)]
  | 4 => [(0,1),(1,0),(1,0),(1,0),(1,0),(1,0)]
  | 5 => [(0,1),(0,3),(0,9)]
  | 6 => [(0,1),(0,7),(0,13),(0,19),(0,23),(0,26),(0,39),(0,40),(2,0)]
  | _ => [(0,1),(0,2),(0,3),(0,4),(0,5),(0,6),(0,7),(0,8),(0,9),(1,0),(1,0),(1,0),(1,0),(3,0),(1,0),(2,0),(0,10),(0,11),(0,12),(0,13),(0,14),(0,15),(2,0)]
abbrev clsL : List vw_C := [(RX0, TX0, 9), (RX1, TX1, 2), (RX2, TX2, 3), (RX3, TX3, 6), (RX4, TX4, 6), (RX5, TX5, 3), (RX6, TX6, 9), (RX7, TX7, 23)]
/-- where it all lies in a heap: the tables' class numbers, the array classes of int, long, boolean, Sheet, the address of each cell (from 200 on: what lies outside) -/
abbrev Gx : Type := va_G × (ClassId × ClassId × ClassId × ClassId) × (Nat → Nat)
def adO (G : Gx) : Nat → Nat := G.2.2
def tysO (G : Gx) : List (ClassId × FieldType) := [(G.2.1.1, .int), (G.2.1.2.1, .long), (G.2.1.2.2.1, .boolean), (G.2.1.2.2.2, .object "WallDown$Sheet")]
def fvO (G : Gx) (σ : St) (k : Nat) (j : Nat) (f : Nat × Nat) : Value := if f.1 = 0 then .ref (adO G (k + f.2)) else if f.1 = 3 then .long (σ.2 k j) else .int (σ.1 k j)
def fsO (G : Gx) (σ : St) (k : Nat) : List Value := (fl (kd k)).mapIdx (fun j f => fvO G σ k j f)
def ceO (G : Gx) (σ : St) (k : Nat) : va_E :=
  if kd k < 8 then .inr (kd k, fsO G σ k)
  else if kd k = 8 then .inl (G.2.1.1, ln k, .inl (σ.1 k))
  else if kd k = 9 then .inl (G.2.1.2.1, ln k, .inr (.inl (σ.2 k)))
  else if kd k = 10 then .inl (G.2.1.2.2.1, ln k, .inl (σ.1 k))
  else .inl (G.2.1.2.2.2, ln k, .inr (.inr (.inr (.inr (fun j => some (adO G (k + 2 + 2 * j)))))))
def wsO (G : Gx) (σ : St) : va_W := (List.range 65).map (fun k => (adO G k, ceO G σ k))
def Aw (G : Gx) : Nat → Prop := fun q => ∃ k, k < 65 ∧ q = adO G k
theorem kd_lt {k : Nat} (h : kd k < 12) : k < 65 := by
  by_cases h1 : k < 65
  · exact h1
  · have e : kd k = 99 := by
      unfold kd
      rw [List.getD_eq_getElem?_getD, List.getElem?_eq_none (by show kdL.length ≤ k; have : kdL.length = 65 := by decide +kernel
                                                                omega)]
      rfl
    omega
theorem wsO_at {G : Gx} {σ : St} {k : Nat} (h : k < 65) : (wsO G σ)[k]? = some (adO G k, ceO G σ k) := by
  unfold wsO
  rw [List.getElem?_map, List.getElem?_range h]
  rfl
theorem wsO_obj {G : Gx} {σ : St} {k c : Nat} (h : kd k = c) (hc : c < 8) : (wsO G σ)[k]? = some (adO G k, .inr (c, fsO G σ k)) := by
  rw [wsO_at (kd_lt (by omega))]
  unfold ceO
  rw [if_pos (by omega), h]
theorem wsO_int {G : Gx} {σ : St} {k n : Nat} (h : kd k = 8) (hn : ln k = n) : (wsO G σ)[k]? = some (adO G k, .inl (G.2.1.1, n, .inl (σ.1 k))) := by
  rw [wsO_at (kd_lt (by omega))]
  unfold ceO
  rw [if_neg (by omega), if_pos h, hn]
theorem wsO_long {G : Gx} {σ : St} {k n : Nat} (h : kd k = 9) (hn : ln k = n) : (wsO G σ)[k]? = some (adO G k, .inl (G.2.1.2.1, n, .inr (.inl (σ.2 k)))) := by
  rw [wsO_at (kd_lt (by omega))]
  unfold ceO
  rw [if_neg (by omega), if_neg (by omega), if_pos h, hn]
theorem wsO_bool {G : Gx} {σ : St} {k n : Nat} (h : kd k = 10) (hn : ln k = n) : (wsO G σ)[k]? = some (adO G k, .inl (G.2.1.2.2.1, n, .inl (σ.1 k))) := by
  rw [wsO_at (kd_lt (by omega))]
  unfold ceO
  rw [if_neg (by omega), if_neg (by omega), if_neg (by omega), if_pos h, hn]
theorem wsO_sheets {G : Gx} {σ : St} {k n : Nat} (h : kd k = 11) (hn : ln k = n) : (wsO G σ)[k]? = some (adO G k, .inl (G.2.1.2.2.2, n, .inr (.inr (.inr (.inr (fun j => some (adO G (k + 2 + 2 * j)))))))) := by
  rw [wsO_at (kd_lt (by omega))]
  unfold ceO
  rw [if_neg (by omega), if_neg (by omega), if_neg (by omega), if_neg (by omega), hn]
theorem wsO_set {G : Gx} {σ σ' : St} {k : Nat} (hk : k < 65) (hs : ∀ j, j ≠ k → ceO G σ' j = ceO G σ j) : (wsO G σ).set k (adO G k, ceO G σ' k) = wsO G σ' := by
  apply List.ext_getElem?
  intro i
  rw [List.getElem?_set]
  by_cases hi : i < 65
  · rw [wsO_at hi, wsO_at hi]
    by_cases e : k = i
    · subst e
      rw [if_pos rfl, if_pos (by simp [wsO]; exact hk)]
    · rw [if_neg e, hs i (fun z => e z.symm)]
  · have h1 : (wsO G σ)[i]? = none := List.getElem?_eq_none (by simp [wsO]; omega)
    have h2 : (wsO G σ')[i]? = none := List.getElem?_eq_none (by simp [wsO]; omega)
    rw [h1, h2, if_neg (by omega)]
theorem ceO_sI {G : Gx} {σ : St} {a j : Nat} {v : Int32} (k : Nat) (hk : k ≠ a) : ceO G (sI σ a j v) k = ceO G σ k := by
  have e1 : (sI σ a j v).1 k = σ.1 k := by simp [sI, hk]
  have e2 : (sI σ a j v).2 = σ.2 := rfl
  simp only [ceO, fsO, fvO, e1, e2]
theorem ceO_sL {G : Gx} {σ : St} {a j : Nat} {v : Int64} (k : Nat) (hk : k ≠ a) : ceO G (sL σ a j v) k = ceO G σ k := by
  have e1 : (sL σ a j v).2 k = σ.2 k := by simp [sL, hk]
  have e2 : (sL σ a j v).1 = σ.1 := rfl
  simp only [ceO, fsO, fvO, e1, e2]
theorem ceO_cI {G : Gx} {σ : St} {a i d j n : Nat} (k : Nat) (hk : k ≠ d) : ceO G (cI σ a i d j n) k = ceO G σ k := by
  have e1 : (cI σ a i d j n).1 k = σ.1 k := by simp [cI, hk]
  have e2 : (cI σ a i d j n).2 = σ.2 := rfl
  simp only [ceO, fsO, fvO, e1, e2]
theorem ceO_cL {G : Gx} {σ : St} {a i d j n : Nat} (k : Nat) (hk : k ≠ d) : ceO G (cL σ a i d j n) k = ceO G σ k := by
  have e1 : (cL σ a i d j n).2 k = σ.2 k := by simp [cL, hk]
  have e2 : (cL σ a i d j n).1 = σ.1 := rfl
  simp only [ceO, fsO, fvO, e1, e2]
/-- a store of an int into an array -/
theorem wsO_sIa {G : Gx} {σ : St} {a j n : Nat} {v : Int32} (h : kd a = 8) (hn : ln a = n) : (wsO G σ).set a (adO G a, .inl (G.2.1.1, n, .inl (upd (σ.1 a) j v))) = wsO G (sI σ a j v) := by
  rw [← wsO_set (kd_lt (by omega)) (σ := σ) (fun k hk => ceO_sI k hk)]
  congr 2
  unfold ceO
  rw [if_neg (by omega), if_pos h, hn]
  simp [sI]
theorem wsO_sIz {G : Gx} {σ : St} {a j n : Nat} {v : Int32} (h : kd a = 10) (hn : ln a = n) : (wsO G σ).set a (adO G a, .inl (G.2.1.2.2.1, n, .inl (upd (σ.1 a) j v))) = wsO G (sI σ a j v) := by
  rw [← wsO_set (kd_lt (by omega)) (σ := σ) (fun k hk => ceO_sI k hk)]
  congr 2
  unfold ceO
  rw [if_neg (by omega), if_neg (by omega), if_neg (by omega), if_pos h, hn]
  simp [sI]
theorem wsO_sLa {G : Gx} {σ : St} {a j n : Nat} {v : Int64} (h : kd a = 9) (hn : ln a = n) : (wsO G σ).set a (adO G a, .inl (G.2.1.2.1, n, .inr (.inl (vp_updL (σ.2 a) j v)))) = wsO G (sL σ a j v) := by
  rw [← wsO_set (kd_lt (by omega)) (σ := σ) (fun k hk => ceO_sL k hk)]
  congr 2
  unfold ceO
  rw [if_neg (by omega), if_neg (by omega), if_pos h, hn]
  simp [sL]
theorem wsO_cIa {G : Gx} {σ : St} {a i d j c n : Nat} (h : kd d = 8) (hn : ln d = n) : (wsO G σ).set d (adO G d, .inl (G.2.1.1, n, .inl (va_cpy (σ.1 a) (σ.1 d) i j c))) = wsO G (cI σ a i d j c) := by
  rw [← wsO_set (kd_lt (by omega)) (σ := σ) (fun k hk => ceO_cI k hk)]
  congr 2
  unfold ceO
  rw [if_neg (by omega), if_pos h, hn]
  simp [cI]
theorem wsO_cLa {G : Gx} {σ : St} {a i d j c n : Nat} (h : kd d = 9) (hn : ln d = n) : (wsO G σ).set d (adO G d, .inl (G.2.1.2.1, n, .inr (.inl (va_cpy (σ.2 a) (σ.2 d) i j c)))) = wsO G (cL σ a i d j c) := by
  rw [← wsO_set (kd_lt (by omega)) (σ := σ) (fun k hk => ceO_cL k hk)]
  congr 2
  unfold ceO
  rw [if_neg (by omega), if_neg (by omega), if_pos h, hn]
  simp [cL]
theorem fsO_len (G : Gx) (σ : St) (k : Nat) : (fsO G σ k).length = (fl (kd k)).length := by simp [fsO]
theorem fsO_at {G : Gx} {σ : St} {k c j : Nat} {f : Nat × Nat} (h : kd k = c) (hf : (fl c)[j]? = some f) : (fsO G σ k)[j]? = some (fvO G σ k j f) := by
  unfold fsO
  rw [List.getElem?_mapIdx, h, hf]
  rfl
/-- a store of an int into a field -/
theorem wsO_sIf {G : Gx} {σ : St} {a c j : Nat} {f : Nat × Nat} {v : Int32} (h : kd a = c) (hc : c < 8) (hf : (fl c)[j]? = some f) (h1 : f.1 = 1 ∨ f.1 = 2) : (wsO G σ).set a (adO G a, .inr (c, (fsO G σ a).set j (.int v))) = wsO G (sI σ a j v) := by
  rw [← wsO_set (kd_lt (by omega)) (σ := σ) (fun k hk => ceO_sI k hk)]
  congr 2
  unfold ceO
  rw [if_pos (by omega), h]
  congr 2
  apply List.ext_getElem?
  intro i
  rw [List.getElem?_set]
  by_cases e : j = i
  · subst e
    rw [if_pos rfl, if_pos (by rw [fsO_len, h]; exact (List.getElem?_eq_some_iff.mp hf).1), fsO_at h hf]
    unfold fvO
    rw [if_neg (by omega), if_neg (by omega)]
    simp [sI, upd]
  · rw [if_neg e]
    unfold fsO
    rw [List.getElem?_mapIdx, List.getElem?_mapIdx]
    congr 1
    funext g
    simp only [fvO, sI, if_true]
    have e2 : upd (σ.1 a) j v i = σ.1 a i := if_neg (fun z => e z.symm)
    rw [e2]
theorem wsO_sLf {G : Gx} {σ : St} {a c j : Nat} {f : Nat × Nat} {v : Int64} (h : kd a = c) (hc : c < 8) (hf : (fl c)[j]? = some f) (h1 : f.1 = 3) : (wsO G σ).set a (adO G a, .inr (c, (fsO G σ a).set j (.long v))) = wsO G (sL σ a j v) := by
  rw [← wsO_set (kd_lt (by omega)) (σ := σ) (fun k hk => ceO_sL k hk)]
  congr 2
  unfold ceO
  rw [if_pos (by omega), h]
  congr 2
  apply List.ext_getElem?
  intro i
  rw [List.getElem?_set]
  by_cases e : j = i
  · subst e
    rw [if_pos rfl, if_pos (by rw [fsO_len, h]; exact (List.getElem?_eq_some_iff.mp hf).1), fsO_at h hf]
    unfold fvO
    rw [if_neg (by omega), if_pos (by omega)]
    simp [sL, vp_updL]
  · rw [if_neg e]
    unfold fsO
    rw [List.getElem?_mapIdx, List.getElem?_mapIdx]
    congr 1
    funext g
    simp only [fvO, sL, if_true]
    have e2 : vp_updL (σ.2 a) j v i = σ.2 a i := if_neg (fun z => e z.symm)
    rw [e2]
end
section
/-! THE JUDGEMENT Ev: a method of the class, of the reference or of the JDK stands at pc with locals ls, operand stack st, over a heap that holds the small store σ; it comes to its end with an answer and a store of which Q holds. References are the numbers of cells; 999 is null; a local that isn't known is 'un'. -/
def un : Value := .retAddr 0
def usd : Value → Bool
  | .retAddr _ => false
  | _ => true
def cv (G : Gx) : Value → Value
  | .ref k => if k = 999 then .null else .ref (adO G k)
  | v => v
theorem cv_cat (G : Gx) (v : Value) : (cv G v).category = v.category := by
  cases v with
  | ref k => by_cases h : k = 999 <;> simp [cv, h, Value.category]
  | _ => rfl
/-- the words that every contract takes: those of the tables that stay true -/
def Tg : List Cond := lw_tbl.filter goodWord
theorem tg_in {w : Cond} (h : w ∈ lw_tbl) (hg : goodWord w = true) : w ∈ Tg := List.mem_filter.mpr ⟨h, hg⟩
theorem tg_tab {w : Cond} (h : w ∈ tables_1) (hg : goodWord w = true) : w ∈ Tg := tg_in (List.mem_append_right _ h) hg
theorem tg_good (w : Cond) (h : w ∈ Tg) : (w.onTables && w.keeps) = true ∨ ∃ ty, w = .arrayClass ty := good_of_word (List.mem_filter.mp h).2
def aboveL : List Int32 := [-1, 0, 0, 0, 1, 2]
/-- the words' texts, their places in the pool of WallDown$Teller, their bytes -/
def stL : List (Nat × String × List Int32) := [(85, "key", [107, 101, 121]), (87, "rotten", [114, 111, 116, 116, 101, 110]), (89, "through", [116, 104, 114, 111, 117, 103, 104]), (91, "carved", [99, 97, 114, 118, 101, 100]), (93, "false", [102, 97, 108, 115, 101]), (95, "stone", [115, 116, 111, 110, 101]), (108, "high", [104, 105, 103, 104]), (110, "price", [112, 114, 105, 99, 101]), (65, "beam", [98, 101, 97, 109]), (116, "on", [111, 110]), (118, "off", [111, 102, 102]), (70, "wedge", [119, 101, 100, 103, 101]), (75, "slack", [115, 108, 97, 99, 107]), (80, "pull", [112, 117, 108, 108])]
def stN : Nat := 14
def stLen : List Nat := stL.map (fun q => q.2.2.length)
def stByt : List (List Int32) := stL.map (fun q => q.2.2)
/-- what stays true of the tables and of what lies outside the cells -/
def Kx (G : Gx) (U : State) : Prop :=
  va_K G.1 clsL (tysO G) U ∧ (∀ i j : Nat, i < 65 → j < 65 → adO G i = adO G j → i = j) ∧ va_Nw (.methodLinkNest "WallDown$Tape" 53 yX6_isWithin "WallDown") U ∧
  va_Z "WallDown" "ABOVE" "[I" (.ref (adO G 200)) (Aw G) U U.heap ∧ va_T .int (adO G 200) 6 (fun j => .int (aboveL.getD j 0)) (Aw G) U U.heap ∧
  va_Z "java/lang/String" "COMPACT_STRINGS" "Z" (.int 1) (Aw G) U U.heap ∧
  vk_S stN stLen stByt (fun i => adO G (300 + i)) (fun i => adO G (400 + i)) (Aw G) U U.heap ∧
  (∀ i : Nat, i < stN → vk_R "WallDown$Teller" (stL.getD i (0, "", [])).1 (stL.getD i (0, "", [])).2.1 (adO G (300 + i)) U)
theorem Kx.to {G : Gx} {s U : State} {H : Heap} {locs : List Loc} (h : Kx G s) (hS : va_S (Aw G) s.heap H locs) (hU : U.heap = H) (hW : s.WarmedH U.vm) : Kx G U := by
  obtain ⟨h1, h2, h3, h4, h5, h6, h7, h8⟩ := h
  have hq : ∀ a : Nat, a < s.heap.size → ¬ Aw G a → U.heap[a]? = s.heap[a]? := fun a ha hA => by rw [hU]; exact hS.2.1 a ha hA
  have al := hW.alike
  exact ⟨h1.moved al, h2, va_Nw.warmM hW h3, (h4.moved al).kept hq, (h5.moved al).kept hq, (h6.moved al).kept hq, (h7.moved al).kept hq, fun i hi => (h8 i hi).warm hW⟩
theorem Kx.blind {G : Gx} {U : State} (h : Kx G U) (g : JFrame) (mk : MethodId) (a : Array Value) : Kx G (U.calling g mk a) := by
  obtain ⟨h1, h2, h3, h4, h5, h6, h7, h8⟩ := h
  have al : U.vm.Alike (U.calling g mk a).vm := Vm.Alike.refl U.vm
  exact ⟨va_K.moved al h1, h2, va_Nw.same rfl rfl h3, h4.moved al, h5.moved al, h6.moved al, h7.moved al, fun i hi => (h8 i hi).same rfl⟩
theorem Kx.D {G : Gx} {U : State} (h : Kx G U) (σ : St) : va_D (Aw G) (wsO G σ) := by
  refine ⟨fun i j p q hp hq e => ?_, fun k q hk => ?_⟩
  · have hi : i < 65 := by have := (List.getElem?_eq_some_iff.mp hp).1; simpa [wsO] using this
    have hj : j < 65 := by have := (List.getElem?_eq_some_iff.mp hq).1; simpa [wsO] using this
    rw [wsO_at hi] at hp
    rw [wsO_at hj] at hq
    cases hp; cases hq
    exact h.2.1 i j hi hj e
  · have hi : k < 65 := by have := (List.getElem?_eq_some_iff.mp hk).1; simpa [wsO] using this
    rw [wsO_at hi] at hk
    cases hk
    exact ⟨k, hi, rfl⟩
/-- the method that stands -/
def CxO (p : Program) (s : State) (m : MethodId) (args : Array Value) (meth : Method) (c : Code) (cc : ByteArray) (nL : Nat) (rt : Option FieldType) (own : String) : Prop :=
  p.tables.exec = Jvm.exec ∧ c.code = cc ∧ meth.sig.returnType = rt ∧ c.maxLocals = nL ∧ s.vm.findClass own = some m.cls ∧ (∀ w ∈ Tg, w.before args s = true) ∧ meth.locks = false
/-- the locals -/
def lvO (G : Gx) (rl : Array Slot) (nL : Nat) (ls : List Value) : Prop := rl.size = nL ∧ lv_wf rl ∧ ∀ (k : Nat) (v : Value), ls[k]? = some v → usd v = true → rl[k]? = some (.val (cv G v))
/-- a method's end -/
def QcO (G : Gx) (Q : Option Value → St → Prop) : Array Value → State → Outcome → State → Prop := fun _ st o t => (∃ (r : Option Value) (σ : St), o = .returned (r.map (cv G)) ∧ Q r σ ∧ va_P G.1 clsL (wsO G σ) t.heap) ∧ va_F (Aw G) st t
def Ev (cc : ByteArray) (nL : Nat) (rt : Option FieldType) (own : String) (R : Room) (pc : Nat) (ls st : List Value) (σ : St) (Q : Option Value → St → Prop) : Prop :=
  ∀ (p : Program) (l : Launch) (e : Env) (s : State) (m : MethodId) (args : Array Value) (below : List Frame) (meth : Method) (c : Code) (G : Gx) (H : Heap) (locs : List Loc) (rl : Array Slot),
    CxO p s m args meth c cc nL rt own → Kx G s → va_P G.1 clsL (wsO G σ) H → va_S (Aw G) s.heap H locs → lvO G rl nL ls →
    W p l e R s m args below meth c H locs 0 0 (MQ below (QcO G Q) args s 0 0 (Aw G)) (F0 m pc rl (st.map (cv G)))
/-- a method's contract, of the class or of the JDK -/
def Mt (y : MethodName) (cc : ByteArray) (nL : Nat) (rt : Option FieldType) (R : Room) (av : List Value) (σ : St) (Q : Option Value → St → Prop) : Prop :=
  ∀ (l : Launch) (G : Gx), Met l y (.code y cc nL rt :: Tg) R (va_Pc (av.map (cv G)) (fun U => va_P G.1 clsL (wsO G σ) U.heap ∧ Kx G U)) (QcO G Q) 0 0 (Aw G)
/-- the locals at the entry -/
def argL : List Value → List Value
  | [] => []
  | v :: vs => if v.category = 2 then v :: un :: argL vs else v :: argL vs
theorem argL_at (G : Gx) : ∀ (vs : List Value) (o k : Nat) (v : Value), (argL vs)[k]? = some v → usd v = true → (o + k, cv G v) ∈ lv_args o (vs.map (cv G)) := by
  intro vs
  induction vs with
  | nil => intro o k v h; simp [argL] at h
  | cons w vs ih =>
    intro o k v h hu
    unfold argL at h
    simp only [List.map_cons, lv_args, cv_cat]
    by_cases hc : w.category = 2
    · rw [if_pos hc] at h ⊢
      match k, h with
      | 0, h => cases h; exact List.mem_cons_self
      | 1, h => cases h; cases hu
      | k + 2, h =>
        have h1 := ih (o + 2) k v (by simpa using h) hu
        rw [show o + (k + 2) = o + 2 + k by omega]
        exact List.mem_cons_of_mem _ h1
    · rw [if_neg hc] at h ⊢
      match k, h with
      | 0, h => cases h; exact List.mem_cons_self
      | k + 1, h =>
        have h1 := ih (o + 1) k v (by simpa using h) hu
        rw [show o + (k + 1) = o + 1 + k by omega]
        exact List.mem_cons_of_mem _ h1
theorem argL_len : ∀ (G : Gx) (vs : List Value), (lg_sl (vs.map (cv G))).length = (argL vs).length := by
  intro G vs
  induction vs with
  | nil => rfl
  | cons w vs ih =>
    simp only [lg_sl, List.map_cons, List.flatMap_cons, List.length_append, cv_cat] at ih ⊢
    unfold argL
    by_cases hc : w.category = 2
    · rw [if_pos hc, if_pos hc, ih]; simp; omega
    · rw [if_neg hc, if_neg hc, ih]; simp; omega
theorem lvO_entry (G : Gx) (av : List Value) {n k : Nat} {ls : List Value} (hl : argL av ++ List.replicate k un = ls) (hn : (argL av).length ≤ n) :
    lvO G ((lg_sl (av.map (cv G)) ++ List.replicate (n - (lg_sl (av.map (cv G))).length) Slot.unset).toArray) n ls := by
  have h := lv_entry (av.map (cv G)) (n := n) (by rw [argL_len]; exact hn)
  refine ⟨h.1, h.2.1, fun i v hi hu => ?_⟩
  subst hl
  rw [List.getElem?_append] at hi
  split at hi
  · have h1 := argL_at G av 0 i v hi hu
    rw [Nat.zero_add] at h1
    exact h.2.2 _ h1
  · rw [List.getElem?_replicate] at hi
    split at hi
    · cases hi; cases hu
    · cases hi
theorem Mt.of {y : MethodName} {cc : ByteArray} {nL k : Nat} {rt : Option FieldType} {R : Room} {av ls : List Value} {σ : St} {Q : Option Value → St → Prop} (hy : plainName y.cls = true) (hl : argL av ++ List.replicate k un = ls) (hn : (argL av).length ≤ nL)
    (h : Ev cc nL rt y.cls R 0 ls [] σ Q) : Mt y cc nL rt R av σ Q := by
  intro l G
  refine Met.ofW (cc := cc) (maxL := nL) (ret := rt) hy rfl ?_
  intro p e s m args below meth c s₁ B hml hv
  obtain ⟨rfl, hP, hK⟩ := hv
  have hts := atoms_spec (ws := .code y cc nL rt :: Tg) B.pre
  have hown : s.vm.findClass y.cls = some m.cls := findClass_of_methodNamed B.named
  rw [lg_entry_eq]
  exact h p l e s m _ below meth c G s.heap [] _ ⟨B.exec, B.bytes, B.returns, hml, hown, fun w hw => hts w (List.mem_cons_of_mem _ hw), B.notSynchronized⟩ hK hP va_S.rf (lvO_entry G av hl hn)
/-- storing into a local -/
def inv1 (ls : List Value) : Nat → List Value
  | 0 => ls
  | j + 1 => match ls[j]? with
    | some (.long _) => ls.set j un
    | some (.double _) => ls.set j un
    | _ => ls
def lset1 (ls : List Value) (i : Nat) (v : Value) : List Value := (inv1 ls i).set i v
def lset2 (ls : List Value) (i : Nat) (v : Value) : List Value := ((inv1 ls i).set i v).set (i + 1) un
def prO (G : Gx) (ls : List Value) : List (Nat × Value) := (List.range ls.length).filterMap (fun k => (ls[k]?).bind (fun v => if usd v then some (k, cv G v) else none))
theorem prO_in {G : Gx} {ls : List Value} {k : Nat} {v : Value} (h : ls[k]? = some v) (hu : usd v = true) : (k, cv G v) ∈ prO G ls := by
  refine List.mem_filterMap.mpr ⟨k, List.mem_range.mpr (List.getElem?_eq_some_iff.mp h).1, ?_⟩
  rw [h]
  simp [hu]
theorem lvO_has {G : Gx} {rl : Array Slot} {nL : Nat} {ls : List Value} (h : lvO G rl nL ls) : lv_has rl nL (prO G ls) := by
  refine ⟨h.1, h.2.1, fun q hq => ?_⟩
  obtain ⟨k, -, hk⟩ := List.mem_filterMap.mp hq
  cases hv : ls[k]? with
  | none => rw [hv] at hk; cases hk
  | some v =>
    rw [hv] at hk
    simp only [Option.bind_some] at hk
    split at hk
    · next hu => cases hk; exact h.2.2 k v hv hu
    · cases hk
theorem inv1_get {ls : List Value} {i k : Nat} {w : Value} (h : (inv1 ls i)[k]? = some w) (hu : usd w = true) : ls[k]? = some w ∧ ¬ (k + 1 = i ∧ w.category = 2) := by
  cases i with
  | zero => exact ⟨h, fun z => by omega⟩
  | succ j =>
    have key : ∀ (x : Value), ls[j]? = some x → x.category = 2 → inv1 ls (j + 1) = ls.set j un := by
      intro x hx hc
      cases x <;> first | (simp [Value.category] at hc; done) | simp [inv1, hx]
    by_cases hj : ∃ x, ls[j]? = some x ∧ x.category = 2
    · obtain ⟨x, hx, hc⟩ := hj
      rw [key x hx hc, List.getElem?_set] at h
      by_cases e : j = k
      · subst e
        rw [if_pos rfl] at h
        split at h
        · cases h; cases hu
        · cases h
      · rw [if_neg e] at h
        exact ⟨h, fun z => e (by omega)⟩
    · have e : inv1 ls (j + 1) = ls := by
        cases hx : ls[j]? with
        | none => simp [inv1, hx]
        | some x => cases x <;> first | (exact absurd ⟨_, hx, rfl⟩ hj) | simp [inv1, hx]
      rw [e] at h
      exact ⟨h, fun z => hj ⟨w, by rw [← show k = j by omega]; exact h, z.2⟩⟩
theorem lvO_set1 {G : Gx} {rl : Array Slot} {nL i : Nat} {ls ls' : List Value} {v : Value} (h : lvO G rl nL ls) (hi : i < nL) (hc : v.category = 1) (hl : lset1 ls i v = ls') :
    ∃ rl', storeLocals rl i (cv G v) = some rl' ∧ lvO G rl' nL ls' := by
  obtain ⟨rl', e, h1, h2, h3⟩ := lv_store1 (v := cv G v) (lvO_has h) hi (by rw [cv_cat]; exact hc)
  refine ⟨rl', e, h1, h2, fun k w hk hu => ?_⟩
  subst hl
  unfold lset1 at hk
  rw [List.getElem?_set] at hk
  by_cases ek : i = k
  · subst ek
    rw [if_pos rfl] at hk
    split at hk
    · cases hk; exact h3 (i, cv G v) List.mem_cons_self
    · cases hk
  · rw [if_neg ek] at hk
    obtain ⟨g1, g2⟩ := inv1_get hk hu
    refine h3 (k, cv G w) (List.mem_cons_of_mem _ (List.mem_filter.mpr ⟨prO_in g1 hu, ?_⟩))
    have n1 : (k == i) = false := by simp; exact fun z => ek z.symm
    simp only [n1, cv_cat, Bool.not_false, Bool.true_and, Bool.not_eq_true', Bool.and_eq_false_iff, beq_eq_false_iff_ne, ne_eq]
    by_cases z : k + 1 = i
    · exact Or.inr (fun y => g2 ⟨z, y⟩)
    · exact Or.inl z
theorem lvO_set2 {G : Gx} {rl : Array Slot} {nL i : Nat} {ls ls' : List Value} {v : Value} (h : lvO G rl nL ls) (hi : i + 1 < nL) (hc : v.category = 2) (hl : lset2 ls i v = ls') :
    ∃ rl', storeLocals rl i (cv G v) = some rl' ∧ lvO G rl' nL ls' := by
  obtain ⟨rl', e, h1, h2, h3⟩ := lv_store2 (v := cv G v) (lvO_has h) hi (by rw [cv_cat]; exact hc)
  refine ⟨rl', e, h1, h2, fun k w hk hu => ?_⟩
  subst hl
  unfold lset2 at hk
  rw [List.getElem?_set] at hk
  by_cases ek2 : i + 1 = k
  · rw [if_pos ek2] at hk
    split at hk
    · cases hk; cases hu
    · cases hk
  · rw [if_neg ek2, List.getElem?_set] at hk
    by_cases ek : i = k
    · subst ek
      rw [if_pos rfl] at hk
      split at hk
      · cases hk; exact h3 (i, cv G v) List.mem_cons_self
      · cases hk
    · rw [if_neg ek] at hk
      obtain ⟨g1, g2⟩ := inv1_get hk hu
      refine h3 (k, cv G w) (List.mem_cons_of_mem _ (List.mem_filter.mpr ⟨prO_in g1 hu, ?_⟩))
      have n1 : (k == i) = false := by simp; exact fun z => ek z.symm
      have n2 : (k == i + 1) = false := by simp; exact fun z => ek2 z.symm
      simp only [n1, n2, cv_cat, Bool.not_false, Bool.true_and, Bool.not_eq_true', Bool.and_eq_false_iff, beq_eq_false_iff_ne, ne_eq]
      by_cases z : k + 1 = i
      · exact Or.inr (fun y => g2 ⟨z, y⟩)
      · exact Or.inl z
end
section
section ER
variable {cc : ByteArray} {nL : Nat} {rt : Option FieldType} {own : String} {R : Room} {pc : Nat} {ls ls' st : List Value} {σ : St} {Q : Option Value → St → Prop}
theorem E_iadd {x y : Int32} (hd : decode cc pc = .ok (.iadd, 1)) (h : Ev cc nL rt own R (pc + 1) ls (.int (x + y) :: st) σ Q) : Ev cc nL rt own R pc ls (.int y :: .int x :: st) σ Q := fun p l e s m a b me c G H lo rl C K P S L => lv_iadd C.1 C.2.1 hd (h p l e s m a b me c G H lo rl C K P S L)
theorem E_isub {x y : Int32} (hd : decode cc pc = .ok (.isub, 1)) (h : Ev cc nL rt own R (pc + 1) ls (.int (x - y) :: st) σ Q) : Ev cc nL rt own R pc ls (.int y :: .int x :: st) σ Q := fun p l e s m a b me c G H lo rl C K P S L => lv_isub C.1 C.2.1 hd (h p l e s m a b me c G H lo rl C K P S L)
theorem E_imul {x y : Int32} (hd : decode cc pc = .ok (.imul, 1)) (h : Ev cc nL rt own R (pc + 1) ls (.int (x * y) :: st) σ Q) : Ev cc nL rt own R pc ls (.int y :: .int x :: st) σ Q := fun p l e s m a b me c G H lo rl C K P S L => lv_imul C.1 C.2.1 hd (h p l e s m a b me c G H lo rl C K P S L)
theorem E_iand {x y : Int32} (hd : decode cc pc = .ok (.iand, 1)) (h : Ev cc nL rt own R (pc + 1) ls (.int (x &&& y) :: st) σ Q) : Ev cc nL rt own R pc ls (.int y :: .int x :: st) σ Q := fun p l e s m a b me c G H lo rl C K P S L => lv_iand C.1 C.2.1 hd (h p l e s m a b me c G H lo rl C K P S L)
theorem E_ior {x y : Int32} (hd : decode cc pc = .ok (.ior, 1)) (h : Ev cc nL rt own R (pc + 1) ls (.int (x ||| y) :: st) σ Q) : Ev cc nL rt own R pc ls (.int y :: .int x :: st) σ Q := fun p l e s m a b me c G H lo rl C K P S L => lv_ior C.1 C.2.1 hd (h p l e s m a b me c G H lo rl C K P S L)
theorem E_ixor {x y : Int32} (hd : decode cc pc = .ok (.ixor, 1)) (h : Ev cc nL rt own R (pc + 1) ls (.int (x ^^^ y) :: st) σ Q) : Ev cc nL rt own R pc ls (.int y :: .int x :: st) σ Q := fun p l e s m a b me c G H lo rl C K P S L => lv_ixor C.1 C.2.1 hd (h p l e s m a b me c G H lo rl C K P S L)
theorem E_ishl {x y : Int32} (hd : decode cc pc = .ok (.ishl, 1)) (h : Ev cc nL rt own R (pc + 1) ls (.int (x <<< (y &&& 31)) :: st) σ Q) : Ev cc nL rt own R pc ls (.int y :: .int x :: st) σ Q := fun p l e s m a b me c G H lo rl C K P S L => lv_ishl C.1 C.2.1 hd (h p l e s m a b me c G H lo rl C K P S L)
theorem E_ishr {x y : Int32} (hd : decode cc pc = .ok (.ishr, 1)) (h : Ev cc nL rt own R (pc + 1) ls (.int (x >>> (y &&& 31)) :: st) σ Q) : Ev cc nL rt own R pc ls (.int y :: .int x :: st) σ Q := fun p l e s m a b me c G H lo rl C K P S L => lv_ishr C.1 C.2.1 hd (h p l e s m a b me c G H lo rl C K P S L)
theorem E_idiv {x y : Int32} (hd : decode cc pc = .ok (.idiv, 1)) (hne : ¬ y = 0) (h : Ev cc nL rt own R (pc + 1) ls (.int (x / y) :: st) σ Q) : Ev cc nL rt own R pc ls (.int y :: .int x :: st) σ Q := fun p l e s m a b me c G H lo rl C K P S L => lv_idiv C.1 C.2.1 hd hne (h p l e s m a b me c G H lo rl C K P S L)
theorem E_ineg {x : Int32} (hd : decode cc pc = .ok (.ineg, 1)) (h : Ev cc nL rt own R (pc + 1) ls (.int (-x) :: st) σ Q) : Ev cc nL rt own R pc ls (.int x :: st) σ Q := fun p l e s m a b me c G H lo rl C K P S L => lv_ineg C.1 C.2.1 hd (h p l e s m a b me c G H lo rl C K P S L)
theorem E_ladd {x y : Int64} (hd : decode cc pc = .ok (.ladd, 1)) (h : Ev cc nL rt own R (pc + 1) ls (.long (x + y) :: st) σ Q) : Ev cc nL rt own R pc ls (.long y :: .long x :: st) σ Q := fun p l e s m a b me c G H lo rl C K P S L => lv_ladd C.1 C.2.1 hd (h p l e s m a b me c G H lo rl C K P S L)
theorem E_lsub {x y : Int64} (hd : decode cc pc = .ok (.lsub, 1)) (h : Ev cc nL rt own R (pc + 1) ls (.long (x - y) :: st) σ Q) : Ev cc nL rt own R pc ls (.long y :: .long x :: st) σ Q := fun p l e s m a b me c G H lo rl C K P S L => lv_lsub C.1 C.2.1 hd (h p l e s m a b me c G H lo rl C K P S L)
theorem E_lmul {x y : Int64} (hd : decode cc pc = .ok (.lmul, 1)) (h : Ev cc nL rt own R (pc + 1) ls (.long (x * y) :: st) σ Q) : Ev cc nL rt own R pc ls (.long y :: .long x :: st) σ Q := fun p l e s m a b me c G H lo rl C K P S L => lv_lmul C.1 C.2.1 hd (h p l e s m a b me c G H lo rl C K P S L)
theorem E_land {x y : Int64} (hd : decode cc pc = .ok (.land, 1)) (h : Ev cc nL rt own R (pc + 1) ls (.long (x &&& y) :: st) σ Q) : Ev cc nL rt own R pc ls (.long y :: .long x :: st) σ Q := fun p l e s m a b me c G H lo rl C K P S L => lv_land C.1 C.2.1 hd (h p l e s m a b me c G H lo rl C K P S L)
theorem E_lor {x y : Int64} (hd : decode cc pc = .ok (.lor, 1)) (h : Ev cc nL rt own R (pc + 1) ls (.long (x ||| y) :: st) σ Q) : Ev cc nL rt own R pc ls (.long y :: .long x :: st) σ Q := fun p l e s m a b me c G H lo rl C K P S L => lv_lor C.1 C.2.1 hd (h p l e s m a b me c G H lo rl C K P S L)
theorem E_lcmp {x y : Int64} (hd : decode cc pc = .ok (.lcmp, 1)) (h : Ev cc nL rt own R (pc + 1) ls (.int (lg_cmp x y) :: st) σ Q) : Ev cc nL rt own R pc ls (.long y :: .long x :: st) σ Q := fun p l e s m a b me c G H lo rl C K P S L => W.lcmp C.1 C.2.1 hd (h p l e s m a b me c G H lo rl C K P S L)
theorem E_lshl {x : Int64} {y : Int32} (hd : decode cc pc = .ok (.lshl, 1)) (h : Ev cc nL rt own R (pc + 1) ls (.long (x <<< (y.toInt64 &&& 63)) :: st) σ Q) : Ev cc nL rt own R pc ls (.int y :: .long x :: st) σ Q := fun p l e s m a b me c G H lo rl C K P S L => lv_lshl C.1 C.2.1 hd rfl (h p l e s m a b me c G H lo rl C K P S L)
theorem E_lshr {x : Int64} {y : Int32} (hd : decode cc pc = .ok (.lshr, 1)) (h : Ev cc nL rt own R (pc + 1) ls (.long (x >>> (y.toInt64 &&& 63)) :: st) σ Q) : Ev cc nL rt own R pc ls (.int y :: .long x :: st) σ Q := fun p l e s m a b me c G H lo rl C K P S L => lv_lshr C.1 C.2.1 hd rfl (h p l e s m a b me c G H lo rl C K P S L)
theorem E_i2l {x : Int32} (hd : decode cc pc = .ok (.i2l, 1)) (h : Ev cc nL rt own R (pc + 1) ls (.long x.toInt64 :: st) σ Q) : Ev cc nL rt own R pc ls (.int x :: st) σ Q := fun p l e s m a b me c G H lo rl C K P S L => lv_i2l C.1 C.2.1 hd rfl (h p l e s m a b me c G H lo rl C K P S L)
theorem E_l2i {x : Int64} (hd : decode cc pc = .ok (.l2i, 1)) (h : Ev cc nL rt own R (pc + 1) ls (.int x.toInt32 :: st) σ Q) : Ev cc nL rt own R pc ls (.long x :: st) σ Q := fun p l e s m a b me c G H lo rl C K P S L => lv_l2i C.1 C.2.1 hd rfl (h p l e s m a b me c G H lo rl C K P S L)
theorem E_i2c {x : Int32} (hd : decode cc pc = .ok (.i2c, 1)) (h : Ev cc nL rt own R (pc + 1) ls (.int (x.toUInt32 % 65536).toInt32 :: st) σ Q) : Ev cc nL rt own R pc ls (.int x :: st) σ Q := fun p l e s m a b me c G H lo rl C K P S L => lv_i2c C.1 C.2.1 hd rfl (h p l e s m a b me c G H lo rl C K P S L)
theorem E_iconst {n : Int} {v : Int32} (hd : decode cc pc = .ok (.iconst n, 1)) (hv : Int32.ofInt n = v) (h : Ev cc nL rt own R (pc + 1) ls (.int v :: st) σ Q) : Ev cc nL rt own R pc ls st σ Q := fun p l e s m a b me c G H lo rl C K P S L => lv_iconst C.1 C.2.1 hd hv (h p l e s m a b me c G H lo rl C K P S L)
theorem E_bipush {n : Int} {v : Int32} (hd : decode cc pc = .ok (.bipush n, 2)) (hv : (Int8.ofInt n).toInt32 = v) (h : Ev cc nL rt own R (pc + 2) ls (.int v :: st) σ Q) : Ev cc nL rt own R pc ls st σ Q := fun p l e s m a b me c G H lo rl C K P S L => lv_bipush C.1 C.2.1 hd hv (h p l e s m a b me c G H lo rl C K P S L)
theorem E_sipush {n : Int} {v : Int32} (hd : decode cc pc = .ok (.sipush n, 3)) (hv : (Int16.ofInt n).toInt32 = v) (h : Ev cc nL rt own R (pc + 3) ls (.int v :: st) σ Q) : Ev cc nL rt own R pc ls st σ Q := fun p l e s m a b me c G H lo rl C K P S L => lv_sipush C.1 C.2.1 hd hv (h p l e s m a b me c G H lo rl C K P S L)
theorem E_lconst {n : Fin 2} {v : Int64} (hd : decode cc pc = .ok (.lconst n, 1)) (hv : Int64.ofNat (n : Nat) = v) (h : Ev cc nL rt own R (pc + 1) ls (.long v :: st) σ Q) : Ev cc nL rt own R pc ls st σ Q := fun p l e s m a b me c G H lo rl C K P S L => lv_lconst C.1 C.2.1 hd hv (h p l e s m a b me c G H lo rl C K P S L)
theorem E_ldc {i : Nat} {v : Int32} (hd : decode cc pc = .ok (.ldc i, 2)) (hw : Cond.constant own i v ∈ Tg) (h : Ev cc nL rt own R (pc + 2) ls (.int v :: st) σ Q) : Ev cc nL rt own R pc ls st σ Q := fun p l e s m a b me c G H lo rl C K P S L => lv_ldc C.1 C.2.1 C.2.2.2.2.1 (C.2.2.2.2.2.1 _ hw) hd (h p l e s m a b me c G H lo rl C K P S L)
theorem E_ldcw {i : Nat} {v : Int32} (hd : decode cc pc = .ok (.ldc_w i, 3)) (hw : Cond.constant own i v ∈ Tg) (h : Ev cc nL rt own R (pc + 3) ls (.int v :: st) σ Q) : Ev cc nL rt own R pc ls st σ Q := fun p l e s m a b me c G H lo rl C K P S L => lv_ldcw C.1 C.2.1 C.2.2.2.2.1 (C.2.2.2.2.2.1 _ hw) hd (h p l e s m a b me c G H lo rl C K P S L)
theorem E_ldc2 {i : Nat} {v : Int64} (hd : decode cc pc = .ok (.ldc2_w i, 3)) (hw : Cond.constantLong own i v ∈ Tg) (h : Ev cc nL rt own R (pc + 3) ls (.long v :: st) σ Q) : Ev cc nL rt own R pc ls st σ Q := fun p l e s m a b me c G H lo rl C K P S L => lv_ldc2 C.1 C.2.1 C.2.2.2.2.1 (C.2.2.2.2.2.1 _ hw) hd (h p l e s m a b me c G H lo rl C K P S L)
theorem E_null (hd : decode cc pc = .ok (.aconst_null, 1)) (h : Ev cc nL rt own R (pc + 1) ls (.ref 999 :: st) σ Q) : Ev cc nL rt own R pc ls st σ Q := fun p l e s m a b me c G H lo rl C K P S L => lv_null C.1 C.2.1 hd (h p l e s m a b me c G H lo rl C K P S L)
theorem E_iload_n {k : Fin 4} {x : Int32} (hd : decode cc pc = .ok (.iload_n k, 1)) (hl : ls[(k : Nat)]? = some (.int x)) (h : Ev cc nL rt own R (pc + 1) ls (.int x :: st) σ Q) : Ev cc nL rt own R pc ls st σ Q := fun p l e s m a b me c G H lo rl C K P S L => lv_iload_n C.1 C.2.1 hd rfl (L.2.2 _ _ hl rfl) (h p l e s m a b me c G H lo rl C K P S L)
theorem E_iload {k : Nat} {x : Int32} (hd : decode cc pc = .ok (.iload k, 2)) (hl : ls[k]? = some (.int x)) (h : Ev cc nL rt own R (pc + 2) ls (.int x :: st) σ Q) : Ev cc nL rt own R pc ls st σ Q := fun p l e s m a b me c G H lo rl C K P S L => lv_iload C.1 C.2.1 hd (L.2.2 _ _ hl rfl) (h p l e s m a b me c G H lo rl C K P S L)
theorem E_lload_n {k : Fin 4} {x : Int64} (hd : decode cc pc = .ok (.lload_n k, 1)) (hl : ls[(k : Nat)]? = some (.long x)) (h : Ev cc nL rt own R (pc + 1) ls (.long x :: st) σ Q) : Ev cc nL rt own R pc ls st σ Q := fun p l e s m a b me c G H lo rl C K P S L => lv_lload_n C.1 C.2.1 hd rfl (L.2.2 _ _ hl rfl) (h p l e s m a b me c G H lo rl C K P S L)
theorem E_lload {k : Nat} {x : Int64} (hd : decode cc pc = .ok (.lload k, 2)) (hl : ls[k]? = some (.long x)) (h : Ev cc nL rt own R (pc + 2) ls (.long x :: st) σ Q) : Ev cc nL rt own R pc ls st σ Q := fun p l e s m a b me c G H lo rl C K P S L => lv_lload C.1 C.2.1 hd (L.2.2 _ _ hl rfl) (h p l e s m a b me c G H lo rl C K P S L)
theorem E_aload_n {k : Fin 4} {x : Nat} (hd : decode cc pc = .ok (.aload_n k, 1)) (hl : ls[(k : Nat)]? = some (.ref x)) (h : Ev cc nL rt own R (pc + 1) ls (.ref x :: st) σ Q) : Ev cc nL rt own R pc ls st σ Q := by
  intro p l e s m a b me c G H lo rl C K P S L
  have q := L.2.2 _ _ hl rfl
  have h' := h p l e s m a b me c G H lo rl C K P S L
  rw [List.map_cons] at h'
  by_cases h9 : x = 999
  · have ec : cv G (.ref x) = .null := if_pos h9
    rw [ec] at q h'
    exact lv_aload_nN C.1 C.2.1 hd rfl q h'
  · have ec : cv G (.ref x) = .ref (adO G x) := if_neg h9
    rw [ec] at q h'
    exact lv_aload_n C.1 C.2.1 hd rfl q h'
theorem E_aload {k : Nat} {x : Nat} (hd : decode cc pc = .ok (.aload k, 2)) (hl : ls[k]? = some (.ref x)) (h : Ev cc nL rt own R (pc + 2) ls (.ref x :: st) σ Q) : Ev cc nL rt own R pc ls st σ Q := by
  intro p l e s m a b me c G H lo rl C K P S L
  have q := L.2.2 _ _ hl rfl
  have h' := h p l e s m a b me c G H lo rl C K P S L
  rw [List.map_cons] at h'
  by_cases h9 : x = 999
  · have ec : cv G (.ref x) = .null := if_pos h9
    rw [ec] at q h'
    exact lv_aloadN C.1 C.2.1 hd q h'
  · have ec : cv G (.ref x) = .ref (adO G x) := if_neg h9
    rw [ec] at q h'
    exact lv_aload C.1 C.2.1 hd q h'
theorem lvO_of1 {G : Gx} {rl rl' : Array Slot} {i : Nat} {v : Value} (h : lv_has rl' nL ((i, cv G v) :: (prO G ls).filter (fun q => !(q.1 == i) && !(q.1 + 1 == i && q.2.category == 2)))) (hl : lset1 ls i v = ls') : lvO G rl' nL ls' := by
  obtain ⟨h1, h2, h3⟩ := h
  refine ⟨h1, h2, fun k w hk hu => ?_⟩
  subst hl
  unfold lset1 at hk
  rw [List.getElem?_set] at hk
  by_cases ek : i = k
  · subst ek
    rw [if_pos rfl] at hk
    split at hk
    · cases hk; exact h3 (i, cv G v) List.mem_cons_self
    · cases hk
  · rw [if_neg ek] at hk
    obtain ⟨g1, g2⟩ := inv1_get hk hu
    refine h3 (k, cv G w) (List.mem_cons_of_mem _ (List.mem_filter.mpr ⟨prO_in g1 hu, ?_⟩))
    have n1 : (k == i) = false := by simp; exact fun z => ek z.symm
    simp only [n1, cv_cat, Bool.not_false, Bool.true_and, Bool.not_eq_true', Bool.and_eq_false_iff, beq_eq_false_iff_ne, ne_eq]
    by_cases z : k + 1 = i
    · exact Or.inr (fun y => g2 ⟨z, y⟩)
    · exact Or.inl z
theorem lvO_of2 {G : Gx} {rl rl' : Array Slot} {i : Nat} {v : Value} (h : lv_has rl' nL ((i, cv G v) :: (prO G ls).filter (fun q => !(q.1 == i) && (!(q.1 == i + 1) && !(q.1 + 1 == i && q.2.category == 2))))) (hl : lset2 ls i v = ls') : lvO G rl' nL ls' := by
  obtain ⟨h1, h2, h3⟩ := h
  refine ⟨h1, h2, fun k w hk hu => ?_⟩
  subst hl
  unfold lset2 at hk
  rw [List.getElem?_set] at hk
  by_cases ek2 : i + 1 = k
  · rw [if_pos ek2] at hk
    split at hk
    · cases hk; cases hu
    · cases hk
  · rw [if_neg ek2, List.getElem?_set] at hk
    by_cases ek : i = k
    · subst ek
      rw [if_pos rfl] at hk
      split at hk
      · cases hk; exact h3 (i, cv G v) List.mem_cons_self
      · cases hk
    · rw [if_neg ek] at hk
      obtain ⟨g1, g2⟩ := inv1_get hk hu
      refine h3 (k, cv G w) (List.mem_cons_of_mem _ (List.mem_filter.mpr ⟨prO_in g1 hu, ?_⟩))
      have n1 : (k == i) = false := by simp; exact fun z => ek z.symm
      have n2 : (k == i + 1) = false := by simp; exact fun z => ek2 z.symm
      simp only [n1, n2, cv_cat, Bool.not_false, Bool.true_and, Bool.not_eq_true', Bool.and_eq_false_iff, beq_eq_false_iff_ne, ne_eq]
      by_cases z : k + 1 = i
      · exact Or.inr (fun y => g2 ⟨z, y⟩)
      · exact Or.inl z
theorem E_istore_n {k : Fin 4} {x : Int32} (hd : decode cc pc = .ok (.istore_n k, 1)) (hn : (k : Nat) < nL) (hl : lset1 ls (k : Nat) (.int x) = ls') (h : Ev cc nL rt own R (pc + 1) ls' st σ Q) : Ev cc nL rt own R pc ls (.int x :: st) σ Q := fun p l e s m a b me c G H lo rl C K P S L => lv_istore_n C.1 C.2.1 hd rfl (lvO_has L) hn rfl (fun r2 h2 => h p l e s m a b me c G H lo r2 C K P S (lvO_of1 (rl := rl) (v := .int x) h2 hl))
theorem E_lstore_n {k : Fin 4} {x : Int64} (hd : decode cc pc = .ok (.lstore_n k, 1)) (hn : (k : Nat) + 1 < nL) (hl : lset2 ls (k : Nat) (.long x) = ls') (h : Ev cc nL rt own R (pc + 1) ls' st σ Q) : Ev cc nL rt own R pc ls (.long x :: st) σ Q := fun p l e s m a b me c G H lo rl C K P S L => lv_lstore_n C.1 C.2.1 hd rfl (lvO_has L) hn rfl (fun r2 h2 => h p l e s m a b me c G H lo r2 C K P S (lvO_of2 (rl := rl) (v := .long x) h2 hl))
theorem E_astore_n {k : Fin 4} {x : Nat} (hd : decode cc pc = .ok (.astore_n k, 1)) (hn : (k : Nat) < nL) (hx : x ≠ 999) (hl : lset1 ls (k : Nat) (.ref x) = ls') (h : Ev cc nL rt own R (pc + 1) ls' st σ Q) : Ev cc nL rt own R pc ls (.ref x :: st) σ Q := by
  intro p l e s m a b me c G H lo rl C K P S L
  rw [List.map_cons]
  have ec : cv G (.ref x) = .ref (adO G x) := if_neg hx
  rw [ec]
  refine lv_astore_n C.1 C.2.1 hd rfl (lvO_has L) hn rfl (fun r2 h2 => h p l e s m a b me c G H lo r2 C K P S (lvO_of1 (rl := rl) (v := .ref x) ?_ hl))
  rw [ec]
  exact h2
theorem E_istore {k : Nat} {x : Int32} (hd : decode cc pc = .ok (.istore k, 2)) (hn : k < nL) (hl : lset1 ls k (.int x) = ls') (h : Ev cc nL rt own R (pc + 2) ls' st σ Q) : Ev cc nL rt own R pc ls (.int x :: st) σ Q := fun p l e s m a b me c G H lo rl C K P S L => lv_istore C.1 C.2.1 hd (lvO_has L) hn rfl (fun r2 h2 => h p l e s m a b me c G H lo r2 C K P S (lvO_of1 (rl := rl) (v := .int x) h2 hl))
theorem E_lstore {k : Nat} {x : Int64} (hd : decode cc pc = .ok (.lstore k, 2)) (hn : k + 1 < nL) (hl : lset2 ls k (.long x) = ls') (h : Ev cc nL rt own R (pc + 2) ls' st σ Q) : Ev cc nL rt own R pc ls (.long x :: st) σ Q := fun p l e s m a b me c G H lo rl C K P S L => lv_lstore C.1 C.2.1 hd (lvO_has L) hn rfl (fun r2 h2 => h p l e s m a b me c G H lo r2 C K P S (lvO_of2 (rl := rl) (v := .long x) h2 hl))
theorem E_astore {k : Nat} {x : Nat} (hd : decode cc pc = .ok (.astore k, 2)) (hn : k < nL) (hx : x ≠ 999) (hl : lset1 ls k (.ref x) = ls') (h : Ev cc nL rt own R (pc + 2) ls' st σ Q) : Ev cc nL rt own R pc ls (.ref x :: st) σ Q := by
  intro p l e s m a b me c G H lo rl C K P S L
  rw [List.map_cons]
  have ec : cv G (.ref x) = .ref (adO G x) := if_neg hx
  rw [ec]
  refine lv_astore C.1 C.2.1 hd (lvO_has L) hn rfl (fun r2 h2 => h p l e s m a b me c G H lo r2 C K P S (lvO_of1 (rl := rl) (v := .ref x) ?_ hl))
  rw [ec]
  exact h2
theorem E_iinc {k : Nat} {n : Int} {x v : Int32} (hd : decode cc pc = .ok (.iinc k n, 3)) (hx : ls[k]? = some (.int x)) (hv : x + Int32.ofInt n = v) (hn : k < nL) (hl : lset1 ls k (.int v) = ls') (h : Ev cc nL rt own R (pc + 3) ls' st σ Q) : Ev cc nL rt own R pc ls st σ Q := by
  intro p l e s m a b me c G H lo rl C K P S L
  obtain ⟨q, hq⟩ := List.getElem?_of_mem (prO_in (G := G) hx rfl)
  exact lv_iinc C.1 C.2.1 hd (lvO_has L) hq hv hn rfl (fun r2 h2 => h p l e s m a b me c G H lo r2 C K P S (lvO_of1 (rl := rl) (v := .int v) h2 hl))
theorem E_dup {v : Value} (hd : decode cc pc = .ok (.dup, 1)) (hv : v.category = 1) (h : Ev cc nL rt own R (pc + 1) ls (v :: v :: st) σ Q) : Ev cc nL rt own R pc ls (v :: st) σ Q := fun p l e s m a b me c G H lo rl C K P S L => lv_dup C.1 C.2.1 hd (by rw [cv_cat]; exact hv) (h p l e s m a b me c G H lo rl C K P S L)
theorem E_pop {v : Value} (hd : decode cc pc = .ok (.pop, 1)) (hv : v.category = 1) (h : Ev cc nL rt own R (pc + 1) ls st σ Q) : Ev cc nL rt own R pc ls (v :: st) σ Q := fun p l e s m a b me c G H lo rl C K P S L => lv_pop C.1 C.2.1 hd (by rw [cv_cat]; exact hv) (h p l e s m a b me c G H lo rl C K P S L)
theorem E_dup_x1 {v w : Value} (hd : decode cc pc = .ok (.dup_x1, 1)) (hv : v.category = 1) (hw : w.category = 1) (h : Ev cc nL rt own R (pc + 1) ls (v :: w :: v :: st) σ Q) : Ev cc nL rt own R pc ls (v :: w :: st) σ Q := fun p l e s m a b me c G H lo rl C K P S L => lv_dup_x1 C.1 C.2.1 hd (by rw [cv_cat]; exact hv) (by rw [cv_cat]; exact hw) (h p l e s m a b me c G H lo rl C K P S L)
theorem E_dup2 {v w : Value} (hd : decode cc pc = .ok (.dup2, 1)) (hv : v.category = 1) (hw : w.category = 1) (h : Ev cc nL rt own R (pc + 1) ls (v :: w :: v :: w :: st) σ Q) : Ev cc nL rt own R pc ls (v :: w :: st) σ Q := fun p l e s m a b me c G H lo rl C K P S L => lv_dup2_11 C.1 C.2.1 hd (by rw [cv_cat]; exact hv) (by rw [cv_cat]; exact hw) (h p l e s m a b me c G H lo rl C K P S L)
theorem E_if_eq {x : Int32} {off : Int} (tgt : Nat) (hd : decode cc pc = .ok (.ifCond .eq off, 3)) (ht : (pc : Int) + off = (tgt : Int)) (h1 : x = 0 → Ev cc nL rt own R tgt ls st σ Q) (h2 : ¬ x = 0 → Ev cc nL rt own R (pc + 3) ls st σ Q) : Ev cc nL rt own R pc ls (.int x :: st) σ Q := fun p l e s m a b me c G H lo rl C K P S L => lv_if_eq C.1 C.2.1 hd ht (fun z => h1 z p l e s m a b me c G H lo rl C K P S L) (fun z => h2 z p l e s m a b me c G H lo rl C K P S L)
theorem E_icmp_eq {x y : Int32} {off : Int} (tgt : Nat) (hd : decode cc pc = .ok (.if_icmp .eq off, 3)) (ht : (pc : Int) + off = (tgt : Int)) (h1 : x = y → Ev cc nL rt own R tgt ls st σ Q) (h2 : ¬ x = y → Ev cc nL rt own R (pc + 3) ls st σ Q) : Ev cc nL rt own R pc ls (.int y :: .int x :: st) σ Q := fun p l e s m a b me c G H lo rl C K P S L => lv_icmp_eq C.1 C.2.1 hd ht (fun z => h1 z p l e s m a b me c G H lo rl C K P S L) (fun z => h2 z p l e s m a b me c G H lo rl C K P S L)
theorem E_if_ne {x : Int32} {off : Int} (tgt : Nat) (hd : decode cc pc = .ok (.ifCond .ne off, 3)) (ht : (pc : Int) + off = (tgt : Int)) (h1 : ¬ x = 0 → Ev cc nL rt own R tgt ls st σ Q) (h2 : x = 0 → Ev cc nL rt own R (pc + 3) ls st σ Q) : Ev cc nL rt own R pc ls (.int x :: st) σ Q := fun p l e s m a b me c G H lo rl C K P S L => lv_if_ne C.1 C.2.1 hd ht (fun z => h1 z p l e s m a b me c G H lo rl C K P S L) (fun z => h2 z p l e s m a b me c G H lo rl C K P S L)
theorem E_icmp_ne {x y : Int32} {off : Int} (tgt : Nat) (hd : decode cc pc = .ok (.if_icmp .ne off, 3)) (ht : (pc : Int) + off = (tgt : Int)) (h1 : ¬ x = y → Ev cc nL rt own R tgt ls st σ Q) (h2 : x = y → Ev cc nL rt own R (pc + 3) ls st σ Q) : Ev cc nL rt own R pc ls (.int y :: .int x :: st) σ Q := fun p l e s m a b me c G H lo rl C K P S L => lv_icmp_ne C.1 C.2.1 hd ht (fun z => h1 z p l e s m a b me c G H lo rl C K P S L) (fun z => h2 z p l e s m a b me c G H lo rl C K P S L)
theorem E_if_lt {x : Int32} {off : Int} (tgt : Nat) (hd : decode cc pc = .ok (.ifCond .lt off, 3)) (ht : (pc : Int) + off = (tgt : Int)) (h1 : x < 0 → Ev cc nL rt own R tgt ls st σ Q) (h2 : ¬ x < 0 → Ev cc nL rt own R (pc + 3) ls st σ Q) : Ev cc nL rt own R pc ls (.int x :: st) σ Q := fun p l e s m a b me c G H lo rl C K P S L => lv_if_lt C.1 C.2.1 hd ht (fun z => h1 z p l e s m a b me c G H lo rl C K P S L) (fun z => h2 z p l e s m a b me c G H lo rl C K P S L)
theorem E_icmp_lt {x y : Int32} {off : Int} (tgt : Nat) (hd : decode cc pc = .ok (.if_icmp .lt off, 3)) (ht : (pc : Int) + off = (tgt : Int)) (h1 : x < y → Ev cc nL rt own R tgt ls st σ Q) (h2 : ¬ x < y → Ev cc nL rt own R (pc + 3) ls st σ Q) : Ev cc nL rt own R pc ls (.int y :: .int x :: st) σ Q := fun p l e s m a b me c G H lo rl C K P S L => lv_icmp_lt C.1 C.2.1 hd ht (fun z => h1 z p l e s m a b me c G H lo rl C K P S L) (fun z => h2 z p l e s m a b me c G H lo rl C K P S L)
theorem E_if_ge {x : Int32} {off : Int} (tgt : Nat) (hd : decode cc pc = .ok (.ifCond .ge off, 3)) (ht : (pc : Int) + off = (tgt : Int)) (h1 : 0 ≤ x → Ev cc nL rt own R tgt ls st σ Q) (h2 : ¬ 0 ≤ x → Ev cc nL rt own R (pc + 3) ls st σ Q) : Ev cc nL rt own R pc ls (.int x :: st) σ Q := fun p l e s m a b me c G H lo rl C K P S L => lv_if_ge C.1 C.2.1 hd ht (fun z => h1 z p l e s m a b me c G H lo rl C K P S L) (fun z => h2 z p l e s m a b me c G H lo rl C K P S L)
theorem E_icmp_ge {x y : Int32} {off : Int} (tgt : Nat) (hd : decode cc pc = .ok (.if_icmp .ge off, 3)) (ht : (pc : Int) + off = (tgt : Int)) (h1 : y ≤ x → Ev cc nL rt own R tgt ls st σ Q) (h2 : ¬ y ≤ x → Ev cc nL rt own R (pc + 3) ls st σ Q) : Ev cc nL rt own R pc ls (.int y :: .int x :: st) σ Q := fun p l e s m a b me c G H lo rl C K P S L => lv_icmp_ge C.1 C.2.1 hd ht (fun z => h1 z p l e s m a b me c G H lo rl C K P S L) (fun z => h2 z p l e s m a b me c G H lo rl C K P S L)
theorem E_if_gt {x : Int32} {off : Int} (tgt : Nat) (hd : decode cc pc = .ok (.ifCond .gt off, 3)) (ht : (pc : Int) + off = (tgt : Int)) (h1 : 0 < x → Ev cc nL rt own R tgt ls st σ Q) (h2 : ¬ 0 < x → Ev cc nL rt own R (pc + 3) ls st σ Q) : Ev cc nL rt own R pc ls (.int x :: st) σ Q := fun p l e s m a b me c G H lo rl C K P S L => lv_if_gt C.1 C.2.1 hd ht (fun z => h1 z p l e s m a b me c G H lo rl C K P S L) (fun z => h2 z p l e s m a b me c G H lo rl C K P S L)
theorem E_icmp_gt {x y : Int32} {off : Int} (tgt : Nat) (hd : decode cc pc = .ok (.if_icmp .gt off, 3)) (ht : (pc : Int) + off = (tgt : Int)) (h1 : y < x → Ev cc nL rt own R tgt ls st σ Q) (h2 : ¬ y < x → Ev cc nL rt own R (pc + 3) ls st σ Q) : Ev cc nL rt own R pc ls (.int y :: .int x :: st) σ Q := fun p l e s m a b me c G H lo rl C K P S L => lv_icmp_gt C.1 C.2.1 hd ht (fun z => h1 z p l e s m a b me c G H lo rl C K P S L) (fun z => h2 z p l e s m a b me c G H lo rl C K P S L)
theorem E_if_le {x : Int32} {off : Int} (tgt : Nat) (hd : decode cc pc = .ok (.ifCond .le off, 3)) (ht : (pc : Int) + off = (tgt : Int)) (h1 : x ≤ 0 → Ev cc nL rt own R tgt ls st σ Q) (h2 : ¬ x ≤ 0 → Ev cc nL rt own R (pc + 3) ls st σ Q) : Ev cc nL rt own R pc ls (.int x :: st) σ Q := fun p l e s m a b me c G H lo rl C K P S L => lv_if_le C.1 C.2.1 hd ht (fun z => h1 z p l e s m a b me c G H lo rl C K P S L) (fun z => h2 z p l e s m a b me c G H lo rl C K P S L)
theorem E_icmp_le {x y : Int32} {off : Int} (tgt : Nat) (hd : decode cc pc = .ok (.if_icmp .le off, 3)) (ht : (pc : Int) + off = (tgt : Int)) (h1 : x ≤ y → Ev cc nL rt own R tgt ls st σ Q) (h2 : ¬ x ≤ y → Ev cc nL rt own R (pc + 3) ls st σ Q) : Ev cc nL rt own R pc ls (.int y :: .int x :: st) σ Q := fun p l e s m a b me c G H lo rl C K P S L => lv_icmp_le C.1 C.2.1 hd ht (fun z => h1 z p l e s m a b me c G H lo rl C K P S L) (fun z => h2 z p l e s m a b me c G H lo rl C K P S L)
theorem E_goto {off : Int} (tgt : Nat) (hd : decode cc pc = .ok (.goto off, 3)) (ht : (pc : Int) + off = (tgt : Int)) (h : Ev cc nL rt own R tgt ls st σ Q) : Ev cc nL rt own R pc ls st σ Q := fun p l e s m a b me c G H lo rl C K P S L => lv_goto C.1 C.2.1 hd ht (h p l e s m a b me c G H lo rl C K P S L)
theorem E_ifnull {x : Nat} {off : Int} (tgt : Nat) (hd : decode cc pc = .ok (.ifnull off, 3)) (ht : (pc : Int) + off = (tgt : Int)) (h1 : x = 999 → Ev cc nL rt own R tgt ls st σ Q) (h2 : ¬ x = 999 → Ev cc nL rt own R (pc + 3) ls st σ Q) : Ev cc nL rt own R pc ls (.ref x :: st) σ Q := by
  intro p l e s m a b me c G H lo rl C K P S L
  rw [List.map_cons]
  by_cases h9 : x = 999
  · have ec : cv G (.ref x) = .null := if_pos h9
    rw [ec]
    exact lv_ifnullN C.1 C.2.1 hd ht (h1 h9 p l e s m a b me c G H lo rl C K P S L)
  · have ec : cv G (.ref x) = .ref (adO G x) := if_neg h9
    rw [ec]
    exact lv_ifnull C.1 C.2.1 hd (h2 h9 p l e s m a b me c G H lo rl C K P S L)
theorem E_ifnonnull {x : Nat} {off : Int} (tgt : Nat) (hd : decode cc pc = .ok (.ifnonnull off, 3)) (ht : (pc : Int) + off = (tgt : Int)) (h1 : ¬ x = 999 → Ev cc nL rt own R tgt ls st σ Q) (h2 : x = 999 → Ev cc nL rt own R (pc + 3) ls st σ Q) : Ev cc nL rt own R pc ls (.ref x :: st) σ Q := by
  intro p l e s m a b me c G H lo rl C K P S L
  rw [List.map_cons]
  by_cases h9 : x = 999
  · have ec : cv G (.ref x) = .null := if_pos h9
    rw [ec]
    exact lv_ifnonnullN C.1 C.2.1 hd (h2 h9 p l e s m a b me c G H lo rl C K P S L)
  · have ec : cv G (.ref x) = .ref (adO G x) := if_neg h9
    rw [ec]
    exact lv_ifnonnull C.1 C.2.1 hd ht (h1 h9 p l e s m a b me c G H lo rl C K P S L)
theorem E_tsw {x : Int32} {d lo hi : Int} {offs : Array Int} {len : Nat} (tg : List (Int32 × Nat)) (dt : Nat) (hd : decode cc pc = .ok (.tableswitch d lo hi offs, len)) (ht : (pc : Int) + d = (dt : Int)) (hhi : hi + 1 = lo + (tg.length : Int)) (hv : tg.map (fun q => q.1.toInt) = (List.range tg.length).map (fun j : Nat => lo + (j : Int))) (ho : offs.toList.map (fun o => (pc : Int) + o) = tg.map (fun q => (q.2 : Int)))
    (h1 : ∀ q ∈ tg, x = q.1 → Ev cc nL rt own R q.2 ls st σ Q) (h2 : (∀ q ∈ tg, ¬ x = q.1) → Ev cc nL rt own R dt ls st σ Q) : Ev cc nL rt own R pc ls (.int x :: st) σ Q := by
  intro p l e s m a b me c G H lo' rl C K P S L
  have hval : ∀ (j : Nat) (hj : j < tg.length), (tg[j]).1.toInt = lo + (j : Int) := by
    intro j hj
    have e1 := congrArg (fun l => l[j]?) hv
    simp only [List.getElem?_map, List.getElem?_eq_getElem hj, List.getElem?_range hj] at e1
    exact Option.some.inj e1
  by_cases hx : x.toInt < lo ∨ hi < x.toInt
  · refine lv_tableOut C.1 C.2.1 hd hx ht (h2 (fun q hq e1 => ?_) p l e s m a b me c G H lo' rl C K P S L)
    obtain ⟨j, hj, ej⟩ := List.getElem_of_mem hq
    have := hval j hj
    rw [ej, ← e1] at this
    omega
  · have hn : ¬ x.toInt < lo := fun z => hx (Or.inl z)
    have hm : ¬ hi < x.toInt := fun z => hx (Or.inr z)
    obtain ⟨j, ej⟩ : ∃ j : Nat, (j : Int) = x.toInt - lo := ⟨(x.toInt - lo).toNat, by omega⟩
    have hj : j < tg.length := by omega
    have e0 : x = (tg[j]).1 := Int32.toInt_inj.mp (by rw [hval j hj]; omega)
    have hlen : offs.toList.length = tg.length := by have := congrArg List.length ho; simpa using this
    have hj2 : j < offs.toList.length := by omega
    have e1 : (offs.toList.map (fun o => (pc : Int) + o))[j]? = some ((tg[j]).2 : Int) := by rw [ho, List.getElem?_map, List.getElem?_eq_getElem hj]; rfl
    rw [List.getElem?_map, List.getElem?_eq_getElem hj2] at e1
    have e2 : (pc : Int) + offs.toList[j] = ((tg[j]).2 : Int) := Option.some.inj e1
    refine lv_tableIn (off := offs.toList[j]) C.1 C.2.1 hd hn hm ?_ e2 (h1 _ (List.getElem_mem hj) e0 p l e s m a b me c G H lo' rl C K P S L)
    rw [← ej, show ((j : Int)).toNat = j by omega, ← Array.getElem?_toList, List.getElem?_eq_getElem hj2]
theorem lsw_off {x : Int32} {d : Int} : ∀ (ps : List (Int × Int)) (tg : List (Int32 × Nat)), ps.map (fun q => (q.1, (pc : Int) + q.2)) = tg.map (fun q => (q.1.toInt, (q.2 : Int))) → (∃ q ∈ tg, x = q.1 ∧ (pc : Int) + Op.lookupswitch.offset ps d x.toInt = (q.2 : Int)) ∨ ((∀ q ∈ tg, ¬ x = q.1) ∧ Op.lookupswitch.offset ps d x.toInt = d) := by
  intro ps
  induction ps with
  | nil =>
    intro tg h
    have : tg = [] := by cases tg with
      | nil => rfl
      | cons q tg => simp at h
    subst this
    exact Or.inr ⟨fun q hq => (by cases hq), rfl⟩
  | cons p1 ps ih =>
    intro tg h
    cases tg with
    | nil => simp at h
    | cons q tg =>
      simp only [List.map_cons, List.cons.injEq, Prod.mk.injEq] at h
      obtain ⟨⟨ha, hb⟩, hc⟩ := h
      by_cases hx : x = q.1
      · refine Or.inl ⟨q, List.mem_cons_self, hx, ?_⟩
        obtain ⟨a1, a2⟩ := p1
        rw [Op.lookupswitch.offset_cons, if_pos (by rw [hx]; exact ha)]
        exact hb
      · obtain ⟨a1, a2⟩ := p1
        have e1 := lv_osw (x := x) (o := a2) (d := d) (r := ps) hx ha.symm
        rcases ih tg hc with ⟨q', hq', h1, h2⟩ | ⟨h1, h2⟩
        · exact Or.inl ⟨q', List.mem_cons_of_mem _ hq', h1, by rw [e1]; exact h2⟩
        · refine Or.inr ⟨fun q' hq' => ?_, by rw [e1]; exact h2⟩
          rcases List.mem_cons.mp hq' with rfl | hq'
          · exact hx
          · exact h1 q' hq'
theorem E_lsw {x : Int32} {d : Int} {ps : Array (Int × Int)} {len : Nat} (tg : List (Int32 × Nat)) (dt : Nat) (hd : decode cc pc = .ok (.lookupswitch d ps, len)) (hp : (ps.toList.zip (ps.toList.drop 1)).all (fun (a, next) => a.1 < next.1) = true) (ht : (pc : Int) + d = (dt : Int)) (ho : ps.toList.map (fun q => (q.1, (pc : Int) + q.2)) = tg.map (fun q => (q.1.toInt, (q.2 : Int))))
    (h1 : ∀ q ∈ tg, x = q.1 → Ev cc nL rt own R q.2 ls st σ Q) (h2 : (∀ q ∈ tg, ¬ x = q.1) → Ev cc nL rt own R dt ls st σ Q) : Ev cc nL rt own R pc ls (.int x :: st) σ Q := by
  intro p l e s m a b me c G H lo' rl C K P S L
  rcases lsw_off (x := x) (d := d) (pc := pc) ps.toList tg ho with ⟨q, hq, g1, g2⟩ | ⟨g1, g2⟩
  · exact lv_lookup C.1 C.2.1 hd hp rfl g2 (h1 q hq g1 p l e s m a b me c G H lo' rl C K P S L)
  · exact lv_lookup C.1 C.2.1 hd hp g2 ht (h2 g1 p l e s m a b me c G H lo' rl C K P S L)
end ER
end
section
section EH
variable {cc : ByteArray} {nL : Nat} {rt : Option FieldType} {own : String} {R : Room} {pc : Nat} {ls ls' st : List Value} {σ : St} {Q : Option Value → St → Prop}
/-- a field by its place in a pool -/
def FdO (own : String) (idx c j : Nat) : Prop := ∃ q : vw_C, clsL[c]? = some q ∧ (∀ w ∈ u_ws q.1 q.2.1 q.2.2, w ∈ Tg) ∧ j < q.2.2 ∧ Cond.fieldLink own idx (q.2.1 j).1 (q.2.1 j).2.1 (q.2.1 j).2.2.1 ∈ Tg
/-- a field that is no final one, of a type -/
def FpO (c j : Nat) (ty : FieldType) : Prop := ∃ (q : vw_C) (ty0 : Nat → FieldType), clsL[c]? = some q ∧ (∀ k, k < q.2.2 → parseFieldDescriptor (q.2.1 k).2.2.1 = some (ty0 k)) ∧ (∀ a, a < q.2.2 → ∀ b, b < q.2.2 → a ≠ b → (q.2.1 a).2.1 ≠ (q.2.1 b).2.1) ∧ (q.2.1 j).2.2.2 = false ∧ parseFieldDescriptor (q.2.1 j).2.2.1 = some ty
theorem cv_ref {G : Gx} {k : Nat} (h : k ≠ 999) : cv G (.ref k) = .ref (adO G k) := if_neg h
theorem cv_cell {G : Gx} {k : Nat} (h : kd k < 12) : cv G (.ref k) = .ref (adO G k) := cv_ref (by have := kd_lt h; omega)
theorem E_getI {k c j idx d : Nat} (hd : decode cc pc = .ok (.getfield idx, 3)) (ho : kd k = c) (hc : c < 8) (hf : (fl c)[j]? = some (1, d)) (hF : FdO own idx c j) (h : Ev cc nL rt own R (pc + 3) ls (.int (gI σ k j) :: st) σ Q) : Ev cc nL rt own R pc ls (.ref k :: st) σ Q := by
  intro p l e s m a b me c' G H lo rl C K P S L
  obtain ⟨q, q1, q2, q3, q4⟩ := hF
  rw [List.map_cons, cv_cell (by omega)]
  refine va_get (Ts := Tg) (C := q.1) (T := q.2.1) (N := q.2.2) (v := .int (gI σ k j)) C.1 C.2.1 C.2.2.2.2.2.1 q2 C.2.2.2.2.1 K.1 P k (wsO_obj ho hc) q1 j q3 (C.2.2.2.2.2.1 _ q4) (fun _ h9 => h9) ?_ hd ?_
  · rw [fsO_at ho hf]; rfl
  · have h' := h p l e s m a b me c' G H lo rl C K P S L
    exact h'
theorem E_getZ {k c j idx d : Nat} (hd : decode cc pc = .ok (.getfield idx, 3)) (ho : kd k = c) (hc : c < 8) (hf : (fl c)[j]? = some (2, d)) (hF : FdO own idx c j) (h : Ev cc nL rt own R (pc + 3) ls (.int (gI σ k j) :: st) σ Q) : Ev cc nL rt own R pc ls (.ref k :: st) σ Q := by
  intro p l e s m a b me c' G H lo rl C K P S L
  obtain ⟨q, q1, q2, q3, q4⟩ := hF
  rw [List.map_cons, cv_cell (by omega)]
  refine va_get (Ts := Tg) (C := q.1) (T := q.2.1) (N := q.2.2) (v := .int (gI σ k j)) C.1 C.2.1 C.2.2.2.2.2.1 q2 C.2.2.2.2.1 K.1 P k (wsO_obj ho hc) q1 j q3 (C.2.2.2.2.2.1 _ q4) (fun _ h9 => h9) ?_ hd ?_
  · rw [fsO_at ho hf]; rfl
  · have h' := h p l e s m a b me c' G H lo rl C K P S L
    exact h'
theorem E_getL {k c j idx d : Nat} (hd : decode cc pc = .ok (.getfield idx, 3)) (ho : kd k = c) (hc : c < 8) (hf : (fl c)[j]? = some (3, d)) (hF : FdO own idx c j) (h : Ev cc nL rt own R (pc + 3) ls (.long (gL σ k j) :: st) σ Q) : Ev cc nL rt own R pc ls (.ref k :: st) σ Q := by
  intro p l e s m a b me c' G H lo rl C K P S L
  obtain ⟨q, q1, q2, q3, q4⟩ := hF
  rw [List.map_cons, cv_cell (by omega)]
  refine va_get (Ts := Tg) (C := q.1) (T := q.2.1) (N := q.2.2) (v := .long (gL σ k j)) C.1 C.2.1 C.2.2.2.2.2.1 q2 C.2.2.2.2.1 K.1 P k (wsO_obj ho hc) q1 j q3 (C.2.2.2.2.2.1 _ q4) (fun _ h9 => h9) ?_ hd ?_
  · rw [fsO_at ho hf]; rfl
  · have h' := h p l e s m a b me c' G H lo rl C K P S L
    exact h'
theorem E_getR {k c j idx d : Nat} (hd : decode cc pc = .ok (.getfield idx, 3)) (ho : kd k = c) (hc : c < 8) (hf : (fl c)[j]? = some (0, d)) (hF : FdO own idx c j) (h9 : d < 900) (h : Ev cc nL rt own R (pc + 3) ls (.ref (k + d) :: st) σ Q) : Ev cc nL rt own R pc ls (.ref k :: st) σ Q := by
  intro p l e s m a b me c' G H lo rl C K P S L
  obtain ⟨q, q1, q2, q3, q4⟩ := hF
  rw [List.map_cons, cv_cell (by omega)]
  refine va_get (Ts := Tg) (C := q.1) (T := q.2.1) (N := q.2.2) (v := .ref (adO G (k + d))) C.1 C.2.1 C.2.2.2.2.2.1 q2 C.2.2.2.2.1 K.1 P k (wsO_obj ho hc) q1 j q3 (C.2.2.2.2.2.1 _ q4) (fun _ h9 => h9) ?_ hd ?_
  · rw [fsO_at ho hf]; rfl
  · have h' := h p l e s m a b me c' G H lo rl C K P S L
    rw [List.map_cons, show cv G (.ref (k + d)) = .ref (adO G (k + d)) from cv_ref (by have := kd_lt (k := k) (by omega); omega)] at h'
    exact h'
theorem E_putI {k c j idx d : Nat} {x : Int32} (hd : decode cc pc = .ok (.putfield idx, 3)) (ho : kd k = c) (hc : c < 8) (hf : (fl c)[j]? = some (1, d)) (hF : FdO own idx c j) (hp : FpO c j .int) (h : Ev cc nL rt own R (pc + 3) ls st (sI σ k j x) Q) : Ev cc nL rt own R pc ls (.int x :: .ref k :: st) σ Q := by
  intro p l e s m a b me c' G H lo rl C K P S L
  obtain ⟨q, q1, q2, q3, q4⟩ := hF
  obtain ⟨q', ty0, r1, r2, r3, r4, r5⟩ := hp
  cases q1.symm.trans r1
  rw [List.map_cons, List.map_cons, cv_cell (by omega)]
  refine va_put (Ts := Tg) (C := q.1) (T := q.2.1) (N := q.2.2) (v := .int x) (ty := .int) C.1 C.2.1 C.2.2.2.2.2.1 q2 ty0 r2 r3 C.2.2.2.2.1 K.1 P (K.D σ) S k (wsO_obj ho hc) q1 j q3 (C.2.2.2.2.2.1 _ q4) (fun _ h9 => h9) r4 r5 rfl rfl (by rw [fsO_len, ho]; exact (List.getElem?_eq_some_iff.mp hf).1) hd (fun H1 lo1 P1 D1 S1 => ?_)
  rw [wsO_sIf ho hc hf (Or.inl rfl)] at P1
  exact h p l e s m a b me c' G H1 lo1 rl C K P1 S1 L
theorem E_putZ {k c j idx d : Nat} {x : Int32} (hd : decode cc pc = .ok (.putfield idx, 3)) (ho : kd k = c) (hc : c < 8) (hf : (fl c)[j]? = some (2, d)) (hF : FdO own idx c j) (hp : FpO c j .boolean) (hx : x = 0 ∨ x = 1) (h : Ev cc nL rt own R (pc + 3) ls st (sI σ k j x) Q) : Ev cc nL rt own R pc ls (.int x :: .ref k :: st) σ Q := by
  intro p l e s m a b me c' G H lo rl C K P S L
  obtain ⟨q, q1, q2, q3, q4⟩ := hF
  obtain ⟨q', ty0, r1, r2, r3, r4, r5⟩ := hp
  cases q1.symm.trans r1
  rw [List.map_cons, List.map_cons, cv_cell (by omega)]
  refine va_put (Ts := Tg) (C := q.1) (T := q.2.1) (N := q.2.2) (v := .int x) (ty := .boolean) C.1 C.2.1 C.2.2.2.2.2.1 q2 ty0 r2 r3 C.2.2.2.2.1 K.1 P (K.D σ) S k (wsO_obj ho hc) q1 j q3 (C.2.2.2.2.2.1 _ q4) (fun _ h9 => h9) r4 r5 (by rcases hx with rfl | rfl <;> rfl) (by rcases hx with rfl | rfl <;> rfl) (by rw [fsO_len, ho]; exact (List.getElem?_eq_some_iff.mp hf).1) hd (fun H1 lo1 P1 D1 S1 => ?_)
  rw [wsO_sIf ho hc hf (Or.inr rfl)] at P1
  exact h p l e s m a b me c' G H1 lo1 rl C K P1 S1 L
theorem E_putL {k c j idx d : Nat} {x : Int64} (hd : decode cc pc = .ok (.putfield idx, 3)) (ho : kd k = c) (hc : c < 8) (hf : (fl c)[j]? = some (3, d)) (hF : FdO own idx c j) (hp : FpO c j .long) (h : Ev cc nL rt own R (pc + 3) ls st (sL σ k j x) Q) : Ev cc nL rt own R pc ls (.long x :: .ref k :: st) σ Q := by
  intro p l e s m a b me c' G H lo rl C K P S L
  obtain ⟨q, q1, q2, q3, q4⟩ := hF
  obtain ⟨q', ty0, r1, r2, r3, r4, r5⟩ := hp
  cases q1.symm.trans r1
  rw [List.map_cons, List.map_cons, cv_cell (by omega)]
  refine va_put (Ts := Tg) (C := q.1) (T := q.2.1) (N := q.2.2) (v := .long x) (ty := .long) C.1 C.2.1 C.2.2.2.2.2.1 q2 ty0 r2 r3 C.2.2.2.2.1 K.1 P (K.D σ) S k (wsO_obj ho hc) q1 j q3 (C.2.2.2.2.2.1 _ q4) (fun _ h9 => h9) r4 r5 rfl rfl (by rw [fsO_len, ho]; exact (List.getElem?_eq_some_iff.mp hf).1) hd (fun H1 lo1 P1 D1 S1 => ?_)
  rw [wsO_sLf ho hc hf rfl] at P1
  exact h p l e s m a b me c' G H1 lo1 rl C K P1 S1 L
theorem E_iald {k n : Nat} {i : Int32} (hd : decode cc pc = .ok (.iaload, 1)) (hk : kd k = 8) (hn : ln k = n) (hi : vp_in i n) (h : Ev cc nL rt own R (pc + 1) ls (.int (gI σ k i.toNatClampNeg) :: st) σ Q) : Ev cc nL rt own R pc ls (.int i :: .ref k :: st) σ Q := by
  intro p l e s m a b me c G H lo rl C K P S L
  rw [List.map_cons, List.map_cons, cv_cell (by omega)]
  exact va_iald C.1 C.2.1 K.1 P k 0 (wsO_int hk hn) rfl hi hd (h p l e s m a b me c G H lo rl C K P S L)
theorem E_lald {k n : Nat} {i : Int32} (hd : decode cc pc = .ok (.laload, 1)) (hk : kd k = 9) (hn : ln k = n) (hi : vp_in i n) (h : Ev cc nL rt own R (pc + 1) ls (.long (gL σ k i.toNatClampNeg) :: st) σ Q) : Ev cc nL rt own R pc ls (.int i :: .ref k :: st) σ Q := by
  intro p l e s m a b me c G H lo rl C K P S L
  rw [List.map_cons, List.map_cons, cv_cell (by omega)]
  exact va_lald C.1 C.2.1 K.1 P k 1 (wsO_long hk hn) rfl hi hd (h p l e s m a b me c G H lo rl C K P S L)
theorem E_zald {k n : Nat} {i : Int32} (hd : decode cc pc = .ok (.baload, 1)) (hk : kd k = 10) (hn : ln k = n) (hi : vp_in i n) (h : Ev cc nL rt own R (pc + 1) ls (.int (gI σ k i.toNatClampNeg) :: st) σ Q) : Ev cc nL rt own R pc ls (.int i :: .ref k :: st) σ Q := by
  intro p l e s m a b me c G H lo rl C K P S L
  rw [List.map_cons, List.map_cons, cv_cell (by omega)]
  exact va_zald C.1 C.2.1 K.1 P k 2 (wsO_bool hk hn) rfl hi hd (h p l e s m a b me c G H lo rl C K P S L)
theorem E_aald {k n : Nat} {i : Int32} (hd : decode cc pc = .ok (.aaload, 1)) (hk : kd k = 11) (hn : ln k = n) (hi : vp_in i n) (h9 : n < 100) (h : Ev cc nL rt own R (pc + 1) ls (.ref (k + 2 + 2 * i.toNatClampNeg) :: st) σ Q) : Ev cc nL rt own R pc ls (.int i :: .ref k :: st) σ Q := by
  intro p l e s m a b me c G H lo rl C K P S L
  rw [List.map_cons, List.map_cons, cv_cell (by omega)]
  have hlt : i.toNatClampNeg < n := Nat.not_le.mp fun q => hi (Or.inr q)
  have h' := h p l e s m a b me c G H lo rl C K P S L
  rw [List.map_cons, show cv G (.ref (k + 2 + 2 * i.toNatClampNeg)) = .ref (adO G (k + 2 + 2 * i.toNatClampNeg)) from cv_ref (by have := kd_lt (k := k) (by omega); omega)] at h'
  exact va_aldq C.1 C.2.1 K.1 P k 3 (wsO_sheets hk hn) rfl hi hd h'
theorem E_iast {k n : Nat} {i : Int32} {x : Int32} (hd : decode cc pc = .ok (.iastore, 1)) (hk : kd k = 8) (hn : ln k = n) (hi : vp_in i n) (h : Ev cc nL rt own R (pc + 1) ls st (sI σ k i.toNatClampNeg x) Q) : Ev cc nL rt own R pc ls (.int x :: .int i :: .ref k :: st) σ Q := by
  intro p l e s m a b me c G H lo rl C K P S L
  rw [List.map_cons, List.map_cons, List.map_cons, cv_cell (by omega)]
  refine va_iast C.1 C.2.1 K.1 P (K.D σ) S k 0 (wsO_int hk hn) rfl hi hd (fun H1 lo1 P1 D1 S1 => ?_)
  rw [wsO_sIa hk hn] at P1
  exact h p l e s m a b me c G H1 lo1 rl C K P1 S1 L
theorem E_last {k n : Nat} {i : Int32} {x : Int64} (hd : decode cc pc = .ok (.lastore, 1)) (hk : kd k = 9) (hn : ln k = n) (hi : vp_in i n) (h : Ev cc nL rt own R (pc + 1) ls st (sL σ k i.toNatClampNeg x) Q) : Ev cc nL rt own R pc ls (.long x :: .int i :: .ref k :: st) σ Q := by
  intro p l e s m a b me c G H lo rl C K P S L
  rw [List.map_cons, List.map_cons, List.map_cons, cv_cell (by omega)]
  refine va_last C.1 C.2.1 K.1 P (K.D σ) S k 1 (wsO_long hk hn) rfl hi hd (fun H1 lo1 P1 D1 S1 => ?_)
  rw [wsO_sLa hk hn] at P1
  exact h p l e s m a b me c G H1 lo1 rl C K P1 S1 L
theorem E_zast {k n : Nat} {i : Int32} {x : Int32} (hd : decode cc pc = .ok (.bastore, 1)) (hk : kd k = 10) (hn : ln k = n) (hi : vp_in i n) (hx : x = 0 ∨ x = 1) (h : Ev cc nL rt own R (pc + 1) ls st (sI σ k i.toNatClampNeg x) Q) : Ev cc nL rt own R pc ls (.int x :: .int i :: .ref k :: st) σ Q := by
  intro p l e s m a b me c G H lo rl C K P S L
  rw [List.map_cons, List.map_cons, List.map_cons, cv_cell (by omega)]
  refine va_zast C.1 C.2.1 K.1 P (K.D σ) S k 2 (wsO_bool hk hn) rfl hi hd (fun H1 lo1 P1 D1 S1 => ?_)
  rw [show vp_nar .boolean x = x by rcases hx with rfl | rfl <;> decide] at P1
  rw [wsO_sIz hk hn] at P1
  exact h p l e s m a b me c G H1 lo1 rl C K P1 S1 L
theorem E_alenI {k n : Nat} {v : Int32} (hd : decode cc pc = .ok (.arraylength, 1)) (hk : kd k = 8) (hn : ln k = n) (hv : Int32.ofNat n = v) (h : Ev cc nL rt own R (pc + 1) ls (.int v :: st) σ Q) : Ev cc nL rt own R pc ls (.ref k :: st) σ Q := by
  intro p l e s m a b me c G H lo rl C K P S L
  rw [List.map_cons, cv_cell (by omega)]
  exact va_alen C.1 C.2.1 K.1 P k 0 (wsO_int hk hn) rfl hv hd (h p l e s m a b me c G H lo rl C K P S L)
theorem E_alenL {k n : Nat} {v : Int32} (hd : decode cc pc = .ok (.arraylength, 1)) (hk : kd k = 9) (hn : ln k = n) (hv : Int32.ofNat n = v) (h : Ev cc nL rt own R (pc + 1) ls (.int v :: st) σ Q) : Ev cc nL rt own R pc ls (.ref k :: st) σ Q := by
  intro p l e s m a b me c G H lo rl C K P S L
  rw [List.map_cons, cv_cell (by omega)]
  exact va_alen C.1 C.2.1 K.1 P k 1 (wsO_long hk hn) rfl hv hd (h p l e s m a b me c G H lo rl C K P S L)
/-- the table ABOVE, the texts -/
theorem E_above {idx : Nat} (hd : decode cc pc = .ok (.getstatic idx, 3)) (hw : Cond.fieldLink own idx "WallDown" "ABOVE" "[I" ∈ Tg) (h : Ev cc nL rt own R (pc + 3) ls (.ref 200 :: st) σ Q) : Ev cc nL rt own R pc ls st σ Q :=
  fun p l e s m a b me c G H lo rl C K P S L => va_gets C.1 C.2.1 K.2.2.2.1 S C.2.2.2.2.1 (C.2.2.2.2.2.1 _ hw) (fun _ h => h) hd (h p l e s m a b me c G H lo rl C K P S L)
theorem E_aboveAt {i : Int32} (hd : decode cc pc = .ok (.iaload, 1)) (hi : vp_in i 6) (h : Ev cc nL rt own R (pc + 1) ls (.int (aboveL.getD i.toNatClampNeg 0) :: st) σ Q) : Ev cc nL rt own R pc ls (.int i :: .ref 200 :: st) σ Q :=
  fun p l e s m a b me c G H lo rl C K P S L => va_ti C.1 C.2.1 K.2.2.2.2.1 S hi rfl hd (h p l e s m a b me c G H lo rl C K P S L)
theorem E_compact {idx : Nat} (hd : decode cc pc = .ok (.getstatic idx, 3)) (hw : Cond.fieldLink own idx "java/lang/String" "COMPACT_STRINGS" "Z" ∈ Tg) (h : Ev cc nL rt own R (pc + 3) ls (.int 1 :: st) σ Q) : Ev cc nL rt own R pc ls st σ Q :=
  fun p l e s m a b me c G H lo rl C K P S L => va_gets C.1 C.2.1 K.2.2.2.2.2.1 S C.2.2.2.2.1 (C.2.2.2.2.2.1 _ hw) (fun _ h => h) hd (h p l e s m a b me c G H lo rl C K P S L)
theorem E_ldcS {idx i : Nat} (hd : decode cc pc = .ok (.ldc idx, 2)) (ho : own = "WallDown$Teller") (hi : i < stN) (hx : (stL.getD i (0, "", [])).1 = idx) (h : Ev cc nL rt own R (pc + 2) ls (.ref (300 + i) :: st) σ Q) : Ev cc nL rt own R pc ls st σ Q := by
  intro p l e s m a b me c G H lo rl C K P S L
  have h' := h p l e s m a b me c G H lo rl C K P S L
  rw [List.map_cons, show cv G (.ref (300 + i)) = .ref (adO G (300 + i)) from cv_ref (by have : stN = 14 := rfl; omega)] at h'
  subst ho
  subst hx
  exact va_ldcS C.1 C.2.1 C.2.2.2.2.1 (K.2.2.2.2.2.2.2 i hi) hd h'
theorem E_strCoder {idx i : Nat} (hd : decode cc pc = .ok (.getfield idx, 3)) (hi : i < stN) (hw : Cond.fieldLink own idx "java/lang/String" "coder" "B" ∈ Tg) (h : Ev cc nL rt own R (pc + 3) ls (.int 0 :: st) σ Q) : Ev cc nL rt own R pc ls (.ref (300 + i) :: st) σ Q := by
  intro p l e s m a b me c G H lo rl C K P S L
  rw [List.map_cons, show cv G (.ref (300 + i)) = .ref (adO G (300 + i)) from cv_ref (by have : stN = 14 := rfl; omega)]
  exact vk_getf C.1 C.2.1 (K.2.2.2.2.2.2.1.1 i hi).2.1 S C.2.2.2.2.1 (C.2.2.2.2.2.1 _ hw) (fun _ h => h) hd (h p l e s m a b me c G H lo rl C K P S L)
theorem E_strValue {idx i : Nat} (hd : decode cc pc = .ok (.getfield idx, 3)) (hi : i < stN) (hw : Cond.fieldLink own idx "java/lang/String" "value" "[B" ∈ Tg) (h : Ev cc nL rt own R (pc + 3) ls (.ref (400 + i) :: st) σ Q) : Ev cc nL rt own R pc ls (.ref (300 + i) :: st) σ Q := by
  intro p l e s m a b me c G H lo rl C K P S L
  have h' := h p l e s m a b me c G H lo rl C K P S L
  rw [List.map_cons, show cv G (.ref (400 + i)) = .ref (adO G (400 + i)) from cv_ref (by have : stN = 14 := rfl; omega)] at h'
  rw [List.map_cons, show cv G (.ref (300 + i)) = .ref (adO G (300 + i)) from cv_ref (by have : stN = 14 := rfl; omega)]
  exact vk_getf C.1 C.2.1 (K.2.2.2.2.2.2.1.1 i hi).2.2.1 S C.2.2.2.2.1 (C.2.2.2.2.2.1 _ hw) (fun _ h => h) hd h'
theorem E_strAt {i : Nat} {k : Int32} (hd : decode cc pc = .ok (.baload, 1)) (hi : i < stN) (hk : vp_in k (stLen.getD i 0)) (h : Ev cc nL rt own R (pc + 1) ls (.int ((stByt.getD i []).getD k.toNatClampNeg 0) :: st) σ Q) : Ev cc nL rt own R pc ls (.int k :: .ref (400 + i) :: st) σ Q := by
  intro p l e s m a b me c G H lo rl C K P S L
  rw [List.map_cons, List.map_cons, show cv G (.ref (400 + i)) = .ref (adO G (400 + i)) from cv_ref (by have : stN = 14 := rfl; omega)]
  exact va_tb C.1 C.2.1 (K.2.2.2.2.2.2.1.1 i hi).2.2.2 S hk rfl hd (h p l e s m a b me c G H lo rl C K P S L)
theorem E_strLen {i : Nat} {v : Int32} (hd : decode cc pc = .ok (.arraylength, 1)) (hi : i < stN) (hv : Int32.ofNat (stLen.getD i 0) = v) (h : Ev cc nL rt own R (pc + 1) ls (.int v :: st) σ Q) : Ev cc nL rt own R pc ls (.ref (400 + i) :: st) σ Q := by
  intro p l e s m a b me c G H lo rl C K P S L
  rw [List.map_cons, show cv G (.ref (400 + i)) = .ref (adO G (400 + i)) from cv_ref (by have : stN = 14 := rfl; omega)]
  exact va_tlen C.1 C.2.1 (K.2.2.2.2.2.2.1.1 i hi).2.2.2 S hv hd (h p l e s m a b me c G H lo rl C K P S L)
theorem E_cpI {k d n1 n2 idx : Nat} {i j n : Int32} (hd : decode cc pc = .ok (.invokestatic idx, 3)) (hw : Cond.methodLink own idx arraycopyName ∈ Tg) (hw2 : Cond.native arraycopyName ∈ Tg) (hw3 : Cond.static arraycopyName ∈ Tg) (hw4 : Cond.initialized "java/lang/System" ∈ Tg) (hk : kd k = 8) (hn1 : ln k = n1) (hk2 : kd d = 8) (hn2 : ln d = n2) (hR : 1 ≤ R.frames ∧ (st.map fun v => v.category).sum + 18 ≤ R.locals)
    (h1 : ¬ i < 0) (h2 : ¬ j < 0) (h3 : ¬ n < 0) (h4 : i.toNatClampNeg + n.toNatClampNeg ≤ n1) (h5 : j.toNatClampNeg + n.toNatClampNeg ≤ n2) (h : Ev cc nL rt own R (pc + 3) ls st (cI σ k i.toNatClampNeg d j.toNatClampNeg n.toNatClampNeg) Q) : Ev cc nL rt own R pc ls (.int n :: .int j :: .ref d :: .int i :: .ref k :: st) σ Q := by
  intro p l e s m a b me c G H lo rl C K P S L
  simp only [List.map_cons, cv_cell (G := G) (k := k) (by omega), cv_cell (G := G) (k := d) (by omega)]
  refine va_copyi C.1 C.2.1 (by rw [C.2.2.2.1]; exact L.1.symm) C.2.2.2.2.1 (C.2.2.2.2.2.1 _ hw) (C.2.2.2.2.2.1 _ hw2) (C.2.2.2.2.2.1 _ hw3) (C.2.2.2.2.2.1 _ hw4) K.1 P (K.D σ) S k d 0 0 (wsO_int hk hn1) (wsO_int hk2 hn2) rfl rfl rfl h1 h2 h3 h4 h5 (fun _ _ => rfl) hR.1 ?_ hd (fun H1 lo1 P1 D1 S1 => ?_)
  · have e1 : (nativeFrameWords "java/lang/System" "arraycopy" 5 + 11) = 18 := by decide
    have e2 : ((st.map (cv G)).map fun v => v.category) = st.map fun v => v.category := by rw [List.map_map]; exact List.map_congr_left (fun v _ => cv_cat G v)
    rw [e1, e2]
    exact hR.2
  · rw [wsO_cIa hk2 hn2] at P1
    exact h p l e s m a b me c G H1 lo1 rl C K P1 S1 L
theorem E_cpL {k d n1 n2 idx : Nat} {i j n : Int32} (hd : decode cc pc = .ok (.invokestatic idx, 3)) (hw : Cond.methodLink own idx arraycopyName ∈ Tg) (hw2 : Cond.native arraycopyName ∈ Tg) (hw3 : Cond.static arraycopyName ∈ Tg) (hw4 : Cond.initialized "java/lang/System" ∈ Tg) (hk : kd k = 9) (hn1 : ln k = n1) (hk2 : kd d = 9) (hn2 : ln d = n2) (hR : 1 ≤ R.frames ∧ (st.map fun v => v.category).sum + 18 ≤ R.locals)
    (h1 : ¬ i < 0) (h2 : ¬ j < 0) (h3 : ¬ n < 0) (h4 : i.toNatClampNeg + n.toNatClampNeg ≤ n1) (h5 : j.toNatClampNeg + n.toNatClampNeg ≤ n2) (h : Ev cc nL rt own R (pc + 3) ls st (cL σ k i.toNatClampNeg d j.toNatClampNeg n.toNatClampNeg) Q) : Ev cc nL rt own R pc ls (.int n :: .int j :: .ref d :: .int i :: .ref k :: st) σ Q := by
  intro p l e s m a b me c G H lo rl C K P S L
  simp only [List.map_cons, cv_cell (G := G) (k := k) (by omega), cv_cell (G := G) (k := d) (by omega)]
  refine va_copyl C.1 C.2.1 (by rw [C.2.2.2.1]; exact L.1.symm) C.2.2.2.2.1 (C.2.2.2.2.2.1 _ hw) (C.2.2.2.2.2.1 _ hw2) (C.2.2.2.2.2.1 _ hw3) (C.2.2.2.2.2.1 _ hw4) K.1 P (K.D σ) S k d 1 1 (wsO_long hk hn1) (wsO_long hk2 hn2) rfl rfl rfl h1 h2 h3 h4 h5 (fun _ _ => rfl) hR.1 ?_ hd (fun H1 lo1 P1 D1 S1 => ?_)
  · have e1 : (nativeFrameWords "java/lang/System" "arraycopy" 5 + 11) = 18 := by decide
    have e2 : ((st.map (cv G)).map fun v => v.category) = st.map fun v => v.category := by rw [List.map_map]; exact List.map_congr_left (fun v _ => cv_cat G v)
    rw [e1, e2]
    exact hR.2
  · rw [wsO_cLa hk2 hn2] at P1
    exact h p l e s m a b me c G H1 lo1 rl C K P1 S1 L
def mxI (x y : Int32) : Int32 := if x < y then y else x
def mnI (x y : Int32) : Int32 := if y < x then y else x
def abI (x : Int32) : Int32 := if 0 ≤ x then x else 0 - x
theorem st_cat {G : Gx} {st : List Value} {n k : Nat} (h : (st.map fun v => v.category).sum + k ≤ n) : ((st.map (cv G)).map fun v => v.category).sum + k ≤ n := by
  have e2 : ((st.map (cv G)).map fun v => v.category) = st.map fun v => v.category := by rw [List.map_map]; exact List.map_congr_left (fun v _ => cv_cat G v)
  rw [e2]
  exact h
theorem E_max {idx : Nat} {x y : Int32} (hd : decode cc pc = .ok (.invokestatic idx, 3)) (hw : Cond.methodLink own idx Lib.Math.max.name ∈ Tg) (hw2 : Cond.static Lib.Math.max.name ∈ Tg) (hw3 : Cond.initialized "java/lang/Math" ∈ Tg) (hw4 : Cond.code Lib.Math.max.name Lib.Math.max.code 2 (some .int) ∈ Tg) (hR : 1 ≤ R.frames ∧ (st.map fun v => v.category).sum + 13 ≤ R.locals) (h : Ev cc nL rt own R (pc + 3) ls (.int (mxI x y) :: st) σ Q) : Ev cc nL rt own R pc ls (.int y :: .int x :: st) σ Q :=
  fun p l e s m a b me c G H lo rl C K P S L => va_mmax C.1 C.2.1 (by rw [C.2.2.2.1]; exact L.1.symm) C.2.2.2.2.1 (C.2.2.2.2.2.1 _ hw) (C.2.2.2.2.2.1 _ hw2) (C.2.2.2.2.2.1 _ hw3) (C.2.2.2.2.2.1 _ hw4) hR.1 (st_cat hR.2) (Nat.zero_le _) (Nat.zero_le _) hd (h p l e s m a b me c G H lo rl C K P S L)
theorem E_min {idx : Nat} {x y : Int32} (hd : decode cc pc = .ok (.invokestatic idx, 3)) (hw : Cond.methodLink own idx Lib.Math.min.name ∈ Tg) (hw2 : Cond.static Lib.Math.min.name ∈ Tg) (hw3 : Cond.initialized "java/lang/Math" ∈ Tg) (hw4 : Cond.code Lib.Math.min.name Lib.Math.min.code 2 (some .int) ∈ Tg) (hR : 1 ≤ R.frames ∧ (st.map fun v => v.category).sum + 13 ≤ R.locals) (h : Ev cc nL rt own R (pc + 3) ls (.int (mnI x y) :: st) σ Q) : Ev cc nL rt own R pc ls (.int y :: .int x :: st) σ Q :=
  fun p l e s m a b me c G H lo rl C K P S L => va_mmin C.1 C.2.1 (by rw [C.2.2.2.1]; exact L.1.symm) C.2.2.2.2.1 (C.2.2.2.2.2.1 _ hw) (C.2.2.2.2.2.1 _ hw2) (C.2.2.2.2.2.1 _ hw3) (C.2.2.2.2.2.1 _ hw4) hR.1 (st_cat hR.2) (Nat.zero_le _) (Nat.zero_le _) hd (h p l e s m a b me c G H lo rl C K P S L)
theorem E_abs {idx : Nat} {x : Int32} (hd : decode cc pc = .ok (.invokestatic idx, 3)) (hw : Cond.methodLink own idx Lib.Math.abs.name ∈ Tg) (hw2 : Cond.static Lib.Math.abs.name ∈ Tg) (hw3 : Cond.initialized "java/lang/Math" ∈ Tg) (hw4 : Cond.code Lib.Math.abs.name Lib.Math.abs.code 1 (some .int) ∈ Tg) (hR : 1 ≤ R.frames ∧ (st.map fun v => v.category).sum + 13 ≤ R.locals) (h : Ev cc nL rt own R (pc + 3) ls (.int (abI x) :: st) σ Q) : Ev cc nL rt own R pc ls (.int x :: st) σ Q :=
  fun p l e s m a b me c G H lo rl C K P S L => va_mabs C.1 C.2.1 (by rw [C.2.2.2.1]; exact L.1.symm) C.2.2.2.2.1 (C.2.2.2.2.2.1 _ hw) (C.2.2.2.2.2.1 _ hw2) (C.2.2.2.2.2.1 _ hw3) (C.2.2.2.2.2.1 _ hw4) hR.1 (st_cat hR.2) (Nat.zero_le _) (Nat.zero_le _) hd (h p l e s m a b me c G H lo rl C K P S L)
/-- what a call of y asks of the tables -/
def ClO (own : String) (idx : Nat) (y : MethodName) (cc' : ByteArray) (nL' : Nat) (rt' : Option FieldType) (n : Nat) : Prop := Cond.methodLink own idx y ∈ Tg ∧ Cond.initialized y.cls ∈ Tg ∧ Cond.code y cc' nL' rt' ∈ Tg ∧ (y.cls ≠ "java/lang/invoke/MethodHandle" ∧ y.cls ≠ "java/lang/invoke/VarHandle" ∧ (parseMethodDescriptor y.desc).map (fun d => d.parameters.length) = some n)
def RmO (R' R : Room) (nL' : Nat) : Prop := R'.cells = 0 ∧ R'.slots = 0 ∧ R'.frames + 1 ≤ R.frames ∧ 8 + (nL' + 11) + R'.locals ≤ R.locals
theorem E_cont {p : Program} {l : Launch} {e : Env} {s : State} {m : MethodId} {args : Array Value} {below : List Frame} {meth : Method} {c : Code} {G : Gx} {H : Heap} {locs : List Loc} {rl : Array Slot} {st0 : List Value} {Q' : Option Value → St → Prop} {a1 : Array Value} {rest : List Value}
    (hr : va_Run p l e R s m args below meth c H locs 0 0 0 0 (F0 m pc rl st0) (rest.map (cv G)) (QcO G Q' a1) (Aw G))
    (C : CxO p s m args meth c cc nL rt own) (K : Kx G s) (S : va_S (Aw G) s.heap H locs) (L : lvO G rl nL ls)
    (h : ∀ r σ1, Q' r σ1 → Ev cc nL rt own R (pc + 3) ls (r.toList ++ rest) σ1 Q) : W p l e R s m args below meth c H locs 0 0 (MQ below (QcO G Q) args s 0 0 (Aw G)) (F0 m pc rl st0) := by
  intro T hT X
  obtain ⟨v, st₀, t, T', L1, h0, X', hL, e1, e2, ⟨⟨r, σ1, hv, hq, hP⟩, hz, hk⟩, go⟩ := hr T hT X
  cases hv
  rw [h0] at hz hk
  have S1 : va_S (Aw G) s.heap T'.heap (locs ++ L1) := ⟨Nat.le_trans S.1 (by rw [e1]; exact hz), fun q g1 g2 => by rw [e1, hk q (Nat.lt_of_lt_of_le g1 S.1) g2]; exact S.2.1 q g1 g2, fun q hq => by
      rcases List.mem_append.mp hq with z | z
      · exact S.2.2 q z
      · exact hL q z⟩
  have h' := h r σ1 hq p l e s m args below meth c G T'.heap (locs ++ L1) rl C K (by rw [e1]; exact hP) S1 L
  have es : (r.toList ++ rest).map (cv G) = (r.map (cv G)).toList ++ rest.map (cv G) := by cases r <;> simp
  rw [es] at h'
  obtain ⟨t2, a2, b2⟩ := h' T' rfl X'
  exact ⟨t2, go t2 a2, b2⟩
theorem cat_le {G : Gx} {m : MethodId} {rl : Array Slot} {s0 rest : List Value} (h : (rest.map fun v => v.category).sum ≤ 8) : 2 * (F0 m pc rl s0).monitorRoom + ((rest.map (cv G)).map fun v => v.category).sum ≤ 8 := by
  have e2 : ((rest.map (cv G)).map fun v => v.category) = rest.map fun v => v.category := by rw [List.map_map]; exact List.map_congr_left (fun v _ => cv_cat G v)
  rw [e2]
  exact lv_room (m := m) (pc := pc) (ls := rl) (rest := s0) h
theorem tg_all {args : Array Value} {s : State} (ht : ∀ w ∈ Tg, w.before args s = true) : ∀ w ∈ Tg, ∀ (a' : Array Value) (U : State), s.WarmedH U.vm → w.before a' U = true := fun w hw a' U hW => word_at hW (tg_good w hw) (ht w hw)
theorem E_callS {y : MethodName} {cc' : ByteArray} {nL' n idx : Nat} {rt' : Option FieldType} {R' : Room} {As rest s0 : List Value} {Q' : Option Value → St → Prop} (hd : decode cc pc = .ok (.invokestatic idx, 3)) (hC : ClO own idx y cc' nL' rt' n) (hs : Cond.static y ∈ Tg) (hR : RmO R' R nL') (hn : As.length = n) (h0 : As.reverse ++ rest = s0) (h8 : (rest.map fun v => v.category).sum ≤ 8)
    (hM : Mt y cc' nL' rt' R' As σ Q') (h : ∀ r σ1, Q' r σ1 → Ev cc nL rt own R (pc + 3) ls (r.toList ++ rest) σ1 Q) : Ev cc nL rt own R pc ls s0 σ Q := by
  intro p l e s m a b me c G H lo rl C K P S L
  subst h0
  obtain ⟨w1, w2, w3, w4, w5, w6⟩ := hC
  have hT := C.2.2.2.2.2.1
  refine E_cont (va_runS (As := As.map (cv G)) (rest := rest.map (cv G)) (Ts := Tg) (own := own) (nL := nL) (cc := cc) (n := n) ⟨C.1, C.2.1, C.2.2.2.1, C.2.2.2.2.1, hT⟩ (hM l G) ⟨⟨hR.1, hR.2.1, hR.2.2.1, hR.2.2.2, fun w hw => (List.mem_cons.mp hw).elim (fun z => by rw [z]; exact tg_all hT _ w3) (fun z => tg_all hT w z), List.mem_cons_self, hT _ w3, hT _ w2, ⟨w4, w5⟩, fun sig z => ?_, hT _ w1⟩, hT _ hs⟩
    ⟨fun a' U g mk q => ⟨q.1, q.2.1, q.2.2.blind g mk a'⟩, fun U hU hW => ⟨rfl, by rw [hU]; exact P, K.to S hU hW⟩⟩ rfl (by simpa using hn) L.1 (by simp) (cat_le h8) hd ⟨Nat.zero_le _, Nat.zero_le _⟩) C K S L h
  rw [z] at w6
  exact (Option.some.inj w6).symm
theorem E_callV {y : MethodName} {cc' : ByteArray} {nL' n idx k ci : Nat} {rt' : Option FieldType} {R' : Room} {As rest s0 : List Value} {Q' : Option Value → St → Prop} {Cn : vw_C} (hd : decode cc pc = .ok (.invokevirtual idx, 3)) (hC : ClO own idx y cc' nL' rt' n) (hi : Cond.instanceMethod y ∈ Tg) (hk : kd k = ci) (h8c : ci < 8) (hcl : clsL[ci]? = some Cn) (hs : Cond.selects Cn.1 y y ∈ Tg) (hR : RmO R' R nL') (hn : As.length = n) (h0 : As.reverse ++ .ref k :: rest = s0) (h8 : (rest.map fun v => v.category).sum ≤ 8)
    (hM : Mt y cc' nL' rt' R' (.ref k :: As) σ Q') (h : ∀ r σ1, Q' r σ1 → Ev cc nL rt own R (pc + 3) ls (r.toList ++ rest) σ1 Q) : Ev cc nL rt own R pc ls s0 σ Q := by
  intro p l e s m a b me c G H lo rl C K P S L
  subst h0
  obtain ⟨w1, w2, w3, w4, w5, w6⟩ := hC
  have hT := C.2.2.2.2.2.1
  have hM1 := hM l G
  simp only [List.map_cons, cv_cell (G := G) (k := k) (by omega)] at hM1
  refine E_cont (a1 := (Value.ref (adO G k) :: As.map (cv G)).toArray) (va_runV (C := Cn.1) (b := adO G k) (As := As.map (cv G)) (rest := rest.map (cv G)) (Ts := Tg) (own := own) (nL := nL) (cc := cc) (n := n) ⟨C.1, C.2.1, C.2.2.2.1, C.2.2.2.2.1, hT⟩ hM1 ⟨⟨hR.1, hR.2.1, hR.2.2.1, hR.2.2.2, fun w hw => (List.mem_cons.mp hw).elim (fun z => by rw [z]; exact tg_all hT _ w3) (fun z => tg_all hT w z), List.mem_cons_self, hT _ w3, hT _ w2, ⟨w4, w5⟩, fun sig z => ?_, hT _ w1⟩, hT _ hi, hT _ hs⟩
    ⟨fun a' U g mk q => ⟨q.1, q.2.1, q.2.2.blind g mk a'⟩, va_recv K.1 P (ci := ci) (q0 := k) hcl (wsO_obj hk h8c), fun U hU hW => ⟨rfl, by rw [hU]; exact P, K.to S hU hW⟩⟩ rfl (by simpa using hn) L.1 (by simp [cv_cell (G := G) (k := k) (by omega)]) (cat_le h8) hd ⟨Nat.zero_le _, Nat.zero_le _⟩) C K S L h
  rw [z] at w6
  exact (Option.some.inj w6).symm
/-- a call on a text -/
theorem E_callT {y : MethodName} {cc' : ByteArray} {nL' n idx i : Nat} {rt' : Option FieldType} {R' : Room} {As rest s0 : List Value} {Q' : Option Value → St → Prop} (hd : decode cc pc = .ok (.invokevirtual idx, 3)) (hC : ClO own idx y cc' nL' rt' n) (hin : Cond.instanceMethod y ∈ Tg) (hi : i < stN) (hs : Cond.selects "java/lang/String" y y ∈ Tg) (hR : RmO R' R nL') (hn : As.length = n) (h0 : As.reverse ++ .ref (300 + i) :: rest = s0) (h8 : (rest.map fun v => v.category).sum ≤ 8)
    (hM : Mt y cc' nL' rt' R' (.ref (300 + i) :: As) σ Q') (h : ∀ r σ1, Q' r σ1 → Ev cc nL rt own R (pc + 3) ls (r.toList ++ rest) σ1 Q) : Ev cc nL rt own R pc ls s0 σ Q := by
  intro p l e s m a b me c G H lo rl C K P S L
  subst h0
  obtain ⟨w1, w2, w3, w4, w5, w6⟩ := hC
  have hT := C.2.2.2.2.2.1
  have ev : cv G (.ref (300 + i)) = .ref (adO G (300 + i))   := cv_ref (by have : stN = 14 := rfl; omega)
  have hM1 := hM l G
  simp only [List.map_cons, ev] at hM1
  refine E_cont (a1 := (Value.ref (adO G (300 + i)) :: As.map (cv G)).toArray) (va_runV (C := "java/lang/String") (b := adO G (300 + i)) (As := As.map (cv G)) (rest := rest.map (cv G)) (Ts := Tg) (own := own) (nL := nL) (cc := cc) (n := n) ⟨C.1, C.2.1, C.2.2.2.1, C.2.2.2.2.1, hT⟩ hM1 ⟨⟨hR.1, hR.2.1, hR.2.2.1, hR.2.2.2, fun w hw => (List.mem_cons.mp hw).elim (fun z => by rw [z]; exact tg_all hT _ w3) (fun z => tg_all hT w z), List.mem_cons_self, hT _ w3, hT _ w2, ⟨w4, w5⟩, fun sig z => ?_, hT _ w1⟩, hT _ hin, hT _ hs⟩
    ⟨fun a' U g mk q => ⟨q.1, q.2.1, q.2.2.blind g mk a'⟩, vk_recv (i := i) (adK := fun i => adO G (300 + i)) K.2.2.2.2.2.2.1 hi S, fun U hU hW => ⟨rfl, by rw [hU]; exact P, K.to S hU hW⟩⟩ rfl (by simpa using hn) L.1 (by simp [ev]) (cat_le h8) hd ⟨Nat.zero_le _, Nat.zero_le _⟩) C K S L h
  rw [z] at w6
  exact (Option.some.inj w6).symm
/-- WallDown.isWithin out of WallDown$Tape: a nest mate's -/
theorem E_callN {cc' : ByteArray} {nL' n : Nat} {rt' : Option FieldType} {R' : Room} {As rest s0 : List Value} {Q' : Option Value → St → Prop} (ho : own = "WallDown$Tape") (hd : decode cc pc = .ok (.invokestatic 53, 3)) (w2 : Cond.initialized yX6_isWithin.cls ∈ Tg) (w3 : Cond.code yX6_isWithin cc' nL' rt' ∈ Tg) (w4 : yX6_isWithin.cls ≠ "java/lang/invoke/MethodHandle" ∧ yX6_isWithin.cls ≠ "java/lang/invoke/VarHandle" ∧ (parseMethodDescriptor yX6_isWithin.desc).map (fun d => d.parameters.length) = some n) (hs : Cond.static yX6_isWithin ∈ Tg) (hR : RmO R' R nL') (hn : As.length = n) (h0 : As.reverse ++ rest = s0) (h8 : (rest.map fun v => v.category).sum ≤ 8)
    (hM : Mt yX6_isWithin cc' nL' rt' R' As σ Q') (h : ∀ r σ1, Q' r σ1 → Ev cc nL rt own R (pc + 3) ls (r.toList ++ rest) σ1 Q) : Ev cc nL rt own R pc ls s0 σ Q := by
  intro p l e s m a b me c G H lo rl C K P S L
  subst h0
  subst ho
  have hT := C.2.2.2.2.2.1
  refine E_cont (va_runSN (As := As.map (cv G)) (rest := rest.map (cv G)) (Ts := Tg) (own := "WallDown$Tape") (nL := nL) (cc := cc) (n := n) ⟨C.1, C.2.1, C.2.2.2.1, C.2.2.2.2.1, hT⟩ (hM l G) ⟨⟨⟨hR.1, hR.2.1, hR.2.2.1, hR.2.2.2, fun w hw => (List.mem_cons.mp hw).elim (fun z => by rw [z]; exact tg_all hT _ w3) (fun z => tg_all hT w z), List.mem_cons_self⟩, hT _ w3, hT _ w2, ⟨w4.1, w4.2.1⟩, fun sig z => ?_, va_Nw.use rfl K.2.2.1⟩, hT _ hs, trivial⟩
    ⟨fun a' U g mk q => ⟨q.1, q.2.1, q.2.2.blind g mk a'⟩, fun U hU hW => ⟨rfl, by rw [hU]; exact P, K.to S hU hW⟩⟩ rfl (by simpa using hn) L.1 (by simp) (cat_le h8) hd ⟨Nat.zero_le _, Nat.zero_le _⟩) C K S L h
  have w6 := w4.2.2
  rw [z] at w6
  exact (Option.some.inj w6).symm
/-- ends -/
theorem E_iret {x : Int32} (hd : decode cc pc = .ok (.ireturn, 1)) (hr : rt = some .int) (h : Q (some (.int x)) σ) : Ev cc nL rt own R pc ls [.int x] σ Q :=
  fun p l e s m a b me c G H lo rl C K P S L => W.iret (v := x) C.1 C.2.1 (C.2.2.1.trans hr) (fun t ht hW => ⟨⟨some (.int x), σ, rfl, h, by rw [ht]; exact P⟩, S.F ht⟩) S.2.2 hd C.2.2.2.2.2.2
theorem E_nret {x : Int32} {ty : FieldType} (hd : decode cc pc = .ok (.ireturn, 1)) (hr : rt = some ty) (hx : narrow ty (.int x) = .int x) (h : Q (some (.int x)) σ) : Ev cc nL rt own R pc ls [.int x] σ Q :=
  fun p l e s m a b me c G H lo rl C K P S L => W.zret (v := x) C.1 C.2.1 (C.2.2.1.trans hr) hx (fun t ht hW => ⟨⟨some (.int x), σ, rfl, h, by rw [ht]; exact P⟩, S.F ht⟩) S.2.2 hd C.2.2.2.2.2.2
theorem E_lret {x : Int64} (hd : decode cc pc = .ok (.lreturn, 1)) (hr : rt = some .long) (h : Q (some (.long x)) σ) : Ev cc nL rt own R pc ls [.long x] σ Q :=
  fun p l e s m a b me c G H lo rl C K P S L => W.lret (v := x) C.1 C.2.1 (C.2.2.1.trans hr) (fun t ht hW => ⟨⟨some (.long x), σ, rfl, h, by rw [ht]; exact P⟩, S.F ht⟩) S.2.2 hd C.2.2.2.2.2.2
theorem E_vret (hd : decode cc pc = .ok (.return_, 1)) (hr : rt = none) (h : Q none σ) : Ev cc nL rt own R pc ls [] σ Q :=
  fun p l e s m a b me c G H lo rl C K P S L => W.vret C.1 C.2.1 (C.2.2.1.trans hr) (fun t ht hW => ⟨⟨none, σ, rfl, h, by rw [ht]; exact P⟩, S.F ht⟩) S.2.2 hd C.2.2.2.2.2.2
theorem E_aret {x : Nat} {n : String} (hd : decode cc pc = .ok (.areturn, 1)) (hr : rt = some (.object n)) (h : Q (some (.ref x)) σ) : Ev cc nL rt own R pc ls [.ref x] σ Q :=
  fun p l e s m a b me c G H lo rl C K P S L => W.aret (v := cv G (.ref x)) C.1 C.2.1 (C.2.2.1.trans hr) (Or.inl ⟨n, rfl⟩) (by by_cases z : x = 999; exact Or.inl (if_pos z); exact Or.inr ⟨_, if_neg z⟩) (fun t ht hW => ⟨⟨some (.ref x), σ, rfl, h, by rw [ht]; exact P⟩, S.F ht⟩) S.2.2 hd C.2.2.2.2.2.2
end EH
/-- answers by their kinds -/
def qI (Q : Int32 → St → Prop) : Option Value → St → Prop := fun r σ => ∃ x, r = some (.int x) ∧ Q x σ
def qL (Q : Int64 → St → Prop) : Option Value → St → Prop := fun r σ => ∃ x, r = some (.long x) ∧ Q x σ
def qV (Q : St → Prop) : Option Value → St → Prop := fun r σ => r = none ∧ Q σ
def qR (Q : Nat → St → Prop) : Option Value → St → Prop := fun r σ => ∃ x, r = some (.ref x) ∧ Q x σ
end
section
/-! booleans, masks, names; what the tables say, word by word -/
def bI : Bool → Int32
  | true => 1
  | false => 0
def isB (x : Int32) : Prop := x = 0 ∨ x = 1
def nz (x : Int32) : Bool := decide (¬ x = 0)
theorem bI_or (b : Bool) : bI b = 0 ∨ bI b = 1 := by cases b <;> simp [bI]
theorem bI_nz {x : Int32} (h : isB x) : bI (nz x) = x := by rcases h with rfl | rfl <;> decide
theorem nar_b (b : Bool) : narrow .boolean (.int (bI b)) = .int (bI b) := by cases b <;> rfl
theorem nar_is {x : Int32} (h : isB x) : narrow .boolean (.int x) = .int x := by rcases h with rfl | rfl <;> rfl
def qB (Q : Bool → St → Prop) : Option Value → St → Prop := fun r σ => ∃ b, r = some (.int (bI b)) ∧ Q b σ
def qS (Q : Nat → St → Prop) : Option Value → St → Prop := fun r σ => ∃ i, i < stN ∧ r = some (.ref (300 + i)) ∧ Q i σ
theorem vp_c {i : Int32} {n : Nat} (h : decide (i < 0 ∨ n ≤ i.toNatClampNeg) = false) : vp_in i n := of_decide_eq_false h
theorem ne999 {k c : Nat} (h : kd k = c) (hc : c < 12) : k ≠ 999 := by have := kd_lt (k := k) (by omega); omega
def mask : List Bool → List Value → List Value
  | b :: bs, v :: vs => (if b then v else un) :: mask bs vs
  | _, _ => []
theorem mask_at : ∀ (bs : List Bool) (ls : List Value) (k : Nat) (v : Value), (mask bs ls)[k]? = some v → usd v = true → ls[k]? = some v := by
  intro bs
  induction bs with
  | nil => intro ls k v h; simp [mask] at h
  | cons b bs ih =>
    intro ls k v h hu
    cases ls with
    | nil => simp [mask] at h
    | cons w ls =>
      cases k with
      | zero =>
        simp only [mask, List.getElem?_cons_zero, Option.some.injEq] at h ⊢
        cases b with
        | true => exact h
        | false => rw [if_neg (by decide)] at h; rw [← h] at hu; cases hu
      | succ k =>
        simp only [mask, List.getElem?_cons_succ] at h ⊢
        exact ih ls k v h hu
section ES
variable {cc : ByteArray} {nL : Nat} {rt : Option FieldType} {own : String} {R : Room} {pc : Nat} {ls ls' st : List Value} {σ : St} {Q : Option Value → St → Prop}
theorem E_mask (bs : List Bool) (hm : mask bs ls = ls') (h : Ev cc nL rt own R pc ls' st σ Q) : Ev cc nL rt own R pc ls st σ Q :=
  fun p l e s m a b me c G H lo rl C K P S L => h p l e s m a b me c G H lo rl C K P S ⟨L.1, L.2.1, fun k v hk hu => L.2.2 k v (by subst hm; exact mask_at bs ls k v hk hu) hu⟩
theorem E_nm (h : ∀ s, s = σ → Ev cc nL rt own R pc ls st s Q) : Ev cc nL rt own R pc ls st σ Q := h σ rfl
theorem E_toB {x : Int32} (hb : isB x) (h : Ev cc nL rt own R pc ls (.int (bI (nz x)) :: st) σ Q) : Ev cc nL rt own R pc ls (.int x :: st) σ Q := by rw [bI_nz hb] at h; exact h
theorem E_ifz_eq {b : Bool} {off : Int} (tgt : Nat) (hd : decode cc pc = .ok (.ifCond .eq off, 3)) (ht : (pc : Int) + off = (tgt : Int)) (h1 : b = false → Ev cc nL rt own R tgt ls st σ Q) (h2 : b = true → Ev cc nL rt own R (pc + 3) ls st σ Q) : Ev cc nL rt own R pc ls (.int (bI b) :: st) σ Q :=
  E_if_eq tgt hd ht (fun z => h1 (by cases b; rfl; exact absurd z (by decide))) (fun z => h2 (by cases b; exact absurd rfl z; rfl))
theorem E_ifz_ne {b : Bool} {off : Int} (tgt : Nat) (hd : decode cc pc = .ok (.ifCond .ne off, 3)) (ht : (pc : Int) + off = (tgt : Int)) (h1 : b = true → Ev cc nL rt own R tgt ls st σ Q) (h2 : b = false → Ev cc nL rt own R (pc + 3) ls st σ Q) : Ev cc nL rt own R pc ls (.int (bI b) :: st) σ Q :=
  E_if_ne tgt hd ht (fun z => h1 (by cases b; exact absurd rfl z; rfl)) (fun z => h2 (by cases b; rfl; exact absurd z (by decide)))
end ES
theorem sh_at {k : Nat} {i : Int32} (h : kd k = 11) (hi : vp_in i 4) : kd (k + 2 + 2 * i.toNatClampNeg) = 2 := by
  have hk := kd_lt (k := k) (by omega)
  have hlt : i.toNatClampNeg < 4 := Nat.not_le.mp fun q => hi (Or.inr q)
  generalize i.toNatClampNeg = j at hlt
  have key : ∀ k, k < 65 → kd k = 11 → ∀ j, j < 4 → kd (k + 2 + 2 * j) = 2 := by decide +kernel
  exact key k hk h j hlt
theorem ar_0_1 {k : Nat} (h : kd k = 0) : kd (k + 1) = 8 ∧ ln (k + 1) = 28 := by
  have key : ∀ k, k < 65 → kd k = 0 → kd (k + 1) = 8 ∧ ln (k + 1) = 28 := by decide +kernel
  exact key k (kd_lt (by omega)) h
theorem ar_0_2 {k : Nat} (h : kd k = 0) : kd (k + 2) = 8 ∧ ln (k + 2) = 28 := by
  have key : ∀ k, k < 65 → kd k = 0 → kd (k + 2) = 8 ∧ ln (k + 2) = 28 := by decide +kernel
  exact key k (kd_lt (by omega)) h
theorem ar_0_3 {k : Nat} (h : kd k = 0) : kd (k + 3) = 8 ∧ ln (k + 3) = 28 := by
  have key : ∀ k, k < 65 → kd k = 0 → kd (k + 3) = 8 ∧ ln (k + 3) = 28 := by decide +kernel
  exact key k (kd_lt (by omega)) h
theorem ar_0_4 {k : Nat} (h : kd k = 0) : kd (k + 4) = 8 ∧ ln (k + 4) = 4 := by
  have key : ∀ k, k < 65 → kd k = 0 → kd (k + 4) = 8 ∧ ln (k + 4) = 4 := by decide +kernel
  exact key k (kd_lt (by omega)) h
theorem ar_0_5 {k : Nat} (h : kd k = 0) : kd (k + 5) = 8 ∧ ln (k + 5) = 4 := by
  have key : ∀ k, k < 65 → kd k = 0 → kd (k + 5) = 8 ∧ ln (k + 5) = 4 := by decide +kernel
  exact key k (kd_lt (by omega)) h
theorem ar_1_1 {k : Nat} (h : kd k = 1) : kd (k + 1) = 9 ∧ ln (k + 1) = 4096 := by
  have key : ∀ k, k < 65 → kd k = 1 → kd (k + 1) = 9 ∧ ln (k + 1) = 4096 := by decide +kernel
  exact key k (kd_lt (by omega)) h
theorem ar_1_2 {k : Nat} (h : kd k = 1) : kd (k + 2) = 8 ∧ ln (k + 2) = 29 := by
  have key : ∀ k, k < 65 → kd k = 1 → kd (k + 2) = 8 ∧ ln (k + 2) = 29 := by decide +kernel
  exact key k (kd_lt (by omega)) h
theorem ar_2_1 {k : Nat} (h : kd k = 2) : kd (k + 1) = 9 ∧ ln (k + 1) = 40 := by
  have key : ∀ k, k < 65 → kd k = 2 → kd (k + 1) = 9 ∧ ln (k + 1) = 40 := by decide +kernel
  exact key k (kd_lt (by omega)) h
theorem ar_3_1 {k : Nat} (h : kd k = 3) : kd (k + 1) = 8 ∧ ln (k + 1) = 32 := by
  have key : ∀ k, k < 65 → kd k = 3 → kd (k + 1) = 8 ∧ ln (k + 1) = 32 := by decide +kernel
  exact key k (kd_lt (by omega)) h
theorem ar_3_2 {k : Nat} (h : kd k = 3) : kd (k + 2) = 8 ∧ ln (k + 2) = 32 := by
  have key : ∀ k, k < 65 → kd k = 3 → kd (k + 2) = 8 ∧ ln (k + 2) = 32 := by decide +kernel
  exact key k (kd_lt (by omega)) h
theorem ar_3_3 {k : Nat} (h : kd k = 3) : kd (k + 3) = 8 ∧ ln (k + 3) = 32 := by
  have key : ∀ k, k < 65 → kd k = 3 → kd (k + 3) = 8 ∧ ln (k + 3) = 32 := by decide +kernel
  exact key k (kd_lt (by omega)) h
theorem ar_4_1 {k : Nat} (h : kd k = 4) : kd (k + 1) = 8 ∧ ln (k + 1) = 120 := by
  have key : ∀ k, k < 65 → kd k = 4 → kd (k + 1) = 8 ∧ ln (k + 1) = 120 := by decide +kernel
  exact key k (kd_lt (by omega)) h
theorem ar_5_1 {k : Nat} (h : kd k = 5) : kd (k + 1) = 4 ∧ ln (k + 1) = 0 := by
  have key : ∀ k, k < 65 → kd k = 5 → kd (k + 1) = 4 ∧ ln (k + 1) = 0 := by decide +kernel
  exact key k (kd_lt (by omega)) h
theorem ar_5_3 {k : Nat} (h : kd k = 5) : kd (k + 3) = 0 ∧ ln (k + 3) = 0 := by
  have key : ∀ k, k < 65 → kd k = 5 → kd (k + 3) = 0 ∧ ln (k + 3) = 0 := by decide +kernel
  exact key k (kd_lt (by omega)) h
theorem ar_5_9 {k : Nat} (h : kd k = 5) : kd (k + 9) = 3 ∧ ln (k + 9) = 0 := by
  have key : ∀ k, k < 65 → kd k = 5 → kd (k + 9) = 3 ∧ ln (k + 9) = 0 := by decide +kernel
  exact key k (kd_lt (by omega)) h
theorem ar_6_1 {k : Nat} (h : kd k = 6) : kd (k + 1) = 0 ∧ ln (k + 1) = 0 := by
  have key : ∀ k, k < 65 → kd k = 6 → kd (k + 1) = 0 ∧ ln (k + 1) = 0 := by decide +kernel
  exact key k (kd_lt (by omega)) h
theorem ar_6_7 {k : Nat} (h : kd k = 6) : kd (k + 7) = 0 ∧ ln (k + 7) = 0 := by
  have key : ∀ k, k < 65 → kd k = 6 → kd (k + 7) = 0 ∧ ln (k + 7) = 0 := by decide +kernel
  exact key k (kd_lt (by omega)) h
theorem ar_6_13 {k : Nat} (h : kd k = 6) : kd (k + 13) = 0 ∧ ln (k + 13) = 0 := by
  have key : ∀ k, k < 65 → kd k = 6 → kd (k + 13) = 0 ∧ ln (k + 13) = 0 := by decide +kernel
  exact key k (kd_lt (by omega)) h
theorem ar_6_19 {k : Nat} (h : kd k = 6) : kd (k + 19) = 3 ∧ ln (k + 19) = 0 := by
  have key : ∀ k, k < 65 → kd k = 6 → kd (k + 19) = 3 ∧ ln (k + 19) = 0 := by decide +kernel
  exact key k (kd_lt (by omega)) h
theorem ar_6_23 {k : Nat} (h : kd k = 6) : kd (k + 23) = 1 ∧ ln (k + 23) = 0 := by
  have key : ∀ k, k < 65 → kd k = 6 → kd (k + 23) = 1 ∧ ln (k + 23) = 0 := by decide +kernel
  exact key k (kd_lt (by omega)) h
theorem ar_6_26 {k : Nat} (h : kd k = 6) : kd (k + 26) = 5 ∧ ln (k + 26) = 0 := by
  have key : ∀ k, k < 65 → kd k = 6 → kd (k + 26) = 5 ∧ ln (k + 26) = 0 := by decide +kernel
  exact key k (kd_lt (by omega)) h
theorem ar_6_39 {k : Nat} (h : kd k = 6) : kd (k + 39) = 11 ∧ ln (k + 39) = 4 := by
  have key : ∀ k, k < 65 → kd k = 6 → kd (k + 39) = 11 ∧ ln (k + 39) = 4 := by decide +kernel
  exact key k (kd_lt (by omega)) h
theorem ar_6_40 {k : Nat} (h : kd k = 6) : kd (k + 40) = 8 ∧ ln (k + 40) = 7 := by
  have key : ∀ k, k < 65 → kd k = 6 → kd (k + 40) = 8 ∧ ln (k + 40) = 7 := by decide +kernel
  exact key k (kd_lt (by omega)) h
theorem ar_7_1 {k : Nat} (h : kd k = 7) : kd (k + 1) = 8 ∧ ln (k + 1) = 96 := by
  have key : ∀ k, k < 65 → kd k = 7 → kd (k + 1) = 8 ∧ ln (k + 1) = 96 := by decide +kernel
  exact key k (kd_lt (by omega)) h
theorem ar_7_2 {k : Nat} (h : kd k = 7) : kd (k + 2) = 8 ∧ ln (k + 2) = 7 := by
  have key : ∀ k, k < 65 → kd k = 7 → kd (k + 2) = 8 ∧ ln (k + 2) = 7 := by decide +kernel
  exact key k (kd_lt (by omega)) h
theorem ar_7_3 {k : Nat} (h : kd k = 7) : kd (k + 3) = 8 ∧ ln (k + 3) = 32 := by
  have key : ∀ k, k < 65 → kd k = 7 → kd (k + 3) = 8 ∧ ln (k + 3) = 32 := by decide +kernel
  exact key k (kd_lt (by omega)) h
theorem ar_7_4 {k : Nat} (h : kd k = 7) : kd (k + 4) = 8 ∧ ln (k + 4) = 32 := by
  have key : ∀ k, k < 65 → kd k = 7 → kd (k + 4) = 8 ∧ ln (k + 4) = 32 := by decide +kernel
  exact key k (kd_lt (by omega)) h
theorem ar_7_5 {k : Nat} (h : kd k = 7) : kd (k + 5) = 9 ∧ ln (k + 5) = 4096 := by
  have key : ∀ k, k < 65 → kd k = 7 → kd (k + 5) = 9 ∧ ln (k + 5) = 4096 := by decide +kernel
  exact key k (kd_lt (by omega)) h
theorem ar_7_6 {k : Nat} (h : kd k = 7) : kd (k + 6) = 8 ∧ ln (k + 6) = 4096 := by
  have key : ∀ k, k < 65 → kd k = 7 → kd (k + 6) = 8 ∧ ln (k + 6) = 4096 := by decide +kernel
  exact key k (kd_lt (by omega)) h
theorem ar_7_7 {k : Nat} (h : kd k = 7) : kd (k + 7) = 10 ∧ ln (k + 7) = 4096 := by
  have key : ∀ k, k < 65 → kd k = 7 → kd (k + 7) = 10 ∧ ln (k + 7) = 4096 := by decide +kernel
  exact key k (kd_lt (by omega)) h
theorem ar_7_8 {k : Nat} (h : kd k = 7) : kd (k + 8) = 8 ∧ ln (k + 8) = 4096 := by
  have key : ∀ k, k < 65 → kd k = 7 → kd (k + 8) = 8 ∧ ln (k + 8) = 4096 := by decide +kernel
  exact key k (kd_lt (by omega)) h
theorem ar_7_9 {k : Nat} (h : kd k = 7) : kd (k + 9) = 8 ∧ ln (k + 9) = 120 := by
  have key : ∀ k, k < 65 → kd k = 7 → kd (k + 9) = 8 ∧ ln (k + 9) = 120 := by decide +kernel
  exact key k (kd_lt (by omega)) h
theorem ar_7_10 {k : Nat} (h : kd k = 7) : kd (k + 10) = 8 ∧ ln (k + 10) = 4 := by
  have key : ∀ k, k < 65 → kd k = 7 → kd (k + 10) = 8 ∧ ln (k + 10) = 4 := by decide +kernel
  exact key k (kd_lt (by omega)) h
theorem ar_7_11 {k : Nat} (h : kd k = 7) : kd (k + 11) = 8 ∧ ln (k + 11) = 4 := by
  have key : ∀ k, k < 65 → kd k = 7 → kd (k + 11) = 8 ∧ ln (k + 11) = 4 := by decide +kernel
  exact key k (kd_lt (by omega)) h
theorem ar_7_12 {k : Nat} (h : kd k = 7) : kd (k + 12) = 9 ∧ ln (k + 12) = 160 := by
  have key : ∀ k, k < 65 → kd k = 7 → kd (k + 12) = 9 ∧ ln (k + 12) = 160 := by decide +kernel
  exact key k (kd_lt (by omega)) h
theorem ar_7_13 {k : Nat} (h : kd k = 7) : kd (k + 13) = 9 ∧ ln (k + 13) = 40 := by
  have key : ∀ k, k < 65 → kd k = 7 → kd (k + 13) = 9 ∧ ln (k + 13) = 40 := by decide +kernel
  exact key k (kd_lt (by omega)) h
theorem ar_7_14 {k : Nat} (h : kd k = 7) : kd (k + 14) = 8 ∧ ln (k + 14) = 96 := by
  have key : ∀ k, k < 65 → kd k = 7 → kd (k + 14) = 8 ∧ ln (k + 14) = 96 := by decide +kernel
  exact key k (kd_lt (by omega)) h
theorem ar_7_15 {k : Nat} (h : kd k = 7) : kd (k + 15) = 8 ∧ ln (k + 15) = 96 := by
  have key : ∀ k, k < 65 → kd k = 7 → kd (k + 15) = 8 ∧ ln (k + 15) = 96 := by decide +kernel
  exact key k (kd_lt (by omega)) h
end
section
theorem tw_0 : Cond.fieldLink RX0 9 "WallDown$House" "kinds" "[I" ∈ Tg := tg_tab (List.mem_of_getElem? (i := 30) (by decide +kernel)) (by decide +kernel)
theorem tw_1 : Cond.fieldLink RX0 15 "WallDown$House" "highs" "[I" ∈ Tg := tg_tab (List.mem_of_getElem? (i := 33) (by decide +kernel)) (by decide +kernel)
theorem tw_2 : Cond.fieldLink RX0 18 "WallDown$House" "prices" "[I" ∈ Tg := tg_tab (List.mem_of_getElem? (i := 35) (by decide +kernel)) (by decide +kernel)
theorem tw_3 : Cond.fieldLink RX0 21 "WallDown$House" "counts" "[I" ∈ Tg := tg_tab (List.mem_of_getElem? (i := 37) (by decide +kernel)) (by decide +kernel)
theorem tw_4 : Cond.fieldLink RX0 24 "WallDown$House" "wedges" "[I" ∈ Tg := tg_tab (List.mem_of_getElem? (i := 41) (by decide +kernel)) (by decide +kernel)
theorem tw_5 : Cond.fieldLink RX0 27 "WallDown$House" "beams" "I" ∈ Tg := tg_tab (List.mem_of_getElem? (i := 45) (by decide +kernel)) (by decide +kernel)
theorem tw_6 : Cond.fieldLink RX0 31 "WallDown$House" "slack" "I" ∈ Tg := tg_tab (List.mem_of_getElem? (i := 48) (by decide +kernel)) (by decide +kernel)
theorem tw_7 : Cond.fieldLink RX0 40 "WallDown$House" "night" "I" ∈ Tg := tg_tab (List.mem_of_getElem? (i := 52) (by decide +kernel)) (by decide +kernel)
theorem tw_8 : Cond.fieldLink RX0 43 "WallDown$House" "purse" "I" ∈ Tg := tg_tab (List.mem_of_getElem? (i := 54) (by decide +kernel)) (by decide +kernel)
theorem tw_9 : Cond.methodLink RX0 34 arraycopyName ∈ Tg := tg_tab (List.mem_of_getElem? (i := 290) (by decide +kernel)) (by decide +kernel)
theorem tw_10 : Cond.native arraycopyName ∈ Tg := tg_tab (List.mem_of_getElem? (i := 292) (by decide +kernel)) (by decide +kernel)
theorem tw_11 : Cond.static arraycopyName ∈ Tg := tg_tab (List.mem_of_getElem? (i := 291) (by decide +kernel)) (by decide +kernel)
theorem tw_12 : Cond.initialized RJ10 ∈ Tg := tg_tab (List.mem_of_getElem? (i := 10) (by decide +kernel)) (by decide +kernel)
theorem tw_13 : Cond.methodLink RX0 46 yX0_place ∈ Tg := tg_tab (List.mem_of_getElem? (i := 245) (by decide +kernel)) (by decide +kernel)
theorem tw_14 : Cond.initialized RX0 ∈ Tg := tg_tab (List.mem_of_getElem? (i := 2) (by decide +kernel)) (by decide +kernel)
theorem tw_15 : Cond.code yX0_place cX0_place 2 (some .int) ∈ Tg := tg_tab (List.mem_of_getElem? (i := 247) (by decide +kernel)) (by decide +kernel)
theorem tw_16 : Cond.static yX0_place ∈ Tg := tg_tab (List.mem_of_getElem? (i := 246) (by decide +kernel)) (by decide +kernel)
theorem tw_17 : Cond.constant RX0 50 (999999) ∈ Tg := tg_tab (List.mem_of_getElem? (i := 397) (by decide +kernel)) (by decide +kernel)
theorem tw_18 : Cond.methodLink RX0 54 Lib.Math.min.name ∈ Tg := tg_tab (List.mem_of_getElem? (i := 398) (by decide +kernel)) (by decide +kernel)
theorem tw_19 : Cond.static Lib.Math.min.name ∈ Tg := tg_tab (List.mem_of_getElem? (i := 399) (by decide +kernel)) (by decide +kernel)
theorem tw_20 : Cond.initialized RJ9 ∈ Tg := tg_tab (List.mem_of_getElem? (i := 9) (by decide +kernel)) (by decide +kernel)
theorem tw_21 : Cond.code Lib.Math.min.name Lib.Math.min.code 2 (some .int) ∈ Tg := tg_tab (List.mem_of_getElem? (i := 400) (by decide +kernel)) (by decide +kernel)
theorem tw_22 : Cond.methodLink RX0 51 yX0_coinOf ∈ Tg := tg_tab (List.mem_of_getElem? (i := 267) (by decide +kernel)) (by decide +kernel)
theorem tw_23 : Cond.code yX0_coinOf cX0_coinOf 4 (some .int) ∈ Tg := tg_tab (List.mem_of_getElem? (i := 270) (by decide +kernel)) (by decide +kernel)
theorem tw_24 : Cond.instanceMethod yX0_coinOf ∈ Tg := tg_tab (List.mem_of_getElem? (i := 268) (by decide +kernel)) (by decide +kernel)
theorem tw_25 : Cond.selects RX0 yX0_coinOf yX0_coinOf ∈ Tg := tg_tab (List.mem_of_getElem? (i := 269) (by decide +kernel)) (by decide +kernel)
theorem tw_26 : Cond.methodLink RX0 59 Lib.Math.max.name ∈ Tg := tg_tab (List.mem_of_getElem? (i := 260) (by decide +kernel)) (by decide +kernel)
theorem tw_27 : Cond.static Lib.Math.max.name ∈ Tg := tg_tab (List.mem_of_getElem? (i := 261) (by decide +kernel)) (by decide +kernel)
theorem tw_28 : Cond.code Lib.Math.max.name Lib.Math.max.code 2 (some .int) ∈ Tg := tg_tab (List.mem_of_getElem? (i := 262) (by decide +kernel)) (by decide +kernel)
theorem tw_29 : Cond.methodLink RX0 62 yX0_tallOf ∈ Tg := tg_tab (List.mem_of_getElem? (i := 256) (by decide +kernel)) (by decide +kernel)
theorem tw_30 : Cond.code yX0_tallOf cX0_tallOf 5 (some .int) ∈ Tg := tg_tab (List.mem_of_getElem? (i := 259) (by decide +kernel)) (by decide +kernel)
theorem tw_31 : Cond.instanceMethod yX0_tallOf ∈ Tg := tg_tab (List.mem_of_getElem? (i := 257) (by decide +kernel)) (by decide +kernel)
theorem tw_32 : Cond.selects RX0 yX0_tallOf yX0_tallOf ∈ Tg := tg_tab (List.mem_of_getElem? (i := 258) (by decide +kernel)) (by decide +kernel)
theorem tw_33 : Cond.methodLink RX0 65 yX0_topOf ∈ Tg := tg_tab (List.mem_of_getElem? (i := 360) (by decide +kernel)) (by decide +kernel)
theorem tw_34 : Cond.code yX0_topOf cX0_topOf 4 (some .int) ∈ Tg := tg_tab (List.mem_of_getElem? (i := 255) (by decide +kernel)) (by decide +kernel)
theorem tw_35 : Cond.instanceMethod yX0_topOf ∈ Tg := tg_tab (List.mem_of_getElem? (i := 253) (by decide +kernel)) (by decide +kernel)
theorem tw_36 : Cond.selects RX0 yX0_topOf yX0_topOf ∈ Tg := tg_tab (List.mem_of_getElem? (i := 254) (by decide +kernel)) (by decide +kernel)
theorem tw_37 : Cond.methodLink RX0 69 yX0_coinsOf ∈ Tg := tg_tab (List.mem_of_getElem? (i := 791) (by decide +kernel)) (by decide +kernel)
theorem tw_38 : Cond.code yX0_coinsOf cX0_coinsOf 4 (some .int) ∈ Tg := tg_tab (List.mem_of_getElem? (i := 266) (by decide +kernel)) (by decide +kernel)
theorem tw_39 : Cond.instanceMethod yX0_coinsOf ∈ Tg := tg_tab (List.mem_of_getElem? (i := 264) (by decide +kernel)) (by decide +kernel)
theorem tw_40 : Cond.selects RX0 yX0_coinsOf yX0_coinsOf ∈ Tg := tg_tab (List.mem_of_getElem? (i := 265) (by decide +kernel)) (by decide +kernel)
theorem tw_41 : Cond.methodLink RX0 81 yX3_unit ∈ Tg := tg_tab (List.mem_of_getElem? (i := 301) (by decide +kernel)) (by decide +kernel)
theorem tw_42 : Cond.initialized RX3 ∈ Tg := tg_tab (List.mem_of_getElem? (i := 3) (by decide +kernel)) (by decide +kernel)
theorem tw_43 : Cond.code yX3_unit cX3_unit 1 (some .int) ∈ Tg := tg_tab (List.mem_of_getElem? (i := 303) (by decide +kernel)) (by decide +kernel)
theorem tw_44 : Cond.static yX3_unit ∈ Tg := tg_tab (List.mem_of_getElem? (i := 302) (by decide +kernel)) (by decide +kernel)
theorem tw_45 : Cond.methodLink RX3 21 yX3_leftAt ∈ Tg := tg_tab (List.mem_of_getElem? (i := 311) (by decide +kernel)) (by decide +kernel)
theorem tw_46 : Cond.code yX3_leftAt cX3_leftAt 2 (some .int) ∈ Tg := tg_tab (List.mem_of_getElem? (i := 313) (by decide +kernel)) (by decide +kernel)
theorem tw_47 : Cond.static yX3_leftAt ∈ Tg := tg_tab (List.mem_of_getElem? (i := 312) (by decide +kernel)) (by decide +kernel)
theorem tw_48 : Cond.methodLink RX0 76 yX3_stonesAt ∈ Tg := tg_tab (List.mem_of_getElem? (i := 370) (by decide +kernel)) (by decide +kernel)
theorem tw_49 : Cond.code yX3_stonesAt cX3_stonesAt 1 (some .int) ∈ Tg := tg_tab (List.mem_of_getElem? (i := 372) (by decide +kernel)) (by decide +kernel)
theorem tw_50 : Cond.static yX3_stonesAt ∈ Tg := tg_tab (List.mem_of_getElem? (i := 371) (by decide +kernel)) (by decide +kernel)
theorem tw_51 : Cond.methodLink RX0 72 yX0_standNow ∈ Tg := tg_tab (List.mem_of_getElem? (i := 369) (by decide +kernel)) (by decide +kernel)
theorem tw_52 : Cond.code yX0_standNow cX0_standNow 3 (some .int) ∈ Tg := tg_tab (List.mem_of_getElem? (i := 300) (by decide +kernel)) (by decide +kernel)
theorem tw_53 : Cond.instanceMethod yX0_standNow ∈ Tg := tg_tab (List.mem_of_getElem? (i := 298) (by decide +kernel)) (by decide +kernel)
theorem tw_54 : Cond.selects RX0 yX0_standNow yX0_standNow ∈ Tg := tg_tab (List.mem_of_getElem? (i := 299) (by decide +kernel)) (by decide +kernel)
theorem tw_55 : Cond.methodLink RJ7 13 yJ7_rangeCheck_23922 ∈ Tg := tg_tab (List.mem_of_getElem? (i := 431) (by decide +kernel)) (by decide +kernel)
theorem tw_56 : Cond.initialized RJ7 ∈ Tg := tg_tab (List.mem_of_getElem? (i := 11) (by decide +kernel)) (by decide +kernel)
theorem tw_57 : Cond.code yJ7_rangeCheck_23922 cJ7_rangeCheck_23922 3 none ∈ Tg := tg_tab (List.mem_of_getElem? (i := 433) (by decide +kernel)) (by decide +kernel)
theorem tw_58 : Cond.static yJ7_rangeCheck_23922 ∈ Tg := tg_tab (List.mem_of_getElem? (i := 432) (by decide +kernel)) (by decide +kernel)
theorem tw_59 : Cond.fieldLink RX2 19 "WallDown$Sheet" "size" "I" ∈ Tg := tg_tab (List.mem_of_getElem? (i := 182) (by decide +kernel)) (by decide +kernel)
theorem tw_60 : Cond.fieldLink RX2 9 "WallDown$Sheet" "numbers" "[J" ∈ Tg := tg_tab (List.mem_of_getElem? (i := 178) (by decide +kernel)) (by decide +kernel)
theorem tw_61 : Cond.fieldLink RX3 18 "WallDown$Survey" "lowestKinds" "[I" ∈ Tg := tg_tab (List.mem_of_getElem? (i := 84) (by decide +kernel)) (by decide +kernel)
theorem tw_62 : Cond.fieldLink RX3 15 "WallDown$Survey" "coinsOut" "[I" ∈ Tg := tg_tab (List.mem_of_getElem? (i := 83) (by decide +kernel)) (by decide +kernel)
theorem tw_63 : Cond.fieldLink RX3 31 "WallDown$Survey" "now" "I" ∈ Tg := tg_tab (List.mem_of_getElem? (i := 86) (by decide +kernel)) (by decide +kernel)
theorem tw_64 : Cond.methodLink RX3 61 yX3_stonesAt ∈ Tg := tg_tab (List.mem_of_getElem? (i := 440) (by decide +kernel)) (by decide +kernel)
theorem tw_65 : Cond.fieldLink RX3 11 "WallDown$Survey" "tops" "[I" ∈ Tg := tg_tab (List.mem_of_getElem? (i := 82) (by decide +kernel)) (by decide +kernel)
theorem tw_66 : Cond.fieldLink RX3 38 "WallDown$Survey" "beams" "I" ∈ Tg := tg_tab (List.mem_of_getElem? (i := 89) (by decide +kernel)) (by decide +kernel)
theorem tw_67 : Cond.methodLink RX3 70 Lib.Math.max.name ∈ Tg := tg_tab (List.mem_of_getElem? (i := 381) (by decide +kernel)) (by decide +kernel)
theorem tw_68 : Cond.methodLink RX3 65 Lib.Math.abs.name ∈ Tg := tg_tab (List.mem_of_getElem? (i := 378) (by decide +kernel)) (by decide +kernel)
theorem tw_69 : Cond.static Lib.Math.abs.name ∈ Tg := tg_tab (List.mem_of_getElem? (i := 379) (by decide +kernel)) (by decide +kernel)
theorem tw_70 : Cond.code Lib.Math.abs.name Lib.Math.abs.code 1 (some .int) ∈ Tg := tg_tab (List.mem_of_getElem? (i := 380) (by decide +kernel)) (by decide +kernel)
theorem tw_71 : Cond.fieldLink RX1 11 "WallDown$Rows" "ways" "[J" ∈ Tg := tg_tab (List.mem_of_getElem? (i := 111) (by decide +kernel)) (by decide +kernel)
theorem tw_72 : Cond.fieldLink RX1 21 "WallDown$Survey" "now" "I" ∈ Tg := tg_tab (List.mem_of_getElem? (i := 85) (by decide +kernel)) (by decide +kernel)
theorem tw_73 : Cond.methodLink RX1 54 yX3_unit ∈ Tg := tg_tab (List.mem_of_getElem? (i := 449) (by decide +kernel)) (by decide +kernel)
theorem tw_74 : Cond.methodLink RX1 49 yX2_tells ∈ Tg := tg_tab (List.mem_of_getElem? (i := 445) (by decide +kernel)) (by decide +kernel)
theorem tw_75 : Cond.initialized RX2 ∈ Tg := tg_tab (List.mem_of_getElem? (i := 7) (by decide +kernel)) (by decide +kernel)
theorem tw_76 : Cond.code yX2_tells cX2_tells 3 (some .boolean) ∈ Tg := tg_tab (List.mem_of_getElem? (i := 448) (by decide +kernel)) (by decide +kernel)
theorem tw_77 : Cond.instanceMethod yX2_tells ∈ Tg := tg_tab (List.mem_of_getElem? (i := 446) (by decide +kernel)) (by decide +kernel)
theorem tw_78 : Cond.selects RX2 yX2_tells yX2_tells ∈ Tg := tg_tab (List.mem_of_getElem? (i := 447) (by decide +kernel)) (by decide +kernel)
theorem tw_79 : Cond.methodLink RX1 45 yX3_nextCoin ∈ Tg := tg_tab (List.mem_of_getElem? (i := 441) (by decide +kernel)) (by decide +kernel)
theorem tw_80 : Cond.code yX3_nextCoin cX3_nextCoin 4 (some .int) ∈ Tg := tg_tab (List.mem_of_getElem? (i := 444) (by decide +kernel)) (by decide +kernel)
theorem tw_81 : Cond.instanceMethod yX3_nextCoin ∈ Tg := tg_tab (List.mem_of_getElem? (i := 442) (by decide +kernel)) (by decide +kernel)
theorem tw_82 : Cond.selects RX3 yX3_nextCoin yX3_nextCoin ∈ Tg := tg_tab (List.mem_of_getElem? (i := 443) (by decide +kernel)) (by decide +kernel)
theorem tw_83 : Cond.methodLink RX1 42 yX3_pulledAt ∈ Tg := tg_tab (List.mem_of_getElem? (i := 436) (by decide +kernel)) (by decide +kernel)
theorem tw_84 : Cond.code yX3_pulledAt cX3_pulledAt 2 (some .int) ∈ Tg := tg_tab (List.mem_of_getElem? (i := 439) (by decide +kernel)) (by decide +kernel)
theorem tw_85 : Cond.instanceMethod yX3_pulledAt ∈ Tg := tg_tab (List.mem_of_getElem? (i := 437) (by decide +kernel)) (by decide +kernel)
theorem tw_86 : Cond.selects RX3 yX3_pulledAt yX3_pulledAt ∈ Tg := tg_tab (List.mem_of_getElem? (i := 438) (by decide +kernel)) (by decide +kernel)
theorem tw_87 : Cond.methodLink RX1 38 yX3_lowestMayGo ∈ Tg := tg_tab (List.mem_of_getElem? (i := 435) (by decide +kernel)) (by decide +kernel)
theorem tw_88 : Cond.code yX3_lowestMayGo cX3_lowestMayGo 5 (some .boolean) ∈ Tg := tg_tab (List.mem_of_getElem? (i := 310) (by decide +kernel)) (by decide +kernel)
theorem tw_89 : Cond.instanceMethod yX3_lowestMayGo ∈ Tg := tg_tab (List.mem_of_getElem? (i := 308) (by decide +kernel)) (by decide +kernel)
theorem tw_90 : Cond.selects RX3 yX3_lowestMayGo yX3_lowestMayGo ∈ Tg := tg_tab (List.mem_of_getElem? (i := 309) (by decide +kernel)) (by decide +kernel)
theorem tw_91 : Cond.fieldLink RX1 35 "WallDown$Survey" "slack" "I" ∈ Tg := tg_tab (List.mem_of_getElem? (i := 90) (by decide +kernel)) (by decide +kernel)
theorem tw_92 : Cond.methodLink RX1 31 yX3_unlikeAt ∈ Tg := tg_tab (List.mem_of_getElem? (i := 434) (by decide +kernel)) (by decide +kernel)
theorem tw_93 : Cond.code yX3_unlikeAt cX3_unlikeAt 6 (some .int) ∈ Tg := tg_tab (List.mem_of_getElem? (i := 377) (by decide +kernel)) (by decide +kernel)
theorem tw_94 : Cond.instanceMethod yX3_unlikeAt ∈ Tg := tg_tab (List.mem_of_getElem? (i := 375) (by decide +kernel)) (by decide +kernel)
theorem tw_95 : Cond.selects RX3 yX3_unlikeAt yX3_unlikeAt ∈ Tg := tg_tab (List.mem_of_getElem? (i := 376) (by decide +kernel)) (by decide +kernel)
theorem tw_96 : Cond.methodLink RX1 25 yJ7_fill_bad5a ∈ Tg := tg_tab (List.mem_of_getElem? (i := 428) (by decide +kernel)) (by decide +kernel)
theorem tw_97 : Cond.code yJ7_fill_bad5a cJ7_fill_bad5a 6 none ∈ Tg := tg_tab (List.mem_of_getElem? (i := 430) (by decide +kernel)) (by decide +kernel)
theorem tw_98 : Cond.static yJ7_fill_bad5a ∈ Tg := tg_tab (List.mem_of_getElem? (i := 429) (by decide +kernel)) (by decide +kernel)
theorem tw_99 : Cond.fieldLink RX3 42 "WallDown$Survey" "slack" "I" ∈ Tg := tg_tab (List.mem_of_getElem? (i := 91) (by decide +kernel)) (by decide +kernel)
theorem tw_100 : Cond.methodLink RX3 80 yX3_unlikeAt ∈ Tg := tg_tab (List.mem_of_getElem? (i := 392) (by decide +kernel)) (by decide +kernel)
theorem tw_101 : Cond.methodLink RX3 77 yX3_unit ∈ Tg := tg_tab (List.mem_of_getElem? (i := 391) (by decide +kernel)) (by decide +kernel)
theorem tw_102 : Cond.methodLink RX3 73 yX3_lowestMayGo ∈ Tg := tg_tab (List.mem_of_getElem? (i := 390) (by decide +kernel)) (by decide +kernel)
theorem tw_103 : Cond.methodLink RX1 64 yX3_canPullAt ∈ Tg := tg_tab (List.mem_of_getElem? (i := 480) (by decide +kernel)) (by decide +kernel)
theorem tw_104 : Cond.code yX3_canPullAt cX3_canPullAt 3 (some .boolean) ∈ Tg := tg_tab (List.mem_of_getElem? (i := 389) (by decide +kernel)) (by decide +kernel)
theorem tw_105 : Cond.instanceMethod yX3_canPullAt ∈ Tg := tg_tab (List.mem_of_getElem? (i := 387) (by decide +kernel)) (by decide +kernel)
theorem tw_106 : Cond.selects RX3 yX3_canPullAt yX3_canPullAt ∈ Tg := tg_tab (List.mem_of_getElem? (i := 388) (by decide +kernel)) (by decide +kernel)
theorem tw_107 : Cond.methodLink RX1 60 yX1_leadFrom ∈ Tg := tg_tab (List.mem_of_getElem? (i := 476) (by decide +kernel)) (by decide +kernel)
theorem tw_108 : Cond.initialized RX1 ∈ Tg := tg_tab (List.mem_of_getElem? (i := 4) (by decide +kernel)) (by decide +kernel)
theorem tw_109 : Cond.code yX1_leadFrom cX1_leadFrom 4 (some .int) ∈ Tg := tg_tab (List.mem_of_getElem? (i := 479) (by decide +kernel)) (by decide +kernel)
theorem tw_110 : Cond.instanceMethod yX1_leadFrom ∈ Tg := tg_tab (List.mem_of_getElem? (i := 477) (by decide +kernel)) (by decide +kernel)
theorem tw_111 : Cond.selects RX1 yX1_leadFrom yX1_leadFrom ∈ Tg := tg_tab (List.mem_of_getElem? (i := 478) (by decide +kernel)) (by decide +kernel)
theorem tw_112 : Cond.methodLink RX1 57 yX3_isPartOf ∈ Tg := tg_tab (List.mem_of_getElem? (i := 475) (by decide +kernel)) (by decide +kernel)
theorem tw_113 : Cond.code yX3_isPartOf cX3_isPartOf 3 (some .boolean) ∈ Tg := tg_tab (List.mem_of_getElem? (i := 415) (by decide +kernel)) (by decide +kernel)
theorem tw_114 : Cond.static yX3_isPartOf ∈ Tg := tg_tab (List.mem_of_getElem? (i := 414) (by decide +kernel)) (by decide +kernel)
theorem tw_115 : Cond.methodLink RX1 67 yX3_stonesAt ∈ Tg := tg_tab (List.mem_of_getElem? (i := 462) (by decide +kernel)) (by decide +kernel)
theorem tw_116 : Cond.methodLink RX1 73 Lib.Math.min.name ∈ Tg := tg_tab (List.mem_of_getElem? (i := 537) (by decide +kernel)) (by decide +kernel)
theorem tw_117 : Cond.methodLink RX1 70 yX3_leftAt ∈ Tg := tg_tab (List.mem_of_getElem? (i := 536) (by decide +kernel)) (by decide +kernel)
theorem tw_118 : Cond.fieldLink RX1 17 "WallDown$Rows" "best" "[I" ∈ Tg := tg_tab (List.mem_of_getElem? (i := 113) (by decide +kernel)) (by decide +kernel)
theorem tw_119 : Cond.methodLink RX1 81 yX3_coinAt ∈ Tg := tg_tab (List.mem_of_getElem? (i := 515) (by decide +kernel)) (by decide +kernel)
theorem tw_120 : Cond.code yX3_coinAt cX3_coinAt 4 (some .int) ∈ Tg := tg_tab (List.mem_of_getElem? (i := 518) (by decide +kernel)) (by decide +kernel)
theorem tw_121 : Cond.instanceMethod yX3_coinAt ∈ Tg := tg_tab (List.mem_of_getElem? (i := 516) (by decide +kernel)) (by decide +kernel)
theorem tw_122 : Cond.selects RX3 yX3_coinAt yX3_coinAt ∈ Tg := tg_tab (List.mem_of_getElem? (i := 517) (by decide +kernel)) (by decide +kernel)
theorem tw_123 : Cond.methodLink RX1 78 yJ7_fill_53178 ∈ Tg := tg_tab (List.mem_of_getElem? (i := 512) (by decide +kernel)) (by decide +kernel)
theorem tw_124 : Cond.code yJ7_fill_53178 cJ7_fill_53178 4 none ∈ Tg := tg_tab (List.mem_of_getElem? (i := 514) (by decide +kernel)) (by decide +kernel)
theorem tw_125 : Cond.static yJ7_fill_53178 ∈ Tg := tg_tab (List.mem_of_getElem? (i := 513) (by decide +kernel)) (by decide +kernel)
theorem tw_126 : Cond.fieldLink RX2 15 "WallDown$Sheet" "bits" "I" ∈ Tg := tg_tab (List.mem_of_getElem? (i := 180) (by decide +kernel)) (by decide +kernel)
theorem tw_127 : Cond.methodLink RX2 22 yJ7_fill_d0a16 ∈ Tg := tg_tab (List.mem_of_getElem? (i := 728) (by decide +kernel)) (by decide +kernel)
theorem tw_128 : Cond.code yJ7_fill_d0a16 cJ7_fill_d0a16 5 none ∈ Tg := tg_tab (List.mem_of_getElem? (i := 730) (by decide +kernel)) (by decide +kernel)
theorem tw_129 : Cond.static yJ7_fill_d0a16 ∈ Tg := tg_tab (List.mem_of_getElem? (i := 729) (by decide +kernel)) (by decide +kernel)
theorem tw_130 : Cond.fieldLink RX3 35 "WallDown$House" "beams" "I" ∈ Tg := tg_tab (List.mem_of_getElem? (i := 46) (by decide +kernel)) (by decide +kernel)
theorem tw_131 : Cond.fieldLink RX3 39 "WallDown$House" "slack" "I" ∈ Tg := tg_tab (List.mem_of_getElem? (i := 49) (by decide +kernel)) (by decide +kernel)
theorem tw_132 : Cond.fieldLink RX3 43 "WallDown$House" "counts" "[I" ∈ Tg := tg_tab (List.mem_of_getElem? (i := 40) (by decide +kernel)) (by decide +kernel)
theorem tw_133 : Cond.fieldLink RX3 46 "WallDown$House" "wedges" "[I" ∈ Tg := tg_tab (List.mem_of_getElem? (i := 43) (by decide +kernel)) (by decide +kernel)
theorem tw_134 : Cond.fieldLink RX3 52 "WallDown$House" "kinds" "[I" ∈ Tg := tg_tab (List.mem_of_getElem? (i := 32) (by decide +kernel)) (by decide +kernel)
theorem tw_135 : Cond.methodLink RX3 55 yX0_place ∈ Tg := tg_tab (List.mem_of_getElem? (i := 305) (by decide +kernel)) (by decide +kernel)
theorem tw_136 : Cond.methodLink RX3 49 yX0_tallOf ∈ Tg := tg_tab (List.mem_of_getElem? (i := 304) (by decide +kernel)) (by decide +kernel)
theorem tw_137 : Cond.methodLink RX3 58 yX0_coinOf ∈ Tg := tg_tab (List.mem_of_getElem? (i := 306) (by decide +kernel)) (by decide +kernel)
theorem tw_138 : Cond.methodLink RX3 25 yX0_standNow ∈ Tg := tg_tab (List.mem_of_getElem? (i := 297) (by decide +kernel)) (by decide +kernel)
theorem tw_139 : Cond.fieldLink RX4 9 "WallDown$Tape" "bytes" "[I" ∈ Tg := tg_tab (List.mem_of_getElem? (i := 132) (by decide +kernel)) (by decide +kernel)
theorem tw_140 : Cond.fieldLink RX4 15 "WallDown$Tape" "length" "I" ∈ Tg := tg_tab (List.mem_of_getElem? (i := 133) (by decide +kernel)) (by decide +kernel)
theorem tw_141 : Cond.initialized RX6 ∈ Tg := tg_tab (List.mem_of_getElem? (i := 1) (by decide +kernel)) (by decide +kernel)
theorem tw_142 : Cond.code yX6_isWithin cX6_isWithin 3 (some .boolean) ∈ Tg := tg_tab (List.mem_of_getElem? (i := 228) (by decide +kernel)) (by decide +kernel)
theorem tw_143 : Cond.static yX6_isWithin ∈ Tg := tg_tab (List.mem_of_getElem? (i := 227) (by decide +kernel)) (by decide +kernel)
theorem tw_144 : Cond.fieldLink RX4 44 "WallDown$Tape" "number" "I" ∈ Tg := tg_tab (List.mem_of_getElem? (i := 140) (by decide +kernel)) (by decide +kernel)
theorem tw_145 : Cond.fieldLink RX4 19 "WallDown$Tape" "end" "I" ∈ Tg := tg_tab (List.mem_of_getElem? (i := 141) (by decide +kernel)) (by decide +kernel)
theorem tw_146 : Cond.methodLink RX4 47 Lib.Math.min.name ∈ Tg := tg_tab (List.mem_of_getElem? (i := 608) (by decide +kernel)) (by decide +kernel)
theorem tw_147 : Cond.methodLink RX4 38 yX4_isDigit ∈ Tg := tg_tab (List.mem_of_getElem? (i := 600) (by decide +kernel)) (by decide +kernel)
theorem tw_148 : Cond.initialized RX4 ∈ Tg := tg_tab (List.mem_of_getElem? (i := 6) (by decide +kernel)) (by decide +kernel)
theorem tw_149 : Cond.code yX4_isDigit cX4_isDigit 2 (some .boolean) ∈ Tg := tg_tab (List.mem_of_getElem? (i := 603) (by decide +kernel)) (by decide +kernel)
theorem tw_150 : Cond.instanceMethod yX4_isDigit ∈ Tg := tg_tab (List.mem_of_getElem? (i := 602) (by decide +kernel)) (by decide +kernel)
theorem tw_151 : Cond.selects RX4 yX4_isDigit yX4_isDigit ∈ Tg := tg_in (List.mem_of_getElem? (i := 10) (by decide +kernel)) (by decide +kernel)
theorem tw_152 : Cond.methodLink RX4 31 yX4_isLetter ∈ Tg := tg_tab (List.mem_of_getElem? (i := 591) (by decide +kernel)) (by decide +kernel)
theorem tw_153 : Cond.code yX4_isLetter cX4_isLetter 2 (some .boolean) ∈ Tg := tg_tab (List.mem_of_getElem? (i := 594) (by decide +kernel)) (by decide +kernel)
theorem tw_154 : Cond.instanceMethod yX4_isLetter ∈ Tg := tg_tab (List.mem_of_getElem? (i := 593) (by decide +kernel)) (by decide +kernel)
theorem tw_155 : Cond.selects RX4 yX4_isLetter yX4_isLetter ∈ Tg := tg_in (List.mem_of_getElem? (i := 8) (by decide +kernel)) (by decide +kernel)
theorem tw_156 : Cond.fieldLink RX4 25 "WallDown$Tape" "start" "I" ∈ Tg := tg_tab (List.mem_of_getElem? (i := 138) (by decide +kernel)) (by decide +kernel)
theorem tw_157 : Cond.fieldLink RX4 28 "WallDown$Tape" "token" "I" ∈ Tg := tg_tab (List.mem_of_getElem? (i := 136) (by decide +kernel)) (by decide +kernel)
theorem tw_158 : Cond.methodLink RX4 41 yX4_skipDigits ∈ Tg := tg_tab (List.mem_of_getElem? (i := 604) (by decide +kernel)) (by decide +kernel)
theorem tw_159 : Cond.code yX4_skipDigits cX4_skipDigits 1 none ∈ Tg := tg_tab (List.mem_of_getElem? (i := 607) (by decide +kernel)) (by decide +kernel)
theorem tw_160 : Cond.instanceMethod yX4_skipDigits ∈ Tg := tg_tab (List.mem_of_getElem? (i := 606) (by decide +kernel)) (by decide +kernel)
theorem tw_161 : Cond.selects RX4 yX4_skipDigits yX4_skipDigits ∈ Tg := tg_in (List.mem_of_getElem? (i := 11) (by decide +kernel)) (by decide +kernel)
theorem tw_162 : Cond.methodLink RX4 35 yX4_skipLetters ∈ Tg := tg_tab (List.mem_of_getElem? (i := 596) (by decide +kernel)) (by decide +kernel)
theorem tw_163 : Cond.code yX4_skipLetters cX4_skipLetters 1 none ∈ Tg := tg_tab (List.mem_of_getElem? (i := 599) (by decide +kernel)) (by decide +kernel)
theorem tw_164 : Cond.instanceMethod yX4_skipLetters ∈ Tg := tg_tab (List.mem_of_getElem? (i := 598) (by decide +kernel)) (by decide +kernel)
theorem tw_165 : Cond.selects RX4 yX4_skipLetters yX4_skipLetters ∈ Tg := tg_in (List.mem_of_getElem? (i := 9) (by decide +kernel)) (by decide +kernel)
theorem tw_166 : Cond.methodLink RX4 22 yX4_step ∈ Tg := tg_tab (List.mem_of_getElem? (i := 587) (by decide +kernel)) (by decide +kernel)
theorem tw_167 : Cond.code yX4_step cX4_step 1 none ∈ Tg := tg_tab (List.mem_of_getElem? (i := 590) (by decide +kernel)) (by decide +kernel)
theorem tw_168 : Cond.instanceMethod yX4_step ∈ Tg := tg_tab (List.mem_of_getElem? (i := 588) (by decide +kernel)) (by decide +kernel)
theorem tw_169 : Cond.selects RX4 yX4_step yX4_step ∈ Tg := tg_tab (List.mem_of_getElem? (i := 589) (by decide +kernel)) (by decide +kernel)
theorem tw_170 : Cond.fieldLink RJ0 38 "java/lang/String" "COMPACT_STRINGS" "Z" ∈ Tg := tg_tab (List.mem_of_getElem? (i := 634) (by decide +kernel)) (by decide +kernel)
theorem tw_171 : Cond.fieldLink RJ0 15 "java/lang/String" "coder" "B" ∈ Tg := tg_tab (List.mem_of_getElem? (i := 1290) (by decide +kernel)) (by decide +kernel)
theorem tw_172 : Cond.fieldLink RJ0 9 "java/lang/String" "value" "[B" ∈ Tg := tg_tab (List.mem_of_getElem? (i := 1289) (by decide +kernel)) (by decide +kernel)
theorem tw_173 : Cond.methodLink RJ0 495 yJ1_charAt_3b067 ∈ Tg := tg_tab (List.mem_of_getElem? (i := 644) (by decide +kernel)) (by decide +kernel)
theorem tw_174 : Cond.initialized RJ1 ∈ Tg := tg_tab (List.mem_of_getElem? (i := 13) (by decide +kernel)) (by decide +kernel)
theorem tw_175 : Cond.code yJ1_charAt_3b067 cJ1_charAt_3b067 2 (some .char) ∈ Tg := tg_tab (List.mem_of_getElem? (i := 646) (by decide +kernel)) (by decide +kernel)
theorem tw_176 : Cond.static yJ1_charAt_3b067 ∈ Tg := tg_tab (List.mem_of_getElem? (i := 645) (by decide +kernel)) (by decide +kernel)
theorem tw_177 : Cond.methodLink RJ0 492 yJ0_isLatin1_aae02 ∈ Tg := tg_tab (List.mem_of_getElem? (i := 640) (by decide +kernel)) (by decide +kernel)
theorem tw_178 : Cond.initialized RJ0 ∈ Tg := tg_tab (List.mem_of_getElem? (i := 12) (by decide +kernel)) (by decide +kernel)
theorem tw_179 : Cond.code yJ0_isLatin1_aae02 cJ0_isLatin1_aae02 1 (some .boolean) ∈ Tg := tg_tab (List.mem_of_getElem? (i := 643) (by decide +kernel)) (by decide +kernel)
theorem tw_180 : Cond.instanceMethod yJ0_isLatin1_aae02 ∈ Tg := tg_tab (List.mem_of_getElem? (i := 641) (by decide +kernel)) (by decide +kernel)
theorem tw_181 : Cond.selects RJ0 yJ0_isLatin1_aae02 yJ0_isLatin1_aae02 ∈ Tg := tg_tab (List.mem_of_getElem? (i := 642) (by decide +kernel)) (by decide +kernel)
theorem tw_182 : Cond.methodLink RJ0 335 yJ0_coder_7d493 ∈ Tg := tg_tab (List.mem_of_getElem? (i := 630) (by decide +kernel)) (by decide +kernel)
theorem tw_183 : Cond.code yJ0_coder_7d493 cJ0_coder_7d493 1 (some .byte) ∈ Tg := tg_tab (List.mem_of_getElem? (i := 633) (by decide +kernel)) (by decide +kernel)
theorem tw_184 : Cond.instanceMethod yJ0_coder_7d493 ∈ Tg := tg_tab (List.mem_of_getElem? (i := 631) (by decide +kernel)) (by decide +kernel)
theorem tw_185 : Cond.selects RJ0 yJ0_coder_7d493 yJ0_coder_7d493 ∈ Tg := tg_tab (List.mem_of_getElem? (i := 632) (by decide +kernel)) (by decide +kernel)
theorem tw_186 : Cond.methodLink RX4 62 yJ0_charAt_5068e ∈ Tg := tg_tab (List.mem_of_getElem? (i := 636) (by decide +kernel)) (by decide +kernel)
theorem tw_187 : Cond.code yJ0_charAt_5068e cJ0_charAt_5068e 2 (some .char) ∈ Tg := tg_tab (List.mem_of_getElem? (i := 639) (by decide +kernel)) (by decide +kernel)
theorem tw_188 : Cond.instanceMethod yJ0_charAt_5068e ∈ Tg := tg_tab (List.mem_of_getElem? (i := 637) (by decide +kernel)) (by decide +kernel)
theorem tw_189 : Cond.selects RJ0 yJ0_charAt_5068e yJ0_charAt_5068e ∈ Tg := tg_tab (List.mem_of_getElem? (i := 638) (by decide +kernel)) (by decide +kernel)
theorem tw_190 : Cond.methodLink RX4 57 yJ0_length_8abf5 ∈ Tg := tg_tab (List.mem_of_getElem? (i := 626) (by decide +kernel)) (by decide +kernel)
theorem tw_191 : Cond.code yJ0_length_8abf5 cJ0_length_8abf5 1 (some .int) ∈ Tg := tg_tab (List.mem_of_getElem? (i := 629) (by decide +kernel)) (by decide +kernel)
theorem tw_192 : Cond.instanceMethod yJ0_length_8abf5 ∈ Tg := tg_tab (List.mem_of_getElem? (i := 627) (by decide +kernel)) (by decide +kernel)
theorem tw_193 : Cond.selects RJ0 yJ0_length_8abf5 yJ0_length_8abf5 ∈ Tg := tg_tab (List.mem_of_getElem? (i := 628) (by decide +kernel)) (by decide +kernel)
theorem tw_194 : Cond.fieldLink RX5 12 "WallDown$Teller" "tape" "LWallDown$Tape;" ∈ Tg := tg_tab (List.mem_of_getElem? (i := 159) (by decide +kernel)) (by decide +kernel)
theorem tw_195 : Cond.fieldLink RX5 105 "WallDown$Tape" "number" "I" ∈ Tg := tg_tab (List.mem_of_getElem? (i := 139) (by decide +kernel)) (by decide +kernel)
theorem tw_196 : Cond.fieldLink RX5 21 "WallDown$Teller" "site" "LWallDown$House;" ∈ Tg := tg_tab (List.mem_of_getElem? (i := 161) (by decide +kernel)) (by decide +kernel)
theorem tw_197 : Cond.methodLink RX5 47 yX4_step ∈ Tg := tg_tab (List.mem_of_getElem? (i := 674) (by decide +kernel)) (by decide +kernel)
theorem tw_198 : Cond.methodLink RX5 120 yX0_layBeam ∈ Tg := tg_tab (List.mem_of_getElem? (i := 693) (by decide +kernel)) (by decide +kernel)
theorem tw_199 : Cond.code yX0_layBeam cX0_layBeam 4 none ∈ Tg := tg_tab (List.mem_of_getElem? (i := 350) (by decide +kernel)) (by decide +kernel)
theorem tw_200 : Cond.instanceMethod yX0_layBeam ∈ Tg := tg_tab (List.mem_of_getElem? (i := 348) (by decide +kernel)) (by decide +kernel)
theorem tw_201 : Cond.selects RX0 yX0_layBeam yX0_layBeam ∈ Tg := tg_tab (List.mem_of_getElem? (i := 349) (by decide +kernel)) (by decide +kernel)
theorem tw_202 : Cond.methodLink RX5 57 yX4_isWord ∈ Tg := tg_tab (List.mem_of_getElem? (i := 622) (by decide +kernel)) (by decide +kernel)
theorem tw_203 : Cond.code yX4_isWord cX4_isWord 3 (some .boolean) ∈ Tg := tg_tab (List.mem_of_getElem? (i := 625) (by decide +kernel)) (by decide +kernel)
theorem tw_204 : Cond.instanceMethod yX4_isWord ∈ Tg := tg_tab (List.mem_of_getElem? (i := 623) (by decide +kernel)) (by decide +kernel)
theorem tw_205 : Cond.selects RX4 yX4_isWord yX4_isWord ∈ Tg := tg_tab (List.mem_of_getElem? (i := 624) (by decide +kernel)) (by decide +kernel)
theorem tw_206 : Cond.methodLink RX5 97 yX4_isNumber ∈ Tg := tg_tab (List.mem_of_getElem? (i := 679) (by decide +kernel)) (by decide +kernel)
theorem tw_207 : Cond.code yX4_isNumber cX4_isNumber 3 (some .boolean) ∈ Tg := tg_tab (List.mem_of_getElem? (i := 682) (by decide +kernel)) (by decide +kernel)
theorem tw_208 : Cond.instanceMethod yX4_isNumber ∈ Tg := tg_tab (List.mem_of_getElem? (i := 680) (by decide +kernel)) (by decide +kernel)
theorem tw_209 : Cond.selects RX4 yX4_isNumber yX4_isNumber ∈ Tg := tg_tab (List.mem_of_getElem? (i := 681) (by decide +kernel)) (by decide +kernel)
theorem tw_210 : Cond.fieldLink RX5 43 "WallDown$Tape" "token" "I" ∈ Tg := tg_tab (List.mem_of_getElem? (i := 135) (by decide +kernel)) (by decide +kernel)
theorem tw_211 : Cond.fieldLink RX5 28 "WallDown$Teller" "survey" "LWallDown$Survey;" ∈ Tg := tg_tab (List.mem_of_getElem? (i := 163) (by decide +kernel)) (by decide +kernel)
theorem tw_212 : Cond.fieldLink RX5 132 "WallDown$Survey" "now" "I" ∈ Tg := tg_tab (List.mem_of_getElem? (i := 87) (by decide +kernel)) (by decide +kernel)
theorem tw_213 : Cond.methodLink RX5 138 yX0_takeLowest ∈ Tg := tg_tab (List.mem_of_getElem? (i := 711) (by decide +kernel)) (by decide +kernel)
theorem tw_214 : Cond.code yX0_takeLowest cX0_takeLowest 3 none ∈ Tg := tg_tab (List.mem_of_getElem? (i := 396) (by decide +kernel)) (by decide +kernel)
theorem tw_215 : Cond.instanceMethod yX0_takeLowest ∈ Tg := tg_tab (List.mem_of_getElem? (i := 394) (by decide +kernel)) (by decide +kernel)
theorem tw_216 : Cond.selects RX0 yX0_takeLowest yX0_takeLowest ∈ Tg := tg_tab (List.mem_of_getElem? (i := 395) (by decide +kernel)) (by decide +kernel)
theorem tw_217 : Cond.methodLink RX5 135 yX3_canPullAt ∈ Tg := tg_tab (List.mem_of_getElem? (i := 710) (by decide +kernel)) (by decide +kernel)
theorem tw_218 : Cond.methodLink RX5 129 yX3_measure ∈ Tg := tg_tab (List.mem_of_getElem? (i := 709) (by decide +kernel)) (by decide +kernel)
theorem tw_219 : Cond.code yX3_measure cX3_measure 6 none ∈ Tg := tg_tab (List.mem_of_getElem? (i := 296) (by decide +kernel)) (by decide +kernel)
theorem tw_220 : Cond.instanceMethod yX3_measure ∈ Tg := tg_tab (List.mem_of_getElem? (i := 294) (by decide +kernel)) (by decide +kernel)
theorem tw_221 : Cond.selects RX3 yX3_measure yX3_measure ∈ Tg := tg_tab (List.mem_of_getElem? (i := 295) (by decide +kernel)) (by decide +kernel)
theorem tw_222 : Cond.fieldLink RX5 127 "WallDown$House" "slack" "I" ∈ Tg := tg_tab (List.mem_of_getElem? (i := 50) (by decide +kernel)) (by decide +kernel)
theorem tw_223 : Cond.fieldLink RX5 101 "WallDown$House" "counts" "[I" ∈ Tg := tg_tab (List.mem_of_getElem? (i := 39) (by decide +kernel)) (by decide +kernel)
theorem tw_224 : Cond.methodLink RX5 112 yX0_put ∈ Tg := tg_tab (List.mem_of_getElem? (i := 685) (by decide +kernel)) (by decide +kernel)
theorem tw_225 : Cond.code yX0_put cX0_put 6 none ∈ Tg := tg_tab (List.mem_of_getElem? (i := 244) (by decide +kernel)) (by decide +kernel)
theorem tw_226 : Cond.instanceMethod yX0_put ∈ Tg := tg_tab (List.mem_of_getElem? (i := 242) (by decide +kernel)) (by decide +kernel)
theorem tw_227 : Cond.selects RX0 yX0_put yX0_put ∈ Tg := tg_tab (List.mem_of_getElem? (i := 243) (by decide +kernel)) (by decide +kernel)
theorem tw_228 : Cond.fieldLink RX5 124 "WallDown$House" "wedges" "[I" ∈ Tg := tg_tab (List.mem_of_getElem? (i := 44) (by decide +kernel)) (by decide +kernel)
theorem tw_229 : Cond.methodLink RX5 61 yX5_tellStone ∈ Tg := tg_tab (List.mem_of_getElem? (i := 675) (by decide +kernel)) (by decide +kernel)
theorem tw_230 : Cond.initialized RX5 ∈ Tg := tg_tab (List.mem_of_getElem? (i := 5) (by decide +kernel)) (by decide +kernel)
theorem tw_231 : Cond.code yX5_tellStone cX5_tellStone 5 (some .boolean) ∈ Tg := tg_tab (List.mem_of_getElem? (i := 678) (by decide +kernel)) (by decide +kernel)
theorem tw_232 : Cond.instanceMethod yX5_tellStone ∈ Tg := tg_tab (List.mem_of_getElem? (i := 677) (by decide +kernel)) (by decide +kernel)
theorem tw_233 : Cond.selects RX5 yX5_tellStone yX5_tellStone ∈ Tg := tg_in (List.mem_of_getElem? (i := 13) (by decide +kernel)) (by decide +kernel)
theorem tw_234 : Cond.methodLink RX5 53 yX5_nameOf ∈ Tg := tg_tab (List.mem_of_getElem? (i := 613) (by decide +kernel)) (by decide +kernel)
theorem tw_235 : Cond.code yX5_nameOf cX5_nameOf 1 (some (.object "java/lang/String")) ∈ Tg := tg_tab (List.mem_of_getElem? (i := 615) (by decide +kernel)) (by decide +kernel)
theorem tw_236 : Cond.static yX5_nameOf ∈ Tg := tg_tab (List.mem_of_getElem? (i := 614) (by decide +kernel)) (by decide +kernel)
theorem tw_237 : Cond.methodLink RX5 82 yX5_tellPulls ∈ Tg := tg_tab (List.mem_of_getElem? (i := 705) (by decide +kernel)) (by decide +kernel)
theorem tw_238 : Cond.code yX5_tellPulls cX5_tellPulls 2 (some .boolean) ∈ Tg := tg_tab (List.mem_of_getElem? (i := 708) (by decide +kernel)) (by decide +kernel)
theorem tw_239 : Cond.instanceMethod yX5_tellPulls ∈ Tg := tg_tab (List.mem_of_getElem? (i := 707) (by decide +kernel)) (by decide +kernel)
theorem tw_240 : Cond.selects RX5 yX5_tellPulls yX5_tellPulls ∈ Tg := tg_in (List.mem_of_getElem? (i := 17) (by decide +kernel)) (by decide +kernel)
theorem tw_241 : Cond.methodLink RX5 77 yX5_tellSlack ∈ Tg := tg_tab (List.mem_of_getElem? (i := 700) (by decide +kernel)) (by decide +kernel)
theorem tw_242 : Cond.code yX5_tellSlack cX5_tellSlack 1 (some .boolean) ∈ Tg := tg_tab (List.mem_of_getElem? (i := 703) (by decide +kernel)) (by decide +kernel)
theorem tw_243 : Cond.instanceMethod yX5_tellSlack ∈ Tg := tg_tab (List.mem_of_getElem? (i := 702) (by decide +kernel)) (by decide +kernel)
theorem tw_244 : Cond.selects RX5 yX5_tellSlack yX5_tellSlack ∈ Tg := tg_in (List.mem_of_getElem? (i := 16) (by decide +kernel)) (by decide +kernel)
theorem tw_245 : Cond.methodLink RX5 72 yX5_tellWedge ∈ Tg := tg_tab (List.mem_of_getElem? (i := 695) (by decide +kernel)) (by decide +kernel)
theorem tw_246 : Cond.code yX5_tellWedge cX5_tellWedge 2 (some .boolean) ∈ Tg := tg_tab (List.mem_of_getElem? (i := 698) (by decide +kernel)) (by decide +kernel)
theorem tw_247 : Cond.instanceMethod yX5_tellWedge ∈ Tg := tg_tab (List.mem_of_getElem? (i := 697) (by decide +kernel)) (by decide +kernel)
theorem tw_248 : Cond.selects RX5 yX5_tellWedge yX5_tellWedge ∈ Tg := tg_in (List.mem_of_getElem? (i := 15) (by decide +kernel)) (by decide +kernel)
theorem tw_249 : Cond.methodLink RX5 67 yX5_tellBeam ∈ Tg := tg_tab (List.mem_of_getElem? (i := 687) (by decide +kernel)) (by decide +kernel)
theorem tw_250 : Cond.code yX5_tellBeam cX5_tellBeam 3 (some .boolean) ∈ Tg := tg_tab (List.mem_of_getElem? (i := 690) (by decide +kernel)) (by decide +kernel)
theorem tw_251 : Cond.instanceMethod yX5_tellBeam ∈ Tg := tg_tab (List.mem_of_getElem? (i := 689) (by decide +kernel)) (by decide +kernel)
theorem tw_252 : Cond.selects RX5 yX5_tellBeam yX5_tellBeam ∈ Tg := tg_in (List.mem_of_getElem? (i := 14) (by decide +kernel)) (by decide +kernel)
theorem tw_253 : Cond.methodLink RX5 39 yX5_tellItem ∈ Tg := tg_tab (List.mem_of_getElem? (i := 609) (by decide +kernel)) (by decide +kernel)
theorem tw_254 : Cond.code yX5_tellItem cX5_tellItem 2 (some .boolean) ∈ Tg := tg_tab (List.mem_of_getElem? (i := 612) (by decide +kernel)) (by decide +kernel)
theorem tw_255 : Cond.instanceMethod yX5_tellItem ∈ Tg := tg_tab (List.mem_of_getElem? (i := 611) (by decide +kernel)) (by decide +kernel)
theorem tw_256 : Cond.selects RX5 yX5_tellItem yX5_tellItem ∈ Tg := tg_in (List.mem_of_getElem? (i := 12) (by decide +kernel)) (by decide +kernel)
theorem tw_257 : Cond.fieldLink RX5 50 "WallDown$Tape" "start" "I" ∈ Tg := tg_tab (List.mem_of_getElem? (i := 137) (by decide +kernel)) (by decide +kernel)
theorem tw_258 : Cond.methodLink RX5 36 yX4_rewind ∈ Tg := tg_tab (List.mem_of_getElem? (i := 583) (by decide +kernel)) (by decide +kernel)
theorem tw_259 : Cond.code yX4_rewind cX4_rewind 1 none ∈ Tg := tg_tab (List.mem_of_getElem? (i := 586) (by decide +kernel)) (by decide +kernel)
theorem tw_260 : Cond.instanceMethod yX4_rewind ∈ Tg := tg_tab (List.mem_of_getElem? (i := 584) (by decide +kernel)) (by decide +kernel)
theorem tw_261 : Cond.selects RX4 yX4_rewind yX4_rewind ∈ Tg := tg_tab (List.mem_of_getElem? (i := 585) (by decide +kernel)) (by decide +kernel)
theorem tw_262 : Cond.methodLink RX5 32 yX0_becomeLike ∈ Tg := tg_tab (List.mem_of_getElem? (i := 582) (by decide +kernel)) (by decide +kernel)
theorem tw_263 : Cond.code yX0_becomeLike cX0_becomeLike 2 none ∈ Tg := tg_tab (List.mem_of_getElem? (i := 289) (by decide +kernel)) (by decide +kernel)
theorem tw_264 : Cond.instanceMethod yX0_becomeLike ∈ Tg := tg_tab (List.mem_of_getElem? (i := 287) (by decide +kernel)) (by decide +kernel)
theorem tw_265 : Cond.selects RX0 yX0_becomeLike yX0_becomeLike ∈ Tg := tg_tab (List.mem_of_getElem? (i := 288) (by decide +kernel)) (by decide +kernel)
theorem tw_266 : Cond.constant RX6 64 (-1000000001) ∈ Tg := tg_tab (List.mem_of_getElem? (i := 235) (by decide +kernel)) (by decide +kernel)
theorem tw_267 : Cond.fieldLink RX6 49 "WallDown" "found" "[I" ∈ Tg := tg_tab (List.mem_of_getElem? (i := 198) (by decide +kernel)) (by decide +kernel)
theorem tw_268 : Cond.methodLink RX6 116 yX6_isWithin ∈ Tg := tg_tab (List.mem_of_getElem? (i := 226) (by decide +kernel)) (by decide +kernel)
theorem tw_269 : Cond.methodLink RX6 65 yX6_finding ∈ Tg := tg_tab (List.mem_of_getElem? (i := 236) (by decide +kernel)) (by decide +kernel)
theorem tw_270 : Cond.code yX6_finding cX6_finding 3 (some .int) ∈ Tg := tg_tab (List.mem_of_getElem? (i := 239) (by decide +kernel)) (by decide +kernel)
theorem tw_271 : Cond.instanceMethod yX6_finding ∈ Tg := tg_tab (List.mem_of_getElem? (i := 238) (by decide +kernel)) (by decide +kernel)
theorem tw_272 : Cond.selects RX6 yX6_finding yX6_finding ∈ Tg := tg_in (List.mem_of_getElem? (i := 0) (by decide +kernel)) (by decide +kernel)
theorem tw_273 : Cond.fieldLink RX6 12 "WallDown" "house" "LWallDown$House;" ∈ Tg := tg_tab (List.mem_of_getElem? (i := 191) (by decide +kernel)) (by decide +kernel)
theorem tw_274 : Cond.fieldLink RX6 69 "WallDown$House" "counts" "[I" ∈ Tg := tg_tab (List.mem_of_getElem? (i := 38) (by decide +kernel)) (by decide +kernel)
theorem tw_275 : Cond.methodLink RX6 73 yX0_put ∈ Tg := tg_tab (List.mem_of_getElem? (i := 241) (by decide +kernel)) (by decide +kernel)
theorem tw_276 : Cond.constant RX6 72 (-1000000002) ∈ Tg := tg_tab (List.mem_of_getElem? (i := 240) (by decide +kernel)) (by decide +kernel)
theorem tw_277 : Cond.methodLink RX6 61 yX6_isHigh ∈ Tg := tg_tab (List.mem_of_getElem? (i := 232) (by decide +kernel)) (by decide +kernel)
theorem tw_278 : Cond.code yX6_isHigh cX6_isHigh 1 (some .boolean) ∈ Tg := tg_tab (List.mem_of_getElem? (i := 234) (by decide +kernel)) (by decide +kernel)
theorem tw_279 : Cond.static yX6_isHigh ∈ Tg := tg_tab (List.mem_of_getElem? (i := 233) (by decide +kernel)) (by decide +kernel)
theorem tw_280 : Cond.methodLink RX6 58 yX6_isWall ∈ Tg := tg_tab (List.mem_of_getElem? (i := 229) (by decide +kernel)) (by decide +kernel)
theorem tw_281 : Cond.code yX6_isWall cX6_isWall 1 (some .boolean) ∈ Tg := tg_tab (List.mem_of_getElem? (i := 231) (by decide +kernel)) (by decide +kernel)
theorem tw_282 : Cond.static yX6_isWall ∈ Tg := tg_tab (List.mem_of_getElem? (i := 230) (by decide +kernel)) (by decide +kernel)
theorem tw_283 : Cond.methodLink RX6 54 yX6_isKind ∈ Tg := tg_tab (List.mem_of_getElem? (i := 223) (by decide +kernel)) (by decide +kernel)
theorem tw_284 : Cond.code yX6_isKind cX6_isKind 1 (some .boolean) ∈ Tg := tg_tab (List.mem_of_getElem? (i := 225) (by decide +kernel)) (by decide +kernel)
theorem tw_285 : Cond.static yX6_isKind ∈ Tg := tg_tab (List.mem_of_getElem? (i := 224) (by decide +kernel)) (by decide +kernel)
theorem tw_286 : Cond.fieldLink RX6 77 "WallDown$House" "wedges" "[I" ∈ Tg := tg_tab (List.mem_of_getElem? (i := 42) (by decide +kernel)) (by decide +kernel)
theorem tw_287 : Cond.methodLink RX6 80 yX0_topOf ∈ Tg := tg_tab (List.mem_of_getElem? (i := 252) (by decide +kernel)) (by decide +kernel)
theorem tw_288 : Cond.methodLink RX6 83 yX0_coinsOf ∈ Tg := tg_tab (List.mem_of_getElem? (i := 263) (by decide +kernel)) (by decide +kernel)
theorem tw_289 : Cond.fieldLink RX6 19 "WallDown" "trial" "LWallDown$House;" ∈ Tg := tg_tab (List.mem_of_getElem? (i := 193) (by decide +kernel)) (by decide +kernel)
theorem tw_290 : Cond.fieldLink RX6 94 "WallDown$House" "kinds" "[I" ∈ Tg := tg_tab (List.mem_of_getElem? (i := 31) (by decide +kernel)) (by decide +kernel)
theorem tw_291 : Cond.fieldLink RX6 25 "WallDown" "survey" "LWallDown$Survey;" ∈ Tg := tg_tab (List.mem_of_getElem? (i := 194) (by decide +kernel)) (by decide +kernel)
theorem tw_292 : Cond.fieldLink RX6 156 "WallDown$Survey" "now" "I" ∈ Tg := tg_tab (List.mem_of_getElem? (i := 88) (by decide +kernel)) (by decide +kernel)
theorem tw_293 : Cond.methodLink RX6 305 yX3_lowestMayGo ∈ Tg := tg_tab (List.mem_of_getElem? (i := 307) (by decide +kernel)) (by decide +kernel)
theorem tw_294 : Cond.methodLink RX6 152 yX3_measure ∈ Tg := tg_tab (List.mem_of_getElem? (i := 293) (by decide +kernel)) (by decide +kernel)
theorem tw_295 : Cond.methodLink RX6 90 yX0_place ∈ Tg := tg_tab (List.mem_of_getElem? (i := 279) (by decide +kernel)) (by decide +kernel)
theorem tw_296 : Cond.methodLink RX6 216 yX0_becomeLike ∈ Tg := tg_tab (List.mem_of_getElem? (i := 286) (by decide +kernel)) (by decide +kernel)
theorem tw_297 : Cond.fieldLink RX6 97 "WallDown$House" "highs" "[I" ∈ Tg := tg_tab (List.mem_of_getElem? (i := 34) (by decide +kernel)) (by decide +kernel)
theorem tw_298 : Cond.fieldLink RX6 100 "WallDown$House" "prices" "[I" ∈ Tg := tg_tab (List.mem_of_getElem? (i := 36) (by decide +kernel)) (by decide +kernel)
theorem tw_299 : Cond.methodLink RX6 103 yX0_tallOf ∈ Tg := tg_tab (List.mem_of_getElem? (i := 280) (by decide +kernel)) (by decide +kernel)
theorem tw_300 : Cond.methodLink RX6 106 yX0_coinOf ∈ Tg := tg_tab (List.mem_of_getElem? (i := 281) (by decide +kernel)) (by decide +kernel)
theorem tw_301 : Cond.methodLink RX6 112 yX6_asNumber ∈ Tg := tg_tab (List.mem_of_getElem? (i := 314) (by decide +kernel)) (by decide +kernel)
theorem tw_302 : Cond.code yX6_asNumber cX6_asNumber 1 (some .int) ∈ Tg := tg_tab (List.mem_of_getElem? (i := 316) (by decide +kernel)) (by decide +kernel)
theorem tw_303 : Cond.static yX6_asNumber ∈ Tg := tg_tab (List.mem_of_getElem? (i := 315) (by decide +kernel)) (by decide +kernel)
theorem tw_304 : Cond.methodLink RX6 109 yX6_mayGoAsLowest ∈ Tg := tg_tab (List.mem_of_getElem? (i := 282) (by decide +kernel)) (by decide +kernel)
theorem tw_305 : Cond.code yX6_mayGoAsLowest cX6_mayGoAsLowest 3 (some .boolean) ∈ Tg := tg_tab (List.mem_of_getElem? (i := 285) (by decide +kernel)) (by decide +kernel)
theorem tw_306 : Cond.instanceMethod yX6_mayGoAsLowest ∈ Tg := tg_tab (List.mem_of_getElem? (i := 284) (by decide +kernel)) (by decide +kernel)
theorem tw_307 : Cond.selects RX6 yX6_mayGoAsLowest yX6_mayGoAsLowest ∈ Tg := tg_in (List.mem_of_getElem? (i := 2) (by decide +kernel)) (by decide +kernel)
theorem tw_308 : Cond.methodLink RX6 86 yX6_isStone ∈ Tg := tg_tab (List.mem_of_getElem? (i := 275) (by decide +kernel)) (by decide +kernel)
theorem tw_309 : Cond.code yX6_isStone cX6_isStone 3 (some .boolean) ∈ Tg := tg_tab (List.mem_of_getElem? (i := 278) (by decide +kernel)) (by decide +kernel)
theorem tw_310 : Cond.instanceMethod yX6_isStone ∈ Tg := tg_tab (List.mem_of_getElem? (i := 277) (by decide +kernel)) (by decide +kernel)
theorem tw_311 : Cond.selects RX6 yX6_isStone yX6_isStone ∈ Tg := tg_in (List.mem_of_getElem? (i := 1) (by decide +kernel)) (by decide +kernel)
theorem tw_312 : Cond.fieldLink RX6 308 "WallDown" "ABOVE" "[I" ∈ Tg := tg_tab (List.mem_of_getElem? (i := 332) (by decide +kernel)) (by decide +kernel)
theorem tw_313 : Cond.constant RX6 123 (-1000000003) ∈ Tg := tg_tab (List.mem_of_getElem? (i := 334) (by decide +kernel)) (by decide +kernel)
theorem tw_314 : Cond.methodLink RX6 120 yX6_isUnder ∈ Tg := tg_tab (List.mem_of_getElem? (i := 329) (by decide +kernel)) (by decide +kernel)
theorem tw_315 : Cond.code yX6_isUnder cX6_isUnder 4 (some .boolean) ∈ Tg := tg_tab (List.mem_of_getElem? (i := 331) (by decide +kernel)) (by decide +kernel)
theorem tw_316 : Cond.static yX6_isUnder ∈ Tg := tg_tab (List.mem_of_getElem? (i := 330) (by decide +kernel)) (by decide +kernel)
theorem tw_317 : Cond.fieldLink RX6 124 "WallDown$House" "slack" "I" ∈ Tg := tg_tab (List.mem_of_getElem? (i := 51) (by decide +kernel)) (by decide +kernel)
theorem tw_318 : Cond.fieldLink RX6 128 "WallDown$House" "beams" "I" ∈ Tg := tg_tab (List.mem_of_getElem? (i := 47) (by decide +kernel)) (by decide +kernel)
theorem tw_319 : Cond.methodLink RX6 131 yX0_layBeam ∈ Tg := tg_tab (List.mem_of_getElem? (i := 347) (by decide +kernel)) (by decide +kernel)
theorem tw_320 : Cond.fieldLink RX6 135 "WallDown$House" "night" "I" ∈ Tg := tg_tab (List.mem_of_getElem? (i := 53) (by decide +kernel)) (by decide +kernel)
theorem tw_321 : Cond.methodLink RX6 139 yX0_allTops ∈ Tg := tg_tab (List.mem_of_getElem? (i := 356) (by decide +kernel)) (by decide +kernel)
theorem tw_322 : Cond.code yX0_allTops cX0_allTops 3 (some .int) ∈ Tg := tg_tab (List.mem_of_getElem? (i := 359) (by decide +kernel)) (by decide +kernel)
theorem tw_323 : Cond.instanceMethod yX0_allTops ∈ Tg := tg_tab (List.mem_of_getElem? (i := 357) (by decide +kernel)) (by decide +kernel)
theorem tw_324 : Cond.selects RX0 yX0_allTops yX0_allTops ∈ Tg := tg_tab (List.mem_of_getElem? (i := 358) (by decide +kernel)) (by decide +kernel)
theorem tw_325 : Cond.constant RX6 138 (-1000000005) ∈ Tg := tg_tab (List.mem_of_getElem? (i := 355) (by decide +kernel)) (by decide +kernel)
theorem tw_326 : Cond.fieldLink RX6 143 "WallDown$House" "purse" "I" ∈ Tg := tg_tab (List.mem_of_getElem? (i := 55) (by decide +kernel)) (by decide +kernel)
theorem tw_327 : Cond.methodLink RX6 146 yX0_allStones ∈ Tg := tg_tab (List.mem_of_getElem? (i := 365) (by decide +kernel)) (by decide +kernel)
theorem tw_328 : Cond.code yX0_allStones cX0_allStones 1 (some .int) ∈ Tg := tg_tab (List.mem_of_getElem? (i := 368) (by decide +kernel)) (by decide +kernel)
theorem tw_329 : Cond.instanceMethod yX0_allStones ∈ Tg := tg_tab (List.mem_of_getElem? (i := 366) (by decide +kernel)) (by decide +kernel)
theorem tw_330 : Cond.selects RX0 yX0_allStones yX0_allStones ∈ Tg := tg_tab (List.mem_of_getElem? (i := 367) (by decide +kernel)) (by decide +kernel)
theorem tw_331 : Cond.methodLink RX6 149 yX0_standNow ∈ Tg := tg_tab (List.mem_of_getElem? (i := 373) (by decide +kernel)) (by decide +kernel)
theorem tw_332 : Cond.methodLink RX6 159 yX3_unlikeAt ∈ Tg := tg_tab (List.mem_of_getElem? (i := 374) (by decide +kernel)) (by decide +kernel)
theorem tw_333 : Cond.methodLink RX6 165 yX0_takeLowest ∈ Tg := tg_tab (List.mem_of_getElem? (i := 393) (by decide +kernel)) (by decide +kernel)
theorem tw_334 : Cond.methodLink RX6 162 yX3_canPullAt ∈ Tg := tg_tab (List.mem_of_getElem? (i := 386) (by decide +kernel)) (by decide +kernel)
theorem tw_335 : Cond.fieldLink RX6 32 "WallDown" "rows" "LWallDown$Rows;" ∈ Tg := tg_tab (List.mem_of_getElem? (i := 195) (by decide +kernel)) (by decide +kernel)
theorem tw_336 : Cond.methodLink RX6 287 yX1_fill ∈ Tg := tg_tab (List.mem_of_getElem? (i := 424) (by decide +kernel)) (by decide +kernel)
theorem tw_337 : Cond.code yX1_fill cX1_fill 6 (some .int) ∈ Tg := tg_tab (List.mem_of_getElem? (i := 427) (by decide +kernel)) (by decide +kernel)
theorem tw_338 : Cond.instanceMethod yX1_fill ∈ Tg := tg_tab (List.mem_of_getElem? (i := 425) (by decide +kernel)) (by decide +kernel)
theorem tw_339 : Cond.selects RX1 yX1_fill yX1_fill ∈ Tg := tg_tab (List.mem_of_getElem? (i := 426) (by decide +kernel)) (by decide +kernel)
theorem tw_340 : Cond.fieldLink RX6 184 "WallDown$Rows" "ways" "[J" ∈ Tg := tg_tab (List.mem_of_getElem? (i := 112) (by decide +kernel)) (by decide +kernel)
theorem tw_341 : Cond.methodLink RX6 176 yX6_standsOf ∈ Tg := tg_tab (List.mem_of_getElem? (i := 420) (by decide +kernel)) (by decide +kernel)
theorem tw_342 : Cond.code yX6_standsOf cX6_standsOf 2 (some .int) ∈ Tg := tg_tab (List.mem_of_getElem? (i := 423) (by decide +kernel)) (by decide +kernel)
theorem tw_343 : Cond.instanceMethod yX6_standsOf ∈ Tg := tg_tab (List.mem_of_getElem? (i := 422) (by decide +kernel)) (by decide +kernel)
theorem tw_344 : Cond.selects RX6 yX6_standsOf yX6_standsOf ∈ Tg := tg_in (List.mem_of_getElem? (i := 5) (by decide +kernel)) (by decide +kernel)
theorem tw_345 : Cond.methodLink RX6 302 yX3_isPartOf ∈ Tg := tg_tab (List.mem_of_getElem? (i := 413) (by decide +kernel)) (by decide +kernel)
theorem tw_346 : Cond.methodLink RX6 172 yX6_canBe ∈ Tg := tg_tab (List.mem_of_getElem? (i := 416) (by decide +kernel)) (by decide +kernel)
theorem tw_347 : Cond.code yX6_canBe cX6_canBe 3 (some .boolean) ∈ Tg := tg_tab (List.mem_of_getElem? (i := 419) (by decide +kernel)) (by decide +kernel)
theorem tw_348 : Cond.instanceMethod yX6_canBe ∈ Tg := tg_tab (List.mem_of_getElem? (i := 418) (by decide +kernel)) (by decide +kernel)
theorem tw_349 : Cond.selects RX6 yX6_canBe yX6_canBe ∈ Tg := tg_in (List.mem_of_getElem? (i := 4) (by decide +kernel)) (by decide +kernel)
theorem tw_350 : Cond.methodLink RX6 169 yX6_isStand ∈ Tg := tg_tab (List.mem_of_getElem? (i := 409) (by decide +kernel)) (by decide +kernel)
theorem tw_351 : Cond.code yX6_isStand cX6_isStand 2 (some .boolean) ∈ Tg := tg_tab (List.mem_of_getElem? (i := 412) (by decide +kernel)) (by decide +kernel)
theorem tw_352 : Cond.instanceMethod yX6_isStand ∈ Tg := tg_tab (List.mem_of_getElem? (i := 411) (by decide +kernel)) (by decide +kernel)
theorem tw_353 : Cond.selects RX6 yX6_isStand yX6_isStand ∈ Tg := tg_in (List.mem_of_getElem? (i := 3) (by decide +kernel)) (by decide +kernel)
theorem tw_354 : Cond.methodLink RX6 180 yX1_leastStand ∈ Tg := tg_tab (List.mem_of_getElem? (i := 458) (by decide +kernel)) (by decide +kernel)
theorem tw_355 : Cond.code yX1_leastStand cX1_leastStand 4 (some .int) ∈ Tg := tg_tab (List.mem_of_getElem? (i := 461) (by decide +kernel)) (by decide +kernel)
theorem tw_356 : Cond.instanceMethod yX1_leastStand ∈ Tg := tg_tab (List.mem_of_getElem? (i := 459) (by decide +kernel)) (by decide +kernel)
theorem tw_357 : Cond.selects RX1 yX1_leastStand yX1_leastStand ∈ Tg := tg_tab (List.mem_of_getElem? (i := 460) (by decide +kernel)) (by decide +kernel)
theorem tw_358 : Cond.constant RX6 196 (-1000000004) ∈ Tg := tg_tab (List.mem_of_getElem? (i := 482) (by decide +kernel)) (by decide +kernel)
theorem tw_359 : Cond.methodLink RX6 192 yX1_leadFrom ∈ Tg := tg_tab (List.mem_of_getElem? (i := 481) (by decide +kernel)) (by decide +kernel)
theorem tw_360 : Cond.methodLink RX6 188 yX1_lead ∈ Tg := tg_tab (List.mem_of_getElem? (i := 471) (by decide +kernel)) (by decide +kernel)
theorem tw_361 : Cond.code yX1_lead cX1_lead 4 none ∈ Tg := tg_tab (List.mem_of_getElem? (i := 474) (by decide +kernel)) (by decide +kernel)
theorem tw_362 : Cond.instanceMethod yX1_lead ∈ Tg := tg_tab (List.mem_of_getElem? (i := 472) (by decide +kernel)) (by decide +kernel)
theorem tw_363 : Cond.selects RX1 yX1_lead yX1_lead ∈ Tg := tg_tab (List.mem_of_getElem? (i := 473) (by decide +kernel)) (by decide +kernel)
theorem tw_364 : Cond.methodLink RX6 197 yX3_unit ∈ Tg := tg_tab (List.mem_of_getElem? (i := 487) (by decide +kernel)) (by decide +kernel)
theorem tw_365 : Cond.methodLink RX6 200 yX6_leastSlack ∈ Tg := tg_tab (List.mem_of_getElem? (i := 492) (by decide +kernel)) (by decide +kernel)
theorem tw_366 : Cond.code yX6_leastSlack cX6_leastSlack 4 (some .int) ∈ Tg := tg_tab (List.mem_of_getElem? (i := 495) (by decide +kernel)) (by decide +kernel)
theorem tw_367 : Cond.instanceMethod yX6_leastSlack ∈ Tg := tg_tab (List.mem_of_getElem? (i := 494) (by decide +kernel)) (by decide +kernel)
theorem tw_368 : Cond.selects RX6 yX6_leastSlack yX6_leastSlack ∈ Tg := tg_in (List.mem_of_getElem? (i := 6) (by decide +kernel)) (by decide +kernel)
theorem tw_369 : Cond.methodLink RX6 284 yX1_bestUpTo ∈ Tg := tg_tab (List.mem_of_getElem? (i := 519) (by decide +kernel)) (by decide +kernel)
theorem tw_370 : Cond.code yX1_bestUpTo cX1_bestUpTo 6 (some .int) ∈ Tg := tg_tab (List.mem_of_getElem? (i := 522) (by decide +kernel)) (by decide +kernel)
theorem tw_371 : Cond.instanceMethod yX1_bestUpTo ∈ Tg := tg_tab (List.mem_of_getElem? (i := 520) (by decide +kernel)) (by decide +kernel)
theorem tw_372 : Cond.selects RX1 yX1_bestUpTo yX1_bestUpTo ∈ Tg := tg_tab (List.mem_of_getElem? (i := 521) (by decide +kernel)) (by decide +kernel)
theorem tw_373 : Cond.methodLink RX6 280 yX1_rank ∈ Tg := tg_tab (List.mem_of_getElem? (i := 508) (by decide +kernel)) (by decide +kernel)
theorem tw_374 : Cond.code yX1_rank cX1_rank 4 none ∈ Tg := tg_tab (List.mem_of_getElem? (i := 511) (by decide +kernel)) (by decide +kernel)
theorem tw_375 : Cond.instanceMethod yX1_rank ∈ Tg := tg_tab (List.mem_of_getElem? (i := 509) (by decide +kernel)) (by decide +kernel)
theorem tw_376 : Cond.selects RX1 yX1_rank yX1_rank ∈ Tg := tg_tab (List.mem_of_getElem? (i := 510) (by decide +kernel)) (by decide +kernel)
theorem tw_377 : Cond.methodLink RX6 206 yX3_coinAt ∈ Tg := tg_tab (List.mem_of_getElem? (i := 523) (by decide +kernel)) (by decide +kernel)
theorem tw_378 : Cond.methodLink RX6 203 yX6_bestStand ∈ Tg := tg_tab (List.mem_of_getElem? (i := 504) (by decide +kernel)) (by decide +kernel)
theorem tw_379 : Cond.code yX6_bestStand cX6_bestStand 2 (some .int) ∈ Tg := tg_tab (List.mem_of_getElem? (i := 507) (by decide +kernel)) (by decide +kernel)
theorem tw_380 : Cond.instanceMethod yX6_bestStand ∈ Tg := tg_tab (List.mem_of_getElem? (i := 506) (by decide +kernel)) (by decide +kernel)
theorem tw_381 : Cond.selects RX6 yX6_bestStand yX6_bestStand ∈ Tg := tg_in (List.mem_of_getElem? (i := 7) (by decide +kernel)) (by decide +kernel)
theorem tw_382 : Cond.methodLink RX6 209 yX1_fewestPulls ∈ Tg := tg_tab (List.mem_of_getElem? (i := 532) (by decide +kernel)) (by decide +kernel)
theorem tw_383 : Cond.code yX1_fewestPulls cX1_fewestPulls 7 (some .int) ∈ Tg := tg_tab (List.mem_of_getElem? (i := 535) (by decide +kernel)) (by decide +kernel)
theorem tw_384 : Cond.instanceMethod yX1_fewestPulls ∈ Tg := tg_tab (List.mem_of_getElem? (i := 533) (by decide +kernel)) (by decide +kernel)
theorem tw_385 : Cond.selects RX1 yX1_fewestPulls yX1_fewestPulls ∈ Tg := tg_tab (List.mem_of_getElem? (i := 534) (by decide +kernel)) (by decide +kernel)
theorem tw_386 : Cond.methodLink RX6 213 yX1_fewestLeft ∈ Tg := tg_tab (List.mem_of_getElem? (i := 542) (by decide +kernel)) (by decide +kernel)
theorem tw_387 : Cond.code yX1_fewestLeft cX1_fewestLeft 5 (some .int) ∈ Tg := tg_tab (List.mem_of_getElem? (i := 545) (by decide +kernel)) (by decide +kernel)
theorem tw_388 : Cond.instanceMethod yX1_fewestLeft ∈ Tg := tg_tab (List.mem_of_getElem? (i := 543) (by decide +kernel)) (by decide +kernel)
theorem tw_389 : Cond.selects RX1 yX1_fewestLeft yX1_fewestLeft ∈ Tg := tg_tab (List.mem_of_getElem? (i := 544) (by decide +kernel)) (by decide +kernel)
theorem tw_390 : Cond.fieldLink RX6 39 "WallDown" "teller" "LWallDown$Teller;" ∈ Tg := tg_tab (List.mem_of_getElem? (i := 196) (by decide +kernel)) (by decide +kernel)
theorem tw_391 : Cond.fieldLink RX6 219 "WallDown$Teller" "tape" "LWallDown$Tape;" ∈ Tg := tg_tab (List.mem_of_getElem? (i := 160) (by decide +kernel)) (by decide +kernel)
theorem tw_392 : Cond.fieldLink RX6 223 "WallDown$Tape" "length" "I" ∈ Tg := tg_tab (List.mem_of_getElem? (i := 134) (by decide +kernel)) (by decide +kernel)
theorem tw_393 : Cond.methodLink RX6 228 yX4_append ∈ Tg := tg_tab (List.mem_of_getElem? (i := 566) (by decide +kernel)) (by decide +kernel)
theorem tw_394 : Cond.code yX4_append cX4_append 2 none ∈ Tg := tg_tab (List.mem_of_getElem? (i := 569) (by decide +kernel)) (by decide +kernel)
theorem tw_395 : Cond.instanceMethod yX4_append ∈ Tg := tg_tab (List.mem_of_getElem? (i := 567) (by decide +kernel)) (by decide +kernel)
theorem tw_396 : Cond.selects RX4 yX4_append yX4_append ∈ Tg := tg_tab (List.mem_of_getElem? (i := 568) (by decide +kernel)) (by decide +kernel)
theorem tw_397 : Cond.fieldLink RX6 234 "WallDown$Teller" "site" "LWallDown$House;" ∈ Tg := tg_tab (List.mem_of_getElem? (i := 162) (by decide +kernel)) (by decide +kernel)
theorem tw_398 : Cond.methodLink RX6 231 yX5_tell ∈ Tg := tg_tab (List.mem_of_getElem? (i := 578) (by decide +kernel)) (by decide +kernel)
theorem tw_399 : Cond.code yX5_tell cX5_tell 3 (some .int) ∈ Tg := tg_tab (List.mem_of_getElem? (i := 581) (by decide +kernel)) (by decide +kernel)
theorem tw_400 : Cond.instanceMethod yX5_tell ∈ Tg := tg_tab (List.mem_of_getElem? (i := 579) (by decide +kernel)) (by decide +kernel)
theorem tw_401 : Cond.selects RX5 yX5_tell yX5_tell ∈ Tg := tg_tab (List.mem_of_getElem? (i := 580) (by decide +kernel)) (by decide +kernel)
theorem tw_402 : Cond.fieldLink RX6 45 "WallDown" "sheets" "[LWallDown$Sheet;" ∈ Tg := tg_tab (List.mem_of_getElem? (i := 197) (by decide +kernel)) (by decide +kernel)
theorem tw_403 : Cond.fieldLink RX6 248 "WallDown$Sheet" "size" "I" ∈ Tg := tg_tab (List.mem_of_getElem? (i := 183) (by decide +kernel)) (by decide +kernel)
theorem tw_404 : Cond.methodLink RX6 244 yX2_layOut ∈ Tg := tg_tab (List.mem_of_getElem? (i := 724) (by decide +kernel)) (by decide +kernel)
theorem tw_405 : Cond.code yX2_layOut cX2_layOut 3 none ∈ Tg := tg_tab (List.mem_of_getElem? (i := 727) (by decide +kernel)) (by decide +kernel)
theorem tw_406 : Cond.instanceMethod yX2_layOut ∈ Tg := tg_tab (List.mem_of_getElem? (i := 725) (by decide +kernel)) (by decide +kernel)
theorem tw_407 : Cond.selects RX2 yX2_layOut yX2_layOut ∈ Tg := tg_tab (List.mem_of_getElem? (i := 726) (by decide +kernel)) (by decide +kernel)
theorem tw_408 : Cond.constant RX6 243 (-1000000007) ∈ Tg := tg_tab (List.mem_of_getElem? (i := 723) (by decide +kernel)) (by decide +kernel)
theorem tw_409 : Cond.methodLink RX6 240 yX6_isWidth ∈ Tg := tg_tab (List.mem_of_getElem? (i := 720) (by decide +kernel)) (by decide +kernel)
theorem tw_410 : Cond.code yX6_isWidth cX6_isWidth 1 (some .boolean) ∈ Tg := tg_tab (List.mem_of_getElem? (i := 722) (by decide +kernel)) (by decide +kernel)
theorem tw_411 : Cond.static yX6_isWidth ∈ Tg := tg_tab (List.mem_of_getElem? (i := 721) (by decide +kernel)) (by decide +kernel)
theorem tw_412 : Cond.methodLink RX6 237 yX6_isSheet ∈ Tg := tg_tab (List.mem_of_getElem? (i := 717) (by decide +kernel)) (by decide +kernel)
theorem tw_413 : Cond.code yX6_isSheet cX6_isSheet 1 (some .boolean) ∈ Tg := tg_tab (List.mem_of_getElem? (i := 719) (by decide +kernel)) (by decide +kernel)
theorem tw_414 : Cond.static yX6_isSheet ∈ Tg := tg_tab (List.mem_of_getElem? (i := 718) (by decide +kernel)) (by decide +kernel)
theorem tw_415 : Cond.fieldLink RX6 260 "WallDown$Sheet" "bits" "I" ∈ Tg := tg_tab (List.mem_of_getElem? (i := 181) (by decide +kernel)) (by decide +kernel)
theorem tw_416 : Cond.constant RX6 263 (-1000000006) ∈ Tg := tg_tab (List.mem_of_getElem? (i := 739) (by decide +kernel)) (by decide +kernel)
theorem tw_417 : Cond.fieldLink RX6 254 "WallDown$Sheet" "numbers" "[J" ∈ Tg := tg_tab (List.mem_of_getElem? (i := 179) (by decide +kernel)) (by decide +kernel)
theorem tw_418 : Cond.methodLink RX6 257 yX2_put ∈ Tg := tg_tab (List.mem_of_getElem? (i := 740) (by decide +kernel)) (by decide +kernel)
theorem tw_419 : Cond.code yX2_put cX2_put 5 none ∈ Tg := tg_tab (List.mem_of_getElem? (i := 743) (by decide +kernel)) (by decide +kernel)
theorem tw_420 : Cond.instanceMethod yX2_put ∈ Tg := tg_tab (List.mem_of_getElem? (i := 741) (by decide +kernel)) (by decide +kernel)
theorem tw_421 : Cond.selects RX2 yX2_put yX2_put ∈ Tg := tg_tab (List.mem_of_getElem? (i := 742) (by decide +kernel)) (by decide +kernel)
theorem tw_422 : Cond.methodLink RX6 251 yX6_sheetFinding ∈ Tg := tg_tab (List.mem_of_getElem? (i := 735) (by decide +kernel)) (by decide +kernel)
theorem tw_423 : Cond.code yX6_sheetFinding cX6_sheetFinding 2 (some .int) ∈ Tg := tg_tab (List.mem_of_getElem? (i := 738) (by decide +kernel)) (by decide +kernel)
theorem tw_424 : Cond.instanceMethod yX6_sheetFinding ∈ Tg := tg_tab (List.mem_of_getElem? (i := 737) (by decide +kernel)) (by decide +kernel)
theorem tw_425 : Cond.selects RX6 yX6_sheetFinding yX6_sheetFinding ∈ Tg := tg_in (List.mem_of_getElem? (i := 18) (by decide +kernel)) (by decide +kernel)
theorem tw_426 : Cond.methodLink RX6 267 arraycopyName ∈ Tg := tg_tab (List.mem_of_getElem? (i := 752) (by decide +kernel)) (by decide +kernel)
theorem tw_427 : Cond.methodLink RX6 264 yX2_hasPart ∈ Tg := tg_tab (List.mem_of_getElem? (i := 748) (by decide +kernel)) (by decide +kernel)
theorem tw_428 : Cond.code yX2_hasPart cX2_hasPart 3 (some .boolean) ∈ Tg := tg_tab (List.mem_of_getElem? (i := 751) (by decide +kernel)) (by decide +kernel)
theorem tw_429 : Cond.instanceMethod yX2_hasPart ∈ Tg := tg_tab (List.mem_of_getElem? (i := 749) (by decide +kernel)) (by decide +kernel)
theorem tw_430 : Cond.selects RX2 yX2_hasPart yX2_hasPart ∈ Tg := tg_tab (List.mem_of_getElem? (i := 750) (by decide +kernel)) (by decide +kernel)
theorem tw_431 : Cond.constantLong RX6 273 (4) ∈ Tg := tg_tab (List.mem_of_getElem? (i := 757) (by decide +kernel)) (by decide +kernel)
theorem tw_432 : Cond.methodLink RX6 275 Lib.Math.min.name ∈ Tg := tg_tab (List.mem_of_getElem? (i := 762) (by decide +kernel)) (by decide +kernel)
theorem tw_433 : Cond.methodLink RX6 291 yX1_waysBy ∈ Tg := tg_tab (List.mem_of_getElem? (i := 767) (by decide +kernel)) (by decide +kernel)
theorem tw_434 : Cond.code yX1_waysBy cX1_waysBy 6 (some .long) ∈ Tg := tg_tab (List.mem_of_getElem? (i := 770) (by decide +kernel)) (by decide +kernel)
theorem tw_435 : Cond.instanceMethod yX1_waysBy ∈ Tg := tg_tab (List.mem_of_getElem? (i := 768) (by decide +kernel)) (by decide +kernel)
theorem tw_436 : Cond.selects RX1 yX1_waysBy yX1_waysBy ∈ Tg := tg_tab (List.mem_of_getElem? (i := 769) (by decide +kernel)) (by decide +kernel)
theorem tw_437 : Cond.fieldLink RX6 16 "WallDown" "kept" "LWallDown$House;" ∈ Tg := tg_tab (List.mem_of_getElem? (i := 192) (by decide +kernel)) (by decide +kernel)
theorem tw_438 : Cond.fieldLink RX6 295 "WallDown" "keeps" "Z" ∈ Tg := tg_tab (List.mem_of_getElem? (i := 199) (by decide +kernel)) (by decide +kernel)
theorem tw_439 : Cond.methodLink RX6 299 yX0_allCoins ∈ Tg := tg_tab (List.mem_of_getElem? (i := 787) (by decide +kernel)) (by decide +kernel)
theorem tw_440 : Cond.code yX0_allCoins cX0_allCoins 3 (some .int) ∈ Tg := tg_tab (List.mem_of_getElem? (i := 790) (by decide +kernel)) (by decide +kernel)
theorem tw_441 : Cond.instanceMethod yX0_allCoins ∈ Tg := tg_tab (List.mem_of_getElem? (i := 788) (by decide +kernel)) (by decide +kernel)
theorem tw_442 : Cond.selects RX0 yX0_allCoins yX0_allCoins ∈ Tg := tg_tab (List.mem_of_getElem? (i := 789) (by decide +kernel)) (by decide +kernel)
theorem tw_443 : Cond.fieldLink RX7 13 "WallDownModel" "found" "[I" ∈ Tg := tg_tab (List.mem_of_getElem? (i := 803) (by decide +kernel)) (by decide +kernel)
theorem tw_444 : Cond.constant RX7 57 (-1000000001) ∈ Tg := tg_tab (List.mem_of_getElem? (i := 886) (by decide +kernel)) (by decide +kernel)
theorem tw_445 : Cond.methodLink RX7 58 yX7_in ∈ Tg := tg_tab (List.mem_of_getElem? (i := 880) (by decide +kernel)) (by decide +kernel)
theorem tw_446 : Cond.initialized RX7 ∈ Tg := tg_tab (List.mem_of_getElem? (i := 8) (by decide +kernel)) (by decide +kernel)
theorem tw_447 : Cond.code yX7_in cX7_in 3 (some .boolean) ∈ Tg := tg_tab (List.mem_of_getElem? (i := 882) (by decide +kernel)) (by decide +kernel)
theorem tw_448 : Cond.static yX7_in ∈ Tg := tg_tab (List.mem_of_getElem? (i := 881) (by decide +kernel)) (by decide +kernel)
theorem tw_449 : Cond.fieldLink RX7 7 "WallDownModel" "row" "[I" ∈ Tg := tg_tab (List.mem_of_getElem? (i := 802) (by decide +kernel)) (by decide +kernel)
theorem tw_450 : Cond.methodLink RX7 66 yX7_many ∈ Tg := tg_tab (List.mem_of_getElem? (i := 891) (by decide +kernel)) (by decide +kernel)
theorem tw_451 : Cond.code yX7_many cX7_many 2 (some .int) ∈ Tg := tg_tab (List.mem_of_getElem? (i := 894) (by decide +kernel)) (by decide +kernel)
theorem tw_452 : Cond.instanceMethod yX7_many ∈ Tg := tg_tab (List.mem_of_getElem? (i := 893) (by decide +kernel)) (by decide +kernel)
theorem tw_453 : Cond.selects RX7 yX7_many yX7_many ∈ Tg := tg_in (List.mem_of_getElem? (i := 20) (by decide +kernel)) (by decide +kernel)
theorem tw_454 : Cond.methodLink RX7 62 yX7_isWall ∈ Tg := tg_tab (List.mem_of_getElem? (i := 883) (by decide +kernel)) (by decide +kernel)
theorem tw_455 : Cond.code yX7_isWall cX7_isWall 1 (some .boolean) ∈ Tg := tg_tab (List.mem_of_getElem? (i := 885) (by decide +kernel)) (by decide +kernel)
theorem tw_456 : Cond.static yX7_isWall ∈ Tg := tg_tab (List.mem_of_getElem? (i := 884) (by decide +kernel)) (by decide +kernel)
theorem tw_457 : Cond.methodLink RX7 70 yX7_at ∈ Tg := tg_tab (List.mem_of_getElem? (i := 900) (by decide +kernel)) (by decide +kernel)
theorem tw_458 : Cond.code yX7_at cX7_at 3 (some .int) ∈ Tg := tg_tab (List.mem_of_getElem? (i := 902) (by decide +kernel)) (by decide +kernel)
theorem tw_459 : Cond.static yX7_at ∈ Tg := tg_tab (List.mem_of_getElem? (i := 901) (by decide +kernel)) (by decide +kernel)
theorem tw_460 : Cond.methodLink RX7 74 yX7_its ∈ Tg := tg_tab (List.mem_of_getElem? (i := 915) (by decide +kernel)) (by decide +kernel)
theorem tw_461 : Cond.code yX7_its cX7_its 4 (some .int) ∈ Tg := tg_tab (List.mem_of_getElem? (i := 918) (by decide +kernel)) (by decide +kernel)
theorem tw_462 : Cond.instanceMethod yX7_its ∈ Tg := tg_tab (List.mem_of_getElem? (i := 917) (by decide +kernel)) (by decide +kernel)
theorem tw_463 : Cond.selects RX7 yX7_its yX7_its ∈ Tg := tg_in (List.mem_of_getElem? (i := 24) (by decide +kernel)) (by decide +kernel)
theorem tw_464 : Cond.methodLink RX7 77 yX7_left ∈ Tg := tg_tab (List.mem_of_getElem? (i := 939) (by decide +kernel)) (by decide +kernel)
theorem tw_465 : Cond.code yX7_left cX7_left 2 (some .int) ∈ Tg := tg_tab (List.mem_of_getElem? (i := 941) (by decide +kernel)) (by decide +kernel)
theorem tw_466 : Cond.static yX7_left ∈ Tg := tg_tab (List.mem_of_getElem? (i := 940) (by decide +kernel)) (by decide +kernel)
theorem tw_467 : Cond.fieldLink RX7 16 "WallDownModel" "top" "[I" ∈ Tg := tg_tab (List.mem_of_getElem? (i := 804) (by decide +kernel)) (by decide +kernel)
theorem tw_468 : Cond.methodLink RX7 81 yX7_tall ∈ Tg := tg_tab (List.mem_of_getElem? (i := 911) (by decide +kernel)) (by decide +kernel)
theorem tw_469 : Cond.code yX7_tall cX7_tall 6 (some .int) ∈ Tg := tg_tab (List.mem_of_getElem? (i := 914) (by decide +kernel)) (by decide +kernel)
theorem tw_470 : Cond.instanceMethod yX7_tall ∈ Tg := tg_tab (List.mem_of_getElem? (i := 913) (by decide +kernel)) (by decide +kernel)
theorem tw_471 : Cond.selects RX7 yX7_tall yX7_tall ∈ Tg := tg_in (List.mem_of_getElem? (i := 23) (by decide +kernel)) (by decide +kernel)
theorem tw_472 : Cond.fieldLink RX7 19 "WallDownModel" "paid" "[I" ∈ Tg := tg_tab (List.mem_of_getElem? (i := 805) (by decide +kernel)) (by decide +kernel)
theorem tw_473 : Cond.methodLink RX7 84 yX7_coin ∈ Tg := tg_tab (List.mem_of_getElem? (i := 919) (by decide +kernel)) (by decide +kernel)
theorem tw_474 : Cond.code yX7_coin cX7_coin 4 (some .int) ∈ Tg := tg_tab (List.mem_of_getElem? (i := 922) (by decide +kernel)) (by decide +kernel)
theorem tw_475 : Cond.instanceMethod yX7_coin ∈ Tg := tg_tab (List.mem_of_getElem? (i := 921) (by decide +kernel)) (by decide +kernel)
theorem tw_476 : Cond.selects RX7 yX7_coin yX7_coin ∈ Tg := tg_in (List.mem_of_getElem? (i := 25) (by decide +kernel)) (by decide +kernel)
theorem tw_477 : Cond.methodLink RX7 87 yX7_topIn ∈ Tg := tg_tab (List.mem_of_getElem? (i := 998) (by decide +kernel)) (by decide +kernel)
theorem tw_478 : Cond.code yX7_topIn cX7_topIn 3 (some .int) ∈ Tg := tg_tab (List.mem_of_getElem? (i := 1001) (by decide +kernel)) (by decide +kernel)
theorem tw_479 : Cond.instanceMethod yX7_topIn ∈ Tg := tg_tab (List.mem_of_getElem? (i := 1000) (by decide +kernel)) (by decide +kernel)
theorem tw_480 : Cond.selects RX7 yX7_topIn yX7_topIn ∈ Tg := tg_in (List.mem_of_getElem? (i := 33) (by decide +kernel)) (by decide +kernel)
theorem tw_481 : Cond.methodLink RX7 93 yX7_unlikeAt ∈ Tg := tg_tab (List.mem_of_getElem? (i := 994) (by decide +kernel)) (by decide +kernel)
theorem tw_482 : Cond.code yX7_unlikeAt cX7_unlikeAt 4 (some .int) ∈ Tg := tg_tab (List.mem_of_getElem? (i := 997) (by decide +kernel)) (by decide +kernel)
theorem tw_483 : Cond.instanceMethod yX7_unlikeAt ∈ Tg := tg_tab (List.mem_of_getElem? (i := 996) (by decide +kernel)) (by decide +kernel)
theorem tw_484 : Cond.selects RX7 yX7_unlikeAt yX7_unlikeAt ∈ Tg := tg_in (List.mem_of_getElem? (i := 32) (by decide +kernel)) (by decide +kernel)
theorem tw_485 : Cond.methodLink RX7 90 yX7_lies ∈ Tg := tg_tab (List.mem_of_getElem? (i := 970) (by decide +kernel)) (by decide +kernel)
theorem tw_486 : Cond.code yX7_lies cX7_lies 2 (some .boolean) ∈ Tg := tg_tab (List.mem_of_getElem? (i := 973) (by decide +kernel)) (by decide +kernel)
theorem tw_487 : Cond.instanceMethod yX7_lies ∈ Tg := tg_tab (List.mem_of_getElem? (i := 972) (by decide +kernel)) (by decide +kernel)
theorem tw_488 : Cond.selects RX7 yX7_lies yX7_lies ∈ Tg := tg_in (List.mem_of_getElem? (i := 29) (by decide +kernel)) (by decide +kernel)
theorem tw_489 : Cond.methodLink RX7 99 yX7_isSafe ∈ Tg := tg_tab (List.mem_of_getElem? (i := 1014) (by decide +kernel)) (by decide +kernel)
theorem tw_490 : Cond.code yX7_isSafe cX7_isSafe 4 (some .boolean) ∈ Tg := tg_tab (List.mem_of_getElem? (i := 1017) (by decide +kernel)) (by decide +kernel)
theorem tw_491 : Cond.instanceMethod yX7_isSafe ∈ Tg := tg_tab (List.mem_of_getElem? (i := 1016) (by decide +kernel)) (by decide +kernel)
theorem tw_492 : Cond.selects RX7 yX7_isSafe yX7_isSafe ∈ Tg := tg_in (List.mem_of_getElem? (i := 36) (by decide +kernel)) (by decide +kernel)
theorem tw_493 : Cond.methodLink RX7 96 yX7_mayGo ∈ Tg := tg_tab (List.mem_of_getElem? (i := 935) (by decide +kernel)) (by decide +kernel)
theorem tw_494 : Cond.code yX7_mayGo cX7_mayGo 8 (some .boolean) ∈ Tg := tg_tab (List.mem_of_getElem? (i := 938) (by decide +kernel)) (by decide +kernel)
theorem tw_495 : Cond.instanceMethod yX7_mayGo ∈ Tg := tg_tab (List.mem_of_getElem? (i := 937) (by decide +kernel)) (by decide +kernel)
theorem tw_496 : Cond.selects RX7 yX7_mayGo yX7_mayGo ∈ Tg := tg_in (List.mem_of_getElem? (i := 28) (by decide +kernel)) (by decide +kernel)
theorem tw_497 : Cond.methodLink RX7 105 yX7_finds ∈ Tg := tg_tab (List.mem_of_getElem? (i := 887) (by decide +kernel)) (by decide +kernel)
theorem tw_498 : Cond.code yX7_finds cX7_finds 2 (some .int) ∈ Tg := tg_tab (List.mem_of_getElem? (i := 890) (by decide +kernel)) (by decide +kernel)
theorem tw_499 : Cond.instanceMethod yX7_finds ∈ Tg := tg_tab (List.mem_of_getElem? (i := 889) (by decide +kernel)) (by decide +kernel)
theorem tw_500 : Cond.selects RX7 yX7_finds yX7_finds ∈ Tg := tg_in (List.mem_of_getElem? (i := 19) (by decide +kernel)) (by decide +kernel)
theorem tw_501 : Cond.methodLink RX7 109 yX7_addStone ∈ Tg := tg_tab (List.mem_of_getElem? (i := 896) (by decide +kernel)) (by decide +kernel)
theorem tw_502 : Cond.code yX7_addStone cX7_addStone 6 none ∈ Tg := tg_tab (List.mem_of_getElem? (i := 899) (by decide +kernel)) (by decide +kernel)
theorem tw_503 : Cond.instanceMethod yX7_addStone ∈ Tg := tg_tab (List.mem_of_getElem? (i := 898) (by decide +kernel)) (by decide +kernel)
theorem tw_504 : Cond.selects RX7 yX7_addStone yX7_addStone ∈ Tg := tg_in (List.mem_of_getElem? (i := 21) (by decide +kernel)) (by decide +kernel)
theorem tw_505 : Cond.constant RX7 108 (-1000000002) ∈ Tg := tg_tab (List.mem_of_getElem? (i := 895) (by decide +kernel)) (by decide +kernel)
theorem tw_506 : Cond.methodLink RX7 102 yX7_isKind ∈ Tg := tg_tab (List.mem_of_getElem? (i := 877) (by decide +kernel)) (by decide +kernel)
theorem tw_507 : Cond.code yX7_isKind cX7_isKind 1 (some .boolean) ∈ Tg := tg_tab (List.mem_of_getElem? (i := 879) (by decide +kernel)) (by decide +kernel)
theorem tw_508 : Cond.static yX7_isKind ∈ Tg := tg_tab (List.mem_of_getElem? (i := 878) (by decide +kernel)) (by decide +kernel)
theorem tw_509 : Cond.methodLink RX7 113 yX7_findTops ∈ Tg := tg_tab (List.mem_of_getElem? (i := 907) (by decide +kernel)) (by decide +kernel)
theorem tw_510 : Cond.code yX7_findTops cX7_findTops 4 none ∈ Tg := tg_tab (List.mem_of_getElem? (i := 910) (by decide +kernel)) (by decide +kernel)
theorem tw_511 : Cond.instanceMethod yX7_findTops ∈ Tg := tg_tab (List.mem_of_getElem? (i := 909) (by decide +kernel)) (by decide +kernel)
theorem tw_512 : Cond.selects RX7 yX7_findTops yX7_findTops ∈ Tg := tg_in (List.mem_of_getElem? (i := 22) (by decide +kernel)) (by decide +kernel)
theorem tw_513 : Cond.methodLink RX7 120 yX7_standNow ∈ Tg := tg_tab (List.mem_of_getElem? (i := 931) (by decide +kernel)) (by decide +kernel)
theorem tw_514 : Cond.code yX7_standNow cX7_standNow 3 (some .int) ∈ Tg := tg_tab (List.mem_of_getElem? (i := 934) (by decide +kernel)) (by decide +kernel)
theorem tw_515 : Cond.instanceMethod yX7_standNow ∈ Tg := tg_tab (List.mem_of_getElem? (i := 933) (by decide +kernel)) (by decide +kernel)
theorem tw_516 : Cond.selects RX7 yX7_standNow yX7_standNow ∈ Tg := tg_in (List.mem_of_getElem? (i := 27) (by decide +kernel)) (by decide +kernel)
theorem tw_517 : Cond.methodLink RX7 116 yX7_isStone ∈ Tg := tg_tab (List.mem_of_getElem? (i := 927) (by decide +kernel)) (by decide +kernel)
theorem tw_518 : Cond.code yX7_isStone cX7_isStone 3 (some .boolean) ∈ Tg := tg_tab (List.mem_of_getElem? (i := 930) (by decide +kernel)) (by decide +kernel)
theorem tw_519 : Cond.instanceMethod yX7_isStone ∈ Tg := tg_tab (List.mem_of_getElem? (i := 929) (by decide +kernel)) (by decide +kernel)
theorem tw_520 : Cond.selects RX7 yX7_isStone yX7_isStone ∈ Tg := tg_in (List.mem_of_getElem? (i := 26) (by decide +kernel)) (by decide +kernel)
theorem tw_521 : Cond.constant RX7 127 (-1000000003) ∈ Tg := tg_tab (List.mem_of_getElem? (i := 957) (by decide +kernel)) (by decide +kernel)
theorem tw_522 : Cond.methodLink RX7 124 yX7_isUnder ∈ Tg := tg_tab (List.mem_of_getElem? (i := 954) (by decide +kernel)) (by decide +kernel)
theorem tw_523 : Cond.code yX7_isUnder cX7_isUnder 2 (some .boolean) ∈ Tg := tg_tab (List.mem_of_getElem? (i := 956) (by decide +kernel)) (by decide +kernel)
theorem tw_524 : Cond.static yX7_isUnder ∈ Tg := tg_tab (List.mem_of_getElem? (i := 955) (by decide +kernel)) (by decide +kernel)
theorem tw_525 : Cond.methodLink RX7 129 yX7_allTops ∈ Tg := tg_tab (List.mem_of_getElem? (i := 979) (by decide +kernel)) (by decide +kernel)
theorem tw_526 : Cond.code yX7_allTops cX7_allTops 3 (some .int) ∈ Tg := tg_tab (List.mem_of_getElem? (i := 982) (by decide +kernel)) (by decide +kernel)
theorem tw_527 : Cond.instanceMethod yX7_allTops ∈ Tg := tg_tab (List.mem_of_getElem? (i := 981) (by decide +kernel)) (by decide +kernel)
theorem tw_528 : Cond.selects RX7 yX7_allTops yX7_allTops ∈ Tg := tg_in (List.mem_of_getElem? (i := 30) (by decide +kernel)) (by decide +kernel)
theorem tw_529 : Cond.constant RX7 128 (-1000000005) ∈ Tg := tg_tab (List.mem_of_getElem? (i := 978) (by decide +kernel)) (by decide +kernel)
theorem tw_530 : Cond.methodLink RX7 132 yX7_stones ∈ Tg := tg_tab (List.mem_of_getElem? (i := 987) (by decide +kernel)) (by decide +kernel)
theorem tw_531 : Cond.code yX7_stones cX7_stones 1 (some .int) ∈ Tg := tg_tab (List.mem_of_getElem? (i := 989) (by decide +kernel)) (by decide +kernel)
theorem tw_532 : Cond.static yX7_stones ∈ Tg := tg_tab (List.mem_of_getElem? (i := 988) (by decide +kernel)) (by decide +kernel)
theorem tw_533 : Cond.methodLink RX7 135 yX7_mostUnlike ∈ Tg := tg_tab (List.mem_of_getElem? (i := 990) (by decide +kernel)) (by decide +kernel)
theorem tw_534 : Cond.code yX7_mostUnlike cX7_mostUnlike 4 (some .int) ∈ Tg := tg_tab (List.mem_of_getElem? (i := 993) (by decide +kernel)) (by decide +kernel)
theorem tw_535 : Cond.instanceMethod yX7_mostUnlike ∈ Tg := tg_tab (List.mem_of_getElem? (i := 992) (by decide +kernel)) (by decide +kernel)
theorem tw_536 : Cond.selects RX7 yX7_mostUnlike yX7_mostUnlike ∈ Tg := tg_in (List.mem_of_getElem? (i := 31) (by decide +kernel)) (by decide +kernel)
theorem tw_537 : Cond.constant RX7 138 (999999) ∈ Tg := tg_tab (List.mem_of_getElem? (i := 1022) (by decide +kernel)) (by decide +kernel)
theorem tw_538 : Cond.methodLink RX7 139 yX7_canPull ∈ Tg := tg_tab (List.mem_of_getElem? (i := 1010) (by decide +kernel)) (by decide +kernel)
theorem tw_539 : Cond.code yX7_canPull cX7_canPull 4 (some .boolean) ∈ Tg := tg_tab (List.mem_of_getElem? (i := 1013) (by decide +kernel)) (by decide +kernel)
theorem tw_540 : Cond.instanceMethod yX7_canPull ∈ Tg := tg_tab (List.mem_of_getElem? (i := 1012) (by decide +kernel)) (by decide +kernel)
theorem tw_541 : Cond.selects RX7 yX7_canPull yX7_canPull ∈ Tg := tg_in (List.mem_of_getElem? (i := 35) (by decide +kernel)) (by decide +kernel)
theorem tw_542 : Cond.methodLink RX7 145 yX7_takeOut ∈ Tg := tg_tab (List.mem_of_getElem? (i := 1018) (by decide +kernel)) (by decide +kernel)
theorem tw_543 : Cond.code yX7_takeOut cX7_takeOut 4 none ∈ Tg := tg_tab (List.mem_of_getElem? (i := 1021) (by decide +kernel)) (by decide +kernel)
theorem tw_544 : Cond.instanceMethod yX7_takeOut ∈ Tg := tg_tab (List.mem_of_getElem? (i := 1020) (by decide +kernel)) (by decide +kernel)
theorem tw_545 : Cond.selects RX7 yX7_takeOut yX7_takeOut ∈ Tg := tg_in (List.mem_of_getElem? (i := 37) (by decide +kernel)) (by decide +kernel)
theorem tw_546 : Cond.methodLink RX7 142 yX7_canPullNow ∈ Tg := tg_tab (List.mem_of_getElem? (i := 1006) (by decide +kernel)) (by decide +kernel)
theorem tw_547 : Cond.code yX7_canPullNow cX7_canPullNow 2 (some .boolean) ∈ Tg := tg_tab (List.mem_of_getElem? (i := 1009) (by decide +kernel)) (by decide +kernel)
theorem tw_548 : Cond.instanceMethod yX7_canPullNow ∈ Tg := tg_tab (List.mem_of_getElem? (i := 1008) (by decide +kernel)) (by decide +kernel)
theorem tw_549 : Cond.selects RX7 yX7_canPullNow yX7_canPullNow ∈ Tg := tg_in (List.mem_of_getElem? (i := 34) (by decide +kernel)) (by decide +kernel)
theorem tw_550 : Cond.fieldLink RX7 26 "WallDownModel" "goes" "[I" ∈ Tg := tg_tab (List.mem_of_getElem? (i := 807) (by decide +kernel)) (by decide +kernel)
theorem tw_551 : Cond.methodLink RX7 149 yX7_isStand ∈ Tg := tg_tab (List.mem_of_getElem? (i := 1031) (by decide +kernel)) (by decide +kernel)
theorem tw_552 : Cond.code yX7_isStand cX7_isStand 4 (some .boolean) ∈ Tg := tg_tab (List.mem_of_getElem? (i := 1034) (by decide +kernel)) (by decide +kernel)
theorem tw_553 : Cond.instanceMethod yX7_isStand ∈ Tg := tg_tab (List.mem_of_getElem? (i := 1033) (by decide +kernel)) (by decide +kernel)
theorem tw_554 : Cond.selects RX7 yX7_isStand yX7_isStand ∈ Tg := tg_in (List.mem_of_getElem? (i := 38) (by decide +kernel)) (by decide +kernel)
theorem tw_555 : Cond.fieldLink RX7 22 "WallDownModel" "rows" "[J" ∈ Tg := tg_tab (List.mem_of_getElem? (i := 806) (by decide +kernel)) (by decide +kernel)
theorem tw_556 : Cond.methodLink RX7 155 yX7_countRows ∈ Tg := tg_tab (List.mem_of_getElem? (i := 1043) (by decide +kernel)) (by decide +kernel)
theorem tw_557 : Cond.code yX7_countRows cX7_countRows 4 none ∈ Tg := tg_tab (List.mem_of_getElem? (i := 1046) (by decide +kernel)) (by decide +kernel)
theorem tw_558 : Cond.instanceMethod yX7_countRows ∈ Tg := tg_tab (List.mem_of_getElem? (i := 1045) (by decide +kernel)) (by decide +kernel)
theorem tw_559 : Cond.selects RX7 yX7_countRows yX7_countRows ∈ Tg := tg_in (List.mem_of_getElem? (i := 41) (by decide +kernel)) (by decide +kernel)
theorem tw_560 : Cond.methodLink RX7 152 yX7_findGoes ∈ Tg := tg_tab (List.mem_of_getElem? (i := 1039) (by decide +kernel)) (by decide +kernel)
theorem tw_561 : Cond.code yX7_findGoes cX7_findGoes 4 none ∈ Tg := tg_tab (List.mem_of_getElem? (i := 1042) (by decide +kernel)) (by decide +kernel)
theorem tw_562 : Cond.instanceMethod yX7_findGoes ∈ Tg := tg_tab (List.mem_of_getElem? (i := 1041) (by decide +kernel)) (by decide +kernel)
theorem tw_563 : Cond.selects RX7 yX7_findGoes yX7_findGoes ∈ Tg := tg_in (List.mem_of_getElem? (i := 40) (by decide +kernel)) (by decide +kernel)
theorem tw_564 : Cond.methodLink RX7 158 yX7_findRows ∈ Tg := tg_tab (List.mem_of_getElem? (i := 1035) (by decide +kernel)) (by decide +kernel)
theorem tw_565 : Cond.code yX7_findRows cX7_findRows 1 none ∈ Tg := tg_tab (List.mem_of_getElem? (i := 1038) (by decide +kernel)) (by decide +kernel)
theorem tw_566 : Cond.instanceMethod yX7_findRows ∈ Tg := tg_tab (List.mem_of_getElem? (i := 1037) (by decide +kernel)) (by decide +kernel)
theorem tw_567 : Cond.selects RX7 yX7_findRows yX7_findRows ∈ Tg := tg_in (List.mem_of_getElem? (i := 39) (by decide +kernel)) (by decide +kernel)
theorem tw_568 : Cond.methodLink RX7 161 yX7_howManyNow ∈ Tg := tg_tab (List.mem_of_getElem? (i := 1055) (by decide +kernel)) (by decide +kernel)
theorem tw_569 : Cond.code yX7_howManyNow cX7_howManyNow 3 (some .int) ∈ Tg := tg_tab (List.mem_of_getElem? (i := 1058) (by decide +kernel)) (by decide +kernel)
theorem tw_570 : Cond.instanceMethod yX7_howManyNow ∈ Tg := tg_tab (List.mem_of_getElem? (i := 1057) (by decide +kernel)) (by decide +kernel)
theorem tw_571 : Cond.selects RX7 yX7_howManyNow yX7_howManyNow ∈ Tg := tg_in (List.mem_of_getElem? (i := 43) (by decide +kernel)) (by decide +kernel)
theorem tw_572 : Cond.methodLink RX7 164 yX7_howMany ∈ Tg := tg_tab (List.mem_of_getElem? (i := 1051) (by decide +kernel)) (by decide +kernel)
theorem tw_573 : Cond.code yX7_howMany cX7_howMany 1 (some .int) ∈ Tg := tg_tab (List.mem_of_getElem? (i := 1054) (by decide +kernel)) (by decide +kernel)
theorem tw_574 : Cond.instanceMethod yX7_howMany ∈ Tg := tg_tab (List.mem_of_getElem? (i := 1053) (by decide +kernel)) (by decide +kernel)
theorem tw_575 : Cond.selects RX7 yX7_howMany yX7_howMany ∈ Tg := tg_in (List.mem_of_getElem? (i := 42) (by decide +kernel)) (by decide +kernel)
theorem tw_576 : Cond.fieldLink RX7 29 "WallDownModel" "leads" "[Z" ∈ Tg := tg_tab (List.mem_of_getElem? (i := 808) (by decide +kernel)) (by decide +kernel)
theorem tw_577 : Cond.constant RX7 170 (-1000000004) ∈ Tg := tg_tab (List.mem_of_getElem? (i := 1075) (by decide +kernel)) (by decide +kernel)
theorem tw_578 : Cond.methodLink RX7 171 yX7_firstFrom ∈ Tg := tg_tab (List.mem_of_getElem? (i := 1076) (by decide +kernel)) (by decide +kernel)
theorem tw_579 : Cond.code yX7_firstFrom cX7_firstFrom 3 (some .int) ∈ Tg := tg_tab (List.mem_of_getElem? (i := 1079) (by decide +kernel)) (by decide +kernel)
theorem tw_580 : Cond.instanceMethod yX7_firstFrom ∈ Tg := tg_tab (List.mem_of_getElem? (i := 1078) (by decide +kernel)) (by decide +kernel)
theorem tw_581 : Cond.selects RX7 yX7_firstFrom yX7_firstFrom ∈ Tg := tg_in (List.mem_of_getElem? (i := 45) (by decide +kernel)) (by decide +kernel)
theorem tw_582 : Cond.methodLink RX7 167 yX7_findLeads ∈ Tg := tg_tab (List.mem_of_getElem? (i := 1071) (by decide +kernel)) (by decide +kernel)
theorem tw_583 : Cond.code yX7_findLeads cX7_findLeads 5 none ∈ Tg := tg_tab (List.mem_of_getElem? (i := 1074) (by decide +kernel)) (by decide +kernel)
theorem tw_584 : Cond.instanceMethod yX7_findLeads ∈ Tg := tg_tab (List.mem_of_getElem? (i := 1073) (by decide +kernel)) (by decide +kernel)
theorem tw_585 : Cond.selects RX7 yX7_findLeads yX7_findLeads ∈ Tg := tg_in (List.mem_of_getElem? (i := 44) (by decide +kernel)) (by decide +kernel)
theorem tw_586 : Cond.fieldLink RX7 33 "WallDownModel" "need" "[I" ∈ Tg := tg_tab (List.mem_of_getElem? (i := 809) (by decide +kernel)) (by decide +kernel)
theorem tw_587 : Cond.methodLink RX7 174 yX7_widest ∈ Tg := tg_tab (List.mem_of_getElem? (i := 1092) (by decide +kernel)) (by decide +kernel)
theorem tw_588 : Cond.code yX7_widest cX7_widest 4 (some .int) ∈ Tg := tg_tab (List.mem_of_getElem? (i := 1095) (by decide +kernel)) (by decide +kernel)
theorem tw_589 : Cond.instanceMethod yX7_widest ∈ Tg := tg_tab (List.mem_of_getElem? (i := 1094) (by decide +kernel)) (by decide +kernel)
theorem tw_590 : Cond.selects RX7 yX7_widest yX7_widest ∈ Tg := tg_in (List.mem_of_getElem? (i := 47) (by decide +kernel)) (by decide +kernel)
theorem tw_591 : Cond.methodLink RX7 177 yX7_slackTo ∈ Tg := tg_tab (List.mem_of_getElem? (i := 1088) (by decide +kernel)) (by decide +kernel)
theorem tw_592 : Cond.code yX7_slackTo cX7_slackTo 7 (some .int) ∈ Tg := tg_tab (List.mem_of_getElem? (i := 1091) (by decide +kernel)) (by decide +kernel)
theorem tw_593 : Cond.instanceMethod yX7_slackTo ∈ Tg := tg_tab (List.mem_of_getElem? (i := 1090) (by decide +kernel)) (by decide +kernel)
theorem tw_594 : Cond.selects RX7 yX7_slackTo yX7_slackTo ∈ Tg := tg_in (List.mem_of_getElem? (i := 46) (by decide +kernel)) (by decide +kernel)
theorem tw_595 : Cond.methodLink RX7 183 yX7_paidIn ∈ Tg := tg_tab (List.mem_of_getElem? (i := 1112) (by decide +kernel)) (by decide +kernel)
theorem tw_596 : Cond.code yX7_paidIn cX7_paidIn 4 (some .int) ∈ Tg := tg_tab (List.mem_of_getElem? (i := 1115) (by decide +kernel)) (by decide +kernel)
theorem tw_597 : Cond.instanceMethod yX7_paidIn ∈ Tg := tg_tab (List.mem_of_getElem? (i := 1114) (by decide +kernel)) (by decide +kernel)
theorem tw_598 : Cond.selects RX7 yX7_paidIn yX7_paidIn ∈ Tg := tg_in (List.mem_of_getElem? (i := 50) (by decide +kernel)) (by decide +kernel)
theorem tw_599 : Cond.methodLink RX7 180 yX7_richestNow ∈ Tg := tg_tab (List.mem_of_getElem? (i := 1108) (by decide +kernel)) (by decide +kernel)
theorem tw_600 : Cond.code yX7_richestNow cX7_richestNow 6 (some .int) ∈ Tg := tg_tab (List.mem_of_getElem? (i := 1111) (by decide +kernel)) (by decide +kernel)
theorem tw_601 : Cond.instanceMethod yX7_richestNow ∈ Tg := tg_tab (List.mem_of_getElem? (i := 1110) (by decide +kernel)) (by decide +kernel)
theorem tw_602 : Cond.selects RX7 yX7_richestNow yX7_richestNow ∈ Tg := tg_in (List.mem_of_getElem? (i := 49) (by decide +kernel)) (by decide +kernel)
theorem tw_603 : Cond.methodLink RX7 186 yX7_richest ∈ Tg := tg_tab (List.mem_of_getElem? (i := 1104) (by decide +kernel)) (by decide +kernel)
theorem tw_604 : Cond.code yX7_richest cX7_richest 2 (some .int) ∈ Tg := tg_tab (List.mem_of_getElem? (i := 1107) (by decide +kernel)) (by decide +kernel)
theorem tw_605 : Cond.instanceMethod yX7_richest ∈ Tg := tg_tab (List.mem_of_getElem? (i := 1106) (by decide +kernel)) (by decide +kernel)
theorem tw_606 : Cond.selects RX7 yX7_richest yX7_richest ∈ Tg := tg_in (List.mem_of_getElem? (i := 48) (by decide +kernel)) (by decide +kernel)
theorem tw_607 : Cond.fieldLink RX7 189 "WallDownModel" "tapeMany" "I" ∈ Tg := tg_tab (List.mem_of_getElem? (i := 811) (by decide +kernel)) (by decide +kernel)
theorem tw_608 : Cond.fieldLink RX7 36 "WallDownModel" "tape" "[I" ∈ Tg := tg_tab (List.mem_of_getElem? (i := 810) (by decide +kernel)) (by decide +kernel)
theorem tw_609 : Cond.fieldLink RX7 193 "WallDownModel" "tokenEnds" "I" ∈ Tg := tg_tab (List.mem_of_getElem? (i := 814) (by decide +kernel)) (by decide +kernel)
theorem tw_610 : Cond.fieldLink RX7 196 "WallDownModel" "begins" "I" ∈ Tg := tg_tab (List.mem_of_getElem? (i := 813) (by decide +kernel)) (by decide +kernel)
theorem tw_611 : Cond.methodLink RX7 199 yX7_byteAt ∈ Tg := tg_tab (List.mem_of_getElem? (i := 1164) (by decide +kernel)) (by decide +kernel)
theorem tw_612 : Cond.code yX7_byteAt cX7_byteAt 2 (some .int) ∈ Tg := tg_tab (List.mem_of_getElem? (i := 1167) (by decide +kernel)) (by decide +kernel)
theorem tw_613 : Cond.instanceMethod yX7_byteAt ∈ Tg := tg_tab (List.mem_of_getElem? (i := 1166) (by decide +kernel)) (by decide +kernel)
theorem tw_614 : Cond.selects RX7 yX7_byteAt yX7_byteAt ∈ Tg := tg_in (List.mem_of_getElem? (i := 53) (by decide +kernel)) (by decide +kernel)
theorem tw_615 : Cond.fieldLink RX7 208 "WallDownModel" "sort" "I" ∈ Tg := tg_tab (List.mem_of_getElem? (i := 812) (by decide +kernel)) (by decide +kernel)
theorem tw_616 : Cond.fieldLink RX7 211 "WallDownModel" "word" "J" ∈ Tg := tg_tab (List.mem_of_getElem? (i := 815) (by decide +kernel)) (by decide +kernel)
theorem tw_617 : Cond.fieldLink RX7 215 "WallDownModel" "value" "I" ∈ Tg := tg_tab (List.mem_of_getElem? (i := 816) (by decide +kernel)) (by decide +kernel)
theorem tw_618 : Cond.constantLong RX7 222 (-1) ∈ Tg := tg_tab (List.mem_of_getElem? (i := 1176) (by decide +kernel)) (by decide +kernel)
theorem tw_619 : Cond.constantLong RX7 218 (27) ∈ Tg := tg_tab (List.mem_of_getElem? (i := 1174) (by decide +kernel)) (by decide +kernel)
theorem tw_620 : Cond.constantLong RX7 220 (96) ∈ Tg := tg_tab (List.mem_of_getElem? (i := 1175) (by decide +kernel)) (by decide +kernel)
theorem tw_621 : Cond.methodLink RX7 202 yX7_isLetter ∈ Tg := tg_tab (List.mem_of_getElem? (i := 1168) (by decide +kernel)) (by decide +kernel)
theorem tw_622 : Cond.code yX7_isLetter cX7_isLetter 1 (some .boolean) ∈ Tg := tg_tab (List.mem_of_getElem? (i := 1170) (by decide +kernel)) (by decide +kernel)
theorem tw_623 : Cond.static yX7_isLetter ∈ Tg := tg_tab (List.mem_of_getElem? (i := 1169) (by decide +kernel)) (by decide +kernel)
theorem tw_624 : Cond.methodLink RX7 205 yX7_isDigit ∈ Tg := tg_tab (List.mem_of_getElem? (i := 1171) (by decide +kernel)) (by decide +kernel)
theorem tw_625 : Cond.code yX7_isDigit cX7_isDigit 1 (some .boolean) ∈ Tg := tg_tab (List.mem_of_getElem? (i := 1173) (by decide +kernel)) (by decide +kernel)
theorem tw_626 : Cond.static yX7_isDigit ∈ Tg := tg_tab (List.mem_of_getElem? (i := 1172) (by decide +kernel)) (by decide +kernel)
theorem tw_627 : Cond.constantLong RX7 224 (10502357) ∈ Tg := tg_tab (List.mem_of_getElem? (i := 1185) (by decide +kernel)) (by decide +kernel)
theorem tw_628 : Cond.constantLong RX7 230 (8179) ∈ Tg := tg_tab (List.mem_of_getElem? (i := 1190) (by decide +kernel)) (by decide +kernel)
theorem tw_629 : Cond.constantLong RX7 232 (266660330) ∈ Tg := tg_tab (List.mem_of_getElem? (i := 1191) (by decide +kernel)) (by decide +kernel)
theorem tw_630 : Cond.constantLong RX7 234 (7873077725) ∈ Tg := tg_tab (List.mem_of_getElem? (i := 1192) (by decide +kernel)) (by decide +kernel)
theorem tw_631 : Cond.constantLong RX7 236 (43948633) ∈ Tg := tg_tab (List.mem_of_getElem? (i := 1193) (by decide +kernel)) (by decide +kernel)
theorem tw_632 : Cond.constantLong RX7 238 (3217595) ∈ Tg := tg_tab (List.mem_of_getElem? (i := 1194) (by decide +kernel)) (by decide +kernel)
theorem tw_633 : Cond.methodLink RX7 226 yX7_isWord ∈ Tg := tg_tab (List.mem_of_getElem? (i := 1186) (by decide +kernel)) (by decide +kernel)
theorem tw_634 : Cond.code yX7_isWord cX7_isWord 3 (some .boolean) ∈ Tg := tg_tab (List.mem_of_getElem? (i := 1189) (by decide +kernel)) (by decide +kernel)
theorem tw_635 : Cond.instanceMethod yX7_isWord ∈ Tg := tg_tab (List.mem_of_getElem? (i := 1188) (by decide +kernel)) (by decide +kernel)
theorem tw_636 : Cond.selects RX7 yX7_isWord yX7_isWord ∈ Tg := tg_in (List.mem_of_getElem? (i := 56) (by decide +kernel)) (by decide +kernel)
theorem tw_637 : Cond.fieldLink RX7 240 "WallDownModel" "good" "Z" ∈ Tg := tg_tab (List.mem_of_getElem? (i := 817) (by decide +kernel)) (by decide +kernel)
theorem tw_638 : Cond.methodLink RX7 244 yX7_advance ∈ Tg := tg_tab (List.mem_of_getElem? (i := 1160) (by decide +kernel)) (by decide +kernel)
theorem tw_639 : Cond.code yX7_advance cX7_advance 2 none ∈ Tg := tg_tab (List.mem_of_getElem? (i := 1163) (by decide +kernel)) (by decide +kernel)
theorem tw_640 : Cond.instanceMethod yX7_advance ∈ Tg := tg_tab (List.mem_of_getElem? (i := 1162) (by decide +kernel)) (by decide +kernel)
theorem tw_641 : Cond.selects RX7 yX7_advance yX7_advance ∈ Tg := tg_in (List.mem_of_getElem? (i := 52) (by decide +kernel)) (by decide +kernel)
theorem tw_642 : Cond.methodLink RX7 247 yX7_wantNumber ∈ Tg := tg_tab (List.mem_of_getElem? (i := 1199) (by decide +kernel)) (by decide +kernel)
theorem tw_643 : Cond.code yX7_wantNumber cX7_wantNumber 4 (some .int) ∈ Tg := tg_tab (List.mem_of_getElem? (i := 1202) (by decide +kernel)) (by decide +kernel)
theorem tw_644 : Cond.instanceMethod yX7_wantNumber ∈ Tg := tg_tab (List.mem_of_getElem? (i := 1201) (by decide +kernel)) (by decide +kernel)
theorem tw_645 : Cond.selects RX7 yX7_wantNumber yX7_wantNumber ∈ Tg := tg_in (List.mem_of_getElem? (i := 58) (by decide +kernel)) (by decide +kernel)
theorem tw_646 : Cond.constantLong RX7 250 (164222) ∈ Tg := tg_tab (List.mem_of_getElem? (i := 1203) (by decide +kernel)) (by decide +kernel)
theorem tw_647 : Cond.constantLong RX7 256 (8863997) ∈ Tg := tg_tab (List.mem_of_getElem? (i := 1208) (by decide +kernel)) (by decide +kernel)
theorem tw_648 : Cond.methodLink RX7 252 yX7_mayWant ∈ Tg := tg_tab (List.mem_of_getElem? (i := 1204) (by decide +kernel)) (by decide +kernel)
theorem tw_649 : Cond.code yX7_mayWant cX7_mayWant 6 (some .int) ∈ Tg := tg_tab (List.mem_of_getElem? (i := 1207) (by decide +kernel)) (by decide +kernel)
theorem tw_650 : Cond.instanceMethod yX7_mayWant ∈ Tg := tg_tab (List.mem_of_getElem? (i := 1206) (by decide +kernel)) (by decide +kernel)
theorem tw_651 : Cond.selects RX7 yX7_mayWant yX7_mayWant ∈ Tg := tg_in (List.mem_of_getElem? (i := 59) (by decide +kernel)) (by decide +kernel)
theorem tw_652 : Cond.constantLong RX7 260 (11103) ∈ Tg := tg_tab (List.mem_of_getElem? (i := 1215) (by decide +kernel)) (by decide +kernel)
theorem tw_653 : Cond.constantLong RX7 258 (419) ∈ Tg := tg_tab (List.mem_of_getElem? (i := 1214) (by decide +kernel)) (by decide +kernel)
theorem tw_654 : Cond.constantLong RX7 268 (43051) ∈ Tg := tg_tab (List.mem_of_getElem? (i := 1209) (by decide +kernel)) (by decide +kernel)
theorem tw_655 : Cond.constantLong RX7 273 (12324668) ∈ Tg := tg_tab (List.mem_of_getElem? (i := 1216) (by decide +kernel)) (by decide +kernel)
theorem tw_656 : Cond.constantLong RX7 278 (10334396) ∈ Tg := tg_tab (List.mem_of_getElem? (i := 1221) (by decide +kernel)) (by decide +kernel)
theorem tw_657 : Cond.constantLong RX7 283 (330573) ∈ Tg := tg_tab (List.mem_of_getElem? (i := 1226) (by decide +kernel)) (by decide +kernel)
theorem tw_658 : Cond.methodLink RX7 285 yX7_wantPulls ∈ Tg := tg_tab (List.mem_of_getElem? (i := 1227) (by decide +kernel)) (by decide +kernel)
theorem tw_659 : Cond.code yX7_wantPulls cX7_wantPulls 2 none ∈ Tg := tg_tab (List.mem_of_getElem? (i := 1230) (by decide +kernel)) (by decide +kernel)
theorem tw_660 : Cond.instanceMethod yX7_wantPulls ∈ Tg := tg_tab (List.mem_of_getElem? (i := 1229) (by decide +kernel)) (by decide +kernel)
theorem tw_661 : Cond.selects RX7 yX7_wantPulls yX7_wantPulls ∈ Tg := tg_in (List.mem_of_getElem? (i := 63) (by decide +kernel)) (by decide +kernel)
theorem tw_662 : Cond.methodLink RX7 280 yX7_wantSlack ∈ Tg := tg_tab (List.mem_of_getElem? (i := 1222) (by decide +kernel)) (by decide +kernel)
theorem tw_663 : Cond.code yX7_wantSlack cX7_wantSlack 2 none ∈ Tg := tg_tab (List.mem_of_getElem? (i := 1225) (by decide +kernel)) (by decide +kernel)
theorem tw_664 : Cond.instanceMethod yX7_wantSlack ∈ Tg := tg_tab (List.mem_of_getElem? (i := 1224) (by decide +kernel)) (by decide +kernel)
theorem tw_665 : Cond.selects RX7 yX7_wantSlack yX7_wantSlack ∈ Tg := tg_in (List.mem_of_getElem? (i := 62) (by decide +kernel)) (by decide +kernel)
theorem tw_666 : Cond.methodLink RX7 275 yX7_wantWedge ∈ Tg := tg_tab (List.mem_of_getElem? (i := 1217) (by decide +kernel)) (by decide +kernel)
theorem tw_667 : Cond.code yX7_wantWedge cX7_wantWedge 3 none ∈ Tg := tg_tab (List.mem_of_getElem? (i := 1220) (by decide +kernel)) (by decide +kernel)
theorem tw_668 : Cond.instanceMethod yX7_wantWedge ∈ Tg := tg_tab (List.mem_of_getElem? (i := 1219) (by decide +kernel)) (by decide +kernel)
theorem tw_669 : Cond.selects RX7 yX7_wantWedge yX7_wantWedge ∈ Tg := tg_in (List.mem_of_getElem? (i := 61) (by decide +kernel)) (by decide +kernel)
theorem tw_670 : Cond.methodLink RX7 270 yX7_wantBeam ∈ Tg := tg_tab (List.mem_of_getElem? (i := 1210) (by decide +kernel)) (by decide +kernel)
theorem tw_671 : Cond.code yX7_wantBeam cX7_wantBeam 3 none ∈ Tg := tg_tab (List.mem_of_getElem? (i := 1213) (by decide +kernel)) (by decide +kernel)
theorem tw_672 : Cond.instanceMethod yX7_wantBeam ∈ Tg := tg_tab (List.mem_of_getElem? (i := 1212) (by decide +kernel)) (by decide +kernel)
theorem tw_673 : Cond.selects RX7 yX7_wantBeam yX7_wantBeam ∈ Tg := tg_in (List.mem_of_getElem? (i := 60) (by decide +kernel)) (by decide +kernel)
theorem tw_674 : Cond.methodLink RX7 265 yX7_wantStone ∈ Tg := tg_tab (List.mem_of_getElem? (i := 1195) (by decide +kernel)) (by decide +kernel)
theorem tw_675 : Cond.code yX7_wantStone cX7_wantStone 5 none ∈ Tg := tg_tab (List.mem_of_getElem? (i := 1198) (by decide +kernel)) (by decide +kernel)
theorem tw_676 : Cond.instanceMethod yX7_wantStone ∈ Tg := tg_tab (List.mem_of_getElem? (i := 1197) (by decide +kernel)) (by decide +kernel)
theorem tw_677 : Cond.selects RX7 yX7_wantStone yX7_wantStone ∈ Tg := tg_in (List.mem_of_getElem? (i := 57) (by decide +kernel)) (by decide +kernel)
theorem tw_678 : Cond.methodLink RX7 262 yX7_kindHere ∈ Tg := tg_tab (List.mem_of_getElem? (i := 1181) (by decide +kernel)) (by decide +kernel)
theorem tw_679 : Cond.code yX7_kindHere cX7_kindHere 1 (some .int) ∈ Tg := tg_tab (List.mem_of_getElem? (i := 1184) (by decide +kernel)) (by decide +kernel)
theorem tw_680 : Cond.instanceMethod yX7_kindHere ∈ Tg := tg_tab (List.mem_of_getElem? (i := 1183) (by decide +kernel)) (by decide +kernel)
theorem tw_681 : Cond.selects RX7 yX7_kindHere yX7_kindHere ∈ Tg := tg_in (List.mem_of_getElem? (i := 55) (by decide +kernel)) (by decide +kernel)
theorem tw_682 : Cond.fieldLink RX7 54 "WallDownModel" "before" "[I" ∈ Tg := tg_tab (List.mem_of_getElem? (i := 823) (by decide +kernel)) (by decide +kernel)
theorem tw_683 : Cond.methodLink RX7 292 yX7_wantItem ∈ Tg := tg_tab (List.mem_of_getElem? (i := 1177) (by decide +kernel)) (by decide +kernel)
theorem tw_684 : Cond.code yX7_wantItem cX7_wantItem 1 none ∈ Tg := tg_tab (List.mem_of_getElem? (i := 1180) (by decide +kernel)) (by decide +kernel)
theorem tw_685 : Cond.instanceMethod yX7_wantItem ∈ Tg := tg_tab (List.mem_of_getElem? (i := 1179) (by decide +kernel)) (by decide +kernel)
theorem tw_686 : Cond.selects RX7 yX7_wantItem yX7_wantItem ∈ Tg := tg_in (List.mem_of_getElem? (i := 54) (by decide +kernel)) (by decide +kernel)
theorem tw_687 : Cond.methodLink RX7 288 yX7_moveAll ∈ Tg := tg_tab (List.mem_of_getElem? (i := 1156) (by decide +kernel)) (by decide +kernel)
theorem tw_688 : Cond.code yX7_moveAll cX7_moveAll 4 none ∈ Tg := tg_tab (List.mem_of_getElem? (i := 1159) (by decide +kernel)) (by decide +kernel)
theorem tw_689 : Cond.instanceMethod yX7_moveAll ∈ Tg := tg_tab (List.mem_of_getElem? (i := 1158) (by decide +kernel)) (by decide +kernel)
theorem tw_690 : Cond.selects RX7 yX7_moveAll yX7_moveAll ∈ Tg := tg_in (List.mem_of_getElem? (i := 51) (by decide +kernel)) (by decide +kernel)
theorem tw_691 : Cond.fieldLink RX7 39 "WallDownModel" "bitsOf" "[I" ∈ Tg := tg_tab (List.mem_of_getElem? (i := 818) (by decide +kernel)) (by decide +kernel)
theorem tw_692 : Cond.fieldLink RX7 42 "WallDownModel" "sizeOf" "[I" ∈ Tg := tg_tab (List.mem_of_getElem? (i := 819) (by decide +kernel)) (by decide +kernel)
theorem tw_693 : Cond.fieldLink RX7 45 "WallDownModel" "sheets" "[J" ∈ Tg := tg_tab (List.mem_of_getElem? (i := 820) (by decide +kernel)) (by decide +kernel)
theorem tw_694 : Cond.constant RX7 298 (-1000000007) ∈ Tg := tg_tab (List.mem_of_getElem? (i := 1238) (by decide +kernel)) (by decide +kernel)
theorem tw_695 : Cond.methodLink RX7 295 yX7_isSheet ∈ Tg := tg_tab (List.mem_of_getElem? (i := 1235) (by decide +kernel)) (by decide +kernel)
theorem tw_696 : Cond.code yX7_isSheet cX7_isSheet 1 (some .boolean) ∈ Tg := tg_tab (List.mem_of_getElem? (i := 1237) (by decide +kernel)) (by decide +kernel)
theorem tw_697 : Cond.static yX7_isSheet ∈ Tg := tg_tab (List.mem_of_getElem? (i := 1236) (by decide +kernel)) (by decide +kernel)
theorem tw_698 : Cond.methodLink RX7 300 yX7_narrow ∈ Tg := tg_tab (List.mem_of_getElem? (i := 1244) (by decide +kernel)) (by decide +kernel)
theorem tw_699 : Cond.code yX7_narrow cX7_narrow 3 (some .long) ∈ Tg := tg_tab (List.mem_of_getElem? (i := 1246) (by decide +kernel)) (by decide +kernel)
theorem tw_700 : Cond.static yX7_narrow ∈ Tg := tg_tab (List.mem_of_getElem? (i := 1245) (by decide +kernel)) (by decide +kernel)
theorem tw_701 : Cond.constant RX7 299 (-1000000006) ∈ Tg := tg_tab (List.mem_of_getElem? (i := 1243) (by decide +kernel)) (by decide +kernel)
theorem tw_702 : Cond.fieldLink RX7 48 "WallDownModel" "lent" "[J" ∈ Tg := tg_tab (List.mem_of_getElem? (i := 821) (by decide +kernel)) (by decide +kernel)
theorem tw_703 : Cond.methodLink RX7 304 yX7_isPart ∈ Tg := tg_tab (List.mem_of_getElem? (i := 1251) (by decide +kernel)) (by decide +kernel)
theorem tw_704 : Cond.code yX7_isPart cX7_isPart 4 (some .boolean) ∈ Tg := tg_tab (List.mem_of_getElem? (i := 1254) (by decide +kernel)) (by decide +kernel)
theorem tw_705 : Cond.instanceMethod yX7_isPart ∈ Tg := tg_tab (List.mem_of_getElem? (i := 1253) (by decide +kernel)) (by decide +kernel)
theorem tw_706 : Cond.selects RX7 yX7_isPart yX7_isPart ∈ Tg := tg_in (List.mem_of_getElem? (i := 64) (by decide +kernel)) (by decide +kernel)
theorem tw_707 : Cond.constantLong RX7 307 (4) ∈ Tg := tg_tab (List.mem_of_getElem? (i := 1259) (by decide +kernel)) (by decide +kernel)
theorem tw_708 : Cond.fieldLink RX7 51 "WallDownModel" "image" "[I" ∈ Tg := tg_tab (List.mem_of_getElem? (i := 822) (by decide +kernel)) (by decide +kernel)
theorem tw_709 : Cond.fieldLink RX7 309 "WallDownModel" "isKept" "Z" ∈ Tg := tg_tab (List.mem_of_getElem? (i := 824) (by decide +kernel)) (by decide +kernel)
theorem tw_710 : u_lay RX0 TX0 0 ∈ Tg := tg_tab (List.mem_of_getElem? (i := 56) (by decide +kernel)) (by decide +kernel)
theorem tw_711 : u_lay RX0 TX0 1 ∈ Tg := tg_tab (List.mem_of_getElem? (i := 58) (by decide +kernel)) (by decide +kernel)
theorem tw_712 : u_lay RX0 TX0 2 ∈ Tg := tg_tab (List.mem_of_getElem? (i := 60) (by decide +kernel)) (by decide +kernel)
theorem tw_713 : u_lay RX0 TX0 3 ∈ Tg := tg_tab (List.mem_of_getElem? (i := 62) (by decide +kernel)) (by decide +kernel)
theorem tw_714 : u_lay RX0 TX0 4 ∈ Tg := tg_tab (List.mem_of_getElem? (i := 64) (by decide +kernel)) (by decide +kernel)
theorem tw_715 : u_lay RX0 TX0 5 ∈ Tg := tg_tab (List.mem_of_getElem? (i := 66) (by decide +kernel)) (by decide +kernel)
theorem tw_716 : u_lay RX0 TX0 6 ∈ Tg := tg_tab (List.mem_of_getElem? (i := 68) (by decide +kernel)) (by decide +kernel)
theorem tw_717 : u_lay RX0 TX0 7 ∈ Tg := tg_tab (List.mem_of_getElem? (i := 70) (by decide +kernel)) (by decide +kernel)
theorem tw_718 : u_lay RX0 TX0 8 ∈ Tg := tg_tab (List.mem_of_getElem? (i := 72) (by decide +kernel)) (by decide +kernel)
theorem tw_719 : u_lay RX1 TX1 0 ∈ Tg := tg_tab (List.mem_of_getElem? (i := 114) (by decide +kernel)) (by decide +kernel)
theorem tw_720 : u_lay RX1 TX1 1 ∈ Tg := tg_tab (List.mem_of_getElem? (i := 116) (by decide +kernel)) (by decide +kernel)
theorem tw_721 : u_lay RX2 TX2 0 ∈ Tg := tg_tab (List.mem_of_getElem? (i := 184) (by decide +kernel)) (by decide +kernel)
theorem tw_722 : u_lay RX2 TX2 1 ∈ Tg := tg_tab (List.mem_of_getElem? (i := 186) (by decide +kernel)) (by decide +kernel)
theorem tw_723 : u_lay RX2 TX2 2 ∈ Tg := tg_tab (List.mem_of_getElem? (i := 188) (by decide +kernel)) (by decide +kernel)
theorem tw_724 : u_lay RX3 TX3 0 ∈ Tg := tg_tab (List.mem_of_getElem? (i := 92) (by decide +kernel)) (by decide +kernel)
theorem tw_725 : u_lay RX3 TX3 1 ∈ Tg := tg_tab (List.mem_of_getElem? (i := 94) (by decide +kernel)) (by decide +kernel)
theorem tw_726 : u_lay RX3 TX3 2 ∈ Tg := tg_tab (List.mem_of_getElem? (i := 96) (by decide +kernel)) (by decide +kernel)
theorem tw_727 : u_lay RX3 TX3 3 ∈ Tg := tg_tab (List.mem_of_getElem? (i := 98) (by decide +kernel)) (by decide +kernel)
theorem tw_728 : u_lay RX3 TX3 4 ∈ Tg := tg_tab (List.mem_of_getElem? (i := 100) (by decide +kernel)) (by decide +kernel)
theorem tw_729 : u_lay RX3 TX3 5 ∈ Tg := tg_tab (List.mem_of_getElem? (i := 102) (by decide +kernel)) (by decide +kernel)
theorem tw_730 : u_lay RX4 TX4 0 ∈ Tg := tg_tab (List.mem_of_getElem? (i := 142) (by decide +kernel)) (by decide +kernel)
theorem tw_731 : u_lay RX4 TX4 1 ∈ Tg := tg_tab (List.mem_of_getElem? (i := 144) (by decide +kernel)) (by decide +kernel)
theorem tw_732 : u_lay RX4 TX4 2 ∈ Tg := tg_tab (List.mem_of_getElem? (i := 146) (by decide +kernel)) (by decide +kernel)
theorem tw_733 : u_lay RX4 TX4 3 ∈ Tg := tg_tab (List.mem_of_getElem? (i := 148) (by decide +kernel)) (by decide +kernel)
theorem tw_734 : u_lay RX4 TX4 4 ∈ Tg := tg_tab (List.mem_of_getElem? (i := 150) (by decide +kernel)) (by decide +kernel)
theorem tw_735 : u_lay RX4 TX4 5 ∈ Tg := tg_tab (List.mem_of_getElem? (i := 152) (by decide +kernel)) (by decide +kernel)
theorem tw_736 : u_lay RX5 TX5 0 ∈ Tg := tg_tab (List.mem_of_getElem? (i := 164) (by decide +kernel)) (by decide +kernel)
theorem tw_737 : u_lay RX5 TX5 1 ∈ Tg := tg_tab (List.mem_of_getElem? (i := 166) (by decide +kernel)) (by decide +kernel)
theorem tw_738 : u_lay RX5 TX5 2 ∈ Tg := tg_tab (List.mem_of_getElem? (i := 168) (by decide +kernel)) (by decide +kernel)
theorem tw_739 : u_lay RX6 TX6 0 ∈ Tg := tg_tab (List.mem_of_getElem? (i := 200) (by decide +kernel)) (by decide +kernel)
theorem tw_740 : u_lay RX6 TX6 1 ∈ Tg := tg_tab (List.mem_of_getElem? (i := 202) (by decide +kernel)) (by decide +kernel)
theorem tw_741 : u_lay RX6 TX6 2 ∈ Tg := tg_tab (List.mem_of_getElem? (i := 204) (by decide +kernel)) (by decide +kernel)
theorem tw_742 : u_lay RX6 TX6 3 ∈ Tg := tg_tab (List.mem_of_getElem? (i := 206) (by decide +kernel)) (by decide +kernel)
theorem tw_743 : u_lay RX6 TX6 4 ∈ Tg := tg_tab (List.mem_of_getElem? (i := 208) (by decide +kernel)) (by decide +kernel)
theorem tw_744 : u_lay RX6 TX6 5 ∈ Tg := tg_tab (List.mem_of_getElem? (i := 210) (by decide +kernel)) (by decide +kernel)
theorem tw_745 : u_lay RX6 TX6 6 ∈ Tg := tg_tab (List.mem_of_getElem? (i := 212) (by decide +kernel)) (by decide +kernel)
theorem tw_746 : u_lay RX6 TX6 7 ∈ Tg := tg_tab (List.mem_of_getElem? (i := 214) (by decide +kernel)) (by decide +kernel)
theorem tw_747 : u_lay RX6 TX6 8 ∈ Tg := tg_tab (List.mem_of_getElem? (i := 216) (by decide +kernel)) (by decide +kernel)
theorem tw_748 : u_lay RX7 TX7 0 ∈ Tg := tg_tab (List.mem_of_getElem? (i := 825) (by decide +kernel)) (by decide +kernel)
theorem tw_749 : u_lay RX7 TX7 1 ∈ Tg := tg_tab (List.mem_of_getElem? (i := 827) (by decide +kernel)) (by decide +kernel)
theorem tw_750 : u_lay RX7 TX7 2 ∈ Tg := tg_tab (List.mem_of_getElem? (i := 829) (by decide +kernel)) (by decide +kernel)
theorem tw_751 : u_lay RX7 TX7 3 ∈ Tg := tg_tab (List.mem_of_getElem? (i := 831) (by decide +kernel)) (by decide +kernel)
theorem tw_752 : u_lay RX7 TX7 4 ∈ Tg := tg_tab (List.mem_of_getElem? (i := 833) (by decide +kernel)) (by decide +kernel)
theorem tw_753 : u_lay RX7 TX7 5 ∈ Tg := tg_tab (List.mem_of_getElem? (i := 835) (by decide +kernel)) (by decide +kernel)
theorem tw_754 : u_lay RX7 TX7 6 ∈ Tg := tg_tab (List.mem_of_getElem? (i := 837) (by decide +kernel)) (by decide +kernel)
theorem tw_755 : u_lay RX7 TX7 7 ∈ Tg := tg_tab (List.mem_of_getElem? (i := 839) (by decide +kernel)) (by decide +kernel)
theorem tw_756 : u_lay RX7 TX7 8 ∈ Tg := tg_tab (List.mem_of_getElem? (i := 841) (by decide +kernel)) (by decide +kernel)
theorem tw_757 : u_lay RX7 TX7 9 ∈ Tg := tg_tab (List.mem_of_getElem? (i := 843) (by decide +kernel)) (by decide +kernel)
theorem tw_758 : u_lay RX7 TX7 10 ∈ Tg := tg_tab (List.mem_of_getElem? (i := 845) (by decide +kernel)) (by decide +kernel)
theorem tw_759 : u_lay RX7 TX7 11 ∈ Tg := tg_tab (List.mem_of_getElem? (i := 847) (by decide +kernel)) (by decide +kernel)
theorem tw_760 : u_lay RX7 TX7 12 ∈ Tg := tg_tab (List.mem_of_getElem? (i := 849) (by decide +kernel)) (by decide +kernel)
theorem tw_761 : u_lay RX7 TX7 13 ∈ Tg := tg_tab (List.mem_of_getElem? (i := 851) (by decide +kernel)) (by decide +kernel)
theorem tw_762 : u_lay RX7 TX7 14 ∈ Tg := tg_tab (List.mem_of_getElem? (i := 853) (by decide +kernel)) (by decide +kernel)
theorem tw_763 : u_lay RX7 TX7 15 ∈ Tg := tg_tab (List.mem_of_getElem? (i := 855) (by decide +kernel)) (by decide +kernel)
theorem tw_764 : u_lay RX7 TX7 16 ∈ Tg := tg_tab (List.mem_of_getElem? (i := 857) (by decide +kernel)) (by decide +kernel)
theorem tw_765 : u_lay RX7 TX7 17 ∈ Tg := tg_tab (List.mem_of_getElem? (i := 859) (by decide +kernel)) (by decide +kernel)
theorem tw_766 : u_lay RX7 TX7 18 ∈ Tg := tg_tab (List.mem_of_getElem? (i := 861) (by decide +kernel)) (by decide +kernel)
theorem tw_767 : u_lay RX7 TX7 19 ∈ Tg := tg_tab (List.mem_of_getElem? (i := 863) (by decide +kernel)) (by decide +kernel)
theorem tw_768 : u_lay RX7 TX7 20 ∈ Tg := tg_tab (List.mem_of_getElem? (i := 865) (by decide +kernel)) (by decide +kernel)
theorem tw_769 : u_lay RX7 TX7 21 ∈ Tg := tg_tab (List.mem_of_getElem? (i := 867) (by decide +kernel)) (by decide +kernel)
theorem tw_770 : u_lay RX7 TX7 22 ∈ Tg := tg_tab (List.mem_of_getElem? (i := 869) (by decide +kernel)) (by decide +kernel)
theorem in_0 : ∀ w ∈ u_ws RX0 TX0 9, w ∈ Tg := by
  intro w hw
  obtain ⟨k, hk, rfl⟩ := List.mem_map.mp hw
  have hk := List.mem_range.mp hk
  match k, hk with
  | 0, _ => exact tw_710
  | 1, _ => exact tw_711
  | 2, _ => exact tw_712
  | 3, _ => exact tw_713
  | 4, _ => exact tw_714
  | 5, _ => exact tw_715
  | 6, _ => exact tw_716
  | 7, _ => exact tw_717
  | 8, _ => exact tw_718
  | k + 9, hk => omega
theorem in_1 : ∀ w ∈ u_ws RX1 TX1 2, w ∈ Tg := by
  intro w hw
  obtain ⟨k, hk, rfl⟩ := List.mem_map.mp hw
  have hk := List.mem_range.mp hk
  match k, hk with
  | 0, _ => exact tw_719
  | 1, _ => exact tw_720
  | k + 2, hk => omega
theorem in_2 : ∀ w ∈ u_ws RX2 TX2 3, w ∈ Tg := by
  intro w hw
  obtain ⟨k, hk, rfl⟩ := List.mem_map.mp hw
  have hk := List.mem_range.mp hk
  match k, hk with
  | 0, _ => exact tw_721
  | 1, _ => exact tw_722
  | 2, _ => exact tw_723
  | k + 3, hk => omega
theorem in_3 : ∀ w ∈ u_ws RX3 TX3 6, w ∈ Tg := by
  intro w hw
  obtain ⟨k, hk, rfl⟩ := List.mem_map.mp hw
  have hk := List.mem_range.mp hk
  match k, hk with
  | 0, _ => exact tw_724
  | 1, _ => exact tw_725
  | 2, _ => exact tw_726
  | 3, _ => exact tw_727
  | 4, _ => exact tw_728
  | 5, _ => exact tw_729
  | k + 6, hk => omega
theorem in_4 : ∀ w ∈ u_ws RX4 TX4 6, w ∈ Tg := by
  intro w hw
  obtain ⟨k, hk, rfl⟩ := List.mem_map.mp hw
  have hk := List.mem_range.mp hk
  match k, hk with
  | 0, _ => exact tw_730
  | 1, _ => exact tw_731
  | 2, _ => exact tw_732
  | 3, _ => exact tw_733
  | 4, _ => exact tw_734
  | 5, _ => exact tw_735
  | k + 6, hk => omega
theorem in_5 : ∀ w ∈ u_ws RX5 TX5 3, w ∈ Tg := by
  intro w hw
  obtain ⟨k, hk, rfl⟩ := List.mem_map.mp hw
  have hk := List.mem_range.mp hk
  match k, hk with
  | 0, _ => exact tw_736
  | 1, _ => exact tw_737
  | 2, _ => exact tw_738
  | k + 3, hk => omega
theorem in_6 : ∀ w ∈ u_ws RX6 TX6 9, w ∈ Tg := by
  intro w hw
  obtain ⟨k, hk, rfl⟩ := List.mem_map.mp hw
  have hk := List.mem_range.mp hk
  match k, hk with
  | 0, _ => exact tw_739
  | 1, _ => exact tw_740
  | 2, _ => exact tw_741
  | 3, _ => exact tw_742
  | 4, _ => exact tw_743
  | 5, _ => exact tw_744
  | 6, _ => exact tw_745
  | 7, _ => exact tw_746
  | 8, _ => exact tw_747
  | k + 9, hk => omega
theorem in_7 : ∀ w ∈ u_ws RX7 TX7 23, w ∈ Tg := by
  intro w hw
  obtain ⟨k, hk, rfl⟩ := List.mem_map.mp hw
  have hk := List.mem_range.mp hk
  match k, hk with
  | 0, _ => exact tw_748
  | 1, _ => exact tw_749
  | 2, _ => exact tw_750
  | 3, _ => exact tw_751
  | 4, _ => exact tw_752
  | 5, _ => exact tw_753
  | 6, _ => exact tw_754
  | 7, _ => exact tw_755
  | 8, _ => exact tw_756
  | 9, _ => exact tw_757
  | 10, _ => exact tw_758
  | 11, _ => exact tw_759
  | 12, _ => exact tw_760
  | 13, _ => exact tw_761
  | 14, _ => exact tw_762
  | 15, _ => exact tw_763
  | 16, _ => exact tw_764
  | 17, _ => exact tw_765
  | 18, _ => exact tw_766
  | 19, _ => exact tw_767
  | 20, _ => exact tw_768
  | 21, _ => exact tw_769
  | 22, _ => exact tw_770
  | k + 23, hk => omega
theorem fd_RX0_9 : FdO RX0 9 0 0 := ⟨(RX0, TX0, 9), rfl, in_0, by decide, tw_0⟩
theorem fd_RX0_15 : FdO RX0 15 0 1 := ⟨(RX0, TX0, 9), rfl, in_0, by decide, tw_1⟩
theorem fd_RX0_18 : FdO RX0 18 0 2 := ⟨(RX0, TX0, 9), rfl, in_0, by decide, tw_2⟩
theorem fd_RX0_21 : FdO RX0 21 0 3 := ⟨(RX0, TX0, 9), rfl, in_0, by decide, tw_3⟩
theorem fd_RX0_24 : FdO RX0 24 0 4 := ⟨(RX0, TX0, 9), rfl, in_0, by decide, tw_4⟩
theorem fd_RX0_27 : FdO RX0 27 0 5 := ⟨(RX0, TX0, 9), rfl, in_0, by decide, tw_5⟩
theorem fd_RX0_31 : FdO RX0 31 0 6 := ⟨(RX0, TX0, 9), rfl, in_0, by decide, tw_6⟩
theorem fd_RX0_40 : FdO RX0 40 0 7 := ⟨(RX0, TX0, 9), rfl, in_0, by decide, tw_7⟩
theorem fd_RX0_43 : FdO RX0 43 0 8 := ⟨(RX0, TX0, 9), rfl, in_0, by decide, tw_8⟩
theorem fd_RX2_19 : FdO RX2 19 2 2 := ⟨(RX2, TX2, 3), rfl, in_2, by decide, tw_59⟩
theorem fd_RX2_9 : FdO RX2 9 2 0 := ⟨(RX2, TX2, 3), rfl, in_2, by decide, tw_60⟩
theorem fd_RX3_18 : FdO RX3 18 3 2 := ⟨(RX3, TX3, 6), rfl, in_3, by decide, tw_61⟩
theorem fd_RX3_15 : FdO RX3 15 3 1 := ⟨(RX3, TX3, 6), rfl, in_3, by decide, tw_62⟩
theorem fd_RX3_31 : FdO RX3 31 3 3 := ⟨(RX3, TX3, 6), rfl, in_3, by decide, tw_63⟩
theorem fd_RX3_11 : FdO RX3 11 3 0 := ⟨(RX3, TX3, 6), rfl, in_3, by decide, tw_65⟩
theorem fd_RX3_38 : FdO RX3 38 3 4 := ⟨(RX3, TX3, 6), rfl, in_3, by decide, tw_66⟩
theorem fd_RX1_11 : FdO RX1 11 1 0 := ⟨(RX1, TX1, 2), rfl, in_1, by decide, tw_71⟩
theorem fd_RX1_21 : FdO RX1 21 3 3 := ⟨(RX3, TX3, 6), rfl, in_3, by decide, tw_72⟩
theorem fd_RX1_35 : FdO RX1 35 3 5 := ⟨(RX3, TX3, 6), rfl, in_3, by decide, tw_91⟩
theorem fd_RX3_42 : FdO RX3 42 3 5 := ⟨(RX3, TX3, 6), rfl, in_3, by decide, tw_99⟩
theorem fd_RX1_17 : FdO RX1 17 1 1 := ⟨(RX1, TX1, 2), rfl, in_1, by decide, tw_118⟩
theorem fd_RX2_15 : FdO RX2 15 2 1 := ⟨(RX2, TX2, 3), rfl, in_2, by decide, tw_126⟩
theorem fd_RX3_35 : FdO RX3 35 0 5 := ⟨(RX0, TX0, 9), rfl, in_0, by decide, tw_130⟩
theorem fd_RX3_39 : FdO RX3 39 0 6 := ⟨(RX0, TX0, 9), rfl, in_0, by decide, tw_131⟩
theorem fd_RX3_43 : FdO RX3 43 0 3 := ⟨(RX0, TX0, 9), rfl, in_0, by decide, tw_132⟩
theorem fd_RX3_46 : FdO RX3 46 0 4 := ⟨(RX0, TX0, 9), rfl, in_0, by decide, tw_133⟩
theorem fd_RX3_52 : FdO RX3 52 0 0 := ⟨(RX0, TX0, 9), rfl, in_0, by decide, tw_134⟩
theorem fd_RX4_9 : FdO RX4 9 4 0 := ⟨(RX4, TX4, 6), rfl, in_4, by decide, tw_139⟩
theorem fd_RX4_15 : FdO RX4 15 4 1 := ⟨(RX4, TX4, 6), rfl, in_4, by decide, tw_140⟩
theorem fd_RX4_44 : FdO RX4 44 4 4 := ⟨(RX4, TX4, 6), rfl, in_4, by decide, tw_144⟩
theorem fd_RX4_19 : FdO RX4 19 4 5 := ⟨(RX4, TX4, 6), rfl, in_4, by decide, tw_145⟩
theorem fd_RX4_25 : FdO RX4 25 4 3 := ⟨(RX4, TX4, 6), rfl, in_4, by decide, tw_156⟩
theorem fd_RX4_28 : FdO RX4 28 4 2 := ⟨(RX4, TX4, 6), rfl, in_4, by decide, tw_157⟩
theorem fd_RX5_12 : FdO RX5 12 5 0 := ⟨(RX5, TX5, 3), rfl, in_5, by decide, tw_194⟩
theorem fd_RX5_105 : FdO RX5 105 4 4 := ⟨(RX4, TX4, 6), rfl, in_4, by decide, tw_195⟩
theorem fd_RX5_21 : FdO RX5 21 5 1 := ⟨(RX5, TX5, 3), rfl, in_5, by decide, tw_196⟩
theorem fd_RX5_43 : FdO RX5 43 4 2 := ⟨(RX4, TX4, 6), rfl, in_4, by decide, tw_210⟩
theorem fd_RX5_28 : FdO RX5 28 5 2 := ⟨(RX5, TX5, 3), rfl, in_5, by decide, tw_211⟩
theorem fd_RX5_132 : FdO RX5 132 3 3 := ⟨(RX3, TX3, 6), rfl, in_3, by decide, tw_212⟩
theorem fd_RX5_127 : FdO RX5 127 0 6 := ⟨(RX0, TX0, 9), rfl, in_0, by decide, tw_222⟩
theorem fd_RX5_101 : FdO RX5 101 0 3 := ⟨(RX0, TX0, 9), rfl, in_0, by decide, tw_223⟩
theorem fd_RX5_124 : FdO RX5 124 0 4 := ⟨(RX0, TX0, 9), rfl, in_0, by decide, tw_228⟩
theorem fd_RX5_50 : FdO RX5 50 4 3 := ⟨(RX4, TX4, 6), rfl, in_4, by decide, tw_257⟩
theorem fd_RX6_49 : FdO RX6 49 6 7 := ⟨(RX6, TX6, 9), rfl, in_6, by decide, tw_267⟩
theorem fd_RX6_12 : FdO RX6 12 6 0 := ⟨(RX6, TX6, 9), rfl, in_6, by decide, tw_273⟩
theorem fd_RX6_69 : FdO RX6 69 0 3 := ⟨(RX0, TX0, 9), rfl, in_0, by decide, tw_274⟩
theorem fd_RX6_77 : FdO RX6 77 0 4 := ⟨(RX0, TX0, 9), rfl, in_0, by decide, tw_286⟩
theorem fd_RX6_19 : FdO RX6 19 6 2 := ⟨(RX6, TX6, 9), rfl, in_6, by decide, tw_289⟩
theorem fd_RX6_94 : FdO RX6 94 0 0 := ⟨(RX0, TX0, 9), rfl, in_0, by decide, tw_290⟩
theorem fd_RX6_25 : FdO RX6 25 6 3 := ⟨(RX6, TX6, 9), rfl, in_6, by decide, tw_291⟩
theorem fd_RX6_156 : FdO RX6 156 3 3 := ⟨(RX3, TX3, 6), rfl, in_3, by decide, tw_292⟩
theorem fd_RX6_97 : FdO RX6 97 0 1 := ⟨(RX0, TX0, 9), rfl, in_0, by decide, tw_297⟩
theorem fd_RX6_100 : FdO RX6 100 0 2 := ⟨(RX0, TX0, 9), rfl, in_0, by decide, tw_298⟩
theorem fd_RX6_124 : FdO RX6 124 0 6 := ⟨(RX0, TX0, 9), rfl, in_0, by decide, tw_317⟩
theorem fd_RX6_128 : FdO RX6 128 0 5 := ⟨(RX0, TX0, 9), rfl, in_0, by decide, tw_318⟩
theorem fd_RX6_135 : FdO RX6 135 0 7 := ⟨(RX0, TX0, 9), rfl, in_0, by decide, tw_320⟩
theorem fd_RX6_143 : FdO RX6 143 0 8 := ⟨(RX0, TX0, 9), rfl, in_0, by decide, tw_326⟩
theorem fd_RX6_32 : FdO RX6 32 6 4 := ⟨(RX6, TX6, 9), rfl, in_6, by decide, tw_335⟩
theorem fd_RX6_184 : FdO RX6 184 1 0 := ⟨(RX1, TX1, 2), rfl, in_1, by decide, tw_340⟩
theorem fd_RX6_39 : FdO RX6 39 6 5 := ⟨(RX6, TX6, 9), rfl, in_6, by decide, tw_390⟩
theorem fd_RX6_219 : FdO RX6 219 5 0 := ⟨(RX5, TX5, 3), rfl, in_5, by decide, tw_391⟩
theorem fd_RX6_223 : FdO RX6 223 4 1 := ⟨(RX4, TX4, 6), rfl, in_4, by decide, tw_392⟩
theorem fd_RX6_234 : FdO RX6 234 5 1 := ⟨(RX5, TX5, 3), rfl, in_5, by decide, tw_397⟩
theorem fd_RX6_45 : FdO RX6 45 6 6 := ⟨(RX6, TX6, 9), rfl, in_6, by decide, tw_402⟩
theorem fd_RX6_248 : FdO RX6 248 2 2 := ⟨(RX2, TX2, 3), rfl, in_2, by decide, tw_403⟩
theorem fd_RX6_260 : FdO RX6 260 2 1 := ⟨(RX2, TX2, 3), rfl, in_2, by decide, tw_415⟩
theorem fd_RX6_254 : FdO RX6 254 2 0 := ⟨(RX2, TX2, 3), rfl, in_2, by decide, tw_417⟩
theorem fd_RX6_16 : FdO RX6 16 6 1 := ⟨(RX6, TX6, 9), rfl, in_6, by decide, tw_437⟩
theorem fd_RX6_295 : FdO RX6 295 6 8 := ⟨(RX6, TX6, 9), rfl, in_6, by decide, tw_438⟩
theorem fd_RX7_13 : FdO RX7 13 7 1 := ⟨(RX7, TX7, 23), rfl, in_7, by decide, tw_443⟩
theorem fd_RX7_7 : FdO RX7 7 7 0 := ⟨(RX7, TX7, 23), rfl, in_7, by decide, tw_449⟩
theorem fd_RX7_16 : FdO RX7 16 7 2 := ⟨(RX7, TX7, 23), rfl, in_7, by decide, tw_467⟩
theorem fd_RX7_19 : FdO RX7 19 7 3 := ⟨(RX7, TX7, 23), rfl, in_7, by decide, tw_472⟩
theorem fd_RX7_26 : FdO RX7 26 7 5 := ⟨(RX7, TX7, 23), rfl, in_7, by decide, tw_550⟩
theorem fd_RX7_22 : FdO RX7 22 7 4 := ⟨(RX7, TX7, 23), rfl, in_7, by decide, tw_555⟩
theorem fd_RX7_29 : FdO RX7 29 7 6 := ⟨(RX7, TX7, 23), rfl, in_7, by decide, tw_576⟩
theorem fd_RX7_33 : FdO RX7 33 7 7 := ⟨(RX7, TX7, 23), rfl, in_7, by decide, tw_586⟩
theorem fd_RX7_189 : FdO RX7 189 7 9 := ⟨(RX7, TX7, 23), rfl, in_7, by decide, tw_607⟩
theorem fd_RX7_36 : FdO RX7 36 7 8 := ⟨(RX7, TX7, 23), rfl, in_7, by decide, tw_608⟩
theorem fd_RX7_193 : FdO RX7 193 7 12 := ⟨(RX7, TX7, 23), rfl, in_7, by decide, tw_609⟩
theorem fd_RX7_196 : FdO RX7 196 7 11 := ⟨(RX7, TX7, 23), rfl, in_7, by decide, tw_610⟩
theorem fd_RX7_208 : FdO RX7 208 7 10 := ⟨(RX7, TX7, 23), rfl, in_7, by decide, tw_615⟩
theorem fd_RX7_211 : FdO RX7 211 7 13 := ⟨(RX7, TX7, 23), rfl, in_7, by decide, tw_616⟩
theorem fd_RX7_215 : FdO RX7 215 7 14 := ⟨(RX7, TX7, 23), rfl, in_7, by decide, tw_617⟩
theorem fd_RX7_240 : FdO RX7 240 7 15 := ⟨(RX7, TX7, 23), rfl, in_7, by decide, tw_637⟩
theorem fd_RX7_54 : FdO RX7 54 7 21 := ⟨(RX7, TX7, 23), rfl, in_7, by decide, tw_682⟩
theorem fd_RX7_39 : FdO RX7 39 7 16 := ⟨(RX7, TX7, 23), rfl, in_7, by decide, tw_691⟩
theorem fd_RX7_42 : FdO RX7 42 7 17 := ⟨(RX7, TX7, 23), rfl, in_7, by decide, tw_692⟩
theorem fd_RX7_45 : FdO RX7 45 7 18 := ⟨(RX7, TX7, 23), rfl, in_7, by decide, tw_693⟩
theorem fd_RX7_48 : FdO RX7 48 7 19 := ⟨(RX7, TX7, 23), rfl, in_7, by decide, tw_702⟩
theorem fd_RX7_51 : FdO RX7 51 7 20 := ⟨(RX7, TX7, 23), rfl, in_7, by decide, tw_708⟩
theorem fd_RX7_309 : FdO RX7 309 7 22 := ⟨(RX7, TX7, 23), rfl, in_7, by decide, tw_709⟩
theorem fp_0_5 : FpO 0 5 .int := ⟨(RX0, TX0, 9), tyX0, rfl, tyX0_ok, nmX0, rfl, by decide +kernel⟩
theorem fp_0_6 : FpO 0 6 .int := ⟨(RX0, TX0, 9), tyX0, rfl, tyX0_ok, nmX0, rfl, by decide +kernel⟩
theorem fp_0_7 : FpO 0 7 .int := ⟨(RX0, TX0, 9), tyX0, rfl, tyX0_ok, nmX0, rfl, by decide +kernel⟩
theorem fp_0_8 : FpO 0 8 .int := ⟨(RX0, TX0, 9), tyX0, rfl, tyX0_ok, nmX0, rfl, by decide +kernel⟩
theorem fp_2_1 : FpO 2 1 .int := ⟨(RX2, TX2, 3), tyX2, rfl, tyX2_ok, nmX2, rfl, by decide +kernel⟩
theorem fp_2_2 : FpO 2 2 .int := ⟨(RX2, TX2, 3), tyX2, rfl, tyX2_ok, nmX2, rfl, by decide +kernel⟩
theorem fp_3_3 : FpO 3 3 .int := ⟨(RX3, TX3, 6), tyX3, rfl, tyX3_ok, nmX3, rfl, by decide +kernel⟩
theorem fp_3_4 : FpO 3 4 .int := ⟨(RX3, TX3, 6), tyX3, rfl, tyX3_ok, nmX3, rfl, by decide +kernel⟩
theorem fp_3_5 : FpO 3 5 .int := ⟨(RX3, TX3, 6), tyX3, rfl, tyX3_ok, nmX3, rfl, by decide +kernel⟩
theorem fp_4_1 : FpO 4 1 .int := ⟨(RX4, TX4, 6), tyX4, rfl, tyX4_ok, nmX4, rfl, by decide +kernel⟩
theorem fp_4_2 : FpO 4 2 .int := ⟨(RX4, TX4, 6), tyX4, rfl, tyX4_ok, nmX4, rfl, by decide +kernel⟩
theorem fp_4_3 : FpO 4 3 .int := ⟨(RX4, TX4, 6), tyX4, rfl, tyX4_ok, nmX4, rfl, by decide +kernel⟩
theorem fp_4_4 : FpO 4 4 .int := ⟨(RX4, TX4, 6), tyX4, rfl, tyX4_ok, nmX4, rfl, by decide +kernel⟩
theorem fp_4_5 : FpO 4 5 .int := ⟨(RX4, TX4, 6), tyX4, rfl, tyX4_ok, nmX4, rfl, by decide +kernel⟩
theorem fp_6_8 : FpO 6 8 .boolean := ⟨(RX6, TX6, 9), tyX6, rfl, tyX6_ok, nmX6, rfl, by decide +kernel⟩
theorem fp_7_9 : FpO 7 9 .int := ⟨(RX7, TX7, 23), tyX7, rfl, tyX7_ok, nmX7, rfl, by decide +kernel⟩
theorem fp_7_10 : FpO 7 10 .int := ⟨(RX7, TX7, 23), tyX7, rfl, tyX7_ok, nmX7, rfl, by decide +kernel⟩
theorem fp_7_11 : FpO 7 11 .int := ⟨(RX7, TX7, 23), tyX7, rfl, tyX7_ok, nmX7, rfl, by decide +kernel⟩
theorem fp_7_12 : FpO 7 12 .int := ⟨(RX7, TX7, 23), tyX7, rfl, tyX7_ok, nmX7, rfl, by decide +kernel⟩
theorem fp_7_13 : FpO 7 13 .long := ⟨(RX7, TX7, 23), tyX7, rfl, tyX7_ok, nmX7, rfl, by decide +kernel⟩
theorem fp_7_14 : FpO 7 14 .int := ⟨(RX7, TX7, 23), tyX7, rfl, tyX7_ok, nmX7, rfl, by decide +kernel⟩
theorem fp_7_15 : FpO 7 15 .boolean := ⟨(RX7, TX7, 23), tyX7, rfl, tyX7_ok, nmX7, rfl, by decide +kernel⟩
theorem fp_7_22 : FpO 7 22 .boolean := ⟨(RX7, TX7, 23), tyX7, rfl, tyX7_ok, nmX7, rfl, by decide +kernel⟩
theorem cl_RX0_46 : ClO RX0 46 yX0_place cX0_place 2 (some .int) 2 := ⟨tw_13, tw_14, tw_15, by decide +kernel⟩
theorem cl_RX0_51 : ClO RX0 51 yX0_coinOf cX0_coinOf 4 (some .int) 2 := ⟨tw_22, tw_14, tw_23, by decide +kernel⟩
theorem cl_RX0_62 : ClO RX0 62 yX0_tallOf cX0_tallOf 5 (some .int) 2 := ⟨tw_29, tw_14, tw_30, by decide +kernel⟩
theorem cl_RX0_65 : ClO RX0 65 yX0_topOf cX0_topOf 4 (some .int) 1 := ⟨tw_33, tw_14, tw_34, by decide +kernel⟩
theorem cl_RX0_69 : ClO RX0 69 yX0_coinsOf cX0_coinsOf 4 (some .int) 1 := ⟨tw_37, tw_14, tw_38, by decide +kernel⟩
theorem cl_RX0_81 : ClO RX0 81 yX3_unit cX3_unit 1 (some .int) 1 := ⟨tw_41, tw_42, tw_43, by decide +kernel⟩
theorem cl_RX3_21 : ClO RX3 21 yX3_leftAt cX3_leftAt 2 (some .int) 2 := ⟨tw_45, tw_42, tw_46, by decide +kernel⟩
theorem cl_RX0_76 : ClO RX0 76 yX3_stonesAt cX3_stonesAt 1 (some .int) 1 := ⟨tw_48, tw_42, tw_49, by decide +kernel⟩
theorem cl_RX0_72 : ClO RX0 72 yX0_standNow cX0_standNow 3 (some .int) 0 := ⟨tw_51, tw_14, tw_52, by decide +kernel⟩
theorem cl_RJ7_13 : ClO RJ7 13 yJ7_rangeCheck_23922 cJ7_rangeCheck_23922 3 none 3 := ⟨tw_55, tw_56, tw_57, by decide +kernel⟩
theorem cl_RX3_61 : ClO RX3 61 yX3_stonesAt cX3_stonesAt 1 (some .int) 1 := ⟨tw_64, tw_42, tw_49, by decide +kernel⟩
theorem cl_RX1_54 : ClO RX1 54 yX3_unit cX3_unit 1 (some .int) 1 := ⟨tw_73, tw_42, tw_43, by decide +kernel⟩
theorem cl_RX1_49 : ClO RX1 49 yX2_tells cX2_tells 3 (some .boolean) 2 := ⟨tw_74, tw_75, tw_76, by decide +kernel⟩
theorem cl_RX1_45 : ClO RX1 45 yX3_nextCoin cX3_nextCoin 4 (some .int) 2 := ⟨tw_79, tw_42, tw_80, by decide +kernel⟩
theorem cl_RX1_42 : ClO RX1 42 yX3_pulledAt cX3_pulledAt 2 (some .int) 1 := ⟨tw_83, tw_42, tw_84, by decide +kernel⟩
theorem cl_RX1_38 : ClO RX1 38 yX3_lowestMayGo cX3_lowestMayGo 5 (some .boolean) 2 := ⟨tw_87, tw_42, tw_88, by decide +kernel⟩
theorem cl_RX1_31 : ClO RX1 31 yX3_unlikeAt cX3_unlikeAt 6 (some .int) 1 := ⟨tw_92, tw_42, tw_93, by decide +kernel⟩
theorem cl_RX1_25 : ClO RX1 25 yJ7_fill_bad5a cJ7_fill_bad5a 6 none 4 := ⟨tw_96, tw_56, tw_97, by decide +kernel⟩
theorem cl_RX3_80 : ClO RX3 80 yX3_unlikeAt cX3_unlikeAt 6 (some .int) 1 := ⟨tw_100, tw_42, tw_93, by decide +kernel⟩
theorem cl_RX3_77 : ClO RX3 77 yX3_unit cX3_unit 1 (some .int) 1 := ⟨tw_101, tw_42, tw_43, by decide +kernel⟩
theorem cl_RX3_73 : ClO RX3 73 yX3_lowestMayGo cX3_lowestMayGo 5 (some .boolean) 2 := ⟨tw_102, tw_42, tw_88, by decide +kernel⟩
theorem cl_RX1_64 : ClO RX1 64 yX3_canPullAt cX3_canPullAt 3 (some .boolean) 2 := ⟨tw_103, tw_42, tw_104, by decide +kernel⟩
theorem cl_RX1_60 : ClO RX1 60 yX1_leadFrom cX1_leadFrom 4 (some .int) 2 := ⟨tw_107, tw_108, tw_109, by decide +kernel⟩
theorem cl_RX1_57 : ClO RX1 57 yX3_isPartOf cX3_isPartOf 3 (some .boolean) 2 := ⟨tw_112, tw_42, tw_113, by decide +kernel⟩
theorem cl_RX1_67 : ClO RX1 67 yX3_stonesAt cX3_stonesAt 1 (some .int) 1 := ⟨tw_115, tw_42, tw_49, by decide +kernel⟩
theorem cl_RX1_70 : ClO RX1 70 yX3_leftAt cX3_leftAt 2 (some .int) 2 := ⟨tw_117, tw_42, tw_46, by decide +kernel⟩
theorem cl_RX1_81 : ClO RX1 81 yX3_coinAt cX3_coinAt 4 (some .int) 1 := ⟨tw_119, tw_42, tw_120, by decide +kernel⟩
theorem cl_RX1_78 : ClO RX1 78 yJ7_fill_53178 cJ7_fill_53178 4 none 2 := ⟨tw_123, tw_56, tw_124, by decide +kernel⟩
theorem cl_RX2_22 : ClO RX2 22 yJ7_fill_d0a16 cJ7_fill_d0a16 5 none 2 := ⟨tw_127, tw_56, tw_128, by decide +kernel⟩
theorem cl_RX3_55 : ClO RX3 55 yX0_place cX0_place 2 (some .int) 2 := ⟨tw_135, tw_14, tw_15, by decide +kernel⟩
theorem cl_RX3_49 : ClO RX3 49 yX0_tallOf cX0_tallOf 5 (some .int) 2 := ⟨tw_136, tw_14, tw_30, by decide +kernel⟩
theorem cl_RX3_58 : ClO RX3 58 yX0_coinOf cX0_coinOf 4 (some .int) 2 := ⟨tw_137, tw_14, tw_23, by decide +kernel⟩
theorem cl_RX3_25 : ClO RX3 25 yX0_standNow cX0_standNow 3 (some .int) 0 := ⟨tw_138, tw_14, tw_52, by decide +kernel⟩
theorem cl_RX4_38 : ClO RX4 38 yX4_isDigit cX4_isDigit 2 (some .boolean) 1 := ⟨tw_147, tw_148, tw_149, by decide +kernel⟩
theorem cl_RX4_31 : ClO RX4 31 yX4_isLetter cX4_isLetter 2 (some .boolean) 1 := ⟨tw_152, tw_148, tw_153, by decide +kernel⟩
theorem cl_RX4_41 : ClO RX4 41 yX4_skipDigits cX4_skipDigits 1 none 0 := ⟨tw_158, tw_148, tw_159, by decide +kernel⟩
theorem cl_RX4_35 : ClO RX4 35 yX4_skipLetters cX4_skipLetters 1 none 0 := ⟨tw_162, tw_148, tw_163, by decide +kernel⟩
theorem cl_RX4_22 : ClO RX4 22 yX4_step cX4_step 1 none 0 := ⟨tw_166, tw_148, tw_167, by decide +kernel⟩
theorem cl_RJ0_495 : ClO RJ0 495 yJ1_charAt_3b067 cJ1_charAt_3b067 2 (some .char) 2 := ⟨tw_173, tw_174, tw_175, by decide +kernel⟩
theorem cl_RJ0_492 : ClO RJ0 492 yJ0_isLatin1_aae02 cJ0_isLatin1_aae02 1 (some .boolean) 0 := ⟨tw_177, tw_178, tw_179, by decide +kernel⟩
theorem cl_RJ0_335 : ClO RJ0 335 yJ0_coder_7d493 cJ0_coder_7d493 1 (some .byte) 0 := ⟨tw_182, tw_178, tw_183, by decide +kernel⟩
theorem cl_RX4_62 : ClO RX4 62 yJ0_charAt_5068e cJ0_charAt_5068e 2 (some .char) 1 := ⟨tw_186, tw_178, tw_187, by decide +kernel⟩
theorem cl_RX4_57 : ClO RX4 57 yJ0_length_8abf5 cJ0_length_8abf5 1 (some .int) 0 := ⟨tw_190, tw_178, tw_191, by decide +kernel⟩
theorem cl_RX5_47 : ClO RX5 47 yX4_step cX4_step 1 none 0 := ⟨tw_197, tw_148, tw_167, by decide +kernel⟩
theorem cl_RX5_120 : ClO RX5 120 yX0_layBeam cX0_layBeam 4 none 2 := ⟨tw_198, tw_14, tw_199, by decide +kernel⟩
theorem cl_RX5_57 : ClO RX5 57 yX4_isWord cX4_isWord 3 (some .boolean) 1 := ⟨tw_202, tw_148, tw_203, by decide +kernel⟩
theorem cl_RX5_97 : ClO RX5 97 yX4_isNumber cX4_isNumber 3 (some .boolean) 2 := ⟨tw_206, tw_148, tw_207, by decide +kernel⟩
theorem cl_RX5_138 : ClO RX5 138 yX0_takeLowest cX0_takeLowest 3 none 1 := ⟨tw_213, tw_14, tw_214, by decide +kernel⟩
theorem cl_RX5_135 : ClO RX5 135 yX3_canPullAt cX3_canPullAt 3 (some .boolean) 2 := ⟨tw_217, tw_42, tw_104, by decide +kernel⟩
theorem cl_RX5_129 : ClO RX5 129 yX3_measure cX3_measure 6 none 1 := ⟨tw_218, tw_42, tw_219, by decide +kernel⟩
theorem cl_RX5_112 : ClO RX5 112 yX0_put cX0_put 6 none 4 := ⟨tw_224, tw_14, tw_225, by decide +kernel⟩
theorem cl_RX5_61 : ClO RX5 61 yX5_tellStone cX5_tellStone 5 (some .boolean) 1 := ⟨tw_229, tw_230, tw_231, by decide +kernel⟩
theorem cl_RX5_53 : ClO RX5 53 yX5_nameOf cX5_nameOf 1 (some (.object "java/lang/String")) 1 := ⟨tw_234, tw_230, tw_235, by decide +kernel⟩
theorem cl_RX5_82 : ClO RX5 82 yX5_tellPulls cX5_tellPulls 2 (some .boolean) 0 := ⟨tw_237, tw_230, tw_238, by decide +kernel⟩
theorem cl_RX5_77 : ClO RX5 77 yX5_tellSlack cX5_tellSlack 1 (some .boolean) 0 := ⟨tw_241, tw_230, tw_242, by decide +kernel⟩
theorem cl_RX5_72 : ClO RX5 72 yX5_tellWedge cX5_tellWedge 2 (some .boolean) 0 := ⟨tw_245, tw_230, tw_246, by decide +kernel⟩
theorem cl_RX5_67 : ClO RX5 67 yX5_tellBeam cX5_tellBeam 3 (some .boolean) 0 := ⟨tw_249, tw_230, tw_250, by decide +kernel⟩
theorem cl_RX5_39 : ClO RX5 39 yX5_tellItem cX5_tellItem 2 (some .boolean) 0 := ⟨tw_253, tw_230, tw_254, by decide +kernel⟩
theorem cl_RX5_36 : ClO RX5 36 yX4_rewind cX4_rewind 1 none 0 := ⟨tw_258, tw_148, tw_259, by decide +kernel⟩
theorem cl_RX5_32 : ClO RX5 32 yX0_becomeLike cX0_becomeLike 2 none 1 := ⟨tw_262, tw_14, tw_263, by decide +kernel⟩
theorem cl_RX6_116 : ClO RX6 116 yX6_isWithin cX6_isWithin 3 (some .boolean) 3 := ⟨tw_268, tw_141, tw_142, by decide +kernel⟩
theorem cl_RX6_65 : ClO RX6 65 yX6_finding cX6_finding 3 (some .int) 1 := ⟨tw_269, tw_141, tw_270, by decide +kernel⟩
theorem cl_RX6_73 : ClO RX6 73 yX0_put cX0_put 6 none 4 := ⟨tw_275, tw_14, tw_225, by decide +kernel⟩
theorem cl_RX6_61 : ClO RX6 61 yX6_isHigh cX6_isHigh 1 (some .boolean) 1 := ⟨tw_277, tw_141, tw_278, by decide +kernel⟩
theorem cl_RX6_58 : ClO RX6 58 yX6_isWall cX6_isWall 1 (some .boolean) 1 := ⟨tw_280, tw_141, tw_281, by decide +kernel⟩
theorem cl_RX6_54 : ClO RX6 54 yX6_isKind cX6_isKind 1 (some .boolean) 1 := ⟨tw_283, tw_141, tw_284, by decide +kernel⟩
theorem cl_RX6_80 : ClO RX6 80 yX0_topOf cX0_topOf 4 (some .int) 1 := ⟨tw_287, tw_14, tw_34, by decide +kernel⟩
theorem cl_RX6_83 : ClO RX6 83 yX0_coinsOf cX0_coinsOf 4 (some .int) 1 := ⟨tw_288, tw_14, tw_38, by decide +kernel⟩
theorem cl_RX6_305 : ClO RX6 305 yX3_lowestMayGo cX3_lowestMayGo 5 (some .boolean) 2 := ⟨tw_293, tw_42, tw_88, by decide +kernel⟩
theorem cl_RX6_152 : ClO RX6 152 yX3_measure cX3_measure 6 none 1 := ⟨tw_294, tw_42, tw_219, by decide +kernel⟩
theorem cl_RX6_90 : ClO RX6 90 yX0_place cX0_place 2 (some .int) 2 := ⟨tw_295, tw_14, tw_15, by decide +kernel⟩
theorem cl_RX6_216 : ClO RX6 216 yX0_becomeLike cX0_becomeLike 2 none 1 := ⟨tw_296, tw_14, tw_263, by decide +kernel⟩
theorem cl_RX6_103 : ClO RX6 103 yX0_tallOf cX0_tallOf 5 (some .int) 2 := ⟨tw_299, tw_14, tw_30, by decide +kernel⟩
theorem cl_RX6_106 : ClO RX6 106 yX0_coinOf cX0_coinOf 4 (some .int) 2 := ⟨tw_300, tw_14, tw_23, by decide +kernel⟩
theorem cl_RX6_112 : ClO RX6 112 yX6_asNumber cX6_asNumber 1 (some .int) 1 := ⟨tw_301, tw_141, tw_302, by decide +kernel⟩
theorem cl_RX6_109 : ClO RX6 109 yX6_mayGoAsLowest cX6_mayGoAsLowest 3 (some .boolean) 2 := ⟨tw_304, tw_141, tw_305, by decide +kernel⟩
theorem cl_RX6_86 : ClO RX6 86 yX6_isStone cX6_isStone 3 (some .boolean) 2 := ⟨tw_308, tw_141, tw_309, by decide +kernel⟩
theorem cl_RX6_120 : ClO RX6 120 yX6_isUnder cX6_isUnder 4 (some .boolean) 2 := ⟨tw_314, tw_141, tw_315, by decide +kernel⟩
theorem cl_RX6_131 : ClO RX6 131 yX0_layBeam cX0_layBeam 4 none 2 := ⟨tw_319, tw_14, tw_199, by decide +kernel⟩
theorem cl_RX6_139 : ClO RX6 139 yX0_allTops cX0_allTops 3 (some .int) 0 := ⟨tw_321, tw_14, tw_322, by decide +kernel⟩
theorem cl_RX6_146 : ClO RX6 146 yX0_allStones cX0_allStones 1 (some .int) 0 := ⟨tw_327, tw_14, tw_328, by decide +kernel⟩
theorem cl_RX6_149 : ClO RX6 149 yX0_standNow cX0_standNow 3 (some .int) 0 := ⟨tw_331, tw_14, tw_52, by decide +kernel⟩
theorem cl_RX6_159 : ClO RX6 159 yX3_unlikeAt cX3_unlikeAt 6 (some .int) 1 := ⟨tw_332, tw_42, tw_93, by decide +kernel⟩
theorem cl_RX6_165 : ClO RX6 165 yX0_takeLowest cX0_takeLowest 3 none 1 := ⟨tw_333, tw_14, tw_214, by decide +kernel⟩
theorem cl_RX6_162 : ClO RX6 162 yX3_canPullAt cX3_canPullAt 3 (some .boolean) 2 := ⟨tw_334, tw_42, tw_104, by decide +kernel⟩
theorem cl_RX6_287 : ClO RX6 287 yX1_fill cX1_fill 6 (some .int) 2 := ⟨tw_336, tw_108, tw_337, by decide +kernel⟩
theorem cl_RX6_176 : ClO RX6 176 yX6_standsOf cX6_standsOf 2 (some .int) 1 := ⟨tw_341, tw_141, tw_342, by decide +kernel⟩
theorem cl_RX6_302 : ClO RX6 302 yX3_isPartOf cX3_isPartOf 3 (some .boolean) 2 := ⟨tw_345, tw_42, tw_113, by decide +kernel⟩
theorem cl_RX6_172 : ClO RX6 172 yX6_canBe cX6_canBe 3 (some .boolean) 2 := ⟨tw_346, tw_141, tw_347, by decide +kernel⟩
theorem cl_RX6_169 : ClO RX6 169 yX6_isStand cX6_isStand 2 (some .boolean) 1 := ⟨tw_350, tw_141, tw_351, by decide +kernel⟩
theorem cl_RX6_180 : ClO RX6 180 yX1_leastStand cX1_leastStand 4 (some .int) 1 := ⟨tw_354, tw_108, tw_355, by decide +kernel⟩
theorem cl_RX6_192 : ClO RX6 192 yX1_leadFrom cX1_leadFrom 4 (some .int) 2 := ⟨tw_359, tw_108, tw_109, by decide +kernel⟩
theorem cl_RX6_188 : ClO RX6 188 yX1_lead cX1_lead 4 none 2 := ⟨tw_360, tw_108, tw_361, by decide +kernel⟩
theorem cl_RX6_197 : ClO RX6 197 yX3_unit cX3_unit 1 (some .int) 1 := ⟨tw_364, tw_42, tw_43, by decide +kernel⟩
theorem cl_RX6_200 : ClO RX6 200 yX6_leastSlack cX6_leastSlack 4 (some .int) 1 := ⟨tw_365, tw_141, tw_366, by decide +kernel⟩
theorem cl_RX6_284 : ClO RX6 284 yX1_bestUpTo cX1_bestUpTo 6 (some .int) 2 := ⟨tw_369, tw_108, tw_370, by decide +kernel⟩
theorem cl_RX6_280 : ClO RX6 280 yX1_rank cX1_rank 4 none 1 := ⟨tw_373, tw_108, tw_374, by decide +kernel⟩
theorem cl_RX6_206 : ClO RX6 206 yX3_coinAt cX3_coinAt 4 (some .int) 1 := ⟨tw_377, tw_42, tw_120, by decide +kernel⟩
theorem cl_RX6_203 : ClO RX6 203 yX6_bestStand cX6_bestStand 2 (some .int) 1 := ⟨tw_378, tw_141, tw_379, by decide +kernel⟩
theorem cl_RX6_209 : ClO RX6 209 yX1_fewestPulls cX1_fewestPulls 7 (some .int) 3 := ⟨tw_382, tw_108, tw_383, by decide +kernel⟩
theorem cl_RX6_213 : ClO RX6 213 yX1_fewestLeft cX1_fewestLeft 5 (some .int) 2 := ⟨tw_386, tw_108, tw_387, by decide +kernel⟩
theorem cl_RX6_228 : ClO RX6 228 yX4_append cX4_append 2 none 1 := ⟨tw_393, tw_148, tw_394, by decide +kernel⟩
theorem cl_RX6_231 : ClO RX6 231 yX5_tell cX5_tell 3 (some .int) 1 := ⟨tw_398, tw_230, tw_399, by decide +kernel⟩
theorem cl_RX6_244 : ClO RX6 244 yX2_layOut cX2_layOut 3 none 2 := ⟨tw_404, tw_75, tw_405, by decide +kernel⟩
theorem cl_RX6_240 : ClO RX6 240 yX6_isWidth cX6_isWidth 1 (some .boolean) 1 := ⟨tw_409, tw_141, tw_410, by decide +kernel⟩
theorem cl_RX6_237 : ClO RX6 237 yX6_isSheet cX6_isSheet 1 (some .boolean) 1 := ⟨tw_412, tw_141, tw_413, by decide +kernel⟩
theorem cl_RX6_257 : ClO RX6 257 yX2_put cX2_put 5 none 2 := ⟨tw_418, tw_75, tw_419, by decide +kernel⟩
theorem cl_RX6_251 : ClO RX6 251 yX6_sheetFinding cX6_sheetFinding 2 (some .int) 1 := ⟨tw_422, tw_141, tw_423, by decide +kernel⟩
theorem cl_RX6_264 : ClO RX6 264 yX2_hasPart cX2_hasPart 3 (some .boolean) 2 := ⟨tw_427, tw_75, tw_428, by decide +kernel⟩
theorem cl_RX6_291 : ClO RX6 291 yX1_waysBy cX1_waysBy 6 (some .long) 2 := ⟨tw_433, tw_108, tw_434, by decide +kernel⟩
theorem cl_RX6_299 : ClO RX6 299 yX0_allCoins cX0_allCoins 3 (some .int) 0 := ⟨tw_439, tw_14, tw_440, by decide +kernel⟩
theorem cl_RX7_58 : ClO RX7 58 yX7_in cX7_in 3 (some .boolean) 3 := ⟨tw_445, tw_446, tw_447, by decide +kernel⟩
theorem cl_RX7_66 : ClO RX7 66 yX7_many cX7_many 2 (some .int) 1 := ⟨tw_450, tw_446, tw_451, by decide +kernel⟩
theorem cl_RX7_62 : ClO RX7 62 yX7_isWall cX7_isWall 1 (some .boolean) 1 := ⟨tw_454, tw_446, tw_455, by decide +kernel⟩
theorem cl_RX7_70 : ClO RX7 70 yX7_at cX7_at 3 (some .int) 3 := ⟨tw_457, tw_446, tw_458, by decide +kernel⟩
theorem cl_RX7_74 : ClO RX7 74 yX7_its cX7_its 4 (some .int) 3 := ⟨tw_460, tw_446, tw_461, by decide +kernel⟩
theorem cl_RX7_77 : ClO RX7 77 yX7_left cX7_left 2 (some .int) 2 := ⟨tw_464, tw_446, tw_465, by decide +kernel⟩
theorem cl_RX7_81 : ClO RX7 81 yX7_tall cX7_tall 6 (some .int) 2 := ⟨tw_468, tw_446, tw_469, by decide +kernel⟩
theorem cl_RX7_84 : ClO RX7 84 yX7_coin cX7_coin 4 (some .int) 2 := ⟨tw_473, tw_446, tw_474, by decide +kernel⟩
theorem cl_RX7_87 : ClO RX7 87 yX7_topIn cX7_topIn 3 (some .int) 2 := ⟨tw_477, tw_446, tw_478, by decide +kernel⟩
theorem cl_RX7_93 : ClO RX7 93 yX7_unlikeAt cX7_unlikeAt 4 (some .int) 2 := ⟨tw_481, tw_446, tw_482, by decide +kernel⟩
theorem cl_RX7_90 : ClO RX7 90 yX7_lies cX7_lies 2 (some .boolean) 1 := ⟨tw_485, tw_446, tw_486, by decide +kernel⟩
theorem cl_RX7_99 : ClO RX7 99 yX7_isSafe cX7_isSafe 4 (some .boolean) 1 := ⟨tw_489, tw_446, tw_490, by decide +kernel⟩
theorem cl_RX7_96 : ClO RX7 96 yX7_mayGo cX7_mayGo 8 (some .boolean) 3 := ⟨tw_493, tw_446, tw_494, by decide +kernel⟩
theorem cl_RX7_105 : ClO RX7 105 yX7_finds cX7_finds 2 (some .int) 1 := ⟨tw_497, tw_446, tw_498, by decide +kernel⟩
theorem cl_RX7_109 : ClO RX7 109 yX7_addStone cX7_addStone 6 none 4 := ⟨tw_501, tw_446, tw_502, by decide +kernel⟩
theorem cl_RX7_102 : ClO RX7 102 yX7_isKind cX7_isKind 1 (some .boolean) 1 := ⟨tw_506, tw_446, tw_507, by decide +kernel⟩
theorem cl_RX7_113 : ClO RX7 113 yX7_findTops cX7_findTops 4 none 0 := ⟨tw_509, tw_446, tw_510, by decide +kernel⟩
theorem cl_RX7_120 : ClO RX7 120 yX7_standNow cX7_standNow 3 (some .int) 0 := ⟨tw_513, tw_446, tw_514, by decide +kernel⟩
theorem cl_RX7_116 : ClO RX7 116 yX7_isStone cX7_isStone 3 (some .boolean) 2 := ⟨tw_517, tw_446, tw_518, by decide +kernel⟩
theorem cl_RX7_124 : ClO RX7 124 yX7_isUnder cX7_isUnder 2 (some .boolean) 2 := ⟨tw_522, tw_446, tw_523, by decide +kernel⟩
theorem cl_RX7_129 : ClO RX7 129 yX7_allTops cX7_allTops 3 (some .int) 0 := ⟨tw_525, tw_446, tw_526, by decide +kernel⟩
theorem cl_RX7_132 : ClO RX7 132 yX7_stones cX7_stones 1 (some .int) 1 := ⟨tw_530, tw_446, tw_531, by decide +kernel⟩
theorem cl_RX7_135 : ClO RX7 135 yX7_mostUnlike cX7_mostUnlike 4 (some .int) 0 := ⟨tw_533, tw_446, tw_534, by decide +kernel⟩
theorem cl_RX7_139 : ClO RX7 139 yX7_canPull cX7_canPull 4 (some .boolean) 2 := ⟨tw_538, tw_446, tw_539, by decide +kernel⟩
theorem cl_RX7_145 : ClO RX7 145 yX7_takeOut cX7_takeOut 4 none 1 := ⟨tw_542, tw_446, tw_543, by decide +kernel⟩
theorem cl_RX7_142 : ClO RX7 142 yX7_canPullNow cX7_canPullNow 2 (some .boolean) 1 := ⟨tw_546, tw_446, tw_547, by decide +kernel⟩
theorem cl_RX7_149 : ClO RX7 149 yX7_isStand cX7_isStand 4 (some .boolean) 1 := ⟨tw_551, tw_446, tw_552, by decide +kernel⟩
theorem cl_RX7_155 : ClO RX7 155 yX7_countRows cX7_countRows 4 none 0 := ⟨tw_556, tw_446, tw_557, by decide +kernel⟩
theorem cl_RX7_152 : ClO RX7 152 yX7_findGoes cX7_findGoes 4 none 0 := ⟨tw_560, tw_446, tw_561, by decide +kernel⟩
theorem cl_RX7_158 : ClO RX7 158 yX7_findRows cX7_findRows 1 none 0 := ⟨tw_564, tw_446, tw_565, by decide +kernel⟩
theorem cl_RX7_161 : ClO RX7 161 yX7_howManyNow cX7_howManyNow 3 (some .int) 0 := ⟨tw_568, tw_446, tw_569, by decide +kernel⟩
theorem cl_RX7_164 : ClO RX7 164 yX7_howMany cX7_howMany 1 (some .int) 0 := ⟨tw_572, tw_446, tw_573, by decide +kernel⟩
theorem cl_RX7_171 : ClO RX7 171 yX7_firstFrom cX7_firstFrom 3 (some .int) 1 := ⟨tw_578, tw_446, tw_579, by decide +kernel⟩
theorem cl_RX7_167 : ClO RX7 167 yX7_findLeads cX7_findLeads 5 none 1 := ⟨tw_582, tw_446, tw_583, by decide +kernel⟩
theorem cl_RX7_174 : ClO RX7 174 yX7_widest cX7_widest 4 (some .int) 1 := ⟨tw_587, tw_446, tw_588, by decide +kernel⟩
theorem cl_RX7_177 : ClO RX7 177 yX7_slackTo cX7_slackTo 7 (some .int) 1 := ⟨tw_591, tw_446, tw_592, by decide +kernel⟩
theorem cl_RX7_183 : ClO RX7 183 yX7_paidIn cX7_paidIn 4 (some .int) 1 := ⟨tw_595, tw_446, tw_596, by decide +kernel⟩
theorem cl_RX7_180 : ClO RX7 180 yX7_richestNow cX7_richestNow 6 (some .int) 1 := ⟨tw_599, tw_446, tw_600, by decide +kernel⟩
theorem cl_RX7_186 : ClO RX7 186 yX7_richest cX7_richest 2 (some .int) 1 := ⟨tw_603, tw_446, tw_604, by decide +kernel⟩
theorem cl_RX7_199 : ClO RX7 199 yX7_byteAt cX7_byteAt 2 (some .int) 1 := ⟨tw_611, tw_446, tw_612, by decide +kernel⟩
theorem cl_RX7_202 : ClO RX7 202 yX7_isLetter cX7_isLetter 1 (some .boolean) 1 := ⟨tw_621, tw_446, tw_622, by decide +kernel⟩
theorem cl_RX7_205 : ClO RX7 205 yX7_isDigit cX7_isDigit 1 (some .boolean) 1 := ⟨tw_624, tw_446, tw_625, by decide +kernel⟩
theorem cl_RX7_226 : ClO RX7 226 yX7_isWord cX7_isWord 3 (some .boolean) 1 := ⟨tw_633, tw_446, tw_634, by decide +kernel⟩
theorem cl_RX7_244 : ClO RX7 244 yX7_advance cX7_advance 2 none 0 := ⟨tw_638, tw_446, tw_639, by decide +kernel⟩
theorem cl_RX7_247 : ClO RX7 247 yX7_wantNumber cX7_wantNumber 4 (some .int) 2 := ⟨tw_642, tw_446, tw_643, by decide +kernel⟩
theorem cl_RX7_252 : ClO RX7 252 yX7_mayWant cX7_mayWant 6 (some .int) 4 := ⟨tw_648, tw_446, tw_649, by decide +kernel⟩
theorem cl_RX7_285 : ClO RX7 285 yX7_wantPulls cX7_wantPulls 2 none 0 := ⟨tw_658, tw_446, tw_659, by decide +kernel⟩
theorem cl_RX7_280 : ClO RX7 280 yX7_wantSlack cX7_wantSlack 2 none 0 := ⟨tw_662, tw_446, tw_663, by decide +kernel⟩
theorem cl_RX7_275 : ClO RX7 275 yX7_wantWedge cX7_wantWedge 3 none 0 := ⟨tw_666, tw_446, tw_667, by decide +kernel⟩
theorem cl_RX7_270 : ClO RX7 270 yX7_wantBeam cX7_wantBeam 3 none 0 := ⟨tw_670, tw_446, tw_671, by decide +kernel⟩
theorem cl_RX7_265 : ClO RX7 265 yX7_wantStone cX7_wantStone 5 none 1 := ⟨tw_674, tw_446, tw_675, by decide +kernel⟩
theorem cl_RX7_262 : ClO RX7 262 yX7_kindHere cX7_kindHere 1 (some .int) 0 := ⟨tw_678, tw_446, tw_679, by decide +kernel⟩
theorem cl_RX7_292 : ClO RX7 292 yX7_wantItem cX7_wantItem 1 none 0 := ⟨tw_683, tw_446, tw_684, by decide +kernel⟩
theorem cl_RX7_288 : ClO RX7 288 yX7_moveAll cX7_moveAll 4 none 2 := ⟨tw_687, tw_446, tw_688, by decide +kernel⟩
theorem cl_RX7_295 : ClO RX7 295 yX7_isSheet cX7_isSheet 1 (some .boolean) 1 := ⟨tw_695, tw_446, tw_696, by decide +kernel⟩
theorem cl_RX7_300 : ClO RX7 300 yX7_narrow cX7_narrow 3 (some .long) 2 := ⟨tw_698, tw_446, tw_699, by decide +kernel⟩
theorem cl_RX7_304 : ClO RX7 304 yX7_isPart cX7_isPart 4 (some .boolean) 3 := ⟨tw_703, tw_446, tw_704, by decide +kernel⟩
end
section
def P_X0_place (p0 : Int32) (p1 : Int32) (σ : St) (Q : Int32 → Prop) : Prop := Q ((p0 * 7) + p1)
def P_X0_becomeLike (a0 : Nat) (p0 : Nat) (σ : St) (Q : St → Prop) : Prop := (∀ s70, s70 = cI (cI (cI (cI (cI σ (p0 + 1) 0 (a0 + 1) 0 28) (p0 + 2) 0 (a0 + 2) 0 28) (p0 + 3) 0 (a0 + 3) 0 28) (p0 + 4) 0 (a0 + 4) 0 4) (p0 + 5) 0 (a0 + 5) 0 4 → (∀ s86, s86 = sI (sI s70 a0 5 (gI s70 p0 5)) a0 6 (gI (sI s70 a0 5 (gI s70 p0 5)) p0 6) → Q (sI (sI s86 a0 7 (gI s86 p0 7)) a0 8 (gI (sI s86 a0 7 (gI s86 p0 7)) p0 8))))
def P_X0_put (a0 : Nat) (p0 : Int32) (p1 : Int32) (p2 : Int32) (p3 : Int32) (σ : St) (Q : St → Prop) : Prop := vp_in p1 4 ∧ P_X0_place (p1) (gI σ (a0 + 4) p1.toNatClampNeg) σ (fun r7 => vp_in r7 28 ∧ vp_in r7 28 ∧ vp_in r7 28 ∧ vp_in p1 4 ∧ vp_in p1 4 ∧ Q (sI (sI (sI (sI σ (a0 + 1) (r7.toNatClampNeg) p0) (a0 + 2) (r7.toNatClampNeg) p2) (a0 + 3) (r7.toNatClampNeg) p3) (a0 + 4) (p1.toNatClampNeg) ((gI (sI (sI (sI σ (a0 + 1) (r7.toNatClampNeg) p0) (a0 + 2) (r7.toNatClampNeg) p2) (a0 + 3) (r7.toNatClampNeg) p3) (a0 + 4) p1.toNatClampNeg) + 1)))
def P_X0_coinOf (a0 : Nat) (p0 : Int32) (p1 : Int32) (σ : St) (Q : Int32 → Prop) : Prop := P_X0_place (p0) (p1) σ (fun r2 => vp_in r2 28 ∧ ((gI σ (a0 + 1) r2.toNatClampNeg) = 1 → vp_in r2 28 ∧ Q ((gI σ (a0 + 3) r2.toNatClampNeg) + 5)) ∧ ((gI σ (a0 + 1) r2.toNatClampNeg) = 2 → vp_in r2 28 ∧ Q ((gI σ (a0 + 3) r2.toNatClampNeg) / 2)) ∧ ((gI σ (a0 + 1) r2.toNatClampNeg) = 3 → vp_in r2 28 ∧ Q (gI σ (a0 + 3) r2.toNatClampNeg)) ∧ ((gI σ (a0 + 1) r2.toNatClampNeg) = 4 → vp_in r2 28 ∧ Q (2 * ((gI σ (a0 + 3) r2.toNatClampNeg) + 5))) ∧ ((gI σ (a0 + 1) r2.toNatClampNeg) = 5 → Q 0) ∧ ((¬ (gI σ (a0 + 1) r2.toNatClampNeg) = 1 ∧ ¬ (gI σ (a0 + 1) r2.toNatClampNeg) = 2 ∧ ¬ (gI σ (a0 + 1) r2.toNatClampNeg) = 3 ∧ ¬ (gI σ (a0 + 1) r2.toNatClampNeg) = 4 ∧ ¬ (gI σ (a0 + 1) r2.toNatClampNeg) = 5) → vp_in r2 28 ∧ Q (gI σ (a0 + 3) r2.toNatClampNeg)))
def P_X0_takeLowest (a0 : Nat) (p0 : Int32) (σ : St) (Q : St → Prop) : Prop := P_X0_coinOf a0 (p0) (0) σ (fun r10 => vp_in p0 4 ∧ vp_in p0 4 ∧ (∀ s29, s29 = sI (sI σ a0 8 (mnI 999999 ((gI σ a0 8) + r10))) (a0 + 4) (p0.toNatClampNeg) ((gI (sI σ a0 8 (mnI 999999 ((gI σ a0 8) + r10))) (a0 + 4) p0.toNatClampNeg) - 1) → P_X0_place (p0) (0) s29 (fun r32 => vp_in p0 4 ∧ (¬ (r32 + 1) < 0 ∧ ¬ r32 < 0 ∧ ¬ (gI s29 (a0 + 4) p0.toNatClampNeg) < 0 ∧ (r32 + 1).toNatClampNeg + (gI s29 (a0 + 4) p0.toNatClampNeg).toNatClampNeg ≤ 28 ∧ r32.toNatClampNeg + (gI s29 (a0 + 4) p0.toNatClampNeg).toNatClampNeg ≤ 28) ∧ (∀ s54, s54 = cI s29 (a0 + 1) ((r32 + 1).toNatClampNeg) (a0 + 1) (r32.toNatClampNeg) ((gI s29 (a0 + 4) p0.toNatClampNeg).toNatClampNeg) → vp_in p0 4 ∧ (¬ (r32 + 1) < 0 ∧ ¬ r32 < 0 ∧ ¬ (gI s54 (a0 + 4) p0.toNatClampNeg) < 0 ∧ (r32 + 1).toNatClampNeg + (gI s54 (a0 + 4) p0.toNatClampNeg).toNatClampNeg ≤ 28 ∧ r32.toNatClampNeg + (gI s54 (a0 + 4) p0.toNatClampNeg).toNatClampNeg ≤ 28) ∧ (∀ s75, s75 = cI s54 (a0 + 2) ((r32 + 1).toNatClampNeg) (a0 + 2) (r32.toNatClampNeg) ((gI s54 (a0 + 4) p0.toNatClampNeg).toNatClampNeg) → vp_in p0 4 ∧ (¬ (r32 + 1) < 0 ∧ ¬ r32 < 0 ∧ ¬ (gI s75 (a0 + 4) p0.toNatClampNeg) < 0 ∧ (r32 + 1).toNatClampNeg + (gI s75 (a0 + 4) p0.toNatClampNeg).toNatClampNeg ≤ 28 ∧ r32.toNatClampNeg + (gI s75 (a0 + 4) p0.toNatClampNeg).toNatClampNeg ≤ 28) ∧ Q (cI s75 (a0 + 3) ((r32 + 1).toNatClampNeg) (a0 + 3) (r32.toNatClampNeg) ((gI s75 (a0 + 4) p0.toNatClampNeg).toNatClampNeg)))))))
def P_X0_layBeam (a0 : Nat) (p0 : Int32) (p1 : Bool) (σ : St) (Q : St → Prop) : Prop := ((p1 = false) → Q (sI σ a0 5 ((gI σ a0 5) &&& ((1 <<< (p0 &&& 31)) ^^^ ((-1)))))) ∧ ((p1 = true) → Q (sI σ a0 5 ((gI σ a0 5) ||| (1 <<< (p0 &&& 31)))))
def P_X0_tallOf (a0 : Nat) (p0 : Int32) (p1 : Int32) (σ : St) (Q : Int32 → Prop) : Prop := P_X0_place (p0) (p1) σ (fun r2 => vp_in r2 28 ∧ vp_in r2 28 ∧ ((gI σ (a0 + 1) r2.toNatClampNeg) = 2 → Q (mxI 1 ((gI σ (a0 + 2) r2.toNatClampNeg) - (gI σ a0 7)))) ∧ ((gI σ (a0 + 1) r2.toNatClampNeg) = 5 → Q ((mxI 1 ((gI σ (a0 + 2) r2.toNatClampNeg) - (gI σ a0 7))) / 2)) ∧ ((¬ (gI σ (a0 + 1) r2.toNatClampNeg) = 2 ∧ ¬ (gI σ (a0 + 1) r2.toNatClampNeg) = 5) → vp_in r2 28 ∧ Q (gI σ (a0 + 2) r2.toNatClampNeg)))
def P_X0_topOf_l9 (l0 : Nat) (l1 : Int32) (K : Int32 → St → Prop) (Q : Int32 → Prop) : Nat → Int32 → Int32 → St → Prop
  | 0, _, _, _ => False
  | n9 + 1, l2, l3, σ => vp_in l1 4 ∧ (((gI σ (l0 + 4) l1.toNatClampNeg) ≤ l3) → K (l2) σ) ∧ ((¬ (gI σ (l0 + 4) l1.toNatClampNeg) ≤ l3) → P_X0_tallOf l0 (l1) (l3) σ (fun r23 => P_X0_topOf_l9 l0 l1 K Q n9 (l2 + r23) (l3 + 1) σ))
def P_X0_topOf (a0 : Nat) (p0 : Int32) (σ : St) (Q : Int32 → Prop) : Prop := vp_in p0 4 ∧ ∃ m9, P_X0_topOf_l9 (a0) (p0) (fun k2 t34 => Q k2) Q m9 (gI σ (a0 + 5) p0.toNatClampNeg) (0) σ
def P_X0_coinsOf_l4 (l0 : Nat) (l1 : Int32) (K : Int32 → St → Prop) (Q : Int32 → Prop) : Nat → Int32 → Int32 → St → Prop
  | 0, _, _, _ => False
  | n4 + 1, l2, l3, σ => vp_in l1 4 ∧ (((gI σ (l0 + 4) l1.toNatClampNeg) ≤ l3) → K (l2) σ) ∧ ((¬ (gI σ (l0 + 4) l1.toNatClampNeg) ≤ l3) → P_X0_coinOf l0 (l1) (l3) σ (fun r18 => P_X0_coinsOf_l4 l0 l1 K Q n4 (l2 + r18) (l3 + 1) σ))
def P_X0_coinsOf (a0 : Nat) (p0 : Int32) (σ : St) (Q : Int32 → Prop) : Prop := ∃ m4, P_X0_coinsOf_l4 (a0) (p0) (fun k2 t29 => Q k2) Q m4 (0) (0) σ
def P_X0_allTops_l4 (l0 : Nat) (K : Int32 → St → Prop) (Q : Int32 → Prop) : Nat → Int32 → Int32 → St → Prop
  | 0, _, _, _ => False
  | n4 + 1, l1, l2, σ => ((4 ≤ l2) → K (l1) σ) ∧ ((¬ 4 ≤ l2) → P_X0_topOf l0 (l2) σ (fun r12 => P_X0_allTops_l4 l0 K Q n4 (l1 + r12) (l2 + 1) σ))
def P_X0_allTops (a0 : Nat) (σ : St) (Q : Int32 → Prop) : Prop := ∃ m4, P_X0_allTops_l4 (a0) (fun k1 t23 => Q k1) Q m4 (0) (0) σ
def P_X0_allCoins_l4 (l0 : Nat) (K : Int32 → St → Prop) (Q : Int32 → Prop) : Nat → Int32 → Int32 → St → Prop
  | 0, _, _, _ => False
  | n4 + 1, l1, l2, σ => ((4 ≤ l2) → K (l1) σ) ∧ ((¬ 4 ≤ l2) → P_X0_coinsOf l0 (l2) σ (fun r12 => P_X0_allCoins_l4 l0 K Q n4 (l1 + r12) (l2 + 1) σ))
def P_X0_allCoins (a0 : Nat) (σ : St) (Q : Int32 → Prop) : Prop := ∃ m4, P_X0_allCoins_l4 (a0) (fun k1 t23 => Q k1) Q m4 (0) (0) σ
def P_X3_unit (p0 : Int32) (σ : St) (Q : Int32 → Prop) : Prop := Q (1 <<< ((3 * p0) &&& 31))
def P_X0_standNow_l4 (l0 : Nat) (K : Int32 → St → Prop) (Q : Int32 → Prop) : Nat → Int32 → Int32 → St → Prop
  | 0, _, _, _ => False
  | n4 + 1, l1, l2, σ => ((4 ≤ l2) → K (l1) σ) ∧ ((¬ 4 ≤ l2) → vp_in l2 4 ∧ P_X3_unit (l2) σ (fun r17 => P_X0_standNow_l4 l0 K Q n4 (l1 + ((gI σ (l0 + 4) l2.toNatClampNeg) * r17)) (l2 + 1) σ))
def P_X0_standNow (a0 : Nat) (σ : St) (Q : Int32 → Prop) : Prop := ∃ m4, P_X0_standNow_l4 (a0) (fun k1 t29 => Q k1) Q m4 (0) (0) σ
def P_X3_leftAt (p0 : Int32) (p1 : Int32) (σ : St) (Q : Int32 → Prop) : Prop := Q ((p0 >>> ((3 * p1) &&& 31)) &&& 7)
def P_X3_stonesAt (p0 : Int32) (σ : St) (Q : Int32 → Prop) : Prop := P_X3_leftAt (p0) (0) σ (fun r2 => P_X3_leftAt (p0) (1) σ (fun r7 => P_X3_leftAt (p0) (2) σ (fun r13 => P_X3_leftAt (p0) (3) σ (fun r19 => Q (((r2 + r7) + r13) + r19)))))
def P_X0_allStones (a0 : Nat) (σ : St) (Q : Int32 → Prop) : Prop := P_X0_standNow a0 σ (fun r1 => P_X3_stonesAt (r1) σ (fun r4 => Q r4))
def P_J7_rangeCheck_23922 (p0 : Int32) (p1 : Int32) (p2 : Int32) (σ : St) (Q : St → Prop) : Prop := ((p1 ≤ p2) → ((0 ≤ p1) → ((p2 ≤ p0) → Q σ) ∧ ((¬ p2 ≤ p0) → False)) ∧ ((¬ 0 ≤ p1) → False)) ∧ ((¬ p1 ≤ p2) → False)
def P_J7_fill_bad5a_l10 (l0 : Nat) (l2 : Int32) (l3 : Int64) (K : St → Prop) (Q : St → Prop) : Nat → Int32 → St → Prop
  | 0, _, _ => False
  | n10 + 1, l5, σ => ((l2 ≤ l5) → K  σ) ∧ ((¬ l2 ≤ l5) → vp_in l5 (ln l0) ∧ P_J7_fill_bad5a_l10 l0 l2 l3 K Q n10 (l5 + 1) (sL σ l0 (l5.toNatClampNeg) l3))
def P_J7_fill_bad5a (p0 : Nat) (p1 : Int32) (p2 : Int32) (p3 : Int64) (σ : St) (Q : St → Prop) : Prop := P_J7_rangeCheck_23922 (Int32.ofNat (ln p0)) (p1) (p2) σ (fun t4 => ∃ m10, P_J7_fill_bad5a_l10 (p0) (p2) (p3) (fun  t27 => Q t27) Q m10 (p1) t4)
def P_X2_tells (a0 : Nat) (p0 : Int32) (p1 : Int32) (σ : St) (Q : Bool → Prop) : Prop := (((gI σ a0 2) ≤ p0) → Q false) ∧ ((¬ (gI σ a0 2) ≤ p0) → vp_in p0 40 ∧ ((¬ (lg_cmp (gL σ (a0 + 1) p0.toNatClampNeg) ((p1 : Int32).toInt64)) = 0) → Q false) ∧ (((lg_cmp (gL σ (a0 + 1) p0.toNatClampNeg) ((p1 : Int32).toInt64)) = 0) → Q true))
def P_X3_lowestMayGo (a0 : Nat) (p0 : Int32) (p1 : Int32) (σ : St) (Q : Bool → Prop) : Prop := P_X3_leftAt (p0) (p1) σ (fun r2 => ((¬ r2 = 0) → vp_in ((p1 * 8) + r2) 32 ∧ (((gI σ (a0 + 3) ((p1 * 8) + r2).toNatClampNeg) = 1) → ((3 ≤ p1) → (((gI σ (a0 + 3) ((p1 * 8) + r2).toNatClampNeg) = 3) → Q true) ∧ ((¬ (gI σ (a0 + 3) ((p1 * 8) + r2).toNatClampNeg) = 3) → ((p1 = 0) → Q true) ∧ ((¬ p1 = 0) → P_X3_leftAt (p0) (p1 - 1) σ (fun r77 => ((r2 < r77) → Q false) ∧ ((¬ r2 < r77) → Q true))))) ∧ ((¬ 3 ≤ p1) → P_X3_leftAt (p0) (p1 + 1) σ (fun r54 => ((r54 ≤ r2) → (((gI σ (a0 + 3) ((p1 * 8) + r2).toNatClampNeg) = 3) → Q true) ∧ ((¬ (gI σ (a0 + 3) ((p1 * 8) + r2).toNatClampNeg) = 3) → ((p1 = 0) → Q true) ∧ ((¬ p1 = 0) → P_X3_leftAt (p0) (p1 - 1) σ (fun r77 => ((r2 < r77) → Q false) ∧ ((¬ r2 < r77) → Q true))))) ∧ ((¬ r54 ≤ r2) → Q false)))) ∧ ((¬ (gI σ (a0 + 3) ((p1 * 8) + r2).toNatClampNeg) = 1) → (((gI σ (a0 + 3) ((p1 * 8) + r2).toNatClampNeg) = 4) → ((3 ≤ p1) → (((gI σ (a0 + 3) ((p1 * 8) + r2).toNatClampNeg) = 3) → Q true) ∧ ((¬ (gI σ (a0 + 3) ((p1 * 8) + r2).toNatClampNeg) = 3) → ((p1 = 0) → Q true) ∧ ((¬ p1 = 0) → P_X3_leftAt (p0) (p1 - 1) σ (fun r77 => ((r2 < r77) → Q false) ∧ ((¬ r2 < r77) → Q true))))) ∧ ((¬ 3 ≤ p1) → P_X3_leftAt (p0) (p1 + 1) σ (fun r54 => ((r54 ≤ r2) → (((gI σ (a0 + 3) ((p1 * 8) + r2).toNatClampNeg) = 3) → Q true) ∧ ((¬ (gI σ (a0 + 3) ((p1 * 8) + r2).toNatClampNeg) = 3) → ((p1 = 0) → Q true) ∧ ((¬ p1 = 0) → P_X3_leftAt (p0) (p1 - 1) σ (fun r77 => ((r2 < r77) → Q false) ∧ ((¬ r2 < r77) → Q true))))) ∧ ((¬ r54 ≤ r2) → Q false)))) ∧ ((¬ (gI σ (a0 + 3) ((p1 * 8) + r2).toNatClampNeg) = 4) → (((gI σ (a0 + 3) ((p1 * 8) + r2).toNatClampNeg) = 3) → ((3 ≤ p1) → (((gI σ (a0 + 3) ((p1 * 8) + r2).toNatClampNeg) = 3) → Q true) ∧ ((¬ (gI σ (a0 + 3) ((p1 * 8) + r2).toNatClampNeg) = 3) → ((p1 = 0) → Q true) ∧ ((¬ p1 = 0) → P_X3_leftAt (p0) (p1 - 1) σ (fun r77 => ((r2 < r77) → Q false) ∧ ((¬ r2 < r77) → Q true))))) ∧ ((¬ 3 ≤ p1) → P_X3_leftAt (p0) (p1 + 1) σ (fun r54 => ((r54 ≤ r2) → (((gI σ (a0 + 3) ((p1 * 8) + r2).toNatClampNeg) = 3) → Q true) ∧ ((¬ (gI σ (a0 + 3) ((p1 * 8) + r2).toNatClampNeg) = 3) → ((p1 = 0) → Q true) ∧ ((¬ p1 = 0) → P_X3_leftAt (p0) (p1 - 1) σ (fun r77 => ((r2 < r77) → Q false) ∧ ((¬ r2 < r77) → Q true))))) ∧ ((¬ r54 ≤ r2) → Q false)))) ∧ ((¬ (gI σ (a0 + 3) ((p1 * 8) + r2).toNatClampNeg) = 3) → Q true)))) ∧ ((r2 = 0) → Q false))
def P_X3_nextCoin (a0 : Nat) (p0 : Int32) (p1 : Int32) (σ : St) (Q : Int32 → Prop) : Prop := P_X3_leftAt (p0) (p1) σ (fun r6 => vp_in (((p1 * 8) + r6) - 1) 32 ∧ vp_in ((p1 * 8) + r6) 32 ∧ Q ((gI σ (a0 + 2) (((p1 * 8) + r6) - 1).toNatClampNeg) - (gI σ (a0 + 2) ((p1 * 8) + r6).toNatClampNeg)))
def P_X3_pulledAt (a0 : Nat) (p0 : Int32) (σ : St) (Q : Int32 → Prop) : Prop := P_X3_stonesAt (gI σ a0 3) σ (fun r4 => P_X3_stonesAt (p0) σ (fun r8 => Q (r4 - r8)))
def P_X3_unlikeAt_l16 (l0 : Nat) (l1 : Int32) (K : Int32 → St → Prop) (Q : Int32 → Prop) : Nat → Int32 → Int32 → Int32 → St → Prop
  | 0, _, _, _, _ => False
  | n16 + 1, l2, l3, l4, σ => ((3 ≤ l4) → K (l2) σ) ∧ ((¬ 3 ≤ l4) → P_X3_leftAt (l1) (l4 + 1) σ (fun r38 => vp_in (((l4 + 1) * 8) + r38) 32 ∧ ((¬ (((gI σ l0 4) >>> (l4 &&& 31)) &&& 1) = 1) → P_X3_unlikeAt_l16 l0 l1 K Q n16 (l2) (gI σ (l0 + 1) (((l4 + 1) * 8) + r38).toNatClampNeg) (l4 + 1) σ) ∧ (((((gI σ l0 4) >>> (l4 &&& 31)) &&& 1) = 1) → P_X3_unlikeAt_l16 l0 l1 K Q n16 (mxI l2 (abI (l3 - (gI σ (l0 + 1) (((l4 + 1) * 8) + r38).toNatClampNeg)))) (gI σ (l0 + 1) (((l4 + 1) * 8) + r38).toNatClampNeg) (l4 + 1) σ)))
def P_X3_unlikeAt (a0 : Nat) (p0 : Int32) (σ : St) (Q : Int32 → Prop) : Prop := P_X3_leftAt (p0) (0) σ (fun r8 => vp_in r8 32 ∧ ∃ m16, P_X3_unlikeAt_l16 (a0) (p0) (fun k2 t79 => Q k2) Q m16 (0) (gI σ (a0 + 1) r8.toNatClampNeg) (0) σ)
def P_X1_fill_l92 (l1 : Nat) (l2 : Nat) (l3 : Int32) (l4 : Int32) (K : St → Prop) (Q : Int32 → St → Prop) : Nat → Int32 → St → Prop
  | 0, _, _ => False
  | n92 + 1, l5, σ => ((4 ≤ l5) → K  σ) ∧ ((¬ 4 ≤ l5) → P_X3_lowestMayGo l1 (l4) (l5) σ (fun r103 => ((r103 = false) → P_X1_fill_l92 l1 l2 l3 l4 K Q n92 (l5 + 1) σ) ∧ ((r103 = true) → P_X3_pulledAt l1 (l4) σ (fun r117 => P_X3_nextCoin l1 (l4) (l5) σ (fun r125 => P_X2_tells l2 (r117) (r125) σ (fun r128 => ((r128 = false) → P_X1_fill_l92 l1 l2 l3 l4 K Q n92 (l5 + 1) σ) ∧ ((r128 = true) → P_X3_unit (l5) σ (fun r142 => vp_in (l4 - r142) 4096 ∧ vp_in l4 4096 ∧ vp_in (l4 - r142) 4096 ∧ P_X1_fill_l92 l1 l2 l3 l4 K Q n92 (l5 + 1) (sL σ 24 ((l4 - r142).toNatClampNeg) ((gL σ 24 (l4 - r142).toNatClampNeg) + (gL σ 24 l4.toNatClampNeg)))))))))))
def P_X1_fill_l33 (l1 : Nat) (l2 : Nat) (K : Int32 → St → Prop) (Q : Int32 → St → Prop) : Nat → Int32 → Int32 → St → Prop
  | 0, _, _, _ => False
  | n33 + 1, l3, l4, σ => ((l4 < 0) → K (l3) σ) ∧ ((¬ l4 < 0) → vp_in l4 4096 ∧ ((¬ (lg_cmp (gL σ 24 l4.toNatClampNeg) 0) = 0) → ((l4 = (gI σ l1 3)) → ∃ m92, P_X1_fill_l92 (l1) (l2) (l3 + 1) (l4) (fun  t163 => P_X1_fill_l33 l1 l2 K Q n33 (l3 + 1) (l4 + (-1)) t163) Q m92 (0) σ) ∧ ((¬ l4 = (gI σ l1 3)) → P_X3_unlikeAt l1 (l4) σ (fun r65 => ((r65 ≤ (gI σ l1 5)) → ∃ m92, P_X1_fill_l92 (l1) (l2) (l3 + 1) (l4) (fun  t163 => P_X1_fill_l33 l1 l2 K Q n33 (l3 + 1) (l4 + (-1)) t163) Q m92 (0) σ) ∧ ((¬ r65 ≤ (gI σ l1 5)) → vp_in l4 4096 ∧ P_X1_fill_l33 l1 l2 K Q n33 (l3) (l4 + (-1)) (sL σ 24 (l4.toNatClampNeg) 0))))) ∧ (((lg_cmp (gL σ 24 l4.toNatClampNeg) 0) = 0) → P_X1_fill_l33 l1 l2 K Q n33 (l3) (l4 + (-1)) σ))
def P_X1_fill (p0 : Nat) (p1 : Nat) (σ : St) (Q : Int32 → St → Prop) : Prop := P_J7_fill_bad5a 24 (0) ((gI σ p0 3) + 1) (0) σ (fun t12 => vp_in (gI t12 p0 3) 4096 ∧ ∃ m33, P_X1_fill_l33 (p0) (p1) (fun k3 t169 => Q k3 t169) Q m33 (0) (gI (sL t12 24 ((gI t12 p0 3).toNatClampNeg) 1) p0 3) (sL t12 24 ((gI t12 p0 3).toNatClampNeg) 1))
def P_X3_canPullAt (a0 : Nat) (p0 : Int32) (p1 : Int32) (σ : St) (Q : Bool → Prop) : Prop := P_X3_lowestMayGo a0 (p0) (p1) σ (fun r3 => ((r3 = false) → Q false) ∧ ((r3 = true) → P_X3_unit (p1) σ (fun r12 => P_X3_unlikeAt a0 (p0 - r12) σ (fun r16 => (((gI σ a0 5) < r16) → Q false) ∧ ((¬ (gI σ a0 5) < r16) → Q true)))))
def P_X1_leadFrom_l2 (l1 : Nat) (l2 : Int32) (K : St → Prop) (Q : Int32 → Prop) : Nat → Int32 → St → Prop
  | 0, _, _ => False
  | n2 + 1, l3, σ => ((4 ≤ l3) → K  σ) ∧ ((¬ 4 ≤ l3) → P_X3_canPullAt l1 (l2) (l3) σ (fun r10 => ((r10 = false) → P_X1_leadFrom_l2 l1 l2 K Q n2 (l3 + 1) σ) ∧ ((r10 = true) → P_X3_unit (l3) σ (fun r22 => vp_in (l2 - r22) 4096 ∧ (((lg_cmp (gL σ 24 (l2 - r22).toNatClampNeg) 0) ≤ 0) → P_X1_leadFrom_l2 l1 l2 K Q n2 (l3 + 1) σ) ∧ ((¬ (lg_cmp (gL σ 24 (l2 - r22).toNatClampNeg) 0) ≤ 0) → Q l3)))))
def P_X1_leadFrom (p0 : Nat) (p1 : Int32) (σ : St) (Q : Int32 → Prop) : Prop := ∃ m2, P_X1_leadFrom_l2 (p0) (p1) (fun  t40 => Q ((-1))) Q m2 (0) σ
def P_X3_isPartOf_l15 (l0 : Int32) (l1 : Int32) (K : St → Prop) (Q : Bool → Prop) : Nat → Int32 → St → Prop
  | 0, _, _ => False
  | n15 + 1, l2, σ => ((4 ≤ l2) → K  σ) ∧ ((¬ 4 ≤ l2) → P_X3_leftAt (l0) (l2) σ (fun r22 => P_X3_leftAt (l1) (l2) σ (fun r27 => ((r22 ≤ r27) → P_X3_isPartOf_l15 l0 l1 K Q n15 (l2 + 1) σ) ∧ ((¬ r22 ≤ r27) → Q false))))
def P_X3_isPartOf (p0 : Int32) (p1 : Int32) (σ : St) (Q : Bool → Prop) : Prop := ((p0 < 0) → Q false) ∧ ((¬ p0 < 0) → ((p0 < 4096) → ∃ m15, P_X3_isPartOf_l15 (p0) (p1) (fun  t41 => Q true) Q m15 (0) σ) ∧ ((¬ p0 < 4096) → Q false))
def P_X1_lead_l26 (l1 : Nat) (K : St → Prop) (Q : St → Prop) : Nat → Int32 → St → Prop
  | 0, _, _ => False
  | n26 + 1, l3, σ => (((gI σ l1 3) < l3) → K  σ) ∧ ((¬ (gI σ l1 3) < l3) → P_X3_isPartOf (l3) (gI σ l1 3) σ (fun r39 => ((r39 = false) → P_X1_lead_l26 l1 K Q n26 (l3 + 1) σ) ∧ ((r39 = true) → P_X1_leadFrom l1 (l3) σ (fun r48 => ((r48 < 0) → P_X1_lead_l26 l1 K Q n26 (l3 + 1) σ) ∧ ((¬ r48 < 0) → vp_in l3 4096 ∧ P_X1_lead_l26 l1 K Q n26 (l3 + 1) (sL σ 24 (l3.toNatClampNeg) 1))))))
def P_X1_lead (p0 : Nat) (p1 : Int32) (σ : St) (Q : St → Prop) : Prop := P_J7_fill_bad5a 24 (0) ((gI σ p0 3) + 1) (0) σ (fun t12 => vp_in p1 4096 ∧ ∃ m26, P_X1_lead_l26 (p0) (fun  t67 => Q t67) Q m26 (p1 + 1) (sL t12 24 (p1.toNatClampNeg) 1))
def P_X1_leastStand_l10  (K : Int32 → St → Prop) (Q : Int32 → Prop) : Nat → Int32 → Int32 → St → Prop
  | 0, _, _, _ => False
  | n10 + 1, l2, l3, σ => ((l3 < 0) → K (l2) σ) ∧ ((¬ l3 < 0) → vp_in l3 4096 ∧ (((lg_cmp (gL σ 24 l3.toNatClampNeg) 0) ≤ 0) → P_X1_leastStand_l10 K Q n10 (l2) (l3 + (-1)) σ) ∧ ((¬ (lg_cmp (gL σ 24 l3.toNatClampNeg) 0) ≤ 0) → P_X3_stonesAt (l3) σ (fun r26 => P_X3_stonesAt (l2) σ (fun r30 => ((r30 < r26) → P_X1_leastStand_l10 K Q n10 (l2) (l3 + (-1)) σ) ∧ ((¬ r30 < r26) → P_X1_leastStand_l10 K Q n10 (l3) (l3 + (-1)) σ)))))
def P_X1_leastStand (p0 : Nat) (σ : St) (Q : Int32 → Prop) : Prop := ∃ m10, P_X1_leastStand_l10  (fun k2 t44 => Q k2) Q m10 (gI σ p0 3) (gI σ p0 3) σ
def P_X1_fewestPulls_l6 (l1 : Nat) (l2 : Int32) (l3 : Int32) (K : Int32 → St → Prop) (Q : Int32 → Prop) : Nat → Int32 → Int32 → St → Prop
  | 0, _, _, _ => False
  | n6 + 1, l4, l5, σ => (((gI σ l1 3) < l5) → K (l4) σ) ∧ ((¬ (gI σ l1 3) < l5) → vp_in l5 4096 ∧ (((lg_cmp (gL σ 24 l5.toNatClampNeg) 0) ≤ 0) → P_X1_fewestPulls_l6 l1 l2 l3 K Q n6 (l4) (l5 + 1) σ) ∧ ((¬ (lg_cmp (gL σ 24 l5.toNatClampNeg) 0) ≤ 0) → P_X3_leftAt (l5) (l2) σ (fun r30 => ((¬ r30 = l3) → P_X1_fewestPulls_l6 l1 l2 l3 K Q n6 (l4) (l5 + 1) σ) ∧ ((r30 = l3) → P_X3_pulledAt l1 (l5) σ (fun r40 => ((0 ≤ l4) → P_X1_fewestPulls_l6 l1 l2 l3 K Q n6 (mnI l4 r40) (l5 + 1) σ) ∧ ((¬ 0 ≤ l4) → P_X1_fewestPulls_l6 l1 l2 l3 K Q n6 (r40) (l5 + 1) σ))))))
def P_X1_fewestPulls (p0 : Nat) (p1 : Int32) (p2 : Int32) (σ : St) (Q : Int32 → Prop) : Prop := ∃ m6, P_X1_fewestPulls_l6 (p0) (p1) (p2) (fun k4 t70 => Q k4) Q m6 ((-1)) (0) σ
def P_X1_fewestLeft_l6 (l1 : Nat) (l2 : Int32) (K : Int32 → St → Prop) (Q : Int32 → Prop) : Nat → Int32 → Int32 → St → Prop
  | 0, _, _, _ => False
  | n6 + 1, l3, l4, σ => (((gI σ l1 3) < l4) → K (l3) σ) ∧ ((¬ (gI σ l1 3) < l4) → vp_in l4 4096 ∧ (((lg_cmp (gL σ 24 l4.toNatClampNeg) 0) ≤ 0) → P_X1_fewestLeft_l6 l1 l2 K Q n6 (l3) (l4 + 1) σ) ∧ ((¬ (lg_cmp (gL σ 24 l4.toNatClampNeg) 0) ≤ 0) → P_X3_leftAt (l4) (l2) σ (fun r31 => P_X1_fewestLeft_l6 l1 l2 K Q n6 (mnI l3 r31) (l4 + 1) σ)))
def P_X1_fewestLeft (p0 : Nat) (p1 : Int32) (σ : St) (Q : Int32 → Prop) : Prop := ∃ m6, P_X1_fewestLeft_l6 (p0) (p1) (fun k3 t44 => Q k3) Q m6 (7) (0) σ
def P_J7_fill_53178_l5 (l0 : Nat) (l1 : Int32) (l3 : Int32) (K : St → Prop) (Q : St → Prop) : Nat → Int32 → St → Prop
  | 0, _, _ => False
  | n5 + 1, l2, σ => ((l3 ≤ l2) → K  σ) ∧ ((¬ l3 ≤ l2) → vp_in l2 (ln l0) ∧ P_J7_fill_53178_l5 l0 l1 l3 K Q n5 (l2 + 1) (sI σ l0 (l2.toNatClampNeg) l1))
def P_J7_fill_53178 (p0 : Nat) (p1 : Int32) (σ : St) (Q : St → Prop) : Prop := ∃ m5, P_J7_fill_53178_l5 (p0) (p1) (Int32.ofNat (ln p0)) (fun  t20 => Q t20) Q m5 (0) σ
def P_X3_coinAt_l4 (l0 : Nat) (l1 : Int32) (K : Int32 → St → Prop) (Q : Int32 → Prop) : Nat → Int32 → Int32 → St → Prop
  | 0, _, _, _ => False
  | n4 + 1, l2, l3, σ => ((4 ≤ l3) → K (l2) σ) ∧ ((¬ 4 ≤ l3) → P_X3_leftAt (l1) (l3) σ (fun r20 => vp_in ((l3 * 8) + r20) 32 ∧ P_X3_coinAt_l4 l0 l1 K Q n4 (l2 + (gI σ (l0 + 2) ((l3 * 8) + r20).toNatClampNeg)) (l3 + 1) σ))
def P_X3_coinAt (a0 : Nat) (p0 : Int32) (σ : St) (Q : Int32 → Prop) : Prop := ∃ m4, P_X3_coinAt_l4 (a0) (p0) (fun k2 t33 => Q k2) Q m4 (0) (0) σ
def P_X1_rank_l10 (l1 : Nat) (K : St → Prop) (Q : St → Prop) : Nat → Int32 → St → Prop
  | 0, _, _ => False
  | n10 + 1, l2, σ => (((gI σ l1 3) < l2) → K  σ) ∧ ((¬ (gI σ l1 3) < l2) → vp_in l2 4096 ∧ (((lg_cmp (gL σ 24 l2.toNatClampNeg) 0) ≤ 0) → P_X1_rank_l10 l1 K Q n10 (l2 + 1) σ) ∧ ((¬ (lg_cmp (gL σ 24 l2.toNatClampNeg) 0) ≤ 0) → P_X3_pulledAt l1 (l2) σ (fun r31 => vp_in r31 29 ∧ (((gI σ 25 r31.toNatClampNeg) < 0) → vp_in r31 29 ∧ P_X1_rank_l10 l1 K Q n10 (l2 + 1) (sI σ 25 (r31.toNatClampNeg) l2)) ∧ ((¬ (gI σ 25 r31.toNatClampNeg) < 0) → P_X3_coinAt l1 (l2) σ (fun r46 => vp_in r31 29 ∧ P_X3_coinAt l1 (gI σ 25 r31.toNatClampNeg) σ (fun r56 => ((r46 ≤ r56) → P_X1_rank_l10 l1 K Q n10 (l2 + 1) σ) ∧ ((¬ r46 ≤ r56) → vp_in r31 29 ∧ P_X1_rank_l10 l1 K Q n10 (l2 + 1) (sI σ 25 (r31.toNatClampNeg) l2))))))))
def P_X1_rank (p0 : Nat) (σ : St) (Q : St → Prop) : Prop := P_J7_fill_53178 25 ((-1)) σ (fun t5 => ∃ m10, P_X1_rank_l10 (p0) (fun  t75 => Q t75) Q m10 (0) t5)
def P_X1_bestUpTo_l8 (l1 : Nat) (l2 : Int32) (K : Int32 → St → Prop) (Q : Int32 → Prop) : Nat → Int32 → Int32 → St → Prop
  | 0, _, _, _ => False
  | n8 + 1, l3, l4, σ => ((l2 < l4) → K (l3) σ) ∧ ((¬ l2 < l4) → vp_in l4 29 ∧ (((gI σ 25 l4.toNatClampNeg) < 0) → P_X1_bestUpTo_l8 l1 l2 K Q n8 (l3) (l4 + 1) σ) ∧ ((¬ (gI σ 25 l4.toNatClampNeg) < 0) → P_X3_coinAt l1 (gI σ 25 l4.toNatClampNeg) σ (fun r31 => P_X3_coinAt l1 (l3) σ (fun r36 => ((r31 ≤ r36) → P_X1_bestUpTo_l8 l1 l2 K Q n8 (l3) (l4 + 1) σ) ∧ ((¬ r31 ≤ r36) → P_X1_bestUpTo_l8 l1 l2 K Q n8 (gI σ 25 l4.toNatClampNeg) (l4 + 1) σ)))))
def P_X1_bestUpTo (p0 : Nat) (p1 : Int32) (σ : St) (Q : Int32 → Prop) : Prop := ∃ m8, P_X1_bestUpTo_l8 (p0) (p1) (fun k3 t51 => Q k3) Q m8 (gI σ p0 3) (1) σ
def P_X1_waysBy_l5 (l1 : Nat) (l2 : Int32) (K : Int64 → St → Prop) (Q : Int64 → Prop) : Nat → Int64 → Int32 → St → Prop
  | 0, _, _, _ => False
  | n5 + 1, l3, l5, σ => (((gI σ l1 3) < l5) → K (l3) σ) ∧ ((¬ (gI σ l1 3) < l5) → vp_in l5 4096 ∧ (((lg_cmp (gL σ 24 l5.toNatClampNeg) 0) ≤ 0) → P_X1_waysBy_l5 l1 l2 K Q n5 (l3) (l5 + 1) σ) ∧ ((¬ (lg_cmp (gL σ 24 l5.toNatClampNeg) 0) ≤ 0) → P_X3_pulledAt l1 (l5) σ (fun r29 => ((¬ r29 = l2) → P_X1_waysBy_l5 l1 l2 K Q n5 (l3) (l5 + 1) σ) ∧ ((r29 = l2) → vp_in l5 4096 ∧ P_X1_waysBy_l5 l1 l2 K Q n5 (l3 + (gL σ 24 l5.toNatClampNeg)) (l5 + 1) σ))))
def P_X1_waysBy (p0 : Nat) (p1 : Int32) (σ : St) (Q : Int64 → Prop) : Prop := ∃ m5, P_X1_waysBy_l5 (p0) (p1) (fun k3 t52 => Q k3) Q m5 (0) (0) σ
def P_J7_fill_d0a16_l6 (l0 : Nat) (l1 : Int64) (l4 : Int32) (K : St → Prop) (Q : St → Prop) : Nat → Int32 → St → Prop
  | 0, _, _ => False
  | n6 + 1, l3, σ => ((l4 ≤ l3) → K  σ) ∧ ((¬ l4 ≤ l3) → vp_in l3 (ln l0) ∧ P_J7_fill_d0a16_l6 l0 l1 l4 K Q n6 (l3 + 1) (sL σ l0 (l3.toNatClampNeg) l1))
def P_J7_fill_d0a16 (p0 : Nat) (p1 : Int64) (σ : St) (Q : St → Prop) : Prop := ∃ m6, P_J7_fill_d0a16_l6 (p0) (p1) (Int32.ofNat (ln p0)) (fun  t22 => Q t22) Q m6 (0) σ
def P_X2_layOut (a0 : Nat) (p0 : Int32) (p1 : Int32) (σ : St) (Q : St → Prop) : Prop := ((¬ p0 = 0) → P_J7_fill_d0a16 (a0 + 1) (0) (sI (sI σ a0 1 p0) a0 2 p1) (fun t23 => Q t23)) ∧ ((p0 = 0) → P_J7_fill_d0a16 (a0 + 1) (0) (sI (sI σ a0 1 p0) a0 2 0) (fun t23 => Q t23))
def P_X2_put (a0 : Nat) (p0 : Int32) (p1 : Int64) (σ : St) (Q : St → Prop) : Prop := vp_in p0 40 ∧ Q (sL σ (a0 + 1) (p0.toNatClampNeg) ((p1 <<< ((64 - (gI σ a0 1) : Int32).toInt64 &&& 63)) >>> ((64 - (gI σ a0 1) : Int32).toInt64 &&& 63)))
def P_X2_hasPart (a0 : Nat) (p0 : Int32) (p1 : Int32) (σ : St) (Q : Bool → Prop) : Prop := ((p0 < 0) → Q false) ∧ ((¬ p0 < 0) → ((p1 < 0) → Q false) ∧ ((¬ p1 < 0) → (((gI σ a0 2) < p1) → Q false) ∧ ((¬ (gI σ a0 2) < p1) → ((((gI σ a0 2) - p1) < p0) → Q false) ∧ ((¬ ((gI σ a0 2) - p1) < p0) → Q true))))
def P_X3_measure_l70 (l0 : Nat) (l1 : Nat) (l2 : Int32) (l3 : Int32) (l4 : Int32) (K : St → Prop) (Q : St → Prop) : Nat → Int32 → St → Prop
  | 0, _, _ => False
  | n70 + 1, l5, σ => ((l3 < l5) → K  σ) ∧ ((¬ l3 < l5) → vp_in ((l4 + l5) - 1) 32 ∧ P_X0_tallOf l1 (l2) (l3 - l5) σ (fun r103 => vp_in (l4 + l5) 32 ∧ (∀ s107, s107 = sI σ (l0 + 1) ((l4 + l5).toNatClampNeg) ((gI σ (l0 + 1) ((l4 + l5) - 1).toNatClampNeg) + r103) → P_X0_place (l2) (l3 - l5) s107 (fun r126 => vp_in r126 28 ∧ vp_in (l4 + l5) 32 ∧ P_X3_measure_l70 l0 l1 l2 l3 l4 K Q n70 (l5 + 1) (sI s107 (l0 + 3) ((l4 + l5).toNatClampNeg) (gI s107 (l1 + 1) r126.toNatClampNeg))))))
def P_X3_measure_l140 (l0 : Nat) (l1 : Nat) (l2 : Int32) (l3 : Int32) (l4 : Int32) (K : St → Prop) (Q : St → Prop) : Nat → Int32 → St → Prop
  | 0, _, _ => False
  | n140 + 1, l5, σ => ((l5 ≤ 0) → K  σ) ∧ ((¬ l5 ≤ 0) → vp_in (l4 + l5) 32 ∧ P_X0_coinOf l1 (l2) (l3 - l5) σ (fun r172 => vp_in ((l4 + l5) - 1) 32 ∧ P_X3_measure_l140 l0 l1 l2 l3 l4 K Q n140 (l5 + (-1)) (sI σ (l0 + 2) (((l4 + l5) - 1).toNatClampNeg) ((gI σ (l0 + 2) (l4 + l5).toNatClampNeg) + r172))))
def P_X3_measure_l26 (l0 : Nat) (l1 : Nat) (K : St → Prop) (Q : St → Prop) : Nat → Int32 → St → Prop
  | 0, _, _ => False
  | n26 + 1, l2, σ => ((4 ≤ l2) → K  σ) ∧ ((¬ 4 ≤ l2) → vp_in l2 4 ∧ vp_in l2 4 ∧ vp_in (l2 * 8) 32 ∧ vp_in ((l2 * 8) + (gI σ (l1 + 4) l2.toNatClampNeg)) 32 ∧ ∃ m70, P_X3_measure_l70 (l0) (l1) (l2) (gI σ (l1 + 4) l2.toNatClampNeg) (l2 * 8) (fun  t137 => ∃ m140, P_X3_measure_l140 (l0) (l1) (l2) (gI σ (l1 + 4) l2.toNatClampNeg) (l2 * 8) (fun  t183 => P_X3_measure_l26 l0 l1 K Q n26 (l2 + 1) t183) Q m140 (gI σ (l1 + 4) l2.toNatClampNeg) t137) Q m70 (1) (sI (sI σ (l0 + 1) ((l2 * 8).toNatClampNeg) (gI σ (l1 + 5) l2.toNatClampNeg)) (l0 + 2) (((l2 * 8) + (gI σ (l1 + 4) l2.toNatClampNeg)).toNatClampNeg) 0))
def P_X3_measure (a0 : Nat) (p0 : Nat) (σ : St) (Q : St → Prop) : Prop := P_X0_standNow p0 σ (fun r2 => (∀ s5, s5 = sI σ a0 3 r2 → ∃ m26, P_X3_measure_l26 (a0) (p0) (fun  t189 => Q t189) Q m26 (0) (sI (sI s5 a0 4 (gI s5 p0 5)) a0 5 (gI (sI s5 a0 4 (gI s5 p0 5)) p0 6))))
def P_X4_append (p0 : Int32) (σ : St) (Q : St → Prop) : Prop := vp_in (gI σ 27 1) 120 ∧ Q (sI (sI σ 28 ((gI σ 27 1).toNatClampNeg) p0) 27 1 ((gI (sI σ 28 ((gI σ 27 1).toNatClampNeg) p0) 27 1) + 1))
def P_X6_isWithin (p0 : Int32) (p1 : Int32) (p2 : Int32) (σ : St) (Q : Bool → Prop) : Prop := ((p0 < p1) → Q false) ∧ ((¬ p0 < p1) → ((p2 < p0) → Q false) ∧ ((¬ p2 < p0) → Q true))
def P_X4_isDigit (p0 : Int32) (σ : St) (Q : Bool → Prop) : Prop := vp_in p0 120 ∧ P_X6_isWithin (gI σ 28 p0.toNatClampNeg) (48) (57) σ (fun r10 => Q r10)
def P_X4_isLetter (p0 : Int32) (σ : St) (Q : Bool → Prop) : Prop := vp_in p0 120 ∧ P_X6_isWithin (gI σ 28 p0.toNatClampNeg) (97) (122) σ (fun r10 => Q r10)
def P_X4_skipDigits_l5  (K : St → Prop) (Q : St → Prop) : Nat → St → Prop
  | 0, _ => False
  | n5 + 1, σ => (((gI σ 27 1) ≤ (gI σ 27 5)) → K  σ) ∧ ((¬ (gI σ 27 1) ≤ (gI σ 27 5)) → P_X4_isDigit (gI σ 27 5) σ (fun r21 => ((r21 = false) → K  σ) ∧ ((r21 = true) → vp_in (gI σ 27 5) 120 ∧ P_X4_skipDigits_l5 K Q n5  (sI (sI σ 27 4 (mnI 1000 (((10 * (gI σ 27 4)) + (gI σ 28 (gI σ 27 5).toNatClampNeg)) - 48))) 27 5 ((gI (sI σ 27 4 (mnI 1000 (((10 * (gI σ 27 4)) + (gI σ 28 (gI σ 27 5).toNatClampNeg)) - 48))) 27 5) + 1)))))
def P_X4_skipDigits  (σ : St) (Q : St → Prop) : Prop := ∃ m5, P_X4_skipDigits_l5  (fun  t70 => Q t70) Q m5  (sI σ 27 4 0)
def P_X4_skipLetters_l0  (K : St → Prop) (Q : St → Prop) : Nat → St → Prop
  | 0, _ => False
  | n0 + 1, σ => (((gI σ 27 1) ≤ (gI σ 27 5)) → K  σ) ∧ ((¬ (gI σ 27 1) ≤ (gI σ 27 5)) → P_X4_isLetter (gI σ 27 5) σ (fun r16 => ((r16 = false) → K  σ) ∧ ((r16 = true) → P_X4_skipLetters_l0 K Q n0  (sI σ 27 5 ((gI σ 27 5) + 1)))))
def P_X4_skipLetters  (σ : St) (Q : St → Prop) : Prop := ∃ m0, P_X4_skipLetters_l0  (fun  t35 => Q t35) Q m0  σ
def P_X4_step_l8  (K : St → Prop) (Q : St → Prop) : Nat → St → Prop
  | 0, _ => False
  | n8 + 1, σ => (((gI σ 27 1) ≤ (gI σ 27 3)) → K  σ) ∧ ((¬ (gI σ 27 1) ≤ (gI σ 27 3)) → vp_in (gI σ 27 3) 120 ∧ ((¬ (gI σ 28 (gI σ 27 3).toNatClampNeg) = 32) → K  σ) ∧ (((gI σ 28 (gI σ 27 3).toNatClampNeg) = 32) → P_X4_step_l8 K Q n8  (sI σ 27 3 ((gI σ 27 3) + 1))))
def P_X4_step  (σ : St) (Q : St → Prop) : Prop := ∃ m8, P_X4_step_l8  (fun  t46 => (∀ s51, s51 = sI t46 27 5 (gI t46 27 3) → (((gI s51 27 3) < (gI s51 27 1)) → P_X4_isLetter (gI s51 27 3) s51 (fun r78 => ((r78 = false) → P_X4_isDigit (gI s51 27 3) s51 (fun r101 => ((r101 = false) → vp_in (gI s51 27 3) 120 ∧ ((¬ (gI s51 28 (gI s51 27 3).toNatClampNeg) = 59) → Q (sI (sI s51 27 2 4) 27 5 ((gI (sI s51 27 2 4) 27 5) + 1))) ∧ (((gI s51 28 (gI s51 27 3).toNatClampNeg) = 59) → Q (sI (sI s51 27 2 3) 27 5 ((gI (sI s51 27 2 3) 27 5) + 1)))) ∧ ((r101 = true) → P_X4_skipDigits  (sI s51 27 2 2) (fun t113 => Q t113)))) ∧ ((r78 = true) → P_X4_skipLetters  (sI s51 27 2 1) (fun t90 => Q t90)))) ∧ ((¬ (gI s51 27 3) < (gI s51 27 1)) → Q (sI s51 27 2 0)))) Q m8  (sI σ 27 3 (gI σ 27 5))
def P_X4_rewind  (σ : St) (Q : St → Prop) : Prop := P_X4_step  (sI σ 27 5 0) (fun t6 => Q t6)
def P_X4_isNumber (p0 : Int32) (p1 : Int32) (σ : St) (Q : Bool → Prop) : Prop := ((¬ (gI σ 27 2) = 2) → Q false) ∧ (((gI σ 27 2) = 2) → P_X6_isWithin (gI σ 27 4) (p0) (p1) σ (fun r14 => ((r14 = false) → Q false) ∧ ((r14 = true) → Q true)))
def P_J0_isLatin1_aae02 (a0 : Nat) (σ : St) (Q : Bool → Prop) : Prop := Q true
def P_J1_charAt_3b067 (p0 : Nat) (p1 : Int32) (σ : St) (Q : Int32 → Prop) : Prop := False
def P_J0_charAt_5068e (a0 : Nat) (p0 : Int32) (σ : St) (Q : Int32 → Prop) : Prop := P_J0_isLatin1_aae02 a0 σ (fun r1 => ((r1 = false) → False) ∧ ((r1 = true) → P_J1_charAt_3b067 a0 (p0) σ (fun r12 => (narrow .char (.int r12) = .int r12) ∧ Q r12)))
def P_J0_coder_7d493 (a0 : Nat) (σ : St) (Q : Int32 → Prop) : Prop := Q 0
def P_J0_length_8abf5 (a0 : Nat) (σ : St) (Q : Int32 → Prop) : Prop := P_J0_coder_7d493 a0 σ (fun r6 => Q ((Int32.ofNat (stLen.getD a0 0)) >>> (r6 &&& 31)))
def P_X4_isWord_l28 (l1 : Nat) (K : St → Prop) (Q : Bool → Prop) : Nat → Int32 → St → Prop
  | 0, _, _ => False
  | n28 + 1, l2, σ => P_J0_length_8abf5 l1 σ (fun r30 => ((r30 ≤ l2) → K  σ) ∧ ((¬ r30 ≤ l2) → vp_in ((gI σ 27 3) + l2) 120 ∧ P_J0_charAt_5068e l1 (l2) σ (fun r49 => (((gI σ 28 ((gI σ 27 3) + l2).toNatClampNeg) = r49) → P_X4_isWord_l28 l1 K Q n28 (l2 + 1) σ) ∧ ((¬ (gI σ 28 ((gI σ 27 3) + l2).toNatClampNeg) = r49) → Q false))))
def P_X4_isWord (p0 : Nat) (σ : St) (Q : Bool → Prop) : Prop := ((¬ (gI σ 27 2) = 1) → Q false) ∧ (((gI σ 27 2) = 1) → P_J0_length_8abf5 p0 σ (fun r18 => ((((gI σ 27 5) - (gI σ 27 3)) = r18) → ∃ m28, P_X4_isWord_l28 (p0) (fun  t63 => Q true) Q m28 (0) σ) ∧ ((¬ ((gI σ 27 5) - (gI σ 27 3)) = r18) → Q false)))
def P_X5_nameOf (p0 : Int32) (σ : St) (Q : Nat → Prop) : Prop := (p0 = 1 → Q 0) ∧ (p0 = 2 → Q 1) ∧ (p0 = 3 → Q 2) ∧ (p0 = 4 → Q 3) ∧ (p0 = 5 → Q 4) ∧ ((¬ p0 = 1 ∧ ¬ p0 = 2 ∧ ¬ p0 = 3 ∧ ¬ p0 = 4 ∧ ¬ p0 = 5) → Q 5)
def P_X5_tellBeam  (σ : St) (Q : Bool → St → Prop) : Prop := P_X4_isNumber (0) (2) σ (fun r6 => ((r6 = true) → P_X4_step  σ (fun t26 => P_X4_isWord 9 t26 (fun r35 => ((r35 = true) → P_X0_layBeam 29 (gI σ 27 4) r35 t26 (fun t63 => P_X4_step  t63 (fun t70 => Q true t70))) ∧ ((r35 = false) → P_X4_isWord 10 t26 (fun r49 => ((r49 = true) → P_X0_layBeam 29 (gI σ 27 4) r35 t26 (fun t63 => P_X4_step  t63 (fun t70 => Q true t70))) ∧ ((r49 = false) → Q false t26)))))) ∧ ((r6 = false) → Q false σ))
def P_X5_tellPulls_l15  (K : St → Prop) (Q : Bool → St → Prop) : Nat → Int32 → St → Prop
  | 0, _, _ => False
  | n15 + 1, l1, σ => ((120 ≤ l1) → K  σ) ∧ ((¬ 120 ≤ l1) → ((¬ (gI σ 27 2) = 2) → K  σ) ∧ (((gI σ 27 2) = 2) → P_X4_isNumber (0) (3) σ (fun r38 => ((r38 = true) → P_X3_measure 35 29 σ (fun t54 => P_X3_canPullAt 35 (gI t54 35 3) (gI t54 27 4) t54 (fun r75 => ((r75 = true) → P_X0_takeLowest 29 (gI t54 27 4) t54 (fun t94 => P_X4_step  t94 (fun t101 => P_X5_tellPulls_l15 K Q n15 (l1 + 1) t101))) ∧ ((r75 = false) → Q false t54)))) ∧ ((r38 = false) → Q false σ))))
def P_X5_tellPulls  (σ : St) (Q : Bool → St → Prop) : Prop := (((gI σ 27 2) = 2) → ∃ m15, P_X5_tellPulls_l15  (fun  t110 => Q true t110) Q m15 (0) σ) ∧ ((¬ (gI σ 27 2) = 2) → Q false σ)
def P_X5_tellSlack  (σ : St) (Q : Bool → St → Prop) : Prop := P_X4_isNumber (0) (99) σ (fun r7 => ((r7 = true) → P_X4_step  (sI σ 29 6 (gI σ 27 4)) (fun t33 => Q true t33)) ∧ ((r7 = false) → Q false σ))
def P_X5_tellStone (p0 : Int32) (σ : St) (Q : Bool → St → Prop) : Prop := P_X4_isNumber (0) (3) σ (fun r6 => ((r6 = false) → Q false σ) ∧ ((r6 = true) → vp_in (gI σ 27 4) 4 ∧ (((gI σ 33 (gI σ 27 4).toNatClampNeg) < 7) → P_X4_step  σ (fun t52 => P_X4_isWord 6 t52 (fun r61 => ((r61 = false) → P_X4_isWord 7 t52 (fun r110 => ((r110 = false) → P_X0_put 29 (p0) (gI σ 27 4) (5) (10) t52 (fun t164 => Q true t164)) ∧ ((r110 = true) → P_X4_step  t52 (fun t120 => P_X4_isNumber (0) (999) t120 (fun r131 => ((r131 = true) → P_X4_step  t120 (fun t152 => P_X0_put 29 (p0) (gI σ 27 4) (5) (gI t120 27 4) t152 (fun t164 => Q true t164))) ∧ ((r131 = false) → Q false t120)))))) ∧ ((r61 = true) → P_X4_step  t52 (fun t71 => P_X4_isNumber (1) (30) t71 (fun r81 => ((r81 = true) → P_X4_step  t71 (fun t101 => P_X4_isWord 7 t101 (fun r110 => ((r110 = false) → P_X0_put 29 (p0) (gI σ 27 4) (gI t71 27 4) (10) t101 (fun t164 => Q true t164)) ∧ ((r110 = true) → P_X4_step  t101 (fun t120 => P_X4_isNumber (0) (999) t120 (fun r131 => ((r131 = true) → P_X4_step  t120 (fun t152 => P_X0_put 29 (p0) (gI σ 27 4) (gI t71 27 4) (gI t120 27 4) t152 (fun t164 => Q true t164))) ∧ ((r131 = false) → Q false t120))))))) ∧ ((r81 = false) → Q false t71))))))) ∧ ((¬ (gI σ 33 (gI σ 27 4).toNatClampNeg) < 7) → Q false σ)))
def P_X5_tellWedge  (σ : St) (Q : Bool → St → Prop) : Prop := P_X4_isNumber (0) (3) σ (fun r6 => ((r6 = true) → P_X4_step  σ (fun t26 => P_X4_isNumber (0) (20) t26 (fun r36 => ((r36 = true) → vp_in (gI σ 27 4) 4 ∧ P_X4_step  (sI t26 34 ((gI σ 27 4).toNatClampNeg) (gI t26 27 4)) (fun t64 => Q true t64)) ∧ ((r36 = false) → Q false t26)))) ∧ ((r6 = false) → Q false σ))
def P_X5_tellItem_l2  (K : St → Prop) (Q : Bool → St → Prop) : Nat → Int32 → St → Prop
  | 0, _, _ => False
  | n2 + 1, l1, σ => ((6 ≤ l1) → K  σ) ∧ ((¬ 6 ≤ l1) → P_X5_nameOf (l1) σ (fun r13 => P_X4_isWord r13 σ (fun r16 => ((r16 = false) → P_X5_tellItem_l2 K Q n2 (l1 + 1) σ) ∧ ((r16 = true) → P_X4_step  σ (fun t26 => P_X5_tellStone (l1) t26 (fun r31 t31 => Q r31 t31))))))
def P_X5_tellItem  (σ : St) (Q : Bool → St → Prop) : Prop := ∃ m2, P_X5_tellItem_l2  (fun  t41 => P_X4_isWord 8 t41 (fun r47 => ((r47 = false) → P_X4_isWord 11 t41 (fun r71 => ((r71 = false) → P_X4_isWord 12 t41 (fun r95 => ((r95 = false) → P_X4_isWord 13 t41 (fun r119 => ((r119 = false) → Q false t41) ∧ ((r119 = true) → P_X4_step  t41 (fun t129 => P_X5_tellPulls  t129 (fun r133 t133 => Q r133 t133))))) ∧ ((r95 = true) → P_X4_step  t41 (fun t105 => P_X5_tellSlack  t105 (fun r109 t109 => Q r109 t109))))) ∧ ((r71 = true) → P_X4_step  t41 (fun t81 => P_X5_tellWedge  t81 (fun r85 t85 => Q r85 t85))))) ∧ ((r47 = true) → P_X4_step  t41 (fun t57 => P_X5_tellBeam  t57 (fun r61 t61 => Q r61 t61))))) Q m2 (0) σ
def P_X5_tell_l17  (K : St → Prop) (Q : Int32 → St → Prop) : Nat → Int32 → St → Prop
  | 0, _, _ => False
  | n17 + 1, l2, σ => ((120 < l2) → K  σ) ∧ ((¬ 120 < l2) → P_X5_tellItem  σ (fun r24 t24 => ((r24 = true) → ((¬ (gI t24 27 2) = 0) → (((gI t24 27 2) = 3) → P_X4_step  t24 (fun t63 => P_X5_tell_l17 K Q n17 (l2 + 1) t63)) ∧ ((¬ (gI t24 27 2) = 3) → K  t24)) ∧ (((gI t24 27 2) = 0) → Q l2 t24)) ∧ ((r24 = false) → K  t24)))
def P_X5_tell (p0 : Nat) (σ : St) (Q : Int32 → St → Prop) : Prop := P_X0_becomeLike 29 p0 σ (fun t5 => P_X4_rewind  t5 (fun t12 => ∃ m17, P_X5_tell_l17  (fun  t72 => Q (((-1)) - (gI t72 27 3)) t72) Q m17 (1) t12))
def P_X6_finding (p0 : Int32) (σ : St) (Q : Int32 → St → Prop) : Prop := P_X6_isWithin (((-1000000001)) - p0) (0) (6) σ (fun r9 => ((r9 = false) → Q p0 σ) ∧ ((r9 = true) → vp_in (((-1000000001)) - p0) 7 ∧ vp_in (((-1000000001)) - p0) 7 ∧ Q p0 (sI σ 40 ((((-1000000001)) - p0).toNatClampNeg) ((gI σ 40 (((-1000000001)) - p0).toNatClampNeg) + 1))))
def P_X6_isHigh (p0 : Int32) (σ : St) (Q : Bool → Prop) : Prop := P_X6_isWithin (p0) (1) (30) σ (fun r4 => Q r4)
def P_X6_isKind (p0 : Int32) (σ : St) (Q : Bool → Prop) : Prop := P_X6_isWithin (p0) (0) (5) σ (fun r3 => Q r3)
def P_X6_isWall (p0 : Int32) (σ : St) (Q : Bool → Prop) : Prop := P_X6_isWithin (p0) (0) (3) σ (fun r3 => Q r3)
def P_X6_stone (p0 : Int32) (p1 : Int32) (p2 : Int32) (σ : St) (Q : Int32 → St → Prop) : Prop := P_X6_isKind (p0) σ (fun r1 => ((r1 = false) → P_X6_finding ((-1000000001)) σ (fun r24 t24 => Q r24 t24)) ∧ ((r1 = true) → P_X6_isWall (p1) σ (fun r8 => ((r8 = false) → P_X6_finding ((-1000000001)) σ (fun r24 t24 => Q r24 t24)) ∧ ((r8 = true) → P_X6_isHigh (p2) σ (fun r15 => ((r15 = true) → vp_in p1 4 ∧ (((gI σ 5 p1.toNatClampNeg) < 7) → P_X0_put 1 (p0) (p1) (p2) (10) σ (fun t58 => vp_in p1 4 ∧ Q ((gI t58 5 p1.toNatClampNeg) - 1) t58)) ∧ ((¬ (gI σ 5 p1.toNatClampNeg) < 7) → P_X6_finding ((-1000000002)) σ (fun r45 t45 => Q r45 t45))) ∧ ((r15 = false) → P_X6_finding ((-1000000001)) σ (fun r24 t24 => Q r24 t24)))))))
def P_X6_wallOf (p0 : Int32) (p1 : Int32) (σ : St) (Q : Int32 → St → Prop) : Prop := P_X6_isWall (p0) σ (fun r1 => ((r1 = true) → (p1 = 0 → vp_in p0 4 ∧ Q (gI σ 5 p0.toNatClampNeg) σ) ∧ (p1 = 1 → vp_in p0 4 ∧ Q (gI σ 6 p0.toNatClampNeg) σ) ∧ (p1 = 2 → P_X0_topOf 1 (p0) σ (fun r69 => Q r69 σ)) ∧ (p1 = 3 → P_X0_coinsOf 1 (p0) σ (fun r78 => Q r78 σ)) ∧ ((¬ p1 = 0 ∧ ¬ p1 = 1 ∧ ¬ p1 = 2 ∧ ¬ p1 = 3) → P_X6_finding ((-1000000001)) σ (fun r85 t85 => Q r85 t85))) ∧ ((r1 = false) → P_X6_finding ((-1000000001)) σ (fun r10 t10 => Q r10 t10)))
def P_X6_asNumber (p0 : Bool) (σ : St) (Q : Int32 → Prop) : Prop := ((p0 = false) → Q 0) ∧ ((p0 = true) → Q 1)
def P_X6_isStone (p0 : Int32) (p1 : Int32) (σ : St) (Q : Bool → Prop) : Prop := P_X6_isWall (p0) σ (fun r1 => ((r1 = false) → Q false) ∧ ((r1 = true) → vp_in p0 4 ∧ P_X6_isWithin (p1) (0) ((gI σ 5 p0.toNatClampNeg) - 1) σ (fun r20 => ((r20 = false) → Q false) ∧ ((r20 = true) → Q true))))
def P_X6_mayGoAsLowest (p0 : Int32) (p1 : Int32) (σ : St) (Q : Bool → St → Prop) : Prop := P_X0_becomeLike 13 1 σ (fun t8 => P_X0_place (p0) (0) t8 (fun r20 => vp_in r20 28 ∧ P_X3_measure 19 13 (sI t8 14 (r20.toNatClampNeg) p1) (fun t33 => P_X3_lowestMayGo 19 (gI t33 19 3) (p0) t33 (fun r48 => Q r48 t33))))
def P_X6_of (p0 : Int32) (p1 : Int32) (p2 : Int32) (σ : St) (Q : Int32 → St → Prop) : Prop := P_X6_isStone (p0) (p1) σ (fun r3 => ((r3 = true) → P_X0_place (p0) (p1) σ (fun r18 => (p2 = 0 → vp_in r18 28 ∧ Q (gI σ 2 r18.toNatClampNeg) σ) ∧ (p2 = 1 → vp_in r18 28 ∧ Q (gI σ 3 r18.toNatClampNeg) σ) ∧ (p2 = 2 → vp_in r18 28 ∧ Q (gI σ 4 r18.toNatClampNeg) σ) ∧ (p2 = 3 → P_X0_tallOf 1 (p0) (p1) σ (fun r103 => Q r103 σ)) ∧ (p2 = 4 → P_X0_coinOf 1 (p0) (p1) σ (fun r113 => Q r113 σ)) ∧ (p2 = 5 → vp_in r18 28 ∧ P_X6_mayGoAsLowest (p0) (gI σ 2 r18.toNatClampNeg) σ (fun r129 t129 => P_X6_asNumber r129 t129 (fun r132 => Q r132 t129))) ∧ ((¬ p2 = 0 ∧ ¬ p2 = 1 ∧ ¬ p2 = 2 ∧ ¬ p2 = 3 ∧ ¬ p2 = 4 ∧ ¬ p2 = 5) → P_X6_finding ((-1000000001)) σ (fun r139 t139 => Q r139 t139)))) ∧ ((r3 = false) → P_X6_finding ((-1000000001)) σ (fun r12 t12 => Q r12 t12)))
def P_X6_set (p0 : Int32) (p1 : Int32) (p2 : Int32) (p3 : Int32) (σ : St) (Q : Int32 → St → Prop) : Prop := P_X6_isStone (p0) (p1) σ (fun r3 => ((r3 = true) → P_X0_place (p0) (p1) σ (fun r18 => ((¬ p2 = 1) → ((¬ p2 = 2) → P_X6_finding ((-1000000001)) σ (fun r110 t110 => Q r110 t110)) ∧ ((p2 = 2) → P_X6_isWithin (p3) (0) (999) σ (fun r74 => ((r74 = false) → P_X6_finding ((-1000000001)) σ (fun r110 t110 => Q r110 t110)) ∧ ((r74 = true) → vp_in r18 28 ∧ vp_in r18 28 ∧ Q (gI σ 4 r18.toNatClampNeg) (sI σ 4 (r18.toNatClampNeg) p3))))) ∧ ((p2 = 1) → P_X6_isHigh (p3) σ (fun r30 => ((r30 = false) → ((¬ p2 = 2) → P_X6_finding ((-1000000001)) σ (fun r110 t110 => Q r110 t110)) ∧ ((p2 = 2) → P_X6_isWithin (p3) (0) (999) σ (fun r74 => ((r74 = false) → P_X6_finding ((-1000000001)) σ (fun r110 t110 => Q r110 t110)) ∧ ((r74 = true) → vp_in r18 28 ∧ vp_in r18 28 ∧ Q (gI σ 4 r18.toNatClampNeg) (sI σ 4 (r18.toNatClampNeg) p3))))) ∧ ((r30 = true) → vp_in r18 28 ∧ vp_in r18 28 ∧ Q (gI σ 3 r18.toNatClampNeg) (sI σ 3 (r18.toNatClampNeg) p3)))))) ∧ ((r3 = false) → P_X6_finding ((-1000000001)) σ (fun r12 t12 => Q r12 t12)))
def P_X6_turn (p0 : Int32) (p1 : Int32) (p2 : Int32) (σ : St) (Q : Int32 → St → Prop) : Prop := P_X6_isStone (p0) (p1) σ (fun r3 => ((r3 = false) → P_X6_finding ((-1000000001)) σ (fun r19 t19 => Q r19 t19)) ∧ ((r3 = true) → P_X6_isKind (p2) σ (fun r10 => ((r10 = true) → P_X0_place (p0) (p1) σ (fun r25 => vp_in r25 28 ∧ vp_in r25 28 ∧ Q (gI σ 2 r25.toNatClampNeg) (sI σ 2 (r25.toNatClampNeg) p2))) ∧ ((r10 = false) → P_X6_finding ((-1000000001)) σ (fun r19 t19 => Q r19 t19)))))
def P_X6_isUnder_l4 (l1 : Int32) (K : St → Prop) (Q : Bool → Prop) : Nat → Int32 → Int32 → St → Prop
  | 0, _, _, _ => False
  | n4 + 1, l2, l3, σ => ((6 ≤ l3) → K  σ) ∧ ((¬ 6 ≤ l3) → ((l2 < 0) → K  σ) ∧ ((¬ l2 < 0) → ((¬ l2 = l1) → vp_in l2 6 ∧ P_X6_isUnder_l4 l1 K Q n4 (aboveL.getD l2.toNatClampNeg 0) (l3 + 1) σ) ∧ ((l2 = l1) → Q true)))
def P_X6_isUnder (p0 : Int32) (p1 : Int32) (σ : St) (Q : Bool → Prop) : Prop := ∃ m4, P_X6_isUnder_l4 (p1) (fun  t33 => Q false) Q m4 (p0) (0) σ
def P_X6_as (p0 : Int32) (p1 : Int32) (p2 : Int32) (σ : St) (Q : Int32 → St → Prop) : Prop := P_X6_isStone (p0) (p1) σ (fun r3 => ((r3 = false) → P_X6_finding ((-1000000001)) σ (fun r19 t19 => Q r19 t19)) ∧ ((r3 = true) → P_X6_isKind (p2) σ (fun r10 => ((r10 = true) → P_X0_place (p0) (p1) σ (fun r25 => vp_in r25 28 ∧ P_X6_isUnder (gI σ 2 r25.toNatClampNeg) (p2) σ (fun r41 => ((r41 = true) → vp_in r25 28 ∧ Q (gI σ 3 r25.toNatClampNeg) σ) ∧ ((r41 = false) → P_X6_finding ((-1000000003)) σ (fun r50 t50 => Q r50 t50))))) ∧ ((r10 = false) → P_X6_finding ((-1000000001)) σ (fun r19 t19 => Q r19 t19)))))
def P_X6_wedge (p0 : Int32) (p1 : Int32) (σ : St) (Q : Int32 → St → Prop) : Prop := P_X6_isWall (p0) σ (fun r1 => ((r1 = false) → P_X6_finding ((-1000000001)) σ (fun r20 t20 => Q r20 t20)) ∧ ((r1 = true) → P_X6_isWithin (p1) (0) (20) σ (fun r11 => ((r11 = true) → vp_in p0 4 ∧ vp_in p0 4 ∧ Q (gI σ 6 p0.toNatClampNeg) (sI σ 6 (p0.toNatClampNeg) p1)) ∧ ((r11 = false) → P_X6_finding ((-1000000001)) σ (fun r20 t20 => Q r20 t20)))))
def P_X6_slack (p0 : Int32) (σ : St) (Q : Int32 → St → Prop) : Prop := P_X6_isWithin (p0) (0) (99) σ (fun r4 => ((r4 = true) → Q (gI σ 1 6) (sI σ 1 6 p0)) ∧ ((r4 = false) → P_X6_finding ((-1000000001)) σ (fun r13 t13 => Q r13 t13)))
def P_X6_beam (p0 : Int32) (p1 : Bool) (σ : St) (Q : Int32 → St → Prop) : Prop := P_X6_isWithin (p0) (0) (2) σ (fun r3 => ((r3 = true) → P_X0_layBeam 1 (p0) p1 σ (fun t30 => (((gI t30 1 5) = (gI σ 1 5)) → P_X6_asNumber false t30 (fun r49 => Q r49 t30)) ∧ ((¬ (gI t30 1 5) = (gI σ 1 5)) → P_X6_asNumber true t30 (fun r49 => Q r49 t30)))) ∧ ((r3 = false) → P_X6_finding ((-1000000001)) σ (fun r12 t12 => Q r12 t12)))
def P_X6_nights (p0 : Int32) (σ : St) (Q : Int32 → St → Prop) : Prop := P_X6_isWithin (p0) (1) (99) σ (fun r4 => ((r4 = true) → ((((gI σ 1 7) + p0) ≤ 999) → P_X0_allTops 1 σ (fun r43 => P_X0_allTops 1 (sI σ 1 7 ((gI σ 1 7) + p0)) (fun r65 => Q (r43 - r65) (sI σ 1 7 ((gI σ 1 7) + p0))))) ∧ ((¬ ((gI σ 1 7) + p0) ≤ 999) → P_X6_finding ((-1000000005)) σ (fun r35 t35 => Q r35 t35))) ∧ ((r4 = false) → P_X6_finding ((-1000000001)) σ (fun r13 t13 => Q r13 t13)))
def P_X6_now (p0 : Int32) (σ : St) (Q : Int32 → St → Prop) : Prop := (p0 = 0 → Q (gI σ 1 7) σ) ∧ (p0 = 1 → Q (gI σ 1 6) σ) ∧ (p0 = 2 → Q (gI σ 1 8) σ) ∧ (p0 = 3 → Q (gI σ 1 5) σ) ∧ (p0 = 4 → P_X0_allStones 1 σ (fun r84 => Q r84 σ)) ∧ (p0 = 5 → P_X0_standNow 1 σ (fun r92 => Q r92 σ)) ∧ (p0 = 6 → P_X3_measure 19 1 σ (fun t104 => P_X3_unlikeAt 19 (gI t104 19 3) t104 (fun r118 => Q r118 t104))) ∧ (p0 = 7 → P_X3_measure 19 1 σ (fun t130 => P_X3_unlikeAt 19 (gI t130 19 3) t130 (fun r144 => (((gI t130 1 6) < r144) → P_X6_asNumber false t130 (fun r162 => Q r162 t130)) ∧ ((¬ (gI t130 1 6) < r144) → P_X6_asNumber true t130 (fun r162 => Q r162 t130))))) ∧ ((¬ p0 = 0 ∧ ¬ p0 = 1 ∧ ¬ p0 = 2 ∧ ¬ p0 = 3 ∧ ¬ p0 = 4 ∧ ¬ p0 = 5 ∧ ¬ p0 = 6 ∧ ¬ p0 = 7) → P_X6_finding ((-1000000001)) σ (fun r169 t169 => Q r169 t169))
def P_X6_pull (p0 : Int32) (σ : St) (Q : Int32 → St → Prop) : Prop := P_X6_isWall (p0) σ (fun r1 => ((r1 = true) → P_X3_measure 19 1 σ (fun t22 => P_X3_canPullAt 19 (gI t22 19 3) (p0) t22 (fun r37 => ((r37 = true) → P_X0_tallOf 1 (p0) (0) t22 (fun r56 => P_X0_takeLowest 1 (p0) t22 (fun t65 => Q r56 t65))) ∧ ((r37 = false) → P_X6_finding ((-1000000005)) t22 (fun r46 t46 => Q r46 t46))))) ∧ ((r1 = false) → P_X6_finding ((-1000000001)) σ (fun r10 t10 => Q r10 t10)))
def P_X6_pulls_l15  (K : Int32 → St → Prop) (Q : Int32 → St → Prop) : Nat → Int32 → Int32 → St → Prop
  | 0, _, _, _ => False
  | n15 + 1, l1, l2, σ => ((4 ≤ l2) → K (l1) σ) ∧ ((¬ 4 ≤ l2) → P_X3_canPullAt 19 (gI σ 19 3) (l2) σ (fun r32 => ((r32 = false) → P_X6_pulls_l15 K Q n15 (l1) (l2 + 1) σ) ∧ ((r32 = true) → P_X6_pulls_l15 K Q n15 (l1 ||| (1 <<< (l2 &&& 31))) (l2 + 1) σ)))
def P_X6_pulls  (σ : St) (Q : Int32 → St → Prop) : Prop := P_X3_measure 19 1 σ (fun t8 => ∃ m15, P_X6_pulls_l15  (fun k1 t50 => Q k1 t50) Q m15 (0) (0) t8)
def P_X6_standsOf (p0 : Nat) (σ : St) (Q : Int32 → St → Prop) : Prop := P_X3_measure 19 p0 σ (fun t5 => P_X1_fill 19 999 t5 (fun r17 t17 => Q r17 t17))
def P_X6_canBe (p0 : Nat) (p1 : Int32) (σ : St) (Q : Bool → St → Prop) : Prop := P_X6_standsOf p0 σ (fun r2 t2 => vp_in p1 4096 ∧ (((lg_cmp (gL t2 24 p1.toNatClampNeg) 0) ≤ 0) → Q false t2) ∧ ((¬ (lg_cmp (gL t2 24 p1.toNatClampNeg) 0) ≤ 0) → Q true t2))
def P_X6_isStand (p0 : Int32) (σ : St) (Q : Bool → Prop) : Prop := P_X0_standNow 1 σ (fun r5 => P_X3_isPartOf (p0) (r5) σ (fun r8 => Q r8))
def P_X6_can (p0 : Int32) (σ : St) (Q : Int32 → St → Prop) : Prop := P_X6_isStand (p0) σ (fun r2 => ((r2 = true) → P_X6_canBe 1 (p0) σ (fun r21 t21 => P_X6_asNumber r21 t21 (fun r24 => Q r24 t21))) ∧ ((r2 = false) → P_X6_finding ((-1000000001)) σ (fun r11 t11 => Q r11 t11)))
def P_X6_stands  (σ : St) (Q : Int32 → St → Prop) : Prop := P_X6_standsOf 1 σ (fun r5 t5 => Q r5 t5)
def P_X6_least  (σ : St) (Q : Int32 → St → Prop) : Prop := P_X6_standsOf 1 σ (fun r5 t5 => P_X1_leastStand 19 t5 (fun r17 => Q r17 t5))
def P_X6_ways (p0 : Int32) (σ : St) (Q : Int64 → St → Prop) : Prop := P_X6_isStand (p0) σ (fun r2 => ((r2 = true) → P_X6_standsOf 1 σ (fun r21 t21 => vp_in p0 4096 ∧ Q (gL t21 24 p0.toNatClampNeg) t21)) ∧ ((r2 = false) → P_X6_finding ((-1000000001)) σ (fun r11 t11 => Q ((r11 : Int32).toInt64) t11)))
def P_X6_first (p0 : Int32) (σ : St) (Q : Int32 → St → Prop) : Prop := P_X6_isStand (p0) σ (fun r2 => ((r2 = true) → P_X3_measure 19 1 σ (fun t23 => P_X1_lead 19 (p0) t23 (fun t35 => ((¬ p0 = (gI t35 19 3)) → P_X1_leadFrom 19 (gI t35 19 3) t35 (fun r68 => ((0 ≤ r68) → Q r68 t35) ∧ ((¬ 0 ≤ r68) → P_X6_finding ((-1000000004)) t35 (fun r79 t79 => Q r79 t79)))) ∧ ((p0 = (gI t35 19 3)) → P_X6_finding ((-1000000004)) t35 (fun r79 t79 => Q r79 t79))))) ∧ ((r2 = false) → P_X6_finding ((-1000000001)) σ (fun r11 t11 => Q r11 t11)))
def P_X6_bring_l75 (l1 : Int32) (K : Int32 → St → Prop) (Q : Int32 → St → Prop) : Nat → Int32 → Int32 → St → Prop
  | 0, _, _, _ => False
  | n75 + 1, l2, l3, σ => ((l3 = l1) → K (l2) σ) ∧ ((¬ l3 = l1) → ((28 ≤ l2) → K (l2) σ) ∧ ((¬ 28 ≤ l2) → P_X1_leadFrom 19 (l3) σ (fun r95 => ((0 ≤ r95) → P_X0_takeLowest 1 (r95) σ (fun t113 => P_X3_unit (r95) t113 (fun r119 => P_X6_bring_l75 l1 K Q n75 (l2 + 1) (l3 - r119) t113))) ∧ ((¬ 0 ≤ r95) → Q l2 σ))))
def P_X6_bring (p0 : Int32) (σ : St) (Q : Int32 → St → Prop) : Prop := P_X6_isStand (p0) σ (fun r2 => ((r2 = true) → P_X3_measure 19 1 σ (fun t23 => P_X1_lead 19 (p0) t23 (fun t35 => vp_in (gI t35 19 3) 4096 ∧ ((¬ (lg_cmp (gL t35 24 (gI t35 19 3).toNatClampNeg) 0) = 0) → ∃ m75, P_X6_bring_l75 (p0) (fun k2 t130 => Q k2 t130) Q m75 (0) (gI t35 19 3) t35) ∧ (((lg_cmp (gL t35 24 (gI t35 19 3).toNatClampNeg) 0) = 0) → P_X6_finding ((-1000000005)) t35 (fun r61 t61 => Q r61 t61))))) ∧ ((r2 = false) → P_X6_finding ((-1000000001)) σ (fun r11 t11 => Q r11 t11)))
def P_X6_leastSlack_l16 (l1 : Int32) (K : Int32 → St → Prop) (Q : Int32 → St → Prop) : Nat → Int32 → Int32 → St → Prop
  | 0, _, _, _ => False
  | n16 + 1, l2, l3, σ => ((l3 ≤ 0) → K (l2) σ) ∧ ((¬ l3 ≤ 0) → P_X6_canBe 13 (l1) (sI σ 13 6 ((l2 + l3) - 1)) (fun r38 t38 => ((r38 = true) → P_X6_leastSlack_l16 l1 K Q n16 (l2) (l3 / 2) t38) ∧ ((r38 = false) → P_X6_leastSlack_l16 l1 K Q n16 (l2 + l3) (l3 / 2) t38)))
def P_X6_leastSlack (p0 : Int32) (σ : St) (Q : Int32 → St → Prop) : Prop := P_X0_becomeLike 13 1 σ (fun t8 => ∃ m16, P_X6_leastSlack_l16 (p0) (fun k2 t55 => ((k2 ≤ 99) → Q k2 t55) ∧ ((¬ k2 ≤ 99) → P_X6_finding ((-1000000004)) t55 (fun r64 t64 => Q r64 t64))) Q m16 (0) (64) t8)
def P_X6_slackFor (p0 : Int32) (σ : St) (Q : Int32 → St → Prop) : Prop := P_X6_isStand (p0) σ (fun r2 => ((r2 = true) → P_X6_leastSlack (p0) σ (fun r17 t17 => Q r17 t17)) ∧ ((r2 = false) → P_X6_finding ((-1000000001)) σ (fun r11 t11 => Q r11 t11)))
def P_X6_slackAll  (σ : St) (Q : Int32 → St → Prop) : Prop := P_X6_leastSlack (0) σ (fun r2 t2 => Q r2 t2)
def P_X6_bestStand (p0 : Int32) (σ : St) (Q : Int32 → St → Prop) : Prop := P_X6_standsOf 1 σ (fun r5 t5 => P_X1_rank 19 t5 (fun t17 => P_X1_bestUpTo 19 (p0) t17 (fun r29 => Q r29 t17)))
def P_X6_most (p0 : Int32) (σ : St) (Q : Int32 → St → Prop) : Prop := P_X6_isWithin (p0) (0) (28) σ (fun r4 => ((r4 = true) → P_X6_bestStand (p0) σ (fun r23 t23 => P_X3_coinAt 19 (r23) t23 (fun r26 => Q r26 t23))) ∧ ((r4 = false) → P_X6_finding ((-1000000001)) σ (fun r13 t13 => Q r13 t13)))
def P_X6_where (p0 : Int32) (σ : St) (Q : Int32 → St → Prop) : Prop := P_X6_isWithin (p0) (0) (28) σ (fun r4 => ((r4 = true) → P_X6_bestStand (p0) σ (fun r19 t19 => Q r19 t19)) ∧ ((r4 = false) → P_X6_finding ((-1000000001)) σ (fun r13 t13 => Q r13 t13)))
def P_X6_out (p0 : Int32) (p1 : Int32) (σ : St) (Q : Int32 → St → Prop) : Prop := P_X6_isStone (p0) (p1) σ (fun r3 => ((r3 = true) → P_X6_standsOf 1 σ (fun r21 t21 => vp_in p0 4 ∧ P_X1_fewestPulls 19 (p0) (((gI t21 5 p0.toNatClampNeg) - 1) - p1) t21 (fun r47 => ((0 ≤ r47) → Q r47 t21) ∧ ((¬ 0 ≤ r47) → P_X6_finding ((-1000000004)) t21 (fun r58 t58 => Q r58 t58))))) ∧ ((r3 = false) → P_X6_finding ((-1000000001)) σ (fun r12 t12 => Q r12 t12)))
def P_X6_reach (p0 : Int32) (σ : St) (Q : Int32 → St → Prop) : Prop := P_X6_isWall (p0) σ (fun r1 => ((r1 = true) → P_X6_standsOf 1 σ (fun r19 t19 => vp_in p0 4 ∧ P_X1_fewestLeft 19 (p0) t19 (fun r41 => Q ((gI t19 5 p0.toNatClampNeg) - r41) t19))) ∧ ((r1 = false) → P_X6_finding ((-1000000001)) σ (fun r10 t10 => Q r10 t10)))
def P_X6_help_l32 (l3 : Int32) (K : Int32 → Int32 → St → Prop) (Q : Int32 → St → Prop) : Nat → Int32 → Int32 → Int32 → St → Prop
  | 0, _, _, _, _ => False
  | n32 + 1, l1, l2, l4, σ => ((20 < l4) → K (l1) (l2) σ) ∧ ((¬ 20 < l4) → vp_in l3 4 ∧ P_X6_standsOf 13 (sI σ 18 (l3.toNatClampNeg) l4) (fun r55 t55 => ((r55 ≤ l1) → P_X6_help_l32 l3 K Q n32 (l1) (l2) (l4 + 1) t55) ∧ ((¬ r55 ≤ l1) → P_X6_help_l32 l3 K Q n32 (r55) ((100 * l3) + l4) (l4 + 1) t55)))
def P_X6_help_l24  (K : Int32 → St → Prop) (Q : Int32 → St → Prop) : Nat → Int32 → Int32 → Int32 → St → Prop
  | 0, _, _, _, _ => False
  | n24 + 1, l1, l2, l3, σ => ((4 ≤ l3) → K (l2) σ) ∧ ((¬ 4 ≤ l3) → ∃ m32, P_X6_help_l32 (l3) (fun k1 k2 t83 => vp_in l3 4 ∧ vp_in l3 4 ∧ P_X6_help_l24 K Q n24 (k1) (k2) (l3 + 1) (sI t83 18 (l3.toNatClampNeg) (gI t83 6 l3.toNatClampNeg))) Q m32 (l1) (l2) (1) σ)
def P_X6_help  (σ : St) (Q : Int32 → St → Prop) : Prop := P_X6_standsOf 1 σ (fun r5 t5 => P_X0_becomeLike 13 1 t5 (fun t19 => ∃ m24, P_X6_help_l24  (fun k2 t107 => ((0 ≤ k2) → Q k2 t107) ∧ ((¬ 0 ≤ k2) → P_X6_finding ((-1000000004)) t107 (fun r114 t114 => Q r114 t114))) Q m24 (r5) ((-1)) (0) t19))
def P_X6_frees_l24  (K : Int32 → St → Prop) (Q : Int32 → St → Prop) : Nat → Int32 → Int32 → Int32 → St → Prop
  | 0, _, _, _, _ => False
  | n24 + 1, l1, l2, l3, σ => ((3 ≤ l3) → K (l2) σ) ∧ ((¬ 3 ≤ l3) → P_X0_layBeam 13 (l3) false σ (fun t35 => P_X6_standsOf 13 t35 (fun r43 t43 => ((r43 ≤ l1) → P_X6_frees_l24 K Q n24 (l1) (l2) (l3 + 1) (sI t43 13 5 (gI t43 1 5))) ∧ ((¬ r43 ≤ l1) → P_X6_frees_l24 K Q n24 (r43) (l3) (l3 + 1) (sI t43 13 5 (gI t43 1 5))))))
def P_X6_frees  (σ : St) (Q : Int32 → St → Prop) : Prop := P_X6_standsOf 1 σ (fun r5 t5 => P_X0_becomeLike 13 1 t5 (fun t19 => ∃ m24, P_X6_frees_l24  (fun k2 t79 => ((0 ≤ k2) → Q k2 t79) ∧ ((¬ 0 ≤ k2) → P_X6_finding ((-1000000004)) t79 (fun r86 t86 => Q r86 t86))) Q m24 (r5) ((-1)) (0) t19))
def P_X6_kind_l51 (l1 : Int32) (K : Int32 → St → Prop) (Q : Int32 → St → Prop) : Nat → Int32 → Int32 → Int32 → St → Prop
  | 0, _, _, _, _ => False
  | n51 + 1, l2, l3, l4, σ => ((6 ≤ l4) → K (l3) σ) ∧ ((¬ 6 ≤ l4) → P_X0_place (l1) (0) σ (fun r67 => vp_in r67 28 ∧ P_X6_standsOf 13 (sI σ 14 (r67.toNatClampNeg) l4) (fun r78 t78 => ((r78 ≤ l2) → P_X6_kind_l51 l1 K Q n51 (l2) (l3) (l4 + 1) t78) ∧ ((¬ r78 ≤ l2) → P_X6_kind_l51 l1 K Q n51 (r78) (l4) (l4 + 1) t78))))
def P_X6_kind (p0 : Int32) (σ : St) (Q : Int32 → St → Prop) : Prop := P_X6_isWall (p0) σ (fun r1 => ((r1 = true) → vp_in p0 4 ∧ ((¬ (gI σ 5 p0.toNatClampNeg) = 0) → P_X0_becomeLike 13 1 σ (fun t45 => ∃ m51, P_X6_kind_l51 (p0) (fun k3 t101 => Q k3 t101) Q m51 (0) (0) (0) t45)) ∧ (((gI σ 5 p0.toNatClampNeg) = 0) → P_X6_finding ((-1000000005)) σ (fun r29 t29 => Q r29 t29))) ∧ ((r1 = false) → P_X6_finding ((-1000000001)) σ (fun r10 t10 => Q r10 t10)))
def P_X6_till_l14  (K : St → Prop) (Q : Int32 → St → Prop) : Nat → Int32 → St → Prop
  | 0, _, _ => False
  | n14 + 1, l1, σ => ((l1 < 0) → K  σ) ∧ ((¬ l1 < 0) → P_X6_canBe 13 (0) (sI σ 13 7 ((gI σ 1 7) + l1)) (fun r40 t40 => ((r40 = false) → P_X6_till_l14 K Q n14 (l1 + (-1)) t40) ∧ ((r40 = true) → Q (gI t40 13 7) t40)))
def P_X6_till  (σ : St) (Q : Int32 → St → Prop) : Prop := P_X0_becomeLike 13 1 σ (fun t8 => ∃ m14, P_X6_till_l14  (fun  t60 => P_X6_finding ((-1000000004)) t60 (fun r63 t63 => Q r63 t63)) Q m14 (60) t8)
def P_X6_feed_l44 (l1 : Int32) (K : St → Prop) (Q : Int32 → St → Prop) : Nat → Int32 → St → Prop
  | 0, _, _ => False
  | n44 + 1, l3, σ => ((l3 < 0) → K  σ) ∧ ((¬ l3 < 0) → P_X4_append ((l1 >>> ((8 * l3) &&& 31)) &&& 255) σ (fun t65 => P_X6_feed_l44 l1 K Q n44 (l3 + (-1)) t65))
def P_X6_feed (p0 : Int32) (p1 : Int32) (σ : St) (Q : Int32 → St → Prop) : Prop := P_X6_isWithin (p1) (1) (4) σ (fun r3 => ((r3 = true) → ((((gI σ 27 1) + p1) ≤ 120) → ∃ m44, P_X6_feed_l44 (p0) (fun  t74 => Q (gI t74 27 1) t74) Q m44 (p1 - 1) σ) ∧ ((¬ ((gI σ 27 1) + p1) ≤ 120) → P_X6_finding ((-1000000002)) σ (fun r36 t36 => Q r36 t36))) ∧ ((r3 = false) → P_X6_finding ((-1000000001)) σ (fun r12 t12 => Q r12 t12)))
def P_X6_wipe  (σ : St) (Q : Int32 → St → Prop) : Prop := Q (gI σ 27 1) (sI σ 27 1 0)
def P_X6_house  (σ : St) (Q : Int32 → St → Prop) : Prop := P_X5_tell 1 σ (fun r8 t8 => ((r8 < 0) → Q r8 (sI t8 27 1 0)) ∧ ((¬ r8 < 0) → P_X0_becomeLike 1 29 t8 (fun t27 => Q r8 (sI t27 27 1 0))))
def P_X6_isSheet (p0 : Int32) (σ : St) (Q : Bool → Prop) : Prop := P_X6_isWithin (p0) (0) (3) σ (fun r3 => Q r3)
def P_X6_isWidth (p0 : Int32) (σ : St) (Q : Bool → Prop) : Prop := ((p0 = 0) → Q true) ∧ ((¬ p0 = 0) → ((p0 = 8) → Q true) ∧ ((¬ p0 = 8) → ((p0 = 16) → Q true) ∧ ((¬ p0 = 16) → ((¬ p0 = 64) → Q false) ∧ ((p0 = 64) → Q true))))
def P_X6_sheet (p0 : Int32) (p1 : Int32) (p2 : Int32) (σ : St) (Q : Int32 → St → Prop) : Prop := P_X6_isSheet (p0) σ (fun r1 => ((r1 = false) → P_X6_finding ((-1000000001)) σ (fun r17 t17 => Q r17 t17)) ∧ ((r1 = true) → P_X6_isWidth (p1) σ (fun r8 => ((r8 = true) → ((0 ≤ p2) → ((p2 ≤ 40) → vp_in p0 4 ∧ P_X2_layOut (41 + 2 * p0.toNatClampNeg) (p1) (p2) σ (fun t53 => vp_in p0 4 ∧ Q (gI t53 (41 + 2 * p0.toNatClampNeg) 2) t53)) ∧ ((¬ p2 ≤ 40) → P_X6_finding ((-1000000001)) σ (fun r41 t41 => Q r41 t41))) ∧ ((¬ 0 ≤ p2) → P_X6_finding ((-1000000007)) σ (fun r28 t28 => Q r28 t28))) ∧ ((r8 = false) → P_X6_finding ((-1000000001)) σ (fun r17 t17 => Q r17 t17)))))
def P_X6_sheetFinding (p0 : Int32) (σ : St) (Q : Int32 → Prop) : Prop := P_X6_isSheet (p0) σ (fun r1 => ((r1 = true) → vp_in p0 4 ∧ ((¬ (gI σ (41 + 2 * p0.toNatClampNeg) 1) = 0) → Q 0) ∧ (((gI σ (41 + 2 * p0.toNatClampNeg) 1) = 0) → Q ((-1000000006)))) ∧ ((r1 = false) → Q ((-1000000001))))
def P_X6_write (p0 : Int32) (p1 : Int32) (p2 : Int64) (σ : St) (Q : Int64 → St → Prop) : Prop := P_X6_sheetFinding (p0) σ (fun r2 => ((r2 = 0) → vp_in p0 4 ∧ P_X6_isWithin (p1) (0) ((gI σ (41 + 2 * p0.toNatClampNeg) 2) - 1) σ (fun r37 => ((r37 = true) → vp_in p1 40 ∧ P_X2_put (41 + 2 * p0.toNatClampNeg) (p1) (p2) σ (fun t64 => Q (gL σ (41 + 2 * p0.toNatClampNeg + 1) p1.toNatClampNeg) t64)) ∧ ((r37 = false) → P_X6_finding ((-1000000001)) σ (fun r46 t46 => Q ((r46 : Int32).toInt64) t46)))) ∧ ((¬ r2 = 0) → P_X6_finding (r2) σ (fun r15 t15 => Q ((r15 : Int32).toInt64) t15)))
def P_X6_copy (p0 : Int32) (p1 : Int32) (p2 : Int32) (p3 : Int32) (p4 : Int32) (σ : St) (Q : Int32 → St → Prop) : Prop := P_X6_isSheet (p0) σ (fun r1 => ((r1 = false) → P_X6_finding ((-1000000001)) σ (fun r17 t17 => Q r17 t17)) ∧ ((r1 = true) → P_X6_isSheet (p2) σ (fun r8 => ((r8 = true) → vp_in p0 4 ∧ vp_in p2 4 ∧ (((gI σ (41 + 2 * p0.toNatClampNeg) 1) = 0) → P_X6_finding ((-1000000006)) σ (fun r57 t57 => Q r57 t57)) ∧ ((¬ (gI σ (41 + 2 * p0.toNatClampNeg) 1) = 0) → ((¬ (gI σ (41 + 2 * p2.toNatClampNeg) 1) = 0) → (((gI σ (41 + 2 * p0.toNatClampNeg) 1) = (gI σ (41 + 2 * p2.toNatClampNeg) 1)) → P_X2_hasPart (41 + 2 * p0.toNatClampNeg) (p1) (p4) σ (fun r86 => ((r86 = false) → P_X6_finding ((-1000000001)) σ (fun r107 t107 => Q r107 t107)) ∧ ((r86 = true) → P_X2_hasPart (41 + 2 * p2.toNatClampNeg) (p3) (p4) σ (fun r98 => ((r98 = true) → (¬ p1 < 0 ∧ ¬ p3 < 0 ∧ ¬ p4 < 0 ∧ p1.toNatClampNeg + p4.toNatClampNeg ≤ 40 ∧ p3.toNatClampNeg + p4.toNatClampNeg ≤ 40) ∧ Q p4 (cL σ (41 + 2 * p0.toNatClampNeg + 1) (p1.toNatClampNeg) (41 + 2 * p2.toNatClampNeg + 1) (p3.toNatClampNeg) (p4.toNatClampNeg))) ∧ ((r98 = false) → P_X6_finding ((-1000000001)) σ (fun r107 t107 => Q r107 t107)))))) ∧ ((¬ (gI σ (41 + 2 * p0.toNatClampNeg) 1) = (gI σ (41 + 2 * p2.toNatClampNeg) 1)) → P_X6_finding ((-1000000003)) σ (fun r77 t77 => Q r77 t77))) ∧ (((gI σ (41 + 2 * p2.toNatClampNeg) 1) = 0) → P_X6_finding ((-1000000006)) σ (fun r57 t57 => Q r57 t57)))) ∧ ((r8 = false) → P_X6_finding ((-1000000001)) σ (fun r17 t17 => Q r17 t17)))))
def P_X6_lays_l26 (l3 : Nat) (K : St → Prop) (Q : Int32 → St → Prop) : Nat → Int32 → St → Prop
  | 0, _, _ => False
  | n26 + 1, l4, σ => (((gI σ l3 2) ≤ l4) → K  σ) ∧ ((¬ (gI σ l3 2) ≤ l4) → vp_in l4 40 ∧ (((lg_cmp (gL σ (l3 + 1) l4.toNatClampNeg) 0) < 0) → Q l4 σ) ∧ ((¬ (lg_cmp (gL σ (l3 + 1) l4.toNatClampNeg) 0) < 0) → (((lg_cmp (gL σ (l3 + 1) l4.toNatClampNeg) 4) < 0) → P_X3_measure 19 1 σ (fun t71 => P_X3_canPullAt 19 (gI t71 19 3) ((gL σ (l3 + 1) l4.toNatClampNeg : Int64).toInt32) t71 (fun r88 => ((r88 = true) → P_X0_takeLowest 1 ((gL σ (l3 + 1) l4.toNatClampNeg : Int64).toInt32) t71 (fun t104 => P_X6_lays_l26 l3 K Q n26 (l4 + 1) t104)) ∧ ((r88 = false) → Q l4 t71)))) ∧ ((¬ (lg_cmp (gL σ (l3 + 1) l4.toNatClampNeg) 4) < 0) → Q l4 σ)))
def P_X6_lays (p0 : Int32) (σ : St) (Q : Int32 → St → Prop) : Prop := P_X6_sheetFinding (p0) σ (fun r2 => ((r2 = 0) → vp_in p0 4 ∧ ∃ m26, P_X6_lays_l26 (41 + 2 * p0.toNatClampNeg) (fun  t113 => Q (gI t113 (41 + 2 * p0.toNatClampNeg) 2) t113) Q m26 (0) σ) ∧ ((¬ r2 = 0) → P_X6_finding (r2) σ (fun r12 t12 => Q r12 t12)))
def P_X6_book_l57 (l3 : Nat) (l4 : Int32) (K : St → Prop) (Q : Int32 → St → Prop) : Nat → Int32 → St → Prop
  | 0, _, _ => False
  | n57 + 1, l5, σ => ((l4 ≤ l5) → K  σ) ∧ ((¬ l4 ≤ l5) → P_X1_bestUpTo 19 (l5) σ (fun r81 => P_X3_coinAt 19 (r81) σ (fun r84 => P_X2_put l3 (l5) ((r84 : Int32).toInt64) σ (fun t88 => P_X6_book_l57 l3 l4 K Q n57 (l5 + 1) t88))))
def P_X6_book (p0 : Int32) (σ : St) (Q : Int32 → St → Prop) : Prop := P_X6_sheetFinding (p0) σ (fun r2 => ((r2 = 0) → vp_in p0 4 ∧ P_X6_standsOf 1 σ (fun r39 t39 => P_X1_rank 19 t39 (fun t51 => ∃ m57, P_X6_book_l57 (41 + 2 * p0.toNatClampNeg) (mnI (gI σ (41 + 2 * p0.toNatClampNeg) 2) 29) (fun  t97 => Q (mnI (gI σ (41 + 2 * p0.toNatClampNeg) 2) 29) t97) Q m57 (0) t51))) ∧ ((¬ r2 = 0) → P_X6_finding (r2) σ (fun r12 t12 => Q r12 t12)))
def P_X6_read (p0 : Int32) (σ : St) (Q : Int64 → St → Prop) : Prop := P_X6_sheetFinding (p0) σ (fun r2 => ((r2 = 0) → vp_in p0 4 ∧ (((gI σ (41 + 2 * p0.toNatClampNeg) 2) ≤ 28) → P_X3_measure 19 1 σ (fun t49 => P_X1_fill 19 (41 + 2 * p0.toNatClampNeg) t49 (fun r61 t61 => P_X1_waysBy 19 (gI t61 (41 + 2 * p0.toNatClampNeg) 2) t61 (fun r77 => Q r77 t61)))) ∧ ((¬ (gI σ (41 + 2 * p0.toNatClampNeg) 2) ≤ 28) → P_X6_finding ((-1000000007)) σ (fun r36 t36 => Q ((r36 : Int32).toInt64) t36))) ∧ ((¬ r2 = 0) → P_X6_finding (r2) σ (fun r12 t12 => Q ((r12 : Int32).toInt64) t12)))
def P_X6_image  (σ : St) (Q : Int32 → St → Prop) : Prop := P_X0_becomeLike 7 1 σ (fun t8 => Q 1 (sI t8 0 8 1))
def P_X6_undo  (σ : St) (Q : Int32 → St → Prop) : Prop := ((¬ (gI σ 0 8) = 0) → P_X0_becomeLike 1 7 σ (fun t22 => P_X0_allStones 1 t22 (fun r29 => Q r29 t22))) ∧ (((gI σ 0 8) = 0) → P_X6_finding ((-1000000004)) σ (fun r10 t10 => Q r10 t10))
def P_X6_tear  (σ : St) (Q : Int32 → St → Prop) : Prop := (isB (gI σ 0 8)) ∧ P_X6_asNumber ((nz (gI σ 0 8))) σ (fun r4 => Q r4 (sI σ 0 8 0))
def P_X6_count (p0 : Int32) (σ : St) (Q : Int32 → St → Prop) : Prop := (p0 = 0 → P_X0_allStones 1 σ (fun r36 => Q r36 σ)) ∧ (p0 = 1 → Q (gI σ 27 1) σ) ∧ (p0 = 2 → P_X0_allTops 1 σ (fun r55 => Q r55 σ)) ∧ (p0 = 3 → P_X0_allCoins 1 σ (fun r63 => Q r63 σ)) ∧ ((¬ p0 = 0 ∧ ¬ p0 = 1 ∧ ¬ p0 = 2 ∧ ¬ p0 = 3) → P_X6_finding ((-1000000001)) σ (fun r70 t70 => Q r70 t70))
def P_X6_status_l32  (K : Int32 → St → Prop) (Q : Int32 → St → Prop) : Nat → Int32 → Int32 → St → Prop
  | 0, _, _, _ => False
  | n32 + 1, l2, l3, σ => ((7 ≤ l3) → K (l2) σ) ∧ ((¬ 7 ≤ l3) → vp_in l3 7 ∧ P_X6_status_l32 K Q n32 (l2 + (gI σ 40 l3.toNatClampNeg)) (l3 + 1) σ)
def P_X6_status (p0 : Int32) (σ : St) (Q : Int32 → St → Prop) : Prop := P_X6_isWithin (p0) ((-1)) (6) σ (fun r4 => ((r4 = true) → ((p0 < 0) → ∃ m32, P_X6_status_l32  (fun k2 t53 => Q k2 t53) Q m32 (0) (0) σ) ∧ ((¬ p0 < 0) → vp_in p0 7 ∧ Q (gI σ 40 p0.toNatClampNeg) σ)) ∧ ((r4 = false) → P_X6_finding ((-1000000001)) σ (fun r13 t13 => Q r13 t13)))
def P_X7_in (p0 : Int32) (p1 : Int32) (p2 : Int32) (σ : St) (Q : Bool → Prop) : Prop := ((p0 < p1) → Q false) ∧ ((¬ p0 < p1) → ((p2 < p0) → Q false) ∧ ((¬ p2 < p0) → Q true))
def P_X7_finds (p0 : Int32) (σ : St) (Q : Int32 → St → Prop) : Prop := vp_in (((-1000000001)) - p0) 7 ∧ vp_in (((-1000000001)) - p0) 7 ∧ Q p0 (sI σ 51 ((((-1000000001)) - p0).toNatClampNeg) ((gI σ 51 (((-1000000001)) - p0).toNatClampNeg) + 1))
def P_X7_isWall (p0 : Int32) (σ : St) (Q : Bool → Prop) : Prop := P_X7_in (p0) (0) (3) σ (fun r3 => Q r3)
def P_X7_isKind (p0 : Int32) (σ : St) (Q : Bool → Prop) : Prop := P_X7_in (p0) (0) (5) σ (fun r3 => Q r3)
def P_X7_many (p0 : Int32) (σ : St) (Q : Int32 → Prop) : Prop := vp_in ((23 * p0) + 0) 96 ∧ Q (gI σ 50 ((23 * p0) + 0).toNatClampNeg)
def P_X7_isStone (p0 : Int32) (p1 : Int32) (σ : St) (Q : Bool → Prop) : Prop := P_X7_isWall (p0) σ (fun r1 => ((r1 = false) → Q false) ∧ ((r1 = true) → P_X7_many (p0) σ (fun r11 => P_X7_in (p1) (0) (r11 - 1) σ (fun r16 => ((r16 = false) → Q false) ∧ ((r16 = true) → Q true)))))
def P_X7_at (p0 : Int32) (p1 : Int32) (p2 : Int32) (σ : St) (Q : Int32 → Prop) : Prop := Q ((((23 * p0) + 2) + (3 * p1)) + p2)
def P_X7_its (p0 : Int32) (p1 : Int32) (p2 : Int32) (σ : St) (Q : Int32 → Prop) : Prop := P_X7_at (p0) (p1) (p2) σ (fun r7 => vp_in r7 96 ∧ Q (gI σ 50 r7.toNatClampNeg))
def P_X7_tall (p0 : Int32) (p1 : Int32) (σ : St) (Q : Int32 → Prop) : Prop := P_X7_its (p0) (p1) (0) σ (fun r4 => P_X7_its (p0) (p1) (1) σ (fun r12 => (((r12 - (gI σ 50 94)) ≤ 1) → ((¬ r4 = 2) → ((¬ r4 = 5) → Q r12) ∧ ((r4 = 5) → Q (1 / 2))) ∧ ((r4 = 2) → Q 1)) ∧ ((¬ (r12 - (gI σ 50 94)) ≤ 1) → ((¬ r4 = 2) → ((¬ r4 = 5) → Q r12) ∧ ((r4 = 5) → Q ((r12 - (gI σ 50 94)) / 2))) ∧ ((r4 = 2) → Q (r12 - (gI σ 50 94))))))
def P_X7_coin (p0 : Int32) (p1 : Int32) (σ : St) (Q : Int32 → Prop) : Prop := P_X7_its (p0) (p1) (2) σ (fun r4 => P_X7_its (p0) (p1) (0) σ (fun r12 => (r12 = 1 → Q (r4 + 5)) ∧ (r12 = 2 → Q (r4 / 2)) ∧ (r12 = 3 → Q r4) ∧ (r12 = 4 → Q (2 * (r4 + 5))) ∧ (r12 = 5 → Q 0) ∧ ((¬ r12 = 1 ∧ ¬ r12 = 2 ∧ ¬ r12 = 3 ∧ ¬ r12 = 4 ∧ ¬ r12 = 5) → Q r4)))
def P_X7_left (p0 : Int32) (p1 : Int32) (σ : St) (Q : Int32 → Prop) : Prop := Q ((p0 >>> ((3 * p1) &&& 31)) &&& 7)
def P_X7_mayGo (p0 : Int32) (p1 : Int32) (p2 : Int32) (σ : St) (Q : Bool → Prop) : Prop := P_X7_its (p0) (p1) (0) σ (fun r4 => P_X7_left (p2) (p0) σ (fun r11 => ((p0 ≤ 0) → ((3 ≤ p0) → ((r4 = 1) → Q true) ∧ ((¬ r4 = 1) → ((¬ r4 = 4) → ((¬ r4 = 3) → Q true) ∧ ((r4 = 3) → Q true)) ∧ ((r4 = 4) → Q true))) ∧ ((¬ 3 ≤ p0) → P_X7_left (p2) (p0 + 1) σ (fun r48 => ((r48 ≤ r11) → ((r4 = 1) → Q true) ∧ ((¬ r4 = 1) → ((¬ r4 = 4) → ((¬ r4 = 3) → Q true) ∧ ((r4 = 3) → Q true)) ∧ ((r4 = 4) → Q true))) ∧ ((¬ r48 ≤ r11) → ((r4 = 1) → Q false) ∧ ((¬ r4 = 1) → ((¬ r4 = 4) → ((¬ r4 = 3) → Q true) ∧ ((r4 = 3) → Q false)) ∧ ((r4 = 4) → Q false)))))) ∧ ((¬ p0 ≤ 0) → P_X7_left (p2) (p0 - 1) σ (fun r24 => ((r24 ≤ r11) → ((3 ≤ p0) → ((r4 = 1) → Q true) ∧ ((¬ r4 = 1) → ((¬ r4 = 4) → ((¬ r4 = 3) → Q true) ∧ ((r4 = 3) → Q true)) ∧ ((r4 = 4) → Q true))) ∧ ((¬ 3 ≤ p0) → P_X7_left (p2) (p0 + 1) σ (fun r48 => ((r48 ≤ r11) → ((r4 = 1) → Q true) ∧ ((¬ r4 = 1) → ((¬ r4 = 4) → ((¬ r4 = 3) → Q true) ∧ ((r4 = 3) → Q true)) ∧ ((r4 = 4) → Q true))) ∧ ((¬ r48 ≤ r11) → ((r4 = 1) → Q false) ∧ ((¬ r4 = 1) → ((¬ r4 = 4) → ((¬ r4 = 3) → Q true) ∧ ((r4 = 3) → Q false)) ∧ ((r4 = 4) → Q false)))))) ∧ ((¬ r24 ≤ r11) → ((3 ≤ p0) → ((r4 = 1) → Q false) ∧ ((¬ r4 = 1) → ((¬ r4 = 4) → ((¬ r4 = 3) → Q true) ∧ ((r4 = 3) → Q true)) ∧ ((r4 = 4) → Q false))) ∧ ((¬ 3 ≤ p0) → P_X7_left (p2) (p0 + 1) σ (fun r48 => ((r48 ≤ r11) → ((r4 = 1) → Q false) ∧ ((¬ r4 = 1) → ((¬ r4 = 4) → ((¬ r4 = 3) → Q true) ∧ ((r4 = 3) → Q true)) ∧ ((r4 = 4) → Q false))) ∧ ((¬ r48 ≤ r11) → ((r4 = 1) → Q false) ∧ ((¬ r4 = 1) → ((¬ r4 = 4) → ((¬ r4 = 3) → Q true) ∧ ((r4 = 3) → Q false)) ∧ ((r4 = 4) → Q false))))))))))
def P_X7_standNow_l4  (K : Int32 → St → Prop) (Q : Int32 → Prop) : Nat → Int32 → Int32 → St → Prop
  | 0, _, _, _ => False
  | n4 + 1, l1, l2, σ => ((4 ≤ l2) → K (l1) σ) ∧ ((¬ 4 ≤ l2) → P_X7_many (l2) σ (fun r12 => P_X7_standNow_l4 K Q n4 (l1 ||| (r12 <<< ((3 * l2) &&& 31))) (l2 + 1) σ))
def P_X7_standNow  (σ : St) (Q : Int32 → Prop) : Prop := ∃ m4, P_X7_standNow_l4  (fun k1 t27 => Q k1) Q m4 (0) (0) σ
def P_X7_stones (p0 : Int32) (σ : St) (Q : Int32 → Prop) : Prop := P_X7_left (p0) (0) σ (fun r2 => P_X7_left (p0) (1) σ (fun r7 => P_X7_left (p0) (2) σ (fun r13 => P_X7_left (p0) (3) σ (fun r19 => Q (((r2 + r7) + r13) + r19)))))
def P_X7_findTops_l35 (l1 : Int32) (l2 : Int32) (K : St → Prop) (Q : St → Prop) : Nat → Int32 → St → Prop
  | 0, _, _ => False
  | n35 + 1, l3, σ => ((l2 < l3) → K  σ) ∧ ((¬ l2 < l3) → vp_in (((8 * l1) + l3) - 1) 32 ∧ P_X7_tall (l1) (l2 - l3) σ (fun r68 => vp_in ((8 * l1) + l3) 32 ∧ P_X7_findTops_l35 l1 l2 K Q n35 (l3 + 1) (sI σ 52 (((8 * l1) + l3).toNatClampNeg) ((gI σ 52 (((8 * l1) + l3) - 1).toNatClampNeg) + r68))))
def P_X7_findTops_l95 (l1 : Int32) (l2 : Int32) (K : St → Prop) (Q : St → Prop) : Nat → Int32 → St → Prop
  | 0, _, _ => False
  | n95 + 1, l3, σ => ((l3 < 0) → K  σ) ∧ ((¬ l3 < 0) → vp_in (((8 * l1) + l3) + 1) 32 ∧ P_X7_coin (l1) ((l2 - l3) - 1) σ (fun r129 => vp_in ((8 * l1) + l3) 32 ∧ P_X7_findTops_l95 l1 l2 K Q n95 (l3 + (-1)) (sI σ 53 (((8 * l1) + l3).toNatClampNeg) ((gI σ 53 (((8 * l1) + l3) + 1).toNatClampNeg) + r129))))
def P_X7_findTops_l2  (K : St → Prop) (Q : St → Prop) : Nat → Int32 → St → Prop
  | 0, _, _ => False
  | n2 + 1, l1, σ => ((4 ≤ l1) → K  σ) ∧ ((¬ 4 ≤ l1) → P_X7_many (l1) σ (fun r9 => vp_in ((23 * l1) + 1) 96 ∧ vp_in (8 * l1) 32 ∧ ∃ m35, P_X7_findTops_l35 (l1) (r9) (fun  t79 => vp_in ((8 * l1) + r9) 32 ∧ ∃ m95, P_X7_findTops_l95 (l1) (r9) (fun  t140 => P_X7_findTops_l2 K Q n2 (l1 + 1) t140) Q m95 (r9 - 1) (sI t79 53 (((8 * l1) + r9).toNatClampNeg) 0)) Q m35 (1) (sI σ 52 ((8 * l1).toNatClampNeg) (gI σ 50 ((23 * l1) + 1).toNatClampNeg))))
def P_X7_findTops  (σ : St) (Q : St → Prop) : Prop := ∃ m2, P_X7_findTops_l2  (fun  t146 => Q t146) Q m2 (0) σ
def P_X7_topIn (p0 : Int32) (p1 : Int32) (σ : St) (Q : Int32 → Prop) : Prop := P_X7_left (p0) (p1) σ (fun r10 => vp_in ((8 * p1) + r10) 32 ∧ Q (gI σ 52 ((8 * p1) + r10).toNatClampNeg))
def P_X7_lies (p0 : Int32) (σ : St) (Q : Bool → Prop) : Prop := ((¬ (((gI σ 50 92) >>> (p0 &&& 31)) &&& 1) = 1) → Q false) ∧ (((((gI σ 50 92) >>> (p0 &&& 31)) &&& 1) = 1) → Q true)
def P_X7_unlikeAt (p0 : Int32) (p1 : Int32) (σ : St) (Q : Int32 → Prop) : Prop := P_X7_topIn (p0) (p1) σ (fun r3 => P_X7_topIn (p0) (p1 + 1) σ (fun r11 => ((0 ≤ (r3 - r11)) → Q (r3 - r11)) ∧ ((¬ 0 ≤ (r3 - r11)) → Q (-(r3 - r11)))))
def P_X7_isSafe_l4 (l1 : Int32) (K : Int32 → St → Prop) (Q : Bool → Prop) : Nat → Int32 → Int32 → St → Prop
  | 0, _, _, _ => False
  | n4 + 1, l2, l3, σ => ((3 ≤ l3) → K (l2) σ) ∧ ((¬ 3 ≤ l3) → ((l2 = 0) → P_X7_isSafe_l4 l1 K Q n4 (0) (l3 + 1) σ) ∧ ((¬ l2 = 0) → P_X7_lies (l3) σ (fun r15 => ((r15 = false) → P_X7_isSafe_l4 l1 K Q n4 (1) (l3 + 1) σ) ∧ ((r15 = true) → P_X7_unlikeAt (l1) (l3) σ (fun r24 => (((gI σ 50 93) < r24) → P_X7_isSafe_l4 l1 K Q n4 (0) (l3 + 1) σ) ∧ ((¬ (gI σ 50 93) < r24) → P_X7_isSafe_l4 l1 K Q n4 (1) (l3 + 1) σ))))))
def P_X7_isSafe (p0 : Int32) (σ : St) (Q : Bool → Prop) : Prop := ∃ m4, P_X7_isSafe_l4 (p0) (fun k2 t49 => (isB k2) ∧ Q (nz k2)) Q m4 (1) (0) σ
def P_X7_canPull (p0 : Int32) (p1 : Int32) (σ : St) (Q : Bool → Prop) : Prop := P_X7_left (p0) (p1) σ (fun r2 => ((r2 ≤ 0) → Q false) ∧ ((¬ r2 ≤ 0) → P_X7_many (p1) σ (fun r14 => P_X7_mayGo (p1) (r14 - r2) (p0) σ (fun r20 => ((r20 = false) → Q false) ∧ ((r20 = true) → P_X7_isSafe (p0 - (1 <<< ((3 * p1) &&& 31))) σ (fun r34 => ((r34 = false) → Q false) ∧ ((r34 = true) → Q true)))))))
def P_X7_addStone (p0 : Int32) (p1 : Int32) (p2 : Int32) (p3 : Int32) (σ : St) (Q : St → Prop) : Prop := P_X7_many (p1) σ (fun r2 => P_X7_at (p1) (r2) (0) σ (fun r15 => vp_in r15 96 ∧ P_X7_at (p1) (r2) (1) (sI σ 50 (r15.toNatClampNeg) p0) (fun r28 => vp_in r28 96 ∧ (∀ s32, s32 = sI (sI σ 50 (r15.toNatClampNeg) p0) 50 (r28.toNatClampNeg) p2 → P_X7_at (p1) (r2) (2) s32 (fun r41 => vp_in r41 96 ∧ vp_in ((23 * p1) + 0) 96 ∧ vp_in ((23 * p1) + 0) 96 ∧ Q (sI (sI s32 50 (r41.toNatClampNeg) p3) 50 (((23 * p1) + 0).toNatClampNeg) ((gI (sI s32 50 (r41.toNatClampNeg) p3) 50 ((23 * p1) + 0).toNatClampNeg) + 1)))))))
def P_X7_stone (p0 : Int32) (p1 : Int32) (p2 : Int32) (σ : St) (Q : Int32 → St → Prop) : Prop := P_X7_isKind (p0) σ (fun r1 => ((r1 = false) → P_X7_finds ((-1000000001)) σ (fun r27 t27 => Q r27 t27)) ∧ ((r1 = true) → P_X7_isWall (p1) σ (fun r8 => ((r8 = false) → P_X7_finds ((-1000000001)) σ (fun r27 t27 => Q r27 t27)) ∧ ((r8 = true) → P_X7_in (p2) (1) (30) σ (fun r18 => ((r18 = true) → P_X7_many (p1) σ (fun r33 => ((¬ r33 = 7) → P_X7_addStone (p0) (p1) (p2) (10) σ (fun t54 => P_X7_many (p1) t54 (fun r59 => Q (r59 - 1) t54))) ∧ ((r33 = 7) → P_X7_finds ((-1000000002)) σ (fun r44 t44 => Q r44 t44)))) ∧ ((r18 = false) → P_X7_finds ((-1000000001)) σ (fun r27 t27 => Q r27 t27)))))))
def P_X7_wallOf (p0 : Int32) (p1 : Int32) (σ : St) (Q : Int32 → St → Prop) : Prop := P_X7_isWall (p0) σ (fun r1 => ((r1 = false) → P_X7_finds ((-1000000001)) σ (fun r19 t19 => Q r19 t19)) ∧ ((r1 = true) → P_X7_in (p1) (0) (3) σ (fun r10 => ((r10 = true) → P_X7_findTops  σ (fun t24 => ((2 ≤ p1) → ((¬ p1 = 2) → vp_in (8 * p0) 32 ∧ Q (gI t24 53 (8 * p0).toNatClampNeg) t24) ∧ ((p1 = 2) → P_X7_many (p0) t24 (fun r61 => vp_in ((8 * p0) + r61) 32 ∧ Q (gI t24 52 ((8 * p0) + r61).toNatClampNeg) t24))) ∧ ((¬ 2 ≤ p1) → vp_in ((23 * p0) + p1) 96 ∧ Q (gI t24 50 ((23 * p0) + p1).toNatClampNeg) t24))) ∧ ((r10 = false) → P_X7_finds ((-1000000001)) σ (fun r19 t19 => Q r19 t19)))))
def P_X7_of (p0 : Int32) (p1 : Int32) (p2 : Int32) (σ : St) (Q : Int32 → St → Prop) : Prop := P_X7_isStone (p0) (p1) σ (fun r3 => ((r3 = false) → P_X7_finds ((-1000000001)) σ (fun r21 t21 => Q r21 t21)) ∧ ((r3 = true) → P_X7_in (p2) (0) (5) σ (fun r12 => ((r12 = true) → ((3 ≤ p2) → ((¬ p2 = 3) → ((¬ p2 = 4) → P_X7_standNow  σ (fun r72 => P_X7_mayGo (p0) (p1) (r72) σ (fun r75 => ((r75 = false) → Q 0 σ) ∧ ((r75 = true) → Q 1 σ)))) ∧ ((p2 = 4) → P_X7_coin (p0) (p1) σ (fun r62 => Q r62 σ))) ∧ ((p2 = 3) → P_X7_tall (p0) (p1) σ (fun r48 => Q r48 σ))) ∧ ((¬ 3 ≤ p2) → P_X7_its (p0) (p1) (p2) σ (fun r34 => Q r34 σ))) ∧ ((r12 = false) → P_X7_finds ((-1000000001)) σ (fun r21 t21 => Q r21 t21)))))
def P_X7_set (p0 : Int32) (p1 : Int32) (p2 : Int32) (p3 : Int32) (σ : St) (Q : Int32 → St → Prop) : Prop := ((¬ p2 = 1) → ((¬ p2 = 2) → P_X7_isStone (p0) (p1) σ (fun r43 => ((r43 = false) → P_X7_finds ((-1000000001)) σ (fun r57 t57 => Q r57 t57)) ∧ ((r43 = true) → P_X7_finds ((-1000000001)) σ (fun r57 t57 => Q r57 t57)))) ∧ ((p2 = 2) → P_X7_in (p3) (0) (999) σ (fun r27 => ((r27 = false) → P_X7_isStone (p0) (p1) σ (fun r43 => ((r43 = false) → P_X7_finds ((-1000000001)) σ (fun r57 t57 => Q r57 t57)) ∧ ((r43 = true) → P_X7_finds ((-1000000001)) σ (fun r57 t57 => Q r57 t57)))) ∧ ((r27 = true) → P_X7_isStone (p0) (p1) σ (fun r43 => ((r43 = false) → P_X7_finds ((-1000000001)) σ (fun r57 t57 => Q r57 t57)) ∧ ((r43 = true) → P_X7_its (p0) (p1) (p2) σ (fun r65 => P_X7_at (p0) (p1) (p2) σ (fun r77 => vp_in r77 96 ∧ Q r65 (sI σ 50 (r77.toNatClampNeg) p3))))))))) ∧ ((p2 = 1) → P_X7_in (p3) (1) (30) σ (fun r10 => P_X7_isStone (p0) (p1) σ (fun r43 => ((r43 = false) → P_X7_finds ((-1000000001)) σ (fun r57 t57 => Q r57 t57)) ∧ ((r43 = true) → ((r10 = true) → P_X7_its (p0) (p1) (p2) σ (fun r65 => P_X7_at (p0) (p1) (p2) σ (fun r77 => vp_in r77 96 ∧ Q r65 (sI σ 50 (r77.toNatClampNeg) p3)))) ∧ ((r10 = false) → P_X7_finds ((-1000000001)) σ (fun r57 t57 => Q r57 t57))))))
def P_X7_turn (p0 : Int32) (p1 : Int32) (p2 : Int32) (σ : St) (Q : Int32 → St → Prop) : Prop := P_X7_isStone (p0) (p1) σ (fun r3 => ((r3 = false) → P_X7_finds ((-1000000001)) σ (fun r19 t19 => Q r19 t19)) ∧ ((r3 = true) → P_X7_isKind (p2) σ (fun r10 => ((r10 = true) → P_X7_its (p0) (p1) (0) σ (fun r27 => P_X7_at (p0) (p1) (0) σ (fun r39 => vp_in r39 96 ∧ Q r27 (sI σ 50 (r39.toNatClampNeg) p2)))) ∧ ((r10 = false) → P_X7_finds ((-1000000001)) σ (fun r19 t19 => Q r19 t19)))))
def P_X7_isUnder (p0 : Int32) (p1 : Int32) (σ : St) (Q : Bool → Prop) : Prop := ((p1 = 0) → Q true) ∧ ((¬ p1 = 0) → ((p1 = p0) → Q true) ∧ ((¬ p1 = p0) → ((¬ p1 = 1) → ((¬ p1 = 2) → Q false) ∧ ((p1 = 2) → ((¬ p0 = 5) → Q false) ∧ ((p0 = 5) → Q true))) ∧ ((p1 = 1) → ((p0 = 4) → Q true) ∧ ((¬ p0 = 4) → ((¬ p1 = 2) → Q false) ∧ ((p1 = 2) → ((¬ p0 = 5) → Q false) ∧ ((p0 = 5) → Q true))))))
def P_X7_as (p0 : Int32) (p1 : Int32) (p2 : Int32) (σ : St) (Q : Int32 → St → Prop) : Prop := P_X7_isStone (p0) (p1) σ (fun r3 => ((r3 = false) → P_X7_finds ((-1000000001)) σ (fun r19 t19 => Q r19 t19)) ∧ ((r3 = true) → P_X7_isKind (p2) σ (fun r10 => ((r10 = true) → P_X7_its (p0) (p1) (0) σ (fun r27 => P_X7_isUnder (r27) (p2) σ (fun r31 => ((r31 = false) → P_X7_finds ((-1000000003)) σ (fun r50 t50 => Q r50 t50)) ∧ ((r31 = true) → P_X7_its (p0) (p1) (1) σ (fun r41 => Q r41 σ))))) ∧ ((r10 = false) → P_X7_finds ((-1000000001)) σ (fun r19 t19 => Q r19 t19)))))
def P_X7_wedge (p0 : Int32) (p1 : Int32) (σ : St) (Q : Int32 → St → Prop) : Prop := P_X7_isWall (p0) σ (fun r1 => ((r1 = false) → P_X7_finds ((-1000000001)) σ (fun r20 t20 => Q r20 t20)) ∧ ((r1 = true) → P_X7_in (p1) (0) (20) σ (fun r11 => ((r11 = true) → vp_in ((23 * p0) + 1) 96 ∧ vp_in ((23 * p0) + 1) 96 ∧ Q (gI σ 50 ((23 * p0) + 1).toNatClampNeg) (sI σ 50 (((23 * p0) + 1).toNatClampNeg) p1)) ∧ ((r11 = false) → P_X7_finds ((-1000000001)) σ (fun r20 t20 => Q r20 t20)))))
def P_X7_slack (p0 : Int32) (σ : St) (Q : Int32 → St → Prop) : Prop := P_X7_in (p0) (0) (99) σ (fun r4 => ((r4 = true) → Q (gI σ 50 93) (sI σ 50 93 p0)) ∧ ((r4 = false) → P_X7_finds ((-1000000001)) σ (fun r13 t13 => Q r13 t13)))
def P_X7_beam (p0 : Int32) (p1 : Bool) (σ : St) (Q : Int32 → St → Prop) : Prop := P_X7_in (p0) (0) (2) σ (fun r3 => ((r3 = true) → P_X7_lies (p0) σ (fun r18 => ((p1 = false) → ((¬ (bI r18) = (bI p1)) → Q 1 (sI σ 50 92 ((gI σ 50 92) &&& ((1 <<< (p0 &&& 31)) ^^^ ((-1)))))) ∧ (((bI r18) = (bI p1)) → Q 0 (sI σ 50 92 ((gI σ 50 92) &&& ((1 <<< (p0 &&& 31)) ^^^ ((-1))))))) ∧ ((p1 = true) → ((¬ (bI r18) = (bI p1)) → Q 1 (sI σ 50 92 ((gI σ 50 92) ||| (1 <<< (p0 &&& 31))))) ∧ (((bI r18) = (bI p1)) → Q 0 (sI σ 50 92 ((gI σ 50 92) ||| (1 <<< (p0 &&& 31)))))))) ∧ ((r3 = false) → P_X7_finds ((-1000000001)) σ (fun r12 t12 => Q r12 t12)))
def P_X7_allTops_l8  (K : Int32 → St → Prop) (Q : Int32 → St → Prop) : Nat → Int32 → Int32 → St → Prop
  | 0, _, _, _ => False
  | n8 + 1, l1, l2, σ => ((4 ≤ l2) → K (l1) σ) ∧ ((¬ 4 ≤ l2) → P_X7_many (l2) σ (fun r24 => vp_in ((8 * l2) + r24) 32 ∧ P_X7_allTops_l8 K Q n8 (l1 + (gI σ 52 ((8 * l2) + r24).toNatClampNeg)) (l2 + 1) σ))
def P_X7_allTops  (σ : St) (Q : Int32 → St → Prop) : Prop := P_X7_findTops  σ (fun t1 => ∃ m8, P_X7_allTops_l8  (fun k1 t37 => Q k1 t37) Q m8 (0) (0) t1)
def P_X7_nights (p0 : Int32) (σ : St) (Q : Int32 → St → Prop) : Prop := P_X7_in (p0) (1) (99) σ (fun r4 => ((r4 = true) → ((((gI σ 50 94) + p0) ≤ 999) → P_X7_allTops  σ (fun r40 t40 => P_X7_allTops  (sI t40 50 94 ((gI t40 50 94) + p0)) (fun r57 t57 => Q (r40 - r57) t57))) ∧ ((¬ ((gI σ 50 94) + p0) ≤ 999) → P_X7_finds ((-1000000005)) σ (fun r35 t35 => Q r35 t35))) ∧ ((r4 = false) → P_X7_finds ((-1000000001)) σ (fun r13 t13 => Q r13 t13)))
def P_X7_mostUnlike_l8  (K : Int32 → St → Prop) (Q : Int32 → St → Prop) : Nat → Int32 → Int32 → St → Prop
  | 0, _, _, _ => False
  | n8 + 1, l1, l2, σ => ((3 ≤ l2) → K (l1) σ) ∧ ((¬ 3 ≤ l2) → P_X7_lies (l2) σ (fun r15 => ((r15 = false) → ((0 ≤ l1) → P_X7_mostUnlike_l8 K Q n8 (l1) (l2 + 1) σ) ∧ ((¬ 0 ≤ l1) → P_X7_mostUnlike_l8 K Q n8 (0) (l2 + 1) σ)) ∧ ((r15 = true) → P_X7_standNow  σ (fun r23 => P_X7_unlikeAt (r23) (l2) σ (fun r27 => ((r27 ≤ l1) → P_X7_mostUnlike_l8 K Q n8 (l1) (l2 + 1) σ) ∧ ((¬ r27 ≤ l1) → P_X7_mostUnlike_l8 K Q n8 (r27) (l2 + 1) σ))))))
def P_X7_mostUnlike  (σ : St) (Q : Int32 → St → Prop) : Prop := P_X7_findTops  σ (fun t1 => ∃ m8, P_X7_mostUnlike_l8  (fun k1 t52 => Q k1 t52) Q m8 (0) (0) t1)
def P_X7_now (p0 : Int32) (σ : St) (Q : Int32 → St → Prop) : Prop := (p0 = 0 → Q (gI σ 50 94) σ) ∧ (p0 = 1 → Q (gI σ 50 93) σ) ∧ (p0 = 2 → Q (gI σ 50 95) σ) ∧ (p0 = 3 → Q (gI σ 50 92) σ) ∧ (p0 = 4 → P_X7_standNow  σ (fun r81 => P_X7_stones (r81) σ (fun r84 => Q r84 σ))) ∧ (p0 = 5 → P_X7_standNow  σ (fun r89 => Q r89 σ)) ∧ (p0 = 6 → P_X7_mostUnlike  σ (fun r94 t94 => Q r94 t94)) ∧ (p0 = 7 → P_X7_mostUnlike  σ (fun r99 t99 => (((gI t99 50 93) < r99) → Q 0 t99) ∧ ((¬ (gI t99 50 93) < r99) → Q 1 t99))) ∧ ((¬ p0 = 0 ∧ ¬ p0 = 1 ∧ ¬ p0 = 2 ∧ ¬ p0 = 3 ∧ ¬ p0 = 4 ∧ ¬ p0 = 5 ∧ ¬ p0 = 6 ∧ ¬ p0 = 7) → P_X7_finds ((-1000000001)) σ (fun r121 t121 => Q r121 t121))
def P_X7_takeOut_l51 (l1 : Int32) (K : St → Prop) (Q : St → Prop) : Nat → Int32 → St → Prop
  | 0, _, _ => False
  | n51 + 1, l3, σ => P_X7_many (l1) σ (fun r55 => (((3 * r55) ≤ l3) → K  σ) ∧ ((¬ (3 * r55) ≤ l3) → vp_in ((((23 * l1) + 2) + 3) + l3) 96 ∧ vp_in (((23 * l1) + 2) + l3) 96 ∧ P_X7_takeOut_l51 l1 K Q n51 (l3 + 1) (sI σ 50 ((((23 * l1) + 2) + l3).toNatClampNeg) (gI σ 50 ((((23 * l1) + 2) + 3) + l3).toNatClampNeg))))
def P_X7_takeOut (p0 : Int32) (σ : St) (Q : St → Prop) : Prop := P_X7_coin (p0) (0) σ (fun r10 => ((999999 ≤ ((gI σ 50 95) + r10)) → vp_in ((23 * p0) + 0) 96 ∧ vp_in ((23 * p0) + 0) 96 ∧ ∃ m51, P_X7_takeOut_l51 (p0) (fun  t96 => Q t96) Q m51 (0) (sI (sI σ 50 95 999999) 50 (((23 * p0) + 0).toNatClampNeg) ((gI (sI σ 50 95 999999) 50 ((23 * p0) + 0).toNatClampNeg) - 1))) ∧ ((¬ 999999 ≤ ((gI σ 50 95) + r10)) → vp_in ((23 * p0) + 0) 96 ∧ vp_in ((23 * p0) + 0) 96 ∧ ∃ m51, P_X7_takeOut_l51 (p0) (fun  t96 => Q t96) Q m51 (0) (sI (sI σ 50 95 ((gI σ 50 95) + r10)) 50 (((23 * p0) + 0).toNatClampNeg) ((gI (sI σ 50 95 ((gI σ 50 95) + r10)) 50 ((23 * p0) + 0).toNatClampNeg) - 1))))
def P_X7_canPullNow (p0 : Int32) (σ : St) (Q : Bool → St → Prop) : Prop := P_X7_findTops  σ (fun t1 => P_X7_standNow  t1 (fun r6 => P_X7_canPull (r6) (p0) t1 (fun r10 => Q r10 t1)))
def P_X7_pull (p0 : Int32) (σ : St) (Q : Int32 → St → Prop) : Prop := P_X7_isWall (p0) σ (fun r1 => ((r1 = true) → P_X7_canPullNow (p0) σ (fun r16 t16 => ((r16 = true) → P_X7_tall (p0) (0) t16 (fun r32 => P_X7_takeOut (p0) t16 (fun t38 => Q r32 t38))) ∧ ((r16 = false) → P_X7_finds ((-1000000005)) t16 (fun r25 t25 => Q r25 t25)))) ∧ ((r1 = false) → P_X7_finds ((-1000000001)) σ (fun r10 t10 => Q r10 t10)))
def P_X7_pulls_l4  (K : Int32 → St → Prop) (Q : Int32 → St → Prop) : Nat → Int32 → Int32 → St → Prop
  | 0, _, _, _ => False
  | n4 + 1, l1, l2, σ => ((4 ≤ l2) → K (l1) σ) ∧ ((¬ 4 ≤ l2) → P_X7_canPullNow (l2) σ (fun r12 t12 => ((r12 = false) → P_X7_pulls_l4 K Q n4 (l1 ||| 0) (l2 + 1) t12) ∧ ((r12 = true) → P_X7_pulls_l4 K Q n4 (l1 ||| (1 <<< (l2 &&& 31))) (l2 + 1) t12)))
def P_X7_pulls  (σ : St) (Q : Int32 → St → Prop) : Prop := ∃ m4, P_X7_pulls_l4  (fun k1 t33 => Q k1 t33) Q m4 (0) (0) σ
def P_X7_isStand_l11 (l1 : Int32) (K : Bool → St → Prop) (Q : Bool → Prop) : Nat → Bool → Int32 → St → Prop
  | 0, _, _, _ => False
  | n11 + 1, l2, l3, σ => ((4 ≤ l3) → K (l2) σ) ∧ ((¬ 4 ≤ l3) → ((l2 = false) → P_X7_isStand_l11 l1 K Q n11 (false) (l3 + 1) σ) ∧ ((l2 = true) → P_X7_left (l1) (l3) σ (fun r22 => P_X7_many (l3) σ (fun r27 => ((r27 < r22) → P_X7_isStand_l11 l1 K Q n11 (false) (l3 + 1) σ) ∧ ((¬ r27 < r22) → P_X7_isStand_l11 l1 K Q n11 (true) (l3 + 1) σ)))))
def P_X7_isStand (p0 : Int32) (σ : St) (Q : Bool → Prop) : Prop := P_X7_in (p0) (0) (4095) σ (fun r5 => ∃ m11, P_X7_isStand_l11 (p0) (fun k2 t45 => Q k2) Q m11 (r5) (0) σ)
def P_X7_findGoes_l19 (l1 : Int32) (K : St → Prop) (Q : St → Prop) : Nat → Int32 → St → Prop
  | 0, _, _ => False
  | n19 + 1, l2, σ => ((4 ≤ l2) → K  σ) ∧ ((¬ 4 ≤ l2) → P_X7_isStand (l1) σ (fun r26 => ((r26 = false) → K  σ) ∧ ((r26 = true) → P_X7_left (l1) (l2) σ (fun r34 => vp_in l1 4096 ∧ ((r34 ≤ 0) → vp_in l1 4096 ∧ P_X7_findGoes_l19 l1 K Q n19 (l2 + 1) (sI σ 55 (l1.toNatClampNeg) ((gI σ 55 l1.toNatClampNeg) ||| 0))) ∧ ((¬ r34 ≤ 0) → P_X7_many (l2) σ (fun r53 => P_X7_mayGo (l2) (r53 - r34) (l1) σ (fun r59 => ((r59 = false) → vp_in l1 4096 ∧ P_X7_findGoes_l19 l1 K Q n19 (l2 + 1) (sI σ 55 (l1.toNatClampNeg) ((gI σ 55 l1.toNatClampNeg) ||| 0))) ∧ ((r59 = true) → vp_in l1 4096 ∧ P_X7_findGoes_l19 l1 K Q n19 (l2 + 1) (sI σ 55 (l1.toNatClampNeg) ((gI σ 55 l1.toNatClampNeg) ||| (1 <<< (l2 &&& 31))))))))))))
def P_X7_findGoes_l2  (K : St → Prop) (Q : St → Prop) : Nat → Int32 → St → Prop
  | 0, _, _ => False
  | n2 + 1, l1, σ => P_X7_standNow  σ (fun r4 => ((r4 < l1) → K  σ) ∧ ((¬ r4 < l1) → vp_in l1 4096 ∧ ∃ m19, P_X7_findGoes_l19 (l1) (fun  t80 => P_X7_findGoes_l2 K Q n2 (l1 + 1) t80) Q m19 (0) (sI σ 55 (l1.toNatClampNeg) 0)))
def P_X7_findGoes  (σ : St) (Q : St → Prop) : Prop := ∃ m2, P_X7_findGoes_l2  (fun  t86 => Q t86) Q m2 (0) σ
def P_X7_countRows_l11 (l1 : Int32) (K : St → Prop) (Q : St → Prop) : Nat → Int32 → St → Prop
  | 0, _, _ => False
  | n11 + 1, l2, σ => ((l1 < l2) → K  σ) ∧ ((¬ l1 < l2) → vp_in l2 4096 ∧ P_X7_countRows_l11 l1 K Q n11 (l2 + 1) (sL σ 54 (l2.toNatClampNeg) 0))
def P_X7_countRows_l75 (l1 : Int32) (l2 : Int32) (K : St → Prop) (Q : St → Prop) : Nat → Int32 → St → Prop
  | 0, _, _ => False
  | n75 + 1, l3, σ => ((4 ≤ l3) → K  σ) ∧ ((¬ 4 ≤ l3) → vp_in l2 4096 ∧ (((lg_cmp (gL σ 54 l2.toNatClampNeg) 0) ≤ 0) → K  σ) ∧ ((¬ (lg_cmp (gL σ 54 l2.toNatClampNeg) 0) ≤ 0) → vp_in l2 4096 ∧ ((¬ (((gI σ 55 l2.toNatClampNeg) >>> (l3 &&& 31)) &&& 1) = 1) → P_X7_countRows_l75 l1 l2 K Q n75 (l3 + 1) σ) ∧ (((((gI σ 55 l2.toNatClampNeg) >>> (l3 &&& 31)) &&& 1) = 1) → vp_in (l2 - (1 <<< ((3 * l3) &&& 31))) 4096 ∧ vp_in l2 4096 ∧ vp_in (l2 - (1 <<< ((3 * l3) &&& 31))) 4096 ∧ P_X7_countRows_l75 l1 l2 K Q n75 (l3 + 1) (sL σ 54 ((l2 - (1 <<< ((3 * l3) &&& 31))).toNatClampNeg) ((gL σ 54 (l2 - (1 <<< ((3 * l3) &&& 31))).toNatClampNeg) + (gL σ 54 l2.toNatClampNeg))))))
def P_X7_countRows_l38 (l1 : Int32) (K : St → Prop) (Q : St → Prop) : Nat → Int32 → St → Prop
  | 0, _, _ => False
  | n38 + 1, l2, σ => ((l2 < 0) → K  σ) ∧ ((¬ l2 < 0) → vp_in l2 4096 ∧ (((lg_cmp (gL σ 54 l2.toNatClampNeg) 0) ≤ 0) → ∃ m75, P_X7_countRows_l75 (l1) (l2) (fun  t132 => P_X7_countRows_l38 l1 K Q n38 (l2 + (-1)) t132) Q m75 (0) σ) ∧ ((¬ (lg_cmp (gL σ 54 l2.toNatClampNeg) 0) ≤ 0) → ((l2 = l1) → ∃ m75, P_X7_countRows_l75 (l1) (l2) (fun  t132 => P_X7_countRows_l38 l1 K Q n38 (l2 + (-1)) t132) Q m75 (0) σ) ∧ ((¬ l2 = l1) → P_X7_isSafe (l2) σ (fun r60 => ((r60 = true) → ∃ m75, P_X7_countRows_l75 (l1) (l2) (fun  t132 => P_X7_countRows_l38 l1 K Q n38 (l2 + (-1)) t132) Q m75 (0) σ) ∧ ((r60 = false) → vp_in l2 4096 ∧ ∃ m75, P_X7_countRows_l75 (l1) (l2) (fun  t132 => P_X7_countRows_l38 l1 K Q n38 (l2 + (-1)) t132) Q m75 (0) (sL σ 54 (l2.toNatClampNeg) 0))))))
def P_X7_countRows  (σ : St) (Q : St → Prop) : Prop := P_X7_findTops  σ (fun t1 => P_X7_standNow  t1 (fun r5 => ∃ m11, P_X7_countRows_l11 (r5) (fun  t29 => vp_in r5 4096 ∧ ∃ m38, P_X7_countRows_l38 (r5) (fun  t138 => Q t138) Q m38 (r5) (sL t29 54 (r5.toNatClampNeg) 1)) Q m11 (0) t1))
def P_X7_findRows  (σ : St) (Q : St → Prop) : Prop := P_X7_findGoes  σ (fun t1 => P_X7_countRows  t1 (fun t5 => Q t5))
def P_X7_can (p0 : Int32) (σ : St) (Q : Int32 → St → Prop) : Prop := P_X7_isStand (p0) σ (fun r2 => ((r2 = true) → P_X7_findRows  σ (fun t16 => vp_in p0 4096 ∧ (((lg_cmp (gL t16 54 p0.toNatClampNeg) 0) ≤ 0) → Q 0 t16) ∧ ((¬ (lg_cmp (gL t16 54 p0.toNatClampNeg) 0) ≤ 0) → Q 1 t16))) ∧ ((r2 = false) → P_X7_finds ((-1000000001)) σ (fun r11 t11 => Q r11 t11)))
def P_X7_howManyNow_l8  (K : Int32 → St → Prop) (Q : Int32 → St → Prop) : Nat → Int32 → Int32 → St → Prop
  | 0, _, _, _ => False
  | n8 + 1, l1, l2, σ => P_X7_standNow  σ (fun r10 => ((r10 < l2) → K (l1) σ) ∧ ((¬ r10 < l2) → vp_in l2 4096 ∧ (((lg_cmp (gL σ 54 l2.toNatClampNeg) 0) ≤ 0) → P_X7_howManyNow_l8 K Q n8 (l1 + 0) (l2 + 1) σ) ∧ ((¬ (lg_cmp (gL σ 54 l2.toNatClampNeg) 0) ≤ 0) → P_X7_howManyNow_l8 K Q n8 (l1 + 1) (l2 + 1) σ)))
def P_X7_howManyNow  (σ : St) (Q : Int32 → St → Prop) : Prop := P_X7_countRows  σ (fun t1 => ∃ m8, P_X7_howManyNow_l8  (fun k1 t41 => Q k1 t41) Q m8 (0) (0) t1)
def P_X7_howMany  (σ : St) (Q : Int32 → St → Prop) : Prop := P_X7_findGoes  σ (fun t1 => P_X7_howManyNow  t1 (fun r5 t5 => Q r5 t5))
def P_X7_stands  (σ : St) (Q : Int32 → St → Prop) : Prop := P_X7_howMany  σ (fun r1 t1 => Q r1 t1)
def P_X7_least_l14  (K : Int32 → St → Prop) (Q : Int32 → St → Prop) : Nat → Int32 → Int32 → St → Prop
  | 0, _, _, _ => False
  | n14 + 1, l1, l2, σ => ((l2 < 0) → K (l1) σ) ∧ ((¬ l2 < 0) → vp_in l2 4096 ∧ (((lg_cmp (gL σ 54 l2.toNatClampNeg) 0) ≤ 0) → P_X7_least_l14 K Q n14 (l1) (l2 + (-1)) σ) ∧ ((¬ (lg_cmp (gL σ 54 l2.toNatClampNeg) 0) ≤ 0) → P_X7_stones (l2) σ (fun r30 => P_X7_stones (l1) σ (fun r34 => ((r34 < r30) → P_X7_least_l14 K Q n14 (l1) (l2 + (-1)) σ) ∧ ((¬ r34 < r30) → P_X7_least_l14 K Q n14 (l2) (l2 + (-1)) σ)))))
def P_X7_least  (σ : St) (Q : Int32 → St → Prop) : Prop := P_X7_findRows  σ (fun t1 => P_X7_standNow  t1 (fun r5 => P_X7_standNow  t1 (fun r10 => ∃ m14, P_X7_least_l14  (fun k1 t52 => Q k1 t52) Q m14 (r5) (r10) t1)))
def P_X7_ways (p0 : Int32) (σ : St) (Q : Int64 → St → Prop) : Prop := P_X7_isStand (p0) σ (fun r2 => ((r2 = true) → P_X7_findRows  σ (fun t17 => vp_in p0 4096 ∧ Q (gL t17 54 p0.toNatClampNeg) t17)) ∧ ((r2 = false) → P_X7_finds ((-1000000001)) σ (fun r11 t11 => Q ((r11 : Int32).toInt64) t11)))
def P_X7_findLeads_l39 (l1 : Int32) (l2 : Int32) (l3 : Int32) (K : St → Prop) (Q : St → Prop) : Nat → Int32 → St → Prop
  | 0, _, _ => False
  | n39 + 1, l4, σ => ((4 ≤ l4) → K  σ) ∧ ((¬ 4 ≤ l4) → ((l3 ≤ l1) → K  σ) ∧ ((¬ l3 ≤ l1) → vp_in l3 4096 ∧ ((¬ (gI σ 56 l3.toNatClampNeg) = 0) → vp_in l3 4096 ∧ P_X7_findLeads_l39 l1 l2 l3 K Q n39 (l4 + 1) (sI σ 56 (l3.toNatClampNeg) 1)) ∧ (((gI σ 56 l3.toNatClampNeg) = 0) → vp_in l3 4096 ∧ ((¬ (((gI σ 55 l3.toNatClampNeg) >>> (l4 &&& 31)) &&& 1) = 1) → vp_in l3 4096 ∧ P_X7_findLeads_l39 l1 l2 l3 K Q n39 (l4 + 1) (sI σ 56 (l3.toNatClampNeg) 0)) ∧ (((((gI σ 55 l3.toNatClampNeg) >>> (l4 &&& 31)) &&& 1) = 1) → vp_in (l3 - (1 <<< ((3 * l4) &&& 31))) 4096 ∧ (((gI σ 56 (l3 - (1 <<< ((3 * l4) &&& 31))).toNatClampNeg) = 0) → vp_in l3 4096 ∧ P_X7_findLeads_l39 l1 l2 l3 K Q n39 (l4 + 1) (sI σ 56 (l3.toNatClampNeg) 0)) ∧ ((¬ (gI σ 56 (l3 - (1 <<< ((3 * l4) &&& 31))).toNatClampNeg) = 0) → vp_in l3 4096 ∧ P_X7_findLeads_l39 l1 l2 l3 K Q n39 (l4 + 1) (sI σ 56 (l3.toNatClampNeg) 1))))))
def P_X7_findLeads_l15 (l1 : Int32) (l2 : Int32) (K : St → Prop) (Q : St → Prop) : Nat → Int32 → St → Prop
  | 0, _, _ => False
  | n15 + 1, l3, σ => ((l2 < l3) → K  σ) ∧ ((¬ l2 < l3) → ((¬ l3 = l1) → vp_in l3 4096 ∧ ∃ m39, P_X7_findLeads_l39 (l1) (l2) (l3) (fun  t107 => vp_in l3 4096 ∧ (((gI t107 56 l3.toNatClampNeg) = 0) → vp_in l3 4096 ∧ P_X7_findLeads_l15 l1 l2 K Q n15 (l3 + 1) (sI t107 56 (l3.toNatClampNeg) 0)) ∧ ((¬ (gI t107 56 l3.toNatClampNeg) = 0) → ((l3 = l2) → vp_in l3 4096 ∧ P_X7_findLeads_l15 l1 l2 K Q n15 (l3 + 1) (sI t107 56 (l3.toNatClampNeg) 1)) ∧ ((¬ l3 = l2) → P_X7_isSafe (l3) t107 (fun r128 => ((r128 = false) → vp_in l3 4096 ∧ P_X7_findLeads_l15 l1 l2 K Q n15 (l3 + 1) (sI t107 56 (l3.toNatClampNeg) 0)) ∧ ((r128 = true) → vp_in l3 4096 ∧ P_X7_findLeads_l15 l1 l2 K Q n15 (l3 + 1) (sI t107 56 (l3.toNatClampNeg) 1)))))) Q m39 (0) (sI σ 56 (l3.toNatClampNeg) 0)) ∧ ((l3 = l1) → vp_in l3 4096 ∧ ∃ m39, P_X7_findLeads_l39 (l1) (l2) (l3) (fun  t107 => vp_in l3 4096 ∧ (((gI t107 56 l3.toNatClampNeg) = 0) → vp_in l3 4096 ∧ P_X7_findLeads_l15 l1 l2 K Q n15 (l3 + 1) (sI t107 56 (l3.toNatClampNeg) 0)) ∧ ((¬ (gI t107 56 l3.toNatClampNeg) = 0) → ((l3 = l2) → vp_in l3 4096 ∧ P_X7_findLeads_l15 l1 l2 K Q n15 (l3 + 1) (sI t107 56 (l3.toNatClampNeg) 1)) ∧ ((¬ l3 = l2) → P_X7_isSafe (l3) t107 (fun r128 => ((r128 = false) → vp_in l3 4096 ∧ P_X7_findLeads_l15 l1 l2 K Q n15 (l3 + 1) (sI t107 56 (l3.toNatClampNeg) 0)) ∧ ((r128 = true) → vp_in l3 4096 ∧ P_X7_findLeads_l15 l1 l2 K Q n15 (l3 + 1) (sI t107 56 (l3.toNatClampNeg) 1)))))) Q m39 (0) (sI σ 56 (l3.toNatClampNeg) 1)))
def P_X7_findLeads (p0 : Int32) (σ : St) (Q : St → Prop) : Prop := P_X7_findGoes  σ (fun t1 => P_X7_findTops  t1 (fun t5 => P_X7_standNow  t5 (fun r9 => ∃ m15, P_X7_findLeads_l15 (p0) (r9) (fun  t146 => Q t146) Q m15 (0) t5)))
def P_X7_firstFrom_l2 (l1 : Int32) (K : Int32 → St → Prop) (Q : Int32 → Prop) : Nat → Int32 → St → Prop
  | 0, _, _ => False
  | n2 + 1, l2, σ => P_X7_left (l1) (l2) σ (fun r4 => ((r4 = 0) → P_X7_firstFrom_l2 l1 K Q n2 (l2 + 1) σ) ∧ ((¬ r4 = 0) → vp_in (l1 - (1 <<< ((3 * l2) &&& 31))) 4096 ∧ (((gI σ 56 (l1 - (1 <<< ((3 * l2) &&& 31))).toNatClampNeg) = 0) → P_X7_firstFrom_l2 l1 K Q n2 (l2 + 1) σ) ∧ ((¬ (gI σ 56 (l1 - (1 <<< ((3 * l2) &&& 31))).toNatClampNeg) = 0) → P_X7_canPull (l1) (l2) σ (fun r28 => ((r28 = true) → K (l2) σ) ∧ ((r28 = false) → P_X7_firstFrom_l2 l1 K Q n2 (l2 + 1) σ)))))
def P_X7_firstFrom (p0 : Int32) (σ : St) (Q : Int32 → Prop) : Prop := ∃ m2, P_X7_firstFrom_l2 (p0) (fun k2 t40 => Q k2) Q m2 (0) σ
def P_X7_first (p0 : Int32) (σ : St) (Q : Int32 → St → Prop) : Prop := P_X7_isStand (p0) σ (fun r2 => ((r2 = true) → P_X7_findLeads (p0) σ (fun t17 => P_X7_standNow  t17 (fun r22 => ((p0 = r22) → P_X7_finds ((-1000000004)) t17 (fun r43 t43 => Q r43 t43)) ∧ ((¬ p0 = r22) → P_X7_standNow  t17 (fun r33 => vp_in r33 4096 ∧ ((¬ (gI t17 56 r33.toNatClampNeg) = 0) → P_X7_standNow  t17 (fun r51 => P_X7_firstFrom (r51) t17 (fun r54 => Q r54 t17))) ∧ (((gI t17 56 r33.toNatClampNeg) = 0) → P_X7_finds ((-1000000004)) t17 (fun r43 t43 => Q r43 t43))))))) ∧ ((r2 = false) → P_X7_finds ((-1000000001)) σ (fun r11 t11 => Q r11 t11)))
def P_X7_bring_l41 (l1 : Int32) (K : Int32 → St → Prop) (Q : Int32 → St → Prop) : Nat → Int32 → St → Prop
  | 0, _, _ => False
  | n41 + 1, l2, σ => P_X7_standNow  σ (fun r42 => ((r42 = l1) → K (l2) σ) ∧ ((¬ r42 = l1) → P_X7_standNow  σ (fun r52 => P_X7_firstFrom (r52) σ (fun r55 => P_X7_takeOut (r55) σ (fun t58 => P_X7_findLeads (l1) t58 (fun t63 => P_X7_bring_l41 l1 K Q n41 (l2 + 1) t63))))))
def P_X7_bring (p0 : Int32) (σ : St) (Q : Int32 → St → Prop) : Prop := P_X7_isStand (p0) σ (fun r2 => ((r2 = true) → P_X7_findLeads (p0) σ (fun t17 => P_X7_standNow  t17 (fun r25 => vp_in r25 4096 ∧ ((¬ (gI t17 56 r25.toNatClampNeg) = 0) → ∃ m41, P_X7_bring_l41 (p0) (fun k2 t72 => Q k2 t72) Q m41 (0) t17) ∧ (((gI t17 56 r25.toNatClampNeg) = 0) → P_X7_finds ((-1000000005)) t17 (fun r35 t35 => Q r35 t35))))) ∧ ((r2 = false) → P_X7_finds ((-1000000001)) σ (fun r11 t11 => Q r11 t11)))
def P_X7_widest_l4 (l1 : Int32) (K : Int32 → St → Prop) (Q : Int32 → Prop) : Nat → Int32 → Int32 → St → Prop
  | 0, _, _, _ => False
  | n4 + 1, l2, l3, σ => ((3 ≤ l3) → K (l2) σ) ∧ ((¬ 3 ≤ l3) → P_X7_lies (l3) σ (fun r11 => ((r11 = false) → P_X7_widest_l4 l1 K Q n4 (l2) (l3 + 1) σ) ∧ ((r11 = true) → P_X7_unlikeAt (l1) (l3) σ (fun r20 => ((r20 ≤ l2) → P_X7_widest_l4 l1 K Q n4 (l2) (l3 + 1) σ) ∧ ((¬ r20 ≤ l2) → P_X7_unlikeAt (l1) (l3) σ (fun r30 => P_X7_widest_l4 l1 K Q n4 (r30) (l3 + 1) σ))))))
def P_X7_widest (p0 : Int32) (σ : St) (Q : Int32 → Prop) : Prop := ∃ m4, P_X7_widest_l4 (p0) (fun k2 t44 => Q k2) Q m4 (0) (0) σ
def P_X7_slackTo_l15 (l1 : Int32) (l2 : Int32) (K : St → Prop) (Q : Int32 → St → Prop) : Nat → Int32 → St → Prop
  | 0, _, _ => False
  | n15 + 1, l3, σ => ((l2 ≤ l3) → K  σ) ∧ ((¬ l2 ≤ l3) → vp_in l3 4096 ∧ P_X7_slackTo_l15 l1 l2 K Q n15 (l3 + 1) (sI σ 57 (l3.toNatClampNeg) 1000))
def P_X7_slackTo_l108 (l1 : Int32) (l2 : Int32) (l3 : Int32) (K : St → Prop) (Q : Int32 → St → Prop) : Nat → Int32 → St → Prop
  | 0, _, _ => False
  | n108 + 1, l5, σ => ((4 ≤ l5) → K  σ) ∧ ((¬ 4 ≤ l5) → vp_in l3 4096 ∧ ((100 ≤ (gI σ 57 l3.toNatClampNeg)) → K  σ) ∧ ((¬ 100 ≤ (gI σ 57 l3.toNatClampNeg)) → vp_in l3 4096 ∧ ((¬ (((gI σ 55 l3.toNatClampNeg) >>> (l5 &&& 31)) &&& 1) = 1) → vp_in l3 4096 ∧ vp_in l3 4096 ∧ P_X7_slackTo_l108 l1 l2 l3 K Q n108 (l5 + 1) (sI σ 57 (l3.toNatClampNeg) (gI σ 57 l3.toNatClampNeg))) ∧ (((((gI σ 55 l3.toNatClampNeg) >>> (l5 &&& 31)) &&& 1) = 1) → vp_in (l3 - (1 <<< ((3 * l5) &&& 31))) 4096 ∧ vp_in l3 4096 ∧ (((gI σ 57 (l3 - (1 <<< ((3 * l5) &&& 31))).toNatClampNeg) ≤ (gI σ 57 l3.toNatClampNeg)) → vp_in l3 4096 ∧ vp_in l3 4096 ∧ P_X7_slackTo_l108 l1 l2 l3 K Q n108 (l5 + 1) (sI σ 57 (l3.toNatClampNeg) (gI σ 57 l3.toNatClampNeg))) ∧ ((¬ (gI σ 57 (l3 - (1 <<< ((3 * l5) &&& 31))).toNatClampNeg) ≤ (gI σ 57 l3.toNatClampNeg)) → vp_in l3 4096 ∧ vp_in (l3 - (1 <<< ((3 * l5) &&& 31))) 4096 ∧ P_X7_slackTo_l108 l1 l2 l3 K Q n108 (l5 + 1) (sI σ 57 ((l3 - (1 <<< ((3 * l5) &&& 31))).toNatClampNeg) (gI σ 57 l3.toNatClampNeg))))))
def P_X7_slackTo_l44 (l1 : Int32) (l2 : Int32) (K : St → Prop) (Q : Int32 → St → Prop) : Nat → Int32 → St → Prop
  | 0, _, _ => False
  | n44 + 1, l3, σ => ((l3 < l1) → K  σ) ∧ ((¬ l3 < l1) → ((l3 = l2) → vp_in l3 4096 ∧ ((0 ≤ (gI σ 57 l3.toNatClampNeg)) → vp_in l3 4096 ∧ vp_in l3 4096 ∧ ∃ m108, P_X7_slackTo_l108 (l1) (l2) (l3) (fun  t189 => P_X7_slackTo_l44 l1 l2 K Q n44 (l3 + (-1)) t189) Q m108 (0) (sI σ 57 (l3.toNatClampNeg) (gI σ 57 l3.toNatClampNeg))) ∧ ((¬ 0 ≤ (gI σ 57 l3.toNatClampNeg)) → vp_in l3 4096 ∧ ∃ m108, P_X7_slackTo_l108 (l1) (l2) (l3) (fun  t189 => P_X7_slackTo_l44 l1 l2 K Q n44 (l3 + (-1)) t189) Q m108 (0) (sI σ 57 (l3.toNatClampNeg) 0))) ∧ ((¬ l3 = l2) → vp_in l3 4096 ∧ ((¬ (gI σ 57 l3.toNatClampNeg) = 1000) → P_X7_widest (l3) σ (fun r72 => vp_in l3 4096 ∧ ((r72 ≤ (gI σ 57 l3.toNatClampNeg)) → vp_in l3 4096 ∧ vp_in l3 4096 ∧ ∃ m108, P_X7_slackTo_l108 (l1) (l2) (l3) (fun  t189 => P_X7_slackTo_l44 l1 l2 K Q n44 (l3 + (-1)) t189) Q m108 (0) (sI σ 57 (l3.toNatClampNeg) (gI σ 57 l3.toNatClampNeg))) ∧ ((¬ r72 ≤ (gI σ 57 l3.toNatClampNeg)) → vp_in l3 4096 ∧ ∃ m108, P_X7_slackTo_l108 (l1) (l2) (l3) (fun  t189 => P_X7_slackTo_l44 l1 l2 K Q n44 (l3 + (-1)) t189) Q m108 (0) (sI σ 57 (l3.toNatClampNeg) r72)))) ∧ (((gI σ 57 l3.toNatClampNeg) = 1000) → vp_in l3 4096 ∧ ((0 ≤ (gI σ 57 l3.toNatClampNeg)) → vp_in l3 4096 ∧ vp_in l3 4096 ∧ ∃ m108, P_X7_slackTo_l108 (l1) (l2) (l3) (fun  t189 => P_X7_slackTo_l44 l1 l2 K Q n44 (l3 + (-1)) t189) Q m108 (0) (sI σ 57 (l3.toNatClampNeg) (gI σ 57 l3.toNatClampNeg))) ∧ ((¬ 0 ≤ (gI σ 57 l3.toNatClampNeg)) → vp_in l3 4096 ∧ ∃ m108, P_X7_slackTo_l108 (l1) (l2) (l3) (fun  t189 => P_X7_slackTo_l44 l1 l2 K Q n44 (l3 + (-1)) t189) Q m108 (0) (sI σ 57 (l3.toNatClampNeg) 0)))))
def P_X7_slackTo (p0 : Int32) (σ : St) (Q : Int32 → St → Prop) : Prop := P_X7_findGoes  σ (fun t1 => P_X7_findTops  t1 (fun t5 => P_X7_standNow  t5 (fun r9 => ∃ m15, P_X7_slackTo_l15 (p0) (r9) (fun  t35 => vp_in r9 4096 ∧ ∃ m44, P_X7_slackTo_l44 (p0) (r9) (fun  t195 => vp_in p0 4096 ∧ ((100 ≤ (gI t195 57 p0.toNatClampNeg)) → P_X7_finds ((-1000000004)) t195 (fun r218 t218 => Q r218 t218)) ∧ ((¬ 100 ≤ (gI t195 57 p0.toNatClampNeg)) → vp_in p0 4096 ∧ Q (gI t195 57 p0.toNatClampNeg) t195)) Q m44 (r9) (sI t35 57 (r9.toNatClampNeg) 0)) Q m15 (0) t5)))
def P_X7_slackFor (p0 : Int32) (σ : St) (Q : Int32 → St → Prop) : Prop := P_X7_isStand (p0) σ (fun r2 => ((r2 = false) → P_X7_finds ((-1000000001)) σ (fun r19 t19 => Q r19 t19)) ∧ ((r2 = true) → P_X7_slackTo (p0) σ (fun r10 t10 => Q r10 t10)))
def P_X7_slackAll  (σ : St) (Q : Int32 → St → Prop) : Prop := P_X7_slackTo (0) σ (fun r2 t2 => Q r2 t2)
def P_X7_paidIn_l4 (l1 : Int32) (K : Int32 → St → Prop) (Q : Int32 → Prop) : Nat → Int32 → Int32 → St → Prop
  | 0, _, _, _ => False
  | n4 + 1, l2, l3, σ => ((4 ≤ l3) → K (l2) σ) ∧ ((¬ 4 ≤ l3) → P_X7_left (l1) (l3) σ (fun r20 => vp_in ((8 * l3) + r20) 32 ∧ P_X7_paidIn_l4 l1 K Q n4 (l2 + (gI σ 53 ((8 * l3) + r20).toNatClampNeg)) (l3 + 1) σ))
def P_X7_paidIn (p0 : Int32) (σ : St) (Q : Int32 → Prop) : Prop := ∃ m4, P_X7_paidIn_l4 (p0) (fun k2 t33 => Q k2) Q m4 (0) (0) σ
def P_X7_richestNow_l10 (l1 : Int32) (l2 : Int32) (K : Int32 → St → Prop) (Q : Int32 → Prop) : Nat → Int32 → Int32 → St → Prop
  | 0, _, _, _ => False
  | n10 + 1, l3, l4, σ => ((l4 < 0) → K (l3) σ) ∧ ((¬ l4 < 0) → vp_in l4 4096 ∧ (((lg_cmp (gL σ 54 l4.toNatClampNeg) 0) ≤ 0) → P_X7_richestNow_l10 l1 l2 K Q n10 (l3) (l4 + (-1)) σ) ∧ ((¬ (lg_cmp (gL σ 54 l4.toNatClampNeg) 0) ≤ 0) → P_X7_stones (l2) σ (fun r28 => P_X7_stones (l4) σ (fun r33 => ((l1 < (r28 - r33)) → P_X7_richestNow_l10 l1 l2 K Q n10 (l3) (l4 + (-1)) σ) ∧ ((¬ l1 < (r28 - r33)) → P_X7_paidIn (l4) σ (fun r44 => P_X7_paidIn (l3) σ (fun r49 => ((0 < (r44 - r49)) → P_X7_richestNow_l10 l1 l2 K Q n10 (l4) (l4 + (-1)) σ) ∧ ((¬ 0 < (r44 - r49)) → ((¬ (r44 - r49) = 0) → P_X7_richestNow_l10 l1 l2 K Q n10 (l3) (l4 + (-1)) σ) ∧ (((r44 - r49) = 0) → P_X7_stones (l4) σ (fun r67 => P_X7_stones (l3) σ (fun r71 => ((r67 < r71) → P_X7_richestNow_l10 l1 l2 K Q n10 (l3) (l4 + (-1)) σ) ∧ ((¬ r67 < r71) → P_X7_richestNow_l10 l1 l2 K Q n10 (l4) (l4 + (-1)) σ))))))))))))
def P_X7_richestNow (p0 : Int32) (σ : St) (Q : Int32 → Prop) : Prop := P_X7_standNow  σ (fun r1 => ∃ m10, P_X7_richestNow_l10 (p0) (r1) (fun k3 t90 => Q k3) Q m10 (r1) (r1) σ)
def P_X7_richest (p0 : Int32) (σ : St) (Q : Int32 → St → Prop) : Prop := P_X7_findRows  σ (fun t1 => P_X7_richestNow (p0) t1 (fun r6 => Q r6 t1))
def P_X7_most (p0 : Int32) (σ : St) (Q : Int32 → St → Prop) : Prop := P_X7_in (p0) (0) (28) σ (fun r4 => ((r4 = false) → P_X7_finds ((-1000000001)) σ (fun r25 t25 => Q r25 t25)) ∧ ((r4 = true) → P_X7_richest (p0) σ (fun r13 t13 => P_X7_paidIn (r13) t13 (fun r16 => Q r16 t13))))
def P_X7_where (p0 : Int32) (σ : St) (Q : Int32 → St → Prop) : Prop := P_X7_in (p0) (0) (28) σ (fun r4 => ((r4 = false) → P_X7_finds ((-1000000001)) σ (fun r21 t21 => Q r21 t21)) ∧ ((r4 = true) → P_X7_richest (p0) σ (fun r12 t12 => Q r12 t12)))
def P_X7_out_l32 (l1 : Int32) (l2 : Int32) (l3 : Int32) (K : Int32 → St → Prop) (Q : Int32 → St → Prop) : Nat → Int32 → Int32 → St → Prop
  | 0, _, _, _ => False
  | n32 + 1, l4, l5, σ => ((l3 < l5) → K (l4) σ) ∧ ((¬ l3 < l5) → P_X7_stones (l3) σ (fun r39 => P_X7_stones (l5) σ (fun r44 => vp_in l5 4096 ∧ (((lg_cmp (gL σ 54 l5.toNatClampNeg) 0) ≤ 0) → P_X7_out_l32 l1 l2 l3 K Q n32 (l4) (l5 + 1) σ) ∧ ((¬ (lg_cmp (gL σ 54 l5.toNatClampNeg) 0) ≤ 0) → P_X7_left (l5) (l1) σ (fun r65 => P_X7_many (l1) σ (fun r70 => (((r70 - l2) ≤ r65) → P_X7_out_l32 l1 l2 l3 K Q n32 (l4) (l5 + 1) σ) ∧ ((¬ (r70 - l2) ≤ r65) → ((l4 ≤ (r39 - r44)) → P_X7_out_l32 l1 l2 l3 K Q n32 (l4) (l5 + 1) σ) ∧ ((¬ l4 ≤ (r39 - r44)) → P_X7_out_l32 l1 l2 l3 K Q n32 (r39 - r44) (l5 + 1) σ))))))))
def P_X7_out (p0 : Int32) (p1 : Int32) (σ : St) (Q : Int32 → St → Prop) : Prop := P_X7_isStone (p0) (p1) σ (fun r3 => ((r3 = true) → P_X7_findRows  σ (fun t17 => P_X7_standNow  t17 (fun r21 => ∃ m32, P_X7_out_l32 (p0) (p1) (r21) (fun k4 t100 => ((k4 ≤ 28) → Q k4 t100) ∧ ((¬ k4 ≤ 28) → P_X7_finds ((-1000000004)) t100 (fun r110 t110 => Q r110 t110))) Q m32 (29) (0) t17))) ∧ ((r3 = false) → P_X7_finds ((-1000000001)) σ (fun r12 t12 => Q r12 t12)))
def P_X7_reach_l22 (l1 : Int32) (K : Int32 → St → Prop) (Q : Int32 → St → Prop) : Nat → Int32 → Int32 → St → Prop
  | 0, _, _, _ => False
  | n22 + 1, l2, l3, σ => P_X7_standNow  σ (fun r24 => ((r24 < l3) → K (l2) σ) ∧ ((¬ r24 < l3) → P_X7_many (l1) σ (fun r32 => P_X7_left (l3) (l1) σ (fun r37 => vp_in l3 4096 ∧ (((lg_cmp (gL σ 54 l3.toNatClampNeg) 0) ≤ 0) → P_X7_reach_l22 l1 K Q n22 (l2) (l3 + 1) σ) ∧ ((¬ (lg_cmp (gL σ 54 l3.toNatClampNeg) 0) ≤ 0) → (((r32 - r37) ≤ l2) → P_X7_reach_l22 l1 K Q n22 (l2) (l3 + 1) σ) ∧ ((¬ (r32 - r37) ≤ l2) → P_X7_reach_l22 l1 K Q n22 (r32 - r37) (l3 + 1) σ))))))
def P_X7_reach (p0 : Int32) (σ : St) (Q : Int32 → St → Prop) : Prop := P_X7_isWall (p0) σ (fun r1 => ((r1 = true) → P_X7_findRows  σ (fun t15 => ∃ m22, P_X7_reach_l22 (p0) (fun k2 t73 => Q k2 t73) Q m22 (0) (0) t15)) ∧ ((r1 = false) → P_X7_finds ((-1000000001)) σ (fun r10 t10 => Q r10 t10)))
def P_X7_help_l30 (l3 : Int32) (l4 : Int32) (K : Int32 → Int32 → St → Prop) (Q : Int32 → St → Prop) : Nat → Int32 → Int32 → Int32 → St → Prop
  | 0, _, _, _, _ => False
  | n30 + 1, l1, l2, l5, σ => ((20 < l5) → K (l1) (l2) σ) ∧ ((¬ 20 < l5) → vp_in ((23 * l3) + 1) 96 ∧ P_X7_howManyNow  (sI σ 50 (((23 * l3) + 1).toNatClampNeg) l5) (fun r51 t51 => ((r51 ≤ l1) → ((r51 ≤ l1) → P_X7_help_l30 l3 l4 K Q n30 (l1) (l2) (l5 + 1) t51) ∧ ((¬ r51 ≤ l1) → P_X7_help_l30 l3 l4 K Q n30 (r51) (l2) (l5 + 1) t51)) ∧ ((¬ r51 ≤ l1) → ((r51 ≤ l1) → P_X7_help_l30 l3 l4 K Q n30 (l1) ((100 * l3) + l5) (l5 + 1) t51) ∧ ((¬ r51 ≤ l1) → P_X7_help_l30 l3 l4 K Q n30 (r51) ((100 * l3) + l5) (l5 + 1) t51))))
def P_X7_help_l9  (K : Int32 → St → Prop) (Q : Int32 → St → Prop) : Nat → Int32 → Int32 → Int32 → St → Prop
  | 0, _, _, _, _ => False
  | n9 + 1, l1, l2, l3, σ => ((4 ≤ l3) → K (l2) σ) ∧ ((¬ 4 ≤ l3) → vp_in ((23 * l3) + 1) 96 ∧ ∃ m30, P_X7_help_l30 (l3) (gI σ 50 ((23 * l3) + 1).toNatClampNeg) (fun k1 k2 t93 => vp_in ((23 * l3) + 1) 96 ∧ P_X7_help_l9 K Q n9 (k1) (k2) (l3 + 1) (sI t93 50 (((23 * l3) + 1).toNatClampNeg) (gI σ 50 ((23 * l3) + 1).toNatClampNeg))) Q m30 (l1) (l2) (1) σ)
def P_X7_help  (σ : St) (Q : Int32 → St → Prop) : Prop := P_X7_howMany  σ (fun r1 t1 => ∃ m9, P_X7_help_l9  (fun k2 t112 => ((0 ≤ k2) → Q k2 t112) ∧ ((¬ 0 ≤ k2) → P_X7_finds ((-1000000004)) t112 (fun r119 t119 => Q r119 t119))) Q m9 (r1) ((-1)) (0) t1)
def P_X7_frees_l18 (l3 : Int32) (K : Int32 → St → Prop) (Q : Int32 → St → Prop) : Nat → Int32 → Int32 → Int32 → St → Prop
  | 0, _, _, _, _ => False
  | n18 + 1, l1, l2, l4, σ => ((3 ≤ l4) → K (l2) σ) ∧ ((¬ 3 ≤ l4) → P_X7_howManyNow  (sI σ 50 92 (l3 &&& ((1 <<< (l4 &&& 31)) ^^^ ((-1))))) (fun r40 t40 => ((r40 ≤ l1) → ((r40 ≤ l1) → P_X7_frees_l18 l3 K Q n18 (l1) (l2) (l4 + 1) t40) ∧ ((¬ r40 ≤ l1) → P_X7_frees_l18 l3 K Q n18 (r40) (l2) (l4 + 1) t40)) ∧ ((¬ r40 ≤ l1) → ((r40 ≤ l1) → P_X7_frees_l18 l3 K Q n18 (l1) (l4) (l4 + 1) t40) ∧ ((¬ r40 ≤ l1) → P_X7_frees_l18 l3 K Q n18 (r40) (l4) (l4 + 1) t40))))
def P_X7_frees  (σ : St) (Q : Int32 → St → Prop) : Prop := P_X7_howMany  σ (fun r1 t1 => ∃ m18, P_X7_frees_l18 (gI t1 50 92) (fun k2 t77 => ((0 ≤ k2) → Q k2 (sI t77 50 92 (gI t1 50 92))) ∧ ((¬ 0 ≤ k2) → P_X7_finds ((-1000000004)) (sI t77 50 92 (gI t1 50 92)) (fun r92 t92 => Q r92 t92))) Q m18 (r1) ((-1)) (0) t1)
def P_X7_kind_l45 (l1 : Int32) (l2 : Int32) (K : Int32 → St → Prop) (Q : Int32 → St → Prop) : Nat → Int32 → Int32 → Int32 → St → Prop
  | 0, _, _, _, _ => False
  | n45 + 1, l3, l4, l5, σ => ((5 < l5) → K (l3) σ) ∧ ((¬ 5 < l5) → P_X7_at (l1) (0) (0) σ (fun r58 => vp_in r58 96 ∧ P_X7_howMany  (sI σ 50 (r58.toNatClampNeg) l5) (fun r65 t65 => ((r65 ≤ l4) → ((r65 ≤ l4) → P_X7_kind_l45 l1 l2 K Q n45 (l3) (l4) (l5 + 1) t65) ∧ ((¬ r65 ≤ l4) → P_X7_kind_l45 l1 l2 K Q n45 (l3) (r65) (l5 + 1) t65)) ∧ ((¬ r65 ≤ l4) → ((r65 ≤ l4) → P_X7_kind_l45 l1 l2 K Q n45 (l5) (l4) (l5 + 1) t65) ∧ ((¬ r65 ≤ l4) → P_X7_kind_l45 l1 l2 K Q n45 (l5) (r65) (l5 + 1) t65)))))
def P_X7_kind (p0 : Int32) (σ : St) (Q : Int32 → St → Prop) : Prop := P_X7_isWall (p0) σ (fun r1 => ((r1 = true) → P_X7_many (p0) σ (fun r16 => ((¬ r16 = 0) → P_X7_its (p0) (0) (0) σ (fun r33 => ∃ m45, P_X7_kind_l45 (p0) (r33) (fun k3 t106 => P_X7_at (p0) (0) (0) t106 (fun r113 => vp_in r113 96 ∧ Q k3 (sI t106 50 (r113.toNatClampNeg) r33))) Q m45 (0) ((-1)) (0) σ)) ∧ ((r16 = 0) → P_X7_finds ((-1000000005)) σ (fun r25 t25 => Q r25 t25)))) ∧ ((r1 = false) → P_X7_finds ((-1000000001)) σ (fun r10 t10 => Q r10 t10)))
def P_X7_till_l16 (l1 : Int32) (K : Int32 → St → Prop) (Q : Int32 → St → Prop) : Nat → Int32 → Int32 → St → Prop
  | 0, _, _, _ => False
  | n16 + 1, l2, l3, σ => ((60 < l3) → K (l2) σ) ∧ ((¬ 60 < l3) → P_X7_countRows  (sI σ 50 94 (l1 + l3)) (fun t33 => (((lg_cmp (gL t33 54 0) 0) ≤ 0) → P_X7_till_l16 l1 K Q n16 (l2) (l3 + 1) t33) ∧ ((¬ (lg_cmp (gL t33 54 0) 0) ≤ 0) → P_X7_till_l16 l1 K Q n16 (l1 + l3) (l3 + 1) t33)))
def P_X7_till  (σ : St) (Q : Int32 → St → Prop) : Prop := P_X7_findGoes  σ (fun t11 => ∃ m16, P_X7_till_l16 (gI σ 50 94) (fun k2 t61 => ((0 ≤ k2) → Q k2 (sI t61 50 94 (gI σ 50 94))) ∧ ((¬ 0 ≤ k2) → P_X7_finds ((-1000000004)) (sI t61 50 94 (gI σ 50 94)) (fun r76 t76 => Q r76 t76))) Q m16 ((-1)) (0) t11)
def P_X7_feed_l38 (l1 : Int32) (K : St → Prop) (Q : Int32 → St → Prop) : Nat → Int32 → St → Prop
  | 0, _, _ => False
  | n38 + 1, l3, σ => ((l3 < 0) → K  σ) ∧ ((¬ l3 < 0) → vp_in (gI σ 49 9) 120 ∧ P_X7_feed_l38 l1 K Q n38 (l3 + (-1)) (sI (sI σ 58 ((gI σ 49 9).toNatClampNeg) ((l1 >>> ((8 * l3) &&& 31)) &&& 255)) 49 9 ((gI (sI σ 58 ((gI σ 49 9).toNatClampNeg) ((l1 >>> ((8 * l3) &&& 31)) &&& 255)) 49 9) + 1)))
def P_X7_feed (p0 : Int32) (p1 : Int32) (σ : St) (Q : Int32 → St → Prop) : Prop := P_X7_in (p1) (1) (4) σ (fun r3 => ((r3 = true) → ((((gI σ 49 9) + p1) ≤ 120) → ∃ m38, P_X7_feed_l38 (p0) (fun  t77 => Q (gI t77 49 9) t77) Q m38 (p1 - 1) σ) ∧ ((¬ ((gI σ 49 9) + p1) ≤ 120) → P_X7_finds ((-1000000002)) σ (fun r30 t30 => Q r30 t30))) ∧ ((r3 = false) → P_X7_finds ((-1000000001)) σ (fun r12 t12 => Q r12 t12)))
def P_X7_wipe  (σ : St) (Q : Int32 → St → Prop) : Prop := Q (gI σ 49 9) (sI σ 49 9 0)
def P_X7_byteAt (p0 : Int32) (σ : St) (Q : Int32 → Prop) : Prop := (((gI σ 49 9) ≤ p0) → Q ((-1))) ∧ ((¬ (gI σ 49 9) ≤ p0) → vp_in p0 120 ∧ Q (gI σ 58 p0.toNatClampNeg))
def P_X7_isLetter (p0 : Int32) (σ : St) (Q : Bool → Prop) : Prop := P_X7_in (p0) (97) (122) σ (fun r5 => Q r5)
def P_X7_isDigit (p0 : Int32) (σ : St) (Q : Bool → Prop) : Prop := P_X7_in (p0) (48) (57) σ (fun r5 => Q r5)
def P_X7_advance_l8  (K : St → Prop) (Q : St → Prop) : Nat → St → Prop
  | 0, _ => False
  | n8 + 1, σ => P_X7_byteAt (gI σ 49 11) σ (fun r13 => ((¬ r13 = 32) → K  σ) ∧ ((r13 = 32) → P_X7_advance_l8 K Q n8  (sI σ 49 11 ((gI σ 49 11) + 1))))
def P_X7_advance_l126  (K : St → Prop) (Q : St → Prop) : Nat → St → Prop
  | 0, _ => False
  | n126 + 1, σ => ((¬ (gI σ 49 10) = 1) → K  σ) ∧ (((gI σ 49 10) = 1) → P_X7_byteAt (gI σ 49 12) σ (fun r139 => P_X7_isLetter (r139) σ (fun r142 => ((r142 = false) → K  σ) ∧ ((r142 = true) → ((12 ≤ ((gI σ 49 12) - (gI σ 49 11))) → P_X7_advance_l126 K Q n126  (sI (sL σ 49 13 ((-1))) 49 12 ((gI (sL σ 49 13 ((-1))) 49 12) + 1))) ∧ ((¬ 12 ≤ ((gI σ 49 12) - (gI σ 49 11))) → P_X7_byteAt (gI σ 49 12) σ (fun r176 => P_X7_advance_l126 K Q n126  (sI (sL σ 49 13 (((27 * (gL σ 49 13)) + ((r176 : Int32).toInt64)) - 96)) 49 12 ((gI (sL σ 49 13 (((27 * (gL σ 49 13)) + ((r176 : Int32).toInt64)) - 96)) 49 12) + 1))))))))
def P_X7_advance_l207  (K : St → Prop) (Q : St → Prop) : Nat → St → Prop
  | 0, _ => False
  | n207 + 1, σ => ((¬ (gI σ 49 10) = 2) → K  σ) ∧ (((gI σ 49 10) = 2) → P_X7_byteAt (gI σ 49 12) σ (fun r220 => P_X7_isDigit (r220) σ (fun r223 => ((r223 = false) → K  σ) ∧ ((r223 = true) → (((gI σ 49 14) ≤ 99) → P_X7_byteAt (gI σ 49 12) σ (fun r257 => P_X7_advance_l207 K Q n207  (sI (sI σ 49 14 (((10 * (gI σ 49 14)) + r257) - 48)) 49 12 ((gI (sI σ 49 14 (((10 * (gI σ 49 14)) + r257) - 48)) 49 12) + 1)))) ∧ ((¬ (gI σ 49 14) ≤ 99) → P_X7_advance_l207 K Q n207  (sI (sI σ 49 14 1000) 49 12 ((gI (sI σ 49 14 1000) 49 12) + 1)))))))
def P_X7_advance  (σ : St) (Q : St → Prop) : Prop := ∃ m8, P_X7_advance_l8  (fun  t34 => (∀ s39, s39 = sI t34 49 12 (gI t34 49 11) → P_X7_byteAt (gI s39 49 11) s39 (fun r47 => ((0 ≤ r47) → P_X7_isLetter (r47) s39 (fun r61 => ((r61 = false) → P_X7_isDigit (r47) s39 (fun r72 => ((r72 = false) → (∀ s88, s88 = sL (sI s39 49 10 3) 49 13 0 → ((¬ (gI s88 49 10) = 2) → (∀ s105, s105 = sI s88 49 14 r47 → ((¬ (gI s105 49 10) = 3) → ∃ m126, P_X7_advance_l126  (fun  t207 => ∃ m207, P_X7_advance_l207  (fun  t280 => Q t280) Q m207  t207) Q m126  s105) ∧ (((gI s105 49 10) = 3) → ∃ m126, P_X7_advance_l126  (fun  t207 => ∃ m207, P_X7_advance_l207  (fun  t280 => Q t280) Q m207  t207) Q m126  (sI s105 49 12 ((gI s105 49 12) + 1))))) ∧ (((gI s88 49 10) = 2) → (∀ s105, s105 = sI s88 49 14 0 → ((¬ (gI s105 49 10) = 3) → ∃ m126, P_X7_advance_l126  (fun  t207 => ∃ m207, P_X7_advance_l207  (fun  t280 => Q t280) Q m207  t207) Q m126  s105) ∧ (((gI s105 49 10) = 3) → ∃ m126, P_X7_advance_l126  (fun  t207 => ∃ m207, P_X7_advance_l207  (fun  t280 => Q t280) Q m207  t207) Q m126  (sI s105 49 12 ((gI s105 49 12) + 1))))))) ∧ ((r72 = true) → (∀ s88, s88 = sL (sI s39 49 10 2) 49 13 0 → ((¬ (gI s88 49 10) = 2) → (∀ s105, s105 = sI s88 49 14 r47 → ((¬ (gI s105 49 10) = 3) → ∃ m126, P_X7_advance_l126  (fun  t207 => ∃ m207, P_X7_advance_l207  (fun  t280 => Q t280) Q m207  t207) Q m126  s105) ∧ (((gI s105 49 10) = 3) → ∃ m126, P_X7_advance_l126  (fun  t207 => ∃ m207, P_X7_advance_l207  (fun  t280 => Q t280) Q m207  t207) Q m126  (sI s105 49 12 ((gI s105 49 12) + 1))))) ∧ (((gI s88 49 10) = 2) → (∀ s105, s105 = sI s88 49 14 0 → ((¬ (gI s105 49 10) = 3) → ∃ m126, P_X7_advance_l126  (fun  t207 => ∃ m207, P_X7_advance_l207  (fun  t280 => Q t280) Q m207  t207) Q m126  s105) ∧ (((gI s105 49 10) = 3) → ∃ m126, P_X7_advance_l126  (fun  t207 => ∃ m207, P_X7_advance_l207  (fun  t280 => Q t280) Q m207  t207) Q m126  (sI s105 49 12 ((gI s105 49 12) + 1))))))))) ∧ ((r61 = true) → (∀ s88, s88 = sL (sI s39 49 10 1) 49 13 0 → ((¬ (gI s88 49 10) = 2) → (∀ s105, s105 = sI s88 49 14 r47 → ((¬ (gI s105 49 10) = 3) → ∃ m126, P_X7_advance_l126  (fun  t207 => ∃ m207, P_X7_advance_l207  (fun  t280 => Q t280) Q m207  t207) Q m126  s105) ∧ (((gI s105 49 10) = 3) → ∃ m126, P_X7_advance_l126  (fun  t207 => ∃ m207, P_X7_advance_l207  (fun  t280 => Q t280) Q m207  t207) Q m126  (sI s105 49 12 ((gI s105 49 12) + 1))))) ∧ (((gI s88 49 10) = 2) → (∀ s105, s105 = sI s88 49 14 0 → ((¬ (gI s105 49 10) = 3) → ∃ m126, P_X7_advance_l126  (fun  t207 => ∃ m207, P_X7_advance_l207  (fun  t280 => Q t280) Q m207  t207) Q m126  s105) ∧ (((gI s105 49 10) = 3) → ∃ m126, P_X7_advance_l126  (fun  t207 => ∃ m207, P_X7_advance_l207  (fun  t280 => Q t280) Q m207  t207) Q m126  (sI s105 49 12 ((gI s105 49 12) + 1))))))))) ∧ ((¬ 0 ≤ r47) → (∀ s88, s88 = sL (sI s39 49 10 0) 49 13 0 → ((¬ (gI s88 49 10) = 2) → (∀ s105, s105 = sI s88 49 14 r47 → ((¬ (gI s105 49 10) = 3) → ∃ m126, P_X7_advance_l126  (fun  t207 => ∃ m207, P_X7_advance_l207  (fun  t280 => Q t280) Q m207  t207) Q m126  s105) ∧ (((gI s105 49 10) = 3) → ∃ m126, P_X7_advance_l126  (fun  t207 => ∃ m207, P_X7_advance_l207  (fun  t280 => Q t280) Q m207  t207) Q m126  (sI s105 49 12 ((gI s105 49 12) + 1))))) ∧ (((gI s88 49 10) = 2) → (∀ s105, s105 = sI s88 49 14 0 → ((¬ (gI s105 49 10) = 3) → ∃ m126, P_X7_advance_l126  (fun  t207 => ∃ m207, P_X7_advance_l207  (fun  t280 => Q t280) Q m207  t207) Q m126  s105) ∧ (((gI s105 49 10) = 3) → ∃ m126, P_X7_advance_l126  (fun  t207 => ∃ m207, P_X7_advance_l207  (fun  t280 => Q t280) Q m207  t207) Q m126  (sI s105 49 12 ((gI s105 49 12) + 1)))))))))) Q m8  (sI σ 49 11 (gI σ 49 12))
def P_X7_isWord (p0 : Int64) (σ : St) (Q : Bool → Prop) : Prop := ((¬ (gI σ 49 10) = 1) → Q false) ∧ (((gI σ 49 10) = 1) → ((¬ (lg_cmp (gL σ 49 13) p0) = 0) → Q false) ∧ (((lg_cmp (gL σ 49 13) p0) = 0) → Q true))
def P_X7_kindHere  (σ : St) (Q : Int32 → Prop) : Prop := P_X7_isWord (10502357) σ (fun r4 => ((r4 = false) → P_X7_isWord (8179) σ (fun r18 => ((r18 = false) → P_X7_isWord (266660330) σ (fun r32 => ((r32 = false) → P_X7_isWord (7873077725) σ (fun r46 => ((r46 = false) → P_X7_isWord (43948633) σ (fun r60 => ((r60 = false) → P_X7_isWord (3217595) σ (fun r74 => ((r74 = false) → Q ((-1))) ∧ ((r74 = true) → Q 5))) ∧ ((r60 = true) → Q 4))) ∧ ((r46 = true) → Q 3))) ∧ ((r32 = true) → Q 2))) ∧ ((r18 = true) → Q 1))) ∧ ((r4 = true) → Q 0))
def P_X7_wantNumber (p0 : Int32) (p1 : Int32) (σ : St) (Q : Int32 → St → Prop) : Prop := (((gI σ 49 15) = 0) → (∀ s35, s35 = sI σ 49 15 0 → (((gI s35 49 15) = 0) → Q (gI σ 49 14) s35) ∧ ((¬ (gI s35 49 15) = 0) → P_X7_advance  s35 (fun t46 => Q (gI σ 49 14) t46)))) ∧ ((¬ (gI σ 49 15) = 0) → ((¬ (gI σ 49 10) = 2) → (∀ s35, s35 = sI σ 49 15 0 → (((gI s35 49 15) = 0) → Q (gI σ 49 14) s35) ∧ ((¬ (gI s35 49 15) = 0) → P_X7_advance  s35 (fun t46 => Q (gI σ 49 14) t46)))) ∧ (((gI σ 49 10) = 2) → P_X7_in (gI σ 49 14) (p0) (p1) σ (fun r24 => ((r24 = false) → (∀ s35, s35 = sI σ 49 15 0 → (((gI s35 49 15) = 0) → Q (gI σ 49 14) s35) ∧ ((¬ (gI s35 49 15) = 0) → P_X7_advance  s35 (fun t46 => Q (gI σ 49 14) t46)))) ∧ ((r24 = true) → (∀ s35, s35 = sI σ 49 15 1 → (((gI s35 49 15) = 0) → Q (gI σ 49 14) s35) ∧ ((¬ (gI s35 49 15) = 0) → P_X7_advance  s35 (fun t46 => Q (gI σ 49 14) t46)))))))
def P_X7_mayWant (p0 : Int64) (p1 : Int32) (p2 : Int32) (p3 : Int32) (σ : St) (Q : Int32 → St → Prop) : Prop := (((gI σ 49 15) = 0) → Q p3 σ) ∧ ((¬ (gI σ 49 15) = 0) → P_X7_isWord (p0) σ (fun r9 => ((r9 = true) → P_X7_advance  σ (fun t19 => P_X7_wantNumber (p1) (p2) t19 (fun r26 t26 => Q r26 t26))) ∧ ((r9 = false) → Q p3 σ)))
def P_X7_wantStone (p0 : Int32) (σ : St) (Q : St → Prop) : Prop := P_X7_advance  σ (fun t1 => ((¬ (gI t1 49 10) = 2) → P_X7_wantNumber (0) (3) (sI t1 49 15 0) (fun r47 t47 => P_X7_mayWant (164222) (1) (30) (5) t47 (fun r59 t59 => P_X7_mayWant (8863997) (0) (999) (10) t59 (fun r73 t73 => (((gI t73 49 15) = 0) → Q t73) ∧ ((¬ (gI t73 49 15) = 0) → P_X7_addStone (p0) (r47) (r59) (r73) t73 (fun t91 => Q t91)))))) ∧ (((gI t1 49 10) = 2) → P_X7_isWall (gI t1 49 14) t1 (fun r17 => ((r17 = false) → P_X7_wantNumber (0) (3) (sI t1 49 15 0) (fun r47 t47 => P_X7_mayWant (164222) (1) (30) (5) t47 (fun r59 t59 => P_X7_mayWant (8863997) (0) (999) (10) t59 (fun r73 t73 => (((gI t73 49 15) = 0) → Q t73) ∧ ((¬ (gI t73 49 15) = 0) → P_X7_addStone (p0) (r47) (r59) (r73) t73 (fun t91 => Q t91)))))) ∧ ((r17 = true) → P_X7_many (gI t1 49 14) t1 (fun r28 => ((7 ≤ r28) → P_X7_wantNumber (0) (3) (sI t1 49 15 0) (fun r47 t47 => P_X7_mayWant (164222) (1) (30) (5) t47 (fun r59 t59 => P_X7_mayWant (8863997) (0) (999) (10) t59 (fun r73 t73 => (((gI t73 49 15) = 0) → Q t73) ∧ ((¬ (gI t73 49 15) = 0) → P_X7_addStone (p0) (r47) (r59) (r73) t73 (fun t91 => Q t91)))))) ∧ ((¬ 7 ≤ r28) → P_X7_wantNumber (0) (3) (sI t1 49 15 1) (fun r47 t47 => P_X7_mayWant (164222) (1) (30) (5) t47 (fun r59 t59 => P_X7_mayWant (8863997) (0) (999) (10) t59 (fun r73 t73 => (((gI t73 49 15) = 0) → Q t73) ∧ ((¬ (gI t73 49 15) = 0) → P_X7_addStone (p0) (r47) (r59) (r73) t73 (fun t91 => Q t91)))))))))))
def P_X7_wantBeam  (σ : St) (Q : St → Prop) : Prop := P_X7_advance  σ (fun t1 => P_X7_wantNumber (0) (2) t1 (fun r7 t7 => (((gI t7 49 15) = 0) → (((gI t7 49 15) = 0) → (∀ s61, s61 = sI t7 49 15 0 → (((gI s61 49 15) = 0) → Q s61) ∧ ((¬ (gI s61 49 15) = 0) → P_X7_advance  (sI s61 50 92 ((gI s61 50 92) &&& ((1 <<< (r7 &&& 31)) ^^^ ((-1))))) (fun t110 => Q t110)))) ∧ ((¬ (gI t7 49 15) = 0) → P_X7_isWord (11103) t7 (fun r50 => ((r50 = false) → (∀ s61, s61 = sI t7 49 15 0 → (((gI s61 49 15) = 0) → Q s61) ∧ ((¬ (gI s61 49 15) = 0) → P_X7_advance  (sI s61 50 92 ((gI s61 50 92) &&& ((1 <<< (r7 &&& 31)) ^^^ ((-1))))) (fun t110 => Q t110)))) ∧ ((r50 = true) → (∀ s61, s61 = sI t7 49 15 1 → (((gI s61 49 15) = 0) → Q s61) ∧ ((¬ (gI s61 49 15) = 0) → P_X7_advance  (sI s61 50 92 ((gI s61 50 92) &&& ((1 <<< (r7 &&& 31)) ^^^ ((-1))))) (fun t110 => Q t110))))))) ∧ ((¬ (gI t7 49 15) = 0) → P_X7_isWord (419) t7 (fun r22 => ((r22 = false) → (((gI t7 49 15) = 0) → (∀ s61, s61 = sI t7 49 15 0 → (((gI s61 49 15) = 0) → Q s61) ∧ ((¬ (gI s61 49 15) = 0) → P_X7_advance  (sI s61 50 92 ((gI s61 50 92) &&& ((1 <<< (r7 &&& 31)) ^^^ ((-1))))) (fun t110 => Q t110)))) ∧ ((¬ (gI t7 49 15) = 0) → P_X7_isWord (11103) t7 (fun r50 => ((r50 = false) → (∀ s61, s61 = sI t7 49 15 0 → (((gI s61 49 15) = 0) → Q s61) ∧ ((¬ (gI s61 49 15) = 0) → P_X7_advance  (sI s61 50 92 ((gI s61 50 92) &&& ((1 <<< (r7 &&& 31)) ^^^ ((-1))))) (fun t110 => Q t110)))) ∧ ((r50 = true) → (∀ s61, s61 = sI t7 49 15 1 → (((gI s61 49 15) = 0) → Q s61) ∧ ((¬ (gI s61 49 15) = 0) → P_X7_advance  (sI s61 50 92 ((gI s61 50 92) &&& ((1 <<< (r7 &&& 31)) ^^^ ((-1))))) (fun t110 => Q t110))))))) ∧ ((r22 = true) → (∀ s61, s61 = sI t7 49 15 1 → (((gI s61 49 15) = 0) → Q s61) ∧ ((¬ (gI s61 49 15) = 0) → P_X7_advance  (sI s61 50 92 ((gI s61 50 92) ||| (1 <<< (r7 &&& 31)))) (fun t110 => Q t110))))))))
def P_X7_wantWedge  (σ : St) (Q : St → Prop) : Prop := P_X7_advance  σ (fun t1 => P_X7_wantNumber (0) (3) t1 (fun r7 t7 => P_X7_wantNumber (0) (20) t7 (fun r15 t15 => (((gI t15 49 15) = 0) → Q t15) ∧ ((¬ (gI t15 49 15) = 0) → vp_in ((23 * r7) + 1) 96 ∧ Q (sI t15 50 (((23 * r7) + 1).toNatClampNeg) r15)))))
def P_X7_wantSlack  (σ : St) (Q : St → Prop) : Prop := P_X7_advance  σ (fun t1 => P_X7_wantNumber (0) (99) t1 (fun r8 t8 => (((gI t8 49 15) = 0) → Q t8) ∧ ((¬ (gI t8 49 15) = 0) → Q (sI t8 50 93 r8))))
def P_X7_wantPulls_l6  (K : St → Prop) (Q : St → Prop) : Nat → Int32 → St → Prop
  | 0, _, _ => False
  | n6 + 1, l1, σ => ((l1 = 0) → K  σ) ∧ ((¬ l1 = 0) → (((gI σ 49 15) = 0) → (∀ s52, s52 = sI σ 49 15 0 → (((gI s52 49 15) = 0) → (((gI s52 49 15) = 0) → P_X7_wantPulls_l6 K Q n6 (0) s52) ∧ ((¬ (gI s52 49 15) = 0) → ((¬ (gI s52 49 10) = 2) → P_X7_wantPulls_l6 K Q n6 (0) s52) ∧ (((gI s52 49 10) = 2) → P_X7_wantPulls_l6 K Q n6 (1) s52))) ∧ ((¬ (gI s52 49 15) = 0) → P_X7_takeOut (gI s52 49 14) s52 (fun t67 => P_X7_advance  t67 (fun t71 => (((gI t71 49 15) = 0) → P_X7_wantPulls_l6 K Q n6 (0) t71) ∧ ((¬ (gI t71 49 15) = 0) → ((¬ (gI t71 49 10) = 2) → P_X7_wantPulls_l6 K Q n6 (0) t71) ∧ (((gI t71 49 10) = 2) → P_X7_wantPulls_l6 K Q n6 (1) t71))))))) ∧ ((¬ (gI σ 49 15) = 0) → ((¬ (gI σ 49 10) = 2) → (∀ s52, s52 = sI σ 49 15 0 → (((gI s52 49 15) = 0) → (((gI s52 49 15) = 0) → P_X7_wantPulls_l6 K Q n6 (0) s52) ∧ ((¬ (gI s52 49 15) = 0) → ((¬ (gI s52 49 10) = 2) → P_X7_wantPulls_l6 K Q n6 (0) s52) ∧ (((gI s52 49 10) = 2) → P_X7_wantPulls_l6 K Q n6 (1) s52))) ∧ ((¬ (gI s52 49 15) = 0) → P_X7_takeOut (gI s52 49 14) s52 (fun t67 => P_X7_advance  t67 (fun t71 => (((gI t71 49 15) = 0) → P_X7_wantPulls_l6 K Q n6 (0) t71) ∧ ((¬ (gI t71 49 15) = 0) → ((¬ (gI t71 49 10) = 2) → P_X7_wantPulls_l6 K Q n6 (0) t71) ∧ (((gI t71 49 10) = 2) → P_X7_wantPulls_l6 K Q n6 (1) t71))))))) ∧ (((gI σ 49 10) = 2) → P_X7_isWall (gI σ 49 14) σ (fun r30 => ((r30 = false) → (∀ s52, s52 = sI σ 49 15 0 → (((gI s52 49 15) = 0) → (((gI s52 49 15) = 0) → P_X7_wantPulls_l6 K Q n6 (0) s52) ∧ ((¬ (gI s52 49 15) = 0) → ((¬ (gI s52 49 10) = 2) → P_X7_wantPulls_l6 K Q n6 (0) s52) ∧ (((gI s52 49 10) = 2) → P_X7_wantPulls_l6 K Q n6 (1) s52))) ∧ ((¬ (gI s52 49 15) = 0) → P_X7_takeOut (gI s52 49 14) s52 (fun t67 => P_X7_advance  t67 (fun t71 => (((gI t71 49 15) = 0) → P_X7_wantPulls_l6 K Q n6 (0) t71) ∧ ((¬ (gI t71 49 15) = 0) → ((¬ (gI t71 49 10) = 2) → P_X7_wantPulls_l6 K Q n6 (0) t71) ∧ (((gI t71 49 10) = 2) → P_X7_wantPulls_l6 K Q n6 (1) t71))))))) ∧ ((r30 = true) → P_X7_canPullNow (gI σ 49 14) σ (fun r41 t41 => ((r41 = false) → (∀ s52, s52 = sI t41 49 15 0 → (((gI s52 49 15) = 0) → (((gI s52 49 15) = 0) → P_X7_wantPulls_l6 K Q n6 (0) s52) ∧ ((¬ (gI s52 49 15) = 0) → ((¬ (gI s52 49 10) = 2) → P_X7_wantPulls_l6 K Q n6 (0) s52) ∧ (((gI s52 49 10) = 2) → P_X7_wantPulls_l6 K Q n6 (1) s52))) ∧ ((¬ (gI s52 49 15) = 0) → P_X7_takeOut (gI s52 49 14) s52 (fun t67 => P_X7_advance  t67 (fun t71 => (((gI t71 49 15) = 0) → P_X7_wantPulls_l6 K Q n6 (0) t71) ∧ ((¬ (gI t71 49 15) = 0) → ((¬ (gI t71 49 10) = 2) → P_X7_wantPulls_l6 K Q n6 (0) t71) ∧ (((gI t71 49 10) = 2) → P_X7_wantPulls_l6 K Q n6 (1) t71))))))) ∧ ((r41 = true) → (∀ s52, s52 = sI t41 49 15 1 → (((gI s52 49 15) = 0) → (((gI s52 49 15) = 0) → P_X7_wantPulls_l6 K Q n6 (0) s52) ∧ ((¬ (gI s52 49 15) = 0) → ((¬ (gI s52 49 10) = 2) → P_X7_wantPulls_l6 K Q n6 (0) s52) ∧ (((gI s52 49 10) = 2) → P_X7_wantPulls_l6 K Q n6 (1) s52))) ∧ ((¬ (gI s52 49 15) = 0) → P_X7_takeOut (gI s52 49 14) s52 (fun t67 => P_X7_advance  t67 (fun t71 => (((gI t71 49 15) = 0) → P_X7_wantPulls_l6 K Q n6 (0) t71) ∧ ((¬ (gI t71 49 15) = 0) → ((¬ (gI t71 49 10) = 2) → P_X7_wantPulls_l6 K Q n6 (0) t71) ∧ (((gI t71 49 10) = 2) → P_X7_wantPulls_l6 K Q n6 (1) t71)))))))))))))
def P_X7_wantPulls  (σ : St) (Q : St → Prop) : Prop := P_X7_advance  σ (fun t1 => ∃ m6, P_X7_wantPulls_l6  (fun  t98 => Q t98) Q m6 (1) t1)
def P_X7_wantItem  (σ : St) (Q : St → Prop) : Prop := P_X7_kindHere  σ (fun r1 => ((r1 < 0) → P_X7_isWord (43051) σ (fun r22 => ((r22 = false) → P_X7_isWord (12324668) σ (fun r39 => ((r39 = false) → P_X7_isWord (10334396) σ (fun r56 => ((r56 = false) → P_X7_isWord (330573) σ (fun r73 => ((r73 = false) → Q (sI σ 49 15 0)) ∧ ((r73 = true) → P_X7_wantPulls  σ (fun t80 => Q t80)))) ∧ ((r56 = true) → P_X7_wantSlack  σ (fun t63 => Q t63)))) ∧ ((r39 = true) → P_X7_wantWedge  σ (fun t46 => Q t46)))) ∧ ((r22 = true) → P_X7_wantBeam  σ (fun t29 => Q t29)))) ∧ ((¬ r1 < 0) → P_X7_kindHere  σ (fun r9 => P_X7_wantStone (r9) σ (fun t12 => Q t12))))
def P_X7_moveAll_l2 (l1 : Bool) (l2 : Nat) (K : St → Prop) (Q : St → Prop) : Nat → Int32 → St → Prop
  | 0, _, _ => False
  | n2 + 1, l3, σ => ((96 ≤ l3) → K  σ) ∧ ((¬ 96 ≤ l3) → ((l1 = false) → vp_in l3 (ln l2) ∧ vp_in l3 96 ∧ P_X7_moveAll_l2 l1 l2 K Q n2 (l3 + 1) (sI σ 50 (l3.toNatClampNeg) (gI σ l2 l3.toNatClampNeg))) ∧ ((l1 = true) → vp_in l3 96 ∧ vp_in l3 (ln l2) ∧ P_X7_moveAll_l2 l1 l2 K Q n2 (l3 + 1) (sI σ l2 (l3.toNatClampNeg) (gI σ 50 l3.toNatClampNeg))))
def P_X7_moveAll (p0 : Bool) (p1 : Nat) (σ : St) (Q : St → Prop) : Prop := ∃ m2, P_X7_moveAll_l2 (p0) (p1) (fun  t39 => Q t39) Q m2 (0) σ
def P_X7_house_l23  (K : Int32 → St → Prop) (Q : Int32 → St → Prop) : Nat → Int32 → Int32 → St → Prop
  | 0, _, _, _ => False
  | n23 + 1, l1, l2, σ => ((l2 = 0) → K (l1) σ) ∧ ((¬ l2 = 0) → P_X7_advance  σ (fun t28 => P_X7_wantItem  t28 (fun t32 => (((gI t32 49 15) = 0) → P_X7_house_l23 K Q n23 (l1 + 1) (0) t32) ∧ ((¬ (gI t32 49 15) = 0) → ((¬ (gI t32 49 10) = 3) → P_X7_house_l23 K Q n23 (l1 + 1) (0) t32) ∧ (((gI t32 49 10) = 3) → ((¬ (gI t32 49 14) = 59) → P_X7_house_l23 K Q n23 (l1 + 1) (0) t32) ∧ (((gI t32 49 14) = 59) → P_X7_house_l23 K Q n23 (l1 + 1) (1) t32))))))
def P_X7_house  (σ : St) (Q : Int32 → St → Prop) : Prop := P_X7_moveAll true 64 σ (fun t6 => ∃ m23, P_X7_house_l23  (fun k1 t71 => (((gI t71 49 15) = 0) → (∀ s96, s96 = sI (sI t71 49 15 0) 49 9 0 → ((¬ (gI s96 49 15) = 0) → Q k1 s96) ∧ (((gI s96 49 15) = 0) → P_X7_moveAll false 64 s96 (fun t112 => Q (((-1)) - (gI t112 49 11)) t112)))) ∧ ((¬ (gI t71 49 15) = 0) → ((¬ (gI t71 49 10) = 0) → (∀ s96, s96 = sI (sI t71 49 15 0) 49 9 0 → ((¬ (gI s96 49 15) = 0) → Q k1 s96) ∧ (((gI s96 49 15) = 0) → P_X7_moveAll false 64 s96 (fun t112 => Q (((-1)) - (gI t112 49 11)) t112)))) ∧ (((gI t71 49 10) = 0) → (∀ s96, s96 = sI (sI t71 49 15 1) 49 9 0 → ((¬ (gI s96 49 15) = 0) → Q k1 s96) ∧ (((gI s96 49 15) = 0) → P_X7_moveAll false 64 s96 (fun t112 => Q (((-1)) - (gI t112 49 11)) t112)))))) Q m23 (0) (1) (sI (sI t6 49 12 0) 49 15 1))
def P_X7_isSheet (p0 : Int32) (σ : St) (Q : Bool → Prop) : Prop := P_X7_in (p0) (0) (3) σ (fun r3 => Q r3)
def P_X7_narrow (p0 : Int32) (p1 : Int64) (σ : St) (Q : Int64 → Prop) : Prop := ((¬ p0 = 8) → ((¬ p0 = 16) → Q p1) ∧ ((p0 = 16) → Q ((p1 <<< ((48 : Int32).toInt64 &&& 63)) >>> ((48 : Int32).toInt64 &&& 63)))) ∧ ((p0 = 8) → Q ((p1 <<< ((56 : Int32).toInt64 &&& 63)) >>> ((56 : Int32).toInt64 &&& 63)))
def P_X7_sheet_l86 (l1 : Int32) (K : St → Prop) (Q : Int32 → St → Prop) : Nat → Int32 → St → Prop
  | 0, _, _ => False
  | n86 + 1, l4, σ => ((40 ≤ l4) → K  σ) ∧ ((¬ 40 ≤ l4) → vp_in ((40 * l1) + l4) 160 ∧ P_X7_sheet_l86 l1 K Q n86 (l4 + 1) (sL σ 61 (((40 * l1) + l4).toNatClampNeg) 0))
def P_X7_sheet (p0 : Int32) (p1 : Int32) (p2 : Int32) (σ : St) (Q : Int32 → St → Prop) : Prop := P_X7_isSheet (p0) σ (fun r1 => ((r1 = false) → P_X7_finds ((-1000000001)) σ (fun r32 t32 => Q r32 t32)) ∧ ((r1 = true) → ((p1 = 0) → ((0 ≤ p2) → ((p2 ≤ 40) → vp_in p0 4 ∧ ((¬ p1 = 0) → vp_in p0 4 ∧ ∃ m86, P_X7_sheet_l86 (p0) (fun  t112 => vp_in p0 4 ∧ Q (gI t112 60 p0.toNatClampNeg) t112) Q m86 (0) (sI (sI σ 59 (p0.toNatClampNeg) p1) 60 (p0.toNatClampNeg) p2)) ∧ ((p1 = 0) → vp_in p0 4 ∧ ∃ m86, P_X7_sheet_l86 (p0) (fun  t112 => vp_in p0 4 ∧ Q (gI t112 60 p0.toNatClampNeg) t112) Q m86 (0) (sI (sI σ 59 (p0.toNatClampNeg) p1) 60 (p0.toNatClampNeg) 0))) ∧ ((¬ p2 ≤ 40) → P_X7_finds ((-1000000001)) σ (fun r57 t57 => Q r57 t57))) ∧ ((¬ 0 ≤ p2) → P_X7_finds ((-1000000007)) σ (fun r44 t44 => Q r44 t44))) ∧ ((¬ p1 = 0) → ((p1 = 8) → ((0 ≤ p2) → ((p2 ≤ 40) → vp_in p0 4 ∧ ((¬ p1 = 0) → vp_in p0 4 ∧ ∃ m86, P_X7_sheet_l86 (p0) (fun  t112 => vp_in p0 4 ∧ Q (gI t112 60 p0.toNatClampNeg) t112) Q m86 (0) (sI (sI σ 59 (p0.toNatClampNeg) p1) 60 (p0.toNatClampNeg) p2)) ∧ ((p1 = 0) → vp_in p0 4 ∧ ∃ m86, P_X7_sheet_l86 (p0) (fun  t112 => vp_in p0 4 ∧ Q (gI t112 60 p0.toNatClampNeg) t112) Q m86 (0) (sI (sI σ 59 (p0.toNatClampNeg) p1) 60 (p0.toNatClampNeg) 0))) ∧ ((¬ p2 ≤ 40) → P_X7_finds ((-1000000001)) σ (fun r57 t57 => Q r57 t57))) ∧ ((¬ 0 ≤ p2) → P_X7_finds ((-1000000007)) σ (fun r44 t44 => Q r44 t44))) ∧ ((¬ p1 = 8) → ((p1 = 16) → ((0 ≤ p2) → ((p2 ≤ 40) → vp_in p0 4 ∧ ((¬ p1 = 0) → vp_in p0 4 ∧ ∃ m86, P_X7_sheet_l86 (p0) (fun  t112 => vp_in p0 4 ∧ Q (gI t112 60 p0.toNatClampNeg) t112) Q m86 (0) (sI (sI σ 59 (p0.toNatClampNeg) p1) 60 (p0.toNatClampNeg) p2)) ∧ ((p1 = 0) → vp_in p0 4 ∧ ∃ m86, P_X7_sheet_l86 (p0) (fun  t112 => vp_in p0 4 ∧ Q (gI t112 60 p0.toNatClampNeg) t112) Q m86 (0) (sI (sI σ 59 (p0.toNatClampNeg) p1) 60 (p0.toNatClampNeg) 0))) ∧ ((¬ p2 ≤ 40) → P_X7_finds ((-1000000001)) σ (fun r57 t57 => Q r57 t57))) ∧ ((¬ 0 ≤ p2) → P_X7_finds ((-1000000007)) σ (fun r44 t44 => Q r44 t44))) ∧ ((¬ p1 = 16) → ((p1 = 64) → ((0 ≤ p2) → ((p2 ≤ 40) → vp_in p0 4 ∧ ((¬ p1 = 0) → vp_in p0 4 ∧ ∃ m86, P_X7_sheet_l86 (p0) (fun  t112 => vp_in p0 4 ∧ Q (gI t112 60 p0.toNatClampNeg) t112) Q m86 (0) (sI (sI σ 59 (p0.toNatClampNeg) p1) 60 (p0.toNatClampNeg) p2)) ∧ ((p1 = 0) → vp_in p0 4 ∧ ∃ m86, P_X7_sheet_l86 (p0) (fun  t112 => vp_in p0 4 ∧ Q (gI t112 60 p0.toNatClampNeg) t112) Q m86 (0) (sI (sI σ 59 (p0.toNatClampNeg) p1) 60 (p0.toNatClampNeg) 0))) ∧ ((¬ p2 ≤ 40) → P_X7_finds ((-1000000001)) σ (fun r57 t57 => Q r57 t57))) ∧ ((¬ 0 ≤ p2) → P_X7_finds ((-1000000007)) σ (fun r44 t44 => Q r44 t44))) ∧ ((¬ p1 = 64) → P_X7_finds ((-1000000001)) σ (fun r32 t32 => Q r32 t32)))))))
def P_X7_write (p0 : Int32) (p1 : Int32) (p2 : Int64) (σ : St) (Q : Int64 → St → Prop) : Prop := P_X7_isSheet (p0) σ (fun r1 => ((r1 = true) → vp_in p0 4 ∧ ((¬ (gI σ 59 p0.toNatClampNeg) = 0) → vp_in p0 4 ∧ P_X7_in (p1) (0) ((gI σ 60 p0.toNatClampNeg) - 1) σ (fun r43 => ((r43 = true) → vp_in ((40 * p0) + p1) 160 ∧ vp_in p0 4 ∧ P_X7_narrow (gI σ 59 p0.toNatClampNeg) (p2) σ (fun r87 => vp_in ((40 * p0) + p1) 160 ∧ Q (gL σ 61 ((40 * p0) + p1).toNatClampNeg) (sL σ 61 (((40 * p0) + p1).toNatClampNeg) r87))) ∧ ((r43 = false) → P_X7_finds ((-1000000001)) σ (fun r52 t52 => Q ((r52 : Int32).toInt64) t52)))) ∧ (((gI σ 59 p0.toNatClampNeg) = 0) → P_X7_finds ((-1000000006)) σ (fun r28 t28 => Q ((r28 : Int32).toInt64) t28))) ∧ ((r1 = false) → P_X7_finds ((-1000000001)) σ (fun r10 t10 => Q ((r10 : Int32).toInt64) t10)))
def P_X7_isPart (p0 : Int32) (p1 : Int32) (p2 : Int32) (σ : St) (Q : Bool → Prop) : Prop := ((p1 < 0) → Q false) ∧ ((¬ p1 < 0) → ((p2 < 0) → Q false) ∧ ((¬ p2 < 0) → vp_in p0 4 ∧ (((gI σ 60 p0.toNatClampNeg) < p2) → Q false) ∧ ((¬ (gI σ 60 p0.toNatClampNeg) < p2) → vp_in p0 4 ∧ ((((gI σ 60 p0.toNatClampNeg) - p2) < p1) → Q false) ∧ ((¬ ((gI σ 60 p0.toNatClampNeg) - p2) < p1) → Q true))))
def P_X7_copy_l102 (l1 : Int32) (l2 : Int32) (l3 : Int32) (l4 : Int32) (l5 : Int32) (K : St → Prop) (Q : Int32 → St → Prop) : Nat → Int32 → St → Prop
  | 0, _, _ => False
  | n102 + 1, l6, σ => ((l5 ≤ l6) → K  σ) ∧ ((¬ l5 ≤ l6) → vp_in (((40 * l1) + l2) + l6) 160 ∧ vp_in l6 40 ∧ P_X7_copy_l102 l1 l2 l3 l4 l5 K Q n102 (l6 + 1) (sL σ 62 (l6.toNatClampNeg) (gL σ 61 (((40 * l1) + l2) + l6).toNatClampNeg)))
def P_X7_copy_l139 (l3 : Int32) (l4 : Int32) (l5 : Int32) (K : St → Prop) (Q : Int32 → St → Prop) : Nat → Int32 → St → Prop
  | 0, _, _ => False
  | n139 + 1, l6, σ => ((l5 ≤ l6) → K  σ) ∧ ((¬ l5 ≤ l6) → vp_in l6 40 ∧ vp_in (((40 * l3) + l4) + l6) 160 ∧ P_X7_copy_l139 l3 l4 l5 K Q n139 (l6 + 1) (sL σ 61 ((((40 * l3) + l4) + l6).toNatClampNeg) (gL σ 62 l6.toNatClampNeg)))
def P_X7_copy (p0 : Int32) (p1 : Int32) (p2 : Int32) (p3 : Int32) (p4 : Int32) (σ : St) (Q : Int32 → St → Prop) : Prop := P_X7_isSheet (p0) σ (fun r1 => ((r1 = false) → P_X7_finds ((-1000000001)) σ (fun r17 t17 => Q r17 t17)) ∧ ((r1 = true) → P_X7_isSheet (p2) σ (fun r8 => ((r8 = true) → vp_in p0 4 ∧ (((gI σ 59 p0.toNatClampNeg) = 0) → P_X7_finds ((-1000000006)) σ (fun r43 t43 => Q r43 t43)) ∧ ((¬ (gI σ 59 p0.toNatClampNeg) = 0) → vp_in p2 4 ∧ ((¬ (gI σ 59 p2.toNatClampNeg) = 0) → vp_in p0 4 ∧ vp_in p2 4 ∧ (((gI σ 59 p0.toNatClampNeg) = (gI σ 59 p2.toNatClampNeg)) → P_X7_isPart (p0) (p1) (p4) σ (fun r74 => ((r74 = false) → P_X7_finds ((-1000000001)) σ (fun r95 t95 => Q r95 t95)) ∧ ((r74 = true) → P_X7_isPart (p2) (p3) (p4) σ (fun r86 => ((r86 = true) → ∃ m102, P_X7_copy_l102 (p0) (p1) (p2) (p3) (p4) (fun  t136 => ∃ m139, P_X7_copy_l139 (p2) (p3) (p4) (fun  t174 => Q p4 t174) Q m139 (0) t136) Q m102 (0) σ) ∧ ((r86 = false) → P_X7_finds ((-1000000001)) σ (fun r95 t95 => Q r95 t95)))))) ∧ ((¬ (gI σ 59 p0.toNatClampNeg) = (gI σ 59 p2.toNatClampNeg)) → P_X7_finds ((-1000000003)) σ (fun r65 t65 => Q r65 t65))) ∧ (((gI σ 59 p2.toNatClampNeg) = 0) → P_X7_finds ((-1000000006)) σ (fun r43 t43 => Q r43 t43)))) ∧ ((r8 = false) → P_X7_finds ((-1000000001)) σ (fun r17 t17 => Q r17 t17)))))
def P_X7_lays_l35 (l1 : Int32) (K : Int32 → St → Prop) (Q : Int32 → St → Prop) : Nat → Int32 → Int32 → St → Prop
  | 0, _, _, _ => False
  | n35 + 1, l2, l3, σ => ((l3 = 0) → K (l2) σ) ∧ ((¬ l3 = 0) → vp_in l1 4 ∧ (((gI σ 60 l1.toNatClampNeg) ≤ l2) → K (l2) σ) ∧ ((¬ (gI σ 60 l1.toNatClampNeg) ≤ l2) → vp_in ((40 * l1) + l2) 160 ∧ (((lg_cmp (gL σ 61 ((40 * l1) + l2).toNatClampNeg) 0) < 0) → P_X7_lays_l35 l1 K Q n35 (l2) (0) σ) ∧ ((¬ (lg_cmp (gL σ 61 ((40 * l1) + l2).toNatClampNeg) 0) < 0) → ((0 ≤ (lg_cmp (gL σ 61 ((40 * l1) + l2).toNatClampNeg) 4)) → P_X7_lays_l35 l1 K Q n35 (l2) (0) σ) ∧ ((¬ 0 ≤ (lg_cmp (gL σ 61 ((40 * l1) + l2).toNatClampNeg) 4)) → P_X7_canPullNow ((gL σ 61 ((40 * l1) + l2).toNatClampNeg : Int64).toInt32) σ (fun r82 t82 => ((r82 = false) → P_X7_lays_l35 l1 K Q n35 (l2) (0) t82) ∧ ((r82 = true) → P_X7_takeOut ((gL σ 61 ((40 * l1) + l2).toNatClampNeg : Int64).toInt32) t82 (fun t102 => P_X7_lays_l35 l1 K Q n35 (l2 + 1) (1) t102)))))))
def P_X7_lays (p0 : Int32) (σ : St) (Q : Int32 → St → Prop) : Prop := P_X7_isSheet (p0) σ (fun r1 => ((r1 = true) → vp_in p0 4 ∧ ((¬ (gI σ 59 p0.toNatClampNeg) = 0) → ∃ m35, P_X7_lays_l35 (p0) (fun k2 t111 => Q k2 t111) Q m35 (0) (1) σ) ∧ (((gI σ 59 p0.toNatClampNeg) = 0) → P_X7_finds ((-1000000006)) σ (fun r27 t27 => Q r27 t27))) ∧ ((r1 = false) → P_X7_finds ((-1000000001)) σ (fun r10 t10 => Q r10 t10)))
def P_X7_book_l37 (l1 : Int32) (K : Int32 → St → Prop) (Q : Int32 → St → Prop) : Nat → Int32 → St → Prop
  | 0, _, _ => False
  | n37 + 1, l2, σ => ((28 < l2) → K (l2) σ) ∧ ((¬ 28 < l2) → vp_in l1 4 ∧ (((gI σ 60 l1.toNatClampNeg) ≤ l2) → K (l2) σ) ∧ ((¬ (gI σ 60 l1.toNatClampNeg) ≤ l2) → vp_in l1 4 ∧ P_X7_richestNow (l2) σ (fun r72 => P_X7_paidIn (r72) σ (fun r75 => P_X7_narrow (gI σ 59 l1.toNatClampNeg) ((r75 : Int32).toInt64) σ (fun r79 => vp_in ((40 * l1) + l2) 160 ∧ P_X7_book_l37 l1 K Q n37 (l2 + 1) (sL σ 61 (((40 * l1) + l2).toNatClampNeg) r79))))))
def P_X7_book (p0 : Int32) (σ : St) (Q : Int32 → St → Prop) : Prop := P_X7_isSheet (p0) σ (fun r1 => ((r1 = true) → vp_in p0 4 ∧ ((¬ (gI σ 59 p0.toNatClampNeg) = 0) → P_X7_findRows  σ (fun t34 => ∃ m37, P_X7_book_l37 (p0) (fun k2 t89 => Q k2 t89) Q m37 (0) t34)) ∧ (((gI σ 59 p0.toNatClampNeg) = 0) → P_X7_finds ((-1000000006)) σ (fun r27 t27 => Q r27 t27))) ∧ ((r1 = false) → P_X7_finds ((-1000000001)) σ (fun r10 t10 => Q r10 t10)))
def P_X7_read_l67 (l1 : Int32) (l2 : Int32) (l3 : Int32) (K : St → Prop) (Q : Int64 → St → Prop) : Nat → Int32 → St → Prop
  | 0, _, _ => False
  | n67 + 1, l4, σ => ((l3 < l4) → K  σ) ∧ ((¬ l3 < l4) → vp_in l4 4096 ∧ P_X7_read_l67 l1 l2 l3 K Q n67 (l4 + 1) (sL σ 54 (l4.toNatClampNeg) 0))
def P_X7_read_l142 (l1 : Int32) (l2 : Int32) (l3 : Int32) (l4 : Int64) (l6 : Int32) (l7 : Int32) (K : St → Prop) (Q : Int64 → St → Prop) : Nat → Int32 → St → Prop
  | 0, _, _ => False
  | n142 + 1, l8, σ => ((4 ≤ l8) → K  σ) ∧ ((¬ 4 ≤ l8) → ((l2 ≤ l7) → K  σ) ∧ ((¬ l2 ≤ l7) → vp_in l6 4096 ∧ (((lg_cmp (gL σ 54 l6.toNatClampNeg) 0) ≤ 0) → K  σ) ∧ ((¬ (lg_cmp (gL σ 54 l6.toNatClampNeg) 0) ≤ 0) → P_X7_canPull (l6) (l8) σ (fun r171 => ((r171 = false) → P_X7_read_l142 l1 l2 l3 l4 l6 l7 K Q n142 (l8 + 1) σ) ∧ ((r171 = true) → P_X7_many (l8) σ (fun r183 => P_X7_left (l6) (l8) σ (fun r190 => P_X7_coin (l8) (r183 - r190) σ (fun r194 => vp_in ((40 * l1) + l7) 160 ∧ ((¬ (lg_cmp ((r194 : Int32).toInt64) (gL σ 61 ((40 * l1) + l7).toNatClampNeg)) = 0) → P_X7_read_l142 l1 l2 l3 l4 l6 l7 K Q n142 (l8 + 1) σ) ∧ (((lg_cmp ((r194 : Int32).toInt64) (gL σ 61 ((40 * l1) + l7).toNatClampNeg)) = 0) → vp_in (l6 - (1 <<< ((3 * l8) &&& 31))) 4096 ∧ vp_in l6 4096 ∧ vp_in (l6 - (1 <<< ((3 * l8) &&& 31))) 4096 ∧ P_X7_read_l142 l1 l2 l3 l4 l6 l7 K Q n142 (l8 + 1) (sL σ 54 ((l6 - (1 <<< ((3 * l8) &&& 31))).toNatClampNeg) ((gL σ 54 (l6 - (1 <<< ((3 * l8) &&& 31))).toNatClampNeg) + (gL σ 54 l6.toNatClampNeg))))))))))))
def P_X7_read_l100 (l1 : Int32) (l2 : Int32) (l3 : Int32) (K : Int64 → St → Prop) (Q : Int64 → St → Prop) : Nat → Int64 → Int32 → St → Prop
  | 0, _, _, _ => False
  | n100 + 1, l4, l6, σ => ((l6 < 0) → K (l4) σ) ∧ ((¬ l6 < 0) → P_X7_stones (l3) σ (fun r106 => P_X7_stones (l6) σ (fun r111 => ((¬ (r106 - r111) = l2) → ∃ m142, P_X7_read_l142 (l1) (l2) (l3) (l4 + 0) (l6) (r106 - r111) (fun  t244 => P_X7_read_l100 l1 l2 l3 K Q n100 (l4 + 0) (l6 + (-1)) t244) Q m142 (0) σ) ∧ (((r106 - r111) = l2) → vp_in l6 4096 ∧ ∃ m142, P_X7_read_l142 (l1) (l2) (l3) (l4 + (gL σ 54 l6.toNatClampNeg)) (l6) (r106 - r111) (fun  t244 => P_X7_read_l100 l1 l2 l3 K Q n100 (l4 + (gL σ 54 l6.toNatClampNeg)) (l6 + (-1)) t244) Q m142 (0) σ))))
def P_X7_read (p0 : Int32) (σ : St) (Q : Int64 → St → Prop) : Prop := P_X7_isSheet (p0) σ (fun r1 => ((r1 = true) → vp_in p0 4 ∧ ((¬ (gI σ 59 p0.toNatClampNeg) = 0) → vp_in p0 4 ∧ (((gI σ 60 p0.toNatClampNeg) ≤ 28) → P_X7_findTops  σ (fun t56 => P_X7_standNow  t56 (fun r60 => ∃ m67, P_X7_read_l67 (p0) (gI σ 60 p0.toNatClampNeg) (r60) (fun  t87 => vp_in r60 4096 ∧ ∃ m100, P_X7_read_l100 (p0) (gI σ 60 p0.toNatClampNeg) (r60) (fun k4 t250 => Q k4 t250) Q m100 (0) (r60) (sL t87 54 (r60.toNatClampNeg) 1)) Q m67 (0) t56))) ∧ ((¬ (gI σ 60 p0.toNatClampNeg) ≤ 28) → P_X7_finds ((-1000000007)) σ (fun r50 t50 => Q ((r50 : Int32).toInt64) t50))) ∧ (((gI σ 59 p0.toNatClampNeg) = 0) → P_X7_finds ((-1000000006)) σ (fun r28 t28 => Q ((r28 : Int32).toInt64) t28))) ∧ ((r1 = false) → P_X7_finds ((-1000000001)) σ (fun r10 t10 => Q ((r10 : Int32).toInt64) t10)))
def P_X7_image  (σ : St) (Q : Int32 → St → Prop) : Prop := P_X7_moveAll true 63 σ (fun t6 => Q 1 (sI t6 49 22 1))
def P_X7_undo  (σ : St) (Q : Int32 → St → Prop) : Prop := ((¬ (gI σ 49 22) = 0) → P_X7_moveAll false 63 σ (fun t20 => P_X7_standNow  t20 (fun r24 => P_X7_stones (r24) t20 (fun r27 => Q r27 t20)))) ∧ (((gI σ 49 22) = 0) → P_X7_finds ((-1000000004)) σ (fun r10 t10 => Q r10 t10))
def P_X7_tear  (σ : St) (Q : Int32 → St → Prop) : Prop := (((gI σ 49 22) = 0) → Q 0 (sI σ 49 22 0)) ∧ ((¬ (gI σ 49 22) = 0) → Q 1 (sI σ 49 22 0))
def P_X7_count (p0 : Int32) (σ : St) (Q : Int32 → St → Prop) : Prop := (p0 = 0 → P_X7_standNow  σ (fun r33 => P_X7_stones (r33) σ (fun r36 => Q r36 σ))) ∧ (p0 = 1 → Q (gI σ 49 9) σ) ∧ (p0 = 2 → P_X7_allTops  σ (fun r46 t46 => Q r46 t46)) ∧ (p0 = 3 → P_X7_findTops  σ (fun t51 => P_X7_paidIn (0) t51 (fun r56 => Q r56 t51))) ∧ ((¬ p0 = 0 ∧ ¬ p0 = 1 ∧ ¬ p0 = 2 ∧ ¬ p0 = 3) → P_X7_finds ((-1000000001)) σ (fun r63 t63 => Q r63 t63))
def P_X7_status_l21 (l1 : Int32) (K : Int32 → St → Prop) (Q : Int32 → St → Prop) : Nat → Int32 → Int32 → St → Prop
  | 0, _, _, _ => False
  | n21 + 1, l2, l3, σ => ((7 ≤ l3) → K (l2) σ) ∧ ((¬ 7 ≤ l3) → vp_in l3 7 ∧ P_X7_status_l21 l1 K Q n21 (l2 + (gI σ 51 l3.toNatClampNeg)) (l3 + 1) σ)
def P_X7_status (p0 : Int32) (σ : St) (Q : Int32 → St → Prop) : Prop := P_X7_in (p0) ((-1)) (6) σ (fun r4 => ((r4 = true) → ∃ m21, P_X7_status_l21 (p0) (fun k2 t42 => ((0 ≤ p0) → ((0 ≤ p0) → vp_in p0 7 ∧ Q (gI t42 51 p0.toNatClampNeg) t42) ∧ ((¬ 0 ≤ p0) → Q (gI t42 51 0) t42)) ∧ ((¬ 0 ≤ p0) → Q k2 t42)) Q m21 (0) (0) σ) ∧ ((r4 = false) → P_X7_finds ((-1000000001)) σ (fun r13 t13 => Q r13 t13)))
end
section
theorem dX0_place_0 : decode cX0_place 0 = .ok (.iload_n 0, 1) := by decide +kernel
theorem dX0_place_1 : decode cX0_place 1 = .ok (.bipush 7, 2) := by decide +kernel
theorem dX0_place_3 : decode cX0_place 3 = .ok (.imul, 1) := by decide +kernel
theorem dX0_place_4 : decode cX0_place 4 = .ok (.iload_n 1, 1) := by decide +kernel
theorem dX0_place_5 : decode cX0_place 5 = .ok (.iadd, 1) := by decide +kernel
theorem dX0_place_6 : decode cX0_place 6 = .ok (.ireturn, 1) := by decide +kernel
def rmX0_place : Room := { frames := 0, cells := 0, slots := 0, locals := 0 }
abbrev eX0_place := Ev cX0_place 2 (some .int) RX0 rmX0_place
set_option maxRecDepth 20000 in
theorem mt_X0_place (p0 : Int32) (p1 : Int32) (σ : St) (Q : Int32 → Prop)  (hP : P_X0_place p0 p1 σ Q) : Mt yX0_place cX0_place 2 (some .int) rmX0_place [.int (p0), .int (p1)] σ (qI fun x s => s = σ ∧ Q x) := by
  refine Mt.of (k := 0) (ls := [.int (p0), .int (p1)]) (by decide +kernel) rfl (Nat.le_of_ble_eq_true rfl) ?_
  show eX0_place 0 [.int (p0), .int (p1)] [] σ _
  unfold P_X0_place at hP
  refine E_iload_n dX0_place_0 rfl ?_
  refine E_bipush (v := 7) dX0_place_1 (by decide) ?_
  refine E_imul dX0_place_3 ?_
  refine E_iload_n dX0_place_4 rfl ?_
  refine E_iadd dX0_place_5 ?_
  exact E_iret dX0_place_6 rfl ⟨_, rfl, rfl, hP⟩
theorem dX0_becomeLike_0 : decode cX0_becomeLike 0 = .ok (.aload_n 1, 1) := by decide +kernel
theorem dX0_becomeLike_1 : decode cX0_becomeLike 1 = .ok (.getfield 9, 3) := by decide +kernel
theorem dX0_becomeLike_4 : decode cX0_becomeLike 4 = .ok (.iconst 0, 1) := by decide +kernel
theorem dX0_becomeLike_5 : decode cX0_becomeLike 5 = .ok (.aload_n 0, 1) := by decide +kernel
theorem dX0_becomeLike_6 : decode cX0_becomeLike 6 = .ok (.getfield 9, 3) := by decide +kernel
theorem dX0_becomeLike_9 : decode cX0_becomeLike 9 = .ok (.iconst 0, 1) := by decide +kernel
theorem dX0_becomeLike_10 : decode cX0_becomeLike 10 = .ok (.bipush 28, 2) := by decide +kernel
theorem dX0_becomeLike_12 : decode cX0_becomeLike 12 = .ok (.invokestatic 34, 3) := by decide +kernel
theorem dX0_becomeLike_15 : decode cX0_becomeLike 15 = .ok (.aload_n 1, 1) := by decide +kernel
theorem dX0_becomeLike_16 : decode cX0_becomeLike 16 = .ok (.getfield 15, 3) := by decide +kernel
theorem dX0_becomeLike_19 : decode cX0_becomeLike 19 = .ok (.iconst 0, 1) := by decide +kernel
theorem dX0_becomeLike_20 : decode cX0_becomeLike 20 = .ok (.aload_n 0, 1) := by decide +kernel
theorem dX0_becomeLike_21 : decode cX0_becomeLike 21 = .ok (.getfield 15, 3) := by decide +kernel
theorem dX0_becomeLike_24 : decode cX0_becomeLike 24 = .ok (.iconst 0, 1) := by decide +kernel
theorem dX0_becomeLike_25 : decode cX0_becomeLike 25 = .ok (.bipush 28, 2) := by decide +kernel
theorem dX0_becomeLike_27 : decode cX0_becomeLike 27 = .ok (.invokestatic 34, 3) := by decide +kernel
theorem dX0_becomeLike_30 : decode cX0_becomeLike 30 = .ok (.aload_n 1, 1) := by decide +kernel
theorem dX0_becomeLike_31 : decode cX0_becomeLike 31 = .ok (.getfield 18, 3) := by decide +kernel
theorem dX0_becomeLike_34 : decode cX0_becomeLike 34 = .ok (.iconst 0, 1) := by decide +kernel
theorem dX0_becomeLike_35 : decode cX0_becomeLike 35 = .ok (.aload_n 0, 1) := by decide +kernel
theorem dX0_becomeLike_36 : decode cX0_becomeLike 36 = .ok (.getfield 18, 3) := by decide +kernel
theorem dX0_becomeLike_39 : decode cX0_becomeLike 39 = .ok (.iconst 0, 1) := by decide +kernel
theorem dX0_becomeLike_40 : decode cX0_becomeLike 40 = .ok (.bipush 28, 2) := by decide +kernel
theorem dX0_becomeLike_42 : decode cX0_becomeLike 42 = .ok (.invokestatic 34, 3) := by decide +kernel
theorem dX0_becomeLike_45 : decode cX0_becomeLike 45 = .ok (.aload_n 1, 1) := by decide +kernel
theorem dX0_becomeLike_46 : decode cX0_becomeLike 46 = .ok (.getfield 21, 3) := by decide +kernel
theorem dX0_becomeLike_49 : decode cX0_becomeLike 49 = .ok (.iconst 0, 1) := by decide +kernel
theorem dX0_becomeLike_50 : decode cX0_becomeLike 50 = .ok (.aload_n 0, 1) := by decide +kernel
theorem dX0_becomeLike_51 : decode cX0_becomeLike 51 = .ok (.getfield 21, 3) := by decide +kernel
theorem dX0_becomeLike_54 : decode cX0_becomeLike 54 = .ok (.iconst 0, 1) := by decide +kernel
theorem dX0_becomeLike_55 : decode cX0_becomeLike 55 = .ok (.iconst 4, 1) := by decide +kernel
theorem dX0_becomeLike_56 : decode cX0_becomeLike 56 = .ok (.invokestatic 34, 3) := by decide +kernel
theorem dX0_becomeLike_59 : decode cX0_becomeLike 59 = .ok (.aload_n 1, 1) := by decide +kernel
theorem dX0_becomeLike_60 : decode cX0_becomeLike 60 = .ok (.getfield 24, 3) := by decide +kernel
theorem dX0_becomeLike_63 : decode cX0_becomeLike 63 = .ok (.iconst 0, 1) := by decide +kernel
theorem dX0_becomeLike_64 : decode cX0_becomeLike 64 = .ok (.aload_n 0, 1) := by decide +kernel
theorem dX0_becomeLike_65 : decode cX0_becomeLike 65 = .ok (.getfield 24, 3) := by decide +kernel
theorem dX0_becomeLike_68 : decode cX0_becomeLike 68 = .ok (.iconst 0, 1) := by decide +kernel
theorem dX0_becomeLike_69 : decode cX0_becomeLike 69 = .ok (.iconst 4, 1) := by decide +kernel
theorem dX0_becomeLike_70 : decode cX0_becomeLike 70 = .ok (.invokestatic 34, 3) := by decide +kernel
theorem dX0_becomeLike_73 : decode cX0_becomeLike 73 = .ok (.aload_n 0, 1) := by decide +kernel
theorem dX0_becomeLike_74 : decode cX0_becomeLike 74 = .ok (.aload_n 1, 1) := by decide +kernel
theorem dX0_becomeLike_75 : decode cX0_becomeLike 75 = .ok (.getfield 27, 3) := by decide +kernel
theorem dX0_becomeLike_78 : decode cX0_becomeLike 78 = .ok (.putfield 27, 3) := by decide +kernel
theorem dX0_becomeLike_81 : decode cX0_becomeLike 81 = .ok (.aload_n 0, 1) := by decide +kernel
theorem dX0_becomeLike_82 : decode cX0_becomeLike 82 = .ok (.aload_n 1, 1) := by decide +kernel
theorem dX0_becomeLike_83 : decode cX0_becomeLike 83 = .ok (.getfield 31, 3) := by decide +kernel
theorem dX0_becomeLike_86 : decode cX0_becomeLike 86 = .ok (.putfield 31, 3) := by decide +kernel
theorem dX0_becomeLike_89 : decode cX0_becomeLike 89 = .ok (.aload_n 0, 1) := by decide +kernel
theorem dX0_becomeLike_90 : decode cX0_becomeLike 90 = .ok (.aload_n 1, 1) := by decide +kernel
theorem dX0_becomeLike_91 : decode cX0_becomeLike 91 = .ok (.getfield 40, 3) := by decide +kernel
theorem dX0_becomeLike_94 : decode cX0_becomeLike 94 = .ok (.putfield 40, 3) := by decide +kernel
theorem dX0_becomeLike_97 : decode cX0_becomeLike 97 = .ok (.aload_n 0, 1) := by decide +kernel
theorem dX0_becomeLike_98 : decode cX0_becomeLike 98 = .ok (.aload_n 1, 1) := by decide +kernel
theorem dX0_becomeLike_99 : decode cX0_becomeLike 99 = .ok (.getfield 43, 3) := by decide +kernel
theorem dX0_becomeLike_102 : decode cX0_becomeLike 102 = .ok (.putfield 43, 3) := by decide +kernel
theorem dX0_becomeLike_105 : decode cX0_becomeLike 105 = .ok (.return_, 1) := by decide +kernel
def rmX0_becomeLike : Room := { frames := 1, cells := 0, slots := 0, locals := 26 }
abbrev eX0_becomeLike := Ev cX0_becomeLike 2 none RX0 rmX0_becomeLike
set_option maxRecDepth 20000 in
theorem mt_X0_becomeLike (a0 : Nat) (p0 : Nat) (σ : St) (Q : St → Prop) (o_a0 : kd a0 = 0) (o_p0 : kd p0 = 0) (hP : P_X0_becomeLike a0 p0 σ Q) : Mt yX0_becomeLike cX0_becomeLike 2 none rmX0_becomeLike [.ref (a0), .ref (p0)] σ (qV Q) := by
  refine Mt.of (k := 0) (ls := [.ref (a0), .ref (p0)]) (by decide +kernel) rfl (Nat.le_of_ble_eq_true rfl) ?_
  show eX0_becomeLike 0 [.ref (a0), .ref (p0)] [] σ _
  unfold P_X0_becomeLike at hP
  refine E_aload_n dX0_becomeLike_0 rfl ?_
  refine E_getR (j := 0) dX0_becomeLike_1 o_p0 (by decide) rfl fd_RX0_9 (by decide) ?_
  refine E_iconst (v := 0) dX0_becomeLike_4 (by decide) ?_
  refine E_aload_n dX0_becomeLike_5 rfl ?_
  refine E_getR (j := 0) dX0_becomeLike_6 o_a0 (by decide) rfl fd_RX0_9 (by decide) ?_
  refine E_iconst (v := 0) dX0_becomeLike_9 (by decide) ?_
  refine E_bipush (v := 28) dX0_becomeLike_10 (by decide) ?_
  refine E_cpI dX0_becomeLike_12 tw_9 tw_10 tw_11 tw_12 (ar_0_1 o_p0).1 (ar_0_1 o_p0).2 (ar_0_1 o_a0).1 (ar_0_1 o_a0).2 ⟨Nat.le_of_ble_eq_true rfl, Nat.le_of_ble_eq_true rfl⟩ (by decide) (by decide) (by decide) (by decide) (by decide) ?_
  refine E_aload_n dX0_becomeLike_15 rfl ?_
  refine E_getR (j := 1) dX0_becomeLike_16 o_p0 (by decide) rfl fd_RX0_15 (by decide) ?_
  refine E_iconst (v := 0) dX0_becomeLike_19 (by decide) ?_
  refine E_aload_n dX0_becomeLike_20 rfl ?_
  refine E_getR (j := 1) dX0_becomeLike_21 o_a0 (by decide) rfl fd_RX0_15 (by decide) ?_
  refine E_iconst (v := 0) dX0_becomeLike_24 (by decide) ?_
  refine E_bipush (v := 28) dX0_becomeLike_25 (by decide) ?_
  refine E_cpI dX0_becomeLike_27 tw_9 tw_10 tw_11 tw_12 (ar_0_2 o_p0).1 (ar_0_2 o_p0).2 (ar_0_2 o_a0).1 (ar_0_2 o_a0).2 ⟨Nat.le_of_ble_eq_true rfl, Nat.le_of_ble_eq_true rfl⟩ (by decide) (by decide) (by decide) (by decide) (by decide) ?_
  refine E_aload_n dX0_becomeLike_30 rfl ?_
  refine E_getR (j := 2) dX0_becomeLike_31 o_p0 (by decide) rfl fd_RX0_18 (by decide) ?_
  refine E_iconst (v := 0) dX0_becomeLike_34 (by decide) ?_
  refine E_aload_n dX0_becomeLike_35 rfl ?_
  refine E_getR (j := 2) dX0_becomeLike_36 o_a0 (by decide) rfl fd_RX0_18 (by decide) ?_
  refine E_iconst (v := 0) dX0_becomeLike_39 (by decide) ?_
  refine E_bipush (v := 28) dX0_becomeLike_40 (by decide) ?_
  refine E_cpI dX0_becomeLike_42 tw_9 tw_10 tw_11 tw_12 (ar_0_3 o_p0).1 (ar_0_3 o_p0).2 (ar_0_3 o_a0).1 (ar_0_3 o_a0).2 ⟨Nat.le_of_ble_eq_true rfl, Nat.le_of_ble_eq_true rfl⟩ (by decide) (by decide) (by decide) (by decide) (by decide) ?_
  refine E_aload_n dX0_becomeLike_45 rfl ?_
  refine E_getR (j := 3) dX0_becomeLike_46 o_p0 (by decide) rfl fd_RX0_21 (by decide) ?_
  refine E_iconst (v := 0) dX0_becomeLike_49 (by decide) ?_
  refine E_aload_n dX0_becomeLike_50 rfl ?_
  refine E_getR (j := 3) dX0_becomeLike_51 o_a0 (by decide) rfl fd_RX0_21 (by decide) ?_
  refine E_iconst (v := 0) dX0_becomeLike_54 (by decide) ?_
  refine E_iconst (v := 4) dX0_becomeLike_55 (by decide) ?_
  refine E_cpI dX0_becomeLike_56 tw_9 tw_10 tw_11 tw_12 (ar_0_4 o_p0).1 (ar_0_4 o_p0).2 (ar_0_4 o_a0).1 (ar_0_4 o_a0).2 ⟨Nat.le_of_ble_eq_true rfl, Nat.le_of_ble_eq_true rfl⟩ (by decide) (by decide) (by decide) (by decide) (by decide) ?_
  refine E_aload_n dX0_becomeLike_59 rfl ?_
  refine E_getR (j := 4) dX0_becomeLike_60 o_p0 (by decide) rfl fd_RX0_24 (by decide) ?_
  refine E_iconst (v := 0) dX0_becomeLike_63 (by decide) ?_
  refine E_aload_n dX0_becomeLike_64 rfl ?_
  refine E_getR (j := 4) dX0_becomeLike_65 o_a0 (by decide) rfl fd_RX0_24 (by decide) ?_
  refine E_iconst (v := 0) dX0_becomeLike_68 (by decide) ?_
  refine E_iconst (v := 4) dX0_becomeLike_69 (by decide) ?_
  refine E_cpI dX0_becomeLike_70 tw_9 tw_10 tw_11 tw_12 (ar_0_5 o_p0).1 (ar_0_5 o_p0).2 (ar_0_5 o_a0).1 (ar_0_5 o_a0).2 ⟨Nat.le_of_ble_eq_true rfl, Nat.le_of_ble_eq_true rfl⟩ (by decide) (by decide) (by decide) (by decide) (by decide) ?_
  refine E_nm (fun s70 hs70 => ?_)
  replace hP := hP s70 hs70
  refine E_aload_n dX0_becomeLike_73 rfl ?_
  refine E_aload_n dX0_becomeLike_74 rfl ?_
  refine E_getI (j := 5) dX0_becomeLike_75 o_p0 (by decide) rfl fd_RX0_27 ?_
  refine E_putI (j := 5) dX0_becomeLike_78 o_a0 (by decide) rfl fd_RX0_27 fp_0_5 ?_
  refine E_aload_n dX0_becomeLike_81 rfl ?_
  refine E_aload_n dX0_becomeLike_82 rfl ?_
  refine E_getI (j := 6) dX0_becomeLike_83 o_p0 (by decide) rfl fd_RX0_31 ?_
  refine E_putI (j := 6) dX0_becomeLike_86 o_a0 (by decide) rfl fd_RX0_31 fp_0_6 ?_
  refine E_nm (fun s86 hs86 => ?_)
  replace hP := hP s86 hs86
  refine E_aload_n dX0_becomeLike_89 rfl ?_
  refine E_aload_n dX0_becomeLike_90 rfl ?_
  refine E_getI (j := 7) dX0_becomeLike_91 o_p0 (by decide) rfl fd_RX0_40 ?_
  refine E_putI (j := 7) dX0_becomeLike_94 o_a0 (by decide) rfl fd_RX0_40 fp_0_7 ?_
  refine E_aload_n dX0_becomeLike_97 rfl ?_
  refine E_aload_n dX0_becomeLike_98 rfl ?_
  refine E_getI (j := 8) dX0_becomeLike_99 o_p0 (by decide) rfl fd_RX0_43 ?_
  refine E_putI (j := 8) dX0_becomeLike_102 o_a0 (by decide) rfl fd_RX0_43 fp_0_8 ?_
  exact E_vret dX0_becomeLike_105 rfl ⟨rfl, hP⟩
theorem dX0_put_0 : decode cX0_put 0 = .ok (.iload_n 2, 1) := by decide +kernel
theorem dX0_put_1 : decode cX0_put 1 = .ok (.aload_n 0, 1) := by decide +kernel
theorem dX0_put_2 : decode cX0_put 2 = .ok (.getfield 21, 3) := by decide +kernel
theorem dX0_put_5 : decode cX0_put 5 = .ok (.iload_n 2, 1) := by decide +kernel
theorem dX0_put_6 : decode cX0_put 6 = .ok (.iaload, 1) := by decide +kernel
theorem dX0_put_7 : decode cX0_put 7 = .ok (.invokestatic 46, 3) := by decide +kernel
theorem dX0_put_10 : decode cX0_put 10 = .ok (.istore 5, 2) := by decide +kernel
theorem dX0_put_12 : decode cX0_put 12 = .ok (.aload_n 0, 1) := by decide +kernel
theorem dX0_put_13 : decode cX0_put 13 = .ok (.getfield 9, 3) := by decide +kernel
theorem dX0_put_16 : decode cX0_put 16 = .ok (.iload 5, 2) := by decide +kernel
theorem dX0_put_18 : decode cX0_put 18 = .ok (.iload_n 1, 1) := by decide +kernel
theorem dX0_put_19 : decode cX0_put 19 = .ok (.iastore, 1) := by decide +kernel
theorem dX0_put_20 : decode cX0_put 20 = .ok (.aload_n 0, 1) := by decide +kernel
theorem dX0_put_21 : decode cX0_put 21 = .ok (.getfield 15, 3) := by decide +kernel
theorem dX0_put_24 : decode cX0_put 24 = .ok (.iload 5, 2) := by decide +kernel
theorem dX0_put_26 : decode cX0_put 26 = .ok (.iload_n 3, 1) := by decide +kernel
theorem dX0_put_27 : decode cX0_put 27 = .ok (.iastore, 1) := by decide +kernel
theorem dX0_put_28 : decode cX0_put 28 = .ok (.aload_n 0, 1) := by decide +kernel
theorem dX0_put_29 : decode cX0_put 29 = .ok (.getfield 18, 3) := by decide +kernel
theorem dX0_put_32 : decode cX0_put 32 = .ok (.iload 5, 2) := by decide +kernel
theorem dX0_put_34 : decode cX0_put 34 = .ok (.iload 4, 2) := by decide +kernel
theorem dX0_put_36 : decode cX0_put 36 = .ok (.iastore, 1) := by decide +kernel
theorem dX0_put_37 : decode cX0_put 37 = .ok (.aload_n 0, 1) := by decide +kernel
theorem dX0_put_38 : decode cX0_put 38 = .ok (.getfield 21, 3) := by decide +kernel
theorem dX0_put_41 : decode cX0_put 41 = .ok (.iload_n 2, 1) := by decide +kernel
theorem dX0_put_42 : decode cX0_put 42 = .ok (.dup2, 1) := by decide +kernel
theorem dX0_put_43 : decode cX0_put 43 = .ok (.iaload, 1) := by decide +kernel
theorem dX0_put_44 : decode cX0_put 44 = .ok (.iconst 1, 1) := by decide +kernel
theorem dX0_put_45 : decode cX0_put 45 = .ok (.iadd, 1) := by decide +kernel
theorem dX0_put_46 : decode cX0_put 46 = .ok (.iastore, 1) := by decide +kernel
theorem dX0_put_47 : decode cX0_put 47 = .ok (.return_, 1) := by decide +kernel
def rmX0_put : Room := { frames := 1, cells := 0, slots := 0, locals := 21 }
abbrev eX0_put := Ev cX0_put 6 none RX0 rmX0_put
set_option maxRecDepth 20000 in
theorem mt_X0_put (a0 : Nat) (p0 : Int32) (p1 : Int32) (p2 : Int32) (p3 : Int32) (σ : St) (Q : St → Prop) (o_a0 : kd a0 = 0) (hP : P_X0_put a0 p0 p1 p2 p3 σ Q) : Mt yX0_put cX0_put 6 none rmX0_put [.ref (a0), .int (p0), .int (p1), .int (p2), .int (p3)] σ (qV Q) := by
  refine Mt.of (k := 1) (ls := [.ref (a0), .int (p0), .int (p1), .int (p2), .int (p3), un]) (by decide +kernel) rfl (Nat.le_of_ble_eq_true rfl) ?_
  show eX0_put 0 [.ref (a0), .int (p0), .int (p1), .int (p2), .int (p3), un] [] σ _
  unfold P_X0_put at hP
  refine E_iload_n dX0_put_0 rfl ?_
  refine E_aload_n dX0_put_1 rfl ?_
  refine E_getR (j := 3) dX0_put_2 o_a0 (by decide) rfl fd_RX0_21 (by decide) ?_
  refine E_iload_n dX0_put_5 rfl ?_
  obtain ⟨hb, hP⟩ := hP
  refine E_iald dX0_put_6 (ar_0_4 o_a0).1 (ar_0_4 o_a0).2 hb ?_
  refine E_callS (As := [.int (p1), .int (gI σ (a0 + 4) p1.toNatClampNeg)]) (rest := []) dX0_put_7 cl_RX0_46 tw_16 ⟨rfl, rfl, Nat.le_of_ble_eq_true rfl, Nat.le_of_ble_eq_true rfl⟩ rfl rfl (Nat.le_of_ble_eq_true rfl) (mt_X0_place _ _ _ _  hP) ?_
  intro r0 s0 hq0; obtain ⟨r7, h0, hs0, hP⟩ := hq0; subst h0; rw [hs0]
  show eX0_put 10 [.ref (a0), .int (p0), .int (p1), .int (p2), .int (p3), un] [.int (r7)] σ _
  refine E_istore (ls' := [.ref (a0), .int (p0), .int (p1), .int (p2), .int (p3), .int (r7)]) dX0_put_10 (by decide) rfl ?_
  refine E_aload_n dX0_put_12 rfl ?_
  refine E_getR (j := 0) dX0_put_13 o_a0 (by decide) rfl fd_RX0_9 (by decide) ?_
  refine E_iload dX0_put_16 rfl ?_
  refine E_iload_n dX0_put_18 rfl ?_
  obtain ⟨hb, hP⟩ := hP
  refine E_iast dX0_put_19 (ar_0_1 o_a0).1 (ar_0_1 o_a0).2 hb ?_
  refine E_aload_n dX0_put_20 rfl ?_
  refine E_getR (j := 1) dX0_put_21 o_a0 (by decide) rfl fd_RX0_15 (by decide) ?_
  refine E_iload dX0_put_24 rfl ?_
  refine E_iload_n dX0_put_26 rfl ?_
  obtain ⟨hb, hP⟩ := hP
  refine E_iast dX0_put_27 (ar_0_2 o_a0).1 (ar_0_2 o_a0).2 hb ?_
  refine E_aload_n dX0_put_28 rfl ?_
  refine E_getR (j := 2) dX0_put_29 o_a0 (by decide) rfl fd_RX0_18 (by decide) ?_
  refine E_iload dX0_put_32 rfl ?_
  refine E_iload dX0_put_34 rfl ?_
  obtain ⟨hb, hP⟩ := hP
  refine E_iast dX0_put_36 (ar_0_3 o_a0).1 (ar_0_3 o_a0).2 hb ?_
  refine E_aload_n dX0_put_37 rfl ?_
  refine E_getR (j := 3) dX0_put_38 o_a0 (by decide) rfl fd_RX0_21 (by decide) ?_
  refine E_iload_n dX0_put_41 rfl ?_
  refine E_dup2 dX0_put_42 rfl rfl ?_
  obtain ⟨hb, hP⟩ := hP
  refine E_iald dX0_put_43 (ar_0_4 o_a0).1 (ar_0_4 o_a0).2 hb ?_
  refine E_iconst (v := 1) dX0_put_44 (by decide) ?_
  refine E_iadd dX0_put_45 ?_
  obtain ⟨hb, hP⟩ := hP
  refine E_iast dX0_put_46 (ar_0_4 o_a0).1 (ar_0_4 o_a0).2 hb ?_
  exact E_vret dX0_put_47 rfl ⟨rfl, hP⟩
theorem dX0_coinOf_0 : decode cX0_coinOf 0 = .ok (.iload_n 1, 1) := by decide +kernel
theorem dX0_coinOf_1 : decode cX0_coinOf 1 = .ok (.iload_n 2, 1) := by decide +kernel
theorem dX0_coinOf_2 : decode cX0_coinOf 2 = .ok (.invokestatic 46, 3) := by decide +kernel
theorem dX0_coinOf_5 : decode cX0_coinOf 5 = .ok (.istore_n 3, 1) := by decide +kernel
theorem dX0_coinOf_6 : decode cX0_coinOf 6 = .ok (.aload_n 0, 1) := by decide +kernel
theorem dX0_coinOf_7 : decode cX0_coinOf 7 = .ok (.getfield 9, 3) := by decide +kernel
theorem dX0_coinOf_10 : decode cX0_coinOf 10 = .ok (.iload_n 3, 1) := by decide +kernel
theorem dX0_coinOf_11 : decode cX0_coinOf 11 = .ok (.iaload, 1) := by decide +kernel
theorem dX0_coinOf_12 : decode cX0_coinOf 12 = .ok (.tableswitch 67 1 5 #[36, 56, 67, 45, 65], 36) := by decide +kernel
theorem dX0_coinOf_48 : decode cX0_coinOf 48 = .ok (.aload_n 0, 1) := by decide +kernel
theorem dX0_coinOf_49 : decode cX0_coinOf 49 = .ok (.getfield 18, 3) := by decide +kernel
theorem dX0_coinOf_52 : decode cX0_coinOf 52 = .ok (.iload_n 3, 1) := by decide +kernel
theorem dX0_coinOf_53 : decode cX0_coinOf 53 = .ok (.iaload, 1) := by decide +kernel
theorem dX0_coinOf_54 : decode cX0_coinOf 54 = .ok (.iconst 5, 1) := by decide +kernel
theorem dX0_coinOf_55 : decode cX0_coinOf 55 = .ok (.iadd, 1) := by decide +kernel
theorem dX0_coinOf_56 : decode cX0_coinOf 56 = .ok (.ireturn, 1) := by decide +kernel
theorem dX0_coinOf_57 : decode cX0_coinOf 57 = .ok (.iconst 2, 1) := by decide +kernel
theorem dX0_coinOf_58 : decode cX0_coinOf 58 = .ok (.aload_n 0, 1) := by decide +kernel
theorem dX0_coinOf_59 : decode cX0_coinOf 59 = .ok (.getfield 18, 3) := by decide +kernel
theorem dX0_coinOf_62 : decode cX0_coinOf 62 = .ok (.iload_n 3, 1) := by decide +kernel
theorem dX0_coinOf_63 : decode cX0_coinOf 63 = .ok (.iaload, 1) := by decide +kernel
theorem dX0_coinOf_64 : decode cX0_coinOf 64 = .ok (.iconst 5, 1) := by decide +kernel
theorem dX0_coinOf_65 : decode cX0_coinOf 65 = .ok (.iadd, 1) := by decide +kernel
theorem dX0_coinOf_66 : decode cX0_coinOf 66 = .ok (.imul, 1) := by decide +kernel
theorem dX0_coinOf_67 : decode cX0_coinOf 67 = .ok (.ireturn, 1) := by decide +kernel
theorem dX0_coinOf_68 : decode cX0_coinOf 68 = .ok (.aload_n 0, 1) := by decide +kernel
theorem dX0_coinOf_69 : decode cX0_coinOf 69 = .ok (.getfield 18, 3) := by decide +kernel
theorem dX0_coinOf_72 : decode cX0_coinOf 72 = .ok (.iload_n 3, 1) := by decide +kernel
theorem dX0_coinOf_73 : decode cX0_coinOf 73 = .ok (.iaload, 1) := by decide +kernel
theorem dX0_coinOf_74 : decode cX0_coinOf 74 = .ok (.iconst 2, 1) := by decide +kernel
theorem dX0_coinOf_75 : decode cX0_coinOf 75 = .ok (.idiv, 1) := by decide +kernel
theorem dX0_coinOf_76 : decode cX0_coinOf 76 = .ok (.ireturn, 1) := by decide +kernel
theorem dX0_coinOf_77 : decode cX0_coinOf 77 = .ok (.iconst 0, 1) := by decide +kernel
theorem dX0_coinOf_78 : decode cX0_coinOf 78 = .ok (.ireturn, 1) := by decide +kernel
theorem dX0_coinOf_79 : decode cX0_coinOf 79 = .ok (.aload_n 0, 1) := by decide +kernel
theorem dX0_coinOf_80 : decode cX0_coinOf 80 = .ok (.getfield 18, 3) := by decide +kernel
theorem dX0_coinOf_83 : decode cX0_coinOf 83 = .ok (.iload_n 3, 1) := by decide +kernel
theorem dX0_coinOf_84 : decode cX0_coinOf 84 = .ok (.iaload, 1) := by decide +kernel
theorem dX0_coinOf_85 : decode cX0_coinOf 85 = .ok (.ireturn, 1) := by decide +kernel
def rmX0_coinOf : Room := { frames := 1, cells := 0, slots := 0, locals := 21 }
abbrev eX0_coinOf := Ev cX0_coinOf 4 (some .int) RX0 rmX0_coinOf
set_option maxRecDepth 20000 in
theorem mt_X0_coinOf (a0 : Nat) (p0 : Int32) (p1 : Int32) (σ : St) (Q : Int32 → Prop) (o_a0 : kd a0 = 0) (hP : P_X0_coinOf a0 p0 p1 σ Q) : Mt yX0_coinOf cX0_coinOf 4 (some .int) rmX0_coinOf [.ref (a0), .int (p0), .int (p1)] σ (qI fun x s => s = σ ∧ Q x) := by
  refine Mt.of (k := 1) (ls := [.ref (a0), .int (p0), .int (p1), un]) (by decide +kernel) rfl (Nat.le_of_ble_eq_true rfl) ?_
  show eX0_coinOf 0 [.ref (a0), .int (p0), .int (p1), un] [] σ _
  unfold P_X0_coinOf at hP
  refine E_iload_n dX0_coinOf_0 rfl ?_
  refine E_iload_n dX0_coinOf_1 rfl ?_
  refine E_callS (As := [.int (p0), .int (p1)]) (rest := []) dX0_coinOf_2 cl_RX0_46 tw_16 ⟨rfl, rfl, Nat.le_of_ble_eq_true rfl, Nat.le_of_ble_eq_true rfl⟩ rfl rfl (Nat.le_of_ble_eq_true rfl) (mt_X0_place _ _ _ _  hP) ?_
  intro r0 s0 hq0; obtain ⟨r2, h0, hs0, hP⟩ := hq0; subst h0; rw [hs0]
  show eX0_coinOf 5 [.ref (a0), .int (p0), .int (p1), un] [.int (r2)] σ _
  refine E_istore_n (ls' := [.ref (a0), .int (p0), .int (p1), .int (r2)]) dX0_coinOf_5 (by decide) rfl ?_
  refine E_aload_n dX0_coinOf_6 rfl ?_
  refine E_getR (j := 0) dX0_coinOf_7 o_a0 (by decide) rfl fd_RX0_9 (by decide) ?_
  refine E_iload_n dX0_coinOf_10 rfl ?_
  obtain ⟨hb, hP⟩ := hP
  refine E_iald dX0_coinOf_11 (ar_0_1 o_a0).1 (ar_0_1 o_a0).2 hb ?_
  refine E_tsw [(1, 48), (2, 68), (3, 79), (4, 57), (5, 77)] 79 dX0_coinOf_12 (by decide) (by decide) (by decide +kernel) (by decide +kernel) (List.forall_mem_cons.mpr ⟨fun hc => ?_, (List.forall_mem_cons.mpr ⟨fun hc => ?_, (List.forall_mem_cons.mpr ⟨fun hc => ?_, (List.forall_mem_cons.mpr ⟨fun hc => ?_, (List.forall_mem_cons.mpr ⟨fun hc => ?_, (fun q hq => absurd hq List.not_mem_nil)⟩)⟩)⟩)⟩)⟩) (fun hc => ?_)
  · replace hP := hP.1 hc
    refine E_aload_n dX0_coinOf_48 rfl ?_
    refine E_getR (j := 2) dX0_coinOf_49 o_a0 (by decide) rfl fd_RX0_18 (by decide) ?_
    refine E_iload_n dX0_coinOf_52 rfl ?_
    obtain ⟨hb, hP⟩ := hP
    refine E_iald dX0_coinOf_53 (ar_0_3 o_a0).1 (ar_0_3 o_a0).2 hb ?_
    refine E_iconst (v := 5) dX0_coinOf_54 (by decide) ?_
    refine E_iadd dX0_coinOf_55 ?_
    exact E_iret dX0_coinOf_56 rfl ⟨_, rfl, rfl, hP⟩
  · replace hP := hP.2.1 hc
    refine E_aload_n dX0_coinOf_68 rfl ?_
    refine E_getR (j := 2) dX0_coinOf_69 o_a0 (by decide) rfl fd_RX0_18 (by decide) ?_
    refine E_iload_n dX0_coinOf_72 rfl ?_
    obtain ⟨hb, hP⟩ := hP
    refine E_iald dX0_coinOf_73 (ar_0_3 o_a0).1 (ar_0_3 o_a0).2 hb ?_
    refine E_iconst (v := 2) dX0_coinOf_74 (by decide) ?_
    refine E_idiv dX0_coinOf_75 (by decide) ?_
    exact E_iret dX0_coinOf_76 rfl ⟨_, rfl, rfl, hP⟩
  · replace hP := hP.2.2.1 hc
    refine E_aload_n dX0_coinOf_79 rfl ?_
    refine E_getR (j := 2) dX0_coinOf_80 o_a0 (by decide) rfl fd_RX0_18 (by decide) ?_
    refine E_iload_n dX0_coinOf_83 rfl ?_
    obtain ⟨hb, hP⟩ := hP
    refine E_iald dX0_coinOf_84 (ar_0_3 o_a0).1 (ar_0_3 o_a0).2 hb ?_
    exact E_iret dX0_coinOf_85 rfl ⟨_, rfl, rfl, hP⟩
  · replace hP := hP.2.2.2.1 hc
    refine E_iconst (v := 2) dX0_coinOf_57 (by decide) ?_
    refine E_aload_n dX0_coinOf_58 rfl ?_
    refine E_getR (j := 2) dX0_coinOf_59 o_a0 (by decide) rfl fd_RX0_18 (by decide) ?_
    refine E_iload_n dX0_coinOf_62 rfl ?_
    obtain ⟨hb, hP⟩ := hP
    refine E_iald dX0_coinOf_63 (ar_0_3 o_a0).1 (ar_0_3 o_a0).2 hb ?_
    refine E_iconst (v := 5) dX0_coinOf_64 (by decide) ?_
    refine E_iadd dX0_coinOf_65 ?_
    refine E_imul dX0_coinOf_66 ?_
    exact E_iret dX0_coinOf_67 rfl ⟨_, rfl, rfl, hP⟩
  · replace hP := hP.2.2.2.2.1 hc
    refine E_iconst (v := 0) dX0_coinOf_77 (by decide) ?_
    exact E_iret dX0_coinOf_78 rfl ⟨_, rfl, rfl, hP⟩
  · replace hP := hP.2.2.2.2.2 ⟨hc (1, 48) (List.mem_of_getElem? (i := 0) rfl), hc (2, 68) (List.mem_of_getElem? (i := 1) rfl), hc (3, 79) (List.mem_of_getElem? (i := 2) rfl), hc (4, 57) (List.mem_of_getElem? (i := 3) rfl), hc (5, 77) (List.mem_of_getElem? (i := 4) rfl)⟩
    refine E_aload_n dX0_coinOf_79 rfl ?_
    refine E_getR (j := 2) dX0_coinOf_80 o_a0 (by decide) rfl fd_RX0_18 (by decide) ?_
    refine E_iload_n dX0_coinOf_83 rfl ?_
    obtain ⟨hb, hP⟩ := hP
    refine E_iald dX0_coinOf_84 (ar_0_3 o_a0).1 (ar_0_3 o_a0).2 hb ?_
    exact E_iret dX0_coinOf_85 rfl ⟨_, rfl, rfl, hP⟩
theorem dX0_takeLowest_0 : decode cX0_takeLowest 0 = .ok (.aload_n 0, 1) := by decide +kernel
theorem dX0_takeLowest_1 : decode cX0_takeLowest 1 = .ok (.ldc 50, 2) := by decide +kernel
theorem dX0_takeLowest_3 : decode cX0_takeLowest 3 = .ok (.aload_n 0, 1) := by decide +kernel
theorem dX0_takeLowest_4 : decode cX0_takeLowest 4 = .ok (.getfield 43, 3) := by decide +kernel
theorem dX0_takeLowest_7 : decode cX0_takeLowest 7 = .ok (.aload_n 0, 1) := by decide +kernel
theorem dX0_takeLowest_8 : decode cX0_takeLowest 8 = .ok (.iload_n 1, 1) := by decide +kernel
theorem dX0_takeLowest_9 : decode cX0_takeLowest 9 = .ok (.iconst 0, 1) := by decide +kernel
theorem dX0_takeLowest_10 : decode cX0_takeLowest 10 = .ok (.invokevirtual 51, 3) := by decide +kernel
theorem dX0_takeLowest_13 : decode cX0_takeLowest 13 = .ok (.iadd, 1) := by decide +kernel
theorem dX0_takeLowest_14 : decode cX0_takeLowest 14 = .ok (.invokestatic 54, 3) := by decide +kernel
theorem dX0_takeLowest_17 : decode cX0_takeLowest 17 = .ok (.putfield 43, 3) := by decide +kernel
theorem dX0_takeLowest_20 : decode cX0_takeLowest 20 = .ok (.aload_n 0, 1) := by decide +kernel
theorem dX0_takeLowest_21 : decode cX0_takeLowest 21 = .ok (.getfield 21, 3) := by decide +kernel
theorem dX0_takeLowest_24 : decode cX0_takeLowest 24 = .ok (.iload_n 1, 1) := by decide +kernel
theorem dX0_takeLowest_25 : decode cX0_takeLowest 25 = .ok (.dup2, 1) := by decide +kernel
theorem dX0_takeLowest_26 : decode cX0_takeLowest 26 = .ok (.iaload, 1) := by decide +kernel
theorem dX0_takeLowest_27 : decode cX0_takeLowest 27 = .ok (.iconst 1, 1) := by decide +kernel
theorem dX0_takeLowest_28 : decode cX0_takeLowest 28 = .ok (.isub, 1) := by decide +kernel
theorem dX0_takeLowest_29 : decode cX0_takeLowest 29 = .ok (.iastore, 1) := by decide +kernel
theorem dX0_takeLowest_30 : decode cX0_takeLowest 30 = .ok (.iload_n 1, 1) := by decide +kernel
theorem dX0_takeLowest_31 : decode cX0_takeLowest 31 = .ok (.iconst 0, 1) := by decide +kernel
theorem dX0_takeLowest_32 : decode cX0_takeLowest 32 = .ok (.invokestatic 46, 3) := by decide +kernel
theorem dX0_takeLowest_35 : decode cX0_takeLowest 35 = .ok (.istore_n 2, 1) := by decide +kernel
theorem dX0_takeLowest_36 : decode cX0_takeLowest 36 = .ok (.aload_n 0, 1) := by decide +kernel
theorem dX0_takeLowest_37 : decode cX0_takeLowest 37 = .ok (.getfield 9, 3) := by decide +kernel
theorem dX0_takeLowest_40 : decode cX0_takeLowest 40 = .ok (.iload_n 2, 1) := by decide +kernel
theorem dX0_takeLowest_41 : decode cX0_takeLowest 41 = .ok (.iconst 1, 1) := by decide +kernel
theorem dX0_takeLowest_42 : decode cX0_takeLowest 42 = .ok (.iadd, 1) := by decide +kernel
theorem dX0_takeLowest_43 : decode cX0_takeLowest 43 = .ok (.aload_n 0, 1) := by decide +kernel
theorem dX0_takeLowest_44 : decode cX0_takeLowest 44 = .ok (.getfield 9, 3) := by decide +kernel
theorem dX0_takeLowest_47 : decode cX0_takeLowest 47 = .ok (.iload_n 2, 1) := by decide +kernel
theorem dX0_takeLowest_48 : decode cX0_takeLowest 48 = .ok (.aload_n 0, 1) := by decide +kernel
theorem dX0_takeLowest_49 : decode cX0_takeLowest 49 = .ok (.getfield 21, 3) := by decide +kernel
theorem dX0_takeLowest_52 : decode cX0_takeLowest 52 = .ok (.iload_n 1, 1) := by decide +kernel
theorem dX0_takeLowest_53 : decode cX0_takeLowest 53 = .ok (.iaload, 1) := by decide +kernel
theorem dX0_takeLowest_54 : decode cX0_takeLowest 54 = .ok (.invokestatic 34, 3) := by decide +kernel
theorem dX0_takeLowest_57 : decode cX0_takeLowest 57 = .ok (.aload_n 0, 1) := by decide +kernel
theorem dX0_takeLowest_58 : decode cX0_takeLowest 58 = .ok (.getfield 15, 3) := by decide +kernel
theorem dX0_takeLowest_61 : decode cX0_takeLowest 61 = .ok (.iload_n 2, 1) := by decide +kernel
theorem dX0_takeLowest_62 : decode cX0_takeLowest 62 = .ok (.iconst 1, 1) := by decide +kernel
theorem dX0_takeLowest_63 : decode cX0_takeLowest 63 = .ok (.iadd, 1) := by decide +kernel
theorem dX0_takeLowest_64 : decode cX0_takeLowest 64 = .ok (.aload_n 0, 1) := by decide +kernel
theorem dX0_takeLowest_65 : decode cX0_takeLowest 65 = .ok (.getfield 15, 3) := by decide +kernel
theorem dX0_takeLowest_68 : decode cX0_takeLowest 68 = .ok (.iload_n 2, 1) := by decide +kernel
theorem dX0_takeLowest_69 : decode cX0_takeLowest 69 = .ok (.aload_n 0, 1) := by decide +kernel
theorem dX0_takeLowest_70 : decode cX0_takeLowest 70 = .ok (.getfield 21, 3) := by decide +kernel
theorem dX0_takeLowest_73 : decode cX0_takeLowest 73 = .ok (.iload_n 1, 1) := by decide +kernel
theorem dX0_takeLowest_74 : decode cX0_takeLowest 74 = .ok (.iaload, 1) := by decide +kernel
theorem dX0_takeLowest_75 : decode cX0_takeLowest 75 = .ok (.invokestatic 34, 3) := by decide +kernel
theorem dX0_takeLowest_78 : decode cX0_takeLowest 78 = .ok (.aload_n 0, 1) := by decide +kernel
theorem dX0_takeLowest_79 : decode cX0_takeLowest 79 = .ok (.getfield 18, 3) := by decide +kernel
theorem dX0_takeLowest_82 : decode cX0_takeLowest 82 = .ok (.iload_n 2, 1) := by decide +kernel
theorem dX0_takeLowest_83 : decode cX0_takeLowest 83 = .ok (.iconst 1, 1) := by decide +kernel
theorem dX0_takeLowest_84 : decode cX0_takeLowest 84 = .ok (.iadd, 1) := by decide +kernel
theorem dX0_takeLowest_85 : decode cX0_takeLowest 85 = .ok (.aload_n 0, 1) := by decide +kernel
theorem dX0_takeLowest_86 : decode cX0_takeLowest 86 = .ok (.getfield 18, 3) := by decide +kernel
theorem dX0_takeLowest_89 : decode cX0_takeLowest 89 = .ok (.iload_n 2, 1) := by decide +kernel
theorem dX0_takeLowest_90 : decode cX0_takeLowest 90 = .ok (.aload_n 0, 1) := by decide +kernel
theorem dX0_takeLowest_91 : decode cX0_takeLowest 91 = .ok (.getfield 21, 3) := by decide +kernel
theorem dX0_takeLowest_94 : decode cX0_takeLowest 94 = .ok (.iload_n 1, 1) := by decide +kernel
theorem dX0_takeLowest_95 : decode cX0_takeLowest 95 = .ok (.iaload, 1) := by decide +kernel
theorem dX0_takeLowest_96 : decode cX0_takeLowest 96 = .ok (.invokestatic 34, 3) := by decide +kernel
theorem dX0_takeLowest_99 : decode cX0_takeLowest 99 = .ok (.return_, 1) := by decide +kernel
def rmX0_takeLowest : Room := { frames := 2, cells := 0, slots := 0, locals := 44 }
abbrev eX0_takeLowest := Ev cX0_takeLowest 3 none RX0 rmX0_takeLowest
set_option maxRecDepth 20000 in
theorem mt_X0_takeLowest (a0 : Nat) (p0 : Int32) (σ : St) (Q : St → Prop) (o_a0 : kd a0 = 0) (hP : P_X0_takeLowest a0 p0 σ Q) : Mt yX0_takeLowest cX0_takeLowest 3 none rmX0_takeLowest [.ref (a0), .int (p0)] σ (qV Q) := by
  refine Mt.of (k := 1) (ls := [.ref (a0), .int (p0), un]) (by decide +kernel) rfl (Nat.le_of_ble_eq_true rfl) ?_
  show eX0_takeLowest 0 [.ref (a0), .int (p0), un] [] σ _
  unfold P_X0_takeLowest at hP
  refine E_aload_n dX0_takeLowest_0 rfl ?_
  refine E_ldc (v := 999999) dX0_takeLowest_1 tw_17 ?_
  refine E_aload_n dX0_takeLowest_3 rfl ?_
  refine E_getI (j := 8) dX0_takeLowest_4 o_a0 (by decide) rfl fd_RX0_43 ?_
  refine E_aload_n dX0_takeLowest_7 rfl ?_
  refine E_iload_n dX0_takeLowest_8 rfl ?_
  refine E_iconst (v := 0) dX0_takeLowest_9 (by decide) ?_
  refine E_callV (As := [.int (p0), .int (0)]) (rest := [.int (gI σ a0 8), .int (999999), .ref (a0)]) dX0_takeLowest_10 cl_RX0_51 tw_24 o_a0 (by decide) rfl tw_25 ⟨rfl, rfl, Nat.le_of_ble_eq_true rfl, Nat.le_of_ble_eq_true rfl⟩ rfl rfl (Nat.le_of_ble_eq_true rfl) (mt_X0_coinOf _ _ _ _ _ o_a0 hP) ?_
  intro r0 s0 hq0; obtain ⟨r10, h0, hs0, hP⟩ := hq0; subst h0; rw [hs0]
  show eX0_takeLowest 13 [.ref (a0), .int (p0), un] [.int (r10), .int (gI σ a0 8), .int (999999), .ref (a0)] σ _
  refine E_iadd dX0_takeLowest_13 ?_
  refine E_min dX0_takeLowest_14 tw_18 tw_19 tw_20 tw_21 ⟨Nat.le_of_ble_eq_true rfl, Nat.le_of_ble_eq_true rfl⟩ ?_
  refine E_putI (j := 8) dX0_takeLowest_17 o_a0 (by decide) rfl fd_RX0_43 fp_0_8 ?_
  refine E_aload_n dX0_takeLowest_20 rfl ?_
  refine E_getR (j := 3) dX0_takeLowest_21 o_a0 (by decide) rfl fd_RX0_21 (by decide) ?_
  refine E_iload_n dX0_takeLowest_24 rfl ?_
  refine E_dup2 dX0_takeLowest_25 rfl rfl ?_
  obtain ⟨hb, hP⟩ := hP
  refine E_iald dX0_takeLowest_26 (ar_0_4 o_a0).1 (ar_0_4 o_a0).2 hb ?_
  refine E_iconst (v := 1) dX0_takeLowest_27 (by decide) ?_
  refine E_isub dX0_takeLowest_28 ?_
  obtain ⟨hb, hP⟩ := hP
  refine E_iast dX0_takeLowest_29 (ar_0_4 o_a0).1 (ar_0_4 o_a0).2 hb ?_
  refine E_nm (fun s29 hs29 => ?_)
  replace hP := hP s29 hs29
  refine E_iload_n dX0_takeLowest_30 rfl ?_
  refine E_iconst (v := 0) dX0_takeLowest_31 (by decide) ?_
  refine E_callS (As := [.int (p0), .int (0)]) (rest := []) dX0_takeLowest_32 cl_RX0_46 tw_16 ⟨rfl, rfl, Nat.le_of_ble_eq_true rfl, Nat.le_of_ble_eq_true rfl⟩ rfl rfl (Nat.le_of_ble_eq_true rfl) (mt_X0_place _ _ _ _  hP) ?_
  intro r0 s0 hq0; obtain ⟨r32, h0, hs0, hP⟩ := hq0; subst h0; rw [hs0]
  show eX0_takeLowest 35 [.ref (a0), .int (p0), un] [.int (r32)] s29 _
  refine E_istore_n (ls' := [.ref (a0), .int (p0), .int (r32)]) dX0_takeLowest_35 (by decide) rfl ?_
  refine E_aload_n dX0_takeLowest_36 rfl ?_
  refine E_getR (j := 0) dX0_takeLowest_37 o_a0 (by decide) rfl fd_RX0_9 (by decide) ?_
  refine E_iload_n dX0_takeLowest_40 rfl ?_
  refine E_iconst (v := 1) dX0_takeLowest_41 (by decide) ?_
  refine E_iadd dX0_takeLowest_42 ?_
  refine E_aload_n dX0_takeLowest_43 rfl ?_
  refine E_getR (j := 0) dX0_takeLowest_44 o_a0 (by decide) rfl fd_RX0_9 (by decide) ?_
  refine E_iload_n dX0_takeLowest_47 rfl ?_
  refine E_aload_n dX0_takeLowest_48 rfl ?_
  refine E_getR (j := 3) dX0_takeLowest_49 o_a0 (by decide) rfl fd_RX0_21 (by decide) ?_
  refine E_iload_n dX0_takeLowest_52 rfl ?_
  obtain ⟨hb, hP⟩ := hP
  refine E_iald dX0_takeLowest_53 (ar_0_4 o_a0).1 (ar_0_4 o_a0).2 hb ?_
  obtain ⟨hb, hP⟩ := hP
  refine E_cpI dX0_takeLowest_54 tw_9 tw_10 tw_11 tw_12 (ar_0_1 o_a0).1 (ar_0_1 o_a0).2 (ar_0_1 o_a0).1 (ar_0_1 o_a0).2 ⟨Nat.le_of_ble_eq_true rfl, Nat.le_of_ble_eq_true rfl⟩ hb.1 hb.2.1 hb.2.2.1 hb.2.2.2.1 hb.2.2.2.2 ?_
  refine E_nm (fun s54 hs54 => ?_)
  replace hP := hP s54 hs54
  refine E_aload_n dX0_takeLowest_57 rfl ?_
  refine E_getR (j := 1) dX0_takeLowest_58 o_a0 (by decide) rfl fd_RX0_15 (by decide) ?_
  refine E_iload_n dX0_takeLowest_61 rfl ?_
  refine E_iconst (v := 1) dX0_takeLowest_62 (by decide) ?_
  refine E_iadd dX0_takeLowest_63 ?_
  refine E_aload_n dX0_takeLowest_64 rfl ?_
  refine E_getR (j := 1) dX0_takeLowest_65 o_a0 (by decide) rfl fd_RX0_15 (by decide) ?_
  refine E_iload_n dX0_takeLowest_68 rfl ?_
  refine E_aload_n dX0_takeLowest_69 rfl ?_
  refine E_getR (j := 3) dX0_takeLowest_70 o_a0 (by decide) rfl fd_RX0_21 (by decide) ?_
  refine E_iload_n dX0_takeLowest_73 rfl ?_
  obtain ⟨hb, hP⟩ := hP
  refine E_iald dX0_takeLowest_74 (ar_0_4 o_a0).1 (ar_0_4 o_a0).2 hb ?_
  obtain ⟨hb, hP⟩ := hP
  refine E_cpI dX0_takeLowest_75 tw_9 tw_10 tw_11 tw_12 (ar_0_2 o_a0).1 (ar_0_2 o_a0).2 (ar_0_2 o_a0).1 (ar_0_2 o_a0).2 ⟨Nat.le_of_ble_eq_true rfl, Nat.le_of_ble_eq_true rfl⟩ hb.1 hb.2.1 hb.2.2.1 hb.2.2.2.1 hb.2.2.2.2 ?_
  refine E_nm (fun s75 hs75 => ?_)
  replace hP := hP s75 hs75
  refine E_aload_n dX0_takeLowest_78 rfl ?_
  refine E_getR (j := 2) dX0_takeLowest_79 o_a0 (by decide) rfl fd_RX0_18 (by decide) ?_
  refine E_iload_n dX0_takeLowest_82 rfl ?_
  refine E_iconst (v := 1) dX0_takeLowest_83 (by decide) ?_
  refine E_iadd dX0_takeLowest_84 ?_
  refine E_aload_n dX0_takeLowest_85 rfl ?_
  refine E_getR (j := 2) dX0_takeLowest_86 o_a0 (by decide) rfl fd_RX0_18 (by decide) ?_
  refine E_iload_n dX0_takeLowest_89 rfl ?_
  refine E_aload_n dX0_takeLowest_90 rfl ?_
  refine E_getR (j := 3) dX0_takeLowest_91 o_a0 (by decide) rfl fd_RX0_21 (by decide) ?_
  refine E_iload_n dX0_takeLowest_94 rfl ?_
  obtain ⟨hb, hP⟩ := hP
  refine E_iald dX0_takeLowest_95 (ar_0_4 o_a0).1 (ar_0_4 o_a0).2 hb ?_
  obtain ⟨hb, hP⟩ := hP
  refine E_cpI dX0_takeLowest_96 tw_9 tw_10 tw_11 tw_12 (ar_0_3 o_a0).1 (ar_0_3 o_a0).2 (ar_0_3 o_a0).1 (ar_0_3 o_a0).2 ⟨Nat.le_of_ble_eq_true rfl, Nat.le_of_ble_eq_true rfl⟩ hb.1 hb.2.1 hb.2.2.1 hb.2.2.2.1 hb.2.2.2.2 ?_
  exact E_vret dX0_takeLowest_99 rfl ⟨rfl, hP⟩
theorem dX0_layBeam_0 : decode cX0_layBeam 0 = .ok (.iconst 1, 1) := by decide +kernel
theorem dX0_layBeam_1 : decode cX0_layBeam 1 = .ok (.iload_n 1, 1) := by decide +kernel
theorem dX0_layBeam_2 : decode cX0_layBeam 2 = .ok (.ishl, 1) := by decide +kernel
theorem dX0_layBeam_3 : decode cX0_layBeam 3 = .ok (.istore_n 3, 1) := by decide +kernel
theorem dX0_layBeam_4 : decode cX0_layBeam 4 = .ok (.aload_n 0, 1) := by decide +kernel
theorem dX0_layBeam_5 : decode cX0_layBeam 5 = .ok (.iload_n 2, 1) := by decide +kernel
theorem dX0_layBeam_6 : decode cX0_layBeam 6 = .ok (.ifCond .eq 12, 3) := by decide +kernel
theorem dX0_layBeam_9 : decode cX0_layBeam 9 = .ok (.aload_n 0, 1) := by decide +kernel
theorem dX0_layBeam_10 : decode cX0_layBeam 10 = .ok (.getfield 27, 3) := by decide +kernel
theorem dX0_layBeam_13 : decode cX0_layBeam 13 = .ok (.iload_n 3, 1) := by decide +kernel
theorem dX0_layBeam_14 : decode cX0_layBeam 14 = .ok (.ior, 1) := by decide +kernel
theorem dX0_layBeam_15 : decode cX0_layBeam 15 = .ok (.goto 11, 3) := by decide +kernel
theorem dX0_layBeam_18 : decode cX0_layBeam 18 = .ok (.aload_n 0, 1) := by decide +kernel
theorem dX0_layBeam_19 : decode cX0_layBeam 19 = .ok (.getfield 27, 3) := by decide +kernel
theorem dX0_layBeam_22 : decode cX0_layBeam 22 = .ok (.iload_n 3, 1) := by decide +kernel
theorem dX0_layBeam_23 : decode cX0_layBeam 23 = .ok (.iconst (-1), 1) := by decide +kernel
theorem dX0_layBeam_24 : decode cX0_layBeam 24 = .ok (.ixor, 1) := by decide +kernel
theorem dX0_layBeam_25 : decode cX0_layBeam 25 = .ok (.iand, 1) := by decide +kernel
theorem dX0_layBeam_26 : decode cX0_layBeam 26 = .ok (.putfield 27, 3) := by decide +kernel
theorem dX0_layBeam_29 : decode cX0_layBeam 29 = .ok (.return_, 1) := by decide +kernel
def rmX0_layBeam : Room := { frames := 0, cells := 0, slots := 0, locals := 0 }
abbrev eX0_layBeam := Ev cX0_layBeam 4 none RX0 rmX0_layBeam
set_option maxRecDepth 20000 in
theorem mt_X0_layBeam (a0 : Nat) (p0 : Int32) (p1 : Bool) (σ : St) (Q : St → Prop) (o_a0 : kd a0 = 0) (hP : P_X0_layBeam a0 p0 p1 σ Q) : Mt yX0_layBeam cX0_layBeam 4 none rmX0_layBeam [.ref (a0), .int (p0), .int (bI p1)] σ (qV Q) := by
  refine Mt.of (k := 1) (ls := [.ref (a0), .int (p0), .int (bI p1), un]) (by decide +kernel) rfl (Nat.le_of_ble_eq_true rfl) ?_
  show eX0_layBeam 0 [.ref (a0), .int (p0), .int (bI p1), un] [] σ _
  unfold P_X0_layBeam at hP
  refine E_iconst (v := 1) dX0_layBeam_0 (by decide) ?_
  refine E_iload_n dX0_layBeam_1 rfl ?_
  refine E_ishl dX0_layBeam_2 ?_
  refine E_istore_n (ls' := [.ref (a0), .int (p0), .int (bI p1), .int (1 <<< (p0 &&& 31))]) dX0_layBeam_3 (by decide) rfl ?_
  refine E_aload_n dX0_layBeam_4 rfl ?_
  refine E_iload_n dX0_layBeam_5 rfl ?_
  refine E_ifz_eq 18 dX0_layBeam_6 (by decide) (fun hc => ?_) (fun hc => ?_)
  · replace hP := hP.1 hc
    refine E_aload_n dX0_layBeam_18 rfl ?_
    refine E_getI (j := 5) dX0_layBeam_19 o_a0 (by decide) rfl fd_RX0_27 ?_
    refine E_iload_n dX0_layBeam_22 rfl ?_
    refine E_iconst (v := (-1)) dX0_layBeam_23 (by decide) ?_
    refine E_ixor dX0_layBeam_24 ?_
    refine E_iand dX0_layBeam_25 ?_
    refine E_putI (j := 5) dX0_layBeam_26 o_a0 (by decide) rfl fd_RX0_27 fp_0_5 ?_
    exact E_vret dX0_layBeam_29 rfl ⟨rfl, hP⟩
  · replace hP := hP.2 hc
    refine E_aload_n dX0_layBeam_9 rfl ?_
    refine E_getI (j := 5) dX0_layBeam_10 o_a0 (by decide) rfl fd_RX0_27 ?_
    refine E_iload_n dX0_layBeam_13 rfl ?_
    refine E_ior dX0_layBeam_14 ?_
    refine E_goto 26 dX0_layBeam_15 (by decide) ?_
    refine E_putI (j := 5) dX0_layBeam_26 o_a0 (by decide) rfl fd_RX0_27 fp_0_5 ?_
    exact E_vret dX0_layBeam_29 rfl ⟨rfl, hP⟩
theorem dX0_tallOf_0 : decode cX0_tallOf 0 = .ok (.iload_n 1, 1) := by decide +kernel
theorem dX0_tallOf_1 : decode cX0_tallOf 1 = .ok (.iload_n 2, 1) := by decide +kernel
theorem dX0_tallOf_2 : decode cX0_tallOf 2 = .ok (.invokestatic 46, 3) := by decide +kernel
theorem dX0_tallOf_5 : decode cX0_tallOf 5 = .ok (.istore_n 3, 1) := by decide +kernel
theorem dX0_tallOf_6 : decode cX0_tallOf 6 = .ok (.iconst 1, 1) := by decide +kernel
theorem dX0_tallOf_7 : decode cX0_tallOf 7 = .ok (.aload_n 0, 1) := by decide +kernel
theorem dX0_tallOf_8 : decode cX0_tallOf 8 = .ok (.getfield 15, 3) := by decide +kernel
theorem dX0_tallOf_11 : decode cX0_tallOf 11 = .ok (.iload_n 3, 1) := by decide +kernel
theorem dX0_tallOf_12 : decode cX0_tallOf 12 = .ok (.iaload, 1) := by decide +kernel
theorem dX0_tallOf_13 : decode cX0_tallOf 13 = .ok (.aload_n 0, 1) := by decide +kernel
theorem dX0_tallOf_14 : decode cX0_tallOf 14 = .ok (.getfield 40, 3) := by decide +kernel
theorem dX0_tallOf_17 : decode cX0_tallOf 17 = .ok (.isub, 1) := by decide +kernel
theorem dX0_tallOf_18 : decode cX0_tallOf 18 = .ok (.invokestatic 59, 3) := by decide +kernel
theorem dX0_tallOf_21 : decode cX0_tallOf 21 = .ok (.istore 4, 2) := by decide +kernel
theorem dX0_tallOf_23 : decode cX0_tallOf 23 = .ok (.aload_n 0, 1) := by decide +kernel
theorem dX0_tallOf_24 : decode cX0_tallOf 24 = .ok (.getfield 9, 3) := by decide +kernel
theorem dX0_tallOf_27 : decode cX0_tallOf 27 = .ok (.iload_n 3, 1) := by decide +kernel
theorem dX0_tallOf_28 : decode cX0_tallOf 28 = .ok (.iaload, 1) := by decide +kernel
theorem dX0_tallOf_29 : decode cX0_tallOf 29 = .ok (.lookupswitch 35 #[(2, 27), (5, 30)], 27) := by decide +kernel
theorem dX0_tallOf_56 : decode cX0_tallOf 56 = .ok (.iload 4, 2) := by decide +kernel
theorem dX0_tallOf_58 : decode cX0_tallOf 58 = .ok (.ireturn, 1) := by decide +kernel
theorem dX0_tallOf_59 : decode cX0_tallOf 59 = .ok (.iload 4, 2) := by decide +kernel
theorem dX0_tallOf_61 : decode cX0_tallOf 61 = .ok (.iconst 2, 1) := by decide +kernel
theorem dX0_tallOf_62 : decode cX0_tallOf 62 = .ok (.idiv, 1) := by decide +kernel
theorem dX0_tallOf_63 : decode cX0_tallOf 63 = .ok (.ireturn, 1) := by decide +kernel
theorem dX0_tallOf_64 : decode cX0_tallOf 64 = .ok (.aload_n 0, 1) := by decide +kernel
theorem dX0_tallOf_65 : decode cX0_tallOf 65 = .ok (.getfield 15, 3) := by decide +kernel
theorem dX0_tallOf_68 : decode cX0_tallOf 68 = .ok (.iload_n 3, 1) := by decide +kernel
theorem dX0_tallOf_69 : decode cX0_tallOf 69 = .ok (.iaload, 1) := by decide +kernel
theorem dX0_tallOf_70 : decode cX0_tallOf 70 = .ok (.ireturn, 1) := by decide +kernel
def rmX0_tallOf : Room := { frames := 1, cells := 0, slots := 0, locals := 26 }
abbrev eX0_tallOf := Ev cX0_tallOf 5 (some .int) RX0 rmX0_tallOf
set_option maxRecDepth 20000 in
theorem mt_X0_tallOf (a0 : Nat) (p0 : Int32) (p1 : Int32) (σ : St) (Q : Int32 → Prop) (o_a0 : kd a0 = 0) (hP : P_X0_tallOf a0 p0 p1 σ Q) : Mt yX0_tallOf cX0_tallOf 5 (some .int) rmX0_tallOf [.ref (a0), .int (p0), .int (p1)] σ (qI fun x s => s = σ ∧ Q x) := by
  refine Mt.of (k := 2) (ls := [.ref (a0), .int (p0), .int (p1), un, un]) (by decide +kernel) rfl (Nat.le_of_ble_eq_true rfl) ?_
  show eX0_tallOf 0 [.ref (a0), .int (p0), .int (p1), un, un] [] σ _
  unfold P_X0_tallOf at hP
  refine E_iload_n dX0_tallOf_0 rfl ?_
  refine E_iload_n dX0_tallOf_1 rfl ?_
  refine E_callS (As := [.int (p0), .int (p1)]) (rest := []) dX0_tallOf_2 cl_RX0_46 tw_16 ⟨rfl, rfl, Nat.le_of_ble_eq_true rfl, Nat.le_of_ble_eq_true rfl⟩ rfl rfl (Nat.le_of_ble_eq_true rfl) (mt_X0_place _ _ _ _  hP) ?_
  intro r0 s0 hq0; obtain ⟨r2, h0, hs0, hP⟩ := hq0; subst h0; rw [hs0]
  show eX0_tallOf 5 [.ref (a0), .int (p0), .int (p1), un, un] [.int (r2)] σ _
  refine E_istore_n (ls' := [.ref (a0), .int (p0), .int (p1), .int (r2), un]) dX0_tallOf_5 (by decide) rfl ?_
  refine E_iconst (v := 1) dX0_tallOf_6 (by decide) ?_
  refine E_aload_n dX0_tallOf_7 rfl ?_
  refine E_getR (j := 1) dX0_tallOf_8 o_a0 (by decide) rfl fd_RX0_15 (by decide) ?_
  refine E_iload_n dX0_tallOf_11 rfl ?_
  obtain ⟨hb, hP⟩ := hP
  refine E_iald dX0_tallOf_12 (ar_0_2 o_a0).1 (ar_0_2 o_a0).2 hb ?_
  refine E_aload_n dX0_tallOf_13 rfl ?_
  refine E_getI (j := 7) dX0_tallOf_14 o_a0 (by decide) rfl fd_RX0_40 ?_
  refine E_isub dX0_tallOf_17 ?_
  refine E_max dX0_tallOf_18 tw_26 tw_27 tw_20 tw_28 ⟨Nat.le_of_ble_eq_true rfl, Nat.le_of_ble_eq_true rfl⟩ ?_
  refine E_istore (ls' := [.ref (a0), .int (p0), .int (p1), .int (r2), .int (mxI 1 ((gI σ (a0 + 2) r2.toNatClampNeg) - (gI σ a0 7)))]) dX0_tallOf_21 (by decide) rfl ?_
  refine E_aload_n dX0_tallOf_23 rfl ?_
  refine E_getR (j := 0) dX0_tallOf_24 o_a0 (by decide) rfl fd_RX0_9 (by decide) ?_
  refine E_iload_n dX0_tallOf_27 rfl ?_
  obtain ⟨hb, hP⟩ := hP
  refine E_iald dX0_tallOf_28 (ar_0_1 o_a0).1 (ar_0_1 o_a0).2 hb ?_
  refine E_lsw [(2, 56), (5, 59)] 64 dX0_tallOf_29 (by decide +kernel) (by decide) (by decide +kernel) (List.forall_mem_cons.mpr ⟨fun hc => ?_, (List.forall_mem_cons.mpr ⟨fun hc => ?_, (fun q hq => absurd hq List.not_mem_nil)⟩)⟩) (fun hc => ?_)
  · replace hP := hP.1 hc
    refine E_iload dX0_tallOf_56 rfl ?_
    exact E_iret dX0_tallOf_58 rfl ⟨_, rfl, rfl, hP⟩
  · replace hP := hP.2.1 hc
    refine E_iload dX0_tallOf_59 rfl ?_
    refine E_iconst (v := 2) dX0_tallOf_61 (by decide) ?_
    refine E_idiv dX0_tallOf_62 (by decide) ?_
    exact E_iret dX0_tallOf_63 rfl ⟨_, rfl, rfl, hP⟩
  · replace hP := hP.2.2 ⟨hc (2, 56) (List.mem_of_getElem? (i := 0) rfl), hc (5, 59) (List.mem_of_getElem? (i := 1) rfl)⟩
    refine E_aload_n dX0_tallOf_64 rfl ?_
    refine E_getR (j := 1) dX0_tallOf_65 o_a0 (by decide) rfl fd_RX0_15 (by decide) ?_
    refine E_iload_n dX0_tallOf_68 rfl ?_
    obtain ⟨hb, hP⟩ := hP
    refine E_iald dX0_tallOf_69 (ar_0_2 o_a0).1 (ar_0_2 o_a0).2 hb ?_
    exact E_iret dX0_tallOf_70 rfl ⟨_, rfl, rfl, hP⟩
theorem dX0_topOf_0 : decode cX0_topOf 0 = .ok (.aload_n 0, 1) := by decide +kernel
theorem dX0_topOf_1 : decode cX0_topOf 1 = .ok (.getfield 24, 3) := by decide +kernel
theorem dX0_topOf_4 : decode cX0_topOf 4 = .ok (.iload_n 1, 1) := by decide +kernel
theorem dX0_topOf_5 : decode cX0_topOf 5 = .ok (.iaload, 1) := by decide +kernel
theorem dX0_topOf_6 : decode cX0_topOf 6 = .ok (.istore_n 2, 1) := by decide +kernel
theorem dX0_topOf_7 : decode cX0_topOf 7 = .ok (.iconst 0, 1) := by decide +kernel
theorem dX0_topOf_8 : decode cX0_topOf 8 = .ok (.istore_n 3, 1) := by decide +kernel
theorem dX0_topOf_9 : decode cX0_topOf 9 = .ok (.iload_n 3, 1) := by decide +kernel
theorem dX0_topOf_10 : decode cX0_topOf 10 = .ok (.aload_n 0, 1) := by decide +kernel
theorem dX0_topOf_11 : decode cX0_topOf 11 = .ok (.getfield 21, 3) := by decide +kernel
theorem dX0_topOf_14 : decode cX0_topOf 14 = .ok (.iload_n 1, 1) := by decide +kernel
theorem dX0_topOf_15 : decode cX0_topOf 15 = .ok (.iaload, 1) := by decide +kernel
theorem dX0_topOf_16 : decode cX0_topOf 16 = .ok (.if_icmp .ge 18, 3) := by decide +kernel
theorem dX0_topOf_19 : decode cX0_topOf 19 = .ok (.iload_n 2, 1) := by decide +kernel
theorem dX0_topOf_20 : decode cX0_topOf 20 = .ok (.aload_n 0, 1) := by decide +kernel
theorem dX0_topOf_21 : decode cX0_topOf 21 = .ok (.iload_n 1, 1) := by decide +kernel
theorem dX0_topOf_22 : decode cX0_topOf 22 = .ok (.iload_n 3, 1) := by decide +kernel
theorem dX0_topOf_23 : decode cX0_topOf 23 = .ok (.invokevirtual 62, 3) := by decide +kernel
theorem dX0_topOf_26 : decode cX0_topOf 26 = .ok (.iadd, 1) := by decide +kernel
theorem dX0_topOf_27 : decode cX0_topOf 27 = .ok (.istore_n 2, 1) := by decide +kernel
theorem dX0_topOf_28 : decode cX0_topOf 28 = .ok (.iinc 3 1, 3) := by decide +kernel
theorem dX0_topOf_31 : decode cX0_topOf 31 = .ok (.goto (-22), 3) := by decide +kernel
theorem dX0_topOf_34 : decode cX0_topOf 34 = .ok (.iload_n 2, 1) := by decide +kernel
theorem dX0_topOf_35 : decode cX0_topOf 35 = .ok (.ireturn, 1) := by decide +kernel
def rmX0_topOf : Room := { frames := 2, cells := 0, slots := 0, locals := 50 }
abbrev eX0_topOf := Ev cX0_topOf 4 (some .int) RX0 rmX0_topOf
set_option maxRecDepth 20000 in
theorem ev_X0_topOf_l9 (l0 : Nat) (l1 : Int32) (o_l0 : kd (l0) = 0) (K : Int32 → St → Prop) (Q : Int32 → Prop) (σ0 : St) (hK : ∀ k2 s, K k2 s → s = σ0 → eX0_topOf 34 [un, un, .int (k2), un] [] s (qI fun x s => s = σ0 ∧ Q x)) : ∀ (n : Nat) (l2 : Int32) (l3 : Int32) (σ : St), σ = σ0 → P_X0_topOf_l9 l0 l1 K Q n l2 l3 σ → eX0_topOf 9 [.ref (l0), .int (l1), .int (l2), .int (l3)] [] σ (qI fun x s => s = σ0 ∧ Q x) := by
  intro n
  induction n with
  | zero => intro l2 l3 σ hs hP; exact hP.elim
  | succ n ih =>
    intro l2 l3 σ hs hP
    subst hs
    rw [P_X0_topOf_l9] at hP
    refine E_iload_n dX0_topOf_9 rfl ?_
    refine E_aload_n dX0_topOf_10 rfl ?_
    refine E_getR (j := 3) dX0_topOf_11 o_l0 (by decide) rfl fd_RX0_21 (by decide) ?_
    refine E_iload_n dX0_topOf_14 rfl ?_
    obtain ⟨hb, hP⟩ := hP
    refine E_iald dX0_topOf_15 (ar_0_4 o_l0).1 (ar_0_4 o_l0).2 hb ?_
    refine E_icmp_ge 34 dX0_topOf_16 (by decide) (fun hc => ?_) (fun hc => ?_)
    · replace hP := hP.1 hc
      refine E_mask [false, false, true, false] rfl ?_
      exact hK (l2) _ hP rfl
    · replace hP := hP.2 hc
      refine E_iload_n dX0_topOf_19 rfl ?_
      refine E_aload_n dX0_topOf_20 rfl ?_
      refine E_iload_n dX0_topOf_21 rfl ?_
      refine E_iload_n dX0_topOf_22 rfl ?_
      refine E_callV (As := [.int (l1), .int (l3)]) (rest := [.int (l2)]) dX0_topOf_23 cl_RX0_62 tw_31 o_l0 (by decide) rfl tw_32 ⟨rfl, rfl, Nat.le_of_ble_eq_true rfl, Nat.le_of_ble_eq_true rfl⟩ rfl rfl (Nat.le_of_ble_eq_true rfl) (mt_X0_tallOf _ _ _ _ _ o_l0 hP) ?_
      intro r0 s0 hq0; obtain ⟨r23, h0, hs0, hP⟩ := hq0; subst h0; rw [hs0]
      show eX0_topOf 26 [.ref (l0), .int (l1), .int (l2), .int (l3)] [.int (r23), .int (l2)] σ _
      refine E_iadd dX0_topOf_26 ?_
      refine E_istore_n (ls' := [.ref (l0), .int (l1), .int (l2 + r23), .int (l3)]) dX0_topOf_27 (by decide) rfl ?_
      refine E_iinc (ls' := [.ref (l0), .int (l1), .int (l2 + r23), .int (l3 + 1)]) dX0_topOf_28 rfl rfl (by decide) rfl ?_
      refine E_goto 9 dX0_topOf_31 (by decide) ?_
      exact ih (l2 + r23) (l3 + 1) _ rfl hP
set_option maxRecDepth 20000 in
theorem mt_X0_topOf (a0 : Nat) (p0 : Int32) (σ : St) (Q : Int32 → Prop) (o_a0 : kd a0 = 0) (hP : P_X0_topOf a0 p0 σ Q) : Mt yX0_topOf cX0_topOf 4 (some .int) rmX0_topOf [.ref (a0), .int (p0)] σ (qI fun x s => s = σ ∧ Q x) := by
  refine Mt.of (k := 2) (ls := [.ref (a0), .int (p0), un, un]) (by decide +kernel) rfl (Nat.le_of_ble_eq_true rfl) ?_
  show eX0_topOf 0 [.ref (a0), .int (p0), un, un] [] σ _
  unfold P_X0_topOf at hP
  refine E_aload_n dX0_topOf_0 rfl ?_
  refine E_getR (j := 4) dX0_topOf_1 o_a0 (by decide) rfl fd_RX0_24 (by decide) ?_
  refine E_iload_n dX0_topOf_4 rfl ?_
  obtain ⟨hb, hP⟩ := hP
  refine E_iald dX0_topOf_5 (ar_0_5 o_a0).1 (ar_0_5 o_a0).2 hb ?_
  refine E_istore_n (ls' := [.ref (a0), .int (p0), .int (gI σ (a0 + 5) p0.toNatClampNeg), un]) dX0_topOf_6 (by decide) rfl ?_
  refine E_iconst (v := 0) dX0_topOf_7 (by decide) ?_
  refine E_istore_n (ls' := [.ref (a0), .int (p0), .int (gI σ (a0 + 5) p0.toNatClampNeg), .int (0)]) dX0_topOf_8 (by decide) rfl ?_
  obtain ⟨m9, hP⟩ := hP
  refine ev_X0_topOf_l9 (a0) (p0) o_a0 _ Q σ ?_ m9 _ _ _ rfl hP
  intro k2 t34 hP hs
  rw [hs]
  refine E_iload_n dX0_topOf_34 rfl ?_
  exact E_iret dX0_topOf_35 rfl ⟨_, rfl, rfl, hP⟩
theorem dX0_coinsOf_0 : decode cX0_coinsOf 0 = .ok (.iconst 0, 1) := by decide +kernel
theorem dX0_coinsOf_1 : decode cX0_coinsOf 1 = .ok (.istore_n 2, 1) := by decide +kernel
theorem dX0_coinsOf_2 : decode cX0_coinsOf 2 = .ok (.iconst 0, 1) := by decide +kernel
theorem dX0_coinsOf_3 : decode cX0_coinsOf 3 = .ok (.istore_n 3, 1) := by decide +kernel
theorem dX0_coinsOf_4 : decode cX0_coinsOf 4 = .ok (.iload_n 3, 1) := by decide +kernel
theorem dX0_coinsOf_5 : decode cX0_coinsOf 5 = .ok (.aload_n 0, 1) := by decide +kernel
theorem dX0_coinsOf_6 : decode cX0_coinsOf 6 = .ok (.getfield 21, 3) := by decide +kernel
theorem dX0_coinsOf_9 : decode cX0_coinsOf 9 = .ok (.iload_n 1, 1) := by decide +kernel
theorem dX0_coinsOf_10 : decode cX0_coinsOf 10 = .ok (.iaload, 1) := by decide +kernel
theorem dX0_coinsOf_11 : decode cX0_coinsOf 11 = .ok (.if_icmp .ge 18, 3) := by decide +kernel
theorem dX0_coinsOf_14 : decode cX0_coinsOf 14 = .ok (.iload_n 2, 1) := by decide +kernel
theorem dX0_coinsOf_15 : decode cX0_coinsOf 15 = .ok (.aload_n 0, 1) := by decide +kernel
theorem dX0_coinsOf_16 : decode cX0_coinsOf 16 = .ok (.iload_n 1, 1) := by decide +kernel
theorem dX0_coinsOf_17 : decode cX0_coinsOf 17 = .ok (.iload_n 3, 1) := by decide +kernel
theorem dX0_coinsOf_18 : decode cX0_coinsOf 18 = .ok (.invokevirtual 51, 3) := by decide +kernel
theorem dX0_coinsOf_21 : decode cX0_coinsOf 21 = .ok (.iadd, 1) := by decide +kernel
theorem dX0_coinsOf_22 : decode cX0_coinsOf 22 = .ok (.istore_n 2, 1) := by decide +kernel
theorem dX0_coinsOf_23 : decode cX0_coinsOf 23 = .ok (.iinc 3 1, 3) := by decide +kernel
theorem dX0_coinsOf_26 : decode cX0_coinsOf 26 = .ok (.goto (-22), 3) := by decide +kernel
theorem dX0_coinsOf_29 : decode cX0_coinsOf 29 = .ok (.iload_n 2, 1) := by decide +kernel
theorem dX0_coinsOf_30 : decode cX0_coinsOf 30 = .ok (.ireturn, 1) := by decide +kernel
def rmX0_coinsOf : Room := { frames := 2, cells := 0, slots := 0, locals := 44 }
abbrev eX0_coinsOf := Ev cX0_coinsOf 4 (some .int) RX0 rmX0_coinsOf
set_option maxRecDepth 20000 in
theorem ev_X0_coinsOf_l4 (l0 : Nat) (l1 : Int32) (o_l0 : kd (l0) = 0) (K : Int32 → St → Prop) (Q : Int32 → Prop) (σ0 : St) (hK : ∀ k2 s, K k2 s → s = σ0 → eX0_coinsOf 29 [un, un, .int (k2), un] [] s (qI fun x s => s = σ0 ∧ Q x)) : ∀ (n : Nat) (l2 : Int32) (l3 : Int32) (σ : St), σ = σ0 → P_X0_coinsOf_l4 l0 l1 K Q n l2 l3 σ → eX0_coinsOf 4 [.ref (l0), .int (l1), .int (l2), .int (l3)] [] σ (qI fun x s => s = σ0 ∧ Q x) := by
  intro n
  induction n with
  | zero => intro l2 l3 σ hs hP; exact hP.elim
  | succ n ih =>
    intro l2 l3 σ hs hP
    subst hs
    rw [P_X0_coinsOf_l4] at hP
    refine E_iload_n dX0_coinsOf_4 rfl ?_
    refine E_aload_n dX0_coinsOf_5 rfl ?_
    refine E_getR (j := 3) dX0_coinsOf_6 o_l0 (by decide) rfl fd_RX0_21 (by decide) ?_
    refine E_iload_n dX0_coinsOf_9 rfl ?_
    obtain ⟨hb, hP⟩ := hP
    refine E_iald dX0_coinsOf_10 (ar_0_4 o_l0).1 (ar_0_4 o_l0).2 hb ?_
    refine E_icmp_ge 29 dX0_coinsOf_11 (by decide) (fun hc => ?_) (fun hc => ?_)
    · replace hP := hP.1 hc
      refine E_mask [false, false, true, false] rfl ?_
      exact hK (l2) _ hP rfl
    · replace hP := hP.2 hc
      refine E_iload_n dX0_coinsOf_14 rfl ?_
      refine E_aload_n dX0_coinsOf_15 rfl ?_
      refine E_iload_n dX0_coinsOf_16 rfl ?_
      refine E_iload_n dX0_coinsOf_17 rfl ?_
      refine E_callV (As := [.int (l1), .int (l3)]) (rest := [.int (l2)]) dX0_coinsOf_18 cl_RX0_51 tw_24 o_l0 (by decide) rfl tw_25 ⟨rfl, rfl, Nat.le_of_ble_eq_true rfl, Nat.le_of_ble_eq_true rfl⟩ rfl rfl (Nat.le_of_ble_eq_true rfl) (mt_X0_coinOf _ _ _ _ _ o_l0 hP) ?_
      intro r0 s0 hq0; obtain ⟨r18, h0, hs0, hP⟩ := hq0; subst h0; rw [hs0]
      show eX0_coinsOf 21 [.ref (l0), .int (l1), .int (l2), .int (l3)] [.int (r18), .int (l2)] σ _
      refine E_iadd dX0_coinsOf_21 ?_
      refine E_istore_n (ls' := [.ref (l0), .int (l1), .int (l2 + r18), .int (l3)]) dX0_coinsOf_22 (by decide) rfl ?_
      refine E_iinc (ls' := [.ref (l0), .int (l1), .int (l2 + r18), .int (l3 + 1)]) dX0_coinsOf_23 rfl rfl (by decide) rfl ?_
      refine E_goto 4 dX0_coinsOf_26 (by decide) ?_
      exact ih (l2 + r18) (l3 + 1) _ rfl hP
set_option maxRecDepth 20000 in
theorem mt_X0_coinsOf (a0 : Nat) (p0 : Int32) (σ : St) (Q : Int32 → Prop) (o_a0 : kd a0 = 0) (hP : P_X0_coinsOf a0 p0 σ Q) : Mt yX0_coinsOf cX0_coinsOf 4 (some .int) rmX0_coinsOf [.ref (a0), .int (p0)] σ (qI fun x s => s = σ ∧ Q x) := by
  refine Mt.of (k := 2) (ls := [.ref (a0), .int (p0), un, un]) (by decide +kernel) rfl (Nat.le_of_ble_eq_true rfl) ?_
  show eX0_coinsOf 0 [.ref (a0), .int (p0), un, un] [] σ _
  unfold P_X0_coinsOf at hP
  refine E_iconst (v := 0) dX0_coinsOf_0 (by decide) ?_
  refine E_istore_n (ls' := [.ref (a0), .int (p0), .int (0), un]) dX0_coinsOf_1 (by decide) rfl ?_
  refine E_iconst (v := 0) dX0_coinsOf_2 (by decide) ?_
  refine E_istore_n (ls' := [.ref (a0), .int (p0), .int (0), .int (0)]) dX0_coinsOf_3 (by decide) rfl ?_
  obtain ⟨m4, hP⟩ := hP
  refine ev_X0_coinsOf_l4 (a0) (p0) o_a0 _ Q σ ?_ m4 _ _ _ rfl hP
  intro k2 t29 hP hs
  rw [hs]
  refine E_iload_n dX0_coinsOf_29 rfl ?_
  exact E_iret dX0_coinsOf_30 rfl ⟨_, rfl, rfl, hP⟩
theorem dX0_allTops_0 : decode cX0_allTops 0 = .ok (.iconst 0, 1) := by decide +kernel
theorem dX0_allTops_1 : decode cX0_allTops 1 = .ok (.istore_n 1, 1) := by decide +kernel
theorem dX0_allTops_2 : decode cX0_allTops 2 = .ok (.iconst 0, 1) := by decide +kernel
theorem dX0_allTops_3 : decode cX0_allTops 3 = .ok (.istore_n 2, 1) := by decide +kernel
theorem dX0_allTops_4 : decode cX0_allTops 4 = .ok (.iload_n 2, 1) := by decide +kernel
theorem dX0_allTops_5 : decode cX0_allTops 5 = .ok (.iconst 4, 1) := by decide +kernel
theorem dX0_allTops_6 : decode cX0_allTops 6 = .ok (.if_icmp .ge 17, 3) := by decide +kernel
theorem dX0_allTops_9 : decode cX0_allTops 9 = .ok (.iload_n 1, 1) := by decide +kernel
theorem dX0_allTops_10 : decode cX0_allTops 10 = .ok (.aload_n 0, 1) := by decide +kernel
theorem dX0_allTops_11 : decode cX0_allTops 11 = .ok (.iload_n 2, 1) := by decide +kernel
theorem dX0_allTops_12 : decode cX0_allTops 12 = .ok (.invokevirtual 65, 3) := by decide +kernel
theorem dX0_allTops_15 : decode cX0_allTops 15 = .ok (.iadd, 1) := by decide +kernel
theorem dX0_allTops_16 : decode cX0_allTops 16 = .ok (.istore_n 1, 1) := by decide +kernel
theorem dX0_allTops_17 : decode cX0_allTops 17 = .ok (.iinc 2 1, 3) := by decide +kernel
theorem dX0_allTops_20 : decode cX0_allTops 20 = .ok (.goto (-16), 3) := by decide +kernel
theorem dX0_allTops_23 : decode cX0_allTops 23 = .ok (.iload_n 1, 1) := by decide +kernel
theorem dX0_allTops_24 : decode cX0_allTops 24 = .ok (.ireturn, 1) := by decide +kernel
def rmX0_allTops : Room := { frames := 3, cells := 0, slots := 0, locals := 73 }
abbrev eX0_allTops := Ev cX0_allTops 3 (some .int) RX0 rmX0_allTops
set_option maxRecDepth 20000 in
theorem ev_X0_allTops_l4 (l0 : Nat) (o_l0 : kd (l0) = 0) (K : Int32 → St → Prop) (Q : Int32 → Prop) (σ0 : St) (hK : ∀ k1 s, K k1 s → s = σ0 → eX0_allTops 23 [un, .int (k1), un] [] s (qI fun x s => s = σ0 ∧ Q x)) : ∀ (n : Nat) (l1 : Int32) (l2 : Int32) (σ : St), σ = σ0 → P_X0_allTops_l4 l0 K Q n l1 l2 σ → eX0_allTops 4 [.ref (l0), .int (l1), .int (l2)] [] σ (qI fun x s => s = σ0 ∧ Q x) := by
  intro n
  induction n with
  | zero => intro l1 l2 σ hs hP; exact hP.elim
  | succ n ih =>
    intro l1 l2 σ hs hP
    subst hs
    rw [P_X0_allTops_l4] at hP
    refine E_iload_n dX0_allTops_4 rfl ?_
    refine E_iconst (v := 4) dX0_allTops_5 (by decide) ?_
    refine E_icmp_ge 23 dX0_allTops_6 (by decide) (fun hc => ?_) (fun hc => ?_)
    · replace hP := hP.1 hc
      refine E_mask [false, true, false] rfl ?_
      exact hK (l1) _ hP rfl
    · replace hP := hP.2 hc
      refine E_iload_n dX0_allTops_9 rfl ?_
      refine E_aload_n dX0_allTops_10 rfl ?_
      refine E_iload_n dX0_allTops_11 rfl ?_
      refine E_callV (As := [.int (l2)]) (rest := [.int (l1)]) dX0_allTops_12 cl_RX0_65 tw_35 o_l0 (by decide) rfl tw_36 ⟨rfl, rfl, Nat.le_of_ble_eq_true rfl, Nat.le_of_ble_eq_true rfl⟩ rfl rfl (Nat.le_of_ble_eq_true rfl) (mt_X0_topOf _ _ _ _ o_l0 hP) ?_
      intro r0 s0 hq0; obtain ⟨r12, h0, hs0, hP⟩ := hq0; subst h0; rw [hs0]
      show eX0_allTops 15 [.ref (l0), .int (l1), .int (l2)] [.int (r12), .int (l1)] σ _
      refine E_iadd dX0_allTops_15 ?_
      refine E_istore_n (ls' := [.ref (l0), .int (l1 + r12), .int (l2)]) dX0_allTops_16 (by decide) rfl ?_
      refine E_iinc (ls' := [.ref (l0), .int (l1 + r12), .int (l2 + 1)]) dX0_allTops_17 rfl rfl (by decide) rfl ?_
      refine E_goto 4 dX0_allTops_20 (by decide) ?_
      exact ih (l1 + r12) (l2 + 1) _ rfl hP
set_option maxRecDepth 20000 in
theorem mt_X0_allTops (a0 : Nat) (σ : St) (Q : Int32 → Prop) (o_a0 : kd a0 = 0) (hP : P_X0_allTops a0 σ Q) : Mt yX0_allTops cX0_allTops 3 (some .int) rmX0_allTops [.ref (a0)] σ (qI fun x s => s = σ ∧ Q x) := by
  refine Mt.of (k := 2) (ls := [.ref (a0), un, un]) (by decide +kernel) rfl (Nat.le_of_ble_eq_true rfl) ?_
  show eX0_allTops 0 [.ref (a0), un, un] [] σ _
  unfold P_X0_allTops at hP
  refine E_iconst (v := 0) dX0_allTops_0 (by decide) ?_
  refine E_istore_n (ls' := [.ref (a0), .int (0), un]) dX0_allTops_1 (by decide) rfl ?_
  refine E_iconst (v := 0) dX0_allTops_2 (by decide) ?_
  refine E_istore_n (ls' := [.ref (a0), .int (0), .int (0)]) dX0_allTops_3 (by decide) rfl ?_
  obtain ⟨m4, hP⟩ := hP
  refine ev_X0_allTops_l4 (a0) o_a0 _ Q σ ?_ m4 _ _ _ rfl hP
  intro k1 t23 hP hs
  rw [hs]
  refine E_iload_n dX0_allTops_23 rfl ?_
  exact E_iret dX0_allTops_24 rfl ⟨_, rfl, rfl, hP⟩
theorem dX0_allCoins_0 : decode cX0_allCoins 0 = .ok (.iconst 0, 1) := by decide +kernel
theorem dX0_allCoins_1 : decode cX0_allCoins 1 = .ok (.istore_n 1, 1) := by decide +kernel
theorem dX0_allCoins_2 : decode cX0_allCoins 2 = .ok (.iconst 0, 1) := by decide +kernel
theorem dX0_allCoins_3 : decode cX0_allCoins 3 = .ok (.istore_n 2, 1) := by decide +kernel
theorem dX0_allCoins_4 : decode cX0_allCoins 4 = .ok (.iload_n 2, 1) := by decide +kernel
theorem dX0_allCoins_5 : decode cX0_allCoins 5 = .ok (.iconst 4, 1) := by decide +kernel
theorem dX0_allCoins_6 : decode cX0_allCoins 6 = .ok (.if_icmp .ge 17, 3) := by decide +kernel
theorem dX0_allCoins_9 : decode cX0_allCoins 9 = .ok (.iload_n 1, 1) := by decide +kernel
theorem dX0_allCoins_10 : decode cX0_allCoins 10 = .ok (.aload_n 0, 1) := by decide +kernel
theorem dX0_allCoins_11 : decode cX0_allCoins 11 = .ok (.iload_n 2, 1) := by decide +kernel
theorem dX0_allCoins_12 : decode cX0_allCoins 12 = .ok (.invokevirtual 69, 3) := by decide +kernel
theorem dX0_allCoins_15 : decode cX0_allCoins 15 = .ok (.iadd, 1) := by decide +kernel
theorem dX0_allCoins_16 : decode cX0_allCoins 16 = .ok (.istore_n 1, 1) := by decide +kernel
theorem dX0_allCoins_17 : decode cX0_allCoins 17 = .ok (.iinc 2 1, 3) := by decide +kernel
theorem dX0_allCoins_20 : decode cX0_allCoins 20 = .ok (.goto (-16), 3) := by decide +kernel
theorem dX0_allCoins_23 : decode cX0_allCoins 23 = .ok (.iload_n 1, 1) := by decide +kernel
theorem dX0_allCoins_24 : decode cX0_allCoins 24 = .ok (.ireturn, 1) := by decide +kernel
def rmX0_allCoins : Room := { frames := 3, cells := 0, slots := 0, locals := 67 }
abbrev eX0_allCoins := Ev cX0_allCoins 3 (some .int) RX0 rmX0_allCoins
set_option maxRecDepth 20000 in
theorem ev_X0_allCoins_l4 (l0 : Nat) (o_l0 : kd (l0) = 0) (K : Int32 → St → Prop) (Q : Int32 → Prop) (σ0 : St) (hK : ∀ k1 s, K k1 s → s = σ0 → eX0_allCoins 23 [un, .int (k1), un] [] s (qI fun x s => s = σ0 ∧ Q x)) : ∀ (n : Nat) (l1 : Int32) (l2 : Int32) (σ : St), σ = σ0 → P_X0_allCoins_l4 l0 K Q n l1 l2 σ → eX0_allCoins 4 [.ref (l0), .int (l1), .int (l2)] [] σ (qI fun x s => s = σ0 ∧ Q x) := by
  intro n
  induction n with
  | zero => intro l1 l2 σ hs hP; exact hP.elim
  | succ n ih =>
    intro l1 l2 σ hs hP
    subst hs
    rw [P_X0_allCoins_l4] at hP
    refine E_iload_n dX0_allCoins_4 rfl ?_
    refine E_iconst (v := 4) dX0_allCoins_5 (by decide) ?_
    refine E_icmp_ge 23 dX0_allCoins_6 (by decide) (fun hc => ?_) (fun hc => ?_)
    · replace hP := hP.1 hc
      refine E_mask [false, true, false] rfl ?_
      exact hK (l1) _ hP rfl
    · replace hP := hP.2 hc
      refine E_iload_n dX0_allCoins_9 rfl ?_
      refine E_aload_n dX0_allCoins_10 rfl ?_
      refine E_iload_n dX0_allCoins_11 rfl ?_
      refine E_callV (As := [.int (l2)]) (rest := [.int (l1)]) dX0_allCoins_12 cl_RX0_69 tw_39 o_l0 (by decide) rfl tw_40 ⟨rfl, rfl, Nat.le_of_ble_eq_true rfl, Nat.le_of_ble_eq_true rfl⟩ rfl rfl (Nat.le_of_ble_eq_true rfl) (mt_X0_coinsOf _ _ _ _ o_l0 hP) ?_
      intro r0 s0 hq0; obtain ⟨r12, h0, hs0, hP⟩ := hq0; subst h0; rw [hs0]
      show eX0_allCoins 15 [.ref (l0), .int (l1), .int (l2)] [.int (r12), .int (l1)] σ _
      refine E_iadd dX0_allCoins_15 ?_
      refine E_istore_n (ls' := [.ref (l0), .int (l1 + r12), .int (l2)]) dX0_allCoins_16 (by decide) rfl ?_
      refine E_iinc (ls' := [.ref (l0), .int (l1 + r12), .int (l2 + 1)]) dX0_allCoins_17 rfl rfl (by decide) rfl ?_
      refine E_goto 4 dX0_allCoins_20 (by decide) ?_
      exact ih (l1 + r12) (l2 + 1) _ rfl hP
set_option maxRecDepth 20000 in
theorem mt_X0_allCoins (a0 : Nat) (σ : St) (Q : Int32 → Prop) (o_a0 : kd a0 = 0) (hP : P_X0_allCoins a0 σ Q) : Mt yX0_allCoins cX0_allCoins 3 (some .int) rmX0_allCoins [.ref (a0)] σ (qI fun x s => s = σ ∧ Q x) := by
  refine Mt.of (k := 2) (ls := [.ref (a0), un, un]) (by decide +kernel) rfl (Nat.le_of_ble_eq_true rfl) ?_
  show eX0_allCoins 0 [.ref (a0), un, un] [] σ _
  unfold P_X0_allCoins at hP
  refine E_iconst (v := 0) dX0_allCoins_0 (by decide) ?_
  refine E_istore_n (ls' := [.ref (a0), .int (0), un]) dX0_allCoins_1 (by decide) rfl ?_
  refine E_iconst (v := 0) dX0_allCoins_2 (by decide) ?_
  refine E_istore_n (ls' := [.ref (a0), .int (0), .int (0)]) dX0_allCoins_3 (by decide) rfl ?_
  obtain ⟨m4, hP⟩ := hP
  refine ev_X0_allCoins_l4 (a0) o_a0 _ Q σ ?_ m4 _ _ _ rfl hP
  intro k1 t23 hP hs
  rw [hs]
  refine E_iload_n dX0_allCoins_23 rfl ?_
  exact E_iret dX0_allCoins_24 rfl ⟨_, rfl, rfl, hP⟩
theorem dX3_unit_0 : decode cX3_unit 0 = .ok (.iconst 1, 1) := by decide +kernel
theorem dX3_unit_1 : decode cX3_unit 1 = .ok (.iconst 3, 1) := by decide +kernel
theorem dX3_unit_2 : decode cX3_unit 2 = .ok (.iload_n 0, 1) := by decide +kernel
theorem dX3_unit_3 : decode cX3_unit 3 = .ok (.imul, 1) := by decide +kernel
theorem dX3_unit_4 : decode cX3_unit 4 = .ok (.ishl, 1) := by decide +kernel
theorem dX3_unit_5 : decode cX3_unit 5 = .ok (.ireturn, 1) := by decide +kernel
def rmX3_unit : Room := { frames := 0, cells := 0, slots := 0, locals := 0 }
abbrev eX3_unit := Ev cX3_unit 1 (some .int) RX3 rmX3_unit
set_option maxRecDepth 20000 in
theorem mt_X3_unit (p0 : Int32) (σ : St) (Q : Int32 → Prop)  (hP : P_X3_unit p0 σ Q) : Mt yX3_unit cX3_unit 1 (some .int) rmX3_unit [.int (p0)] σ (qI fun x s => s = σ ∧ Q x) := by
  refine Mt.of (k := 0) (ls := [.int (p0)]) (by decide +kernel) rfl (Nat.le_of_ble_eq_true rfl) ?_
  show eX3_unit 0 [.int (p0)] [] σ _
  unfold P_X3_unit at hP
  refine E_iconst (v := 1) dX3_unit_0 (by decide) ?_
  refine E_iconst (v := 3) dX3_unit_1 (by decide) ?_
  refine E_iload_n dX3_unit_2 rfl ?_
  refine E_imul dX3_unit_3 ?_
  refine E_ishl dX3_unit_4 ?_
  exact E_iret dX3_unit_5 rfl ⟨_, rfl, rfl, hP⟩
theorem dX0_standNow_0 : decode cX0_standNow 0 = .ok (.iconst 0, 1) := by decide +kernel
theorem dX0_standNow_1 : decode cX0_standNow 1 = .ok (.istore_n 1, 1) := by decide +kernel
theorem dX0_standNow_2 : decode cX0_standNow 2 = .ok (.iconst 0, 1) := by decide +kernel
theorem dX0_standNow_3 : decode cX0_standNow 3 = .ok (.istore_n 2, 1) := by decide +kernel
theorem dX0_standNow_4 : decode cX0_standNow 4 = .ok (.iload_n 2, 1) := by decide +kernel
theorem dX0_standNow_5 : decode cX0_standNow 5 = .ok (.iconst 4, 1) := by decide +kernel
theorem dX0_standNow_6 : decode cX0_standNow 6 = .ok (.if_icmp .ge 23, 3) := by decide +kernel
theorem dX0_standNow_9 : decode cX0_standNow 9 = .ok (.iload_n 1, 1) := by decide +kernel
theorem dX0_standNow_10 : decode cX0_standNow 10 = .ok (.aload_n 0, 1) := by decide +kernel
theorem dX0_standNow_11 : decode cX0_standNow 11 = .ok (.getfield 21, 3) := by decide +kernel
theorem dX0_standNow_14 : decode cX0_standNow 14 = .ok (.iload_n 2, 1) := by decide +kernel
theorem dX0_standNow_15 : decode cX0_standNow 15 = .ok (.iaload, 1) := by decide +kernel
theorem dX0_standNow_16 : decode cX0_standNow 16 = .ok (.iload_n 2, 1) := by decide +kernel
theorem dX0_standNow_17 : decode cX0_standNow 17 = .ok (.invokestatic 81, 3) := by decide +kernel
theorem dX0_standNow_20 : decode cX0_standNow 20 = .ok (.imul, 1) := by decide +kernel
theorem dX0_standNow_21 : decode cX0_standNow 21 = .ok (.iadd, 1) := by decide +kernel
theorem dX0_standNow_22 : decode cX0_standNow 22 = .ok (.istore_n 1, 1) := by decide +kernel
theorem dX0_standNow_23 : decode cX0_standNow 23 = .ok (.iinc 2 1, 3) := by decide +kernel
theorem dX0_standNow_26 : decode cX0_standNow 26 = .ok (.goto (-22), 3) := by decide +kernel
theorem dX0_standNow_29 : decode cX0_standNow 29 = .ok (.iload_n 1, 1) := by decide +kernel
theorem dX0_standNow_30 : decode cX0_standNow 30 = .ok (.ireturn, 1) := by decide +kernel
def rmX0_standNow : Room := { frames := 1, cells := 0, slots := 0, locals := 20 }
abbrev eX0_standNow := Ev cX0_standNow 3 (some .int) RX0 rmX0_standNow
set_option maxRecDepth 20000 in
theorem ev_X0_standNow_l4 (l0 : Nat) (o_l0 : kd (l0) = 0) (K : Int32 → St → Prop) (Q : Int32 → Prop) (σ0 : St) (hK : ∀ k1 s, K k1 s → s = σ0 → eX0_standNow 29 [un, .int (k1), un] [] s (qI fun x s => s = σ0 ∧ Q x)) : ∀ (n : Nat) (l1 : Int32) (l2 : Int32) (σ : St), σ = σ0 → P_X0_standNow_l4 l0 K Q n l1 l2 σ → eX0_standNow 4 [.ref (l0), .int (l1), .int (l2)] [] σ (qI fun x s => s = σ0 ∧ Q x) := by
  intro n
  induction n with
  | zero => intro l1 l2 σ hs hP; exact hP.elim
  | succ n ih =>
    intro l1 l2 σ hs hP
    subst hs
    rw [P_X0_standNow_l4] at hP
    refine E_iload_n dX0_standNow_4 rfl ?_
    refine E_iconst (v := 4) dX0_standNow_5 (by decide) ?_
    refine E_icmp_ge 29 dX0_standNow_6 (by decide) (fun hc => ?_) (fun hc => ?_)
    · replace hP := hP.1 hc
      refine E_mask [false, true, false] rfl ?_
      exact hK (l1) _ hP rfl
    · replace hP := hP.2 hc
      refine E_iload_n dX0_standNow_9 rfl ?_
      refine E_aload_n dX0_standNow_10 rfl ?_
      refine E_getR (j := 3) dX0_standNow_11 o_l0 (by decide) rfl fd_RX0_21 (by decide) ?_
      refine E_iload_n dX0_standNow_14 rfl ?_
      obtain ⟨hb, hP⟩ := hP
      refine E_iald dX0_standNow_15 (ar_0_4 o_l0).1 (ar_0_4 o_l0).2 hb ?_
      refine E_iload_n dX0_standNow_16 rfl ?_
      refine E_callS (As := [.int (l2)]) (rest := [.int (gI σ (l0 + 4) l2.toNatClampNeg), .int (l1)]) dX0_standNow_17 cl_RX0_81 tw_44 ⟨rfl, rfl, Nat.le_of_ble_eq_true rfl, Nat.le_of_ble_eq_true rfl⟩ rfl rfl (Nat.le_of_ble_eq_true rfl) (mt_X3_unit _ _ _  hP) ?_
      intro r0 s0 hq0; obtain ⟨r17, h0, hs0, hP⟩ := hq0; subst h0; rw [hs0]
      show eX0_standNow 20 [.ref (l0), .int (l1), .int (l2)] [.int (r17), .int (gI σ (l0 + 4) l2.toNatClampNeg), .int (l1)] σ _
      refine E_imul dX0_standNow_20 ?_
      refine E_iadd dX0_standNow_21 ?_
      refine E_istore_n (ls' := [.ref (l0), .int (l1 + ((gI σ (l0 + 4) l2.toNatClampNeg) * r17)), .int (l2)]) dX0_standNow_22 (by decide) rfl ?_
      refine E_iinc (ls' := [.ref (l0), .int (l1 + ((gI σ (l0 + 4) l2.toNatClampNeg) * r17)), .int (l2 + 1)]) dX0_standNow_23 rfl rfl (by decide) rfl ?_
      refine E_goto 4 dX0_standNow_26 (by decide) ?_
      exact ih (l1 + ((gI σ (l0 + 4) l2.toNatClampNeg) * r17)) (l2 + 1) _ rfl hP
set_option maxRecDepth 20000 in
theorem mt_X0_standNow (a0 : Nat) (σ : St) (Q : Int32 → Prop) (o_a0 : kd a0 = 0) (hP : P_X0_standNow a0 σ Q) : Mt yX0_standNow cX0_standNow 3 (some .int) rmX0_standNow [.ref (a0)] σ (qI fun x s => s = σ ∧ Q x) := by
  refine Mt.of (k := 2) (ls := [.ref (a0), un, un]) (by decide +kernel) rfl (Nat.le_of_ble_eq_true rfl) ?_
  show eX0_standNow 0 [.ref (a0), un, un] [] σ _
  unfold P_X0_standNow at hP
  refine E_iconst (v := 0) dX0_standNow_0 (by decide) ?_
  refine E_istore_n (ls' := [.ref (a0), .int (0), un]) dX0_standNow_1 (by decide) rfl ?_
  refine E_iconst (v := 0) dX0_standNow_2 (by decide) ?_
  refine E_istore_n (ls' := [.ref (a0), .int (0), .int (0)]) dX0_standNow_3 (by decide) rfl ?_
  obtain ⟨m4, hP⟩ := hP
  refine ev_X0_standNow_l4 (a0) o_a0 _ Q σ ?_ m4 _ _ _ rfl hP
  intro k1 t29 hP hs
  rw [hs]
  refine E_iload_n dX0_standNow_29 rfl ?_
  exact E_iret dX0_standNow_30 rfl ⟨_, rfl, rfl, hP⟩
theorem dX3_leftAt_0 : decode cX3_leftAt 0 = .ok (.iload_n 0, 1) := by decide +kernel
theorem dX3_leftAt_1 : decode cX3_leftAt 1 = .ok (.iconst 3, 1) := by decide +kernel
theorem dX3_leftAt_2 : decode cX3_leftAt 2 = .ok (.iload_n 1, 1) := by decide +kernel
theorem dX3_leftAt_3 : decode cX3_leftAt 3 = .ok (.imul, 1) := by decide +kernel
theorem dX3_leftAt_4 : decode cX3_leftAt 4 = .ok (.ishr, 1) := by decide +kernel
theorem dX3_leftAt_5 : decode cX3_leftAt 5 = .ok (.bipush 7, 2) := by decide +kernel
theorem dX3_leftAt_7 : decode cX3_leftAt 7 = .ok (.iand, 1) := by decide +kernel
theorem dX3_leftAt_8 : decode cX3_leftAt 8 = .ok (.ireturn, 1) := by decide +kernel
def rmX3_leftAt : Room := { frames := 0, cells := 0, slots := 0, locals := 0 }
abbrev eX3_leftAt := Ev cX3_leftAt 2 (some .int) RX3 rmX3_leftAt
set_option maxRecDepth 20000 in
theorem mt_X3_leftAt (p0 : Int32) (p1 : Int32) (σ : St) (Q : Int32 → Prop)  (hP : P_X3_leftAt p0 p1 σ Q) : Mt yX3_leftAt cX3_leftAt 2 (some .int) rmX3_leftAt [.int (p0), .int (p1)] σ (qI fun x s => s = σ ∧ Q x) := by
  refine Mt.of (k := 0) (ls := [.int (p0), .int (p1)]) (by decide +kernel) rfl (Nat.le_of_ble_eq_true rfl) ?_
  show eX3_leftAt 0 [.int (p0), .int (p1)] [] σ _
  unfold P_X3_leftAt at hP
  refine E_iload_n dX3_leftAt_0 rfl ?_
  refine E_iconst (v := 3) dX3_leftAt_1 (by decide) ?_
  refine E_iload_n dX3_leftAt_2 rfl ?_
  refine E_imul dX3_leftAt_3 ?_
  refine E_ishr dX3_leftAt_4 ?_
  refine E_bipush (v := 7) dX3_leftAt_5 (by decide) ?_
  refine E_iand dX3_leftAt_7 ?_
  exact E_iret dX3_leftAt_8 rfl ⟨_, rfl, rfl, hP⟩
theorem dX3_stonesAt_0 : decode cX3_stonesAt 0 = .ok (.iload_n 0, 1) := by decide +kernel
theorem dX3_stonesAt_1 : decode cX3_stonesAt 1 = .ok (.iconst 0, 1) := by decide +kernel
theorem dX3_stonesAt_2 : decode cX3_stonesAt 2 = .ok (.invokestatic 21, 3) := by decide +kernel
theorem dX3_stonesAt_5 : decode cX3_stonesAt 5 = .ok (.iload_n 0, 1) := by decide +kernel
theorem dX3_stonesAt_6 : decode cX3_stonesAt 6 = .ok (.iconst 1, 1) := by decide +kernel
theorem dX3_stonesAt_7 : decode cX3_stonesAt 7 = .ok (.invokestatic 21, 3) := by decide +kernel
theorem dX3_stonesAt_10 : decode cX3_stonesAt 10 = .ok (.iadd, 1) := by decide +kernel
theorem dX3_stonesAt_11 : decode cX3_stonesAt 11 = .ok (.iload_n 0, 1) := by decide +kernel
theorem dX3_stonesAt_12 : decode cX3_stonesAt 12 = .ok (.iconst 2, 1) := by decide +kernel
theorem dX3_stonesAt_13 : decode cX3_stonesAt 13 = .ok (.invokestatic 21, 3) := by decide +kernel
theorem dX3_stonesAt_16 : decode cX3_stonesAt 16 = .ok (.iadd, 1) := by decide +kernel
theorem dX3_stonesAt_17 : decode cX3_stonesAt 17 = .ok (.iload_n 0, 1) := by decide +kernel
theorem dX3_stonesAt_18 : decode cX3_stonesAt 18 = .ok (.iconst 3, 1) := by decide +kernel
theorem dX3_stonesAt_19 : decode cX3_stonesAt 19 = .ok (.invokestatic 21, 3) := by decide +kernel
theorem dX3_stonesAt_22 : decode cX3_stonesAt 22 = .ok (.iadd, 1) := by decide +kernel
theorem dX3_stonesAt_23 : decode cX3_stonesAt 23 = .ok (.ireturn, 1) := by decide +kernel
def rmX3_stonesAt : Room := { frames := 1, cells := 0, slots := 0, locals := 21 }
abbrev eX3_stonesAt := Ev cX3_stonesAt 1 (some .int) RX3 rmX3_stonesAt
set_option maxRecDepth 20000 in
theorem mt_X3_stonesAt (p0 : Int32) (σ : St) (Q : Int32 → Prop)  (hP : P_X3_stonesAt p0 σ Q) : Mt yX3_stonesAt cX3_stonesAt 1 (some .int) rmX3_stonesAt [.int (p0)] σ (qI fun x s => s = σ ∧ Q x) := by
  refine Mt.of (k := 0) (ls := [.int (p0)]) (by decide +kernel) rfl (Nat.le_of_ble_eq_true rfl) ?_
  show eX3_stonesAt 0 [.int (p0)] [] σ _
  unfold P_X3_stonesAt at hP
  refine E_iload_n dX3_stonesAt_0 rfl ?_
  refine E_iconst (v := 0) dX3_stonesAt_1 (by decide) ?_
  refine E_callS (As := [.int (p0), .int (0)]) (rest := []) dX3_stonesAt_2 cl_RX3_21 tw_47 ⟨rfl, rfl, Nat.le_of_ble_eq_true rfl, Nat.le_of_ble_eq_true rfl⟩ rfl rfl (Nat.le_of_ble_eq_true rfl) (mt_X3_leftAt _ _ _ _  hP) ?_
  intro r0 s0 hq0; obtain ⟨r2, h0, hs0, hP⟩ := hq0; subst h0; rw [hs0]
  show eX3_stonesAt 5 [.int (p0)] [.int (r2)] σ _
  refine E_iload_n dX3_stonesAt_5 rfl ?_
  refine E_iconst (v := 1) dX3_stonesAt_6 (by decide) ?_
  refine E_callS (As := [.int (p0), .int (1)]) (rest := [.int (r2)]) dX3_stonesAt_7 cl_RX3_21 tw_47 ⟨rfl, rfl, Nat.le_of_ble_eq_true rfl, Nat.le_of_ble_eq_true rfl⟩ rfl rfl (Nat.le_of_ble_eq_true rfl) (mt_X3_leftAt _ _ _ _  hP) ?_
  intro r0 s0 hq0; obtain ⟨r7, h0, hs0, hP⟩ := hq0; subst h0; rw [hs0]
  show eX3_stonesAt 10 [.int (p0)] [.int (r7), .int (r2)] σ _
  refine E_iadd dX3_stonesAt_10 ?_
  refine E_iload_n dX3_stonesAt_11 rfl ?_
  refine E_iconst (v := 2) dX3_stonesAt_12 (by decide) ?_
  refine E_callS (As := [.int (p0), .int (2)]) (rest := [.int (r2 + r7)]) dX3_stonesAt_13 cl_RX3_21 tw_47 ⟨rfl, rfl, Nat.le_of_ble_eq_true rfl, Nat.le_of_ble_eq_true rfl⟩ rfl rfl (Nat.le_of_ble_eq_true rfl) (mt_X3_leftAt _ _ _ _  hP) ?_
  intro r0 s0 hq0; obtain ⟨r13, h0, hs0, hP⟩ := hq0; subst h0; rw [hs0]
  show eX3_stonesAt 16 [.int (p0)] [.int (r13), .int (r2 + r7)] σ _
  refine E_iadd dX3_stonesAt_16 ?_
  refine E_iload_n dX3_stonesAt_17 rfl ?_
  refine E_iconst (v := 3) dX3_stonesAt_18 (by decide) ?_
  refine E_callS (As := [.int (p0), .int (3)]) (rest := [.int ((r2 + r7) + r13)]) dX3_stonesAt_19 cl_RX3_21 tw_47 ⟨rfl, rfl, Nat.le_of_ble_eq_true rfl, Nat.le_of_ble_eq_true rfl⟩ rfl rfl (Nat.le_of_ble_eq_true rfl) (mt_X3_leftAt _ _ _ _  hP) ?_
  intro r0 s0 hq0; obtain ⟨r19, h0, hs0, hP⟩ := hq0; subst h0; rw [hs0]
  show eX3_stonesAt 22 [.int (p0)] [.int (r19), .int ((r2 + r7) + r13)] σ _
  refine E_iadd dX3_stonesAt_22 ?_
  exact E_iret dX3_stonesAt_23 rfl ⟨_, rfl, rfl, hP⟩
theorem dX0_allStones_0 : decode cX0_allStones 0 = .ok (.aload_n 0, 1) := by decide +kernel
theorem dX0_allStones_1 : decode cX0_allStones 1 = .ok (.invokevirtual 72, 3) := by decide +kernel
theorem dX0_allStones_4 : decode cX0_allStones 4 = .ok (.invokestatic 76, 3) := by decide +kernel
theorem dX0_allStones_7 : decode cX0_allStones 7 = .ok (.ireturn, 1) := by decide +kernel
def rmX0_allStones : Room := { frames := 2, cells := 0, slots := 0, locals := 42 }
abbrev eX0_allStones := Ev cX0_allStones 1 (some .int) RX0 rmX0_allStones
set_option maxRecDepth 20000 in
theorem mt_X0_allStones (a0 : Nat) (σ : St) (Q : Int32 → Prop) (o_a0 : kd a0 = 0) (hP : P_X0_allStones a0 σ Q) : Mt yX0_allStones cX0_allStones 1 (some .int) rmX0_allStones [.ref (a0)] σ (qI fun x s => s = σ ∧ Q x) := by
  refine Mt.of (k := 0) (ls := [.ref (a0)]) (by decide +kernel) rfl (Nat.le_of_ble_eq_true rfl) ?_
  show eX0_allStones 0 [.ref (a0)] [] σ _
  unfold P_X0_allStones at hP
  refine E_aload_n dX0_allStones_0 rfl ?_
  refine E_callV (As := []) (rest := []) dX0_allStones_1 cl_RX0_72 tw_53 o_a0 (by decide) rfl tw_54 ⟨rfl, rfl, Nat.le_of_ble_eq_true rfl, Nat.le_of_ble_eq_true rfl⟩ rfl rfl (Nat.le_of_ble_eq_true rfl) (mt_X0_standNow _ _ _ o_a0 hP) ?_
  intro r0 s0 hq0; obtain ⟨r1, h0, hs0, hP⟩ := hq0; subst h0; rw [hs0]
  show eX0_allStones 4 [.ref (a0)] [.int (r1)] σ _
  refine E_callS (As := [.int (r1)]) (rest := []) dX0_allStones_4 cl_RX0_76 tw_50 ⟨rfl, rfl, Nat.le_of_ble_eq_true rfl, Nat.le_of_ble_eq_true rfl⟩ rfl rfl (Nat.le_of_ble_eq_true rfl) (mt_X3_stonesAt _ _ _  hP) ?_
  intro r0 s0 hq0; obtain ⟨r4, h0, hs0, hP⟩ := hq0; subst h0; rw [hs0]
  show eX0_allStones 7 [.ref (a0)] [.int (r4)] σ _
  exact E_iret dX0_allStones_7 rfl ⟨_, rfl, rfl, hP⟩
theorem dJ7_rangeCheck_23922_0 : decode cJ7_rangeCheck_23922 0 = .ok (.iload_n 1, 1) := by decide +kernel
theorem dJ7_rangeCheck_23922_1 : decode cJ7_rangeCheck_23922 1 = .ok (.iload_n 2, 1) := by decide +kernel
theorem dJ7_rangeCheck_23922_2 : decode cJ7_rangeCheck_23922 2 = .ok (.if_icmp .le 44, 3) := by decide +kernel
theorem dJ7_rangeCheck_23922_5 : decode cJ7_rangeCheck_23922 5 = .ok (.new 43, 3) := by decide +kernel
theorem dJ7_rangeCheck_23922_8 : decode cJ7_rangeCheck_23922 8 = .ok (.dup, 1) := by decide +kernel
theorem dJ7_rangeCheck_23922_9 : decode cJ7_rangeCheck_23922 9 = .ok (.new 45, 3) := by decide +kernel
theorem dJ7_rangeCheck_23922_12 : decode cJ7_rangeCheck_23922 12 = .ok (.dup, 1) := by decide +kernel
theorem dJ7_rangeCheck_23922_13 : decode cJ7_rangeCheck_23922 13 = .ok (.invokespecial 47, 3) := by decide +kernel
theorem dJ7_rangeCheck_23922_16 : decode cJ7_rangeCheck_23922 16 = .ok (.ldc 48, 2) := by decide +kernel
theorem dJ7_rangeCheck_23922_18 : decode cJ7_rangeCheck_23922 18 = .ok (.invokevirtual 50, 3) := by decide +kernel
theorem dJ7_rangeCheck_23922_21 : decode cJ7_rangeCheck_23922 21 = .ok (.iload_n 1, 1) := by decide +kernel
theorem dJ7_rangeCheck_23922_22 : decode cJ7_rangeCheck_23922 22 = .ok (.invokevirtual 54, 3) := by decide +kernel
theorem dJ7_rangeCheck_23922_25 : decode cJ7_rangeCheck_23922 25 = .ok (.ldc 57, 2) := by decide +kernel
theorem dJ7_rangeCheck_23922_27 : decode cJ7_rangeCheck_23922 27 = .ok (.invokevirtual 50, 3) := by decide +kernel
theorem dJ7_rangeCheck_23922_30 : decode cJ7_rangeCheck_23922 30 = .ok (.iload_n 2, 1) := by decide +kernel
theorem dJ7_rangeCheck_23922_31 : decode cJ7_rangeCheck_23922 31 = .ok (.invokevirtual 54, 3) := by decide +kernel
theorem dJ7_rangeCheck_23922_34 : decode cJ7_rangeCheck_23922 34 = .ok (.ldc 59, 2) := by decide +kernel
theorem dJ7_rangeCheck_23922_36 : decode cJ7_rangeCheck_23922 36 = .ok (.invokevirtual 50, 3) := by decide +kernel
theorem dJ7_rangeCheck_23922_39 : decode cJ7_rangeCheck_23922 39 = .ok (.invokevirtual 61, 3) := by decide +kernel
theorem dJ7_rangeCheck_23922_42 : decode cJ7_rangeCheck_23922 42 = .ok (.invokespecial 65, 3) := by decide +kernel
theorem dJ7_rangeCheck_23922_45 : decode cJ7_rangeCheck_23922 45 = .ok (.athrow, 1) := by decide +kernel
theorem dJ7_rangeCheck_23922_46 : decode cJ7_rangeCheck_23922 46 = .ok (.iload_n 1, 1) := by decide +kernel
theorem dJ7_rangeCheck_23922_47 : decode cJ7_rangeCheck_23922 47 = .ok (.ifCond .ge 12, 3) := by decide +kernel
theorem dJ7_rangeCheck_23922_50 : decode cJ7_rangeCheck_23922 50 = .ok (.new 68, 3) := by decide +kernel
theorem dJ7_rangeCheck_23922_53 : decode cJ7_rangeCheck_23922 53 = .ok (.dup, 1) := by decide +kernel
theorem dJ7_rangeCheck_23922_54 : decode cJ7_rangeCheck_23922 54 = .ok (.iload_n 1, 1) := by decide +kernel
theorem dJ7_rangeCheck_23922_55 : decode cJ7_rangeCheck_23922 55 = .ok (.invokespecial 70, 3) := by decide +kernel
theorem dJ7_rangeCheck_23922_58 : decode cJ7_rangeCheck_23922 58 = .ok (.athrow, 1) := by decide +kernel
theorem dJ7_rangeCheck_23922_59 : decode cJ7_rangeCheck_23922 59 = .ok (.iload_n 2, 1) := by decide +kernel
theorem dJ7_rangeCheck_23922_60 : decode cJ7_rangeCheck_23922 60 = .ok (.iload_n 0, 1) := by decide +kernel
theorem dJ7_rangeCheck_23922_61 : decode cJ7_rangeCheck_23922 61 = .ok (.if_icmp .le 12, 3) := by decide +kernel
theorem dJ7_rangeCheck_23922_64 : decode cJ7_rangeCheck_23922 64 = .ok (.new 68, 3) := by decide +kernel
theorem dJ7_rangeCheck_23922_67 : decode cJ7_rangeCheck_23922 67 = .ok (.dup, 1) := by decide +kernel
theorem dJ7_rangeCheck_23922_68 : decode cJ7_rangeCheck_23922 68 = .ok (.iload_n 2, 1) := by decide +kernel
theorem dJ7_rangeCheck_23922_69 : decode cJ7_rangeCheck_23922 69 = .ok (.invokespecial 70, 3) := by decide +kernel
theorem dJ7_rangeCheck_23922_72 : decode cJ7_rangeCheck_23922 72 = .ok (.athrow, 1) := by decide +kernel
theorem dJ7_rangeCheck_23922_73 : decode cJ7_rangeCheck_23922 73 = .ok (.return_, 1) := by decide +kernel
def rmJ7_rangeCheck_23922 : Room := { frames := 0, cells := 0, slots := 0, locals := 0 }
abbrev eJ7_rangeCheck_23922 := Ev cJ7_rangeCheck_23922 3 none RJ7 rmJ7_rangeCheck_23922
set_option maxRecDepth 20000 in
theorem mt_J7_rangeCheck_23922 (p0 : Int32) (p1 : Int32) (p2 : Int32) (σ : St) (Q : St → Prop)  (hP : P_J7_rangeCheck_23922 p0 p1 p2 σ Q) : Mt yJ7_rangeCheck_23922 cJ7_rangeCheck_23922 3 none rmJ7_rangeCheck_23922 [.int (p0), .int (p1), .int (p2)] σ (qV Q) := by
  refine Mt.of (k := 0) (ls := [.int (p0), .int (p1), .int (p2)]) (by decide +kernel) rfl (Nat.le_of_ble_eq_true rfl) ?_
  show eJ7_rangeCheck_23922 0 [.int (p0), .int (p1), .int (p2)] [] σ _
  unfold P_J7_rangeCheck_23922 at hP
  refine E_iload_n dJ7_rangeCheck_23922_0 rfl ?_
  refine E_iload_n dJ7_rangeCheck_23922_1 rfl ?_
  refine E_icmp_le 46 dJ7_rangeCheck_23922_2 (by decide) (fun hc => ?_) (fun hc => ?_)
  · replace hP := hP.1 hc
    refine E_iload_n dJ7_rangeCheck_23922_46 rfl ?_
    refine E_if_ge 59 dJ7_rangeCheck_23922_47 (by decide) (fun hc => ?_) (fun hc => ?_)
    · replace hP := hP.1 hc
      refine E_iload_n dJ7_rangeCheck_23922_59 rfl ?_
      refine E_iload_n dJ7_rangeCheck_23922_60 rfl ?_
      refine E_icmp_le 73 dJ7_rangeCheck_23922_61 (by decide) (fun hc => ?_) (fun hc => ?_)
      · replace hP := hP.1 hc
        exact E_vret dJ7_rangeCheck_23922_73 rfl ⟨rfl, hP⟩
      · replace hP := hP.2 hc
        exact hP.elim
    · replace hP := hP.2 hc
      exact hP.elim
  · replace hP := hP.2 hc
    exact hP.elim
theorem dJ7_fill_bad5a_0 : decode cJ7_fill_bad5a 0 = .ok (.aload_n 0, 1) := by decide +kernel
theorem dJ7_fill_bad5a_1 : decode cJ7_fill_bad5a 1 = .ok (.arraylength, 1) := by decide +kernel
theorem dJ7_fill_bad5a_2 : decode cJ7_fill_bad5a 2 = .ok (.iload_n 1, 1) := by decide +kernel
theorem dJ7_fill_bad5a_3 : decode cJ7_fill_bad5a 3 = .ok (.iload_n 2, 1) := by decide +kernel
theorem dJ7_fill_bad5a_4 : decode cJ7_fill_bad5a 4 = .ok (.invokestatic 13, 3) := by decide +kernel
theorem dJ7_fill_bad5a_7 : decode cJ7_fill_bad5a 7 = .ok (.iload_n 1, 1) := by decide +kernel
theorem dJ7_fill_bad5a_8 : decode cJ7_fill_bad5a 8 = .ok (.istore 5, 2) := by decide +kernel
theorem dJ7_fill_bad5a_10 : decode cJ7_fill_bad5a 10 = .ok (.iload 5, 2) := by decide +kernel
theorem dJ7_fill_bad5a_12 : decode cJ7_fill_bad5a 12 = .ok (.iload_n 2, 1) := by decide +kernel
theorem dJ7_fill_bad5a_13 : decode cJ7_fill_bad5a 13 = .ok (.if_icmp .ge 14, 3) := by decide +kernel
theorem dJ7_fill_bad5a_16 : decode cJ7_fill_bad5a 16 = .ok (.aload_n 0, 1) := by decide +kernel
theorem dJ7_fill_bad5a_17 : decode cJ7_fill_bad5a 17 = .ok (.iload 5, 2) := by decide +kernel
theorem dJ7_fill_bad5a_19 : decode cJ7_fill_bad5a 19 = .ok (.lload_n 3, 1) := by decide +kernel
theorem dJ7_fill_bad5a_20 : decode cJ7_fill_bad5a 20 = .ok (.lastore, 1) := by decide +kernel
theorem dJ7_fill_bad5a_21 : decode cJ7_fill_bad5a 21 = .ok (.iinc 5 1, 3) := by decide +kernel
theorem dJ7_fill_bad5a_24 : decode cJ7_fill_bad5a 24 = .ok (.goto (-14), 3) := by decide +kernel
theorem dJ7_fill_bad5a_27 : decode cJ7_fill_bad5a 27 = .ok (.return_, 1) := by decide +kernel
def rmJ7_fill_bad5a : Room := { frames := 1, cells := 0, slots := 0, locals := 22 }
abbrev eJ7_fill_bad5a := Ev cJ7_fill_bad5a 6 none RJ7 rmJ7_fill_bad5a
set_option maxRecDepth 20000 in
theorem ev_J7_fill_bad5a_l10 (l0 : Nat) (l2 : Int32) (l3 : Int64) (o_l0 : kd (l0) = 9) (K : St → Prop) (Q : St → Prop) (hK : ∀  s, K  s → eJ7_fill_bad5a 27 [un, un, un, un, un, un] [] s (qV Q)) : ∀ (n : Nat) (l5 : Int32) (σ : St), P_J7_fill_bad5a_l10 l0 l2 l3 K Q n l5 σ → eJ7_fill_bad5a 10 [.ref (l0), un, .int (l2), .long (l3), un, .int (l5)] [] σ (qV Q) := by
  intro n
  induction n with
  | zero => intro l5 σ hP; exact hP.elim
  | succ n ih =>
    intro l5 σ hP
    rw [P_J7_fill_bad5a_l10] at hP
    refine E_iload dJ7_fill_bad5a_10 rfl ?_
    refine E_iload_n dJ7_fill_bad5a_12 rfl ?_
    refine E_icmp_ge 27 dJ7_fill_bad5a_13 (by decide) (fun hc => ?_) (fun hc => ?_)
    · replace hP := hP.1 hc
      refine E_mask [false, false, false, false, false, false] rfl ?_
      exact hK  _ hP
    · replace hP := hP.2 hc
      refine E_aload_n dJ7_fill_bad5a_16 rfl ?_
      refine E_iload dJ7_fill_bad5a_17 rfl ?_
      refine E_lload_n dJ7_fill_bad5a_19 rfl ?_
      obtain ⟨hb, hP⟩ := hP
      refine E_last dJ7_fill_bad5a_20 o_l0 rfl hb ?_
      refine E_iinc (ls' := [.ref (l0), un, .int (l2), .long (l3), un, .int (l5 + 1)]) dJ7_fill_bad5a_21 rfl rfl (by decide) rfl ?_
      refine E_goto 10 dJ7_fill_bad5a_24 (by decide) ?_
      exact ih (l5 + 1) _ hP
set_option maxRecDepth 20000 in
theorem mt_J7_fill_bad5a (p0 : Nat) (p1 : Int32) (p2 : Int32) (p3 : Int64) (σ : St) (Q : St → Prop) (o_p0 : kd p0 = 9) (hP : P_J7_fill_bad5a p0 p1 p2 p3 σ Q) : Mt yJ7_fill_bad5a cJ7_fill_bad5a 6 none rmJ7_fill_bad5a [.ref (p0), .int (p1), .int (p2), .long (p3)] σ (qV Q) := by
  refine Mt.of (k := 1) (ls := [.ref (p0), .int (p1), .int (p2), .long (p3), un, un]) (by decide +kernel) rfl (Nat.le_of_ble_eq_true rfl) ?_
  show eJ7_fill_bad5a 0 [.ref (p0), .int (p1), .int (p2), .long (p3), un, un] [] σ _
  unfold P_J7_fill_bad5a at hP
  refine E_aload_n dJ7_fill_bad5a_0 rfl ?_
  refine E_alenL (v := Int32.ofNat (ln p0)) dJ7_fill_bad5a_1 o_p0 rfl rfl ?_
  refine E_iload_n dJ7_fill_bad5a_2 rfl ?_
  refine E_iload_n dJ7_fill_bad5a_3 rfl ?_
  refine E_callS (As := [.int (Int32.ofNat (ln p0)), .int (p1), .int (p2)]) (rest := []) dJ7_fill_bad5a_4 cl_RJ7_13 tw_58 ⟨rfl, rfl, Nat.le_of_ble_eq_true rfl, Nat.le_of_ble_eq_true rfl⟩ rfl rfl (Nat.le_of_ble_eq_true rfl) (mt_J7_rangeCheck_23922 _ _ _ _ _  hP) ?_
  rintro _ t4 ⟨rfl, hP⟩
  show eJ7_fill_bad5a 7 [.ref (p0), .int (p1), .int (p2), .long (p3), un, un] [] t4 _
  refine E_iload_n dJ7_fill_bad5a_7 rfl ?_
  refine E_istore (ls' := [.ref (p0), .int (p1), .int (p2), .long (p3), un, .int (p1)]) dJ7_fill_bad5a_8 (by decide) rfl ?_
  refine E_mask [true, false, true, true, false, true] rfl ?_
  obtain ⟨m10, hP⟩ := hP
  refine ev_J7_fill_bad5a_l10 (p0) (p2) (p3) o_p0 _ Q ?_ m10 _ _ hP
  intro  t27 hP
  exact E_vret dJ7_fill_bad5a_27 rfl ⟨rfl, hP⟩
theorem dX2_tells_0 : decode cX2_tells 0 = .ok (.iload_n 1, 1) := by decide +kernel
theorem dX2_tells_1 : decode cX2_tells 1 = .ok (.aload_n 0, 1) := by decide +kernel
theorem dX2_tells_2 : decode cX2_tells 2 = .ok (.getfield 19, 3) := by decide +kernel
theorem dX2_tells_5 : decode cX2_tells 5 = .ok (.if_icmp .ge 19, 3) := by decide +kernel
theorem dX2_tells_8 : decode cX2_tells 8 = .ok (.aload_n 0, 1) := by decide +kernel
theorem dX2_tells_9 : decode cX2_tells 9 = .ok (.getfield 9, 3) := by decide +kernel
theorem dX2_tells_12 : decode cX2_tells 12 = .ok (.iload_n 1, 1) := by decide +kernel
theorem dX2_tells_13 : decode cX2_tells 13 = .ok (.laload, 1) := by decide +kernel
theorem dX2_tells_14 : decode cX2_tells 14 = .ok (.iload_n 2, 1) := by decide +kernel
theorem dX2_tells_15 : decode cX2_tells 15 = .ok (.i2l, 1) := by decide +kernel
theorem dX2_tells_16 : decode cX2_tells 16 = .ok (.lcmp, 1) := by decide +kernel
theorem dX2_tells_17 : decode cX2_tells 17 = .ok (.ifCond .ne 7, 3) := by decide +kernel
theorem dX2_tells_20 : decode cX2_tells 20 = .ok (.iconst 1, 1) := by decide +kernel
theorem dX2_tells_21 : decode cX2_tells 21 = .ok (.goto 4, 3) := by decide +kernel
theorem dX2_tells_24 : decode cX2_tells 24 = .ok (.iconst 0, 1) := by decide +kernel
theorem dX2_tells_25 : decode cX2_tells 25 = .ok (.ireturn, 1) := by decide +kernel
def rmX2_tells : Room := { frames := 0, cells := 0, slots := 0, locals := 0 }
abbrev eX2_tells := Ev cX2_tells 3 (some .boolean) RX2 rmX2_tells
set_option maxRecDepth 20000 in
theorem mt_X2_tells (a0 : Nat) (p0 : Int32) (p1 : Int32) (σ : St) (Q : Bool → Prop) (o_a0 : kd a0 = 2) (hP : P_X2_tells a0 p0 p1 σ Q) : Mt yX2_tells cX2_tells 3 (some .boolean) rmX2_tells [.ref (a0), .int (p0), .int (p1)] σ (qB fun x s => s = σ ∧ Q x) := by
  refine Mt.of (k := 0) (ls := [.ref (a0), .int (p0), .int (p1)]) (by decide +kernel) rfl (Nat.le_of_ble_eq_true rfl) ?_
  show eX2_tells 0 [.ref (a0), .int (p0), .int (p1)] [] σ _
  unfold P_X2_tells at hP
  refine E_iload_n dX2_tells_0 rfl ?_
  refine E_aload_n dX2_tells_1 rfl ?_
  refine E_getI (j := 2) dX2_tells_2 o_a0 (by decide) rfl fd_RX2_19 ?_
  refine E_icmp_ge 24 dX2_tells_5 (by decide) (fun hc => ?_) (fun hc => ?_)
  · replace hP := hP.1 hc
    refine E_iconst (v := 0) dX2_tells_24 (by decide) ?_
    exact E_nret dX2_tells_25 rfl (nar_b false) ⟨false, rfl, rfl, hP⟩
  · replace hP := hP.2 hc
    refine E_aload_n dX2_tells_8 rfl ?_
    refine E_getR (j := 0) dX2_tells_9 o_a0 (by decide) rfl fd_RX2_9 (by decide) ?_
    refine E_iload_n dX2_tells_12 rfl ?_
    obtain ⟨hb, hP⟩ := hP
    refine E_lald dX2_tells_13 (ar_2_1 o_a0).1 (ar_2_1 o_a0).2 hb ?_
    refine E_iload_n dX2_tells_14 rfl ?_
    refine E_i2l dX2_tells_15 ?_
    refine E_lcmp dX2_tells_16 ?_
    refine E_if_ne 24 dX2_tells_17 (by decide) (fun hc => ?_) (fun hc => ?_)
    · replace hP := hP.1 hc
      refine E_iconst (v := 0) dX2_tells_24 (by decide) ?_
      exact E_nret dX2_tells_25 rfl (nar_b false) ⟨false, rfl, rfl, hP⟩
    · replace hP := hP.2 hc
      refine E_iconst (v := 1) dX2_tells_20 (by decide) ?_
      refine E_goto 25 dX2_tells_21 (by decide) ?_
      exact E_nret dX2_tells_25 rfl (nar_b true) ⟨true, rfl, rfl, hP⟩
end
