section
-- ===== PART A: goes FIRST, ahead of the names: the tables' words, and 'selects' of the private methods out of them =====
/-- a private method of a class that the tables say can be made, by its rows of tables_1 -/
def lw_okq (q : MethodName × Nat) : Prop := (q.1.cls ≠ "java/lang/invoke/MethodHandle" ∧ q.1.cls ≠ "java/lang/invoke/VarHandle") ∧ Cond.instantiable q.1.cls q.2 ∈ tables_1 ∧ Cond.privateMethod q.1 ∈ tables_1 ∧ Cond.instanceMethod q.1 ∈ tables_1
theorem lw_p0 : lw_okq (⟨"Goalmouth$Book", "count", "(LGoalmouth$Event;)V"⟩, 6) := ⟨⟨by decide +kernel, by decide +kernel⟩, List.mem_of_getElem? (i := 83) (by decide +kernel), List.mem_of_getElem? (i := 258) (by decide +kernel), List.mem_of_getElem? (i := 259) (by decide +kernel)⟩
theorem lw_p1 : lw_okq (⟨"Goalmouth$Book", "serve", "(I)V"⟩, 6) := ⟨⟨by decide +kernel, by decide +kernel⟩, List.mem_of_getElem? (i := 83) (by decide +kernel), List.mem_of_getElem? (i := 266) (by decide +kernel), List.mem_of_getElem? (i := 267) (by decide +kernel)⟩
theorem lw_p2 : lw_okq (⟨"Goalmouth$Book", "countCards", "(II)V"⟩, 6) := ⟨⟨by decide +kernel, by decide +kernel⟩, List.mem_of_getElem? (i := 83) (by decide +kernel), List.mem_of_getElem? (i := 270) (by decide +kernel), List.mem_of_getElem? (i := 271) (by decide +kernel)⟩
theorem lw_p3 : lw_okq (⟨"Goalmouth$Book", "punish", "(IZZZ)V"⟩, 6) := ⟨⟨by decide +kernel, by decide +kernel⟩, List.mem_of_getElem? (i := 83) (by decide +kernel), List.mem_of_getElem? (i := 278) (by decide +kernel), List.mem_of_getElem? (i := 279) (by decide +kernel)⟩
theorem lw_p4 : lw_okq (⟨"Goalmouth$Fixture", "isLostIfGuilty", "(Z)Z"⟩, 7) := ⟨⟨by decide +kernel, by decide +kernel⟩, List.mem_of_getElem? (i := 288) (by decide +kernel), List.mem_of_getElem? (i := 286) (by decide +kernel), List.mem_of_getElem? (i := 287) (by decide +kernel)⟩
theorem lw_p5 : lw_okq (⟨"java/lang/Throwable", "fillInStackTrace", "(I)Ljava/lang/Throwable;"⟩, 6) := ⟨⟨by decide +kernel, by decide +kernel⟩, List.mem_of_getElem? (i := 354) (by decide +kernel), List.mem_of_getElem? (i := 352) (by decide +kernel), List.mem_of_getElem? (i := 353) (by decide +kernel)⟩
theorem lw_p6 : lw_okq (⟨"Goalmouth", "clubsIn", "(I)I"⟩, 10) := ⟨⟨by decide +kernel, by decide +kernel⟩, List.mem_of_getElem? (i := 46) (by decide +kernel), List.mem_of_getElem? (i := 384) (by decide +kernel), List.mem_of_getElem? (i := 385) (by decide +kernel)⟩
theorem lw_p7 : lw_okq (⟨"java/util/ArrayList", "add", "(Ljava/lang/Object;[Ljava/lang/Object;I)V"⟩, 3) := ⟨⟨by decide +kernel, by decide +kernel⟩, List.mem_of_getElem? (i := 54) (by decide +kernel), List.mem_of_getElem? (i := 475) (by decide +kernel), List.mem_of_getElem? (i := 476) (by decide +kernel)⟩
theorem lw_p8 : lw_okq (⟨"java/util/ArrayList", "grow", "()[Ljava/lang/Object;"⟩, 3) := ⟨⟨by decide +kernel, by decide +kernel⟩, List.mem_of_getElem? (i := 54) (by decide +kernel), List.mem_of_getElem? (i := 479) (by decide +kernel), List.mem_of_getElem? (i := 480) (by decide +kernel)⟩
theorem lw_p9 : lw_okq (⟨"java/util/ArrayList", "grow", "(I)[Ljava/lang/Object;"⟩, 3) := ⟨⟨by decide +kernel, by decide +kernel⟩, List.mem_of_getElem? (i := 54) (by decide +kernel), List.mem_of_getElem? (i := 483) (by decide +kernel), List.mem_of_getElem? (i := 484) (by decide +kernel)⟩
theorem lw_p10 : lw_okq (⟨"Goalmouth", "knownClub", "(I)LGoalmouth$Club;"⟩, 10) := ⟨⟨by decide +kernel, by decide +kernel⟩, List.mem_of_getElem? (i := 46) (by decide +kernel), List.mem_of_getElem? (i := 573) (by decide +kernel), List.mem_of_getElem? (i := 574) (by decide +kernel)⟩
theorem lw_p11 : lw_okq (⟨"Goalmouth", "isWindowOpen", "()Z"⟩, 10) := ⟨⟨by decide +kernel, by decide +kernel⟩, List.mem_of_getElem? (i := 46) (by decide +kernel), List.mem_of_getElem? (i := 618) (by decide +kernel), List.mem_of_getElem? (i := 619) (by decide +kernel)⟩
theorem lw_p12 : lw_okq (⟨"Goalmouth", "knownPlayer", "(I)LGoalmouth$Player;"⟩, 10) := ⟨⟨by decide +kernel, by decide +kernel⟩, List.mem_of_getElem? (i := 46) (by decide +kernel), List.mem_of_getElem? (i := 639) (by decide +kernel), List.mem_of_getElem? (i := 640) (by decide +kernel)⟩
theorem lw_p13 : lw_okq (⟨"Goalmouth", "hasFixtures", "(I)Z"⟩, 10) := ⟨⟨by decide +kernel, by decide +kernel⟩, List.mem_of_getElem? (i := 46) (by decide +kernel), List.mem_of_getElem? (i := 710) (by decide +kernel), List.mem_of_getElem? (i := 711) (by decide +kernel)⟩
theorem lw_p14 : lw_okq (⟨"Goalmouth$Planner", "pairAtHome", "(LGoalmouth$Club;Ljava/util/ArrayList;)V"⟩, 7) := ⟨⟨by decide +kernel, by decide +kernel⟩, List.mem_of_getElem? (i := 114) (by decide +kernel), List.mem_of_getElem? (i := 726) (by decide +kernel), List.mem_of_getElem? (i := 727) (by decide +kernel)⟩
theorem lw_p15 : lw_okq (⟨"Goalmouth$Planner", "place", "(I)Z"⟩, 7) := ⟨⟨by decide +kernel, by decide +kernel⟩, List.mem_of_getElem? (i := 114) (by decide +kernel), List.mem_of_getElem? (i := 736) (by decide +kernel), List.mem_of_getElem? (i := 737) (by decide +kernel)⟩
def lw_privs_1 : List (MethodName × Nat) := [(⟨"Goalmouth$Book", "count", "(LGoalmouth$Event;)V"⟩, 6), (⟨"Goalmouth$Book", "serve", "(I)V"⟩, 6), (⟨"Goalmouth$Book", "countCards", "(II)V"⟩, 6), (⟨"Goalmouth$Book", "punish", "(IZZZ)V"⟩, 6), (⟨"Goalmouth$Fixture", "isLostIfGuilty", "(Z)Z"⟩, 7), (⟨"java/lang/Throwable", "fillInStackTrace", "(I)Ljava/lang/Throwable;"⟩, 6), (⟨"Goalmouth", "clubsIn", "(I)I"⟩, 10), (⟨"java/util/ArrayList", "add", "(Ljava/lang/Object;[Ljava/lang/Object;I)V"⟩, 3), (⟨"java/util/ArrayList", "grow", "()[Ljava/lang/Object;"⟩, 3), (⟨"java/util/ArrayList", "grow", "(I)[Ljava/lang/Object;"⟩, 3), (⟨"Goalmouth", "knownClub", "(I)LGoalmouth$Club;"⟩, 10), (⟨"Goalmouth", "isWindowOpen", "()Z"⟩, 10), (⟨"Goalmouth", "knownPlayer", "(I)LGoalmouth$Player;"⟩, 10), (⟨"Goalmouth", "hasFixtures", "(I)Z"⟩, 10), (⟨"Goalmouth$Planner", "pairAtHome", "(LGoalmouth$Club;Ljava/util/ArrayList;)V"⟩, 7), (⟨"Goalmouth$Planner", "place", "(I)Z"⟩, 7)]
theorem lw_r1 : ∀ q ∈ lw_privs_1, lw_okq q := List.forall_mem_cons.mpr ⟨lw_p0, List.forall_mem_cons.mpr ⟨lw_p1, List.forall_mem_cons.mpr ⟨lw_p2, List.forall_mem_cons.mpr ⟨lw_p3, List.forall_mem_cons.mpr ⟨lw_p4, List.forall_mem_cons.mpr ⟨lw_p5, List.forall_mem_cons.mpr ⟨lw_p6, List.forall_mem_cons.mpr ⟨lw_p7, List.forall_mem_cons.mpr ⟨lw_p8, List.forall_mem_cons.mpr ⟨lw_p9, List.forall_mem_cons.mpr ⟨lw_p10, List.forall_mem_cons.mpr ⟨lw_p11, List.forall_mem_cons.mpr ⟨lw_p12, List.forall_mem_cons.mpr ⟨lw_p13, List.forall_mem_cons.mpr ⟨lw_p14, List.forall_mem_cons.mpr ⟨lw_p15, fun _ h => absurd h List.not_mem_nil⟩⟩⟩⟩⟩⟩⟩⟩⟩⟩⟩⟩⟩⟩⟩⟩
theorem lw_p16 : lw_okq (⟨"Goalmouth", "knownFixture", "(I)LGoalmouth$Fixture;"⟩, 10) := ⟨⟨by decide +kernel, by decide +kernel⟩, List.mem_of_getElem? (i := 46) (by decide +kernel), List.mem_of_getElem? (i := 851) (by decide +kernel), List.mem_of_getElem? (i := 852) (by decide +kernel)⟩
theorem lw_p17 : lw_okq (⟨"Goalmouth", "isHindered", "(LGoalmouth$Fixture;I)Z"⟩, 10) := ⟨⟨by decide +kernel, by decide +kernel⟩, List.mem_of_getElem? (i := 46) (by decide +kernel), List.mem_of_getElem? (i := 857) (by decide +kernel), List.mem_of_getElem? (i := 858) (by decide +kernel)⟩
theorem lw_p18 : lw_okq (⟨"Goalmouth", "knownBit", "(I)I"⟩, 10) := ⟨⟨by decide +kernel, by decide +kernel⟩, List.mem_of_getElem? (i := 46) (by decide +kernel), List.mem_of_getElem? (i := 893) (by decide +kernel), List.mem_of_getElem? (i := 894) (by decide +kernel)⟩
theorem lw_p19 : lw_okq (⟨"Goalmouth", "enter", "(LGoalmouth$Side;LGoalmouth$Side;I)I"⟩, 10) := ⟨⟨by decide +kernel, by decide +kernel⟩, List.mem_of_getElem? (i := 46) (by decide +kernel), List.mem_of_getElem? (i := 924) (by decide +kernel), List.mem_of_getElem? (i := 925) (by decide +kernel)⟩
theorem lw_p20 : lw_okq (⟨"Goalmouth", "knownMatch", "()LGoalmouth$Fixture;"⟩, 10) := ⟨⟨by decide +kernel, by decide +kernel⟩, List.mem_of_getElem? (i := 46) (by decide +kernel), List.mem_of_getElem? (i := 975) (by decide +kernel), List.mem_of_getElem? (i := 976) (by decide +kernel)⟩
theorem lw_p21 : lw_okq (⟨"Goalmouth", "finish", "(LGoalmouth$Fixture;C)V"⟩, 10) := ⟨⟨by decide +kernel, by decide +kernel⟩, List.mem_of_getElem? (i := 46) (by decide +kernel), List.mem_of_getElem? (i := 1037) (by decide +kernel), List.mem_of_getElem? (i := 1038) (by decide +kernel)⟩
theorem lw_p22 : lw_okq (⟨"Goalmouth", "resting", "(LGoalmouth$Fixture;)I"⟩, 10) := ⟨⟨by decide +kernel, by decide +kernel⟩, List.mem_of_getElem? (i := 46) (by decide +kernel), List.mem_of_getElem? (i := 1041) (by decide +kernel), List.mem_of_getElem? (i := 1042) (by decide +kernel)⟩
theorem lw_p23 : lw_okq (⟨"Goalmouth$Table", "addRows", "(ILjava/util/ArrayList;Z)V"⟩, 1) := ⟨⟨by decide +kernel, by decide +kernel⟩, List.mem_of_getElem? (i := 145) (by decide +kernel), List.mem_of_getElem? (i := 1134) (by decide +kernel), List.mem_of_getElem? (i := 1135) (by decide +kernel)⟩
theorem lw_p24 : lw_okq (⟨"Goalmouth$Table", "countAmong", "(IILjava/util/ArrayList;)V"⟩, 1) := ⟨⟨by decide +kernel, by decide +kernel⟩, List.mem_of_getElem? (i := 145) (by decide +kernel), List.mem_of_getElem? (i := 1139) (by decide +kernel), List.mem_of_getElem? (i := 1140) (by decide +kernel)⟩
theorem lw_p25 : lw_okq (⟨"Goalmouth$Table", "sort", "(II)V"⟩, 1) := ⟨⟨by decide +kernel, by decide +kernel⟩, List.mem_of_getElem? (i := 145) (by decide +kernel), List.mem_of_getElem? (i := 1155) (by decide +kernel), List.mem_of_getElem? (i := 1156) (by decide +kernel)⟩
theorem lw_p26 : lw_okq (⟨"Goalmouth$Table", "partTies", "(IILjava/util/ArrayList;I)V"⟩, 1) := ⟨⟨by decide +kernel, by decide +kernel⟩, List.mem_of_getElem? (i := 145) (by decide +kernel), List.mem_of_getElem? (i := 1163) (by decide +kernel), List.mem_of_getElem? (i := 1164) (by decide +kernel)⟩
theorem lw_p27 : lw_okq (⟨"Goalmouth$Table", "partTie", "(IILjava/util/ArrayList;I)V"⟩, 1) := ⟨⟨by decide +kernel, by decide +kernel⟩, List.mem_of_getElem? (i := 145) (by decide +kernel), List.mem_of_getElem? (i := 1167) (by decide +kernel), List.mem_of_getElem? (i := 1168) (by decide +kernel)⟩
theorem lw_p28 : lw_okq (⟨"Goalmouth", "isFixtureLeft", "()Z"⟩, 10) := ⟨⟨by decide +kernel, by decide +kernel⟩, List.mem_of_getElem? (i := 46) (by decide +kernel), List.mem_of_getElem? (i := 1199) (by decide +kernel), List.mem_of_getElem? (i := 1200) (by decide +kernel)⟩
theorem lw_p29 : lw_okq (⟨"Goalmouth", "clearSeason", "()V"⟩, 10) := ⟨⟨by decide +kernel, by decide +kernel⟩, List.mem_of_getElem? (i := 46) (by decide +kernel), List.mem_of_getElem? (i := 1220) (by decide +kernel), List.mem_of_getElem? (i := 1221) (by decide +kernel)⟩
theorem lw_p30 : lw_okq (⟨"Goalmouth", "fixturesOver", "()I"⟩, 10) := ⟨⟨by decide +kernel, by decide +kernel⟩, List.mem_of_getElem? (i := 46) (by decide +kernel), List.mem_of_getElem? (i := 1249) (by decide +kernel), List.mem_of_getElem? (i := 1250) (by decide +kernel)⟩
theorem lw_p31 : lw_okq (⟨"GoalmouthModel", "no", "(ZI)Z"⟩, 13) := ⟨⟨by decide +kernel, by decide +kernel⟩, List.mem_of_getElem? (i := 1262) (by decide +kernel), List.mem_of_getElem? (i := 1323) (by decide +kernel), List.mem_of_getElem? (i := 1324) (by decide +kernel)⟩
def lw_privs_2 : List (MethodName × Nat) := [(⟨"Goalmouth", "knownFixture", "(I)LGoalmouth$Fixture;"⟩, 10), (⟨"Goalmouth", "isHindered", "(LGoalmouth$Fixture;I)Z"⟩, 10), (⟨"Goalmouth", "knownBit", "(I)I"⟩, 10), (⟨"Goalmouth", "enter", "(LGoalmouth$Side;LGoalmouth$Side;I)I"⟩, 10), (⟨"Goalmouth", "knownMatch", "()LGoalmouth$Fixture;"⟩, 10), (⟨"Goalmouth", "finish", "(LGoalmouth$Fixture;C)V"⟩, 10), (⟨"Goalmouth", "resting", "(LGoalmouth$Fixture;)I"⟩, 10), (⟨"Goalmouth$Table", "addRows", "(ILjava/util/ArrayList;Z)V"⟩, 1), (⟨"Goalmouth$Table", "countAmong", "(IILjava/util/ArrayList;)V"⟩, 1), (⟨"Goalmouth$Table", "sort", "(II)V"⟩, 1), (⟨"Goalmouth$Table", "partTies", "(IILjava/util/ArrayList;I)V"⟩, 1), (⟨"Goalmouth$Table", "partTie", "(IILjava/util/ArrayList;I)V"⟩, 1), (⟨"Goalmouth", "isFixtureLeft", "()Z"⟩, 10), (⟨"Goalmouth", "clearSeason", "()V"⟩, 10), (⟨"Goalmouth", "fixturesOver", "()I"⟩, 10), (⟨"GoalmouthModel", "no", "(ZI)Z"⟩, 13)]
theorem lw_r2 : ∀ q ∈ lw_privs_2, lw_okq q := List.forall_mem_cons.mpr ⟨lw_p16, List.forall_mem_cons.mpr ⟨lw_p17, List.forall_mem_cons.mpr ⟨lw_p18, List.forall_mem_cons.mpr ⟨lw_p19, List.forall_mem_cons.mpr ⟨lw_p20, List.forall_mem_cons.mpr ⟨lw_p21, List.forall_mem_cons.mpr ⟨lw_p22, List.forall_mem_cons.mpr ⟨lw_p23, List.forall_mem_cons.mpr ⟨lw_p24, List.forall_mem_cons.mpr ⟨lw_p25, List.forall_mem_cons.mpr ⟨lw_p26, List.forall_mem_cons.mpr ⟨lw_p27, List.forall_mem_cons.mpr ⟨lw_p28, List.forall_mem_cons.mpr ⟨lw_p29, List.forall_mem_cons.mpr ⟨lw_p30, List.forall_mem_cons.mpr ⟨lw_p31, fun _ h => absurd h List.not_mem_nil⟩⟩⟩⟩⟩⟩⟩⟩⟩⟩⟩⟩⟩⟩⟩⟩
theorem lw_p32 : lw_okq (⟨"GoalmouthModel", "clubsIn", "(I)I"⟩, 13) := ⟨⟨by decide +kernel, by decide +kernel⟩, List.mem_of_getElem? (i := 1262) (by decide +kernel), List.mem_of_getElem? (i := 1327) (by decide +kernel), List.mem_of_getElem? (i := 1328) (by decide +kernel)⟩
theorem lw_p33 : lw_okq (⟨"GoalmouthModel", "isClub", "(I)Z"⟩, 13) := ⟨⟨by decide +kernel, by decide +kernel⟩, List.mem_of_getElem? (i := 1262) (by decide +kernel), List.mem_of_getElem? (i := 1443) (by decide +kernel), List.mem_of_getElem? (i := 1444) (by decide +kernel)⟩
theorem lw_p34 : lw_okq (⟨"GoalmouthModel", "isOpen", "()Z"⟩, 13) := ⟨⟨by decide +kernel, by decide +kernel⟩, List.mem_of_getElem? (i := 1262) (by decide +kernel), List.mem_of_getElem? (i := 1471) (by decide +kernel), List.mem_of_getElem? (i := 1472) (by decide +kernel)⟩
theorem lw_p35 : lw_okq (⟨"GoalmouthModel", "isPlayer", "(I)Z"⟩, 13) := ⟨⟨by decide +kernel, by decide +kernel⟩, List.mem_of_getElem? (i := 1262) (by decide +kernel), List.mem_of_getElem? (i := 1484) (by decide +kernel), List.mem_of_getElem? (i := 1485) (by decide +kernel)⟩
theorem lw_p36 : lw_okq (⟨"GoalmouthModel", "hasFixtures", "(I)Z"⟩, 13) := ⟨⟨by decide +kernel, by decide +kernel⟩, List.mem_of_getElem? (i := 1262) (by decide +kernel), List.mem_of_getElem? (i := 1515) (by decide +kernel), List.mem_of_getElem? (i := 1516) (by decide +kernel)⟩
theorem lw_p37 : lw_okq (⟨"GoalmouthModel", "gives", "(Ljava/util/List;II)Z"⟩, 13) := ⟨⟨by decide +kernel, by decide +kernel⟩, List.mem_of_getElem? (i := 1262) (by decide +kernel), List.mem_of_getElem? (i := 1576) (by decide +kernel), List.mem_of_getElem? (i := 1577) (by decide +kernel)⟩
theorem lw_p38 : lw_okq (⟨"GoalmouthModel", "clash", "(LGoalmouthModel$Match;LGoalmouthModel$Match;)Z"⟩, 13) := ⟨⟨by decide +kernel, by decide +kernel⟩, List.mem_of_getElem? (i := 1262) (by decide +kernel), List.mem_of_getElem? (i := 1580) (by decide +kernel), List.mem_of_getElem? (i := 1581) (by decide +kernel)⟩
theorem lw_p39 : lw_okq (⟨"GoalmouthModel", "noMatch", "(I)Z"⟩, 13) := ⟨⟨by decide +kernel, by decide +kernel⟩, List.mem_of_getElem? (i := 1262) (by decide +kernel), List.mem_of_getElem? (i := 1608) (by decide +kernel), List.mem_of_getElem? (i := 1609) (by decide +kernel)⟩
theorem lw_p40 : lw_okq (⟨"GoalmouthModel", "canBe", "(LGoalmouthModel$Match;I)Z"⟩, 13) := ⟨⟨by decide +kernel, by decide +kernel⟩, List.mem_of_getElem? (i := 1262) (by decide +kernel), List.mem_of_getElem? (i := 1612) (by decide +kernel), List.mem_of_getElem? (i := 1613) (by decide +kernel)⟩
theorem lw_p41 : lw_okq (⟨"GoalmouthModel", "comes", "(LGoalmouthModel$Match;I)Z"⟩, 13) := ⟨⟨by decide +kernel, by decide +kernel⟩, List.mem_of_getElem? (i := 1262) (by decide +kernel), List.mem_of_getElem? (i := 1719) (by decide +kernel), List.mem_of_getElem? (i := 1720) (by decide +kernel)⟩
theorem lw_p42 : lw_okq (⟨"GoalmouthModel", "goesThrough", "()V"⟩, 13) := ⟨⟨by decide +kernel, by decide +kernel⟩, List.mem_of_getElem? (i := 1262) (by decide +kernel), List.mem_of_getElem? (i := 1739) (by decide +kernel), List.mem_of_getElem? (i := 1740) (by decide +kernel)⟩
theorem lw_p43 : lw_okq (⟨"GoalmouthModel", "ends", "(LGoalmouthModel$Event;)V"⟩, 13) := ⟨⟨by decide +kernel, by decide +kernel⟩, List.mem_of_getElem? (i := 1262) (by decide +kernel), List.mem_of_getElem? (i := 1749) (by decide +kernel), List.mem_of_getElem? (i := 1750) (by decide +kernel)⟩
theorem lw_p44 : lw_okq (⟨"GoalmouthModel", "noOn", "(I)Z"⟩, 13) := ⟨⟨by decide +kernel, by decide +kernel⟩, List.mem_of_getElem? (i := 1262) (by decide +kernel), List.mem_of_getElem? (i := 1786) (by decide +kernel), List.mem_of_getElem? (i := 1787) (by decide +kernel)⟩
theorem lw_p45 : lw_okq (⟨"GoalmouthModel", "isOn", "(I)Z"⟩, 13) := ⟨⟨by decide +kernel, by decide +kernel⟩, List.mem_of_getElem? (i := 1262) (by decide +kernel), List.mem_of_getElem? (i := 1790) (by decide +kernel), List.mem_of_getElem? (i := 1791) (by decide +kernel)⟩
theorem lw_p46 : lw_okq (⟨"java/util/ArrayList", "fastRemove", "([Ljava/lang/Object;I)V"⟩, 3) := ⟨⟨by decide +kernel, by decide +kernel⟩, List.mem_of_getElem? (i := 54) (by decide +kernel), List.mem_of_getElem? (i := 1832) (by decide +kernel), List.mem_of_getElem? (i := 1833) (by decide +kernel)⟩
theorem lw_p47 : lw_okq (⟨"GoalmouthModel", "isOver", "(CI)V"⟩, 13) := ⟨⟨by decide +kernel, by decide +kernel⟩, List.mem_of_getElem? (i := 1262) (by decide +kernel), List.mem_of_getElem? (i := 1844) (by decide +kernel), List.mem_of_getElem? (i := 1845) (by decide +kernel)⟩
def lw_privs_3 : List (MethodName × Nat) := [(⟨"GoalmouthModel", "clubsIn", "(I)I"⟩, 13), (⟨"GoalmouthModel", "isClub", "(I)Z"⟩, 13), (⟨"GoalmouthModel", "isOpen", "()Z"⟩, 13), (⟨"GoalmouthModel", "isPlayer", "(I)Z"⟩, 13), (⟨"GoalmouthModel", "hasFixtures", "(I)Z"⟩, 13), (⟨"GoalmouthModel", "gives", "(Ljava/util/List;II)Z"⟩, 13), (⟨"GoalmouthModel", "clash", "(LGoalmouthModel$Match;LGoalmouthModel$Match;)Z"⟩, 13), (⟨"GoalmouthModel", "noMatch", "(I)Z"⟩, 13), (⟨"GoalmouthModel", "canBe", "(LGoalmouthModel$Match;I)Z"⟩, 13), (⟨"GoalmouthModel", "comes", "(LGoalmouthModel$Match;I)Z"⟩, 13), (⟨"GoalmouthModel", "goesThrough", "()V"⟩, 13), (⟨"GoalmouthModel", "ends", "(LGoalmouthModel$Event;)V"⟩, 13), (⟨"GoalmouthModel", "noOn", "(I)Z"⟩, 13), (⟨"GoalmouthModel", "isOn", "(I)Z"⟩, 13), (⟨"java/util/ArrayList", "fastRemove", "([Ljava/lang/Object;I)V"⟩, 3), (⟨"GoalmouthModel", "isOver", "(CI)V"⟩, 13)]
theorem lw_r3 : ∀ q ∈ lw_privs_3, lw_okq q := List.forall_mem_cons.mpr ⟨lw_p32, List.forall_mem_cons.mpr ⟨lw_p33, List.forall_mem_cons.mpr ⟨lw_p34, List.forall_mem_cons.mpr ⟨lw_p35, List.forall_mem_cons.mpr ⟨lw_p36, List.forall_mem_cons.mpr ⟨lw_p37, List.forall_mem_cons.mpr ⟨lw_p38, List.forall_mem_cons.mpr ⟨lw_p39, List.forall_mem_cons.mpr ⟨lw_p40, List.forall_mem_cons.mpr ⟨lw_p41, List.forall_mem_cons.mpr ⟨lw_p42, List.forall_mem_cons.mpr ⟨lw_p43, List.forall_mem_cons.mpr ⟨lw_p44, List.forall_mem_cons.mpr ⟨lw_p45, List.forall_mem_cons.mpr ⟨lw_p46, List.forall_mem_cons.mpr ⟨lw_p47, fun _ h => absurd h List.not_mem_nil⟩⟩⟩⟩⟩⟩⟩⟩⟩⟩⟩⟩⟩⟩⟩⟩
theorem lw_p48 : lw_okq (⟨"GoalmouthModel", "table", "(I)Ljava/util/List;"⟩, 13) := ⟨⟨by decide +kernel, by decide +kernel⟩, List.mem_of_getElem? (i := 1262) (by decide +kernel), List.mem_of_getElem? (i := 1892) (by decide +kernel), List.mem_of_getElem? (i := 1893) (by decide +kernel)⟩
theorem lw_p49 : lw_okq (⟨"GoalmouthModel", "counting", "(I)Ljava/util/List;"⟩, 13) := ⟨⟨by decide +kernel, by decide +kernel⟩, List.mem_of_getElem? (i := 1262) (by decide +kernel), List.mem_of_getElem? (i := 1896) (by decide +kernel), List.mem_of_getElem? (i := 1897) (by decide +kernel)⟩
theorem lw_p50 : lw_okq (⟨"GoalmouthModel", "pointsOf", "(I)I"⟩, 13) := ⟨⟨by decide +kernel, by decide +kernel⟩, List.mem_of_getElem? (i := 1262) (by decide +kernel), List.mem_of_getElem? (i := 1907) (by decide +kernel), List.mem_of_getElem? (i := 1908) (by decide +kernel)⟩
theorem lw_p51 : lw_okq (⟨"GoalmouthModel", "sums", "(ILjava/util/List;)[I"⟩, 13) := ⟨⟨by decide +kernel, by decide +kernel⟩, List.mem_of_getElem? (i := 1262) (by decide +kernel), List.mem_of_getElem? (i := 1911) (by decide +kernel), List.mem_of_getElem? (i := 1912) (by decide +kernel)⟩
theorem lw_p52 : lw_okq (⟨"GoalmouthModel", "ordered", "(Ljava/util/List;Ljava/util/List;)Ljava/util/List;"⟩, 13) := ⟨⟨by decide +kernel, by decide +kernel⟩, List.mem_of_getElem? (i := 1262) (by decide +kernel), List.mem_of_getElem? (i := 1916) (by decide +kernel), List.mem_of_getElem? (i := 1917) (by decide +kernel)⟩
theorem lw_p53 : lw_okq (⟨"java/util/ArrayList", "shiftTailOverGap", "([Ljava/lang/Object;II)V"⟩, 3) := ⟨⟨by decide +kernel, by decide +kernel⟩, List.mem_of_getElem? (i := 54) (by decide +kernel), List.mem_of_getElem? (i := 1955) (by decide +kernel), List.mem_of_getElem? (i := 1956) (by decide +kernel)⟩
theorem lw_p54 : lw_okq (⟨"GoalmouthModel", "byAll", "(Ljava/util/List;Ljava/util/List;)Ljava/util/List;"⟩, 13) := ⟨⟨by decide +kernel, by decide +kernel⟩, List.mem_of_getElem? (i := 1262) (by decide +kernel), List.mem_of_getElem? (i := 1959) (by decide +kernel), List.mem_of_getElem? (i := 1960) (by decide +kernel)⟩
theorem lw_p55 : lw_okq (⟨"java/util/ArrayList", "rangeCheckForAdd", "(I)V"⟩, 3) := ⟨⟨by decide +kernel, by decide +kernel⟩, List.mem_of_getElem? (i := 54) (by decide +kernel), List.mem_of_getElem? (i := 1975) (by decide +kernel), List.mem_of_getElem? (i := 1976) (by decide +kernel)⟩
theorem lw_p56 : lw_okq (⟨"java/util/ArrayList", "outOfBoundsMsg", "(I)Ljava/lang/String;"⟩, 3) := ⟨⟨by decide +kernel, by decide +kernel⟩, List.mem_of_getElem? (i := 54) (by decide +kernel), List.mem_of_getElem? (i := 1980) (by decide +kernel), List.mem_of_getElem? (i := 1981) (by decide +kernel)⟩
theorem lw_p57 : lw_okq (⟨"GoalmouthModel", "over", "()I"⟩, 13) := ⟨⟨by decide +kernel, by decide +kernel⟩, List.mem_of_getElem? (i := 1262) (by decide +kernel), List.mem_of_getElem? (i := 2240) (by decide +kernel), List.mem_of_getElem? (i := 2241) (by decide +kernel)⟩
def lw_privs_4 : List (MethodName × Nat) := [(⟨"GoalmouthModel", "table", "(I)Ljava/util/List;"⟩, 13), (⟨"GoalmouthModel", "counting", "(I)Ljava/util/List;"⟩, 13), (⟨"GoalmouthModel", "pointsOf", "(I)I"⟩, 13), (⟨"GoalmouthModel", "sums", "(ILjava/util/List;)[I"⟩, 13), (⟨"GoalmouthModel", "ordered", "(Ljava/util/List;Ljava/util/List;)Ljava/util/List;"⟩, 13), (⟨"java/util/ArrayList", "shiftTailOverGap", "([Ljava/lang/Object;II)V"⟩, 3), (⟨"GoalmouthModel", "byAll", "(Ljava/util/List;Ljava/util/List;)Ljava/util/List;"⟩, 13), (⟨"java/util/ArrayList", "rangeCheckForAdd", "(I)V"⟩, 3), (⟨"java/util/ArrayList", "outOfBoundsMsg", "(I)Ljava/lang/String;"⟩, 3), (⟨"GoalmouthModel", "over", "()I"⟩, 13)]
theorem lw_r4 : ∀ q ∈ lw_privs_4, lw_okq q := List.forall_mem_cons.mpr ⟨lw_p48, List.forall_mem_cons.mpr ⟨lw_p49, List.forall_mem_cons.mpr ⟨lw_p50, List.forall_mem_cons.mpr ⟨lw_p51, List.forall_mem_cons.mpr ⟨lw_p52, List.forall_mem_cons.mpr ⟨lw_p53, List.forall_mem_cons.mpr ⟨lw_p54, List.forall_mem_cons.mpr ⟨lw_p55, List.forall_mem_cons.mpr ⟨lw_p56, List.forall_mem_cons.mpr ⟨lw_p57, fun _ h => absurd h List.not_mem_nil⟩⟩⟩⟩⟩⟩⟩⟩⟩⟩
def lw_privs : List (MethodName × Nat) := lw_privs_1 ++ (lw_privs_2 ++ (lw_privs_3 ++ (lw_privs_4)))
def lw_tbl : List Cond := k2_sels lw_privs ++ tables_1
theorem lw_privs_ok : ∀ q ∈ lw_privs, lw_okq q := by
  show ∀ q ∈ lw_privs_1 ++ (lw_privs_2 ++ (lw_privs_3 ++ (lw_privs_4))), lw_okq q
  exact List.forall_mem_append.mpr ⟨lw_r1, List.forall_mem_append.mpr ⟨lw_r2, List.forall_mem_append.mpr ⟨lw_r3, lw_r4⟩⟩⟩
/-- the streams that the claim lets the run draw from -/
abbrev lw_cs : List Choice := [Jvm.Choice.named "NaN.bits"]
theorem lw_bits : nanBits ∈ lw_cs := by first | decide | exact List.mem_cons_self | simp [lw_cs, nanBits]
end
section
/-! ===== BEGIN words of one list among another's, by their places ===== -/
theorem goodIn_r {big : List Cond} (ws : List Cond) (ps : List Nat) (hp : ws = ps.filterMap (fun i => big[i]?)) (h : ws.all goodWord = true) : GoodIn big ws := by
  intro w hw
  have h1 := List.all_eq_true.mp h w hw
  rw [hp] at hw
  obtain ⟨i, -, hi⟩ := List.mem_filterMap.mp hw
  have hm : w ∈ big := by first | exact List.mem_of_getElem? hi | exact List.getElem?_mem hi
  exact ⟨hm, good_of_word h1⟩
theorem goodIn_app {big a b : List Cond} (ha : GoodIn big a) (hb : GoodIn big b) : GoodIn big (a ++ b) := fun w h => (List.mem_append.mp h).elim (ha w) (hb w)
theorem goodIn_ca {big a b : List Cond} {c : Cond} (ha : GoodIn big (c :: a)) (hb : GoodIn big b) : GoodIn big (c :: (a ++ b)) := fun w h => (List.mem_cons.mp h).elim (fun e => ha w (List.mem_cons.mpr (Or.inl e))) (fun h => (List.mem_append.mp h).elim (fun h => ha w (List.mem_cons.mpr (Or.inr h))) (hb w))
theorem goodIn_sub {big ws : List Cond} (hm : ∀ w ∈ ws, w ∈ big) (h : ws.all goodWord = true) : GoodIn big ws := fun w hw => ⟨hm w hw, good_of_word (List.all_eq_true.mp h w hw)⟩
/-! ===== END ===== -/
/-! ===== BEGIN exceptions that leave a method, and their catching by the caller (launches without stack traces) ===== -/
section VXA
/-! The laws vx_back, vx_callV, vx_callS, vx_callSW, vx_throw0, vx_throwS follow proofs of the library, with one case more: JvmDerived/Free/Laws.lean (Back.of_free), Shelf42/LK1.lean (callV, callS), Shelf/KitTraced.lean (throwNew0V, throwNewS). -/
/-- where a method has thrown q: the class by its name, the cell, what was written, the world -/
def vx_T (XC : String → State → State → Prop) (st : State) (q : Addr) (t : State) (mc ms : Nat) (free : Addr → Prop) : Prop :=
  ∃ (E : String) (ce : Cell) (L : List Loc), XC E st t ∧ t.heap[q]? = some ce ∧ ce.vm = .none ∧ st.vm.findClass E = some ce.cls ∧ st.WarmedH t.vm ∧ st.sameButNew ({ t with vm := st.vm } : State) L mc ms ∧ ∀ z ∈ L, free z.base
def vx_Q (Qc : Array Value → State → Outcome → State → Prop) (XC : String → State → State → Prop) (mc ms : Nat) (free : Addr → Prop) : Array Value → State → Outcome → State → Prop := fun a st o t =>
  (Qc a st o t ∧ ∃ L, FrameEnd st o t L mc ms ∧ ∀ q ∈ L, free q.base) ∨ ∃ q, o = .threw q ∧ vx_T XC st q t mc ms free
/-- a callee that returns or throws -/
def vx_Met (l : Launch) (y : MethodName) (ws : List Cond) (rm : Room) (Pc : Array Value → State → Prop) (Qc : Array Value → State → Outcome → State → Prop) (XC : String → State → State → Prop) (mc ms : Nat) (free : Addr → Prop) : Prop :=
  MetFree l y (headSpec ws rm) Pc (fun _ _ _ _ _ => True) (vx_Q Qc XC mc ms free)
def vx_Post (XC : String → State → State → Prop) (mc ms : Nat) (free : Addr → Prop) : Pt → Array Value → Addr → Pt → Prop := fun A a q B =>
  ∃ (g : JFrame) (mk : MethodId) (t : State) (L : List Loc) (E : String) (ce : Cell), B.U.heap = t.heap ∧ B.U.vm = t.vm ∧ XC E (A.U.calling g mk a) t ∧ t.heap[q]? = some ce ∧ ce.vm = .none ∧ A.U.vm.findClass E = some ce.cls ∧ B.locs = A.locs ++ L ∧ (∀ z ∈ L, free z.base) ∧ B.cells = A.cells + mc ∧ B.slots = A.slots + ms
def vx_Back (l : Launch) (R : Room) (p : Program) (e : Env) (below : List Frame) (s : State) (sargs : Array Value) (y : MethodName) (len W9 : Nat)
    (Pre : Pt → Array Value → Prop) (Post : Pt → Array Value → Option Value → Pt → Prop) (PostX : Pt → Array Value → Addr → Pt → Prop) : Prop :=
  ∀ (m : MethodId) (meth : Method) (c : Code) (A : Pt) (g : JFrame) (ig : Instr) (mk : MethodId) (a : Array Value),
    Stand p l e R s m sargs below meth c A.U A.locs A.cells A.slots → g.method = m → g.locals.size = c.maxLocals → decode c.code g.pc = .ok (ig, len) →
    2 * g.monitorRoom + (g.stack.map fun v => v.category).sum ≤ W9 → A.U.methodNamed? y = some mk → Pre A a →
    (∃ (v : Option Value) (B : Pt), Stand p l e R s m sargs below meth c B.U B.locs B.cells B.slots ∧ Post A a v B ∧
      Steps p.tables e below (doInvoke e (A.U.setTop g) [] mk a).1 (B.U.setTop { g with pc := g.pc + len, stack := v.toList ++ g.stack })) ∨
    (∃ (q : Addr) (B : Pt), Stand p l e R s m sargs below meth c B.U B.locs B.cells B.slots ∧ PostX A a q B ∧
      Steps p.tables e below (doInvoke e (A.U.setTop g) [] mk a).1 ((B.U.setTop g).pushFrame (.throwing q)))
section Payer
variable {l : Launch} {R : Room} {p : Program} {e : Env} {below : List Frame} {s : State} {sargs : Array Value} {y : MethodName} {len W9 : Nat}
theorem vx_back {ws : List Cond} {rm : Room} {Pc : Array Value → State → Prop} {Qc : Array Value → State → Outcome → State → Prop} {XC : String → State → State → Prop} {mc ms : Nat} {free : Addr → Prop} {bytes : ByteArray} {maxL : Nat} {ret : Option FieldType}
    (hM : vx_Met l y ws rm Pc Qc XC mc ms free) (hblind : FrameBlind Pc) (hrc : rm.cells = mc) (hrs : rm.slots = ms)
    (hframes : rm.frames + 1 ≤ R.frames) (hlocals : W9 + (maxL + 11) + rm.locals ≤ R.locals)
    (hws : ∀ w ∈ ws, ∀ a' U, s.WarmedH U.vm → w.before a' U = true) (hcode : Cond.code y bytes maxL ret ∈ ws) (hinit : ∀ a' U, s.WarmedH U.vm → (Cond.initialized y.cls).before a' U = true) :
    vx_Back l R p e below s sargs y len W9 (PreOf R mc ms Pc) (PostOf Qc mc ms free) (vx_Post XC mc ms free) := by
  intro m meth c A g ig mk a X hg hsize hdg hW hn hp
  have h1 : (headSpec ws rm).pre.before a A.U = true := atoms_intro fun w hw => hws w hw _ _ X.warmed
  have h2 : (Cond.code y bytes maxL ret).before a A.U = true := hws _ hcode _ _ X.warmed
  have h3 : (Cond.initialized y.cls).before a A.U = true := hinit _ _ X.warmed
  have h4 : A.cells + (headSpec ws rm).room.cells ≤ R.cells := by rw [show (headSpec ws rm).room.cells = mc from hrc]; exact hp.1
  have h5 : A.slots + (headSpec ws rm).room.slots ≤ R.slots := by rw [show (headSpec ws rm).room.slots = ms from hrs]; exact hp.2.1
  have hPc : Pc a (A.U.calling g mk a) := hblind _ _ _ _ hp.2.2
  obtain ⟨U, Ls, c0, s0⟩ := A
  dsimp only [Pt.U, Pt.locs, Pt.cells, Pt.slots] at h1 h2 h3 h4 h5 X hn hPc ⊢
  obtain ⟨methY, cY, hmY, hcY, -, hlY, -, -, -, -⟩ := Cond.code_spec hn h2
  obtain ⟨kY, hkY, -⟩ := className_of_methodNamed hn
  have hinitY : kY.init = .initialized := Cond.initialized_spec (findClass_of_methodNamed hn) hkY h3
  have h : At U g.method c below := by rw [hg]; exact X.here
  have hlocals9 : W9 + (maxL + 11) + (headSpec ws rm).room.locals ≤ R.locals := hlocals
  have happ : (headSpec ws rm).appliesLoose y e.platform (U.calling g mk a) = true :=
    Spec.appliesLoose_calling (g := g) h hdg hn hkY hinitY
      (X.room_calling (g := g) (R' := (headSpec ws rm).room) hsize hmY hcY hframes (by rw [hlY]; omega) h4 h5) h1
  obtain ⟨mid, hmid⟩ := h.above
  have hfr : (U.setTop g).frames = (.java g :: mid) ++ below := by rw [State.frames_setTop' g h.top, hmid]; rfl
  obtain ⟨o, s₂, hsteps, -, hend, hq⟩ := Steps.callFree hM p X.admits X.cas X.clock (acts := []) hfr happ hPc trivial
  have hq' : vx_Q Qc XC mc ms free a (U.calling g mk a) o s₂ := hq
  rw [State.frames_setTop' g h.top] at hend
  obtain ⟨g₀, hg0⟩ := Option.isSome_iff_exists.mp h.top
  obtain ⟨r, hr⟩ := State.topJava?_eq_some.mp hg0
  have hr' : (({ U with heap := s₂.heap, slotsUsed := s₂.slotsUsed } : State).setVm s₂.vm).frames = .java g₀ :: r := hr
  rcases hq' with ⟨hqc, L, hfe, hL⟩ | ⟨q, rfl, E, ce, L, hx, hce, hcv, hcl, hW₂, hsm, hL⟩
  · obtain ⟨⟨v, rfl⟩, hW₂, e2, q2, q3, q4, q5, q6⟩ := id hfe
    have e3 : s₂ = ({ (U.calling g mk a).setFrames s₂.frames with heap := s₂.heap, slotsUsed := s₂.slotsUsed } : State).setVm s₂.vm := by
      have : s₂ = ({ s₂ with vm := (U.calling g mk a).vm } : State).setVm s₂.vm := rfl
      rw [e2] at this
      exact this
    obtain ⟨c₂, i₂, len₂, hc₂, hd₂, hf₂⟩ := hend
    have hW' : U.WarmedH s₂.vm := hW₂
    have hcc : c₂ = c := by
      have h1 : s₂.code? g.method = U.code? g.method := by
        rw [State.code?_eq, State.code?_eq, hW'.alike.method?]
      exact Option.some.inj (hc₂.symm.trans (h1.trans h.code))
    subst hcc
    have hlen : len₂ = len := by rw [hdg] at hd₂; cases hd₂; rfl
    subst hlen
    have hs₂ : s₂ = (({ U with heap := s₂.heap, slotsUsed := s₂.slotsUsed } : State).setVm s₂.vm).setTop { g with pc := g.pc + len₂, stack := v.toList ++ g.stack } := by
      refine e3.trans ?_
      rw [hf₂, State.calling_eq h.top, State.setFrames_setFrames, State.setTop_of_frames _ hr', hr]
      rfl
    have hsame : U.sameButNew ({ U with heap := s₂.heap, slotsUsed := s₂.slotsUsed } : State) L mc ms := by
      refine ⟨?_, q2, q3, q4, q5, q6⟩
      obtain ⟨t, ht, -⟩ := State.frames_cons hr
      show ({ U with heap := s₂.heap, slotsUsed := s₂.slotsUsed } : State) = { U.setFrames U.frames with heap := s₂.heap, slotsUsed := s₂.slotsUsed }
      rw [State.setFrames_self ht]
    subst hg
    refine Or.inl ⟨v, ⟨(({ U with heap := s₂.heap, slotsUsed := s₂.slotsUsed } : State).setVm s₂.vm), Ls ++ L, c0 + mc, s0 + ms⟩,
      ⟨X.admits, X.cas, X.clock, X.frames, X.room, X.hears, X.method, X.code, (X.here.setHeapUsed s₂.heap s₂.slotsUsed).setVm hW'.alike, X.tail, State.WarmedH.trans X.warmed hW', X.limits, X.bytes, X.same.trans (hsame.setVm s.vm)⟩,
      ⟨g, mk, s₂, L, rfl, rfl, hqc, rfl, hL, rfl, rfl⟩, ?_⟩
    show Steps p.tables e below _ ((({ U with heap := s₂.heap, slotsUsed := s₂.slotsUsed } : State).setVm s₂.vm).setTop { g with pc := g.pc + len₂, stack := v.toList ++ g.stack })
    rw [← hs₂]
    exact hsteps
  · obtain ⟨e2, q2, q3, q4, q5, q6⟩ := id hsm
    have e3 : s₂ = ({ (U.calling g mk a).setFrames s₂.frames with heap := s₂.heap, slotsUsed := s₂.slotsUsed } : State).setVm s₂.vm := by
      have : s₂ = ({ s₂ with vm := (U.calling g mk a).vm } : State).setVm s₂.vm := rfl
      rw [e2] at this
      exact this
    have hf₂ : s₂.frames = .throwing q :: .java g :: U.frames.tail := hend
    have hW' : U.WarmedH s₂.vm := hW₂
    have hs₂ : s₂ = ((({ U with heap := s₂.heap, slotsUsed := s₂.slotsUsed } : State).setVm s₂.vm).setTop g).pushFrame (.throwing q) := by
      refine e3.trans ?_
      rw [hf₂, State.calling_eq h.top, State.setFrames_setFrames, State.pushFrame, State.frames_setTop _ hr', State.setTop_of_frames _ hr', State.setFrames_setFrames, hr]
      rfl
    have hsame : U.sameButNew ({ U with heap := s₂.heap, slotsUsed := s₂.slotsUsed } : State) L mc ms := by
      refine ⟨?_, q2, q3, q4, q5, q6⟩
      obtain ⟨t, ht, -⟩ := State.frames_cons hr
      show ({ U with heap := s₂.heap, slotsUsed := s₂.slotsUsed } : State) = { U.setFrames U.frames with heap := s₂.heap, slotsUsed := s₂.slotsUsed }
      rw [State.setFrames_self ht]
    subst hg
    refine Or.inr ⟨q, ⟨(({ U with heap := s₂.heap, slotsUsed := s₂.slotsUsed } : State).setVm s₂.vm), Ls ++ L, c0 + mc, s0 + ms⟩,
      ⟨X.admits, X.cas, X.clock, X.frames, X.room, X.hears, X.method, X.code, (X.here.setHeapUsed s₂.heap s₂.slotsUsed).setVm hW'.alike, X.tail, State.WarmedH.trans X.warmed hW', X.limits, X.bytes, X.same.trans (hsame.setVm s.vm)⟩,
      ⟨g, mk, s₂, L, E, ce, rfl, rfl, hx, hce, hcv, hcl, rfl, hL, rfl, rfl⟩, ?_⟩
    show Steps p.tables e below _ (((({ U with heap := s₂.heap, slotsUsed := s₂.slotsUsed } : State).setVm s₂.vm).setTop g).pushFrame (.throwing q))
    rw [← hs₂]
    exact hsteps
end Payer
section Calls
variable {p : Program} {l : Launch} {e : Env} {R : Room} {s : State} {m : MethodId} {args : Array Value} {below : List Frame} {meth : Method} {c : Code} {T : State} {locs : List Loc} {cells slots : Nat}
theorem vx_callV (X : Stand p l e R s m args below meth c T locs cells slots) (hexec : p.tables.exec = Jvm.exec) {own C : String} {index : Nat} {y : MethodName} {bytes : ByteArray} {maxL : Nat} {ret : Option FieldType}
    (hown : s.vm.findClass own = some m.cls) (hlink : (Cond.methodLink own index y).before args s = true) (hinst : (Cond.instanceMethod y).before args s = true) (hsel : (Cond.selects C y y).before args s = true)
    (hcode : (Cond.code y bytes maxL ret).before args s = true) (hy : y.cls ≠ "java/lang/invoke/MethodHandle" ∧ y.cls ≠ "java/lang/invoke/VarHandle")
    {W9 : Nat} {Pre : Pt → Array Value → Prop} {Post : Pt → Array Value → Option Value → Pt → Prop} {PostX : Pt → Array Value → Addr → Pt → Prop} (hK : vx_Back l R p e below s args y 3 W9 Pre Post PostX)
    {b : Addr} {cellB : Cell} (hcell : T.heap[b]? = some cellB) (hobj : cellB.vm.isStatics = false) (hcls : s.vm.findClass C = some cellB.cls)
    {g : JFrame} (hg : g.method = m) (hsize : g.locals.size = c.maxLocals) {argsL rest : List Value} (hlen : ∀ sig, parseMethodDescriptor y.desc = some sig → argsL.length = sig.parameters.length)
    (hstack : g.stack = argsL.reverse ++ .ref b :: rest) (hW : 2 * g.monitorRoom + (rest.map fun v => v.category).sum ≤ W9) (hdg : decode c.code g.pc = .ok (.invokevirtual index, 3))
    (hpre : ∀ vm₁, s.WarmedH vm₁ → Pre ⟨T.setVm vm₁, locs, cells, slots⟩ (Value.ref b :: argsL).toArray) :
    (∃ (v : Option Value) (vm₁ : Vm) (B : Pt), s.WarmedH vm₁ ∧ Stand p l e R s m args below meth c B.U B.locs B.cells B.slots ∧ Post ⟨T.setVm vm₁, locs, cells, slots⟩ (Value.ref b :: argsL).toArray v B ∧
      ∀ target, Steps p.tables e below (B.U.setTop { g with pc := g.pc + 3, stack := v.toList ++ rest }) target → Steps p.tables e below (T.setTop g) target) ∨
    (∃ (q : Addr) (vm₁ : Vm) (B : Pt), s.WarmedH vm₁ ∧ Stand p l e R s m args below meth c B.U B.locs B.cells B.slots ∧ PostX ⟨T.setVm vm₁, locs, cells, slots⟩ (Value.ref b :: argsL).toArray q B ∧
      Steps p.tables e below (T.setTop g) ((B.U.setTop { g with stack := rest }).pushFrame (.throwing q))) := by
  obtain ⟨mk, methM, hnamed, hmethM, hstM, habM⟩ := Cond.instanceMethod_spec hinst
  obtain ⟨methM', cM, hmethM', -, -, -, -, -, -, hsigM⟩ := Cond.code_spec hnamed hcode
  cases hmethM.symm.trans hmethM'
  obtain ⟨c2, r2, m2, q1, q2, q3, q4, kP, hkP, hkPi⟩ := Cond.selects_spec hsel
  cases hcls.symm.trans q1
  cases (State.methodFound?_of_named hnamed hy).symm.trans q2
  cases hnamed.symm.trans q3
  have hselP : selectMethod e.platform s.vm cellB.cls mk = .method mk := by rw [Launch.admits_selectMethod X.admits]; exact q4
  obtain ⟨vm₁, X₁, hstep₁⟩ := X.invokevirtual hexec hown hlink hnamed hmethM hstM hkP hkPi hy (a := b) (cell := cellB) hcell
    (fun z h => by rw [h] at hobj; cases hobj) hselP hmethM habM hkP hkPi (g := g) hg (argsL := argsL) (rest := rest) (hlen _ hsigM) hstack hdg
  rcases hK m meth c ⟨T.setVm vm₁, locs, cells, slots⟩ { g with stack := rest } (.invokevirtual index) mk (Value.ref b :: argsL).toArray X₁ hg hsize hdg hW (X₁.named hnamed) (hpre vm₁ X₁.warmed) with ⟨v, B, X', hpost, hsteps⟩ | ⟨q, B, X', hpost, hsteps⟩
  · exact Or.inl ⟨v, vm₁, B, X₁.warmed, X', hpost, fun target h => hstep₁ _ fun acts => by rw [doInvoke_state]; exact hsteps.trans h⟩
  · exact Or.inr ⟨q, vm₁, B, X₁.warmed, X', hpost, hstep₁ _ fun acts => by rw [doInvoke_state]; exact hsteps⟩
theorem vx_callS (X : Stand p l e R s m args below meth c T locs cells slots) (hexec : p.tables.exec = Jvm.exec) {own : String} {index : Nat} {y : MethodName} {bytes : ByteArray} {maxL : Nat} {ret : Option FieldType}
    (hown : s.vm.findClass own = some m.cls) (hlink : (Cond.methodLink own index y).before args s = true) (hstat : (Cond.static y).before args s = true) (hinit : (Cond.initialized y.cls).before args s = true)
    (hcode : (Cond.code y bytes maxL ret).before args s = true) (hy : y.cls ≠ "java/lang/invoke/MethodHandle" ∧ y.cls ≠ "java/lang/invoke/VarHandle")
    {W9 : Nat} {Pre : Pt → Array Value → Prop} {Post : Pt → Array Value → Option Value → Pt → Prop} {PostX : Pt → Array Value → Addr → Pt → Prop} (hK : vx_Back l R p e below s args y 3 W9 Pre Post PostX)
    {g : JFrame} (hg : g.method = m) (hsize : g.locals.size = c.maxLocals) {argsL rest : List Value} (hlen : ∀ sig, parseMethodDescriptor y.desc = some sig → argsL.length = sig.parameters.length)
    (hstack : g.stack = argsL.reverse ++ rest) (hW : 2 * g.monitorRoom + (rest.map fun v => v.category).sum ≤ W9) (hdg : decode c.code g.pc = .ok (.invokestatic index, 3))
    (hpre : ∀ vm₁, s.WarmedH vm₁ → Pre ⟨T.setVm vm₁, locs, cells, slots⟩ argsL.toArray) :
    (∃ (v : Option Value) (vm₁ : Vm) (B : Pt), s.WarmedH vm₁ ∧ Stand p l e R s m args below meth c B.U B.locs B.cells B.slots ∧ Post ⟨T.setVm vm₁, locs, cells, slots⟩ argsL.toArray v B ∧
      ∀ target, Steps p.tables e below (B.U.setTop { g with pc := g.pc + 3, stack := v.toList ++ rest }) target → Steps p.tables e below (T.setTop g) target) ∨
    (∃ (q : Addr) (vm₁ : Vm) (B : Pt), s.WarmedH vm₁ ∧ Stand p l e R s m args below meth c B.U B.locs B.cells B.slots ∧ PostX ⟨T.setVm vm₁, locs, cells, slots⟩ argsL.toArray q B ∧
      Steps p.tables e below (T.setTop g) ((B.U.setTop { g with stack := rest }).pushFrame (.throwing q))) := by
  obtain ⟨mk, hnamed⟩ := Cond.code_named hcode
  obtain ⟨methM, cM, hmethM, -, -, -, -, -, -, hsigM⟩ := Cond.code_spec hnamed hcode
  have hstatic : methM.isStatic = true := Cond.static_spec hnamed hmethM hstat
  obtain ⟨kP, hkP, -⟩ := className_of_methodNamed hnamed
  have hinitP : kP.init = .initialized := Cond.initialized_spec (findClass_of_methodNamed hnamed) hkP hinit
  obtain ⟨vm₁, X₁, hstep₁⟩ := X.invokestatic hexec hown hlink hnamed hmethM hstatic hkP hinitP hy (g := g) hg (argsL := argsL) (rest := rest) (hlen _ hsigM) hstack hdg
  rcases hK m meth c ⟨T.setVm vm₁, locs, cells, slots⟩ { g with stack := rest } (.invokestatic index) mk argsL.toArray X₁ hg hsize hdg hW (X₁.named hnamed) (hpre vm₁ X₁.warmed) with ⟨v, B, X', hpost, hsteps⟩ | ⟨q, B, X', hpost, hsteps⟩
  · exact Or.inl ⟨v, vm₁, B, X₁.warmed, X', hpost, fun target h => hstep₁ _ fun acts => by rw [doInvoke_state]; exact hsteps.trans h⟩
  · exact Or.inr ⟨q, vm₁, B, X₁.warmed, X', hpost, hstep₁ _ fun acts => by rw [doInvoke_state]; exact hsteps⟩
end Calls
theorem vx_cls {s : State} {T : State} {vm₁ : Vm} {E : String} {k : ClassId} (hW : s.WarmedH vm₁) (h : (T.setVm vm₁).vm.findClass E = some k) : s.vm.findClass E = some k := by
  have h1 : vm₁.findClass E = some k := h
  rw [hW.alike.findClass] at h1
  exact h1
/-- the method's frame g, with q thrown over it -/
def vx_W (p : Program) (l : Launch) (e : Env) (R : Room) (s : State) (m : MethodId) (args : Array Value) (below : List Frame) (meth : Method) (c : Code) (H : Heap) (locs : List Loc) (cells slots : Nat) (Q : State → Prop) (g : JFrame) (q : Addr) : Prop :=
  ∀ T : State, T.heap = H → Stand p l e R s m args below meth c T locs cells slots → ∃ t, Steps p.tables e below ((T.setTop g).pushFrame (.throwing q)) t ∧ Q t
def vx_Run (p : Program) (l : Launch) (e : Env) (R : Room) (s : State) (m : MethodId) (args : Array Value) (below : List Frame) (meth : Method) (c : Code) (H : Heap) (locs : List Loc) (cells slots mc ms : Nat) (g : JFrame) (rest : List Value) (Qa : State → Outcome → State → Prop) (XC : String → State → State → Prop) (free : Addr → Prop) : Prop :=
  ∀ T : State, T.heap = H → Stand p l e R s m args below meth c T locs cells slots →
    (∃ (v : Option Value) (st₀ t T' : State) (L : List Loc), st₀.heap = H ∧ Stand p l e R s m args below meth c T' (locs ++ L) (cells + mc) (slots + ms) ∧ (∀ q ∈ L, free q.base) ∧ T'.heap = t.heap ∧ T'.vm = t.vm ∧ Qa st₀ (.returned v) t ∧
      Goes p e below T g T' { g with pc := g.pc + 3, stack := v.toList ++ rest }) ∨
    (∃ (q : Addr) (st₀ t T' : State) (L : List Loc) (E : String) (ce : Cell), st₀.heap = H ∧ Stand p l e R s m args below meth c T' (locs ++ L) (cells + mc) (slots + ms) ∧ (∀ z ∈ L, free z.base) ∧ T'.heap = t.heap ∧ T'.vm = t.vm ∧ XC E st₀ t ∧ t.heap[q]? = some ce ∧ ce.vm = .none ∧ s.vm.findClass E = some ce.cls ∧
      Steps p.tables e below (T.setTop g) ((T'.setTop { g with stack := rest }).pushFrame (.throwing q)))
def vx_X {S : Type} (px : S → Prop) (B : String → S → State → Prop) (A : Nat → Prop) : String → State → State → Prop := fun E st t => ∃ u : S, px u ∧ B E u t ∧ va_F A st t
section Runs
variable {p : Program} {l : Launch} {e : Env} {R : Room} {s : State} {m : MethodId} {args : Array Value} {below : List Frame} {meth : Method} {c : Code} {H : Heap} {locs : List Loc} {cells slots : Nat}
variable {y : MethodName} {bytes cc : ByteArray} {maxL nL mc ms n index : Nat} {ret : Option FieldType} {ws : List Cond} {rm : Room} {Pc : Array Value → State → Prop} {Qc : Array Value → State → Outcome → State → Prop} {XC : String → State → State → Prop} {free : Addr → Prop} {Ts : List Cond} {own C : String} {b : Addr} {As rest : List Value} {g : JFrame}
theorem vx_callBack (cb : CallB R s args own index y bytes maxL ret ws rm mc ms n) (hM : vx_Met l y ws rm Pc Qc XC mc ms free) (hbl : FrameBlind Pc) : vx_Back l R p e below s args y 3 8 (PreOf R mc ms Pc) (PostOf Qc mc ms free) (vx_Post XC mc ms free) := by
  obtain ⟨hrc, hrs, hfr, hlo, hws, hcw, -, hini, -⟩ := cb
  exact vx_back (bytes := bytes) (maxL := maxL) (ret := ret) hM hbl hrc hrs hfr hlo hws hcw (fun a' U hW => word_at hW (Or.inl (by first | rfl | simp [Cond.onTables, Cond.keeps, Cond.steady])) hini)
theorem vx_runV (S : CallFix p m c cc nL s args Ts own) (hM : vx_Met l y ws rm Pc Qc XC mc ms free) (cw : CallW R s args own C index y bytes maxL ret ws rm mc ms n) (hp : PreV s H C b Pc As)
    (hg : g.method = m) (hn : As.length = n) (hsize : g.locals.size = nL) (hstack : g.stack = As.reverse ++ .ref b :: rest) (hW : 2 * g.monitorRoom + (rest.map fun v => v.category).sum ≤ 8) (hdg : decode cc g.pc = .ok (.invokevirtual index, 3)) (hf : cells + mc ≤ R.cells ∧ slots + ms ≤ R.slots) :
    vx_Run p l e R s m args below meth c H locs cells slots mc ms g rest (Qc (Value.ref b :: As).toArray) XC free := by
  have hK : vx_Back l R p e below s args y 3 8 (PreOf R mc ms Pc) (PostOf Qc mc ms free) (vx_Post XC mc ms free) := vx_callBack cw.1 hM hp.1
  obtain ⟨⟨-, -, -, -, -, -, hcode, -, hy, hlen, hl⟩, hin, hse⟩ := cw
  obtain ⟨hx, hb, hml, ho, -⟩ := S
  obtain ⟨-, ⟨cellB, hcB, hoB, hclB⟩, hPc⟩ := hp
  intro T hT X
  rcases vx_callV X hx (C := C) (bytes := bytes) (maxL := maxL) (ret := ret) ho hl hin hse hcode hy hK (by rw [hT]; exact hcB) hoB hclB hg (hsize.trans hml.symm) (argsL := As) (rest := rest) (fun sig h => hn.trans (hlen sig h)) hstack hW (by rw [hb]; exact hdg)
    (fun vm₁ hW₁ => ⟨hf.1, hf.2, hPc (T.setVm vm₁) hT hW₁⟩) with ⟨v, vm₁, ⟨U', l2, c2, s2⟩, hW₁, X', ⟨g', mk, t, L, e1, e2, hq, h1, hL, h2, h3⟩, st⟩ | ⟨q, vm₁, ⟨U', l2, c2, s2⟩, hW₁, X', ⟨g', mk, t, L, E, ce, e1, e2, hq, hce, hcv, hcl, h1, hL, h2, h3⟩, st⟩
  · dsimp only [Pt.U, Pt.locs, Pt.cells, Pt.slots] at X' e1 e2 h1 h2 h3 st
    subst h1; subst h2; subst h3
    exact Or.inl ⟨v, (T.setVm vm₁).calling g' mk (Value.ref b :: As).toArray, t, U', L, hT, X', hL, e1, e2, hq, st⟩
  · dsimp only [Pt.U, Pt.locs, Pt.cells, Pt.slots] at X' e1 e2 h1 h2 h3 st hcl
    subst h1; subst h2; subst h3
    exact Or.inr ⟨q, (T.setVm vm₁).calling g' mk (Value.ref b :: As).toArray, t, U', L, E, ce, hT, X', hL, e1, e2, hq, hce, hcv, vx_cls hW₁ hcl, st⟩
theorem vx_runS (S : CallFix p m c cc nL s args Ts own) (hM : vx_Met l y ws rm Pc Qc XC mc ms free) (cw : CallB R s args own index y bytes maxL ret ws rm mc ms n ∧ (Cond.static y).before args s = true) (hp : PreS s H Pc As)
    (hg : g.method = m) (hn : As.length = n) (hsize : g.locals.size = nL) (hstack : g.stack = As.reverse ++ rest) (hW : 2 * g.monitorRoom + (rest.map fun v => v.category).sum ≤ 8) (hdg : decode cc g.pc = .ok (.invokestatic index, 3)) (hf : cells + mc ≤ R.cells ∧ slots + ms ≤ R.slots) :
    vx_Run p l e R s m args below meth c H locs cells slots mc ms g rest (Qc As.toArray) XC free := by
  have hK : vx_Back l R p e below s args y 3 8 (PreOf R mc ms Pc) (PostOf Qc mc ms free) (vx_Post XC mc ms free) := vx_callBack cw.1 hM hp.1
  obtain ⟨⟨-, -, -, -, -, -, hcode, hini, hy, hlen, hl⟩, hstt⟩ := cw
  obtain ⟨hx, hb, hml, ho, -⟩ := S
  intro T hT X
  rcases vx_callS X hx (bytes := bytes) (maxL := maxL) (ret := ret) ho hl hstt hini hcode hy hK hg (hsize.trans hml.symm) (argsL := As) (rest := rest) (fun sig h => hn.trans (hlen sig h)) hstack hW (by rw [hb]; exact hdg)
    (fun vm₁ hW₁ => ⟨hf.1, hf.2, hp.2 (T.setVm vm₁) hT hW₁⟩) with ⟨v, vm₁, ⟨U', l2, c2, s2⟩, hW₁, X', ⟨g', mk, t, L, e1, e2, hq, h1, hL, h2, h3⟩, st⟩ | ⟨q, vm₁, ⟨U', l2, c2, s2⟩, hW₁, X', ⟨g', mk, t, L, E, ce, e1, e2, hq, hce, hcv, hcl, h1, hL, h2, h3⟩, st⟩
  · dsimp only [Pt.U, Pt.locs, Pt.cells, Pt.slots] at X' e1 e2 h1 h2 h3 st
    subst h1; subst h2; subst h3
    exact Or.inl ⟨v, (T.setVm vm₁).calling g' mk As.toArray, t, U', L, hT, X', hL, e1, e2, hq, st⟩
  · dsimp only [Pt.U, Pt.locs, Pt.cells, Pt.slots] at X' e1 e2 h1 h2 h3 st hcl
    subst h1; subst h2; subst h3
    exact Or.inr ⟨q, (T.setVm vm₁).calling g' mk As.toArray, t, U', L, E, ce, hT, X', hL, e1, e2, hq, hce, hcv, vx_cls hW₁ hcl, st⟩
end Runs
section Rows
variable {p : Program} {l : Launch} {e : Env} {R : Room} {s : State} {m : MethodId} {args : Array Value} {below : List Frame} {meth : Method} {c : Code} {H : Heap} {locs : List Loc} {cells slots : Nat} {Q : State → Prop}
variable {mc ms : Nat} {free : Addr → Prop} {A0 A1 : Nat → Prop} {H0 : Heap} {a : Array Value} {pc : Nat} {ls : Array Slot} {st0 rest : List Value}
theorem vx_keep {st₀ t T' : State} {L : List Loc} (h0 : st₀.heap = H) (e1 : T'.heap = t.heap) (hS : va_S A0 H0 H locs) (hA : ∀ q, q < H.size → A1 q → A0 q) (hf : ∀ q, free q → A0 q) (hL : ∀ q ∈ L, free q.base) (hF : va_F A1 st₀ t) :
    H.size ≤ T'.heap.size ∧ (∀ q : Nat, q < H.size → ¬ A1 q → T'.heap[q]? = H[q]?) ∧ va_S A0 H0 T'.heap (locs ++ L) := by
  obtain ⟨hz, hk⟩ := hF
  rw [h0] at hz hk
  exact ⟨by rw [e1]; exact hz, fun q h1 h2 => by rw [e1]; exact hk q h1 h2,
    ⟨Nat.le_trans hS.1 (by rw [e1]; exact hz), fun q h1 h2 => by rw [e1, hk q (Nat.lt_of_lt_of_le h1 hS.1) (fun z => h2 (hA q (Nat.lt_of_lt_of_le h1 hS.1) z))]; exact hS.2.1 q h1 h2, fun q hq => by
      rcases List.mem_append.mp hq with h | h
      · exact hS.2.2 q h
      · exact hf _ (hL q h)⟩⟩
theorem vx_calli {S SX : Type} {post : Int32 → S → Prop} {px : SX → Prop} {B : S → State → Prop} {BX : String → SX → State → Prop} {AX : Nat → Prop} (hr : vx_Run p l e R s m args below meth c H locs cells slots mc ms (F0 m pc ls st0) rest (va_Qi post B A1 a) (vx_X px BX AX) free) (hS : va_S A0 H0 H locs) (hA : ∀ q, q < H.size → A1 q → A0 q) (hf : ∀ q, free q → A0 q) (hAX : ∀ q, q < H.size → AX q → A0 q)
    (kx : ∀ (E : String) (ce : Cell) (q9 : Addr) (u : SX) (t : State) (H1 : Heap) (locs1 : List Loc), t.heap = H1 → s.vm.Alike t.vm → px u → BX E u t → H.size ≤ H1.size → (∀ q : Nat, q < H.size → ¬ AX q → H1[q]? = H[q]?) → va_S A0 H0 H1 locs1 → H1[q9]? = some ce → ce.vm = .none → s.vm.findClass E = some ce.cls → vx_W p l e R s m args below meth c H1 locs1 (cells + mc) (slots + ms) Q (F0 m pc ls rest) q9)
    (kk : ∀ (r : Int32) (u : S) (t : State) (H1 : Heap) (locs1 : List Loc), t.heap = H1 → s.vm.Alike t.vm → post r u → B u t → H.size ≤ H1.size → (∀ q : Nat, q < H.size → ¬ A1 q → H1[q]? = H[q]?) → va_S A0 H0 H1 locs1 → W p l e R s m args below meth c H1 locs1 (cells + mc) (slots + ms) Q (F0 m (pc + 3) ls (.int r :: rest))) : W p l e R s m args below meth c H locs cells slots Q (F0 m pc ls st0) := by
  intro T hT X
  rcases hr T hT X with ⟨v, st₀, t, T', L, h0, X', hL, e1, e2, ⟨⟨r, u, hv, hp, hb⟩, hF⟩, st⟩ | ⟨q, st₀, t, T', L, E, ce, h0, X', hL, e1, e2, ⟨u, hp, hb, hF⟩, hce, hcv, hcl, st⟩
  · cases hv
    obtain ⟨k1, k2, k3⟩ := vx_keep h0 e1 hS hA hf hL hF
    obtain ⟨t2, a1, b1⟩ := kk r u t T'.heap (locs ++ L) e1.symm (by rw [← e2]; exact X'.warmed.alike) hp hb k1 k2 k3 T' rfl X'
    exact ⟨t2, st t2 a1, b1⟩
  · obtain ⟨k1, k2, k3⟩ := vx_keep h0 e1 hS hAX hf hL hF
    obtain ⟨t2, a1, b1⟩ := kx E ce q u t T'.heap (locs ++ L) e1.symm (by rw [← e2]; exact X'.warmed.alike) hp hb k1 k2 k3 (by rw [e1]; exact hce) hcv hcl T' rfl X'
    exact ⟨t2, st.trans a1, b1⟩
theorem vx_calll {S SX : Type} {post : Int64 → S → Prop} {px : SX → Prop} {B : S → State → Prop} {BX : String → SX → State → Prop} {AX : Nat → Prop} (hr : vx_Run p l e R s m args below meth c H locs cells slots mc ms (F0 m pc ls st0) rest (va_Ql post B A1 a) (vx_X px BX AX) free) (hS : va_S A0 H0 H locs) (hA : ∀ q, q < H.size → A1 q → A0 q) (hf : ∀ q, free q → A0 q) (hAX : ∀ q, q < H.size → AX q → A0 q)
    (kx : ∀ (E : String) (ce : Cell) (q9 : Addr) (u : SX) (t : State) (H1 : Heap) (locs1 : List Loc), t.heap = H1 → s.vm.Alike t.vm → px u → BX E u t → H.size ≤ H1.size → (∀ q : Nat, q < H.size → ¬ AX q → H1[q]? = H[q]?) → va_S A0 H0 H1 locs1 → H1[q9]? = some ce → ce.vm = .none → s.vm.findClass E = some ce.cls → vx_W p l e R s m args below meth c H1 locs1 (cells + mc) (slots + ms) Q (F0 m pc ls rest) q9)
    (kk : ∀ (r : Int64) (u : S) (t : State) (H1 : Heap) (locs1 : List Loc), t.heap = H1 → s.vm.Alike t.vm → post r u → B u t → H.size ≤ H1.size → (∀ q : Nat, q < H.size → ¬ A1 q → H1[q]? = H[q]?) → va_S A0 H0 H1 locs1 → W p l e R s m args below meth c H1 locs1 (cells + mc) (slots + ms) Q (F0 m (pc + 3) ls (.long r :: rest))) : W p l e R s m args below meth c H locs cells slots Q (F0 m pc ls st0) := by
  intro T hT X
  rcases hr T hT X with ⟨v, st₀, t, T', L, h0, X', hL, e1, e2, ⟨⟨r, u, hv, hp, hb⟩, hF⟩, st⟩ | ⟨q, st₀, t, T', L, E, ce, h0, X', hL, e1, e2, ⟨u, hp, hb, hF⟩, hce, hcv, hcl, st⟩
  · cases hv
    obtain ⟨k1, k2, k3⟩ := vx_keep h0 e1 hS hA hf hL hF
    obtain ⟨t2, a1, b1⟩ := kk r u t T'.heap (locs ++ L) e1.symm (by rw [← e2]; exact X'.warmed.alike) hp hb k1 k2 k3 T' rfl X'
    exact ⟨t2, st t2 a1, b1⟩
  · obtain ⟨k1, k2, k3⟩ := vx_keep h0 e1 hS hAX hf hL hF
    obtain ⟨t2, a1, b1⟩ := kx E ce q u t T'.heap (locs ++ L) e1.symm (by rw [← e2]; exact X'.warmed.alike) hp hb k1 k2 k3 (by rw [e1]; exact hce) hcv hcl T' rfl X'
    exact ⟨t2, st.trans a1, b1⟩
theorem vx_callf {S SX : Type} {post : UInt32 → S → Prop} {px : SX → Prop} {B : S → State → Prop} {BX : String → SX → State → Prop} {AX : Nat → Prop} (hr : vx_Run p l e R s m args below meth c H locs cells slots mc ms (F0 m pc ls st0) rest (va_Qf post B A1 a) (vx_X px BX AX) free) (hS : va_S A0 H0 H locs) (hA : ∀ q, q < H.size → A1 q → A0 q) (hf : ∀ q, free q → A0 q) (hAX : ∀ q, q < H.size → AX q → A0 q)
    (kx : ∀ (E : String) (ce : Cell) (q9 : Addr) (u : SX) (t : State) (H1 : Heap) (locs1 : List Loc), t.heap = H1 → s.vm.Alike t.vm → px u → BX E u t → H.size ≤ H1.size → (∀ q : Nat, q < H.size → ¬ AX q → H1[q]? = H[q]?) → va_S A0 H0 H1 locs1 → H1[q9]? = some ce → ce.vm = .none → s.vm.findClass E = some ce.cls → vx_W p l e R s m args below meth c H1 locs1 (cells + mc) (slots + ms) Q (F0 m pc ls rest) q9)
    (kk : ∀ (r : UInt32) (u : S) (t : State) (H1 : Heap) (locs1 : List Loc), t.heap = H1 → s.vm.Alike t.vm → post r u → B u t → H.size ≤ H1.size → (∀ q : Nat, q < H.size → ¬ A1 q → H1[q]? = H[q]?) → va_S A0 H0 H1 locs1 → W p l e R s m args below meth c H1 locs1 (cells + mc) (slots + ms) Q (F0 m (pc + 3) ls (.float r :: rest))) : W p l e R s m args below meth c H locs cells slots Q (F0 m pc ls st0) := by
  intro T hT X
  rcases hr T hT X with ⟨v, st₀, t, T', L, h0, X', hL, e1, e2, ⟨⟨r, u, hv, hp, hb⟩, hF⟩, st⟩ | ⟨q, st₀, t, T', L, E, ce, h0, X', hL, e1, e2, ⟨u, hp, hb, hF⟩, hce, hcv, hcl, st⟩
  · cases hv
    obtain ⟨k1, k2, k3⟩ := vx_keep h0 e1 hS hA hf hL hF
    obtain ⟨t2, a1, b1⟩ := kk r u t T'.heap (locs ++ L) e1.symm (by rw [← e2]; exact X'.warmed.alike) hp hb k1 k2 k3 T' rfl X'
    exact ⟨t2, st t2 a1, b1⟩
  · obtain ⟨k1, k2, k3⟩ := vx_keep h0 e1 hS hAX hf hL hF
    obtain ⟨t2, a1, b1⟩ := kx E ce q u t T'.heap (locs ++ L) e1.symm (by rw [← e2]; exact X'.warmed.alike) hp hb k1 k2 k3 (by rw [e1]; exact hce) hcv hcl T' rfl X'
    exact ⟨t2, st.trans a1, b1⟩
theorem vx_calld {S SX : Type} {post : UInt64 → S → Prop} {px : SX → Prop} {B : S → State → Prop} {BX : String → SX → State → Prop} {AX : Nat → Prop} (hr : vx_Run p l e R s m args below meth c H locs cells slots mc ms (F0 m pc ls st0) rest (va_Qd post B A1 a) (vx_X px BX AX) free) (hS : va_S A0 H0 H locs) (hA : ∀ q, q < H.size → A1 q → A0 q) (hf : ∀ q, free q → A0 q) (hAX : ∀ q, q < H.size → AX q → A0 q)
    (kx : ∀ (E : String) (ce : Cell) (q9 : Addr) (u : SX) (t : State) (H1 : Heap) (locs1 : List Loc), t.heap = H1 → s.vm.Alike t.vm → px u → BX E u t → H.size ≤ H1.size → (∀ q : Nat, q < H.size → ¬ AX q → H1[q]? = H[q]?) → va_S A0 H0 H1 locs1 → H1[q9]? = some ce → ce.vm = .none → s.vm.findClass E = some ce.cls → vx_W p l e R s m args below meth c H1 locs1 (cells + mc) (slots + ms) Q (F0 m pc ls rest) q9)
    (kk : ∀ (r : UInt64) (u : S) (t : State) (H1 : Heap) (locs1 : List Loc), t.heap = H1 → s.vm.Alike t.vm → post r u → B u t → H.size ≤ H1.size → (∀ q : Nat, q < H.size → ¬ A1 q → H1[q]? = H[q]?) → va_S A0 H0 H1 locs1 → W p l e R s m args below meth c H1 locs1 (cells + mc) (slots + ms) Q (F0 m (pc + 3) ls (.double r :: rest))) : W p l e R s m args below meth c H locs cells slots Q (F0 m pc ls st0) := by
  intro T hT X
  rcases hr T hT X with ⟨v, st₀, t, T', L, h0, X', hL, e1, e2, ⟨⟨r, u, hv, hp, hb⟩, hF⟩, st⟩ | ⟨q, st₀, t, T', L, E, ce, h0, X', hL, e1, e2, ⟨u, hp, hb, hF⟩, hce, hcv, hcl, st⟩
  · cases hv
    obtain ⟨k1, k2, k3⟩ := vx_keep h0 e1 hS hA hf hL hF
    obtain ⟨t2, a1, b1⟩ := kk r u t T'.heap (locs ++ L) e1.symm (by rw [← e2]; exact X'.warmed.alike) hp hb k1 k2 k3 T' rfl X'
    exact ⟨t2, st t2 a1, b1⟩
  · obtain ⟨k1, k2, k3⟩ := vx_keep h0 e1 hS hAX hf hL hF
    obtain ⟨t2, a1, b1⟩ := kx E ce q u t T'.heap (locs ++ L) e1.symm (by rw [← e2]; exact X'.warmed.alike) hp hb k1 k2 k3 (by rw [e1]; exact hce) hcv hcl T' rfl X'
    exact ⟨t2, st.trans a1, b1⟩
theorem vx_callv {S SX : Type} {post : S → Prop} {px : SX → Prop} {B : S → State → Prop} {BX : String → SX → State → Prop} {AX : Nat → Prop} (hr : vx_Run p l e R s m args below meth c H locs cells slots mc ms (F0 m pc ls st0) rest (va_Qv post B A1 a) (vx_X px BX AX) free) (hS : va_S A0 H0 H locs) (hA : ∀ q, q < H.size → A1 q → A0 q) (hf : ∀ q, free q → A0 q) (hAX : ∀ q, q < H.size → AX q → A0 q)
    (kx : ∀ (E : String) (ce : Cell) (q9 : Addr) (u : SX) (t : State) (H1 : Heap) (locs1 : List Loc), t.heap = H1 → s.vm.Alike t.vm → px u → BX E u t → H.size ≤ H1.size → (∀ q : Nat, q < H.size → ¬ AX q → H1[q]? = H[q]?) → va_S A0 H0 H1 locs1 → H1[q9]? = some ce → ce.vm = .none → s.vm.findClass E = some ce.cls → vx_W p l e R s m args below meth c H1 locs1 (cells + mc) (slots + ms) Q (F0 m pc ls rest) q9)
    (kk : ∀ (u : S) (t : State) (H1 : Heap) (locs1 : List Loc), t.heap = H1 → s.vm.Alike t.vm → post u → B u t → H.size ≤ H1.size → (∀ q : Nat, q < H.size → ¬ A1 q → H1[q]? = H[q]?) → va_S A0 H0 H1 locs1 → W p l e R s m args below meth c H1 locs1 (cells + mc) (slots + ms) Q (F0 m (pc + 3) ls (rest))) : W p l e R s m args below meth c H locs cells slots Q (F0 m pc ls st0) := by
  intro T hT X
  rcases hr T hT X with ⟨v, st₀, t, T', L, h0, X', hL, e1, e2, ⟨⟨u, hv, hp, hb⟩, hF⟩, st⟩ | ⟨q, st₀, t, T', L, E, ce, h0, X', hL, e1, e2, ⟨u, hp, hb, hF⟩, hce, hcv, hcl, st⟩
  · cases hv
    obtain ⟨k1, k2, k3⟩ := vx_keep h0 e1 hS hA hf hL hF
    obtain ⟨t2, a1, b1⟩ := kk u t T'.heap (locs ++ L) e1.symm (by rw [← e2]; exact X'.warmed.alike) hp hb k1 k2 k3 T' rfl X'
    exact ⟨t2, st t2 a1, b1⟩
  · obtain ⟨k1, k2, k3⟩ := vx_keep h0 e1 hS hAX hf hL hF
    obtain ⟨t2, a1, b1⟩ := kx E ce q u t T'.heap (locs ++ L) e1.symm (by rw [← e2]; exact X'.warmed.alike) hp hb k1 k2 k3 (by rw [e1]; exact hce) hcv hcl T' rfl X'
    exact ⟨t2, st.trans a1, b1⟩
/-- caught by the row x of this method's table; the rows ahead don't take it -/
theorem vx_catch {own name : String} {E : String} {ce : Cell} {q : Addr} (hown : s.vm.findClass own = some m.cls) (pre : List ExceptionTableEntry) (x : ExceptionTableEntry) (suf : List ExceptionTableEntry) (hsplit : c.exceptionTable.toList = pre ++ x :: suf)
    (hpass : ∀ z ∈ pre, covers z pc = false ∨ (z.catchType ≠ 0 ∧ ∃ nm : String, (Cond.classLink own z.catchType nm).before args s = true ∧ va_Nc E nm s)) (hx : covers x pc = true) (h0 : x.catchType ≠ 0)
    (hlink : (Cond.classLink own x.catchType name).before args s = true) (hcast : (Cond.castable E name).before args s = true) (hcell : H[q]? = some ce) (hv : ce.vm = .none) (hcl : s.vm.findClass E = some ce.cls)
    (kk : W p l e R s m args below meth c H locs cells slots Q (F0 m x.handlerPc ls [.ref q])) : vx_W p l e R s m args below meth c H locs cells slots Q (F0 m pc ls rest) q := by
  intro T hT X
  have hpl : e.platform.magicAccessors = ({} : Platform).magicAccessors := by rw [X.admits.platform]
  obtain ⟨c3, c4, hc3, hc4, hasg⟩ := Cond.castable_spec hcast
  cases Option.some.inj (hc3.symm.trans hcl)
  obtain ⟨c5, hc5, hcl5⟩ := Cond.classLink_spec hown hlink e.platform hpl
  cases Option.some.inj (hc4.symm.trans hc5)
  obtain ⟨vm', X', st⟩ := X.thenCaughtThrough q (g := F0 m pc ls rest) rfl (Steps.refl _) (by rw [hT]; exact hcell) (by rw [hv]; rfl) (by obtain ⟨k9, h9, -⟩ := Vm.findClass_spec hcl; exact ⟨k9, h9⟩) pre x suf hsplit
    (fun z hz => by
      rcases hpass z hz with h | ⟨hz0, nm, hl1, hn1⟩
      · exact Or.inl h
      · obtain ⟨c6, hc6, hcl6⟩ := Cond.classLink_spec hown hl1 e.platform hpl
        obtain ⟨a8, b8, h1, h2, h3⟩ := hn1
        cases Option.some.inj (h1.symm.trans hcl)
        cases Option.some.inj (h2.symm.trans hc6)
        exact Or.inr ⟨hz0, _, hcl6, h3⟩) hx (Or.inr ⟨h0, c4, hcl5, hasg⟩)
  obtain ⟨t, a1, b1⟩ := kk (T.setVm vm') hT X'
  exact ⟨t, st.trans a1, b1⟩
end Rows
section Ends
variable {p : Program} {l : Launch} {e : Env} {R : Room} {s : State} {m : MethodId} {args : Array Value} {below : List Frame} {meth : Method} {c : Code} {H : Heap} {locs : List Loc} {cells slots : Nat} {Q : State → Prop}
variable {mc ms : Nat} {free : Addr → Prop} {A0 A1 : Nat → Prop} {H0 : Heap} {a : Array Value} {ls : Array Slot} {st0 rest : List Value}
variable {Qc : Array Value → State → Outcome → State → Prop} {XC : String → State → State → Prop}
/-- what a body that may throw owes at its end -/
def vx_MQ (below : List Frame) (Qc : Array Value → State → Outcome → State → Prop) (XC : String → State → State → Prop) (a : Array Value) (s : State) (mc ms : Nat) (free : Addr → Prop) : State → Prop := fun t =>
  ∃ o, t.status = .running ∧ Ended t below o ∧ vx_Q Qc XC mc ms free a s o t
theorem vx_ret {g : JFrame} {mc ms : Nat} (k : W p l e R s m args below meth c H locs cells slots (MQ below Qc args s mc ms free) g) : W p l e R s m args below meth c H locs cells slots (vx_MQ below Qc XC args s mc ms free) g := by
  intro T hT X
  obtain ⟨t, a1, o, b1, b2, b3, b4⟩ := k T hT X
  exact ⟨t, a1, o, b1, b2, Or.inl ⟨b3, b4⟩⟩
/-- not caught here: it goes on to the caller -/
theorem vx_widen {g : JFrame} {q : Addr} {k n : Nat} (h1 : cells ≤ k) (h2 : slots ≤ n) (kk : vx_W p l e R s m args below meth c H locs k n Q g q) : vx_W p l e R s m args below meth c H locs cells slots Q g q := fun T hT X => kk T hT (stand_widen X h1 h2)
theorem vx_out {pc : Nat} {E : String} {ce : Cell} {q : Addr} {mc ms : Nat} (hout : ∀ x ∈ c.exceptionTable.toList, covers x pc = false) (hlocks : meth.locks = false) (hcell : H[q]? = some ce) (hv : ce.vm = .none) (hcl : s.vm.findClass E = some ce.cls)
    (hx : ∀ t : State, t.heap = H → s.vm.Alike t.vm → XC E s t) (hf : ∀ z ∈ locs, free z.base) (hc : cells ≤ mc) (hs : slots ≤ ms) :
    vx_W p l e R s m args below meth c H locs cells slots (vx_MQ below Qc XC args s mc ms free) (F0 m pc ls rest) q := by
  intro T hT X
  obtain ⟨st1, hrun, hend, hW, hsm⟩ := X.leaveThrown q (g := F0 m pc ls rest) rfl rfl rfl hout hlocks
  have hcell9 : (T.setFrames (.throwing q :: below)).heap[q]? = some ce := by
    show T.heap[q]? = some ce
    rw [hT]; exact hcell
  exact ⟨_, st1, .threw q, hrun, hend, Or.inr ⟨q, rfl, E, ce, locs, hx _ hT hW.alike, hcell9, hv, hcl, hW, hsm.mono hc hs, hf⟩⟩
theorem vx_frame {U : State} {k n : Nat} (h : s.sameButNew ({ U with vm := s.vm } : State) locs k n) : s.heap.size ≤ U.heap.size ∧ ∀ q : Nat, q < s.heap.size → (∀ z ∈ locs, z.base ≠ q) → U.heap[q]? = s.heap[q]? := by
  obtain ⟨-, h2, -, -, -, h6⟩ := h
  refine ⟨h2, fun q hq hz => ?_⟩
  obtain ⟨c9, e1, e2, e3, e4⟩ := h6 q _ (Array.getElem?_eq_getElem hq)
  have hs : c9.slots = (s.heap[q]).slots := Array.ext_getElem? fun i => e4 i fun hm => hz _ hm rfl
  have h9 : c9 = s.heap[q] := by
    rw [hs] at e2
    exact e2
  have e5 : U.heap[q]? = some c9 := e1
  rw [e5, h9, Array.getElem?_eq_getElem hq]
/-- the words of a throw but the four that speak of the heap -/
def vx_no (w : Cond) : Bool := decide (w ≠ .isRef (.static Bundle.tN "UNASSIGNED_STACK" Bundle.steD)) && decide (w ≠ .isRef (.static Bundle.tN "SUPPRESSED_SENTINEL" Bundle.listD)) && decide (w ≠ .laysStatic Bundle.tN "UNASSIGNED_STACK" Bundle.steD) && decide (w ≠ .laysStatic Bundle.tN "SUPPRESSED_SENTINEL" Bundle.listD)
def vx_at0 (own : String) (ic : Nat) (X : String) (names : List String) : List Cond := (Bundle.ownAtoms0 own ic X names).filter vx_no
def vx_atS (own : String) (ic : Nat) (X : String) (names : List String) : List Cond := (Bundle.ownAtoms own ic X names).filter vx_no
/-- a word that the tables alone decide, or a good one -/
def vx_ot (w : Cond) : Bool := w.onTables || goodWord w
theorem vx_ot_at {args a' : Array Value} {s U : State} {w : Cond} (hW : s.WarmedH U.vm) (hvm : s.vm = U.vm) (hg : vx_ot w = true) (h : w.before args s = true) : w.before a' U = true := by
  simp only [vx_ot, Bool.or_eq_true] at hg
  rcases hg with hg | hg
  · exact va_tabs hg hvm h
  · exact word_at hW (good_of_word hg) h
/-- a list's words: the good ones out of the method's own list, the others by premises of their own -/
theorem vx_hat {args : Array Value} {s : State} {L B : List Cond} (h1 : ∀ w ∈ L.filter goodWord, w.before args s = true) (h2 : ∀ w ∈ L.filter (fun w => !goodWord w), w ∈ B) (h3 : ∀ w ∈ B, w.before args s = true) : ∀ w ∈ L, w.before args s = true := by
  intro w hw
  by_cases g : goodWord w = true
  · exact h1 w (List.mem_filter.mpr ⟨hw, g⟩)
  · refine h3 w (h2 w (List.mem_filter.mpr ⟨hw, ?_⟩))
    show (!goodWord w) = true
    cases hgw : goodWord w
    · rfl
    · exact absurd hgw g
theorem vx_c {args : Array Value} {s : State} {w : Cond} {B : List Cond} (h : w.before args s = true) (t : ∀ w ∈ B, w.before args s = true) : ∀ w' ∈ w :: B, w'.before args s = true := fun w' h' => (List.mem_cons.mp h').elim (fun e => by rw [e]; exact h) (t w')
theorem vx_n {args : Array Value} {s : State} : ∀ w ∈ ([] : List Cond), w.before args s = true := fun _ h => nomatch h
theorem vx_own {args : Array Value} {s : State} {L : List Cond} (h1 : ∀ w ∈ L.filter vx_no, w.before args s = true)
    (hU : (Cond.isRef (.static Bundle.tN "UNASSIGNED_STACK" Bundle.steD)).before args s = true) (hN : (Cond.isRef (.static Bundle.tN "SUPPRESSED_SENTINEL" Bundle.listD)).before args s = true)
    (lU : (Cond.laysStatic Bundle.tN "UNASSIGNED_STACK" Bundle.steD).before args s = true) (lN : (Cond.laysStatic Bundle.tN "SUPPRESSED_SENTINEL" Bundle.listD).before args s = true) : ∀ w ∈ L, w.before args s = true := by
  intro w hw
  by_cases e1 : w = .isRef (.static Bundle.tN "UNASSIGNED_STACK" Bundle.steD)
  · rw [e1]; exact hU
  · by_cases e2 : w = .isRef (.static Bundle.tN "SUPPRESSED_SENTINEL" Bundle.listD)
    · rw [e2]; exact hN
    · by_cases e3 : w = .laysStatic Bundle.tN "UNASSIGNED_STACK" Bundle.steD
      · rw [e3]; exact lU
      · by_cases e4 : w = .laysStatic Bundle.tN "SUPPRESSED_SENTINEL" Bundle.listD
        · rw [e4]; exact lN
        · exact h1 w (List.mem_filter.mpr ⟨hw, by unfold vx_no; rw [decide_eq_true e1, decide_eq_true e2, decide_eq_true e3, decide_eq_true e4]; rfl⟩)
/-- where a static field lies, its class's statics cell in H -/
def vx_L (C n d : String) (A : Nat → Prop) (U : State) (H : Heap) : Prop := ∃ (c : ClassId) (k : Class) (i : Nat) (f : Field) (a : Nat) (cell : Cell), U.vm.findClass C = some c ∧ U.fieldFound? C n d = some (c, k, i, f) ∧ f.isStatic = true ∧ k.statics = some a ∧ H[a]? = some cell ∧ cell.vm.isStatics = true ∧ cell.cls = c ∧ f.slot < cell.slots.size ∧ k.staticTypes[f.slot]? = some f.type ∧ ¬ A a
theorem vx_L.moved {C n d : String} {A : Nat → Prop} {u U : State} {H : Heap} (hvm : u.vm.Alike U.vm) (h : vx_L C n d A u H) : vx_L C n d A U H := by
  obtain ⟨c, k, i, f, a, cell, h1, h2, h3, h4, h5, h6, h7, h8, h9, h10⟩ := h
  obtain ⟨k', hi', he⟩ := State.fieldFound?_setVm hvm h2
  exact ⟨c, k', i, f, a, cell, by rw [hvm.findClass]; exact h1, hi', h3, by rw [he]; exact h4, h5, h6, h7, h8, by rw [he]; exact h9, h10⟩
theorem vx_L.kept {C n d : String} {A : Nat → Prop} {U : State} {H H1 : Heap} (h : vx_L C n d A U H) (hq : ∀ a : Nat, a < H.size → ¬ A a → H1[a]? = H[a]?) : vx_L C n d A U H1 := by
  obtain ⟨c, k, i, f, a, cell, h1, h2, h3, h4, h5, h6, h7, h8, h9, h10⟩ := h
  exact ⟨c, k, i, f, a, cell, h1, h2, h3, h4, by rw [hq a (Array.getElem?_eq_some_iff.mp h5).1 h10]; exact h5, h6, h7, h8, h9, h10⟩
theorem vx_L.narrow {C n d : String} {A B : Nat → Prop} {U : State} {H : Heap} (h : vx_L C n d A U H) (hAB : ∀ q, B q → A q) : vx_L C n d B U H := by
  obtain ⟨c, k, i, f, a, cell, h1, h2, h3, h4, h5, h6, h7, h8, h9, h10⟩ := h
  exact ⟨c, k, i, f, a, cell, h1, h2, h3, h4, h5, h6, h7, h8, h9, fun z => h10 (hAB _ z)⟩
theorem vx_L.word {C n d : String} {A : Nat → Prop} {s : State} {args : Array Value} (h : vx_L C n d A s s.heap) : (Cond.laysStatic C n d).before args s = true := by
  obtain ⟨c, k, i, f, a, cell, h1, h2, h3, h4, h5, h6, h7, h8, h9, -⟩ := h
  show (Cond.laysStatic C n d).holds args s none s [] = true
  exact Cond.laysStatic_of h1 h2 h3 h4 h5 h6 h7 h8 h9
/-- .. and what it holds: null or some reference -/
def vx_Zq (C n d : String) (A : Nat → Prop) (U : State) (H : Heap) : Prop := va_Zq C n d A U H ∧ vx_L C n d A U H
theorem vx_Zq.moved {C n d : String} {A : Nat → Prop} {u U : State} {H : Heap} (hvm : u.vm.Alike U.vm) (h : vx_Zq C n d A u H) : vx_Zq C n d A U H := ⟨va_Zq.moved hvm h.1, vx_L.moved hvm h.2⟩
theorem vx_Zq.kept {C n d : String} {A : Nat → Prop} {U : State} {H H1 : Heap} (h : vx_Zq C n d A U H) (hq : ∀ a : Nat, a < H.size → ¬ A a → H1[a]? = H[a]?) : vx_Zq C n d A U H1 := ⟨va_Zq.kept h.1 hq, vx_L.kept h.2 hq⟩
theorem vx_Zq.narrow {C n d : String} {A B : Nat → Prop} {U : State} {H : Heap} (h : vx_Zq C n d A U H) (hAB : ∀ q, B q → A q) : vx_Zq C n d B U H := ⟨va_Zq.narrow h.1 hAB, vx_L.narrow h.2 hAB⟩
theorem vx_Zqof {args : Array Value} {s : State} {C n d : String} {A : Nat → Prop} (hl : (Cond.laysStatic C n d).before args s = true) (hini : (Cond.initialized C).before args s = true) (h : (Cond.isRef (.static C n d)).before args s = true) (hA : ∀ a : Nat, a < s.heap.size → ¬ A a) : vx_Zq C n d A s s.heap := by
  refine ⟨va_Zqof hl hini h hA, ?_⟩
  obtain ⟨c, k, i, f, a, cell, h1, h2, h3, h4, h5, h6, h7, h8, h9⟩ := Cond.laysStatic_spec hl
  exact ⟨c, k, i, f, a, cell, h1, h2, h3, h4, h5, h6, h7, h8, h9, hA a (Array.getElem?_eq_some_iff.mp h5).1⟩
theorem vx_isRef {C n d : String} {v : Value} {A : Nat → Prop} {s : State} {args : Array Value} (h : va_Z C n d v A s s.heap) (hv : v.isRef = true) : (Cond.isRef (.static C n d)).before args s = true := by
  obtain ⟨cf, kf, fi, f, a, cell, h1, h2, h3, h4, h5, h6, h7, -⟩ := h
  have he : (Term.static C n d).eval args s none [] s = some v := by
    simp [Term.eval, State.fieldNamed?, h1, h2, h4, h5, h6, h7]
  simp only [Cond.before, Cond.holds, Cond.value, he]
  cases v <;> simp_all [Value.isRef]
theorem vx_isRefq {C n d : String} {A : Nat → Prop} {s : State} {args : Array Value} (h : va_Zq C n d A s s.heap) : (Cond.isRef (.static C n d)).before args s = true := by
  rcases h with h | ⟨t, h⟩
  · exact vx_isRef h rfl
  · exact vx_isRef h rfl
/-- the same frame, seen from here: as if the method were called anew in this heap -/
theorem vx_rebase {T : State} (X : Stand p l e R s m args below meth c T locs cells slots) {R' : Room} (hf : R'.frames ≤ R.frames) (hl : R'.locals ≤ R.locals) (hc : cells + R'.cells ≤ R.cells) (hs : slots + R'.slots ≤ R.slots) :
    Stand p l e R' ((T.setVm s.vm).setFrames (.invoking m args :: below)) m args below meth c T [] 0 0 := by
  have htop : (T.setVm s.vm).topJava?.isSome := X.here.top
  have hF : ((T.setVm s.vm).setFrames (.invoking m args :: below)).frames = .invoking m args :: below := State.frames_setFrames _ (State.cur_lt_of_top htop)
  obtain ⟨g₀, hg0⟩ := Option.isSome_iff_exists.mp htop
  obtain ⟨r, hr⟩ := State.topJava?_eq_some.mp hg0
  have hl9 : e.platform.stackLimits (T.setVm s.vm).me = e.platform.stackLimits s.me := X.limits
  have hb9 : (T.setVm s.vm).me.stackBytes = s.me.stackBytes := X.bytes
  refine ⟨X.admits, X.cas, X.clock, hF, ?_, X.hears, X.method, X.code, X.here, X.tail, X.warmed, ?_, ?_, ?_⟩
  · have h := X.room
    have hU : ((T.setVm s.vm).setFrames (.invoking m args :: below)).localsInUse = s.localsInUse := by
      rw [State.localsInUse_invoking hF (meth := meth) (c := c) X.method X.code, State.localsInUse_invoking X.frames X.method X.code]
    simp only [State.hasRoom, Bool.and_eq_true, decide_eq_true_eq] at h ⊢
    obtain ⟨⟨⟨⟨h1, h2, h3, h4, h5, h6⟩, h7⟩, h8⟩, h9⟩ := h
    rw [X.frames, List.length_cons] at h2 h3
    have q1 := X.heapSize
    have q2 := X.used
    simp only [hF, hU, List.length_cons, State.stackLimits_setFrames, State.stackBytes_setFrames, hl9, hb9]
    refine ⟨⟨⟨⟨by omega, by omega, by omega, by omega, by omega, h6⟩, ?_⟩, ?_⟩, X.book⟩
    · show T.heap.size + R'.cells ≤ e.platform.maxCells
      omega
    · show T.slotsUsed + R'.slots ≤ e.platform.maxSlots
      omega
  · rw [State.stackLimits_setFrames]; rfl
  · rw [State.stackBytes_setFrames]; rfl
  · refine ⟨?_, Nat.le_refl _, Nat.le_refl _, ?_, ?_, fun a c9 h9 => ⟨c9, h9, rfl, rfl, fun _ _ => rfl⟩⟩
    · obtain ⟨t, ht, -⟩ := State.frames_cons hr
      show T.setVm s.vm = { ((T.setVm s.vm).setFrames (.invoking m args :: below)).setFrames (T.setVm s.vm).frames with heap := T.heap, slotsUsed := T.slotsUsed }
      rw [State.setFrames_setFrames, State.setFrames_self ht]
      rfl
    · show T.slotsUsed = T.slotsUsed + ((T.heap.toList.drop T.heap.size).map (·.slots.size)).sum
      rw [List.drop_eq_nil_of_le (Nat.le_of_eq Array.length_toList)]
      rfl
    · show ((T.heap.toList.drop T.heap.size).map (·.slots.size)).sum ≤ 0
      rw [List.drop_eq_nil_of_le (Nat.le_of_eq Array.length_toList)]
      exact Nat.le_refl _
/-- 'throw new E()': new; dup; invokespecial; athrow -/
theorem vx_throw0 {cc : ByteArray} {pc : Nat} (hexec : p.tables.exec = Jvm.exec) (hb : c.code = cc) (hl : l.stackTraces = false) {own cls : String} {names : List String} {ik ic mc ms : Nat} {A : Nat → Prop}
    (hown : s.vm.findClass own = some m.cls) (hcls : Bundle.fit cls = true) (hnames : ∀ n ∈ names, Bundle.fit n = true)
    (hk : (Cond.classLink own ik cls).before args s = true) (hini : (Cond.initialized cls).before args s = true) (hat : ∀ w ∈ vx_at0 own ic cls names, w.before args s = true)
    (hgood : ∀ w ∈ Cond.classLink own ik cls :: Cond.initialized cls :: vx_at0 own ic cls names, vx_ot w = true)
    (hU : vx_Zq Bundle.tN "UNASSIGNED_STACK" Bundle.steD A s s.heap) (hN : vx_Zq Bundle.tN "SUPPRESSED_SENTINEL" Bundle.listD A s s.heap) (hS : va_S A s.heap H locs) (hsize : ls.size = c.maxLocals)
    (d0 : decode cc pc = .ok (.new ik, 3)) (d3 : decode cc (pc + 3) = .ok (.dup, 1)) (d4 : decode cc (pc + 4) = .ok (.invokespecial ic, 3)) (d7 : decode cc (pc + 7) = .ok (.athrow, 1))
    (hout : ∀ x ∈ c.exceptionTable.toList, covers x (pc + 7) = false)
    (hRframes : names.length + 3 < R.frames) (hRlocals : (rest.map fun v => v.category).sum + (13 * (names.length + 1) + 42) ≤ R.locals) (hRcells : cells + 1 ≤ R.cells) (hRslots : slots + 6 ≤ R.slots) (hlocks : meth.locks = false)
    (hx : ∀ t : State, s.vm.Alike t.vm → H.size ≤ t.heap.size → (∀ q : Nat, q < H.size → t.heap[q]? = H[q]?) → XC cls s t)
    (hf : ∀ z ∈ locs, free z.base) (hc : cells + 1 ≤ mc) (hs : slots + 6 ≤ ms) :
    W p l e R s m args below meth c H locs cells slots (vx_MQ below Qc XC args s mc ms free) (F0 m pc ls rest) := by
  intro T hT X
  have htr : e.platform.stackTraces = false := (show e.platform.stackTraces = l.stackTraces by rw [X.admits.platform]).trans hl
  have Y := vx_rebase X (R' := { frames := R.frames, locals := R.locals, cells := 1, slots := 6 }) (Nat.le_refl _) (Nat.le_refl _) hRcells hRslots
  obtain ⟨s', hA⟩ : ∃ z, z = (T.setVm s.vm).setFrames (.invoking m args :: below) := ⟨_, rfl⟩
  rw [← hA] at Y
  have hvm : s'.vm = s.vm := by rw [hA]; rfl
  have hhp : s'.heap = H := by rw [hA]; exact hT
  have hW0 : s.WarmedH s'.vm := by rw [hvm]; exact State.WarmedH.refl s
  have hat' : ∀ w ∈ vx_at0 own ic cls names, w.before args s' = true := fun w hw => vx_ot_at hW0 hvm.symm (hgood w (List.mem_cons_of_mem _ (List.mem_cons_of_mem _ hw))) (hat w hw)
  have hk' : (Cond.classLink own ik cls).before args s' = true := vx_ot_at hW0 hvm.symm (hgood _ List.mem_cons_self) hk
  have hini' : (Cond.initialized cls).before args s' = true := vx_ot_at hW0 hvm.symm (hgood _ (List.mem_cons_of_mem _ List.mem_cons_self)) hini
  have hU' : vx_Zq Bundle.tN "UNASSIGNED_STACK" Bundle.steD A s' s'.heap := by rw [hhp]; exact vx_Zq.moved hW0.alike (hU.kept hS.2.1)
  have hN' : vx_Zq Bundle.tN "SUPPRESSED_SENTINEL" Bundle.listD A s' s'.heap := by rw [hhp]; exact vx_Zq.moved hW0.alike (hN.kept hS.2.1)
  have h : ∀ w ∈ Bundle.ownAtoms0 own ic cls names, w.before args s' = true := vx_own hat' (vx_isRefq hU'.1) (vx_isRefq hN'.1) hU'.2.word hN'.2.word
  have hown' : s'.vm.findClass own = some m.cls := by rw [hvm]; exact hown
  have hins : (Cond.instantiable cls 6).before args s' = true := h _ (by simp [Bundle.ownAtoms0])
  obtain ⟨vm₁, cX, kX, hfX, hkX, -, -, X₁, st1⟩ := Y.newCold hexec (own := own) (C := cls) (index := ik) (n := 6) hown' hk' hins hini'
    (g := F0 m pc ls rest) rfl (by rw [hb]; exact d0) (Nat.le_refl _) (Nat.le_refl _)
  generalize hT1 : (T.setVm vm₁).pushCell { cls := cX, slots := kX.instanceTypes.map defaultValue, vm := .none } = T1 at X₁ st1
  have hcat : (Value.ref T.heap.size).category = 1 := rfl
  have hcellA : T1.heap[T.heap.size]? = some (freshCell cX kX) := by rw [← hT1]; exact State.heap_pushCell_size _ _
  have d3' : decode c.code (pc + 3) = .ok (.dup, 1) := by rw [hb]; exact d3
  obtain ⟨U, hsteps, hrun, hend, hW, hsame, ce, hce, hO⟩ := X₁.ctorThrow0 hexec htr (own := own) (cls := cls) (names := names) (ic := ic) hown' hcls hnames h (fun x hx => nomatch hx) hfX hkX hcellA (by rw [hhp, hT]; exact Nat.le_refl _)
    (g := { method := m, pc := pc + 4, locals := ls, stack := .ref T.heap.size :: .ref T.heap.size :: rest, locked := none }) rfl hsize rfl rfl (rest := rest) rfl
    (by rw [hb]; exact d4) (by rw [hb]; exact d7) hout hRframes (by simp only [List.map_cons, List.sum_cons, hcat]; omega) hlocks
  obtain ⟨f1, f2⟩ := vx_frame hsame
  rw [hhp] at f1 f2
  have hWs : s.WarmedH U.vm := State.WarmedH.trans hW0 hW
  have hcl : s.vm.findClass cls = some ce.cls := by
    have h9 := hO.cls
    rw [hvm] at h9
    exact h9
  have hall : s.sameButNew ({ U with vm := s.vm } : State) locs mc ms := by
    subst hA
    obtain ⟨e1, e2⟩ := hsame
    rw [State.setFrames_setFrames] at e1
    have h2 : (T.setVm s.vm).sameButNew ({ U with vm := s.vm } : State) [] (0 + 1) (0 + 6) := ⟨e1, e2⟩
    have h3 := X.same.trans h2
    rw [List.append_nil] at h3
    exact h3.mono hc hs
  refine ⟨U, ?_, .threw T.heap.size, hrun, hend, Or.inr ⟨T.heap.size, rfl, cls, ce, locs, hx U hWs.alike f1 (fun q hq => f2 q hq (fun z hz => nomatch hz)), hce, hO.vm, hcl, hWs, hall, hf⟩⟩
  refine st1 _ ?_
  show Steps p.tables e below (T1.setTop { method := m, pc := pc + 3, locals := ls, stack := .ref T.heap.size :: rest, locked := none }) _
  jvm_step X₁.here [X₁.here.top, hexec, d3', Value.category]
  exact hsteps
/-- 'throw new E("text")': new; dup; ldc; invokespecial; athrow -/
theorem vx_throwS {cc : ByteArray} {pc : Nat} (hexec : p.tables.exec = Jvm.exec) (hb : c.code = cc) (hl : l.stackTraces = false) {own cls text : String} {names : List String} {ik is ic mc ms sa : Nat} {A : Nat → Prop}
    (hown : s.vm.findClass own = some m.cls) (hcls : Bundle.fit cls = true) (hnames : ∀ n ∈ names, Bundle.fit n = true)
    (hk : (Cond.classLink own ik cls).before args s = true) (hini : (Cond.initialized cls).before args s = true) (hstr : vk_R own is text sa s) (hat : ∀ w ∈ vx_atS own ic cls names, w.before args s = true)
    (hgood : ∀ w ∈ Cond.classLink own ik cls :: Cond.initialized cls :: vx_atS own ic cls names, vx_ot w = true)
    (hU : vx_Zq Bundle.tN "UNASSIGNED_STACK" Bundle.steD A s s.heap) (hN : vx_Zq Bundle.tN "SUPPRESSED_SENTINEL" Bundle.listD A s s.heap) (hS : va_S A s.heap H locs) (hsize : ls.size = c.maxLocals)
    (d0 : decode cc pc = .ok (.new ik, 3)) (d3 : decode cc (pc + 3) = .ok (.dup, 1)) (d4 : decode cc (pc + 4) = .ok (.ldc is, 2)) (d6 : decode cc (pc + 6) = .ok (.invokespecial ic, 3)) (d9 : decode cc (pc + 9) = .ok (.athrow, 1))
    (hout : ∀ x ∈ c.exceptionTable.toList, covers x (pc + 9) = false)
    (hRframes : names.length + 3 < R.frames) (hRlocals : (rest.map fun v => v.category).sum + (13 * (names.length + 1) + 43) ≤ R.locals) (hRcells : cells + 1 ≤ R.cells) (hRslots : slots + 6 ≤ R.slots) (hlocks : meth.locks = false)
    (hx : ∀ t : State, s.vm.Alike t.vm → H.size ≤ t.heap.size → (∀ q : Nat, q < H.size → t.heap[q]? = H[q]?) → XC cls s t)
    (hf : ∀ z ∈ locs, free z.base) (hc : cells + 1 ≤ mc) (hs : slots + 6 ≤ ms) :
    W p l e R s m args below meth c H locs cells slots (vx_MQ below Qc XC args s mc ms free) (F0 m pc ls rest) := by
  intro T hT X
  have htr : e.platform.stackTraces = false := (show e.platform.stackTraces = l.stackTraces by rw [X.admits.platform]).trans hl
  have Y := vx_rebase X (R' := { frames := R.frames, locals := R.locals, cells := 1, slots := 6 }) (Nat.le_refl _) (Nat.le_refl _) hRcells hRslots
  obtain ⟨s', hA⟩ : ∃ z, z = (T.setVm s.vm).setFrames (.invoking m args :: below) := ⟨_, rfl⟩
  rw [← hA] at Y
  have hvm : s'.vm = s.vm := by rw [hA]; rfl
  have hhp : s'.heap = H := by rw [hA]; exact hT
  have hW0 : s.WarmedH s'.vm := by rw [hvm]; exact State.WarmedH.refl s
  have hat' : ∀ w ∈ vx_atS own ic cls names, w.before args s' = true := fun w hw => vx_ot_at hW0 hvm.symm (hgood w (List.mem_cons_of_mem _ (List.mem_cons_of_mem _ hw))) (hat w hw)
  have hk' : (Cond.classLink own ik cls).before args s' = true := vx_ot_at hW0 hvm.symm (hgood _ List.mem_cons_self) hk
  have hini' : (Cond.initialized cls).before args s' = true := vx_ot_at hW0 hvm.symm (hgood _ (List.mem_cons_of_mem _ List.mem_cons_self)) hini
  have hU' : vx_Zq Bundle.tN "UNASSIGNED_STACK" Bundle.steD A s' s'.heap := by rw [hhp]; exact vx_Zq.moved hW0.alike (hU.kept hS.2.1)
  have hN' : vx_Zq Bundle.tN "SUPPRESSED_SENTINEL" Bundle.listD A s' s'.heap := by rw [hhp]; exact vx_Zq.moved hW0.alike (hN.kept hS.2.1)
  have h : ∀ w ∈ Bundle.ownAtoms own ic cls names, w.before args s' = true := vx_own hat' (vx_isRefq hU'.1) (vx_isRefq hN'.1) hU'.2.word hN'.2.word
  have hown' : s'.vm.findClass own = some m.cls := by rw [hvm]; exact hown
  have hins : (Cond.instantiable cls 6).before args s' = true := h _ (by simp [Bundle.ownAtoms])
  obtain ⟨vm₁, cX, kX, hfX, hkX, -, -, X₁, st1⟩ := Y.newCold hexec (own := own) (C := cls) (index := ik) (n := 6) hown' hk' hins hini'
    (g := F0 m pc ls rest) rfl (by rw [hb]; exact d0) (Nat.le_refl _) (Nat.le_refl _)
  generalize hT1 : (T.setVm vm₁).pushCell { cls := cX, slots := kX.instanceTypes.map defaultValue, vm := .none } = T1 at X₁ st1
  have hcat : (Value.ref T.heap.size).category = 1 := rfl
  have hcellA : T1.heap[T.heap.size]? = some (freshCell cX kX) := by rw [← hT1]; exact State.heap_pushCell_size _ _
  have d3' : decode c.code (pc + 3) = .ok (.dup, 1) := by rw [hb]; exact d3
  have d4' : decode c.code (pc + 4) = .ok (.ldc is, 2) := by rw [hb]; exact d4
  have hstr' : vk_R own is text sa s' := vk_R.warm hW0 hstr
  obtain ⟨U, hsteps, hrun, hend, hW, hsame, ce, hce, hO⟩ := X₁.ctorThrowS hexec htr (own := own) (cls := cls) (names := names) (ic := ic) hown' hcls hnames h (fun x hx => nomatch hx) hfX hkX hcellA (by rw [hhp, hT]; exact Nat.le_refl _) (msg := .ref sa) rfl
    (g := { method := m, pc := pc + 6, locals := ls, stack := .ref sa :: .ref T.heap.size :: .ref T.heap.size :: rest, locked := none }) rfl hsize rfl rfl (rest := rest) rfl
    (by rw [hb]; exact d6) (by rw [hb]; exact d9) hout hRframes (by simp only [List.map_cons, List.sum_cons, hcat]; omega) hlocks
  obtain ⟨f1, f2⟩ := vx_frame hsame
  rw [hhp] at f1 f2
  have hWs : s.WarmedH U.vm := State.WarmedH.trans hW0 hW
  have hcl : s.vm.findClass cls = some ce.cls := by
    have h9 := hO.cls
    rw [hvm] at h9
    exact h9
  have hall : s.sameButNew ({ U with vm := s.vm } : State) locs mc ms := by
    subst hA
    obtain ⟨e1, e2⟩ := hsame
    rw [State.setFrames_setFrames] at e1
    have h2 : (T.setVm s.vm).sameButNew ({ U with vm := s.vm } : State) [] (0 + 1) (0 + 6) := ⟨e1, e2⟩
    have h3 := X.same.trans h2
    rw [List.append_nil] at h3
    exact h3.mono hc hs
  refine ⟨U, ?_, .threw T.heap.size, hrun, hend, Or.inr ⟨T.heap.size, rfl, cls, ce, locs, hx U hWs.alike f1 (fun q hq => f2 q hq (fun z hz => nomatch hz)), hce, hO.vm, hcl, hWs, hall, hf⟩⟩
  refine st1 _ ?_
  show Steps p.tables e below (T1.setTop { method := m, pc := pc + 3, locals := ls, stack := .ref T.heap.size :: rest, locked := none }) _
  jvm_step X₁.here [X₁.here.top, hexec, d3', Value.category]
  exact X₁.ldcString hexec (own := own) (text := text) (index := is) (a := sa) hown' hstr'.1 hstr'.2
    (g := { method := m, pc := pc + 4, locals := ls, stack := .ref T.heap.size :: .ref T.heap.size :: rest, locked := none }) rfl d4' _ hsteps
/-- 'throw new E("text")', the text by a wide index -/
theorem vx_throwSW {cc : ByteArray} {pc : Nat} (hexec : p.tables.exec = Jvm.exec) (hb : c.code = cc) (hl : l.stackTraces = false) {own cls text : String} {names : List String} {ik is ic mc ms sa : Nat} {A : Nat → Prop}
    (hown : s.vm.findClass own = some m.cls) (hcls : Bundle.fit cls = true) (hnames : ∀ n ∈ names, Bundle.fit n = true)
    (hk : (Cond.classLink own ik cls).before args s = true) (hini : (Cond.initialized cls).before args s = true) (hstr : vk_R own is text sa s) (hat : ∀ w ∈ vx_atS own ic cls names, w.before args s = true)
    (hgood : ∀ w ∈ Cond.classLink own ik cls :: Cond.initialized cls :: vx_atS own ic cls names, vx_ot w = true)
    (hU : vx_Zq Bundle.tN "UNASSIGNED_STACK" Bundle.steD A s s.heap) (hN : vx_Zq Bundle.tN "SUPPRESSED_SENTINEL" Bundle.listD A s s.heap) (hS : va_S A s.heap H locs) (hsize : ls.size = c.maxLocals)
    (d0 : decode cc pc = .ok (.new ik, 3)) (d3 : decode cc (pc + 3) = .ok (.dup, 1)) (d4 : decode cc (pc + 4) = .ok (.ldc_w is, 3)) (d7 : decode cc (pc + 7) = .ok (.invokespecial ic, 3)) (d10 : decode cc (pc + 10) = .ok (.athrow, 1))
    (hout : ∀ x ∈ c.exceptionTable.toList, covers x (pc + 10) = false)
    (hRframes : names.length + 3 < R.frames) (hRlocals : (rest.map fun v => v.category).sum + (13 * (names.length + 1) + 43) ≤ R.locals) (hRcells : cells + 1 ≤ R.cells) (hRslots : slots + 6 ≤ R.slots) (hlocks : meth.locks = false)
    (hx : ∀ t : State, s.vm.Alike t.vm → H.size ≤ t.heap.size → (∀ q : Nat, q < H.size → t.heap[q]? = H[q]?) → XC cls s t)
    (hf : ∀ z ∈ locs, free z.base) (hc : cells + 1 ≤ mc) (hs : slots + 6 ≤ ms) :
    W p l e R s m args below meth c H locs cells slots (vx_MQ below Qc XC args s mc ms free) (F0 m pc ls rest) := by
  intro T hT X
  have htr : e.platform.stackTraces = false := (show e.platform.stackTraces = l.stackTraces by rw [X.admits.platform]).trans hl
  have Y := vx_rebase X (R' := { frames := R.frames, locals := R.locals, cells := 1, slots := 6 }) (Nat.le_refl _) (Nat.le_refl _) hRcells hRslots
  obtain ⟨s', hA⟩ : ∃ z, z = (T.setVm s.vm).setFrames (.invoking m args :: below) := ⟨_, rfl⟩
  rw [← hA] at Y
  have hvm : s'.vm = s.vm := by rw [hA]; rfl
  have hhp : s'.heap = H := by rw [hA]; exact hT
  have hW0 : s.WarmedH s'.vm := by rw [hvm]; exact State.WarmedH.refl s
  have hat' : ∀ w ∈ vx_atS own ic cls names, w.before args s' = true := fun w hw => vx_ot_at hW0 hvm.symm (hgood w (List.mem_cons_of_mem _ (List.mem_cons_of_mem _ hw))) (hat w hw)
  have hk' : (Cond.classLink own ik cls).before args s' = true := vx_ot_at hW0 hvm.symm (hgood _ List.mem_cons_self) hk
  have hini' : (Cond.initialized cls).before args s' = true := vx_ot_at hW0 hvm.symm (hgood _ (List.mem_cons_of_mem _ List.mem_cons_self)) hini
  have hU' : vx_Zq Bundle.tN "UNASSIGNED_STACK" Bundle.steD A s' s'.heap := by rw [hhp]; exact vx_Zq.moved hW0.alike (hU.kept hS.2.1)
  have hN' : vx_Zq Bundle.tN "SUPPRESSED_SENTINEL" Bundle.listD A s' s'.heap := by rw [hhp]; exact vx_Zq.moved hW0.alike (hN.kept hS.2.1)
  have h : ∀ w ∈ Bundle.ownAtoms own ic cls names, w.before args s' = true := vx_own hat' (vx_isRefq hU'.1) (vx_isRefq hN'.1) hU'.2.word hN'.2.word
  have hown' : s'.vm.findClass own = some m.cls := by rw [hvm]; exact hown
  have hins : (Cond.instantiable cls 6).before args s' = true := h _ (by simp [Bundle.ownAtoms])
  obtain ⟨vm₁, cX, kX, hfX, hkX, -, -, X₁, st1⟩ := Y.newCold hexec (own := own) (C := cls) (index := ik) (n := 6) hown' hk' hins hini'
    (g := F0 m pc ls rest) rfl (by rw [hb]; exact d0) (Nat.le_refl _) (Nat.le_refl _)
  generalize hT1 : (T.setVm vm₁).pushCell { cls := cX, slots := kX.instanceTypes.map defaultValue, vm := .none } = T1 at X₁ st1
  have hcat : (Value.ref T.heap.size).category = 1 := rfl
  have hcellA : T1.heap[T.heap.size]? = some (freshCell cX kX) := by rw [← hT1]; exact State.heap_pushCell_size _ _
  have d3' : decode c.code (pc + 3) = .ok (.dup, 1) := by rw [hb]; exact d3
  have d4' : decode c.code (pc + 4) = .ok (.ldc_w is, 3) := by rw [hb]; exact d4
  have hstr' : vk_R own is text sa s' := vk_R.warm hW0 hstr
  obtain ⟨U, hsteps, hrun, hend, hW, hsame, ce, hce, hO⟩ := X₁.ctorThrowS hexec htr (own := own) (cls := cls) (names := names) (ic := ic) hown' hcls hnames h (fun x hx => nomatch hx) hfX hkX hcellA (by rw [hhp, hT]; exact Nat.le_refl _) (msg := .ref sa) rfl
    (g := { method := m, pc := pc + 7, locals := ls, stack := .ref sa :: .ref T.heap.size :: .ref T.heap.size :: rest, locked := none }) rfl hsize rfl rfl (rest := rest) rfl
    (by rw [hb]; exact d7) (by rw [hb]; exact d10) hout hRframes (by simp only [List.map_cons, List.sum_cons, hcat]; omega) hlocks
  obtain ⟨f1, f2⟩ := vx_frame hsame
  rw [hhp] at f1 f2
  have hWs : s.WarmedH U.vm := State.WarmedH.trans hW0 hW
  have hcl : s.vm.findClass cls = some ce.cls := by
    have h9 := hO.cls
    rw [hvm] at h9
    exact h9
  have hall : s.sameButNew ({ U with vm := s.vm } : State) locs mc ms := by
    subst hA
    obtain ⟨e1, e2⟩ := hsame
    rw [State.setFrames_setFrames] at e1
    have h2 : (T.setVm s.vm).sameButNew ({ U with vm := s.vm } : State) [] (0 + 1) (0 + 6) := ⟨e1, e2⟩
    have h3 := X.same.trans h2
    rw [List.append_nil] at h3
    exact h3.mono hc hs
  refine ⟨U, ?_, .threw T.heap.size, hrun, hend, Or.inr ⟨T.heap.size, rfl, cls, ce, locs, hx U hWs.alike f1 (fun q hq => f2 q hq (fun z hz => nomatch hz)), hce, hO.vm, hcl, hWs, hall, hf⟩⟩
  refine st1 _ ?_
  show Steps p.tables e below (T1.setTop { method := m, pc := pc + 3, locals := ls, stack := .ref T.heap.size :: rest, locked := none }) _
  jvm_step X₁.here [X₁.here.top, hexec, d3', Value.category]
  exact X₁.ldcStringW hexec (own := own) (text := text) (index := is) (a := sa) hown' hstr'.1 hstr'.2
    (g := { method := m, pc := pc + 4, locals := ls, stack := .ref T.heap.size :: .ref T.heap.size :: rest, locked := none }) rfl d4' _ hsteps
end Ends
section Bodies
variable {l : Launch}
theorem vx_ofW {y : MethodName} {ws ws' : List Cond} {rm : Room} {Pc : Array Value → State → Prop} {Qc : Array Value → State → Outcome → State → Prop} {XC : String → State → State → Prop} {mc ms : Nat} {free : Addr → Prop} {cc : ByteArray} {maxL : Nat} {ret : Option FieldType}
    (hy : plainName y.cls = true) (hw : ws = Cond.code y cc maxL ret :: ws')
    (body : ∀ p e s m args below meth c s₁, BodyLoose p l y (headSpec ws rm) cc maxL ret e s m args below meth c s₁ → c.maxLocals = maxL → (∀ x ∈ c.exceptionTable.toList, False) → Pc args s →
      W p l e (headSpec ws rm).room s m args below meth c s.heap [] 0 0 (vx_MQ below Qc XC args s mc ms free) (entryFrame m args maxL)) : vx_Met l y ws rm Pc Qc XC mc ms free := by
  refine MetFree.of_bodyS (code := cc) (maxLocals := maxL) (ret := ret) hy ?_ ?_
  · intro args s m h hn
    obtain ⟨meth, c, h1, h2, h3, h4, h5, h6, -, -⟩ := Cond.code_spec hn (atoms_spec (ws := ws) h _ (by rw [hw]; exact List.mem_cons_self))
    exact ⟨meth, c, h1, h2, h3, h4, h5, h6⟩
  · intro p e s m args below meth c s₁ B hml hP _
    have hh0 : s₁.heap = s.heap := by rw [B.state]; rfl
    have ht : ∀ x ∈ c.exceptionTable.toList, False := by
      obtain ⟨meth9, c9, h1, h2, -, -, -, -, h7, -⟩ := Cond.code_spec B.named (atoms_spec (ws := ws) B.pre _ (by rw [hw]; exact List.mem_cons_self))
      cases Option.some.inj (h1.symm.trans B.method)
      cases Option.some.inj (h2.symm.trans (Stand.of_body B).code)
      intro x hx
      rw [Array.isEmpty_iff.mp h7] at hx
      cases hx
    obtain ⟨t, a1, o, b1, b2, b3⟩ := body p e s m args below meth c s₁ B hml ht hP s₁ hh0 (Stand.of_body B)
    exact ⟨t, o, a1, b1, b2, b3⟩
/-- the table of a body with handlers -/
theorem vx_table {p : Program} {x y : MethodName} {S : Spec} {cc bytes : ByteArray} {maxL maxL' : Nat} {ret ret' : Option FieldType} {e : Env} {s s₁ : State} {m : MethodId} {args : Array Value} {below : List Frame} {meth : Method} {c : Code} {hh : List (Nat × Nat × Nat × Nat)}
    (B : BodyLoose p l y S cc maxL ret e s m args below meth c s₁) (h : (Cond.codeWith y bytes maxL' ret' hh).before args s = true) : c.exceptionTable.toList = tableOf hh := by
  obtain ⟨m9, meth9, c9, hn9, h1, h2, -, -, h6, -⟩ := Cond.codeWith_spec h
  cases Option.some.inj (hn9.symm.trans B.named)
  cases Option.some.inj (h1.symm.trans B.method)
  cases Option.some.inj (h2.symm.trans (Stand.of_body B).code)
  rw [← h6, table_eq]
end Bodies
end VXA
/-! ===== END ===== -/
/-! ===== BEGIN a static call of a method with an exception table ===== -/
section VXS
variable {p : Program} {l : Launch} {e : Env} {R : Room} {s : State} {m : MethodId} {args : Array Value} {below : List Frame} {meth : Method} {c : Code} {T : State} {H : Heap} {locs : List Loc} {cells slots : Nat}
abbrev vx_CSW (R : Room) (s : State) (args : Array Value) (own : String) (index : Nat) (y : MethodName) (bytes : ByteArray) (maxL : Nat) (ret : Option FieldType) (hh : List (Nat × Nat × Nat × Nat)) (ws : List Cond) (rm : Room) (mc ms n : Nat) : Prop :=
  (rm.cells = mc ∧ rm.slots = ms ∧ rm.frames + 1 ≤ R.frames ∧ 8 + (maxL + 11) + rm.locals ≤ R.locals ∧ (∀ w ∈ ws, ∀ (a' : Array Value) (U : State), s.WarmedH U.vm → w.before a' U = true) ∧ Cond.codeWith y bytes maxL ret hh ∈ ws) ∧
  (Cond.codeWith y bytes maxL ret hh).before args s = true ∧ (Cond.initialized y.cls).before args s = true ∧ (y.cls ≠ "java/lang/invoke/MethodHandle" ∧ y.cls ≠ "java/lang/invoke/VarHandle") ∧
  (∀ sig, parseMethodDescriptor y.desc = some sig → n = sig.parameters.length) ∧ (Cond.methodLink own index y).before args s = true ∧ (Cond.static y).before args s = true
theorem vx_cwSW {own : String} {index maxL mc ms : Nat} {y : MethodName} {bytes : ByteArray} {ret : Option FieldType} {hh : List (Nat × Nat × Nat × Nat)} {Ts ws ws' : List Cond} {rm : Room} (n : Nat) (ht : ∀ w ∈ Ts, w.before args s = true) (hT : GoodIn Ts (va_wsS own index y ws)) (hw : ws = Cond.codeWith y bytes maxL ret hh :: ws') (hrc : rm.cells = mc) (hrs : rm.slots = ms)
    (hd : y.cls ≠ "java/lang/invoke/MethodHandle" ∧ y.cls ≠ "java/lang/invoke/VarHandle" ∧ (parseMethodDescriptor y.desc).map (fun d => d.parameters.length) = some n) (hR : rm.frames + 1 ≤ R.frames ∧ 8 + (maxL + 11) + rm.locals ≤ R.locals) :
    vx_CSW R s args own index y bytes maxL ret hh ws rm mc ms n := by
  have ok : ∀ w ∈ va_wsS own index y ws, w.before args s = true := fun w h => ht w (hT w h).1
  have hG : GoodIn Ts ws := fun w h => hT w (by unfold va_wsS; exact List.mem_append_right _ h)
  have hc : Cond.codeWith y bytes maxL ret hh ∈ ws := by rw [hw]; exact List.mem_cons_self
  refine ⟨⟨hrc, hrs, hR.1, hR.2, pay_in ht hG, hc⟩, ht _ (hG _ hc).1, ok _ (by simp [va_wsS]), ⟨hd.1, hd.2.1⟩, fun sig h => ?_, ok _ (by simp [va_wsS]), ok _ (by simp [va_wsS])⟩
  have h2 := hd.2.2
  rw [h] at h2
  exact (Option.some.inj h2).symm
theorem vx_callSW (X : Stand p l e R s m args below meth c T locs cells slots) (hexec : p.tables.exec = Jvm.exec) {own : String} {index : Nat} {y : MethodName} {bytes : ByteArray} {maxL : Nat} {ret : Option FieldType} {hh : List (Nat × Nat × Nat × Nat)}
    (hown : s.vm.findClass own = some m.cls) (hlink : (Cond.methodLink own index y).before args s = true) (hstat : (Cond.static y).before args s = true) (hinit : (Cond.initialized y.cls).before args s = true)
    (hcode : (Cond.codeWith y bytes maxL ret hh).before args s = true) (hy : y.cls ≠ "java/lang/invoke/MethodHandle" ∧ y.cls ≠ "java/lang/invoke/VarHandle")
    {W9 : Nat} {Pre : Pt → Array Value → Prop} {Post : Pt → Array Value → Option Value → Pt → Prop} (hK : Back l R p e below s args y 3 W9 Pre Post)
    {g : JFrame} (hg : g.method = m) (hsize : g.locals.size = c.maxLocals) {argsL rest : List Value} (hlen : ∀ sig, parseMethodDescriptor y.desc = some sig → argsL.length = sig.parameters.length)
    (hstack : g.stack = argsL.reverse ++ rest) (hW : 2 * g.monitorRoom + (rest.map fun v => v.category).sum ≤ W9) (hdg : decode c.code g.pc = .ok (.invokestatic index, 3))
    (hpre : ∀ vm₁, s.WarmedH vm₁ → Pre ⟨T.setVm vm₁, locs, cells, slots⟩ argsL.toArray) :
    ∃ (v : Option Value) (vm₁ : Vm) (B : Pt), s.WarmedH vm₁ ∧ Stand p l e R s m args below meth c B.U B.locs B.cells B.slots ∧ Post ⟨T.setVm vm₁, locs, cells, slots⟩ argsL.toArray v B ∧
      ∀ target, Steps p.tables e below (B.U.setTop { g with pc := g.pc + 3, stack := v.toList ++ rest }) target → Steps p.tables e below (T.setTop g) target := by
  obtain ⟨mk, methM, cM, hnamed, hmethM, -, -, -, -, -, -, hsigM⟩ := Cond.codeWith_spec hcode
  have hstatic : methM.isStatic = true := Cond.static_spec hnamed hmethM hstat
  obtain ⟨kP, hkP, -⟩ := className_of_methodNamed hnamed
  have hinitP : kP.init = .initialized := Cond.initialized_spec (findClass_of_methodNamed hnamed) hkP hinit
  obtain ⟨vm₁, X₁, hstep₁⟩ := X.invokestatic hexec hown hlink hnamed hmethM hstatic hkP hinitP hy (g := g) hg (argsL := argsL) (rest := rest) (hlen _ hsigM) hstack hdg
  obtain ⟨v, B, X', hpost, hsteps⟩ := hK m meth c ⟨T.setVm vm₁, locs, cells, slots⟩ { g with stack := rest } (.invokestatic index) mk argsL.toArray X₁ hg hsize hdg hW (X₁.named hnamed) (hpre vm₁ X₁.warmed)
  exact ⟨v, vm₁, B, X₁.warmed, X', hpost, fun target h => hstep₁ _ fun acts => by rw [doInvoke_state]; exact hsteps.trans h⟩
theorem vx_runSW {y : MethodName} {bytes cc : ByteArray} {maxL nL mc ms n index : Nat} {ret : Option FieldType} {hh : List (Nat × Nat × Nat × Nat)} {ws : List Cond} {rm : Room} {Pc : Array Value → State → Prop} {Qc : Array Value → State → Outcome → State → Prop} {free : Addr → Prop} {Ts : List Cond} {own : String} {As rest : List Value} {g : JFrame}
    (S : CallFix p m c cc nL s args Ts own) (hM : Met l y ws rm Pc Qc mc ms free) (cw : vx_CSW R s args own index y bytes maxL ret hh ws rm mc ms n) (hp : PreS s H Pc As)
    (hg : g.method = m) (hn : As.length = n) (hsize : g.locals.size = nL) (hstack : g.stack = As.reverse ++ rest) (hW : 2 * g.monitorRoom + (rest.map fun v => v.category).sum ≤ 8) (hdg : decode cc g.pc = .ok (.invokestatic index, 3)) (hf : cells + mc ≤ R.cells ∧ slots + ms ≤ R.slots) :
    va_Run p l e R s m args below meth c H locs cells slots mc ms g rest (Qc As.toArray) (free) := by
  obtain ⟨⟨hrc, hrs, hfr, hlo, hws, hcw⟩, hcode, hini, hy, hlen, hl, hstt⟩ := cw
  have hK : Back l R p e below s args y 3 8 (PreOf R mc ms Pc) (PostOf Qc mc ms free) := va_backW (hh := hh) (bytes := bytes) (maxL := maxL) (ret := ret) hM hp.1 hrc hrs hfr hlo hws hcw (fun a' U hW => word_at hW (Or.inl (by first | rfl | simp [Cond.onTables, Cond.keeps, Cond.steady])) hini)
  obtain ⟨hx, hb, hml, ho, -⟩ := S
  intro T hT X
  obtain ⟨v, vm₁, ⟨U', l2, c2, s2⟩, hW₁, X', ⟨g', mk, t, L, e1, e2, hq, h1, hL, h2, h3⟩, st⟩ := vx_callSW X hx (hh := hh) (bytes := bytes) (maxL := maxL) (ret := ret) ho hl hstt hini hcode hy hK hg (hsize.trans hml.symm) (argsL := As) (rest := rest) (fun sig h => hn.trans (hlen sig h)) hstack hW (by rw [hb]; exact hdg)
    (fun vm₁ hW₁ => ⟨hf.1, hf.2, hp.2 (T.setVm vm₁) hT hW₁⟩)
  dsimp only [Pt.U, Pt.locs, Pt.cells, Pt.slots] at X' e1 e2 h1 h2 h3 st
  subst h1; subst h2; subst h3
  exact ⟨v, (T.setVm vm₁).calling g' mk As.toArray, t, U', L, hT, X', hL, e1, e2, hq, st⟩
/-- not caught here, past rows that name other classes: it goes on to the caller -/
theorem vx_outP {p : Program} {l : Launch} {e : Env} {R : Room} {s : State} {m : MethodId} {args : Array Value} {below : List Frame} {meth : Method} {c : Code} {H : Heap} {locs : List Loc} {cells slots : Nat} {free : Addr → Prop} {ls : Array Slot} {rest : List Value} {Qc : Array Value → State → Outcome → State → Prop} {XC : String → State → State → Prop}
    {pc : Nat} {own E : String} {ce : Cell} {q : Addr} {mc ms : Nat} (hown : s.vm.findClass own = some m.cls) (hlocks : meth.locks = false)
    (hpass : ∀ z ∈ c.exceptionTable.toList, covers z pc = false ∨ (z.catchType ≠ 0 ∧ ∃ nm : String, (Cond.classLink own z.catchType nm).before args s = true ∧ va_Nc E nm s)) (hcell : H[q]? = some ce) (hv : ce.vm = .none) (hcl : s.vm.findClass E = some ce.cls)
    (hx : ∀ t : State, t.heap = H → s.vm.Alike t.vm → XC E s t) (hf : ∀ z ∈ locs, free z.base) (hc : cells ≤ mc) (hs : slots ≤ ms) :
    vx_W p l e R s m args below meth c H locs cells slots (vx_MQ below Qc XC args s mc ms free) (F0 m pc ls rest) q := by
  intro T hT X
  have hpl : e.platform.magicAccessors = ({} : Platform).magicAccessors := by rw [X.admits.platform]
  obtain ⟨vm', hW', X', st⟩ := X.outThrough hlocks q (g := F0 m pc ls rest) rfl rfl rfl (cell := ce) (by rw [hT]; exact hcell) (by rw [hv]; rfl)
    (by obtain ⟨k9, h9, -⟩ := Vm.findClass_spec hcl; exact ⟨k9, h9⟩) (fun z hz => by
      rcases hpass z hz with h | ⟨hz0, nm, hl1, hn1⟩
      · exact Or.inl h
      · obtain ⟨c6, hc6, hcl6⟩ := Cond.classLink_spec hown hl1 e.platform hpl
        obtain ⟨a8, b8, h1, h2, h3⟩ := hn1
        cases Option.some.inj (h1.symm.trans hcl)
        cases Option.some.inj (h2.symm.trans hc6)
        exact Or.inr ⟨hz0, _, hcl6, h3⟩)
  obtain ⟨g₀, hfr⟩ := X'.frames_eq
  have hcell9 : ((T.setVm vm').setFrames (.throwing q :: below)).heap[q]? = some ce := by
    show T.heap[q]? = some ce
    rw [hT]; exact hcell
  have hend : Ended ((T.setVm vm').setFrames (.throwing q :: below)) below (.threw q) := State.frames_setFrames _ (State.cur_lt_of_frames hfr)
  refine ⟨(T.setVm vm').setFrames (.throwing q :: below), ?_, .threw q, X'.here.running, hend, Or.inr ⟨q, rfl, E, ce, locs, hx _ hT (X'.ends _).1.alike, hcell9, hv, hcl, (X'.ends _).1, (X'.ends _).2.mono hc hs, hf⟩⟩
  rw [X.pushThrowing_eq]
  exact st
/-- a thing of a world lies in the heap -/
theorem vx_lt {D : va_G} {cl : List vw_C} {ws : va_W} {H1 : Heap} (h : va_P D cl ws H1) {k : Nat} {q : Nat × va_E} (hk : ws[k]? = some q) : q.1 < H1.size := (h k q hk).lt
end VXS
/-! ===== END ===== -/
/-! ===== BEGIN methods with a table of their own: called by a name, returning or throwing ===== -/
section VXH
/-! vx_backW, vx_callVX, vx_callSX, vx_callVW, vx_runVW, vx_runVX, vx_runSX, vx_ofWH follow the same proofs as their sisters above (Free/Laws.lean, Shelf42/LK1.lean); vx_outP calls Shelf42/NT130.lean (outThrough). -/
section
variable {l : Launch} {R : Room} {p : Program} {e : Env} {below : List Frame} {s : State} {sargs : Array Value} {y : MethodName} {len W9 : Nat}
theorem vx_backW {ws : List Cond} {rm : Room} {Pc : Array Value → State → Prop} {Qc : Array Value → State → Outcome → State → Prop} {XC : String → State → State → Prop} {mc ms : Nat} {free : Addr → Prop} {bytes : ByteArray} {maxL : Nat} {ret : Option FieldType} {hh : List (Nat × Nat × Nat × Nat)}
    (hM : vx_Met l y ws rm Pc Qc XC mc ms free) (hblind : FrameBlind Pc) (hrc : rm.cells = mc) (hrs : rm.slots = ms)
    (hframes : rm.frames + 1 ≤ R.frames) (hlocals : W9 + (maxL + 11) + rm.locals ≤ R.locals)
    (hws : ∀ w ∈ ws, ∀ a' U, s.WarmedH U.vm → w.before a' U = true) (hcode : Cond.codeWith y bytes maxL ret hh ∈ ws) (hinit : ∀ a' U, s.WarmedH U.vm → (Cond.initialized y.cls).before a' U = true) :
    vx_Back l R p e below s sargs y len W9 (PreOf R mc ms Pc) (PostOf Qc mc ms free) (vx_Post XC mc ms free) := by
  intro m meth c A g ig mk a X hg hsize hdg hW hn hp
  have h1 : (headSpec ws rm).pre.before a A.U = true := atoms_intro fun w hw => hws w hw _ _ X.warmed
  have h2 : (Cond.codeWith y bytes maxL ret hh).before a A.U = true := hws _ hcode _ _ X.warmed
  have h3 : (Cond.initialized y.cls).before a A.U = true := hinit _ _ X.warmed
  have h4 : A.cells + (headSpec ws rm).room.cells ≤ R.cells := by rw [show (headSpec ws rm).room.cells = mc from hrc]; exact hp.1
  have h5 : A.slots + (headSpec ws rm).room.slots ≤ R.slots := by rw [show (headSpec ws rm).room.slots = ms from hrs]; exact hp.2.1
  have hPc : Pc a (A.U.calling g mk a) := hblind _ _ _ _ hp.2.2
  obtain ⟨U, Ls, c0, s0⟩ := A
  dsimp only [Pt.U, Pt.locs, Pt.cells, Pt.slots] at h1 h2 h3 h4 h5 X hn hPc ⊢
  obtain ⟨m9, methY, cY, hn9, hmY, hcY, -, hlY, -⟩ := Cond.codeWith_spec h2
  cases Option.some.inj (hn9.symm.trans hn)
  obtain ⟨kY, hkY, -⟩ := className_of_methodNamed hn
  have hinitY : kY.init = .initialized := Cond.initialized_spec (findClass_of_methodNamed hn) hkY h3
  have h : At U g.method c below := by rw [hg]; exact X.here
  have hlocals9 : W9 + (maxL + 11) + (headSpec ws rm).room.locals ≤ R.locals := hlocals
  have happ : (headSpec ws rm).appliesLoose y e.platform (U.calling g mk a) = true :=
    Spec.appliesLoose_calling (g := g) h hdg hn hkY hinitY
      (X.room_calling (g := g) (R' := (headSpec ws rm).room) hsize hmY hcY hframes (by rw [hlY]; omega) h4 h5) h1
  obtain ⟨mid, hmid⟩ := h.above
  have hfr : (U.setTop g).frames = (.java g :: mid) ++ below := by rw [State.frames_setTop' g h.top, hmid]; rfl
  obtain ⟨o, s₂, hsteps, -, hend, hq⟩ := Steps.callFree hM p X.admits X.cas X.clock (acts := []) hfr happ hPc trivial
  have hq' : vx_Q Qc XC mc ms free a (U.calling g mk a) o s₂ := hq
  rw [State.frames_setTop' g h.top] at hend
  obtain ⟨g₀, hg0⟩ := Option.isSome_iff_exists.mp h.top
  obtain ⟨r, hr⟩ := State.topJava?_eq_some.mp hg0
  have hr' : (({ U with heap := s₂.heap, slotsUsed := s₂.slotsUsed } : State).setVm s₂.vm).frames = .java g₀ :: r := hr
  rcases hq' with ⟨hqc, L, hfe, hL⟩ | ⟨q, rfl, E, ce, L, hx, hce, hcv, hcl, hW₂, hsm, hL⟩
  · obtain ⟨⟨v, rfl⟩, hW₂, e2, q2, q3, q4, q5, q6⟩ := id hfe
    have e3 : s₂ = ({ (U.calling g mk a).setFrames s₂.frames with heap := s₂.heap, slotsUsed := s₂.slotsUsed } : State).setVm s₂.vm := by
      have : s₂ = ({ s₂ with vm := (U.calling g mk a).vm } : State).setVm s₂.vm := rfl
      rw [e2] at this
      exact this
    obtain ⟨c₂, i₂, len₂, hc₂, hd₂, hf₂⟩ := hend
    have hW' : U.WarmedH s₂.vm := hW₂
    have hcc : c₂ = c := by
      have h1 : s₂.code? g.method = U.code? g.method := by
        rw [State.code?_eq, State.code?_eq, hW'.alike.method?]
      exact Option.some.inj (hc₂.symm.trans (h1.trans h.code))
    subst hcc
    have hlen : len₂ = len := by rw [hdg] at hd₂; cases hd₂; rfl
    subst hlen
    have hs₂ : s₂ = (({ U with heap := s₂.heap, slotsUsed := s₂.slotsUsed } : State).setVm s₂.vm).setTop { g with pc := g.pc + len₂, stack := v.toList ++ g.stack } := by
      refine e3.trans ?_
      rw [hf₂, State.calling_eq h.top, State.setFrames_setFrames, State.setTop_of_frames _ hr', hr]
      rfl
    have hsame : U.sameButNew ({ U with heap := s₂.heap, slotsUsed := s₂.slotsUsed } : State) L mc ms := by
      refine ⟨?_, q2, q3, q4, q5, q6⟩
      obtain ⟨t, ht, -⟩ := State.frames_cons hr
      show ({ U with heap := s₂.heap, slotsUsed := s₂.slotsUsed } : State) = { U.setFrames U.frames with heap := s₂.heap, slotsUsed := s₂.slotsUsed }
      rw [State.setFrames_self ht]
    subst hg
    refine Or.inl ⟨v, ⟨(({ U with heap := s₂.heap, slotsUsed := s₂.slotsUsed } : State).setVm s₂.vm), Ls ++ L, c0 + mc, s0 + ms⟩,
      ⟨X.admits, X.cas, X.clock, X.frames, X.room, X.hears, X.method, X.code, (X.here.setHeapUsed s₂.heap s₂.slotsUsed).setVm hW'.alike, X.tail, State.WarmedH.trans X.warmed hW', X.limits, X.bytes, X.same.trans (hsame.setVm s.vm)⟩,
      ⟨g, mk, s₂, L, rfl, rfl, hqc, rfl, hL, rfl, rfl⟩, ?_⟩
    show Steps p.tables e below _ ((({ U with heap := s₂.heap, slotsUsed := s₂.slotsUsed } : State).setVm s₂.vm).setTop { g with pc := g.pc + len₂, stack := v.toList ++ g.stack })
    rw [← hs₂]
    exact hsteps
  · obtain ⟨e2, q2, q3, q4, q5, q6⟩ := id hsm
    have e3 : s₂ = ({ (U.calling g mk a).setFrames s₂.frames with heap := s₂.heap, slotsUsed := s₂.slotsUsed } : State).setVm s₂.vm := by
      have : s₂ = ({ s₂ with vm := (U.calling g mk a).vm } : State).setVm s₂.vm := rfl
      rw [e2] at this
      exact this
    have hf₂ : s₂.frames = .throwing q :: .java g :: U.frames.tail := hend
    have hW' : U.WarmedH s₂.vm := hW₂
    have hs₂ : s₂ = ((({ U with heap := s₂.heap, slotsUsed := s₂.slotsUsed } : State).setVm s₂.vm).setTop g).pushFrame (.throwing q) := by
      refine e3.trans ?_
      rw [hf₂, State.calling_eq h.top, State.setFrames_setFrames, State.pushFrame, State.frames_setTop _ hr', State.setTop_of_frames _ hr', State.setFrames_setFrames, hr]
      rfl
    have hsame : U.sameButNew ({ U with heap := s₂.heap, slotsUsed := s₂.slotsUsed } : State) L mc ms := by
      refine ⟨?_, q2, q3, q4, q5, q6⟩
      obtain ⟨t, ht, -⟩ := State.frames_cons hr
      show ({ U with heap := s₂.heap, slotsUsed := s₂.slotsUsed } : State) = { U.setFrames U.frames with heap := s₂.heap, slotsUsed := s₂.slotsUsed }
      rw [State.setFrames_self ht]
    subst hg
    refine Or.inr ⟨q, ⟨(({ U with heap := s₂.heap, slotsUsed := s₂.slotsUsed } : State).setVm s₂.vm), Ls ++ L, c0 + mc, s0 + ms⟩,
      ⟨X.admits, X.cas, X.clock, X.frames, X.room, X.hears, X.method, X.code, (X.here.setHeapUsed s₂.heap s₂.slotsUsed).setVm hW'.alike, X.tail, State.WarmedH.trans X.warmed hW', X.limits, X.bytes, X.same.trans (hsame.setVm s.vm)⟩,
      ⟨g, mk, s₂, L, E, ce, rfl, rfl, hx, hce, hcv, hcl, rfl, hL, rfl, rfl⟩, ?_⟩
    show Steps p.tables e below _ (((({ U with heap := s₂.heap, slotsUsed := s₂.slotsUsed } : State).setVm s₂.vm).setTop g).pushFrame (.throwing q))
    rw [← hs₂]
    exact hsteps
end
variable {p : Program} {l : Launch} {e : Env} {R : Room} {s : State} {m : MethodId} {args : Array Value} {below : List Frame} {meth : Method} {c : Code} {T : State} {H : Heap} {locs : List Loc} {cells slots : Nat}
theorem vx_callVX (X : Stand p l e R s m args below meth c T locs cells slots) (hexec : p.tables.exec = Jvm.exec) {own C : String} {index : Nat} {y : MethodName} {bytes : ByteArray} {maxL : Nat} {ret : Option FieldType} {hh : List (Nat × Nat × Nat × Nat)}
    (hown : s.vm.findClass own = some m.cls) (hlink : (Cond.methodLink own index y).before args s = true) (hinst : (Cond.instanceMethod y).before args s = true) (hsel : (Cond.selects C y y).before args s = true)
    (hcode : (Cond.codeWith y bytes maxL ret hh).before args s = true) (hy : y.cls ≠ "java/lang/invoke/MethodHandle" ∧ y.cls ≠ "java/lang/invoke/VarHandle")
    {W9 : Nat} {Pre : Pt → Array Value → Prop} {Post : Pt → Array Value → Option Value → Pt → Prop} {PostX : Pt → Array Value → Addr → Pt → Prop} (hK : vx_Back l R p e below s args y 3 W9 Pre Post PostX)
    {b : Addr} {cellB : Cell} (hcell : T.heap[b]? = some cellB) (hobj : cellB.vm.isStatics = false) (hcls : s.vm.findClass C = some cellB.cls)
    {g : JFrame} (hg : g.method = m) (hsize : g.locals.size = c.maxLocals) {argsL rest : List Value} (hlen : ∀ sig, parseMethodDescriptor y.desc = some sig → argsL.length = sig.parameters.length)
    (hstack : g.stack = argsL.reverse ++ .ref b :: rest) (hW : 2 * g.monitorRoom + (rest.map fun v => v.category).sum ≤ W9) (hdg : decode c.code g.pc = .ok (.invokevirtual index, 3))
    (hpre : ∀ vm₁, s.WarmedH vm₁ → Pre ⟨T.setVm vm₁, locs, cells, slots⟩ (Value.ref b :: argsL).toArray) :
    (∃ (v : Option Value) (vm₁ : Vm) (B : Pt), s.WarmedH vm₁ ∧ Stand p l e R s m args below meth c B.U B.locs B.cells B.slots ∧ Post ⟨T.setVm vm₁, locs, cells, slots⟩ (Value.ref b :: argsL).toArray v B ∧
      ∀ target, Steps p.tables e below (B.U.setTop { g with pc := g.pc + 3, stack := v.toList ++ rest }) target → Steps p.tables e below (T.setTop g) target) ∨
    (∃ (q : Addr) (vm₁ : Vm) (B : Pt), s.WarmedH vm₁ ∧ Stand p l e R s m args below meth c B.U B.locs B.cells B.slots ∧ PostX ⟨T.setVm vm₁, locs, cells, slots⟩ (Value.ref b :: argsL).toArray q B ∧
      Steps p.tables e below (T.setTop g) ((B.U.setTop { g with stack := rest }).pushFrame (.throwing q))) := by
  obtain ⟨mk, methM, hnamed, hmethM, hstM, habM⟩ := Cond.instanceMethod_spec hinst
  obtain ⟨m8, methM', cM, hn8, hmethM', -, -, -, -, -, -, hsigM⟩ := Cond.codeWith_spec hcode
  cases Option.some.inj (hn8.symm.trans hnamed)
  cases hmethM.symm.trans hmethM'
  obtain ⟨c2, r2, m2, q1, q2, q3, q4, kP, hkP, hkPi⟩ := Cond.selects_spec hsel
  cases hcls.symm.trans q1
  cases (State.methodFound?_of_named hnamed hy).symm.trans q2
  cases hnamed.symm.trans q3
  have hselP : selectMethod e.platform s.vm cellB.cls mk = .method mk := by rw [Launch.admits_selectMethod X.admits]; exact q4
  obtain ⟨vm₁, X₁, hstep₁⟩ := X.invokevirtual hexec hown hlink hnamed hmethM hstM hkP hkPi hy (a := b) (cell := cellB) hcell
    (fun z h => by rw [h] at hobj; cases hobj) hselP hmethM habM hkP hkPi (g := g) hg (argsL := argsL) (rest := rest) (hlen _ hsigM) hstack hdg
  rcases hK m meth c ⟨T.setVm vm₁, locs, cells, slots⟩ { g with stack := rest } (.invokevirtual index) mk (Value.ref b :: argsL).toArray X₁ hg hsize hdg hW (X₁.named hnamed) (hpre vm₁ X₁.warmed) with ⟨v, B, X', hpost, hsteps⟩ | ⟨q, B, X', hpost, hsteps⟩
  · exact Or.inl ⟨v, vm₁, B, X₁.warmed, X', hpost, fun target h => hstep₁ _ fun acts => by rw [doInvoke_state]; exact hsteps.trans h⟩
  · exact Or.inr ⟨q, vm₁, B, X₁.warmed, X', hpost, hstep₁ _ fun acts => by rw [doInvoke_state]; exact hsteps⟩
theorem vx_callSX (X : Stand p l e R s m args below meth c T locs cells slots) (hexec : p.tables.exec = Jvm.exec) {own : String} {index : Nat} {y : MethodName} {bytes : ByteArray} {maxL : Nat} {ret : Option FieldType} {hh : List (Nat × Nat × Nat × Nat)}
    (hown : s.vm.findClass own = some m.cls) (hlink : (Cond.methodLink own index y).before args s = true) (hstat : (Cond.static y).before args s = true) (hinit : (Cond.initialized y.cls).before args s = true)
    (hcode : (Cond.codeWith y bytes maxL ret hh).before args s = true) (hy : y.cls ≠ "java/lang/invoke/MethodHandle" ∧ y.cls ≠ "java/lang/invoke/VarHandle")
    {W9 : Nat} {Pre : Pt → Array Value → Prop} {Post : Pt → Array Value → Option Value → Pt → Prop} {PostX : Pt → Array Value → Addr → Pt → Prop} (hK : vx_Back l R p e below s args y 3 W9 Pre Post PostX)
    {g : JFrame} (hg : g.method = m) (hsize : g.locals.size = c.maxLocals) {argsL rest : List Value} (hlen : ∀ sig, parseMethodDescriptor y.desc = some sig → argsL.length = sig.parameters.length)
    (hstack : g.stack = argsL.reverse ++ rest) (hW : 2 * g.monitorRoom + (rest.map fun v => v.category).sum ≤ W9) (hdg : decode c.code g.pc = .ok (.invokestatic index, 3))
    (hpre : ∀ vm₁, s.WarmedH vm₁ → Pre ⟨T.setVm vm₁, locs, cells, slots⟩ argsL.toArray) :
    (∃ (v : Option Value) (vm₁ : Vm) (B : Pt), s.WarmedH vm₁ ∧ Stand p l e R s m args below meth c B.U B.locs B.cells B.slots ∧ Post ⟨T.setVm vm₁, locs, cells, slots⟩ argsL.toArray v B ∧
      ∀ target, Steps p.tables e below (B.U.setTop { g with pc := g.pc + 3, stack := v.toList ++ rest }) target → Steps p.tables e below (T.setTop g) target) ∨
    (∃ (q : Addr) (vm₁ : Vm) (B : Pt), s.WarmedH vm₁ ∧ Stand p l e R s m args below meth c B.U B.locs B.cells B.slots ∧ PostX ⟨T.setVm vm₁, locs, cells, slots⟩ argsL.toArray q B ∧
      Steps p.tables e below (T.setTop g) ((B.U.setTop { g with stack := rest }).pushFrame (.throwing q))) := by
  obtain ⟨mk, methM, cM, hnamed, hmethM, -, -, -, -, -, -, hsigM⟩ := Cond.codeWith_spec hcode
  have hstatic : methM.isStatic = true := Cond.static_spec hnamed hmethM hstat
  obtain ⟨kP, hkP, -⟩ := className_of_methodNamed hnamed
  have hinitP : kP.init = .initialized := Cond.initialized_spec (findClass_of_methodNamed hnamed) hkP hinit
  obtain ⟨vm₁, X₁, hstep₁⟩ := X.invokestatic hexec hown hlink hnamed hmethM hstatic hkP hinitP hy (g := g) hg (argsL := argsL) (rest := rest) (hlen _ hsigM) hstack hdg
  rcases hK m meth c ⟨T.setVm vm₁, locs, cells, slots⟩ { g with stack := rest } (.invokestatic index) mk argsL.toArray X₁ hg hsize hdg hW (X₁.named hnamed) (hpre vm₁ X₁.warmed) with ⟨v, B, X', hpost, hsteps⟩ | ⟨q, B, X', hpost, hsteps⟩
  · exact Or.inl ⟨v, vm₁, B, X₁.warmed, X', hpost, fun target h => hstep₁ _ fun acts => by rw [doInvoke_state]; exact hsteps.trans h⟩
  · exact Or.inr ⟨q, vm₁, B, X₁.warmed, X', hpost, hstep₁ _ fun acts => by rw [doInvoke_state]; exact hsteps⟩
theorem vx_callVW (X : Stand p l e R s m args below meth c T locs cells slots) (hexec : p.tables.exec = Jvm.exec) {own C : String} {index : Nat} {y : MethodName} {bytes : ByteArray} {maxL : Nat} {ret : Option FieldType} {hh : List (Nat × Nat × Nat × Nat)}
    (hown : s.vm.findClass own = some m.cls) (hlink : (Cond.methodLink own index y).before args s = true) (hinst : (Cond.instanceMethod y).before args s = true) (hsel : (Cond.selects C y y).before args s = true)
    (hcode : (Cond.codeWith y bytes maxL ret hh).before args s = true) (hy : y.cls ≠ "java/lang/invoke/MethodHandle" ∧ y.cls ≠ "java/lang/invoke/VarHandle")
    {W9 : Nat} {Pre : Pt → Array Value → Prop} {Post : Pt → Array Value → Option Value → Pt → Prop} (hK : Back l R p e below s args y 3 W9 Pre Post)
    {b : Addr} {cellB : Cell} (hcell : T.heap[b]? = some cellB) (hobj : cellB.vm.isStatics = false) (hcls : s.vm.findClass C = some cellB.cls)
    {g : JFrame} (hg : g.method = m) (hsize : g.locals.size = c.maxLocals) {argsL rest : List Value} (hlen : ∀ sig, parseMethodDescriptor y.desc = some sig → argsL.length = sig.parameters.length)
    (hstack : g.stack = argsL.reverse ++ .ref b :: rest) (hW : 2 * g.monitorRoom + (rest.map fun v => v.category).sum ≤ W9) (hdg : decode c.code g.pc = .ok (.invokevirtual index, 3))
    (hpre : ∀ vm₁, s.WarmedH vm₁ → Pre ⟨T.setVm vm₁, locs, cells, slots⟩ (Value.ref b :: argsL).toArray) :
    ∃ (v : Option Value) (vm₁ : Vm) (B : Pt), s.WarmedH vm₁ ∧ Stand p l e R s m args below meth c B.U B.locs B.cells B.slots ∧ Post ⟨T.setVm vm₁, locs, cells, slots⟩ (Value.ref b :: argsL).toArray v B ∧
      ∀ target, Steps p.tables e below (B.U.setTop { g with pc := g.pc + 3, stack := v.toList ++ rest }) target → Steps p.tables e below (T.setTop g) target := by
  obtain ⟨mk, methM, hnamed, hmethM, hstM, habM⟩ := Cond.instanceMethod_spec hinst
  obtain ⟨m8, methM', cM, hn8, hmethM', -, -, -, -, -, -, hsigM⟩ := Cond.codeWith_spec hcode
  cases Option.some.inj (hn8.symm.trans hnamed)
  cases hmethM.symm.trans hmethM'
  obtain ⟨c2, r2, m2, q1, q2, q3, q4, kP, hkP, hkPi⟩ := Cond.selects_spec hsel
  cases hcls.symm.trans q1
  cases (State.methodFound?_of_named hnamed hy).symm.trans q2
  cases hnamed.symm.trans q3
  have hselP : selectMethod e.platform s.vm cellB.cls mk = .method mk := by rw [Launch.admits_selectMethod X.admits]; exact q4
  obtain ⟨vm₁, X₁, hstep₁⟩ := X.invokevirtual hexec hown hlink hnamed hmethM hstM hkP hkPi hy (a := b) (cell := cellB) hcell
    (fun z h => by rw [h] at hobj; cases hobj) hselP hmethM habM hkP hkPi (g := g) hg (argsL := argsL) (rest := rest) (hlen _ hsigM) hstack hdg
  obtain ⟨v, B, X', hpost, hsteps⟩ := hK m meth c ⟨T.setVm vm₁, locs, cells, slots⟩ { g with stack := rest } (.invokevirtual index) mk (Value.ref b :: argsL).toArray X₁ hg hsize hdg hW (X₁.named hnamed) (hpre vm₁ X₁.warmed)
  exact ⟨v, vm₁, B, X₁.warmed, X', hpost, fun target h => hstep₁ _ fun acts => by rw [doInvoke_state]; exact hsteps.trans h⟩
abbrev vx_CVW (R : Room) (s : State) (args : Array Value) (own C : String) (index : Nat) (y : MethodName) (bytes : ByteArray) (maxL : Nat) (ret : Option FieldType) (hh : List (Nat × Nat × Nat × Nat)) (ws : List Cond) (rm : Room) (mc ms n : Nat) : Prop :=
  (rm.cells = mc ∧ rm.slots = ms ∧ rm.frames + 1 ≤ R.frames ∧ 8 + (maxL + 11) + rm.locals ≤ R.locals ∧ (∀ w ∈ ws, ∀ (a' : Array Value) (U : State), s.WarmedH U.vm → w.before a' U = true) ∧ Cond.codeWith y bytes maxL ret hh ∈ ws) ∧
  (Cond.codeWith y bytes maxL ret hh).before args s = true ∧ (Cond.initialized y.cls).before args s = true ∧ (y.cls ≠ "java/lang/invoke/MethodHandle" ∧ y.cls ≠ "java/lang/invoke/VarHandle") ∧
  (∀ sig, parseMethodDescriptor y.desc = some sig → n = sig.parameters.length) ∧ (Cond.methodLink own index y).before args s = true ∧ (Cond.instanceMethod y).before args s = true ∧ (Cond.selects C y y).before args s = true
theorem vx_cwVW {own C : String} {index maxL mc ms : Nat} {y : MethodName} {bytes : ByteArray} {ret : Option FieldType} {hh : List (Nat × Nat × Nat × Nat)} {Ts ws ws' : List Cond} {rm : Room} (n : Nat) (ht : ∀ w ∈ Ts, w.before args s = true) (hT : GoodIn Ts (wsV own index C y ws)) (hw : ws = Cond.codeWith y bytes maxL ret hh :: ws') (hrc : rm.cells = mc) (hrs : rm.slots = ms)
    (hd : y.cls = C ∧ y.cls ≠ "java/lang/invoke/MethodHandle" ∧ y.cls ≠ "java/lang/invoke/VarHandle" ∧ (parseMethodDescriptor y.desc).map (fun d => d.parameters.length) = some n) (hR : rm.frames + 1 ≤ R.frames ∧ 8 + (maxL + 11) + rm.locals ≤ R.locals) :
    vx_CVW R s args own C index y bytes maxL ret hh ws rm mc ms n := by
  obtain ⟨hC, hd⟩ := hd
  subst hC
  have ok : ∀ w ∈ wsV own index y.cls y ws, w.before args s = true := fun w h => ht w (hT w h).1
  have hG : GoodIn Ts ws := fun w h => hT w (by unfold wsV; exact List.mem_append_right _ h)
  have hc : Cond.codeWith y bytes maxL ret hh ∈ ws := by rw [hw]; exact List.mem_cons_self
  refine ⟨⟨hrc, hrs, hR.1, hR.2, pay_in ht hG, hc⟩, ht _ (hG _ hc).1, ok _ (by simp [wsV]), ⟨hd.1, hd.2.1⟩, fun sig h => ?_, ok _ (by simp [wsV]), ok _ (by simp [wsV]), ok _ (by simp [wsV])⟩
  have h2 := hd.2.2
  rw [h] at h2
  exact (Option.some.inj h2).symm
theorem vx_runVW {y : MethodName} {bytes cc : ByteArray} {maxL nL mc ms n index : Nat} {ret : Option FieldType} {hh : List (Nat × Nat × Nat × Nat)} {ws : List Cond} {rm : Room} {Pc : Array Value → State → Prop} {Qc : Array Value → State → Outcome → State → Prop} {free : Addr → Prop} {Ts : List Cond} {own C : String} {b : Addr} {As rest : List Value} {g : JFrame}
    (S : CallFix p m c cc nL s args Ts own) (hM : Met l y ws rm Pc Qc mc ms free) (cw : vx_CVW R s args own C index y bytes maxL ret hh ws rm mc ms n) (hp : PreV s H C b Pc As)
    (hg : g.method = m) (hn : As.length = n) (hsize : g.locals.size = nL) (hstack : g.stack = As.reverse ++ .ref b :: rest) (hW : 2 * g.monitorRoom + (rest.map fun v => v.category).sum ≤ 8) (hdg : decode cc g.pc = .ok (.invokevirtual index, 3)) (hf : cells + mc ≤ R.cells ∧ slots + ms ≤ R.slots) :
    va_Run p l e R s m args below meth c H locs cells slots mc ms g rest (Qc (Value.ref b :: As).toArray) free := by
  obtain ⟨⟨hrc, hrs, hfr, hlo, hws, hcw⟩, hcode, hini, hy, hlen, hl, hin, hse⟩ := cw
  have hK : Back l R p e below s args y 3 8 (PreOf R mc ms Pc) (PostOf Qc mc ms free) := va_backW (hh := hh) (bytes := bytes) (maxL := maxL) (ret := ret) hM hp.1 hrc hrs hfr hlo hws hcw (fun a' U hW => word_at hW (Or.inl (by first | rfl | simp [Cond.onTables, Cond.keeps, Cond.steady])) hini)
  obtain ⟨hx, hb, hml, ho, -⟩ := S
  obtain ⟨-, ⟨cellB, hcB, hoB, hclB⟩, hPc⟩ := hp
  intro T hT X
  obtain ⟨v, vm₁, ⟨U', l2, c2, s2⟩, hW₁, X', ⟨g', mk, t, L, e1, e2, hq, h1, hL, h2, h3⟩, st⟩ := vx_callVW X hx (C := C) (hh := hh) (bytes := bytes) (maxL := maxL) (ret := ret) ho hl hin hse hcode hy hK (by rw [hT]; exact hcB) hoB hclB hg (hsize.trans hml.symm) (argsL := As) (rest := rest) (fun sig h => hn.trans (hlen sig h)) hstack hW (by rw [hb]; exact hdg)
    (fun vm₁ hW₁ => ⟨hf.1, hf.2, hPc (T.setVm vm₁) hT hW₁⟩)
  dsimp only [Pt.U, Pt.locs, Pt.cells, Pt.slots] at X' e1 e2 h1 h2 h3 st
  subst h1; subst h2; subst h3
  exact ⟨v, (T.setVm vm₁).calling g' mk (Value.ref b :: As).toArray, t, U', L, hT, X', hL, e1, e2, hq, st⟩
section
variable {y : MethodName} {bytes cc : ByteArray} {maxL nL mc ms n index : Nat} {ret : Option FieldType} {ws : List Cond} {rm : Room} {Pc : Array Value → State → Prop} {Qc : Array Value → State → Outcome → State → Prop} {XC : String → State → State → Prop} {free : Addr → Prop} {Ts : List Cond} {own C : String} {b : Addr} {As rest : List Value} {g : JFrame}
theorem vx_runVX {hh : List (Nat × Nat × Nat × Nat)} (S : CallFix p m c cc nL s args Ts own) (hM : vx_Met l y ws rm Pc Qc XC mc ms free) (cw : vx_CVW R s args own C index y bytes maxL ret hh ws rm mc ms n) (hp : PreV s H C b Pc As)
    (hg : g.method = m) (hn : As.length = n) (hsize : g.locals.size = nL) (hstack : g.stack = As.reverse ++ .ref b :: rest) (hW : 2 * g.monitorRoom + (rest.map fun v => v.category).sum ≤ 8) (hdg : decode cc g.pc = .ok (.invokevirtual index, 3)) (hf : cells + mc ≤ R.cells ∧ slots + ms ≤ R.slots) :
    vx_Run p l e R s m args below meth c H locs cells slots mc ms g rest (Qc (Value.ref b :: As).toArray) XC free := by
  obtain ⟨⟨hrc, hrs, hfr, hlo, hws, hcw⟩, hcode, hini, hy, hlen, hl, hin, hse⟩ := cw
  have hK : vx_Back l R p e below s args y 3 8 (PreOf R mc ms Pc) (PostOf Qc mc ms free) (vx_Post XC mc ms free) := vx_backW (hh := hh) (bytes := bytes) (maxL := maxL) (ret := ret) hM hp.1 hrc hrs hfr hlo hws hcw (fun a' U hW => word_at hW (Or.inl (by first | rfl | simp [Cond.onTables, Cond.keeps, Cond.steady])) hini)
  obtain ⟨hx, hb, hml, ho, -⟩ := S
  obtain ⟨-, ⟨cellB, hcB, hoB, hclB⟩, hPc⟩ := hp
  intro T hT X
  rcases vx_callVX X hx (C := C) (hh := hh) (bytes := bytes) (maxL := maxL) (ret := ret) ho hl hin hse hcode hy hK (by rw [hT]; exact hcB) hoB hclB hg (hsize.trans hml.symm) (argsL := As) (rest := rest) (fun sig h => hn.trans (hlen sig h)) hstack hW (by rw [hb]; exact hdg)
    (fun vm₁ hW₁ => ⟨hf.1, hf.2, hPc (T.setVm vm₁) hT hW₁⟩) with ⟨v, vm₁, ⟨U', l2, c2, s2⟩, hW₁, X', ⟨g', mk, t, L, e1, e2, hq, h1, hL, h2, h3⟩, st⟩ | ⟨q, vm₁, ⟨U', l2, c2, s2⟩, hW₁, X', ⟨g', mk, t, L, E, ce, e1, e2, hq, hce, hcv, hcl, h1, hL, h2, h3⟩, st⟩
  · dsimp only [Pt.U, Pt.locs, Pt.cells, Pt.slots] at X' e1 e2 h1 h2 h3 st
    subst h1; subst h2; subst h3
    exact Or.inl ⟨v, (T.setVm vm₁).calling g' mk (Value.ref b :: As).toArray, t, U', L, hT, X', hL, e1, e2, hq, st⟩
  · dsimp only [Pt.U, Pt.locs, Pt.cells, Pt.slots] at X' e1 e2 h1 h2 h3 st hcl
    subst h1; subst h2; subst h3
    exact Or.inr ⟨q, (T.setVm vm₁).calling g' mk (Value.ref b :: As).toArray, t, U', L, E, ce, hT, X', hL, e1, e2, hq, hce, hcv, vx_cls hW₁ hcl, st⟩
theorem vx_runSX {hh : List (Nat × Nat × Nat × Nat)} (S : CallFix p m c cc nL s args Ts own) (hM : vx_Met l y ws rm Pc Qc XC mc ms free) (cw : vx_CSW R s args own index y bytes maxL ret hh ws rm mc ms n) (hp : PreS s H Pc As)
    (hg : g.method = m) (hn : As.length = n) (hsize : g.locals.size = nL) (hstack : g.stack = As.reverse ++ rest) (hW : 2 * g.monitorRoom + (rest.map fun v => v.category).sum ≤ 8) (hdg : decode cc g.pc = .ok (.invokestatic index, 3)) (hf : cells + mc ≤ R.cells ∧ slots + ms ≤ R.slots) :
    vx_Run p l e R s m args below meth c H locs cells slots mc ms g rest (Qc As.toArray) XC free := by
  obtain ⟨⟨hrc, hrs, hfr, hlo, hws, hcw⟩, hcode, hini, hy, hlen, hl, hstt⟩ := cw
  have hK : vx_Back l R p e below s args y 3 8 (PreOf R mc ms Pc) (PostOf Qc mc ms free) (vx_Post XC mc ms free) := vx_backW (hh := hh) (bytes := bytes) (maxL := maxL) (ret := ret) hM hp.1 hrc hrs hfr hlo hws hcw (fun a' U hW => word_at hW (Or.inl (by first | rfl | simp [Cond.onTables, Cond.keeps, Cond.steady])) hini)
  obtain ⟨hx, hb, hml, ho, -⟩ := S
  intro T hT X
  rcases vx_callSX X hx (hh := hh) (bytes := bytes) (maxL := maxL) (ret := ret) ho hl hstt hini hcode hy hK hg (hsize.trans hml.symm) (argsL := As) (rest := rest) (fun sig h => hn.trans (hlen sig h)) hstack hW (by rw [hb]; exact hdg)
    (fun vm₁ hW₁ => ⟨hf.1, hf.2, hp.2 (T.setVm vm₁) hT hW₁⟩) with ⟨v, vm₁, ⟨U', l2, c2, s2⟩, hW₁, X', ⟨g', mk, t, L, e1, e2, hq, h1, hL, h2, h3⟩, st⟩ | ⟨q, vm₁, ⟨U', l2, c2, s2⟩, hW₁, X', ⟨g', mk, t, L, E, ce, e1, e2, hq, hce, hcv, hcl, h1, hL, h2, h3⟩, st⟩
  · dsimp only [Pt.U, Pt.locs, Pt.cells, Pt.slots] at X' e1 e2 h1 h2 h3 st
    subst h1; subst h2; subst h3
    exact Or.inl ⟨v, (T.setVm vm₁).calling g' mk As.toArray, t, U', L, hT, X', hL, e1, e2, hq, st⟩
  · dsimp only [Pt.U, Pt.locs, Pt.cells, Pt.slots] at X' e1 e2 h1 h2 h3 st hcl
    subst h1; subst h2; subst h3
    exact Or.inr ⟨q, (T.setVm vm₁).calling g' mk As.toArray, t, U', L, E, ce, hT, X', hL, e1, e2, hq, hce, hcv, vx_cls hW₁ hcl, st⟩
end
end VXH
theorem vx_ofWH {l : Launch} {y : MethodName} {ws ws' : List Cond} {rm : Room} {Pc : Array Value → State → Prop} {Qc : Array Value → State → Outcome → State → Prop} {XC : String → State → State → Prop} {mc ms : Nat} {free : Addr → Prop} {cc : ByteArray} {maxL : Nat} {ret : Option FieldType} {hh : List (Nat × Nat × Nat × Nat)}
    (hy : plainName y.cls = true) (hw : ws = Cond.codeWith y cc maxL ret hh :: ws')
    (body : ∀ p e s m args below meth c s₁, BodyLoose p l y (headSpec ws rm) cc maxL ret e s m args below meth c s₁ → c.maxLocals = maxL → Pc args s →
      W p l e (headSpec ws rm).room s m args below meth c s.heap [] 0 0 (vx_MQ below Qc XC args s mc ms free) (entryFrame m args maxL)) : vx_Met l y ws rm Pc Qc XC mc ms free := by
  refine MetFree.of_bodyS (code := cc) (maxLocals := maxL) (ret := ret) hy ?_ ?_
  · intro args s m h hn
    obtain ⟨m9, meth, c, hn9, h1, h2, h3, h4, -, h5, h6, -⟩ := Cond.codeWith_spec (atoms_spec (ws := ws) h _ (by rw [hw]; exact List.mem_cons_self))
    cases hn.symm.trans hn9
    exact ⟨meth, c, h1, h2, h3, h4, h5, h6⟩
  · intro p e s m args below meth c s₁ B hml hP _
    have hh0 : s₁.heap = s.heap := by rw [B.state]; rfl
    obtain ⟨t, a1, o, b1, b2, b3⟩ := body p e s m args below meth c s₁ B hml hP s₁ hh0 (Stand.of_body B)
    exact ⟨t, o, a1, b1, b2, b3⟩
/-! ===== END ===== -/
/-! ===== BEGIN what the machine throws by itself, no traces kept ===== -/
section VXM
set_option maxHeartbeats 1000000 in
/-- the machine throws cls with the message text, no traces kept: from its note over the frame g to 'throwing' over the same frame (follows the proofs of Stand.vmThrowsMessage, Shelf/KitTracedVmS.lean, and Stand.throwsMessageColdBareV, StandMessageColdV.lean, without the step out of the frame) -/
theorem vx_vmAt {p : Program} {l : Launch} {e : Env} {R : Room} {s : State} {m₀ : MethodId} {args : Array Value} {below : List Frame} {meth : Method} {c : Code} {W : State} {locs : List Loc} {cells slots : Nat}
    (X : Stand p l e R s m₀ args below meth c W locs cells slots) (hexec : p.tables.exec = Jvm.exec) (htr : e.platform.stackTraces = false) {cls : String} {names : List String} {text : String}
    (hcls : Bundle.fit cls = true) (hnames : ∀ n ∈ names, Bundle.fit n = true) (hsoe : (cls == "java/lang/StackOverflowError") = false) (hoom : (cls == "java/lang/OutOfMemoryError") = false)
    (h : ∀ a ∈ Bundle.messageArmAtoms cls names, a.before args s = true)
    (hlocs : ∀ x ∈ locs, ∀ cell, s.heap[x.base]? = some cell → cell.vm.isStatics = false)
    (htext : (text == notModelled) = false) (hlimit : ¬ (stringBytes (stringToUtf16 text)).size > e.platform.arrayLengthLimit) (hheap : ¬ (stringBytes (stringToUtf16 text)).size * componentBytes .byte > e.platform.maxHeapBytes)
    {g : JFrame} (hg : g.method = m₀) (hsize : g.locals.size = c.maxLocals)
    (hRframes : names.length + 4 < R.frames) (hRlocals : 2 * g.monitorRoom + (g.stack.map fun v => v.category).sum + 10240 ≤ R.locals) (hshort : 13 * names.length + 55 ≤ 10240)
    (hRcells : cells + 3 ≤ R.cells) (hRslots : slots + ((stringBytes (stringToUtf16 text)).size + 4 + 6) ≤ R.slots) (hlocks : meth.locks = false) :
    ∃ (S : State) (q : Addr) (ce : Cell), (∀ target, Steps p.tables e below ((S.setTop g).pushFrame (.throwing q)) target → Steps p.tables e below ((W.setTop g).pushFrame (.throwNew cls (some text) none)) target) ∧
      Stand p l e R s m₀ args below meth c S locs (cells + 3) (slots + ((stringBytes (stringToUtf16 text)).size + 4 + 6)) ∧ S.heap[q]? = some ce ∧ s.vm.findClass cls = some ce.cls ∧ ce.vm = .none := by
  have howns : e.platform.frameOwnsMonitors = true := by rw [X.admits.platform]
  have hfin : e.platform.finalization = false := by rw [X.admits.platform]
  have hpl : e.platform.magicAccessors = ({} : Platform).magicAccessors := by rw [X.admits.platform]
  have a : ∀ x, x ∈ Bundle.messageArmAtoms cls names → x.holds args s none s [] = true := fun x hx => h x hx
  obtain ⟨T, Z0, L, -, Y⟩ := ThrowableC.of_atoms (args := args) howns hfin hpl (fun x hx => h x (by simp [Bundle.messageArmAtoms, hx]))
  obtain ⟨Z, M, LZ, LM, hnZ⟩ := Init0T.ofS_atoms (args := args) hpl L Y (fun x hx => h x (by simp [Bundle.messageArmAtoms, hx]))
  obtain ⟨P1, Ps, hlen, L1, hL, hP1m, hlink1, hlink⟩ := Bundle.chainS (args := args) hpl hnZ names cls hcls hnames (fun x hx => h x (by simp [Bundle.messageArmAtoms, hx]))
  obtain ⟨Zs, LZs, hn4, hfitv, hfitc⟩ := StringT.of_atoms (args := args) (fun x hx => h x (by simp [Bundle.messageArmAtoms, hx]))
  have hfound : s.vm.findClass cls = some P1.m.cls := findClass_of_methodNamed hP1m
  obtain ⟨c1, kX, hc1, hk, hord, -, -, hn6⟩ := Cond.instantiable_spec (a (.instantiable cls 6) (by simp [Bundle.messageArmAtoms]))
  cases Option.some.inj (hc1.symm.trans hfound)
  have hinit := Cond.initialized_spec hfound hk (a (.initialized cls) (by simp [Bundle.messageArmAtoms]))
  have hctor : kX.findMethod "<init>" "(Ljava/lang/String;)V" = some P1.m.idx := findMethod_of_methodNamed hP1m hk
  have hsel0 : selectMethod e.platform s.vm P1.m.cls T.fill0 = .method T.fill0 := by
    obtain ⟨c2, r2, m2, q1, q2, q3, q4, -⟩ := Cond.selects_spec (a (.selects cls Bundle.tFill0 Bundle.tFill0) (by simp [Bundle.messageArmAtoms]))
    cases Option.some.inj (q1.symm.trans hfound)
    cases Option.some.inj (q2.symm.trans (State.methodFound?_of_named Y.fill0 (by decide)))
    cases Option.some.inj (q3.symm.trans Y.fill0)
    rw [Launch.admits_selectMethod X.admits]; exact q4
  have hselF : selectMethod e.platform s.vm P1.m.cls T.fill = .method T.fill := by
    obtain ⟨c2, r2, m2, q1, q2, q3, q4, -⟩ := Cond.selects_spec (a (.selects cls Bundle.tFill Bundle.tFill) (by simp [Bundle.messageArmAtoms]))
    cases Option.some.inj (q1.symm.trans hfound)
    cases Option.some.inj (q2.symm.trans (State.methodFound?_of_named Y.fill (by decide)))
    cases Option.some.inj (q3.symm.trans Y.fill)
    rw [Launch.admits_selectMethod X.admits]; exact q4
  obtain ⟨cellS0, hcS0, hiss⟩ := Y.statics
  obtain ⟨u0, hu0⟩ := Cond.staticRefV Y.unassigned L.unassignedStatic L.statics hcS0 hiss (a (.isRef (.static Bundle.tN "UNASSIGNED_STACK" Bundle.steD)) (by simp [Bundle.messageArmAtoms]))
  obtain ⟨sen, hsen⟩ := Cond.staticRefV Y.sentinel L.sentinelStatic L.statics hcS0 hiss (a (.isRef (.static Bundle.tN "SUPPRESSED_SENTINEL" Bundle.listD)) (by simp [Bundle.messageArmAtoms]))
  obtain ⟨ci198, i198, fB, hk198, hg198, ha198, hsB, -, hnB, htB, hffB⟩ := Cond.ownField (t := .object "java/lang/Object") Y.found L.cls (by decide +kernel) (a (.fieldLink Bundle.tN 198 Bundle.tN "backtrace" "Ljava/lang/Object;") (by simp [Bundle.messageArmAtoms])) (a (.lays Bundle.tN Bundle.tN "backtrace" "Ljava/lang/Object;") (by simp [Bundle.messageArmAtoms])) e.platform hpl
  obtain ⟨cellS, hcS', heS, -, hkeep⟩ := X.same.2.2.2.2.2 T.aS cellS0 hcS0
  have hcellS : W.heap[T.aS]? = some cellS := hcS'
  have hout' : ∀ i, (⟨T.aS, i⟩ : Loc) ∉ locs := fun i hmem => by
    have := hlocs _ hmem cellS0 hcS0
    rw [hiss] at this; cases this
  have hknownS : cellS.vm ≠ .unknown := by
    rw [heS]; intro hu
    rw [show cellS0.vm = .unknown from hu] at hiss
    cases hiss
  have hvU : cellS.slots[T.fUnassigned.slot]? = some u0.v := by rw [hkeep _ (hout' _)]; exact hu0
  have hvSen : cellS.slots[T.fSentinel.slot]? = some sen.v := by rw [hkeep _ (hout' _)]; exact hsen
  obtain ⟨iM, hffM⟩ := Y.msg
  obtain ⟨tyC, dC, hdC, hdnC⟩ := Cond.laysAt hfound hk Y.cause (a (.lays cls Bundle.tN "cause" "Ljava/lang/Throwable;") (by simp [Bundle.messageArmAtoms]))
  obtain ⟨tyS, dS, hdS, hdnS⟩ := Cond.laysAt hfound hk Y.stack (a (.lays cls Bundle.tN "stackTrace" Bundle.steD) (by simp [Bundle.messageArmAtoms]))
  obtain ⟨tyP, dP, hdP, hdnP⟩ := Cond.laysAt hfound hk Y.supp (a (.lays cls Bundle.tN "suppressedExceptions" Bundle.listD) (by simp [Bundle.messageArmAtoms]))
  obtain ⟨tyM, dM, hdM, hdnM⟩ := Cond.laysAt hfound hk hffM (a (.lays cls Bundle.tN "detailMessage" "Ljava/lang/String;") (by simp [Bundle.messageArmAtoms]))
  obtain ⟨tyB, dB, hdB, hdnB⟩ := Cond.laysAt hfound hk hffB (a (.lays cls Bundle.tN "backtrace" "Ljava/lang/Object;") (by simp [Bundle.messageArmAtoms]))
  have bC := Cond.laysApart hdB hdC hdnB hdnC (by rw [hnB, Y.causeName]; decide)
  have bS := Cond.laysApart hdB hdS hdnB hdnS (by rw [hnB, Y.stackName]; decide)
  have bP := Cond.laysApart hdB hdP hdnB hdnP (by rw [hnB, Y.suppName]; decide)
  have hbk : ((preparedCellV T.toThrowableT (freshCell P1.m.cls kX) (W.heap.size + 2) u0 sen).withEntry W.cur).slots[fB.slot]? = some .null := by
    have := fresh_default (c := P1.m.cls) tyB
    rw [htB] at this
    simpa [preparedCellV, Cell.setSlot, Cell.withEntry, Array.getElem?_setIfInBounds, bC, bS, bP, bC.symm, bS.symm, bP.symm, defaultValue] using this
  have tkC := Takes.of_laid (v := .ref (W.heap.size + 2)) hk hord tyC (by rw [Y.causeType]; rfl)
  have tkS := Takes.of_laid (v := u0.v) hk hord tyS (by rw [Y.stackType]; exact fits_refV_array _ u0)
  have tkP := Takes.of_laid (v := sen.v) hk hord tyP (by rw [Y.suppType]; exact fits_refV_object _ sen)
  have tkM := Takes.of_laid (v := .ref (W.heap.size + 1)) hk hord tyM (by rw [Y.msgType]; rfl)
  have hskip : SkipFacts T e.platform s (fun u => u) u0 ((preparedCellV T.toThrowableT (freshCell P1.m.cls kX) (W.heap.size + 2) u0 sen).withEntry W.cur) := ⟨{ ci198 := ci198, i198 := i198, fBack := fB }, ⟨hk198, hg198, ha198, hsB⟩, hbk, fun _ _ => rfl⟩
  have h0 : At W g.method c below := by rw [hg]; exact X.here
  obtain ⟨hbeyond, hfreeW⟩ := X.vmMayThrow hsize (.throwNew cls (some text) none) (fun f hf => by cases hf) rfl hRlocals
  have hfr' : W.frames.length + Ps.length + 4 < (e.platform.stackLimits W.me).1 := by have := X.framesAbove hRframes; omega
  have hwd' : (stackUse (.java g :: W.frames.tail)).2 + 13 * Ps.length + 55 ≤ (e.platform.stackLimits W.me).2 := by have := X.stackAbove hsize (K := 13 * Ps.length + 55) (by omega); omega
  have hslots : W.slotsUsed + (stringBytes (stringToUtf16 text)).size + Zs.kS.instanceTypes.size + kX.instanceTypes.size ≤ e.platform.maxSlots := by
    have := X.slotsAbove hRslots
    rw [hn4, hn6]
    omega
  obtain ⟨vm', hW', st⟩ := Steps.vmThrowsMessageColdByV p (s₀ := s) (S := W) (g := g) h0 hexec T L Z LZ M LM X.warmed (t := W.cur) rfl Zs LZs P1 L1 Ps hL hlink1 hlink hsoe hoom hfound hk hinit hord hctor
    (Launch.admits_hotImplicitExceptions X.admits) hbeyond hfreeW htext hlimit hheap (X.cellsAbove hRcells) hslots (hfitv _) (hfitc _)
    (Nn := fun u => u) heapOnly_id (fun _ _ => rfl) (fun _ => rfl) (fun u x y => setCell_twice _ _ _ _) (fun _ => Nat.le_refl _) (cN := ((preparedCellV T.toThrowableT (freshCell P1.m.cls kX) (W.heap.size + 2) u0 sen).withEntry W.cur))
    hsel0 hcellS hknownS hvU tkS (fun _ hu => hu) (fun _ hu => hu) rfl rfl rfl (by simp [preparedCellV, Cell.setSlot, Cell.withEntry]) hskip (fun _ _ hA hW _ hroom _ hrest => L.nativeOff p htr hA hW hroom hrest) hselF hvSen tkC tkP tkM Y.objLocals rfl hfr' hwd'
  rw [plainBareV_eq T.toThrowableT (W.heap.size + 2) u0 sen (.ref (W.heap.size + 1)) W.cur rfl rfl] at st
  obtain ⟨-, -, w3, w4, -, -, -⟩ := withThrown_facts e.platform W Zs text P1.m.cls kX
  have X3 := ((X.pushed (bytesOf Zs.cB (stringToUtf16 text))).pushed (stringAt Zs.cS Zs.kS Zs.fv Zs.fc (stringToUtf16 text) W.heap.size)).pushed (freshCell P1.m.cls kX)
  rw [← withString_eq] at X3
  have X4 := X3.noted hW'
  have ha : (W.heap.size + 2) < ((withThrown W Zs text P1.m.cls kX).setVm vm').heap.size := by show _ < (withThrown W Zs text P1.m.cls kX).heap.size; rw [w3]; omega
  have hcell : ((withThrown W Zs text P1.m.cls kX).setVm vm').heap[(W.heap.size + 2)]? = some (freshCell P1.m.cls kX) := w4
  have X5 := ((((X4.stored hcell T.fCause.slot (.ref (W.heap.size + 2))).storedAgain ha T.fStack.slot u0.v).storedAgain ha T.fSupp.slot sen.v).storedAgain ha T.fStack.slot u0.v).storedAgain ha T.fMsg.slot (.ref (W.heap.size + 1))
  obtain ⟨g₁, hfrM⟩ := X5.frames_eq
  have hU : ((((withThrown W Zs text P1.m.cls kX).setVm vm').setCell (W.heap.size + 2) (plainBareV T.toThrowableT (freshCell P1.m.cls kX) (W.heap.size + 2) u0 sen (.ref (W.heap.size + 1)))).setTop g).pushFrame (.throwing (W.heap.size + 2)) = (((withThrown W Zs text P1.m.cls kX).setVm vm').setCell (W.heap.size + 2) (plainBareV T.toThrowableT (freshCell P1.m.cls kX) (W.heap.size + 2) u0 sen (.ref (W.heap.size + 1)))).setFrames (.throwing (W.heap.size + 2) :: .java g :: below) := by
    rw [State.pushFrame, State.frames_setTop _ hfrM, State.setTop_of_frames _ hfrM, State.setFrames_setFrames]
  have b1 : (bytesOf Zs.cB (stringToUtf16 text)).slots.size = (stringBytes (stringToUtf16 text)).size := by
    rw [(Cell.writeAll_facts _ _).2.2]; simp [bytes0]
  have b2 : (stringAt Zs.cS Zs.kS Zs.fv Zs.fc (stringToUtf16 text) W.heap.size).slots.size = 4 := by simp [string0, Cell.setSlot, hn4]
  have b3 : (freshCell P1.m.cls kX).slots.size = 6 := by simp [hn6]
  rw [b1, b2, b3] at X5
  have e9 : slots + (stringBytes (stringToUtf16 text)).size + 4 + 6 = slots + ((stringBytes (stringToUtf16 text)).size + 4 + 6) := by omega
  rw [e9] at X5
  simp only [List.append_assoc, List.cons_append, List.nil_append] at X5
  refine ⟨((withThrown W Zs text P1.m.cls kX).setVm vm').setCell (W.heap.size + 2) (plainBareV T.toThrowableT (freshCell P1.m.cls kX) (W.heap.size + 2) u0 sen (.ref (W.heap.size + 1))), W.heap.size + 2, _, fun target ht => st _ (by rw [X.tail, ← hU]; exact ht),
    X5.forget (fun y hy => ?_), heapAt_setCell_self _ ha, hfound, rfl⟩
  simp only [List.mem_cons, List.not_mem_nil, or_false] at hy
  have hge : s.heap.size ≤ W.heap.size := X.same.2.1
  rcases hy with rfl | rfl | rfl | rfl | rfl <;> exact Nat.le_trans hge (Nat.le_add_right _ 2)
set_option maxHeartbeats 1000000 in
/-- the machine throws NullPointerException, no traces kept: from its note over the frame g to 'throwing' over the same frame (follows the proof of Stand.vmThrowsNpe, Shelf42/KT2.lean; throwsNpeColdBareVAt, Shelf42/NT91.lean, called) -/
theorem vx_npeAt {p : Program} {l : Launch} {e : Env} {R : Room} {s : State} {m₀ : MethodId} {args : Array Value} {below : List Frame} {meth : Method} {c : Code} {W : State} {locs : List Loc} {cells slots : Nat}
    (X : Stand p l e R s m₀ args below meth c W locs cells slots) (hexec : p.tables.exec = Jvm.exec) (htr : e.platform.stackTraces = false) {n : Nat}
    (h : ∀ a ∈ Bundle.npeArmAtoms n, a.before args s = true)
    (hlocs : ∀ x ∈ locs, ∀ cell, s.heap[x.base]? = some cell → cell.vm.isStatics = false)
    {g : JFrame} (hg : g.method = m₀) (hsize : g.locals.size = c.maxLocals)
    (hRframes : 7 < R.frames) (hRlocals : 2 * g.monitorRoom + (g.stack.map fun v => v.category).sum + 10240 ≤ R.locals)
    (hRcells : cells + 1 ≤ R.cells) (hRslots : slots + n ≤ R.slots) (hlocks : meth.locks = false) :
    ∃ (S : State) (q : Addr) (ce : Cell), (∀ target, Steps p.tables e below ((S.setTop g).pushFrame (.throwing q)) target → Steps p.tables e below ((W.setTop g).pushFrame (.throwNew "java/lang/NullPointerException" none none)) target) ∧
      Stand p l e R s m₀ args below meth c S locs (cells + 1) (slots + n) ∧ S.heap[q]? = some ce ∧ s.vm.findClass "java/lang/NullPointerException" = some ce.cls ∧ ce.vm = .none := by
  have howns : e.platform.frameOwnsMonitors = true := by rw [X.admits.platform]
  have hfin : e.platform.finalization = false := by rw [X.admits.platform]
  have hpl : e.platform.magicAccessors = ({} : Platform).magicAccessors := by rw [X.admits.platform]
  have hpl2 : e.platform.arrayCloneIsPublic = true := by rw [X.admits.platform]
  have a' : ∀ x, x ∈ Bundle.npeArmAtoms n → x.holds args s none s [] = true := fun x hx => h x hx
  obtain ⟨T, Z, L, LZ, Y⟩ := ThrowableC.of_atoms (args := args) howns hfin hpl (fun x hx => h x (by simp [Bundle.npeArmAtoms, hx]))
  obtain ⟨N, LN, hcN, hnNF, hordN, hffS⟩ := NpeC.of_atoms (args := args) hpl hpl2 L Y (fun x hx => h x (by simp [Bundle.npeArmAtoms, hx]))
  obtain ⟨P1, L1, hP1m, hP1s⟩ := PassC.of_atoms (args := args) (s := s) hpl (X := Bundle.nN) (Y := Bundle.rN) (by decide) (by decide) LibCode.NullPointerException.Init0.at_0 LibCode.NullPointerException.Init0.at_1 LibCode.NullPointerException.Init0.at_4 (fun x hx => h x (by simp [Bundle.npeArmAtoms, hx]))
  obtain ⟨PR, LR, hPRm, hPRs⟩ := PassC.of_atoms (args := args) (s := s) hpl (X := Bundle.rN) (Y := Bundle.eN) (by decide) (by decide) LibCode.RuntimeException.Init0.at_0 LibCode.RuntimeException.Init0.at_1 LibCode.RuntimeException.Init0.at_4 (fun x hx => h x (by simp [Bundle.npeArmAtoms, hx]))
  obtain ⟨PE, LEx, hPEm, hPEs⟩ := PassC.of_atoms (args := args) (s := s) hpl (X := Bundle.eN) (Y := Bundle.tN) (by decide) (by decide) LibCode.Exception.Init0.at_0 LibCode.Exception.Init0.at_1 LibCode.Exception.Init0.at_4 (fun x hx => h x (by simp [Bundle.npeArmAtoms, hx]))
  have hfound : s.vm.findClass Bundle.nN = some P1.m.cls := findClass_of_methodNamed hP1m
  have ecls : N.cN = P1.m.cls := Option.some.inj (hcN.symm.trans hfound)
  have hk : s.vm.classes[P1.m.cls]? = some N.kN := by rw [← ecls]; exact LN.cls
  have hinit := Cond.initialized_spec hfound hk (a' (.initialized Bundle.nN) (by simp [Bundle.npeArmAtoms]))
  have hctor : N.kN.findMethod "<init>" "()V" = some P1.m.idx := findMethod_of_methodNamed hP1m hk
  obtain ⟨c1, k1, hc1, hk1, -, -, -, hn⟩ := Cond.instantiable_spec (a' (.instantiable Bundle.nN n) (by simp [Bundle.npeArmAtoms]))
  cases Option.some.inj (hc1.symm.trans hfound)
  cases Option.some.inj (hk1.symm.trans hk)
  have hfsz : (freshCell P1.m.cls N.kN).slots.size = n := by simp [hn]
  have hlink1 : P1.sup = PR.m := Option.some.inj (hP1s.symm.trans hPRm)
  have hlinkR : PR.sup = PE.m := Option.some.inj (hPRs.symm.trans hPEm)
  have hlinkE : PE.sup = Z.m T.toThrowableT := Option.some.inj (hPEs.symm.trans Y.init0)
  have hLs : ∀ P, P ∈ [PR, PE] → P.Links0 e.platform s := fun P hP => by
    simp only [List.mem_cons, List.not_mem_nil, or_false] at hP
    rcases hP with rfl | rfl
    · exact LR
    · exact LEx
  have hsel0 : selectMethod e.platform s.vm P1.m.cls T.fill0 = .method T.fill0 := by
    obtain ⟨c2, r2, m2, q1, q2, q3, q4, -⟩ := Cond.selects_spec (a' (.selects Bundle.nN Bundle.tFill0 Bundle.tFill0) (by simp [Bundle.npeArmAtoms]))
    cases Option.some.inj (q1.symm.trans hfound)
    cases Option.some.inj (q2.symm.trans (State.methodFound?_of_named Y.fill0 (by decide)))
    cases Option.some.inj (q3.symm.trans Y.fill0)
    rw [Launch.admits_selectMethod X.admits]; exact q4
  have hselF : selectMethod e.platform s.vm P1.m.cls T.fill = .method N.fill := by
    obtain ⟨c2, r2, m2, q1, q2, q3, q4, -⟩ := Cond.selects_spec (a' (.selects Bundle.nN Bundle.tFill Bundle.nFill) (by simp [Bundle.npeArmAtoms]))
    cases Option.some.inj (q1.symm.trans hfound)
    cases Option.some.inj (q2.symm.trans (State.methodFound?_of_named Y.fill (by decide)))
    cases Option.some.inj (q3.symm.trans hnNF)
    rw [Launch.admits_selectMethod X.admits]; exact q4
  obtain ⟨cellS0, hcS0, hiss⟩ := Y.statics
  obtain ⟨u0, hu0⟩ := Cond.staticRefV Y.unassigned L.unassignedStatic L.statics hcS0 hiss (a' (.isRef (.static Bundle.tN "UNASSIGNED_STACK" Bundle.steD)) (by simp [Bundle.npeArmAtoms]))
  obtain ⟨sen, hsen⟩ := Cond.staticRefV Y.sentinel L.sentinelStatic L.statics hcS0 hiss (a' (.isRef (.static Bundle.tN "SUPPRESSED_SENTINEL" Bundle.listD)) (by simp [Bundle.npeArmAtoms]))
  obtain ⟨ci198, i198, fB, hk198, hg198, ha198, hsB, -, hnB, htB, hffB⟩ := Cond.ownField (t := .object "java/lang/Object") Y.found L.cls (by decide +kernel) (a' (.fieldLink Bundle.tN 198 Bundle.tN "backtrace" Bundle.objD) (by simp [Bundle.npeArmAtoms])) (a' (.lays Bundle.tN Bundle.tN "backtrace" Bundle.objD) (by simp [Bundle.npeArmAtoms])) e.platform hpl
  obtain ⟨cellS, hcS', heS, -, hkeep⟩ := X.same.2.2.2.2.2 T.aS cellS0 hcS0
  have hcellS : W.heap[T.aS]? = some cellS := hcS'
  have hout' : ∀ i, (⟨T.aS, i⟩ : Loc) ∉ locs := fun i hmem => by
    have := hlocs _ hmem cellS0 hcS0
    rw [hiss] at this; cases this
  have hknownS : cellS.vm ≠ .unknown := by
    rw [heS]; intro hu
    rw [show cellS0.vm = .unknown from hu] at hiss
    cases hiss
  have hvU : cellS.slots[T.fUnassigned.slot]? = some u0.v := by rw [hkeep _ (hout' _)]; exact hu0
  have hvSen : cellS.slots[T.fSentinel.slot]? = some sen.v := by rw [hkeep _ (hout' _)]; exact hsen
  obtain ⟨tyC, dC, hdC, hdnC⟩ := Cond.laysAt hfound hk Y.cause (a' (.lays Bundle.nN Bundle.tN "cause" "Ljava/lang/Throwable;") (by simp [Bundle.npeArmAtoms]))
  obtain ⟨tyS, dS, hdS, hdnS⟩ := Cond.laysAt hfound hk Y.stack (a' (.lays Bundle.nN Bundle.tN "stackTrace" Bundle.steD) (by simp [Bundle.npeArmAtoms]))
  obtain ⟨tyP, dP, hdP, hdnP⟩ := Cond.laysAt hfound hk Y.supp (a' (.lays Bundle.nN Bundle.tN "suppressedExceptions" Bundle.listD) (by simp [Bundle.npeArmAtoms]))
  obtain ⟨tyX, dX, hdX, hdnX⟩ := Cond.laysAt hfound hk hffS (a' (.lays Bundle.nN Bundle.nN "extendedMessageState" "I") (by simp [Bundle.npeArmAtoms, Bundle.npeAtoms]))
  obtain ⟨hnX, htX⟩ := State.fieldFound?_type hffS (t := .int) (by decide +kernel)
  have xC := Cond.laysApart hdC hdX hdnC hdnX (by rw [hnX, Y.causeName]; decide)
  have xS := Cond.laysApart hdS hdX hdnS hdnX (by rw [hnX, Y.stackName]; decide)
  have xP := Cond.laysApart hdP hdX hdnP hdnX (by rw [hnX, Y.suppName]; decide)
  have hv0 : (freshCell P1.m.cls N.kN).slots[N.fState.slot]? = some (.int 0) := by
    have := fresh_default (c := P1.m.cls) tyX
    rw [htX] at this; exact this
  obtain ⟨tyB, dB, hdB, hdnB⟩ := Cond.laysAt hfound hk hffB (a' (.lays Bundle.nN Bundle.tN "backtrace" Bundle.objD) (by simp [Bundle.npeArmAtoms]))
  have bC := Cond.laysApart hdB hdC hdnB hdnC (by rw [hnB, Y.causeName]; decide)
  have bS := Cond.laysApart hdB hdS hdnB hdnS (by rw [hnB, Y.stackName]; decide)
  have bP := Cond.laysApart hdB hdP hdnB hdnP (by rw [hnB, Y.suppName]; decide)
  have bX := Cond.laysApart hdB hdX hdnB hdnX (by rw [hnB, hnX]; decide)
  have hbk : ((npeCell N.toNpeT (preparedCellV T.toThrowableT (freshCell P1.m.cls N.kN) W.heap.size u0 sen) W.cur).withEntry W.cur).slots[fB.slot]? = some .null := by
    have := fresh_default (c := P1.m.cls) tyB
    rw [htB] at this
    simpa [npeCell, preparedCellV, Cell.setSlot, Cell.withEntry, Array.getElem?_setIfInBounds, bC, bS, bP, bX, bC.symm, bS.symm, bP.symm, bX.symm, defaultValue] using this
  have tkC := Takes.of_laid (v := .ref W.heap.size) hk hordN tyC (by rw [Y.causeType]; rfl)
  have tkS := Takes.of_laid (v := u0.v) hk hordN tyS (by rw [Y.stackType]; exact fits_refV_array _ u0)
  have tkP := Takes.of_laid (v := sen.v) hk hordN tyP (by rw [Y.suppType]; exact fits_refV_object _ sen)
  have tkX := Takes.of_laid (v := .int 1) hk hordN tyX (by rw [htX]; rfl)
  have hskip : SkipFacts T e.platform s (fun u => u) u0 ((npeCell N.toNpeT (preparedCellV T.toThrowableT (freshCell P1.m.cls N.kN) W.heap.size u0 sen) W.cur).withEntry W.cur) := ⟨{ ci198 := ci198, i198 := i198, fBack := fB }, ⟨hk198, hg198, ha198, hsB⟩, hbk, fun _ _ => rfl⟩
  obtain ⟨vm', X3, st, -⟩ := X.throwsNpeColdBareVAt hexec hg hsize T L Z LZ N LN P1 L1 [PR, PE] hLs hlink1 ⟨hlinkR, hlinkE, trivial⟩ hfound hk hinit hordN hctor hsel0 hselF hcellS hknownS hvU hvSen
    hv0 xC xS xP tkC tkS tkP tkX Y.objLocals hskip (fun _ _ hA hW _ hroom _ hrest => L.nativeOff p htr hA hW hroom hrest) (by simpa using hRframes) hRlocals (by simp) hRcells (by rw [hn]; exact hRslots)
  have hlt : W.heap.size < ((W.pushCell (freshCell P1.m.cls N.kN)).setVm vm').heap.size := by
    show W.heap.size < (W.pushCell (freshCell P1.m.cls N.kN)).heap.size
    rw [State.heap_size_pushCell]; omega
  rw [hfsz] at X3
  obtain ⟨g₁, hfrM⟩ := X3.frames_eq
  have hU : ((((W.pushCell (freshCell P1.m.cls N.kN)).setVm vm').setCell W.heap.size (npeBareV T.toThrowableT N.toNpeT (freshCell P1.m.cls N.kN) W.heap.size u0 sen)).setTop g).pushFrame (.throwing W.heap.size) = (((W.pushCell (freshCell P1.m.cls N.kN)).setVm vm').setCell W.heap.size (npeBareV T.toThrowableT N.toNpeT (freshCell P1.m.cls N.kN) W.heap.size u0 sen)).setFrames (.throwing W.heap.size :: .java g :: below) := by
    rw [State.pushFrame, State.frames_setTop _ hfrM, State.setTop_of_frames _ hfrM, State.setFrames_setFrames]
  refine ⟨_, W.heap.size, _, fun target ht => st.trans (by rw [← hU]; exact ht), X3.forget (fun y hy => ?_), heapAt_setCell_self _ hlt, hfound, rfl⟩
  simp only [List.mem_cons, List.not_mem_nil, or_false] at hy
  have hge : s.heap.size ≤ W.heap.size := X.same.2.1
  rcases hy with rfl | rfl | rfl | rfl | rfl <;> exact hge
/-- the words of a machine's NullPointerException, but the four that speak of the heap -/
def vx_atN (n : Nat) : List Cond := (Bundle.npeArmAtoms n).filter vx_no
/-- the words of a machine's throw with a message, but the four that speak of the heap -/
def vx_atM (X : String) (names : List String) : List Cond := (Bundle.messageArmAtoms X names).filter vx_no
section
variable {p : Program} {l : Launch} {e : Env} {R : Room} {s : State} {m : MethodId} {args : Array Value} {below : List Frame} {meth : Method} {c : Code} {H : Heap} {locs : List Loc} {cells slots : Nat}
/-- a frame seen from a rebased start, seen from the first start again -/
theorem vx_back9 {T S : State} {R' : Room} {k n : Nat} (X : Stand p l e R s m args below meth c T locs cells slots) (Y : Stand p l e R' ((T.setVm s.vm).setFrames (.invoking m args :: below)) m args below meth c T [] 0 0) (Z : Stand p l e R' ((T.setVm s.vm).setFrames (.invoking m args :: below)) m args below meth c S [] k n) :
    Stand p l e R s m args below meth c S locs (cells + k) (slots + n) := by
  have hW0 : s.WarmedH ((T.setVm s.vm).setFrames (.invoking m args :: below)).vm := State.WarmedH.refl s
  refine { admits := X.admits, cas := X.cas, clock := X.clock, frames := X.frames, room := X.room, hears := X.hears, method := X.method, code := X.code, here := Z.here, tail := Z.tail, warmed := State.WarmedH.trans hW0 Z.warmed, limits := Z.limits.trans (Y.limits.symm.trans X.limits), bytes := Z.bytes.trans (Y.bytes.symm.trans X.bytes), same := ?_ }
  obtain ⟨e1, e2⟩ := Z.same
  rw [State.setFrames_setFrames] at e1
  have h2 : (T.setVm s.vm).sameButNew (S.setVm s.vm) [] k n := ⟨e1, e2⟩
  have h3 := X.same.trans h2
  rw [List.append_nil] at h3
  exact h3
/-- from the machine's note that E is thrown here with this text -/
def vx_Note (p : Program) (l : Launch) (e : Env) (R : Room) (s : State) (m : MethodId) (args : Array Value) (below : List Frame) (meth : Method) (c : Code) (H : Heap) (locs : List Loc) (cells slots : Nat) (Q : State → Prop) (g : JFrame) (E text : String) : Prop :=
  ∀ T : State, T.heap = H → Stand p l e R s m args below meth c T locs cells slots → ∃ t, Steps p.tables e below ((T.setTop g).pushFrame (.throwNew E (some text) none)) t ∧ Q t
theorem vx_vm {pc : Nat} {ls : Array Slot} {rest : List Value} {Q : State → Prop} (hexec : p.tables.exec = Jvm.exec) (hl : l.stackTraces = false) {cls text : String} {names : List String} {nb : Nat} {A : Nat → Prop}
    (hcls : Bundle.fit cls = true) (hnames : ∀ n ∈ names, Bundle.fit n = true) (hsoe : (cls == "java/lang/StackOverflowError") = false) (hoom : (cls == "java/lang/OutOfMemoryError") = false)
    (hat : ∀ w ∈ vx_atM cls names, w.before args s = true) (hgood : ∀ w ∈ vx_atM cls names, vx_ot w = true)
    (hU : vx_Zq Bundle.tN "UNASSIGNED_STACK" Bundle.steD A s s.heap) (hN : vx_Zq Bundle.tN "SUPPRESSED_SENTINEL" Bundle.listD A s s.heap) (hS : va_S A s.heap H locs) (hsize : ls.size = c.maxLocals)
    (htext : (text == notModelled) = false) (hnb : (stringBytes (stringToUtf16 text)).size ≤ nb) (hnb1 : nb ≤ 1000)
    (hRframes : names.length + 4 < R.frames) (hRlocals : (rest.map fun v => v.category).sum + 10240 ≤ R.locals) (hshort : 13 * names.length + 55 ≤ 10240) (hRcells : cells + 3 ≤ R.cells) (hRslots : slots + (nb + 10) ≤ R.slots) (hlocks : meth.locks = false)
    (k : ∀ (H1 : Heap) (q9 : Addr) (ce : Cell), H.size ≤ H1.size → (∀ q : Nat, q < H.size → H1[q]? = H[q]?) → va_S A s.heap H1 locs → H1[q9]? = some ce → ce.vm = .none → s.vm.findClass cls = some ce.cls → vx_W p l e R s m args below meth c H1 locs (cells + 3) (slots + (nb + 10)) Q (F0 m pc ls rest) q9) :
    vx_Note p l e R s m args below meth c H locs cells slots Q (F0 m pc ls rest) cls text := by
  intro T hT X
  have htr : e.platform.stackTraces = false := (show e.platform.stackTraces = l.stackTraces by rw [X.admits.platform]).trans hl
  have Y := vx_rebase X (R' := { frames := R.frames, locals := R.locals, cells := 3, slots := nb + 10 }) (Nat.le_refl _) (Nat.le_refl _) hRcells hRslots
  have hhp : ((T.setVm s.vm).setFrames (.invoking m args :: below)).heap = H := hT
  have hW0 : s.WarmedH ((T.setVm s.vm).setFrames (.invoking m args :: below)).vm := State.WarmedH.refl s
  have hat' : ∀ w ∈ vx_atM cls names, w.before args ((T.setVm s.vm).setFrames (.invoking m args :: below)) = true := fun w hw => vx_ot_at hW0 rfl (hgood w hw) (hat w hw)
  have hU' : vx_Zq Bundle.tN "UNASSIGNED_STACK" Bundle.steD A ((T.setVm s.vm).setFrames (.invoking m args :: below)) ((T.setVm s.vm).setFrames (.invoking m args :: below)).heap := by rw [hhp]; exact vx_Zq.moved hW0.alike (hU.kept hS.2.1)
  have hN' : vx_Zq Bundle.tN "SUPPRESSED_SENTINEL" Bundle.listD A ((T.setVm s.vm).setFrames (.invoking m args :: below)) ((T.setVm s.vm).setFrames (.invoking m args :: below)).heap := by rw [hhp]; exact vx_Zq.moved hW0.alike (hN.kept hS.2.1)
  obtain ⟨S, q, ce, st, Z, hce, hcl', hv⟩ := vx_vmAt Y hexec htr (cls := cls) (names := names) (text := text) hcls hnames hsoe hoom (vx_own hat' (vx_isRefq hU'.1) (vx_isRefq hN'.1) hU'.2.word hN'.2.word) (fun x hx => nomatch hx) htext
    (by rw [Launch.admits_arrayLengthLimit X.admits]; omega) (by rw [Launch.admits_maxHeapBytes X.admits]; simp only [componentBytes]; omega)
    (g := F0 m pc ls rest) rfl hsize hRframes (by show 2 * 0 + (rest.map fun v => v.category).sum + 10240 ≤ R.locals; omega) hshort (by show 0 + 3 ≤ 3; omega) (by show 0 + (_ + 4 + 6) ≤ nb + 10; omega) hlocks
  obtain ⟨f1, f2⟩ := vx_frame Z.same
  have f1' : H.size ≤ S.heap.size := by rw [← hT]; exact f1
  have f2' : ∀ q : Nat, q < H.size → S.heap[q]? = H[q]? := fun q hq => by
    rw [← hT]
    exact f2 q (by rw [← hT] at hq; exact hq) (fun z hz => nomatch hz)
  have X5 := vx_back9 X Y Z
  have X6 : Stand p l e R s m args below meth c S locs (cells + 3) (slots + (nb + 10)) := { X5 with same := X5.same.mono (by omega) (by omega) }
  obtain ⟨t, a1, b1⟩ := k S.heap q ce f1' f2' ⟨Nat.le_trans hS.1 f1', fun q h1 h2 => (f2' q (Nat.lt_of_lt_of_le h1 hS.1)).trans (hS.2.1 q h1 h2), hS.2.2⟩ hce hv hcl' S rfl X6
  exact ⟨t, st t a1, b1⟩
/-- from the machine's note that NullPointerException is thrown here -/
def vx_NoteN (p : Program) (l : Launch) (e : Env) (R : Room) (s : State) (m : MethodId) (args : Array Value) (below : List Frame) (meth : Method) (c : Code) (H : Heap) (locs : List Loc) (cells slots : Nat) (Q : State → Prop) (g : JFrame) : Prop :=
  ∀ T : State, T.heap = H → Stand p l e R s m args below meth c T locs cells slots → ∃ t, Steps p.tables e below ((T.setTop g).pushFrame (.throwNew "java/lang/NullPointerException" none none)) t ∧ Q t
theorem vx_npe {pc : Nat} {ls : Array Slot} {rest : List Value} {Q : State → Prop} (hexec : p.tables.exec = Jvm.exec) (hl : l.stackTraces = false) {nb : Nat} {A : Nat → Prop}
    (hat : ∀ w ∈ vx_atN nb, w.before args s = true) (hgood : ∀ w ∈ vx_atN nb, vx_ot w = true)
    (hU : vx_Zq Bundle.tN "UNASSIGNED_STACK" Bundle.steD A s s.heap) (hN : vx_Zq Bundle.tN "SUPPRESSED_SENTINEL" Bundle.listD A s s.heap) (hS : va_S A s.heap H locs) (hsize : ls.size = c.maxLocals)
    (hRframes : 7 < R.frames) (hRlocals : (rest.map fun v => v.category).sum + 10240 ≤ R.locals) (hRcells : cells + 1 ≤ R.cells) (hRslots : slots + nb ≤ R.slots) (hlocks : meth.locks = false)
    (k : ∀ (H1 : Heap) (q9 : Addr) (ce : Cell), H.size ≤ H1.size → (∀ q : Nat, q < H.size → H1[q]? = H[q]?) → va_S A s.heap H1 locs → H1[q9]? = some ce → ce.vm = .none → s.vm.findClass "java/lang/NullPointerException" = some ce.cls → vx_W p l e R s m args below meth c H1 locs (cells + 1) (slots + nb) Q (F0 m pc ls rest) q9) :
    vx_NoteN p l e R s m args below meth c H locs cells slots Q (F0 m pc ls rest) := by
  intro T hT X
  have htr : e.platform.stackTraces = false := (show e.platform.stackTraces = l.stackTraces by rw [X.admits.platform]).trans hl
  have Y := vx_rebase X (R' := { frames := R.frames, locals := R.locals, cells := 1, slots := nb }) (Nat.le_refl _) (Nat.le_refl _) hRcells hRslots
  have hhp : ((T.setVm s.vm).setFrames (.invoking m args :: below)).heap = H := hT
  have hW0 : s.WarmedH ((T.setVm s.vm).setFrames (.invoking m args :: below)).vm := State.WarmedH.refl s
  have hat' : ∀ w ∈ vx_atN nb, w.before args ((T.setVm s.vm).setFrames (.invoking m args :: below)) = true := fun w hw => vx_ot_at hW0 rfl (hgood w hw) (hat w hw)
  have hU' : vx_Zq Bundle.tN "UNASSIGNED_STACK" Bundle.steD A ((T.setVm s.vm).setFrames (.invoking m args :: below)) ((T.setVm s.vm).setFrames (.invoking m args :: below)).heap := by rw [hhp]; exact vx_Zq.moved hW0.alike (hU.kept hS.2.1)
  have hN' : vx_Zq Bundle.tN "SUPPRESSED_SENTINEL" Bundle.listD A ((T.setVm s.vm).setFrames (.invoking m args :: below)) ((T.setVm s.vm).setFrames (.invoking m args :: below)).heap := by rw [hhp]; exact vx_Zq.moved hW0.alike (hN.kept hS.2.1)
  obtain ⟨S, q, ce, st, Z, hce, hcl', hv⟩ := vx_npeAt Y hexec htr (n := nb) (vx_own hat' (vx_isRefq hU'.1) (vx_isRefq hN'.1) hU'.2.word hN'.2.word) (fun x hx => nomatch hx)
    (g := F0 m pc ls rest) rfl hsize hRframes (by show 2 * 0 + (rest.map fun v => v.category).sum + 10240 ≤ R.locals; omega) (by show 0 + 1 ≤ 1; omega) (by show 0 + nb ≤ nb; omega) hlocks
  obtain ⟨f1, f2⟩ := vx_frame Z.same
  have f1' : H.size ≤ S.heap.size := by rw [← hT]; exact f1
  have f2' : ∀ q : Nat, q < H.size → S.heap[q]? = H[q]? := fun q hq => by
    rw [← hT]
    exact f2 q (by rw [← hT] at hq; exact hq) (fun z hz => nomatch hz)
  have X5 := vx_back9 X Y Z
  have X6 : Stand p l e R s m args below meth c S locs (cells + 1) (slots + nb) := { X5 with same := X5.same.mono (by omega) (by omega) }
  obtain ⟨t, a1, b1⟩ := k S.heap q ce f1' f2' ⟨Nat.le_trans hS.1 f1', fun q h1 h2 => (f2' q (Nat.lt_of_lt_of_le h1 hS.1)).trans (hS.2.1 q h1 h2), hS.2.2⟩ hce hv hcl' S rfl X6
  exact ⟨t, st t a1, b1⟩
variable {Q : State → Prop} {cc : ByteArray} {pc : Nat} {ls : Array Slot} {rest : List Value}
theorem vx_idivZ (hexec : p.tables.exec = Jvm.exec) (hb : c.code = cc) {a b : Int32} (h0 : b = 0) (d : decode cc pc = .ok (.idiv, 1)) (k : vx_Note p l e R s m args below meth c H locs cells slots Q (F0 m pc ls rest) "java/lang/ArithmeticException" "/ by zero") :
    W p l e R s m args below meth c H locs cells slots Q (F0 m pc ls (.int b :: .int a :: rest)) := by
  intro T hT X
  obtain ⟨t, st, q⟩ := k T hT X
  exact ⟨t, X.idivZero hexec (g := F0 m pc ls (.int b :: .int a :: rest)) rfl (a := a) (rest := rest) (by rw [h0]) (by rw [hb]; exact d) t st, q⟩
theorem vx_iremZ (hexec : p.tables.exec = Jvm.exec) (hb : c.code = cc) {a b : Int32} (h0 : b = 0) (d : decode cc pc = .ok (.irem, 1)) (k : vx_Note p l e R s m args below meth c H locs cells slots Q (F0 m pc ls rest) "java/lang/ArithmeticException" "/ by zero") :
    W p l e R s m args below meth c H locs cells slots Q (F0 m pc ls (.int b :: .int a :: rest)) := by
  intro T hT X
  obtain ⟨t, st, q⟩ := k T hT X
  exact ⟨t, X.iremZero hexec (g := F0 m pc ls (.int b :: .int a :: rest)) rfl (a := a) (rest := rest) (by rw [h0]) (by rw [hb]; exact d) t st, q⟩
theorem vx_ldivZ (hexec : p.tables.exec = Jvm.exec) (hb : c.code = cc) {a b : Int64} (h0 : b = 0) (d : decode cc pc = .ok (.ldiv, 1)) (k : vx_Note p l e R s m args below meth c H locs cells slots Q (F0 m pc ls rest) "java/lang/ArithmeticException" "/ by zero") :
    W p l e R s m args below meth c H locs cells slots Q (F0 m pc ls (.long b :: .long a :: rest)) := by
  intro T hT X
  obtain ⟨t, st, q⟩ := k T hT X
  exact ⟨t, X.ldivZero hexec (g := F0 m pc ls (.long b :: .long a :: rest)) rfl (a := a) (rest := rest) (by rw [h0]) (by rw [hb]; exact d) t st, q⟩
theorem vx_lremZ (hexec : p.tables.exec = Jvm.exec) (hb : c.code = cc) {a b : Int64} (h0 : b = 0) (d : decode cc pc = .ok (.lrem, 1)) (k : vx_Note p l e R s m args below meth c H locs cells slots Q (F0 m pc ls rest) "java/lang/ArithmeticException" "/ by zero") :
    W p l e R s m args below meth c H locs cells slots Q (F0 m pc ls (.long b :: .long a :: rest)) := by
  intro T hT X
  obtain ⟨t, st, q⟩ := k T hT X
  exact ⟨t, X.lremZero hexec (g := F0 m pc ls (.long b :: .long a :: rest)) rfl (a := a) (rest := rest) (by rw [h0]) (by rw [hb]; exact d) t st, q⟩
theorem vx_ialdZ {D : va_G} {cl : List vw_C} {ws : va_W} {tys : List (ClassId × FieldType)} {a : Nat} (hexec : p.tables.exec = Jvm.exec) (hb : c.code = cc) (hK : va_K D cl tys s) (hP : va_P D cl ws H) (q0 t0 : Nat) {cA : ClassId} {n : Nat} {f : Nat → Int32} (ha : ws[q0]? = some (a, .inl (cA, n, .inl f))) (ht : tys[t0]? = some (cA, .int)) {i : Int32} (hout : ¬ vp_in i n) (hdg : decode cc pc = .ok (.iaload, 1))
    (k : ∀ tx : String, tx = (toString "Index " ++ toString i ++ toString " out of bounds for length " ++ toString n : String) → vx_Note p l e R s m args below meth c H locs cells slots Q (F0 m pc ls rest) "java/lang/ArrayIndexOutOfBoundsException" tx) : W p l e R s m args below meth c H locs cells slots Q (F0 m pc ls (.int i :: .ref a :: rest)) := by
  intro T hT X
  obtain ⟨t, st, q⟩ := k _ rfl T hT X
  refine ⟨t, ?_, q⟩
  have h1 := X.ialoadOut hexec (by rw [hT]; exact hP q0 _ ha) ((hK.2 t0 _ ht).1 n (fun j => .int (f j))) (j := i) (by show (i < 0 ∨ (arrV _ _ _).slots.size ≤ _); rw [arrV_size]; exact Classical.byContradiction hout) (g := F0 m pc ls (.int i :: .ref a :: rest)) rfl (rest := rest) rfl (by rw [hb]; exact hdg) t
  simp only [arrV_size] at h1
  exact h1 st
theorem vx_iastZ {D : va_G} {cl : List vw_C} {ws : va_W} {tys : List (ClassId × FieldType)} {a : Nat} (hexec : p.tables.exec = Jvm.exec) (hb : c.code = cc) (hK : va_K D cl tys s) (hP : va_P D cl ws H) (q0 t0 : Nat) {cA : ClassId} {n : Nat} {f : Nat → Int32} (ha : ws[q0]? = some (a, .inl (cA, n, .inl f))) (ht : tys[t0]? = some (cA, .int)) {i : Int32} {x : Int32} (hout : ¬ vp_in i n) (hdg : decode cc pc = .ok (.iastore, 1))
    (k : ∀ tx : String, tx = (toString "Index " ++ toString i ++ toString " out of bounds for length " ++ toString n : String) → vx_Note p l e R s m args below meth c H locs cells slots Q (F0 m pc ls rest) "java/lang/ArrayIndexOutOfBoundsException" tx) : W p l e R s m args below meth c H locs cells slots Q (F0 m pc ls (.int x :: .int i :: .ref a :: rest)) := by
  intro T hT X
  obtain ⟨t, st, q⟩ := k _ rfl T hT X
  refine ⟨t, ?_, q⟩
  have h1 := X.iastoreOut hexec (by rw [hT]; exact hP q0 _ ha) ((hK.2 t0 _ ht).1 n (fun j => .int (f j))) (j := i) (by show (i < 0 ∨ (arrV _ _ _).slots.size ≤ _); rw [arrV_size]; exact Classical.byContradiction hout) (g := F0 m pc ls (.int x :: .int i :: .ref a :: rest)) rfl (rest := rest) rfl (by rw [hb]; exact hdg) t
  simp only [arrV_size] at h1
  exact h1 st
theorem vx_baldZ {D : va_G} {cl : List vw_C} {ws : va_W} {tys : List (ClassId × FieldType)} {a : Nat} (hexec : p.tables.exec = Jvm.exec) (hb : c.code = cc) (hK : va_K D cl tys s) (hP : va_P D cl ws H) (q0 t0 : Nat) {cA : ClassId} {n : Nat} {f : Nat → Int32} (ha : ws[q0]? = some (a, .inl (cA, n, .inl f))) (ht : tys[t0]? = some (cA, .byte)) {i : Int32} (hout : ¬ vp_in i n) (hdg : decode cc pc = .ok (.baload, 1))
    (k : ∀ tx : String, tx = (toString "Index " ++ toString i ++ toString " out of bounds for length " ++ toString n : String) → vx_Note p l e R s m args below meth c H locs cells slots Q (F0 m pc ls rest) "java/lang/ArrayIndexOutOfBoundsException" tx) : W p l e R s m args below meth c H locs cells slots Q (F0 m pc ls (.int i :: .ref a :: rest)) := by
  intro T hT X
  obtain ⟨t, st, q⟩ := k _ rfl T hT X
  refine ⟨t, ?_, q⟩
  have h1 := X.baloadOut hexec (by rw [hT]; exact hP q0 _ ha) ((hK.2 t0 _ ht).1 n (fun j => .int (f j))) (j := i) (by show (i < 0 ∨ (arrV _ _ _).slots.size ≤ _); rw [arrV_size]; exact Classical.byContradiction hout) (g := F0 m pc ls (.int i :: .ref a :: rest)) rfl (rest := rest) rfl (by rw [hb]; exact hdg) t
  simp only [arrV_size] at h1
  exact h1 st
theorem vx_bastZ {D : va_G} {cl : List vw_C} {ws : va_W} {tys : List (ClassId × FieldType)} {a : Nat} (hexec : p.tables.exec = Jvm.exec) (hb : c.code = cc) (hK : va_K D cl tys s) (hP : va_P D cl ws H) (q0 t0 : Nat) {cA : ClassId} {n : Nat} {f : Nat → Int32} (ha : ws[q0]? = some (a, .inl (cA, n, .inl f))) (ht : tys[t0]? = some (cA, .byte)) {i : Int32} {x : Int32} (hout : ¬ vp_in i n) (hdg : decode cc pc = .ok (.bastore, 1))
    (k : ∀ tx : String, tx = (toString "Index " ++ toString i ++ toString " out of bounds for length " ++ toString n : String) → vx_Note p l e R s m args below meth c H locs cells slots Q (F0 m pc ls rest) "java/lang/ArrayIndexOutOfBoundsException" tx) : W p l e R s m args below meth c H locs cells slots Q (F0 m pc ls (.int x :: .int i :: .ref a :: rest)) := by
  intro T hT X
  obtain ⟨t, st, q⟩ := k _ rfl T hT X
  refine ⟨t, ?_, q⟩
  have h1 := X.bastoreOut hexec (by rw [hT]; exact hP q0 _ ha) ((hK.2 t0 _ ht).1 n (fun j => .int (f j))) (j := i) (by show (i < 0 ∨ (arrV _ _ _).slots.size ≤ _); rw [arrV_size]; exact Classical.byContradiction hout) (g := F0 m pc ls (.int x :: .int i :: .ref a :: rest)) rfl (rest := rest) rfl (by rw [hb]; exact hdg) t
  simp only [arrV_size] at h1
  exact h1 st
theorem vx_zaldZ {D : va_G} {cl : List vw_C} {ws : va_W} {tys : List (ClassId × FieldType)} {a : Nat} (hexec : p.tables.exec = Jvm.exec) (hb : c.code = cc) (hK : va_K D cl tys s) (hP : va_P D cl ws H) (q0 t0 : Nat) {cA : ClassId} {n : Nat} {f : Nat → Int32} (ha : ws[q0]? = some (a, .inl (cA, n, .inl f))) (ht : tys[t0]? = some (cA, .boolean)) {i : Int32} (hout : ¬ vp_in i n) (hdg : decode cc pc = .ok (.baload, 1))
    (k : ∀ tx : String, tx = (toString "Index " ++ toString i ++ toString " out of bounds for length " ++ toString n : String) → vx_Note p l e R s m args below meth c H locs cells slots Q (F0 m pc ls rest) "java/lang/ArrayIndexOutOfBoundsException" tx) : W p l e R s m args below meth c H locs cells slots Q (F0 m pc ls (.int i :: .ref a :: rest)) := by
  intro T hT X
  obtain ⟨t, st, q⟩ := k _ rfl T hT X
  refine ⟨t, ?_, q⟩
  have h1 := X.baloadOut hexec (by rw [hT]; exact hP q0 _ ha) ((hK.2 t0 _ ht).1 n (fun j => .int (f j))) (j := i) (by show (i < 0 ∨ (arrV _ _ _).slots.size ≤ _); rw [arrV_size]; exact Classical.byContradiction hout) (g := F0 m pc ls (.int i :: .ref a :: rest)) rfl (rest := rest) rfl (by rw [hb]; exact hdg) t
  simp only [arrV_size] at h1
  exact h1 st
theorem vx_zastZ {D : va_G} {cl : List vw_C} {ws : va_W} {tys : List (ClassId × FieldType)} {a : Nat} (hexec : p.tables.exec = Jvm.exec) (hb : c.code = cc) (hK : va_K D cl tys s) (hP : va_P D cl ws H) (q0 t0 : Nat) {cA : ClassId} {n : Nat} {f : Nat → Int32} (ha : ws[q0]? = some (a, .inl (cA, n, .inl f))) (ht : tys[t0]? = some (cA, .boolean)) {i : Int32} {x : Int32} (hout : ¬ vp_in i n) (hdg : decode cc pc = .ok (.bastore, 1))
    (k : ∀ tx : String, tx = (toString "Index " ++ toString i ++ toString " out of bounds for length " ++ toString n : String) → vx_Note p l e R s m args below meth c H locs cells slots Q (F0 m pc ls rest) "java/lang/ArrayIndexOutOfBoundsException" tx) : W p l e R s m args below meth c H locs cells slots Q (F0 m pc ls (.int x :: .int i :: .ref a :: rest)) := by
  intro T hT X
  obtain ⟨t, st, q⟩ := k _ rfl T hT X
  refine ⟨t, ?_, q⟩
  have h1 := X.bastoreOut hexec (by rw [hT]; exact hP q0 _ ha) ((hK.2 t0 _ ht).1 n (fun j => .int (f j))) (j := i) (by show (i < 0 ∨ (arrV _ _ _).slots.size ≤ _); rw [arrV_size]; exact Classical.byContradiction hout) (g := F0 m pc ls (.int x :: .int i :: .ref a :: rest)) rfl (rest := rest) rfl (by rw [hb]; exact hdg) t
  simp only [arrV_size] at h1
  exact h1 st
theorem vx_caldZ {D : va_G} {cl : List vw_C} {ws : va_W} {tys : List (ClassId × FieldType)} {a : Nat} (hexec : p.tables.exec = Jvm.exec) (hb : c.code = cc) (hK : va_K D cl tys s) (hP : va_P D cl ws H) (q0 t0 : Nat) {cA : ClassId} {n : Nat} {f : Nat → Int32} (ha : ws[q0]? = some (a, .inl (cA, n, .inl f))) (ht : tys[t0]? = some (cA, .char)) {i : Int32} (hout : ¬ vp_in i n) (hdg : decode cc pc = .ok (.caload, 1))
    (k : ∀ tx : String, tx = (toString "Index " ++ toString i ++ toString " out of bounds for length " ++ toString n : String) → vx_Note p l e R s m args below meth c H locs cells slots Q (F0 m pc ls rest) "java/lang/ArrayIndexOutOfBoundsException" tx) : W p l e R s m args below meth c H locs cells slots Q (F0 m pc ls (.int i :: .ref a :: rest)) := by
  intro T hT X
  obtain ⟨t, st, q⟩ := k _ rfl T hT X
  refine ⟨t, ?_, q⟩
  have h1 := X.caloadOut hexec (by rw [hT]; exact hP q0 _ ha) ((hK.2 t0 _ ht).1 n (fun j => .int (f j))) (j := i) (by show (i < 0 ∨ (arrV _ _ _).slots.size ≤ _); rw [arrV_size]; exact Classical.byContradiction hout) (g := F0 m pc ls (.int i :: .ref a :: rest)) rfl (rest := rest) rfl (by rw [hb]; exact hdg) t
  simp only [arrV_size] at h1
  exact h1 st
theorem vx_castZ {D : va_G} {cl : List vw_C} {ws : va_W} {tys : List (ClassId × FieldType)} {a : Nat} (hexec : p.tables.exec = Jvm.exec) (hb : c.code = cc) (hK : va_K D cl tys s) (hP : va_P D cl ws H) (q0 t0 : Nat) {cA : ClassId} {n : Nat} {f : Nat → Int32} (ha : ws[q0]? = some (a, .inl (cA, n, .inl f))) (ht : tys[t0]? = some (cA, .char)) {i : Int32} {x : Int32} (hout : ¬ vp_in i n) (hdg : decode cc pc = .ok (.castore, 1))
    (k : ∀ tx : String, tx = (toString "Index " ++ toString i ++ toString " out of bounds for length " ++ toString n : String) → vx_Note p l e R s m args below meth c H locs cells slots Q (F0 m pc ls rest) "java/lang/ArrayIndexOutOfBoundsException" tx) : W p l e R s m args below meth c H locs cells slots Q (F0 m pc ls (.int x :: .int i :: .ref a :: rest)) := by
  intro T hT X
  obtain ⟨t, st, q⟩ := k _ rfl T hT X
  refine ⟨t, ?_, q⟩
  have h1 := X.castoreOut hexec (by rw [hT]; exact hP q0 _ ha) ((hK.2 t0 _ ht).1 n (fun j => .int (f j))) (j := i) (by show (i < 0 ∨ (arrV _ _ _).slots.size ≤ _); rw [arrV_size]; exact Classical.byContradiction hout) (g := F0 m pc ls (.int x :: .int i :: .ref a :: rest)) rfl (rest := rest) rfl (by rw [hb]; exact hdg) t
  simp only [arrV_size] at h1
  exact h1 st
theorem vx_saldZ {D : va_G} {cl : List vw_C} {ws : va_W} {tys : List (ClassId × FieldType)} {a : Nat} (hexec : p.tables.exec = Jvm.exec) (hb : c.code = cc) (hK : va_K D cl tys s) (hP : va_P D cl ws H) (q0 t0 : Nat) {cA : ClassId} {n : Nat} {f : Nat → Int32} (ha : ws[q0]? = some (a, .inl (cA, n, .inl f))) (ht : tys[t0]? = some (cA, .short)) {i : Int32} (hout : ¬ vp_in i n) (hdg : decode cc pc = .ok (.saload, 1))
    (k : ∀ tx : String, tx = (toString "Index " ++ toString i ++ toString " out of bounds for length " ++ toString n : String) → vx_Note p l e R s m args below meth c H locs cells slots Q (F0 m pc ls rest) "java/lang/ArrayIndexOutOfBoundsException" tx) : W p l e R s m args below meth c H locs cells slots Q (F0 m pc ls (.int i :: .ref a :: rest)) := by
  intro T hT X
  obtain ⟨t, st, q⟩ := k _ rfl T hT X
  refine ⟨t, ?_, q⟩
  have h1 := X.saloadOut hexec (by rw [hT]; exact hP q0 _ ha) ((hK.2 t0 _ ht).1 n (fun j => .int (f j))) (j := i) (by show (i < 0 ∨ (arrV _ _ _).slots.size ≤ _); rw [arrV_size]; exact Classical.byContradiction hout) (g := F0 m pc ls (.int i :: .ref a :: rest)) rfl (rest := rest) rfl (by rw [hb]; exact hdg) t
  simp only [arrV_size] at h1
  exact h1 st
theorem vx_sastZ {D : va_G} {cl : List vw_C} {ws : va_W} {tys : List (ClassId × FieldType)} {a : Nat} (hexec : p.tables.exec = Jvm.exec) (hb : c.code = cc) (hK : va_K D cl tys s) (hP : va_P D cl ws H) (q0 t0 : Nat) {cA : ClassId} {n : Nat} {f : Nat → Int32} (ha : ws[q0]? = some (a, .inl (cA, n, .inl f))) (ht : tys[t0]? = some (cA, .short)) {i : Int32} {x : Int32} (hout : ¬ vp_in i n) (hdg : decode cc pc = .ok (.sastore, 1))
    (k : ∀ tx : String, tx = (toString "Index " ++ toString i ++ toString " out of bounds for length " ++ toString n : String) → vx_Note p l e R s m args below meth c H locs cells slots Q (F0 m pc ls rest) "java/lang/ArrayIndexOutOfBoundsException" tx) : W p l e R s m args below meth c H locs cells slots Q (F0 m pc ls (.int x :: .int i :: .ref a :: rest)) := by
  intro T hT X
  obtain ⟨t, st, q⟩ := k _ rfl T hT X
  refine ⟨t, ?_, q⟩
  have h1 := X.sastoreOut hexec (by rw [hT]; exact hP q0 _ ha) ((hK.2 t0 _ ht).1 n (fun j => .int (f j))) (j := i) (by show (i < 0 ∨ (arrV _ _ _).slots.size ≤ _); rw [arrV_size]; exact Classical.byContradiction hout) (g := F0 m pc ls (.int x :: .int i :: .ref a :: rest)) rfl (rest := rest) rfl (by rw [hb]; exact hdg) t
  simp only [arrV_size] at h1
  exact h1 st
theorem vx_laldZ {D : va_G} {cl : List vw_C} {ws : va_W} {tys : List (ClassId × FieldType)} {a : Nat} (hexec : p.tables.exec = Jvm.exec) (hb : c.code = cc) (hK : va_K D cl tys s) (hP : va_P D cl ws H) (q0 t0 : Nat) {cA : ClassId} {n : Nat} {f : Nat → Int64} (ha : ws[q0]? = some (a, .inl (cA, n, .inr (.inl f)))) (ht : tys[t0]? = some (cA, .long)) {i : Int32} (hout : ¬ vp_in i n) (hdg : decode cc pc = .ok (.laload, 1))
    (k : ∀ tx : String, tx = (toString "Index " ++ toString i ++ toString " out of bounds for length " ++ toString n : String) → vx_Note p l e R s m args below meth c H locs cells slots Q (F0 m pc ls rest) "java/lang/ArrayIndexOutOfBoundsException" tx) : W p l e R s m args below meth c H locs cells slots Q (F0 m pc ls (.int i :: .ref a :: rest)) := by
  intro T hT X
  obtain ⟨t, st, q⟩ := k _ rfl T hT X
  refine ⟨t, ?_, q⟩
  have h1 := X.laloadOut hexec (by rw [hT]; exact hP q0 _ ha) ((hK.2 t0 _ ht).1 n (fun j => .long (f j))) (j := i) (by show (i < 0 ∨ (arrV _ _ _).slots.size ≤ _); rw [arrV_size]; exact Classical.byContradiction hout) (g := F0 m pc ls (.int i :: .ref a :: rest)) rfl (rest := rest) rfl (by rw [hb]; exact hdg) t
  simp only [arrV_size] at h1
  exact h1 st
theorem vx_lastZ {D : va_G} {cl : List vw_C} {ws : va_W} {tys : List (ClassId × FieldType)} {a : Nat} (hexec : p.tables.exec = Jvm.exec) (hb : c.code = cc) (hK : va_K D cl tys s) (hP : va_P D cl ws H) (q0 t0 : Nat) {cA : ClassId} {n : Nat} {f : Nat → Int64} (ha : ws[q0]? = some (a, .inl (cA, n, .inr (.inl f)))) (ht : tys[t0]? = some (cA, .long)) {i : Int32} {x : Int64} (hout : ¬ vp_in i n) (hdg : decode cc pc = .ok (.lastore, 1))
    (k : ∀ tx : String, tx = (toString "Index " ++ toString i ++ toString " out of bounds for length " ++ toString n : String) → vx_Note p l e R s m args below meth c H locs cells slots Q (F0 m pc ls rest) "java/lang/ArrayIndexOutOfBoundsException" tx) : W p l e R s m args below meth c H locs cells slots Q (F0 m pc ls (.long x :: .int i :: .ref a :: rest)) := by
  intro T hT X
  obtain ⟨t, st, q⟩ := k _ rfl T hT X
  refine ⟨t, ?_, q⟩
  have h1 := X.lastoreOut hexec (by rw [hT]; exact hP q0 _ ha) ((hK.2 t0 _ ht).1 n (fun j => .long (f j))) (j := i) (by show (i < 0 ∨ (arrV _ _ _).slots.size ≤ _); rw [arrV_size]; exact Classical.byContradiction hout) (g := F0 m pc ls (.long x :: .int i :: .ref a :: rest)) rfl (rest := rest) rfl (by rw [hb]; exact hdg) t
  simp only [arrV_size] at h1
  exact h1 st
theorem vx_faldZ {D : va_G} {cl : List vw_C} {ws : va_W} {tys : List (ClassId × FieldType)} {a : Nat} (hexec : p.tables.exec = Jvm.exec) (hb : c.code = cc) (hK : va_K D cl tys s) (hP : va_P D cl ws H) (q0 t0 : Nat) {cA : ClassId} {n : Nat} {f : Nat → UInt32} (ha : ws[q0]? = some (a, .inl (cA, n, .inr (.inr (.inl f))))) (ht : tys[t0]? = some (cA, .float)) {i : Int32} (hout : ¬ vp_in i n) (hdg : decode cc pc = .ok (.faload, 1))
    (k : ∀ tx : String, tx = (toString "Index " ++ toString i ++ toString " out of bounds for length " ++ toString n : String) → vx_Note p l e R s m args below meth c H locs cells slots Q (F0 m pc ls rest) "java/lang/ArrayIndexOutOfBoundsException" tx) : W p l e R s m args below meth c H locs cells slots Q (F0 m pc ls (.int i :: .ref a :: rest)) := by
  intro T hT X
  obtain ⟨t, st, q⟩ := k _ rfl T hT X
  refine ⟨t, ?_, q⟩
  have h1 := X.faloadOut hexec (by rw [hT]; exact hP q0 _ ha) ((hK.2 t0 _ ht).1 n (fun j => .float (f j))) (j := i) (by show (i < 0 ∨ (arrV _ _ _).slots.size ≤ _); rw [arrV_size]; exact Classical.byContradiction hout) (g := F0 m pc ls (.int i :: .ref a :: rest)) rfl (rest := rest) rfl (by rw [hb]; exact hdg) t
  simp only [arrV_size] at h1
  exact h1 st
theorem vx_fastZ {D : va_G} {cl : List vw_C} {ws : va_W} {tys : List (ClassId × FieldType)} {a : Nat} (hexec : p.tables.exec = Jvm.exec) (hb : c.code = cc) (hK : va_K D cl tys s) (hP : va_P D cl ws H) (q0 t0 : Nat) {cA : ClassId} {n : Nat} {f : Nat → UInt32} (ha : ws[q0]? = some (a, .inl (cA, n, .inr (.inr (.inl f))))) (ht : tys[t0]? = some (cA, .float)) {i : Int32} {x : UInt32} (hout : ¬ vp_in i n) (hdg : decode cc pc = .ok (.fastore, 1))
    (k : ∀ tx : String, tx = (toString "Index " ++ toString i ++ toString " out of bounds for length " ++ toString n : String) → vx_Note p l e R s m args below meth c H locs cells slots Q (F0 m pc ls rest) "java/lang/ArrayIndexOutOfBoundsException" tx) : W p l e R s m args below meth c H locs cells slots Q (F0 m pc ls (.float x :: .int i :: .ref a :: rest)) := by
  intro T hT X
  obtain ⟨t, st, q⟩ := k _ rfl T hT X
  refine ⟨t, ?_, q⟩
  have h1 := X.fastoreOut hexec (by rw [hT]; exact hP q0 _ ha) ((hK.2 t0 _ ht).1 n (fun j => .float (f j))) (j := i) (by show (i < 0 ∨ (arrV _ _ _).slots.size ≤ _); rw [arrV_size]; exact Classical.byContradiction hout) (g := F0 m pc ls (.float x :: .int i :: .ref a :: rest)) rfl (rest := rest) rfl (by rw [hb]; exact hdg) t
  simp only [arrV_size] at h1
  exact h1 st
theorem vx_daldZ {D : va_G} {cl : List vw_C} {ws : va_W} {tys : List (ClassId × FieldType)} {a : Nat} (hexec : p.tables.exec = Jvm.exec) (hb : c.code = cc) (hK : va_K D cl tys s) (hP : va_P D cl ws H) (q0 t0 : Nat) {cA : ClassId} {n : Nat} {f : Nat → UInt64} (ha : ws[q0]? = some (a, .inl (cA, n, .inr (.inr (.inr (.inl f)))))) (ht : tys[t0]? = some (cA, .double)) {i : Int32} (hout : ¬ vp_in i n) (hdg : decode cc pc = .ok (.daload, 1))
    (k : ∀ tx : String, tx = (toString "Index " ++ toString i ++ toString " out of bounds for length " ++ toString n : String) → vx_Note p l e R s m args below meth c H locs cells slots Q (F0 m pc ls rest) "java/lang/ArrayIndexOutOfBoundsException" tx) : W p l e R s m args below meth c H locs cells slots Q (F0 m pc ls (.int i :: .ref a :: rest)) := by
  intro T hT X
  obtain ⟨t, st, q⟩ := k _ rfl T hT X
  refine ⟨t, ?_, q⟩
  have h1 := X.daloadOut hexec (by rw [hT]; exact hP q0 _ ha) ((hK.2 t0 _ ht).1 n (fun j => .double (f j))) (j := i) (by show (i < 0 ∨ (arrV _ _ _).slots.size ≤ _); rw [arrV_size]; exact Classical.byContradiction hout) (g := F0 m pc ls (.int i :: .ref a :: rest)) rfl (rest := rest) rfl (by rw [hb]; exact hdg) t
  simp only [arrV_size] at h1
  exact h1 st
theorem vx_dastZ {D : va_G} {cl : List vw_C} {ws : va_W} {tys : List (ClassId × FieldType)} {a : Nat} (hexec : p.tables.exec = Jvm.exec) (hb : c.code = cc) (hK : va_K D cl tys s) (hP : va_P D cl ws H) (q0 t0 : Nat) {cA : ClassId} {n : Nat} {f : Nat → UInt64} (ha : ws[q0]? = some (a, .inl (cA, n, .inr (.inr (.inr (.inl f)))))) (ht : tys[t0]? = some (cA, .double)) {i : Int32} {x : UInt64} (hout : ¬ vp_in i n) (hdg : decode cc pc = .ok (.dastore, 1))
    (k : ∀ tx : String, tx = (toString "Index " ++ toString i ++ toString " out of bounds for length " ++ toString n : String) → vx_Note p l e R s m args below meth c H locs cells slots Q (F0 m pc ls rest) "java/lang/ArrayIndexOutOfBoundsException" tx) : W p l e R s m args below meth c H locs cells slots Q (F0 m pc ls (.double x :: .int i :: .ref a :: rest)) := by
  intro T hT X
  obtain ⟨t, st, q⟩ := k _ rfl T hT X
  refine ⟨t, ?_, q⟩
  have h1 := X.dastoreOut hexec (by rw [hT]; exact hP q0 _ ha) ((hK.2 t0 _ ht).1 n (fun j => .double (f j))) (j := i) (by show (i < 0 ∨ (arrV _ _ _).slots.size ≤ _); rw [arrV_size]; exact Classical.byContradiction hout) (g := F0 m pc ls (.double x :: .int i :: .ref a :: rest)) rfl (rest := rest) rfl (by rw [hb]; exact hdg) t
  simp only [arrV_size] at h1
  exact h1 st
theorem vx_arraylengthN (hexec : p.tables.exec = Jvm.exec) (hb : c.code = cc) (hdg : decode cc pc = .ok (.arraylength, 1)) (k : vx_NoteN p l e R s m args below meth c H locs cells slots Q (F0 m pc ls rest)) : W p l e R s m args below meth c H locs cells slots Q (F0 m pc ls (.null :: rest)) := by
  intro T hT X
  obtain ⟨t, st, q⟩ := k T hT X
  exact ⟨t, X.arraylengthNull hexec (g := F0 m pc ls (.null :: rest)) rfl (rest := rest) rfl (by rw [hb]; exact hdg) t st, q⟩
theorem vx_ialoadN (hexec : p.tables.exec = Jvm.exec) (hb : c.code = cc) {i : Int32} (hdg : decode cc pc = .ok (.iaload, 1)) (k : vx_NoteN p l e R s m args below meth c H locs cells slots Q (F0 m pc ls rest)) : W p l e R s m args below meth c H locs cells slots Q (F0 m pc ls (.int i :: .null :: rest)) := by
  intro T hT X
  obtain ⟨t, st, q⟩ := k T hT X
  exact ⟨t, X.ialoadNull hexec (g := F0 m pc ls (.int i :: .null :: rest)) rfl (rest := rest) rfl (by rw [hb]; exact hdg) t st, q⟩
theorem vx_laloadN (hexec : p.tables.exec = Jvm.exec) (hb : c.code = cc) {i : Int32} (hdg : decode cc pc = .ok (.laload, 1)) (k : vx_NoteN p l e R s m args below meth c H locs cells slots Q (F0 m pc ls rest)) : W p l e R s m args below meth c H locs cells slots Q (F0 m pc ls (.int i :: .null :: rest)) := by
  intro T hT X
  obtain ⟨t, st, q⟩ := k T hT X
  exact ⟨t, X.laloadNull hexec (g := F0 m pc ls (.int i :: .null :: rest)) rfl (rest := rest) rfl (by rw [hb]; exact hdg) t st, q⟩
theorem vx_faloadN (hexec : p.tables.exec = Jvm.exec) (hb : c.code = cc) {i : Int32} (hdg : decode cc pc = .ok (.faload, 1)) (k : vx_NoteN p l e R s m args below meth c H locs cells slots Q (F0 m pc ls rest)) : W p l e R s m args below meth c H locs cells slots Q (F0 m pc ls (.int i :: .null :: rest)) := by
  intro T hT X
  obtain ⟨t, st, q⟩ := k T hT X
  exact ⟨t, X.faloadNull hexec (g := F0 m pc ls (.int i :: .null :: rest)) rfl (rest := rest) rfl (by rw [hb]; exact hdg) t st, q⟩
theorem vx_daloadN (hexec : p.tables.exec = Jvm.exec) (hb : c.code = cc) {i : Int32} (hdg : decode cc pc = .ok (.daload, 1)) (k : vx_NoteN p l e R s m args below meth c H locs cells slots Q (F0 m pc ls rest)) : W p l e R s m args below meth c H locs cells slots Q (F0 m pc ls (.int i :: .null :: rest)) := by
  intro T hT X
  obtain ⟨t, st, q⟩ := k T hT X
  exact ⟨t, X.daloadNull hexec (g := F0 m pc ls (.int i :: .null :: rest)) rfl (rest := rest) rfl (by rw [hb]; exact hdg) t st, q⟩
theorem vx_aaloadN (hexec : p.tables.exec = Jvm.exec) (hb : c.code = cc) {i : Int32} (hdg : decode cc pc = .ok (.aaload, 1)) (k : vx_NoteN p l e R s m args below meth c H locs cells slots Q (F0 m pc ls rest)) : W p l e R s m args below meth c H locs cells slots Q (F0 m pc ls (.int i :: .null :: rest)) := by
  intro T hT X
  obtain ⟨t, st, q⟩ := k T hT X
  exact ⟨t, X.aaloadNull hexec (g := F0 m pc ls (.int i :: .null :: rest)) rfl (rest := rest) rfl (by rw [hb]; exact hdg) t st, q⟩
theorem vx_baloadN (hexec : p.tables.exec = Jvm.exec) (hb : c.code = cc) {i : Int32} (hdg : decode cc pc = .ok (.baload, 1)) (k : vx_NoteN p l e R s m args below meth c H locs cells slots Q (F0 m pc ls rest)) : W p l e R s m args below meth c H locs cells slots Q (F0 m pc ls (.int i :: .null :: rest)) := by
  intro T hT X
  obtain ⟨t, st, q⟩ := k T hT X
  exact ⟨t, X.baloadNull hexec (g := F0 m pc ls (.int i :: .null :: rest)) rfl (rest := rest) rfl (by rw [hb]; exact hdg) t st, q⟩
theorem vx_caloadN (hexec : p.tables.exec = Jvm.exec) (hb : c.code = cc) {i : Int32} (hdg : decode cc pc = .ok (.caload, 1)) (k : vx_NoteN p l e R s m args below meth c H locs cells slots Q (F0 m pc ls rest)) : W p l e R s m args below meth c H locs cells slots Q (F0 m pc ls (.int i :: .null :: rest)) := by
  intro T hT X
  obtain ⟨t, st, q⟩ := k T hT X
  exact ⟨t, X.caloadNull hexec (g := F0 m pc ls (.int i :: .null :: rest)) rfl (rest := rest) rfl (by rw [hb]; exact hdg) t st, q⟩
theorem vx_saloadN (hexec : p.tables.exec = Jvm.exec) (hb : c.code = cc) {i : Int32} (hdg : decode cc pc = .ok (.saload, 1)) (k : vx_NoteN p l e R s m args below meth c H locs cells slots Q (F0 m pc ls rest)) : W p l e R s m args below meth c H locs cells slots Q (F0 m pc ls (.int i :: .null :: rest)) := by
  intro T hT X
  obtain ⟨t, st, q⟩ := k T hT X
  exact ⟨t, X.saloadNull hexec (g := F0 m pc ls (.int i :: .null :: rest)) rfl (rest := rest) rfl (by rw [hb]; exact hdg) t st, q⟩
theorem vx_iastoreN (hexec : p.tables.exec = Jvm.exec) (hb : c.code = cc) {x : Int32} {i : Int32} (hdg : decode cc pc = .ok (.iastore, 1)) (k : vx_NoteN p l e R s m args below meth c H locs cells slots Q (F0 m pc ls rest)) : W p l e R s m args below meth c H locs cells slots Q (F0 m pc ls (.int x :: .int i :: .null :: rest)) := by
  intro T hT X
  obtain ⟨t, st, q⟩ := k T hT X
  exact ⟨t, X.iastoreNull hexec (g := F0 m pc ls (.int x :: .int i :: .null :: rest)) rfl (rest := rest) rfl (by rw [hb]; exact hdg) t st, q⟩
theorem vx_lastoreN (hexec : p.tables.exec = Jvm.exec) (hb : c.code = cc) {x : Int64} {i : Int32} (hdg : decode cc pc = .ok (.lastore, 1)) (k : vx_NoteN p l e R s m args below meth c H locs cells slots Q (F0 m pc ls rest)) : W p l e R s m args below meth c H locs cells slots Q (F0 m pc ls (.long x :: .int i :: .null :: rest)) := by
  intro T hT X
  obtain ⟨t, st, q⟩ := k T hT X
  exact ⟨t, X.lastoreNull hexec (g := F0 m pc ls (.long x :: .int i :: .null :: rest)) rfl (rest := rest) rfl (by rw [hb]; exact hdg) t st, q⟩
theorem vx_fastoreN (hexec : p.tables.exec = Jvm.exec) (hb : c.code = cc) {x : UInt32} {i : Int32} (hdg : decode cc pc = .ok (.fastore, 1)) (k : vx_NoteN p l e R s m args below meth c H locs cells slots Q (F0 m pc ls rest)) : W p l e R s m args below meth c H locs cells slots Q (F0 m pc ls (.float x :: .int i :: .null :: rest)) := by
  intro T hT X
  obtain ⟨t, st, q⟩ := k T hT X
  exact ⟨t, X.fastoreNull hexec (g := F0 m pc ls (.float x :: .int i :: .null :: rest)) rfl (rest := rest) rfl (by rw [hb]; exact hdg) t st, q⟩
theorem vx_dastoreN (hexec : p.tables.exec = Jvm.exec) (hb : c.code = cc) {x : UInt64} {i : Int32} (hdg : decode cc pc = .ok (.dastore, 1)) (k : vx_NoteN p l e R s m args below meth c H locs cells slots Q (F0 m pc ls rest)) : W p l e R s m args below meth c H locs cells slots Q (F0 m pc ls (.double x :: .int i :: .null :: rest)) := by
  intro T hT X
  obtain ⟨t, st, q⟩ := k T hT X
  exact ⟨t, X.dastoreNull hexec (g := F0 m pc ls (.double x :: .int i :: .null :: rest)) rfl (rest := rest) rfl (by rw [hb]; exact hdg) t st, q⟩
theorem vx_bastoreN (hexec : p.tables.exec = Jvm.exec) (hb : c.code = cc) {x : Int32} {i : Int32} (hdg : decode cc pc = .ok (.bastore, 1)) (k : vx_NoteN p l e R s m args below meth c H locs cells slots Q (F0 m pc ls rest)) : W p l e R s m args below meth c H locs cells slots Q (F0 m pc ls (.int x :: .int i :: .null :: rest)) := by
  intro T hT X
  obtain ⟨t, st, q⟩ := k T hT X
  exact ⟨t, X.bastoreNull hexec (g := F0 m pc ls (.int x :: .int i :: .null :: rest)) rfl (rest := rest) rfl (by rw [hb]; exact hdg) t st, q⟩
theorem vx_castoreN (hexec : p.tables.exec = Jvm.exec) (hb : c.code = cc) {x : Int32} {i : Int32} (hdg : decode cc pc = .ok (.castore, 1)) (k : vx_NoteN p l e R s m args below meth c H locs cells slots Q (F0 m pc ls rest)) : W p l e R s m args below meth c H locs cells slots Q (F0 m pc ls (.int x :: .int i :: .null :: rest)) := by
  intro T hT X
  obtain ⟨t, st, q⟩ := k T hT X
  exact ⟨t, X.castoreNull hexec (g := F0 m pc ls (.int x :: .int i :: .null :: rest)) rfl (rest := rest) rfl (by rw [hb]; exact hdg) t st, q⟩
theorem vx_sastoreN (hexec : p.tables.exec = Jvm.exec) (hb : c.code = cc) {x : Int32} {i : Int32} (hdg : decode cc pc = .ok (.sastore, 1)) (k : vx_NoteN p l e R s m args below meth c H locs cells slots Q (F0 m pc ls rest)) : W p l e R s m args below meth c H locs cells slots Q (F0 m pc ls (.int x :: .int i :: .null :: rest)) := by
  intro T hT X
  obtain ⟨t, st, q⟩ := k T hT X
  exact ⟨t, X.sastoreNull hexec (g := F0 m pc ls (.int x :: .int i :: .null :: rest)) rfl (rest := rest) rfl (by rw [hb]; exact hdg) t st, q⟩
theorem vx_invokeN {own C : String} {index maxL : Nat} {y : MethodName} {bytes : ByteArray} {ret : Option FieldType} (hexec : p.tables.exec = Jvm.exec) (hb : c.code = cc) (hown : s.vm.findClass own = some m.cls) (hlink : (Cond.methodLink own index y).before args s = true) (hinst : (Cond.instanceMethod y).before args s = true) (hcode : (Cond.code y bytes maxL ret).before args s = true) (hsel : (Cond.selects C y y).before args s = true)
    (hx : y.cls ≠ "java/lang/invoke/MethodHandle" ∧ y.cls ≠ "java/lang/invoke/VarHandle") {As : List Value} (hlen : (parseMethodDescriptor y.desc).map (fun d => d.parameters.length) = some As.length) (hdg : decode cc pc = .ok (.invokevirtual index, 3))
    (k : vx_NoteN p l e R s m args below meth c H locs cells slots Q (F0 m pc ls rest)) {st0 : List Value} (hst : st0 = As.reverse ++ .null :: rest) : W p l e R s m args below meth c H locs cells slots Q (F0 m pc ls st0) := by
  intro T hT X
  obtain ⟨r0, r, hn, hrm, hstR, hsigR⟩ := va_Decl.of hinst hcode
  obtain ⟨c2, r2, m2, q1, q2, q3, q4, kP, hkP, hkPi⟩ := Cond.selects_spec hsel
  cases hn.symm.trans q3
  have hl9 : As.length = r.sig.parameters.length := by
    rw [hsigR] at hlen
    exact (Option.some.inj hlen).symm
  obtain ⟨vm', X1, st1⟩ := X.invokevirtualNull hexec hown hlink hn hrm hstR hkP hkPi hx (g := F0 m pc ls st0) rfl (argsL := As) (rest := rest) hl9 hst (by rw [hb]; exact hdg)
  obtain ⟨t, st, q⟩ := k (T.setVm vm') hT X1
  exact ⟨t, st1 t st, q⟩
theorem vx_newarrayZ {atype : ArrayType} (hexec : p.tables.exec = Jvm.exec) (hb : c.code = cc) {n : Int32} (h0 : n < 0) (hdg : decode cc pc = .ok (.newarray atype, 2)) (k : ∀ tx : String, tx = toString n → vx_Note p l e R s m args below meth c H locs cells slots Q (F0 m pc ls rest) "java/lang/NegativeArraySizeException" tx) : W p l e R s m args below meth c H locs cells slots Q (F0 m pc ls (.int n :: rest)) := by
  intro T hT X
  obtain ⟨t, st, q⟩ := k _ rfl T hT X
  exact ⟨t, X.newarrayNegative hexec (g := F0 m pc ls (.int n :: rest)) rfl h0 (rest := rest) rfl (by rw [hb]; exact hdg) t st, q⟩
end
end VXM
/-! ===== END ===== -/
/-! ===== BEGIN an exception as an object: made, kept, thrown later (no traces kept) ===== -/
section VXK
variable {p : Program} {l : Launch} {e : Env} {R : Room} {s : State} {m₀ : MethodId} {args : Array Value} {below : List Frame} {meth : Method} {c : Code} {W : State} {locs : List Loc} {cells slots : Nat}
set_option maxHeartbeats 1000000 in
theorem vx_ctorMadeS (X : Stand p l e R s m₀ args below meth c W locs cells slots) (hexec : p.tables.exec = Jvm.exec) (htr : e.platform.stackTraces = false) {own cls : String} {names : List String} {ic : Nat}
    (hown : s.vm.findClass own = some m₀.cls) (hcls : Bundle.fit cls = true) (hnames : ∀ n ∈ names, Bundle.fit n = true)
    (h : ∀ a ∈ Bundle.ownAtoms own ic cls names, a.before args s = true)
    (hlocs : ∀ x ∈ locs, ∀ cell, s.heap[x.base]? = some cell → cell.vm.isStatics = false)
    {a : Addr} {cX : ClassId} {kX : Class} (hfoundX : s.vm.findClass cls = some cX) (hkX : s.vm.classes[cX]? = some kX) (hcell : W.heap[a]? = some (freshCell cX kX)) (hnew : s.heap.size ≤ a)
    {msg : Value} (hmsg : msg.isRef = true)
    {g : JFrame} (hg : g.method = m₀) (hsize : g.locals.size = c.maxLocals) {rest : List Value} (hstack : g.stack = msg :: .ref a :: .ref a :: rest)
    (hd6 : decode c.code g.pc = .ok (.invokespecial ic, 3))
    (hRframes : names.length + 3 < R.frames) (hRlocals : 2 * g.monitorRoom + ((Value.ref a :: rest).map fun v => v.category).sum + (13 * (names.length + 1) + 42) ≤ R.locals) :
    ∃ (V : State) (ce : Cell) (L : List Loc), Stand p l e R s m₀ args below meth c (V.setCell a ce) (locs ++ L) cells slots ∧ (∀ y ∈ L, y.base = a) ∧ a < V.heap.size ∧ ce.cls = cX ∧ ce.vm = .none ∧
      ∀ target, Steps p.tables e below ((V.setCell a ce).setTop { g with stack := .ref a :: rest, pc := g.pc + 3 }) target → Steps p.tables e below (W.setTop g) target := by
  have howns : e.platform.frameOwnsMonitors = true := by rw [X.admits.platform]
  have hfin : e.platform.finalization = false := by rw [X.admits.platform]
  have hpl : e.platform.magicAccessors = ({} : Platform).magicAccessors := by rw [X.admits.platform]
  have a' : ∀ x, x ∈ Bundle.ownAtoms own ic cls names → x.holds args s none s [] = true := fun x hx => h x hx
  obtain ⟨T, Z0, L, -, Y⟩ := ThrowableC.of_atoms (args := args) howns hfin hpl (fun x hx => h x (by simp [Bundle.ownAtoms, hx]))
  obtain ⟨Z, M, LZ, LM, hnZ⟩ := Init0T.ofS_atoms (args := args) hpl L Y (fun x hx => h x (by simp [Bundle.ownAtoms, hx]))
  obtain ⟨P1, Ps, hlen, L1, hL, hP1m, hlink1, hlink⟩ := Bundle.chainS (args := args) hpl hnZ names cls hcls hnames (fun x hx => h x (by simp [Bundle.ownAtoms, hx]))
  have hfound : s.vm.findClass cls = some P1.m.cls := findClass_of_methodNamed hP1m
  cases Option.some.inj (hfoundX.symm.trans hfound)
  obtain ⟨c1, kX', hc1, hk, hord, -, -, hn6⟩ := Cond.instantiable_spec (a' (.instantiable cls 6) (by simp [Bundle.ownAtoms]))
  cases Option.some.inj (hc1.symm.trans hfound)
  cases Option.some.inj (hkX.symm.trans hk)
  have hsel0 : selectMethod e.platform s.vm P1.m.cls T.fill0 = .method T.fill0 := by
    obtain ⟨c2, r2, m2, q1, q2, q3, q4, -⟩ := Cond.selects_spec (a' (.selects cls Bundle.tFill0 Bundle.tFill0) (by simp [Bundle.ownAtoms]))
    cases Option.some.inj (q1.symm.trans hfound)
    cases Option.some.inj (q2.symm.trans (State.methodFound?_of_named Y.fill0 (by decide)))
    cases Option.some.inj (q3.symm.trans Y.fill0)
    rw [Launch.admits_selectMethod X.admits]; exact q4
  have hselF : selectMethod e.platform s.vm P1.m.cls T.fill = .method T.fill := by
    obtain ⟨c2, r2, m2, q1, q2, q3, q4, -⟩ := Cond.selects_spec (a' (.selects cls Bundle.tFill Bundle.tFill) (by simp [Bundle.ownAtoms]))
    cases Option.some.inj (q1.symm.trans hfound)
    cases Option.some.inj (q2.symm.trans (State.methodFound?_of_named Y.fill (by decide)))
    cases Option.some.inj (q3.symm.trans Y.fill)
    rw [Launch.admits_selectMethod X.admits]; exact q4
  obtain ⟨cellS0, hcS0, hiss⟩ := Y.statics
  obtain ⟨u0, hu0⟩ := Cond.staticRefV Y.unassigned L.unassignedStatic L.statics hcS0 hiss (a' (.isRef (.static Bundle.tN "UNASSIGNED_STACK" Bundle.steD)) (by simp [Bundle.ownAtoms]))
  obtain ⟨sen, hsen⟩ := Cond.staticRefV Y.sentinel L.sentinelStatic L.statics hcS0 hiss (a' (.isRef (.static Bundle.tN "SUPPRESSED_SENTINEL" Bundle.listD)) (by simp [Bundle.ownAtoms]))
  obtain ⟨ci198, i198, fB, hk198, hg198, ha198, hsB, -, hnB, htB, hffB⟩ := Cond.ownField (t := .object "java/lang/Object") Y.found L.cls (by decide +kernel) (a' (.fieldLink Bundle.tN 198 Bundle.tN "backtrace" "Ljava/lang/Object;") (by simp [Bundle.ownAtoms])) (a' (.lays Bundle.tN Bundle.tN "backtrace" "Ljava/lang/Object;") (by simp [Bundle.ownAtoms])) e.platform hpl
  obtain ⟨cellS, hcS', heS, -, hkeep⟩ := X.same.2.2.2.2.2 T.aS cellS0 hcS0
  have hcellS : W.heap[T.aS]? = some cellS := hcS'
  have hout' : ∀ i, (⟨T.aS, i⟩ : Loc) ∉ locs := fun i hmem => by
    have := hlocs _ hmem cellS0 hcS0
    rw [hiss] at this; cases this
  have hknownS : cellS.vm ≠ .unknown := by
    rw [heS]; intro hu
    rw [show cellS0.vm = .unknown from hu] at hiss
    cases hiss
  have hneS : T.aS ≠ a := Nat.ne_of_lt (Nat.lt_of_lt_of_le (Array.getElem?_eq_some_iff.mp hcS0).1 hnew)
  obtain ⟨iM, hffM⟩ := Y.msg
  obtain ⟨tyC, dC, hdC, hdnC⟩ := Cond.laysAt hfound hk Y.cause (a' (.lays cls Bundle.tN "cause" "Ljava/lang/Throwable;") (by simp [Bundle.ownAtoms]))
  obtain ⟨tyS, dS, hdS, hdnS⟩ := Cond.laysAt hfound hk Y.stack (a' (.lays cls Bundle.tN "stackTrace" Bundle.steD) (by simp [Bundle.ownAtoms]))
  obtain ⟨tyP, dP, hdP, hdnP⟩ := Cond.laysAt hfound hk Y.supp (a' (.lays cls Bundle.tN "suppressedExceptions" Bundle.listD) (by simp [Bundle.ownAtoms]))
  obtain ⟨tyM, dM, hdM, hdnM⟩ := Cond.laysAt hfound hk hffM (a' (.lays cls Bundle.tN "detailMessage" "Ljava/lang/String;") (by simp [Bundle.ownAtoms]))
  obtain ⟨tyB, dB, hdB, hdnB⟩ := Cond.laysAt hfound hk hffB (a' (.lays cls Bundle.tN "backtrace" "Ljava/lang/Object;") (by simp [Bundle.ownAtoms]))
  have bC := Cond.laysApart hdB hdC hdnB hdnC (by rw [hnB, Y.causeName]; decide)
  have bS := Cond.laysApart hdB hdS hdnB hdnS (by rw [hnB, Y.stackName]; decide)
  have bP := Cond.laysApart hdB hdP hdnB hdnP (by rw [hnB, Y.suppName]; decide)
  have hskip : SkipFacts T e.platform s (fun u => u) u0 ((preparedCellV T.toThrowableT (freshCell P1.m.cls kX) a u0 sen).withEntry W.cur) :=
    ⟨{ ci198 := ci198, i198 := i198, fBack := fB }, ⟨hk198, hg198, ha198, hsB⟩, by
      have := fresh_default (c := P1.m.cls) tyB
      rw [htB] at this
      simpa [preparedCellV, Cell.setSlot, Cell.withEntry, Array.getElem?_setIfInBounds, bC, bS, bP, bC.symm, bS.symm, bP.symm, defaultValue] using this, fun _ _ => rfl⟩
  obtain ⟨tm, methC, cdC, kC, vm₁, hnC, -, -, -, -, -, -, -, hW₁, st1⟩ := Steps.initColdS (tb := p.tables) (e := e) (below := below) (s := s) (U := W) X.here hexec X.warmed hpl hown (t := Bundle.initS cls) rfl rfl (Bundle.fit_spec hcls).2
    (a' (.methodLink own ic (Bundle.initS cls)) (by simp [Bundle.ownAtoms])) (h (.instanceMethod (Bundle.initS cls)) (by cases names <;> simp [Bundle.ownAtoms, Bundle.chainSAtoms, Bundle.passSAtoms])) (bytes := Bundle.six) (maxL := 2) (h (.code (Bundle.initS cls) Bundle.six 2 none) (by cases names <;> simp [Bundle.ownAtoms, Bundle.chainSAtoms, Bundle.passSAtoms]))
    (f := g) hg (a := a) (msg := msg) (rest := .ref a :: rest) hstack hd6
  cases Option.some.inj (hnC.symm.trans hP1m)
  have X₁ := X.noted hW₁
  obtain ⟨vm₂, X₂, st2⟩ := X₁.ctorMessageOffV hexec (g := { g with stack := .ref a :: rest }) hg hsize T L Z LZ M LM (P1 :: Ps)
    (fun P hP => by rcases List.mem_cons.mp hP with rfl | hP; exact L1; exact hL P hP) ⟨hlink1, hlink⟩ (u0 := u0) (sen := sen) (self := a) hmsg (cell := freshCell P1.m.cls kX) (cellS := cellS)
    hcell (fun _ => by simp) (by simp) rfl rfl hsel0 hselF hcellS hneS hknownS (by rw [hkeep _ (hout' _)]; exact hu0) (by rw [hkeep _ (hout' _)]; exact hsen)
    (Takes.of_laid hk hord tyC (by rw [Y.causeType]; rfl)) (Takes.of_laid hk hord tyS (by rw [Y.stackType]; exact fits_refV_array _ u0)) (Takes.of_laid hk hord tyP (by rw [Y.suppType]; exact fits_refV_object _ sen))
    (Takes.of_laid hk hord tyM (by rw [Y.msgType]; exact fits_refV_object _ ⟨msg, hmsg⟩)) Y.objLocals hskip htr [] hd6
    (by simp only [List.length_cons, hlen]; omega) (by simp only [List.length_cons, hlen]; exact hRlocals)
  have hlt : a < ((W.setVm vm₁).setVm vm₂).heap.size := (Array.getElem?_eq_some_iff.mp hcell).1
  refine ⟨(W.setVm vm₁).setVm vm₂, _, _, X₂, fun y hy => ?_, hlt, rfl, rfl, fun target hwalk => st1 _ (fun acts => ?_)⟩
  · simp only [List.mem_cons, List.not_mem_nil, or_false] at hy
    rcases hy with rfl | rfl | rfl | rfl | rfl <;> rfl
  · rw [doInvoke_state]
    exact st2 _ hwalk
set_option maxHeartbeats 1000000 in
theorem vx_ctorMade0 (X : Stand p l e R s m₀ args below meth c W locs cells slots) (hexec : p.tables.exec = Jvm.exec) (htr : e.platform.stackTraces = false) {own cls : String} {names : List String} {ic : Nat}
    (hown : s.vm.findClass own = some m₀.cls) (hcls : Bundle.fit cls = true) (hnames : ∀ n ∈ names, Bundle.fit n = true)
    (h : ∀ a ∈ Bundle.ownAtoms0 own ic cls names, a.before args s = true)
    (hlocs : ∀ x ∈ locs, ∀ cell, s.heap[x.base]? = some cell → cell.vm.isStatics = false)
    {a : Addr} {cX : ClassId} {kX : Class} (hfoundX : s.vm.findClass cls = some cX) (hkX : s.vm.classes[cX]? = some kX) (hcell : W.heap[a]? = some (freshCell cX kX)) (hnew : s.heap.size ≤ a)
    {g : JFrame} (hg : g.method = m₀) (hsize : g.locals.size = c.maxLocals) {rest : List Value} (hstack : g.stack = .ref a :: .ref a :: rest)
    (hd6 : decode c.code g.pc = .ok (.invokespecial ic, 3))
    (hRframes : names.length + 3 < R.frames) (hRlocals : 2 * g.monitorRoom + ((Value.ref a :: rest).map fun v => v.category).sum + (13 * (names.length + 1) + 41) ≤ R.locals) :
    ∃ (V : State) (ce : Cell) (L : List Loc), Stand p l e R s m₀ args below meth c (V.setCell a ce) (locs ++ L) cells slots ∧ (∀ y ∈ L, y.base = a) ∧ a < V.heap.size ∧ ce.cls = cX ∧ ce.vm = .none ∧
      ∀ target, Steps p.tables e below ((V.setCell a ce).setTop { g with stack := .ref a :: rest, pc := g.pc + 3 }) target → Steps p.tables e below (W.setTop g) target := by
  have howns : e.platform.frameOwnsMonitors = true := by rw [X.admits.platform]
  have hfin : e.platform.finalization = false := by rw [X.admits.platform]
  have hpl : e.platform.magicAccessors = ({} : Platform).magicAccessors := by rw [X.admits.platform]
  have a' : ∀ x, x ∈ Bundle.ownAtoms0 own ic cls names → x.holds args s none s [] = true := fun x hx => h x hx
  obtain ⟨T, Z, L, LZ, Y⟩ := ThrowableC.of_atoms (args := args) howns hfin hpl (fun x hx => h x (by simp [Bundle.ownAtoms0, hx]))
  obtain ⟨P1, Ps, hlen, L1, hL, hP1m, hlink1, hlink⟩ := Bundle.chain0 (args := args) hpl Y.init0 names cls hcls hnames (fun x hx => h x (by simp [Bundle.ownAtoms0, hx]))
  have hfound : s.vm.findClass cls = some P1.m.cls := findClass_of_methodNamed hP1m
  cases Option.some.inj (hfoundX.symm.trans hfound)
  obtain ⟨c1, kX', hc1, hk, hord, -, -, hn6⟩ := Cond.instantiable_spec (a' (.instantiable cls 6) (by simp [Bundle.ownAtoms0]))
  cases Option.some.inj (hc1.symm.trans hfound)
  cases Option.some.inj (hkX.symm.trans hk)
  have hsel0 : selectMethod e.platform s.vm P1.m.cls T.fill0 = .method T.fill0 := by
    obtain ⟨c2, r2, m2, q1, q2, q3, q4, -⟩ := Cond.selects_spec (a' (.selects cls Bundle.tFill0 Bundle.tFill0) (by simp [Bundle.ownAtoms0]))
    cases Option.some.inj (q1.symm.trans hfound)
    cases Option.some.inj (q2.symm.trans (State.methodFound?_of_named Y.fill0 (by decide)))
    cases Option.some.inj (q3.symm.trans Y.fill0)
    rw [Launch.admits_selectMethod X.admits]; exact q4
  have hselF : selectMethod e.platform s.vm P1.m.cls T.fill = .method T.fill := by
    obtain ⟨c2, r2, m2, q1, q2, q3, q4, -⟩ := Cond.selects_spec (a' (.selects cls Bundle.tFill Bundle.tFill) (by simp [Bundle.ownAtoms0]))
    cases Option.some.inj (q1.symm.trans hfound)
    cases Option.some.inj (q2.symm.trans (State.methodFound?_of_named Y.fill (by decide)))
    cases Option.some.inj (q3.symm.trans Y.fill)
    rw [Launch.admits_selectMethod X.admits]; exact q4
  obtain ⟨cellS0, hcS0, hiss⟩ := Y.statics
  obtain ⟨u0, hu0⟩ := Cond.staticRefV Y.unassigned L.unassignedStatic L.statics hcS0 hiss (a' (.isRef (.static Bundle.tN "UNASSIGNED_STACK" Bundle.steD)) (by simp [Bundle.ownAtoms0]))
  obtain ⟨sen, hsen⟩ := Cond.staticRefV Y.sentinel L.sentinelStatic L.statics hcS0 hiss (a' (.isRef (.static Bundle.tN "SUPPRESSED_SENTINEL" Bundle.listD)) (by simp [Bundle.ownAtoms0]))
  obtain ⟨ci198, i198, fB, hk198, hg198, ha198, hsB, -, hnB, htB, hffB⟩ := Cond.ownField (t := .object "java/lang/Object") Y.found L.cls (by decide +kernel) (a' (.fieldLink Bundle.tN 198 Bundle.tN "backtrace" "Ljava/lang/Object;") (by simp [Bundle.ownAtoms0])) (a' (.lays Bundle.tN Bundle.tN "backtrace" "Ljava/lang/Object;") (by simp [Bundle.ownAtoms0])) e.platform hpl
  obtain ⟨cellS, hcS', heS, -, hkeep⟩ := X.same.2.2.2.2.2 T.aS cellS0 hcS0
  have hcellS : W.heap[T.aS]? = some cellS := hcS'
  have hout' : ∀ i, (⟨T.aS, i⟩ : Loc) ∉ locs := fun i hmem => by
    have := hlocs _ hmem cellS0 hcS0
    rw [hiss] at this; cases this
  have hknownS : cellS.vm ≠ .unknown := by
    rw [heS]; intro hu
    rw [show cellS0.vm = .unknown from hu] at hiss
    cases hiss
  have hneS : T.aS ≠ a := Nat.ne_of_lt (Nat.lt_of_lt_of_le (Array.getElem?_eq_some_iff.mp hcS0).1 hnew)
  obtain ⟨iM, hffM⟩ := Y.msg
  obtain ⟨tyC, dC, hdC, hdnC⟩ := Cond.laysAt hfound hk Y.cause (a' (.lays cls Bundle.tN "cause" "Ljava/lang/Throwable;") (by simp [Bundle.ownAtoms0]))
  obtain ⟨tyS, dS, hdS, hdnS⟩ := Cond.laysAt hfound hk Y.stack (a' (.lays cls Bundle.tN "stackTrace" Bundle.steD) (by simp [Bundle.ownAtoms0]))
  obtain ⟨tyP, dP, hdP, hdnP⟩ := Cond.laysAt hfound hk Y.supp (a' (.lays cls Bundle.tN "suppressedExceptions" Bundle.listD) (by simp [Bundle.ownAtoms0]))
  obtain ⟨tyM, dM, hdM, hdnM⟩ := Cond.laysAt hfound hk hffM (a' (.lays cls Bundle.tN "detailMessage" "Ljava/lang/String;") (by simp [Bundle.ownAtoms0]))
  obtain ⟨tyB, dB, hdB, hdnB⟩ := Cond.laysAt hfound hk hffB (a' (.lays cls Bundle.tN "backtrace" "Ljava/lang/Object;") (by simp [Bundle.ownAtoms0]))
  have bC := Cond.laysApart hdB hdC hdnB hdnC (by rw [hnB, Y.causeName]; decide)
  have bS := Cond.laysApart hdB hdS hdnB hdnS (by rw [hnB, Y.stackName]; decide)
  have bP := Cond.laysApart hdB hdP hdnB hdnP (by rw [hnB, Y.suppName]; decide)
  have hskip : SkipFacts T e.platform s (fun u => u) u0 ((preparedCellV T.toThrowableT (freshCell P1.m.cls kX) a u0 sen).withEntry W.cur) :=
    ⟨{ ci198 := ci198, i198 := i198, fBack := fB }, ⟨hk198, hg198, ha198, hsB⟩, by
      have := fresh_default (c := P1.m.cls) tyB
      rw [htB] at this
      simpa [preparedCellV, Cell.setSlot, Cell.withEntry, Array.getElem?_setIfInBounds, bC, bS, bP, bC.symm, bS.symm, bP.symm, defaultValue] using this, fun _ _ => rfl⟩
  obtain ⟨tm, methC, cdC, kC, vm₁, hnC, -, -, -, -, -, -, -, hW₁, st1⟩ := Steps.initCold (tb := p.tables) (e := e) (below := below) (s := s) (U := W) X.here hexec X.warmed hpl hown (t := Bundle.init0 cls) rfl rfl (Bundle.fit_spec hcls).2
    (a' (.methodLink own ic (Bundle.init0 cls)) (by simp [Bundle.ownAtoms0])) (h (.instanceMethod (Bundle.init0 cls)) (by cases names <;> simp [Bundle.ownAtoms0, Bundle.chain0Atoms, Bundle.passAtoms])) (bytes := Bundle.five) (maxL := 1) (h (.code (Bundle.init0 cls) Bundle.five 1 none) (by cases names <;> simp [Bundle.ownAtoms0, Bundle.chain0Atoms, Bundle.passAtoms]))
    (f := g) hg (a := a) (rest := .ref a :: rest) hstack hd6
  cases Option.some.inj (hnC.symm.trans hP1m)
  have X₁ := X.noted hW₁
  obtain ⟨vm₂, X₂, st2⟩ := X₁.ctorPlainOffV hexec (g := { g with stack := .ref a :: rest }) hg hsize T L Z LZ (P1 :: Ps)
    (fun P hP => by rcases List.mem_cons.mp hP with rfl | hP; exact L1; exact hL P hP) ⟨hlink1, hlink⟩ (u0 := u0) (sen := sen) (self := a) (cell := freshCell P1.m.cls kX) (cellS := cellS)
    hcell (fun _ => by simp) (by simp) rfl rfl hsel0 hselF hcellS hneS hknownS (by rw [hkeep _ (hout' _)]; exact hu0) (by rw [hkeep _ (hout' _)]; exact hsen)
    (Takes.of_laid hk hord tyC (by rw [Y.causeType]; rfl)) (Takes.of_laid hk hord tyS (by rw [Y.stackType]; exact fits_refV_array _ u0)) (Takes.of_laid hk hord tyP (by rw [Y.suppType]; exact fits_refV_object _ sen)) Y.objLocals hskip htr [] hd6
    (by simp only [List.length_cons, hlen]; omega) (by simp only [List.length_cons, hlen]; exact hRlocals)
  have hlt : a < ((W.setVm vm₁).setVm vm₂).heap.size := (Array.getElem?_eq_some_iff.mp hcell).1
  refine ⟨(W.setVm vm₁).setVm vm₂, _, _, X₂, fun y hy => ?_, hlt, rfl, rfl, fun target hwalk => st1 _ (fun acts => ?_)⟩
  · simp only [List.mem_cons, List.not_mem_nil, or_false] at hy
    rcases hy with rfl | rfl | rfl | rfl <;> rfl
  · rw [doInvoke_state]
    exact st2 _ hwalk
end VXK
section VXK2
variable {p : Program} {l : Launch} {e : Env} {R : Room} {s : State} {m : MethodId} {args : Array Value} {below : List Frame} {meth : Method} {c : Code} {H : Heap} {locs : List Loc} {cells slots : Nat} {Q : State → Prop}
variable {ls : Array Slot} {rest : List Value} {D : va_G} {cl : List vw_C} {tys : List (ClassId × FieldType)} {ws : va_W}
/-- 'new E("text")' that isn't thrown at once: the object goes on the stack -/
theorem vx_makeS {cc : ByteArray} {pc : Nat} (hexec : p.tables.exec = Jvm.exec) (hb : c.code = cc) (hl : l.stackTraces = false) {own cls text : String} {names : List String} {ik is ic sa ci : Nat} {A : Nat → Prop} {T0 : u_T}
    (hown : s.vm.findClass own = some m.cls) (hcls : Bundle.fit cls = true) (hnames : ∀ n ∈ names, Bundle.fit n = true)
    (hk : (Cond.classLink own ik cls).before args s = true) (hini : (Cond.initialized cls).before args s = true) (hstr : vk_R own is text sa s) (hat : ∀ w ∈ vx_atS own ic cls names, w.before args s = true)
    (hgood : ∀ w ∈ Cond.classLink own ik cls :: Cond.initialized cls :: vx_atS own ic cls names, vx_ot w = true)
    (hU : vx_Zq Bundle.tN "UNASSIGNED_STACK" Bundle.steD A s s.heap) (hN : vx_Zq Bundle.tN "SUPPRESSED_SENTINEL" Bundle.listD A s s.heap) (hS : va_S A s.heap H locs) (hsize : ls.size = c.maxLocals)
    (d0 : decode cc pc = .ok (.new ik, 3)) (d3 : decode cc (pc + 3) = .ok (.dup, 1)) (d4 : decode cc (pc + 4) = .ok (.ldc is, 2)) (d6 : decode cc (pc + 6) = .ok (.invokespecial ic, 3))
    (hK : va_K D cl tys s) (hP : va_P D cl ws H) (hD : va_D A ws) (hA : ∀ q, s.heap.size ≤ q → A q) (hc : cl[ci]? = some (cls, T0, 0))
    (hRframes : names.length + 3 < R.frames) (hRlocals : (rest.map fun v => v.category).sum + (13 * (names.length + 1) + 43) ≤ R.locals) (hRcells : cells + 1 ≤ R.cells) (hRslots : slots + 6 ≤ R.slots)
    (kk : ∀ (q : Nat) (H1 : Heap), va_P D cl (ws ++ [(q, .inr (ci, []))]) H1 → va_D A (ws ++ [(q, .inr (ci, []))]) → va_S A s.heap H1 locs → W p l e R s m args below meth c H1 locs (cells + 1) (slots + 6) Q (F0 m (pc + 9) ls (.ref q :: rest))) :
    W p l e R s m args below meth c H locs cells slots Q (F0 m pc ls rest) := by
  intro T hT X
  subst hT
  have htr : e.platform.stackTraces = false := (show e.platform.stackTraces = l.stackTraces by rw [X.admits.platform]).trans hl
  have Y := vx_rebase X (R' := { frames := R.frames, locals := R.locals, cells := 1, slots := 6 }) (Nat.le_refl _) (Nat.le_refl _) hRcells hRslots
  obtain ⟨s', hA'⟩ : ∃ z, z = (T.setVm s.vm).setFrames (.invoking m args :: below) := ⟨_, rfl⟩
  rw [← hA'] at Y
  have hvm : s'.vm = s.vm := by rw [hA']; rfl
  have hhp : s'.heap = T.heap := by rw [hA']; rfl
  have hW0 : s.WarmedH s'.vm := by rw [hvm]; exact State.WarmedH.refl s
  have hat' : ∀ w ∈ vx_atS own ic cls names, w.before args s' = true := fun w hw => vx_ot_at hW0 hvm.symm (hgood w (List.mem_cons_of_mem _ (List.mem_cons_of_mem _ hw))) (hat w hw)
  have hk' : (Cond.classLink own ik cls).before args s' = true := vx_ot_at hW0 hvm.symm (hgood _ List.mem_cons_self) hk
  have hini' : (Cond.initialized cls).before args s' = true := vx_ot_at hW0 hvm.symm (hgood _ (List.mem_cons_of_mem _ List.mem_cons_self)) hini
  have hU' : vx_Zq Bundle.tN "UNASSIGNED_STACK" Bundle.steD A s' s'.heap := by rw [hhp]; exact vx_Zq.moved hW0.alike (hU.kept hS.2.1)
  have hN' : vx_Zq Bundle.tN "SUPPRESSED_SENTINEL" Bundle.listD A s' s'.heap := by rw [hhp]; exact vx_Zq.moved hW0.alike (hN.kept hS.2.1)
  have h : ∀ w ∈ Bundle.ownAtoms own ic cls names, w.before args s' = true := vx_own hat' (vx_isRefq hU'.1) (vx_isRefq hN'.1) hU'.2.word hN'.2.word
  have hown' : s'.vm.findClass own = some m.cls := by rw [hvm]; exact hown
  have hins : (Cond.instantiable cls 6).before args s' = true := h _ (by simp [Bundle.ownAtoms])
  obtain ⟨vm₁, cX, kX, hfX, hkX, -, -, X₁, st1⟩ := Y.newCold hexec (own := own) (C := cls) (index := ik) (n := 6) hown' hk' hins hini'
    (g := F0 m pc ls rest) rfl (by rw [hb]; exact d0) (Nat.le_refl _) (Nat.le_refl _)
  generalize hT1 : (T.setVm vm₁).pushCell { cls := cX, slots := kX.instanceTypes.map defaultValue, vm := .none } = T1 at X₁ st1
  have hcat : (Value.ref T.heap.size).category = 1 := rfl
  have hcellA : T1.heap[T.heap.size]? = some (freshCell cX kX) := by rw [← hT1]; exact State.heap_pushCell_size _ _
  have d3' : decode c.code (pc + 3) = .ok (.dup, 1) := by rw [hb]; exact d3
  have d4' : decode c.code (pc + 4) = .ok (.ldc is, 2) := by rw [hb]; exact d4
  have hstr' : vk_R own is text sa s' := vk_R.warm hW0 hstr
  obtain ⟨V, ce, L, Z, hL, hlt, hcl9, hvm9, st⟩ := vx_ctorMadeS X₁ hexec htr (own := own) (cls := cls) (names := names) (ic := ic) hown' hcls hnames h (fun x hx => nomatch hx) hfX hkX hcellA (by rw [hhp]; exact Nat.le_refl _) (msg := .ref sa) rfl
    (g := { method := m, pc := pc + 6, locals := ls, stack := .ref sa :: .ref T.heap.size :: .ref T.heap.size :: rest, locked := none }) rfl hsize (rest := rest) rfl
    (by rw [hb]; exact d6) hRframes (by simp only [List.map_cons, List.sum_cons, hcat]; omega)
  have Z0 := Stand.forget (locs := []) Z (fun y hy => by rw [hL y hy, hhp]; exact Nat.le_refl _)
  obtain ⟨f1, f2⟩ := vx_frame Z0.same
  rw [hhp] at f1 f2
  have hcid : ce.cls = D.1 ci := by
    rw [hcl9]
    have h1 := (hK.1 ci _ hc).2.1
    rw [hvm] at hfX
    exact Option.some.inj (hfX.symm.trans h1)
  have hh : (V.setCell T.heap.size ce).heap[T.heap.size]? = some ce := heapAt_setCell_self (s := V) ce hlt
  subst hA'
  have X5 := vx_back9 X Y Z0
  have X6 : Stand p l e R s m args below meth c (V.setCell T.heap.size ce) locs (cells + 1) (slots + 6) := { X5 with same := X5.same.mono (by omega) (by omega) }
  have hk9 : ∀ (k : Nat) (x : Nat × va_E), ws[k]? = some x → (V.setCell T.heap.size ce).heap[x.1]? = T.heap[x.1]? := fun k x hx => f2 x.1 ((hP k x hx).lt) (fun z hz => nomatch hz)
  obtain ⟨t, a1, b1⟩ := kk T.heap.size (V.setCell T.heap.size ce).heap ((hP.kept hk9).app (fun k x hx => by
      have hz : k < 1 := (List.getElem?_eq_some_iff.mp hx).1
      rw [show k = 0 by omega] at hx
      cases hx
      exact ⟨_, hc, ce, hh, hcid, hvm9, fun k hk => absurd hk (Nat.not_lt_zero k)⟩)) (hD.push hP rfl (hA _ hS.1)) ⟨Nat.le_trans hS.1 f1, fun q h1 h2 => (f2 q (Nat.lt_of_lt_of_le h1 hS.1) (fun z hz => nomatch hz)).trans (hS.2.1 q h1 h2), hS.2.2⟩ _ rfl X6
  refine ⟨t, st1 _ ?_, b1⟩
  show Steps p.tables e below (T1.setTop { method := m, pc := pc + 3, locals := ls, stack := .ref T.heap.size :: rest, locked := none }) _
  jvm_step X₁.here [X₁.here.top, hexec, d3', Value.category]
  exact X₁.ldcString hexec (own := own) (text := text) (index := is) (a := sa) hown' hstr'.1 hstr'.2
    (g := { method := m, pc := pc + 4, locals := ls, stack := .ref T.heap.size :: .ref T.heap.size :: rest, locked := none }) rfl d4' _ (st _ a1)
/-- 'new E()' that isn't thrown at once: the object goes on the stack -/
theorem vx_make0 {cc : ByteArray} {pc : Nat} (hexec : p.tables.exec = Jvm.exec) (hb : c.code = cc) (hl : l.stackTraces = false) {own cls : String} {names : List String} {ik ic ci : Nat} {A : Nat → Prop} {T0 : u_T}
    (hown : s.vm.findClass own = some m.cls) (hcls : Bundle.fit cls = true) (hnames : ∀ n ∈ names, Bundle.fit n = true)
    (hk : (Cond.classLink own ik cls).before args s = true) (hini : (Cond.initialized cls).before args s = true) (hat : ∀ w ∈ vx_at0 own ic cls names, w.before args s = true)
    (hgood : ∀ w ∈ Cond.classLink own ik cls :: Cond.initialized cls :: vx_at0 own ic cls names, vx_ot w = true)
    (hU : vx_Zq Bundle.tN "UNASSIGNED_STACK" Bundle.steD A s s.heap) (hN : vx_Zq Bundle.tN "SUPPRESSED_SENTINEL" Bundle.listD A s s.heap) (hS : va_S A s.heap H locs) (hsize : ls.size = c.maxLocals)
    (d0 : decode cc pc = .ok (.new ik, 3)) (d3 : decode cc (pc + 3) = .ok (.dup, 1)) (d4 : decode cc (pc + 4) = .ok (.invokespecial ic, 3))
    (hK : va_K D cl tys s) (hP : va_P D cl ws H) (hD : va_D A ws) (hA : ∀ q, s.heap.size ≤ q → A q) (hc : cl[ci]? = some (cls, T0, 0))
    (hRframes : names.length + 3 < R.frames) (hRlocals : (rest.map fun v => v.category).sum + (13 * (names.length + 1) + 42) ≤ R.locals) (hRcells : cells + 1 ≤ R.cells) (hRslots : slots + 6 ≤ R.slots)
    (kk : ∀ (q : Nat) (H1 : Heap), va_P D cl (ws ++ [(q, .inr (ci, []))]) H1 → va_D A (ws ++ [(q, .inr (ci, []))]) → va_S A s.heap H1 locs → W p l e R s m args below meth c H1 locs (cells + 1) (slots + 6) Q (F0 m (pc + 7) ls (.ref q :: rest))) :
    W p l e R s m args below meth c H locs cells slots Q (F0 m pc ls rest) := by
  intro T hT X
  subst hT
  have htr : e.platform.stackTraces = false := (show e.platform.stackTraces = l.stackTraces by rw [X.admits.platform]).trans hl
  have Y := vx_rebase X (R' := { frames := R.frames, locals := R.locals, cells := 1, slots := 6 }) (Nat.le_refl _) (Nat.le_refl _) hRcells hRslots
  obtain ⟨s', hA'⟩ : ∃ z, z = (T.setVm s.vm).setFrames (.invoking m args :: below) := ⟨_, rfl⟩
  rw [← hA'] at Y
  have hvm : s'.vm = s.vm := by rw [hA']; rfl
  have hhp : s'.heap = T.heap := by rw [hA']; rfl
  have hW0 : s.WarmedH s'.vm := by rw [hvm]; exact State.WarmedH.refl s
  have hat' : ∀ w ∈ vx_at0 own ic cls names, w.before args s' = true := fun w hw => vx_ot_at hW0 hvm.symm (hgood w (List.mem_cons_of_mem _ (List.mem_cons_of_mem _ hw))) (hat w hw)
  have hk' : (Cond.classLink own ik cls).before args s' = true := vx_ot_at hW0 hvm.symm (hgood _ List.mem_cons_self) hk
  have hini' : (Cond.initialized cls).before args s' = true := vx_ot_at hW0 hvm.symm (hgood _ (List.mem_cons_of_mem _ List.mem_cons_self)) hini
  have hU' : vx_Zq Bundle.tN "UNASSIGNED_STACK" Bundle.steD A s' s'.heap := by rw [hhp]; exact vx_Zq.moved hW0.alike (hU.kept hS.2.1)
  have hN' : vx_Zq Bundle.tN "SUPPRESSED_SENTINEL" Bundle.listD A s' s'.heap := by rw [hhp]; exact vx_Zq.moved hW0.alike (hN.kept hS.2.1)
  have h : ∀ w ∈ Bundle.ownAtoms0 own ic cls names, w.before args s' = true := vx_own hat' (vx_isRefq hU'.1) (vx_isRefq hN'.1) hU'.2.word hN'.2.word
  have hown' : s'.vm.findClass own = some m.cls := by rw [hvm]; exact hown
  have hins : (Cond.instantiable cls 6).before args s' = true := h _ (by simp [Bundle.ownAtoms0])
  obtain ⟨vm₁, cX, kX, hfX, hkX, -, -, X₁, st1⟩ := Y.newCold hexec (own := own) (C := cls) (index := ik) (n := 6) hown' hk' hins hini'
    (g := F0 m pc ls rest) rfl (by rw [hb]; exact d0) (Nat.le_refl _) (Nat.le_refl _)
  generalize hT1 : (T.setVm vm₁).pushCell { cls := cX, slots := kX.instanceTypes.map defaultValue, vm := .none } = T1 at X₁ st1
  have hcat : (Value.ref T.heap.size).category = 1 := rfl
  have hcellA : T1.heap[T.heap.size]? = some (freshCell cX kX) := by rw [← hT1]; exact State.heap_pushCell_size _ _
  have d3' : decode c.code (pc + 3) = .ok (.dup, 1) := by rw [hb]; exact d3
  obtain ⟨V, ce, L, Z, hL, hlt, hcl9, hvm9, st⟩ := vx_ctorMade0 X₁ hexec htr (own := own) (cls := cls) (names := names) (ic := ic) hown' hcls hnames h (fun x hx => nomatch hx) hfX hkX hcellA (by rw [hhp]; exact Nat.le_refl _)
    (g := { method := m, pc := pc + 4, locals := ls, stack := .ref T.heap.size :: .ref T.heap.size :: rest, locked := none }) rfl hsize (rest := rest) rfl
    (by rw [hb]; exact d4) hRframes (by simp only [List.map_cons, List.sum_cons, hcat]; omega)
  have Z0 := Stand.forget (locs := []) Z (fun y hy => by rw [hL y hy, hhp]; exact Nat.le_refl _)
  obtain ⟨f1, f2⟩ := vx_frame Z0.same
  rw [hhp] at f1 f2
  have hcid : ce.cls = D.1 ci := by
    rw [hcl9]
    have h1 := (hK.1 ci _ hc).2.1
    rw [hvm] at hfX
    exact Option.some.inj (hfX.symm.trans h1)
  have hh : (V.setCell T.heap.size ce).heap[T.heap.size]? = some ce := heapAt_setCell_self (s := V) ce hlt
  subst hA'
  have X5 := vx_back9 X Y Z0
  have X6 : Stand p l e R s m args below meth c (V.setCell T.heap.size ce) locs (cells + 1) (slots + 6) := { X5 with same := X5.same.mono (by omega) (by omega) }
  have hk9 : ∀ (k : Nat) (x : Nat × va_E), ws[k]? = some x → (V.setCell T.heap.size ce).heap[x.1]? = T.heap[x.1]? := fun k x hx => f2 x.1 ((hP k x hx).lt) (fun z hz => nomatch hz)
  obtain ⟨t, a1, b1⟩ := kk T.heap.size (V.setCell T.heap.size ce).heap ((hP.kept hk9).app (fun k x hx => by
      have hz : k < 1 := (List.getElem?_eq_some_iff.mp hx).1
      rw [show k = 0 by omega] at hx
      cases hx
      exact ⟨_, hc, ce, hh, hcid, hvm9, fun k hk => absurd hk (Nat.not_lt_zero k)⟩)) (hD.push hP rfl (hA _ hS.1)) ⟨Nat.le_trans hS.1 f1, fun q h1 h2 => (f2 q (Nat.lt_of_lt_of_le h1 hS.1) (fun z hz => nomatch hz)).trans (hS.2.1 q h1 h2), hS.2.2⟩ _ rfl X6
  refine ⟨t, st1 _ ?_, b1⟩
  show Steps p.tables e below (T1.setTop { method := m, pc := pc + 3, locals := ls, stack := .ref T.heap.size :: rest, locked := none }) _
  jvm_step X₁.here [X₁.here.top, hexec, d3', Value.category]
  exact st _ a1
/-- 'throw x' of an object that was made before -/
theorem vx_athrow {cc : ByteArray} {pc : Nat} (hexec : p.tables.exec = Jvm.exec) (hb : c.code = cc) {q : Addr} (hdg : decode cc pc = .ok (.athrow, 1)) (k : vx_W p l e R s m args below meth c H locs cells slots Q (F0 m pc ls rest) q) : W p l e R s m args below meth c H locs cells slots Q (F0 m pc ls (.ref q :: rest)) := by
  intro T hT X
  obtain ⟨t, st, hq⟩ := k T hT X
  refine ⟨t, ?_, hq⟩
  have hdg' : decode c.code pc = .ok (.athrow, 1) := by rw [hb]; exact hdg
  jvm_step X.here [X.here.top, hexec, hdg', athrow.wp_sem]
  exact st
end VXK2
/-! ===== END ===== -/
/-! ===== BEGIN a constructor that throws (launches without stack traces) ===== -/
section VXIA
variable {p : Program} {l : Launch} {e : Env} {R : Room} {s : State} {m : MethodId} {args : Array Value} {below : List Frame} {meth : Method} {c : Code} {T : State} {locs : List Loc} {cells slots : Nat}
theorem vx_callI (X : Stand p l e R s m args below meth c T locs cells slots) (hexec : p.tables.exec = Jvm.exec) {own : String} {index : Nat} {y : MethodName} {bytes : ByteArray} {maxL : Nat}
    (hown : s.vm.findClass own = some m.cls) (hy1 : y.name = "<init>") (hlink : (Cond.methodLink own index y).before args s = true) (hinst : (Cond.instanceMethod y).before args s = true)
    (hcode : (Cond.code y bytes maxL none).before args s = true) (hy : y.cls ≠ "java/lang/invoke/MethodHandle" ∧ y.cls ≠ "java/lang/invoke/VarHandle")
    {W9 : Nat} {Pre : Pt → Array Value → Prop} {Post : Pt → Array Value → Option Value → Pt → Prop} {PostX : Pt → Array Value → Addr → Pt → Prop} (hK : vx_Back l R p e below s args y 3 W9 Pre Post PostX)
    {g : JFrame} (hg : g.method = m) (hsize : g.locals.size = c.maxLocals) {a : Addr} {argsL rest : List Value} (hlen : ∀ sig, parseMethodDescriptor y.desc = some sig → argsL.length = sig.parameters.length)
    (hstack : g.stack = argsL.reverse ++ .ref a :: rest) (hW : 2 * g.monitorRoom + (rest.map fun v => v.category).sum ≤ W9) (hdg : decode c.code g.pc = .ok (.invokespecial index, 3))
    (hpre : ∀ vm₁, s.WarmedH vm₁ → Pre ⟨T.setVm vm₁, locs, cells, slots⟩ (Value.ref a :: argsL).toArray) :
    (∃ (v : Option Value) (vm₁ : Vm) (B : Pt), s.WarmedH vm₁ ∧ Stand p l e R s m args below meth c B.U B.locs B.cells B.slots ∧ Post ⟨T.setVm vm₁, locs, cells, slots⟩ (Value.ref a :: argsL).toArray v B ∧
      ∀ target, Steps p.tables e below (B.U.setTop { g with pc := g.pc + 3, stack := v.toList ++ rest }) target → Steps p.tables e below (T.setTop g) target) ∨
    (∃ (q : Addr) (vm₁ : Vm) (B : Pt), s.WarmedH vm₁ ∧ Stand p l e R s m args below meth c B.U B.locs B.cells B.slots ∧ PostX ⟨T.setVm vm₁, locs, cells, slots⟩ (Value.ref a :: argsL).toArray q B ∧
      Steps p.tables e below (T.setTop g) ((B.U.setTop { g with stack := rest }).pushFrame (.throwing q))) := by
  subst hg
  have hpl : e.platform.magicAccessors = ({} : Platform).magicAccessors := by rw [X.admits.platform]
  obtain ⟨mk, methM, cM, kP, vm₁, hnamed, hmethM, hcodeM, -, hlocalsM, -, hkP, -, hW₁, hstep₁⟩ := Steps.initColdArgs (e := e) X.here hexec X.warmed hpl hown hy1 hy hlink hinst hcode (f := g) rfl hlen hstack hdg
  have X₁ := X.noted hW₁
  rcases hK g.method meth c ⟨T.setVm vm₁, locs, cells, slots⟩ { g with stack := rest } (.invokespecial index) mk (Value.ref a :: argsL).toArray X₁ rfl hsize hdg hW (X₁.named hnamed) (hpre vm₁ X₁.warmed) with ⟨v, B, X', hpost, hsteps⟩ | ⟨q, B, X', hpost, hsteps⟩
  · exact Or.inl ⟨v, vm₁, B, X₁.warmed, X', hpost, fun target h => hstep₁ _ fun acts => by rw [doInvoke_state]; exact hsteps.trans h⟩
  · exact Or.inr ⟨q, vm₁, B, X₁.warmed, X', hpost, hstep₁ _ fun acts => by rw [doInvoke_state]; exact hsteps⟩
end VXIA
section VXIB
variable {p : Program} {l : Launch} {e : Env} {R : Room} {s : State} {m : MethodId} {args : Array Value} {below : List Frame} {meth : Method} {c : Code} {H : Heap} {locs : List Loc} {cells slots : Nat}
variable {y : MethodName} {bytes cc : ByteArray} {maxL nL mc ms n index : Nat} {ret : Option FieldType} {ws : List Cond} {rm : Room} {Pc : Array Value → State → Prop} {Qc : Array Value → State → Outcome → State → Prop} {XC : String → State → State → Prop} {free : Addr → Prop} {Ts : List Cond} {own C : String} {b : Addr} {As rest : List Value} {g : JFrame}
theorem vx_runI (S : CallFix p m c cc nL s args Ts own) (hM : vx_Met l y ws rm Pc Qc XC mc ms free) (cw : CallB R s args own index y bytes maxL none ws rm mc ms n ∧ y.name = "<init>" ∧ (Cond.instanceMethod y).before args s = true) (hp : PreS s H Pc (.ref b :: As))
    (hg : g.method = m) (hn : As.length = n) (hsize : g.locals.size = nL) (hstack : g.stack = As.reverse ++ .ref b :: rest) (hW : 2 * g.monitorRoom + (rest.map fun v => v.category).sum ≤ 8) (hdg : decode cc g.pc = .ok (.invokespecial index, 3)) (hf : cells + mc ≤ R.cells ∧ slots + ms ≤ R.slots) :
    vx_Run p l e R s m args below meth c H locs cells slots mc ms g rest (Qc (Value.ref b :: As).toArray) XC free := by
  have hK : vx_Back l R p e below s args y 3 8 (PreOf R mc ms Pc) (PostOf Qc mc ms free) (vx_Post XC mc ms free) := vx_callBack cw.1 hM hp.1
  obtain ⟨⟨-, -, -, -, -, -, hcode, -, hy, hlen, hl⟩, hy1, hin⟩ := cw
  obtain ⟨hx, hb, hml, ho, -⟩ := S
  have hPc := hp.2
  intro T hT X
  rcases vx_callI X hx (bytes := bytes) (maxL := maxL) ho hy1 hl hin hcode hy hK hg (hsize.trans hml.symm) (a := b) (argsL := As) (rest := rest) (fun sig h => hn.trans (hlen sig h)) hstack hW (by rw [hb]; exact hdg)
    (fun vm₁ hW₁ => ⟨hf.1, hf.2, hPc (T.setVm vm₁) hT hW₁⟩) with ⟨v, vm₁, ⟨U', l2, c2, s2⟩, hW₁, X', ⟨g', mk, t, L, e1, e2, hq, h1, hL, h2, h3⟩, st⟩ | ⟨q, vm₁, ⟨U', l2, c2, s2⟩, hW₁, X', ⟨g', mk, t, L, E, ce, e1, e2, hq, hce, hcv, hcl, h1, hL, h2, h3⟩, st⟩
  · dsimp only [Pt.U, Pt.locs, Pt.cells, Pt.slots] at X' e1 e2 h1 h2 h3 st
    subst h1; subst h2; subst h3
    exact Or.inl ⟨v, (T.setVm vm₁).calling g' mk (Value.ref b :: As).toArray, t, U', L, hT, X', hL, e1, e2, hq, st⟩
  · dsimp only [Pt.U, Pt.locs, Pt.cells, Pt.slots] at X' e1 e2 h1 h2 h3 st hcl
    subst h1; subst h2; subst h3
    exact Or.inr ⟨q, (T.setVm vm₁).calling g' mk (Value.ref b :: As).toArray, t, U', L, E, ce, hT, X', hL, e1, e2, hq, hce, hcv, vx_cls hW₁ hcl, st⟩
end VXIB
/-! ===== END ===== -/
/-! ===== BEGIN a private constructor of a nest mate that throws ===== -/
section VXIC
variable {p : Program} {l : Launch} {e : Env} {R : Room} {s : State} {m : MethodId} {args : Array Value} {below : List Frame} {meth : Method} {c : Code} {T : State} {locs : List Loc} {cells slots : Nat}
theorem vx_callIN (X : Stand p l e R s m args below meth c T locs cells slots) (hexec : p.tables.exec = Jvm.exec) {own : String} {index : Nat} {host : String} {y : MethodName} {bytes : ByteArray} {maxL : Nat}
    (hown : s.vm.findClass own = some m.cls) (hy1 : y.name = "<init>") (hlink : (Cond.methodLinkNest own index y host).before args s = true) (hinst : (Cond.instanceMethod y).before args s = true)
    (hcode : (Cond.code y bytes maxL none).before args s = true) (hy : y.cls ≠ "java/lang/invoke/MethodHandle" ∧ y.cls ≠ "java/lang/invoke/VarHandle")
    {W9 : Nat} {Pre : Pt → Array Value → Prop} {Post : Pt → Array Value → Option Value → Pt → Prop} {PostX : Pt → Array Value → Addr → Pt → Prop} (hK : vx_Back l R p e below s args y 3 W9 Pre Post PostX)
    {g : JFrame} (hg : g.method = m) (hsize : g.locals.size = c.maxLocals) {a : Addr} {argsL rest : List Value} (hlen : ∀ sig, parseMethodDescriptor y.desc = some sig → argsL.length = sig.parameters.length)
    (hstack : g.stack = argsL.reverse ++ .ref a :: rest) (hW : 2 * g.monitorRoom + (rest.map fun v => v.category).sum ≤ W9) (hdg : decode c.code g.pc = .ok (.invokespecial index, 3))
    (hpre : ∀ vm₁, s.WarmedH vm₁ → Pre ⟨T.setVm vm₁, locs, cells, slots⟩ (Value.ref a :: argsL).toArray) :
    (∃ (v : Option Value) (vm₁ : Vm) (B : Pt), s.WarmedH vm₁ ∧ Stand p l e R s m args below meth c B.U B.locs B.cells B.slots ∧ Post ⟨T.setVm vm₁, locs, cells, slots⟩ (Value.ref a :: argsL).toArray v B ∧
      ∀ target, Steps p.tables e below (B.U.setTop { g with pc := g.pc + 3, stack := v.toList ++ rest }) target → Steps p.tables e below (T.setTop g) target) ∨
    (∃ (q : Addr) (vm₁ : Vm) (B : Pt), s.WarmedH vm₁ ∧ Stand p l e R s m args below meth c B.U B.locs B.cells B.slots ∧ PostX ⟨T.setVm vm₁, locs, cells, slots⟩ (Value.ref a :: argsL).toArray q B ∧
      Steps p.tables e below (T.setTop g) ((B.U.setTop { g with stack := rest }).pushFrame (.throwing q))) := by
  subst hg
  have hpl : e.platform.magicAccessors = ({} : Platform).magicAccessors := by rw [X.admits.platform]
  obtain ⟨mk, methM, cM, kP, vm₁, hnamed, hmethM, hcodeM, -, hlocalsM, -, hkP, -, hW₁, hstep₁⟩ := Steps.initColdArgsNest (e := e) X.here hexec X.warmed hpl hown hy1 hy hlink hinst hcode (f := g) rfl hlen hstack hdg
  have X₁ := X.noted hW₁
  rcases hK g.method meth c ⟨T.setVm vm₁, locs, cells, slots⟩ { g with stack := rest } (.invokespecial index) mk (Value.ref a :: argsL).toArray X₁ rfl hsize hdg hW (X₁.named hnamed) (hpre vm₁ X₁.warmed) with ⟨v, B, X', hpost, hsteps⟩ | ⟨q, B, X', hpost, hsteps⟩
  · exact Or.inl ⟨v, vm₁, B, X₁.warmed, X', hpost, fun target h => hstep₁ _ fun acts => by rw [doInvoke_state]; exact hsteps.trans h⟩
  · exact Or.inr ⟨q, vm₁, B, X₁.warmed, X', hpost, hstep₁ _ fun acts => by rw [doInvoke_state]; exact hsteps⟩
end VXIC
section VXID
variable {p : Program} {l : Launch} {e : Env} {R : Room} {s : State} {m : MethodId} {args : Array Value} {below : List Frame} {meth : Method} {c : Code} {H : Heap} {locs : List Loc} {cells slots : Nat}
theorem vx_runIN {y : MethodName} {bytes cc : ByteArray} {maxL nL mc ms n index : Nat} {ws : List Cond} {rm : Room} {Pc : Array Value → State → Prop} {Qc : Array Value → State → Outcome → State → Prop} {XC : String → State → State → Prop} {free : Addr → Prop} {Ts : List Cond} {own host : String} {b : Addr} {As rest : List Value} {g : JFrame}
    (S : CallFix p m c cc nL s args Ts own) (hM : vx_Met l y ws rm Pc Qc XC mc ms free) (cw : va_CN R s args own index y host bytes maxL none ws rm mc ms n ∧ y.name = "<init>" ∧ (Cond.instanceMethod y).before args s = true) (hp : PreS s H Pc (.ref b :: As))
    (hg : g.method = m) (hn : As.length = n) (hsize : g.locals.size = nL) (hstack : g.stack = As.reverse ++ .ref b :: rest) (hW : 2 * g.monitorRoom + (rest.map fun v => v.category).sum ≤ 8) (hdg : decode cc g.pc = .ok (.invokespecial index, 3)) (hf : cells + mc ≤ R.cells ∧ slots + ms ≤ R.slots) :
    vx_Run p l e R s m args below meth c H locs cells slots mc ms g rest (Qc (Value.ref b :: As).toArray) XC free := by
  obtain ⟨⟨⟨hrc, hrs, hfr, hlo, hws, hcw⟩, hcode, hini, hy, hlen, hl⟩, hx1, hx2⟩ := cw
  have hK : vx_Back l R p e below s args y 3 8 (PreOf R mc ms Pc) (PostOf Qc mc ms free) (vx_Post XC mc ms free) := vx_back (bytes := bytes) (maxL := maxL) (ret := none) hM hp.1 hrc hrs hfr hlo hws hcw (fun a' U hW => word_at hW (Or.inl (by first | rfl | simp [Cond.onTables, Cond.keeps, Cond.steady])) hini)
  obtain ⟨hx, hb, hml, ho, -⟩ := S
  have hPc := hp.2
  intro T hT X
  rcases vx_callIN X hx (bytes := bytes) (maxL := maxL) ho hx1 hl hx2 hcode hy hK hg (hsize.trans hml.symm) (a := b) (argsL := As) (rest := rest) (fun sig h => hn.trans (hlen sig h)) hstack hW (by rw [hb]; exact hdg)
    (fun vm₁ hW₁ => ⟨hf.1, hf.2, hPc (T.setVm vm₁) hT hW₁⟩) with ⟨v, vm₁, ⟨U', l2, c2, s2⟩, hW₁, X', ⟨g', mk, t, L, e1, e2, hq, h1, hL, h2, h3⟩, st⟩ | ⟨q, vm₁, ⟨U', l2, c2, s2⟩, hW₁, X', ⟨g', mk, t, L, E, ce, e1, e2, hq, hce, hcv, hcl, h1, hL, h2, h3⟩, st⟩
  · dsimp only [Pt.U, Pt.locs, Pt.cells, Pt.slots] at X' e1 e2 h1 h2 h3 st
    subst h1; subst h2; subst h3
    exact Or.inl ⟨v, (T.setVm vm₁).calling g' mk (Value.ref b :: As).toArray, t, U', L, hT, X', hL, e1, e2, hq, st⟩
  · dsimp only [Pt.U, Pt.locs, Pt.cells, Pt.slots] at X' e1 e2 h1 h2 h3 st hcl
    subst h1; subst h2; subst h3
    exact Or.inr ⟨q, (T.setVm vm₁).calling g' mk (Value.ref b :: As).toArray, t, U', L, E, ce, hT, X', hL, e1, e2, hq, hce, hcv, vx_cls hW₁ hcl, st⟩
end VXID
/-! ===== END ===== -/
/-! ===== BEGIN a method of a class above, found by the receiver, that may throw (follows va_callVU, va_runU of this kit) ===== -/
section
variable {p : Program} {l : Launch} {e : Env} {R : Room} {s : State} {m : MethodId} {args : Array Value} {below : List Frame} {meth : Method} {c : Code} {H : Heap} {locs : List Loc} {cells slots : Nat}
theorem vx_callVU {T : State} {locs : List Loc} {cells slots : Nat} (X : Stand p l e R s m args below meth c T locs cells slots) (hexec : p.tables.exec = Jvm.exec) {own C owner : String} {index : Nat} {x y : MethodName} {bytes : ByteArray} {maxL : Nat} {ret : Option FieldType}
    (hown : s.vm.findClass own = some m.cls) (hlink : (Cond.methodLink own index x).before args s = true) (hsame : (Cond.sameMethod x.cls owner x.name x.desc).before args s = true)
    (hd0 : va_Decl s ⟨owner, x.name, x.desc⟩) (howner : owner ≠ "java/lang/invoke/MethodHandle" ∧ owner ≠ "java/lang/invoke/VarHandle")
    (hsel : (Cond.selects C x y).before args s = true) (hinst : (Cond.instanceMethod y).before args s = true) (hcode : (Cond.code y bytes maxL ret).before args s = true)
    {W : Nat} {Pre : Pt → Array Value → Prop} {Post : Pt → Array Value → Option Value → Pt → Prop} {PostX : Pt → Array Value → Addr → Pt → Prop} (hK : vx_Back l R p e below s args y 3 W Pre Post PostX)
    {b : Addr} {cellB : Cell} (hcell : T.heap[b]? = some cellB) (hobj : cellB.vm.isStatics = false) (hcls : s.vm.findClass C = some cellB.cls)
    {g : JFrame} (hg : g.method = m) (hsize : g.locals.size = c.maxLocals) {argsL rest : List Value} (hlen : ∀ sig, parseMethodDescriptor x.desc = some sig → argsL.length = sig.parameters.length)
    (hstack : g.stack = argsL.reverse ++ .ref b :: rest) (hW : 2 * g.monitorRoom + (rest.map fun v => v.category).sum ≤ W) (hdg : decode c.code g.pc = .ok (.invokevirtual index, 3))
    (hpre : ∀ vm₁, s.WarmedH vm₁ → Pre ⟨T.setVm vm₁, locs, cells, slots⟩ (Value.ref b :: argsL).toArray) :
    (∃ (v : Option Value) (vm₁ : Vm) (B : Pt), s.WarmedH vm₁ ∧ Stand p l e R s m args below meth c B.U B.locs B.cells B.slots ∧ Post ⟨T.setVm vm₁, locs, cells, slots⟩ (Value.ref b :: argsL).toArray v B ∧
      ∀ target, Steps p.tables e below (B.U.setTop { g with pc := g.pc + 3, stack := v.toList ++ rest }) target → Steps p.tables e below (T.setTop g) target) ∨
    (∃ (q : Addr) (vm₁ : Vm) (B : Pt), s.WarmedH vm₁ ∧ Stand p l e R s m args below meth c B.U B.locs B.cells B.slots ∧ PostX ⟨T.setVm vm₁, locs, cells, slots⟩ (Value.ref b :: argsL).toArray q B ∧
      Steps p.tables e below (T.setTop g) ((B.U.setTop { g with stack := rest }).pushFrame (.throwing q))) := by
  obtain ⟨r0, r, hn, hrm, hstR, hsigR⟩ := hd0
  obtain ⟨cn, ck, r1, hcn, hck, hni, hf, hn1⟩ := Cond.sameMethod_found hsame
  cases hn.symm.trans hn1
  obtain ⟨mk, methM, hnamed, hmethM, -, habM⟩ := Cond.instanceMethod_spec hinst
  obtain ⟨c2, r2, m2, q1, q2, q3, q4, kP, hkP, hkPi⟩ := Cond.selects_spec hsel
  cases hcls.symm.trans q1
  cases hf.symm.trans q2
  cases hnamed.symm.trans q3
  have hselP : selectMethod e.platform s.vm cellB.cls r0 = .method mk := by rw [Launch.admits_selectMethod X.admits]; exact q4
  obtain ⟨vm₁, X₁, hstep₁⟩ := X.invokevirtualUp hexec hown hlink hsame howner hn hrm hstR (a := b) (cell := cellB) hcell
    (fun z h => by rw [h] at hobj; cases hobj) hselP hmethM habM hkP hkPi (g := g) hg (argsL := argsL) (rest := rest) (hlen _ hsigR) hstack hdg
  rcases hK m meth c ⟨T.setVm vm₁, locs, cells, slots⟩ { g with stack := rest } (.invokevirtual index) mk (Value.ref b :: argsL).toArray X₁ hg hsize hdg hW (X₁.named hnamed) (hpre vm₁ X₁.warmed) with ⟨v, B, X', hpost, hsteps⟩ | ⟨q, B, X', hpost, hsteps⟩
  · exact Or.inl ⟨v, vm₁, B, X₁.warmed, X', hpost, fun target h => hstep₁ _ fun acts => by rw [doInvoke_state]; exact hsteps.trans h⟩
  · exact Or.inr ⟨q, vm₁, B, X₁.warmed, X', hpost, hstep₁ _ fun acts => by rw [doInvoke_state]; exact hsteps⟩
theorem vx_runU {x y : MethodName} {bytes cc : ByteArray} {maxL nL mc ms n index : Nat} {ret : Option FieldType} {ws : List Cond} {rm : Room} {Pc : Array Value → State → Prop} {Qc : Array Value → State → Outcome → State → Prop} {XC : String → State → State → Prop} {free : Addr → Prop} {Ts : List Cond} {own C owner : String} {b : Addr} {As rest : List Value} {g : JFrame}
    (S : CallFix p m c cc nL s args Ts own) (hM : vx_Met l y ws rm Pc Qc XC mc ms free) (cw : va_CU R s args own C owner index x y bytes maxL ret ws rm mc ms n) (hp : PreV s H C b Pc As)
    (hg : g.method = m) (hn : As.length = n) (hsize : g.locals.size = nL) (hstack : g.stack = As.reverse ++ .ref b :: rest) (hW : 2 * g.monitorRoom + (rest.map fun v => v.category).sum ≤ 8) (hdg : decode cc g.pc = .ok (.invokevirtual index, 3)) (hf : cells + mc ≤ R.cells ∧ slots + ms ≤ R.slots) :
    vx_Run p l e R s m args below meth c H locs cells slots mc ms g rest (Qc (Value.ref b :: As).toArray) XC free := by
  obtain ⟨hrc, hrs, hfr, hlo, hws, hcw⟩ := cw.back
  have hini := cw.init
  have hK : vx_Back l R p e below s args y 3 8 (PreOf R mc ms Pc) (PostOf Qc mc ms free) (vx_Post XC mc ms free) := vx_back (bytes := bytes) (maxL := maxL) (ret := ret) hM hp.1 hrc hrs hfr hlo hws hcw (fun a' U hW => word_at hW (Or.inl (by first | rfl | simp [Cond.onTables, Cond.keeps, Cond.steady])) hini)
  obtain ⟨hx, hb, hml, ho, -⟩ := S
  obtain ⟨-, ⟨cellB, hcB, hoB, hclB⟩, hPc⟩ := hp
  intro T hT X
  rcases vx_callVU X hx (C := C) (owner := owner) (bytes := bytes) (maxL := maxL) (ret := ret) ho cw.link cw.same cw.decl cw.notMH cw.sel cw.inst cw.code hK (by rw [hT]; exact hcB) hoB hclB hg (hsize.trans hml.symm) (argsL := As) (rest := rest) (fun sig h => hn.trans (cw.len sig h)) hstack hW (by rw [hb]; exact hdg)
    (fun vm₁ hW₁ => ⟨hf.1, hf.2, hPc (T.setVm vm₁) hT hW₁⟩) with ⟨v, vm₁, ⟨U', l2, c2, s2⟩, hW₁, X', ⟨g', mk, t, L, e1, e2, hq, h1, hL, h2, h3⟩, st⟩ | ⟨q, vm₁, ⟨U', l2, c2, s2⟩, hW₁, X', ⟨g', mk, t, L, E, ce, e1, e2, hq, hce, hcv, hcl, h1, hL, h2, h3⟩, st⟩
  · dsimp only [Pt.U, Pt.locs, Pt.cells, Pt.slots] at X' e1 e2 h1 h2 h3 st
    subst h1; subst h2; subst h3
    exact Or.inl ⟨v, (T.setVm vm₁).calling g' mk (Value.ref b :: As).toArray, t, U', L, hT, X', hL, e1, e2, hq, st⟩
  · dsimp only [Pt.U, Pt.locs, Pt.cells, Pt.slots] at X' e1 e2 h1 h2 h3 st hcl
    subst h1; subst h2; subst h3
    exact Or.inr ⟨q, (T.setVm vm₁).calling g' mk (Value.ref b :: As).toArray, t, U', L, E, ce, hT, X', hL, e1, e2, hq, hce, hcv, vx_cls hW₁ hcl, st⟩
end
/-! ===== END ===== -/
/-! ===== BEGIN super.m(..) that may throw (follows va_callSU, va_runSU) ===== -/
section
variable {p : Program} {l : Launch} {e : Env} {R : Room} {s : State} {m : MethodId} {args : Array Value} {below : List Frame} {meth : Method} {c : Code} {H : Heap} {locs : List Loc} {cells slots : Nat}
theorem vx_callSU {T : State} {locs : List Loc} {cells slots : Nat} (X : Stand p l e R s m args below meth c T locs cells slots) (hexec : p.tables.exec = Jvm.exec) {own : String} {index : Nat} {y : MethodName} {bytes : ByteArray} {maxL : Nat} {ret : Option FieldType}
    (hown : s.vm.findClass own = some m.cls) (hlink : (Cond.methodLink own index y).before args s = true) (hsame : (Cond.sameMethod y.cls y.cls y.name y.desc).before args s = true) (hsup : (Cond.superclass own y.cls).before args s = true)
    (hinst : (Cond.instanceMethod y).before args s = true) (hcode : (Cond.code y bytes maxL ret).before args s = true) (hno : y.name ≠ "<init>")
    {W : Nat} {Pre : Pt → Array Value → Prop} {Post : Pt → Array Value → Option Value → Pt → Prop} {PostX : Pt → Array Value → Addr → Pt → Prop} (hK : vx_Back l R p e below s args y 3 W Pre Post PostX)
    {b : Addr} {cellB : Cell} {kB : Class} (hcell : T.heap[b]? = some cellB) (hobj : cellB.vm.isStatics = false) (hkB : s.vm.classes[cellB.cls]? = some kB)
    {g : JFrame} (hg : g.method = m) (hsize : g.locals.size = c.maxLocals) {argsL rest : List Value} (hlen : ∀ sig, parseMethodDescriptor y.desc = some sig → argsL.length = sig.parameters.length)
    (hstack : g.stack = argsL.reverse ++ .ref b :: rest) (hW : 2 * g.monitorRoom + (rest.map fun v => v.category).sum ≤ W) (hdg : decode c.code g.pc = .ok (.invokespecial index, 3))
    (hpre : ∀ vm₁, s.WarmedH vm₁ → Pre ⟨T.setVm vm₁, locs, cells, slots⟩ (Value.ref b :: argsL).toArray) :
    (∃ (v : Option Value) (vm₁ : Vm) (B : Pt), s.WarmedH vm₁ ∧ Stand p l e R s m args below meth c B.U B.locs B.cells B.slots ∧ Post ⟨T.setVm vm₁, locs, cells, slots⟩ (Value.ref b :: argsL).toArray v B ∧
      ∀ target, Steps p.tables e below (B.U.setTop { g with pc := g.pc + 3, stack := v.toList ++ rest }) target → Steps p.tables e below (T.setTop g) target) ∨
    (∃ (q : Addr) (vm₁ : Vm) (B : Pt), s.WarmedH vm₁ ∧ Stand p l e R s m args below meth c B.U B.locs B.cells B.slots ∧ PostX ⟨T.setVm vm₁, locs, cells, slots⟩ (Value.ref b :: argsL).toArray q B ∧
      Steps p.tables e below (T.setTop g) ((B.U.setTop { g with stack := rest }).pushFrame (.throwing q))) := by
  obtain ⟨mk, methM, hnamed, hmethM, hstM, habM⟩ := Cond.instanceMethod_spec hinst
  obtain ⟨methM', cM, hmethM', -, -, -, -, -, -, hsigM⟩ := Cond.code_spec hnamed hcode
  cases hmethM.symm.trans hmethM'
  obtain ⟨ps, dk, kp, hps, hdk, hkp, hsuper, -, -, hnid⟩ := Cond.superclass_spec hown hsup
  have hn : s.methodNamed? ⟨y.cls, y.name, y.desc⟩ = some mk := hnamed
  have hpm : ps = mk.cls := Option.some.inj (hps.symm.trans (findClass_of_methodNamed hnamed))
  have hsub : s.vm.isSubclass ps mk.cls = true := by rw [hpm]; simp [Vm.isSubclass, Vm.isSubclassAux]
  obtain ⟨vm₁, X₁, hstep₁⟩ := X.invokespecialUp hexec hown hlink hsame hn hmethM hstM habM hno hdk hnid hps hsuper hsub (a := b) (cell := cellB) hcell
    (fun z h => by rw [h] at hobj; cases hobj) hkB (g := g) hg (argsL := argsL) (rest := rest) (hlen _ hsigM) hstack hdg
  rcases hK m meth c ⟨T.setVm vm₁, locs, cells, slots⟩ { g with stack := rest } (.invokespecial index) mk (Value.ref b :: argsL).toArray X₁ hg hsize hdg hW (X₁.named hnamed) (hpre vm₁ X₁.warmed) with ⟨v, B, X', hpost, hsteps⟩ | ⟨q, B, X', hpost, hsteps⟩
  · exact Or.inl ⟨v, vm₁, B, X₁.warmed, X', hpost, fun target h => hstep₁ _ (by rw [doInvoke_state]; exact hsteps.trans h)⟩
  · exact Or.inr ⟨q, vm₁, B, X₁.warmed, X', hpost, hstep₁ _ (by rw [doInvoke_state]; exact hsteps)⟩
theorem vx_runSU {y : MethodName} {bytes cc : ByteArray} {maxL nL mc ms n index : Nat} {ret : Option FieldType} {ws : List Cond} {rm : Room} {Pc : Array Value → State → Prop} {Qc : Array Value → State → Outcome → State → Prop} {XC : String → State → State → Prop} {free : Addr → Prop} {Ts : List Cond} {own C : String} {cC : ClassId} {b : Addr} {As rest : List Value} {g : JFrame}
    (hat : ClassAt s C cC) (S : CallFix p m c cc nL s args Ts own) (hM : vx_Met l y ws rm Pc Qc XC mc ms free) (cw : va_CS R s args own index y bytes maxL ret ws rm mc ms n) (hp : PreV s H C b Pc As)
    (hg : g.method = m) (hn : As.length = n) (hsize : g.locals.size = nL) (hstack : g.stack = As.reverse ++ .ref b :: rest) (hW : 2 * g.monitorRoom + (rest.map fun v => v.category).sum ≤ 8) (hdg : decode cc g.pc = .ok (.invokespecial index, 3)) (hf : cells + mc ≤ R.cells ∧ slots + ms ≤ R.slots) :
    vx_Run p l e R s m args below meth c H locs cells slots mc ms g rest (Qc (Value.ref b :: As).toArray) XC free := by
  obtain ⟨⟨hrc, hrs, hfr, hlo, hws, hcw⟩, hl1, hl2, hl3, hl4, hini, hcode, hno, hlen⟩ := cw
  have hK : vx_Back l R p e below s args y 3 8 (PreOf R mc ms Pc) (PostOf Qc mc ms free) (vx_Post XC mc ms free) := vx_back (bytes := bytes) (maxL := maxL) (ret := ret) hM hp.1 hrc hrs hfr hlo hws hcw (fun a' U hW => word_at hW (Or.inl (by first | rfl | simp [Cond.onTables, Cond.keeps, Cond.steady])) hini)
  obtain ⟨hx, hb, hml, ho, -⟩ := S
  obtain ⟨-, ⟨cellB, hcB, hoB, hclB⟩, hPc⟩ := hp
  obtain ⟨hfc, kB, hkB, -⟩ := hat
  cases hfc.symm.trans hclB
  intro T hT X
  rcases vx_callSU X hx (bytes := bytes) (maxL := maxL) (ret := ret) ho hl1 hl2 hl3 hl4 hcode hno hK (by rw [hT]; exact hcB) hoB hkB hg (hsize.trans hml.symm) (argsL := As) (rest := rest) (fun sig h => hn.trans (hlen sig h)) hstack hW (by rw [hb]; exact hdg)
    (fun vm₁ hW₁ => ⟨hf.1, hf.2, hPc (T.setVm vm₁) hT hW₁⟩) with ⟨v, vm₁, ⟨U', l2, c2, s2⟩, hW₁, X', ⟨g', mk, t, L, e1, e2, hq, h1, hL, h2, h3⟩, st⟩ | ⟨q, vm₁, ⟨U', l2, c2, s2⟩, hW₁, X', ⟨g', mk, t, L, E, ce, e1, e2, hq, hce, hcv, hcl, h1, hL, h2, h3⟩, st⟩
  · dsimp only [Pt.U, Pt.locs, Pt.cells, Pt.slots] at X' e1 e2 h1 h2 h3 st
    subst h1; subst h2; subst h3
    exact Or.inl ⟨v, (T.setVm vm₁).calling g' mk (Value.ref b :: As).toArray, t, U', L, hT, X', hL, e1, e2, hq, st⟩
  · dsimp only [Pt.U, Pt.locs, Pt.cells, Pt.slots] at X' e1 e2 h1 h2 h3 st hcl
    subst h1; subst h2; subst h3
    exact Or.inr ⟨q, (T.setVm vm₁).calling g' mk (Value.ref b :: As).toArray, t, U', L, E, ce, hT, X', hL, e1, e2, hq, hce, hcv, vx_cls hW₁ hcl, st⟩
end
/-! ===== END ===== -/
/-! ===== BEGIN a private method of a nest mate that may throw (follows va_callVN, va_callSN, va_runVN, va_runSN) ===== -/
section
variable {p : Program} {l : Launch} {e : Env} {R : Room} {s : State} {m : MethodId} {args : Array Value} {below : List Frame} {meth : Method} {c : Code} {H : Heap} {locs : List Loc} {cells slots : Nat}
variable {T : State}
theorem vx_callVN (X : Stand p l e R s m args below meth c T locs cells slots) (hexec : p.tables.exec = Jvm.exec) {own C : String} {index : Nat} {host : String} {y : MethodName} {bytes : ByteArray} {maxL : Nat} {ret : Option FieldType}
    (hown : s.vm.findClass own = some m.cls) (hlink : (Cond.methodLinkNest own index y host).before args s = true) (hinst : (Cond.instanceMethod y).before args s = true) (hsel : (Cond.selects C y y).before args s = true)
    (hcode : (Cond.code y bytes maxL ret).before args s = true) (hy : y.cls ≠ "java/lang/invoke/MethodHandle" ∧ y.cls ≠ "java/lang/invoke/VarHandle")
    {W : Nat} {Pre : Pt → Array Value → Prop} {Post : Pt → Array Value → Option Value → Pt → Prop} {PostX : Pt → Array Value → Addr → Pt → Prop} (hK : vx_Back l R p e below s args y 3 W Pre Post PostX)
    {b : Addr} {cellB : Cell} (hcell : T.heap[b]? = some cellB) (hobj : cellB.vm.isStatics = false) (hcls : s.vm.findClass C = some cellB.cls)
    {g : JFrame} (hg : g.method = m) (hsize : g.locals.size = c.maxLocals) {argsL rest : List Value} (hlen : ∀ sig, parseMethodDescriptor y.desc = some sig → argsL.length = sig.parameters.length)
    (hstack : g.stack = argsL.reverse ++ .ref b :: rest) (hW : 2 * g.monitorRoom + (rest.map fun v => v.category).sum ≤ W) (hdg : decode c.code g.pc = .ok (.invokevirtual index, 3))
    (hpre : ∀ vm₁, s.WarmedH vm₁ → Pre ⟨T.setVm vm₁, locs, cells, slots⟩ (Value.ref b :: argsL).toArray) :
    (∃ (v : Option Value) (vm₁ : Vm) (B : Pt), s.WarmedH vm₁ ∧ Stand p l e R s m args below meth c B.U B.locs B.cells B.slots ∧ Post ⟨T.setVm vm₁, locs, cells, slots⟩ (Value.ref b :: argsL).toArray v B ∧
      ∀ target, Steps p.tables e below (B.U.setTop { g with pc := g.pc + 3, stack := v.toList ++ rest }) target → Steps p.tables e below (T.setTop g) target) ∨
    (∃ (q : Addr) (vm₁ : Vm) (B : Pt), s.WarmedH vm₁ ∧ Stand p l e R s m args below meth c B.U B.locs B.cells B.slots ∧ PostX ⟨T.setVm vm₁, locs, cells, slots⟩ (Value.ref b :: argsL).toArray q B ∧
      Steps p.tables e below (T.setTop g) ((B.U.setTop { g with stack := rest }).pushFrame (.throwing q))) := by
  obtain ⟨mk, methM, hnamed, hmethM, hstM, habM⟩ := Cond.instanceMethod_spec hinst
  obtain ⟨methM', cM, hmethM', -, -, -, -, -, -, hsigM⟩ := Cond.code_spec hnamed hcode
  cases hmethM.symm.trans hmethM'
  obtain ⟨c2, r2, m2, q1, q2, q3, q4, kP, hkP, hkPi⟩ := Cond.selects_spec hsel
  cases hcls.symm.trans q1
  cases (State.methodFound?_of_named hnamed hy).symm.trans q2
  cases hnamed.symm.trans q3
  have hselP : selectMethod e.platform s.vm cellB.cls mk = .method mk := by rw [Launch.admits_selectMethod X.admits]; exact q4
  obtain ⟨vm₁, X₁, hstep₁⟩ := X.invokevirtualNest hexec hown hlink hnamed hmethM hstM hkP hkPi hy (a := b) (cell := cellB) hcell
    (fun z h => by rw [h] at hobj; cases hobj) hselP hmethM habM hkP hkPi (g := g) hg (argsL := argsL) (rest := rest) (hlen _ hsigM) hstack hdg
  rcases hK m meth c ⟨T.setVm vm₁, locs, cells, slots⟩ { g with stack := rest } (.invokevirtual index) mk (Value.ref b :: argsL).toArray X₁ hg hsize hdg hW (X₁.named hnamed) (hpre vm₁ X₁.warmed) with ⟨v, B, X', hpost, hsteps⟩ | ⟨q, B, X', hpost, hsteps⟩
  · exact Or.inl ⟨v, vm₁, B, X₁.warmed, X', hpost, fun target h => hstep₁ _ fun acts => by rw [doInvoke_state]; exact hsteps.trans h⟩
  · exact Or.inr ⟨q, vm₁, B, X₁.warmed, X', hpost, hstep₁ _ fun acts => by rw [doInvoke_state]; exact hsteps⟩
theorem vx_callSN (X : Stand p l e R s m args below meth c T locs cells slots) (hexec : p.tables.exec = Jvm.exec) {own : String} {index : Nat} {host : String} {y : MethodName} {bytes : ByteArray} {maxL : Nat} {ret : Option FieldType}
    (hown : s.vm.findClass own = some m.cls) (hlink : (Cond.methodLinkNest own index y host).before args s = true) (hstat : (Cond.static y).before args s = true) (hinit : (Cond.initialized y.cls).before args s = true)
    (hcode : (Cond.code y bytes maxL ret).before args s = true) (hy : y.cls ≠ "java/lang/invoke/MethodHandle" ∧ y.cls ≠ "java/lang/invoke/VarHandle")
    {W : Nat} {Pre : Pt → Array Value → Prop} {Post : Pt → Array Value → Option Value → Pt → Prop} {PostX : Pt → Array Value → Addr → Pt → Prop} (hK : vx_Back l R p e below s args y 3 W Pre Post PostX)
    {g : JFrame} (hg : g.method = m) (hsize : g.locals.size = c.maxLocals) {argsL rest : List Value} (hlen : ∀ sig, parseMethodDescriptor y.desc = some sig → argsL.length = sig.parameters.length)
    (hstack : g.stack = argsL.reverse ++ rest) (hW : 2 * g.monitorRoom + (rest.map fun v => v.category).sum ≤ W) (hdg : decode c.code g.pc = .ok (.invokestatic index, 3))
    (hpre : ∀ vm₁, s.WarmedH vm₁ → Pre ⟨T.setVm vm₁, locs, cells, slots⟩ argsL.toArray) :
    (∃ (v : Option Value) (vm₁ : Vm) (B : Pt), s.WarmedH vm₁ ∧ Stand p l e R s m args below meth c B.U B.locs B.cells B.slots ∧ Post ⟨T.setVm vm₁, locs, cells, slots⟩ argsL.toArray v B ∧
      ∀ target, Steps p.tables e below (B.U.setTop { g with pc := g.pc + 3, stack := v.toList ++ rest }) target → Steps p.tables e below (T.setTop g) target) ∨
    (∃ (q : Addr) (vm₁ : Vm) (B : Pt), s.WarmedH vm₁ ∧ Stand p l e R s m args below meth c B.U B.locs B.cells B.slots ∧ PostX ⟨T.setVm vm₁, locs, cells, slots⟩ argsL.toArray q B ∧
      Steps p.tables e below (T.setTop g) ((B.U.setTop { g with stack := rest }).pushFrame (.throwing q))) := by
  obtain ⟨mk, hnamed⟩ := Cond.code_named hcode
  obtain ⟨methM, cM, hmethM, -, -, -, -, -, -, hsigM⟩ := Cond.code_spec hnamed hcode
  have hstatic : methM.isStatic = true := Cond.static_spec hnamed hmethM hstat
  obtain ⟨kP, hkP, -⟩ := className_of_methodNamed hnamed
  have hinitP : kP.init = .initialized := Cond.initialized_spec (findClass_of_methodNamed hnamed) hkP hinit
  obtain ⟨vm₁, X₁, hstep₁⟩ := X.invokestaticNest hexec hown hlink hnamed hmethM hstatic hkP hinitP hy (g := g) hg (argsL := argsL) (rest := rest) (hlen _ hsigM) hstack hdg
  rcases hK m meth c ⟨T.setVm vm₁, locs, cells, slots⟩ { g with stack := rest } (.invokestatic index) mk argsL.toArray X₁ hg hsize hdg hW (X₁.named hnamed) (hpre vm₁ X₁.warmed) with ⟨v, B, X', hpost, hsteps⟩ | ⟨q, B, X', hpost, hsteps⟩
  · exact Or.inl ⟨v, vm₁, B, X₁.warmed, X', hpost, fun target h => hstep₁ _ fun acts => by rw [doInvoke_state]; exact hsteps.trans h⟩
  · exact Or.inr ⟨q, vm₁, B, X₁.warmed, X', hpost, hstep₁ _ fun acts => by rw [doInvoke_state]; exact hsteps⟩
theorem vx_runVN {y : MethodName} {bytes cc : ByteArray} {maxL nL mc ms n index : Nat} {ret : Option FieldType} {ws : List Cond} {rm : Room} {Pc : Array Value → State → Prop} {Qc : Array Value → State → Outcome → State → Prop} {XC : String → State → State → Prop} {free : Addr → Prop} {Ts : List Cond} {own C host : String} {b : Addr} {As rest : List Value} {g : JFrame}
    (S : CallFix p m c cc nL s args Ts own) (hM : vx_Met l y ws rm Pc Qc XC mc ms free) (cw : va_CN R s args own index y host bytes maxL ret ws rm mc ms n ∧ (Cond.instanceMethod y).before args s = true ∧ (Cond.selects C y y).before args s = true) (hp : PreV s H C b Pc As)
    (hg : g.method = m) (hn : As.length = n) (hsize : g.locals.size = nL) (hstack : g.stack = As.reverse ++ .ref b :: rest) (hW : 2 * g.monitorRoom + (rest.map fun v => v.category).sum ≤ 8) (hdg : decode cc g.pc = .ok (.invokevirtual index, 3)) (hf : cells + mc ≤ R.cells ∧ slots + ms ≤ R.slots) :
    vx_Run p l e R s m args below meth c H locs cells slots mc ms g rest (Qc (Value.ref b :: As).toArray) XC free := by
  obtain ⟨⟨⟨hrc, hrs, hfr, hlo, hws, hcw⟩, hcode, hini, hy, hlen, hl⟩, hx1, hx2⟩ := cw
  have hK : vx_Back l R p e below s args y 3 8 (PreOf R mc ms Pc) (PostOf Qc mc ms free) (vx_Post XC mc ms free) := vx_back (bytes := bytes) (maxL := maxL) (ret := ret) hM hp.1 hrc hrs hfr hlo hws hcw (fun a' U hW => word_at hW (Or.inl (by first | rfl | simp [Cond.onTables, Cond.keeps, Cond.steady])) hini)
  obtain ⟨hx, hb, hml, ho, -⟩ := S
  obtain ⟨-, ⟨cellB, hcB, hoB, hclB⟩, hPc⟩ := hp
  intro T hT X
  rcases vx_callVN X hx (C := C) (bytes := bytes) (maxL := maxL) (ret := ret) ho hl hx1 hx2 hcode hy hK (by rw [hT]; exact hcB) hoB hclB hg (hsize.trans hml.symm) (argsL := As) (rest := rest) (fun sig h => hn.trans (hlen sig h)) hstack hW (by rw [hb]; exact hdg)
    (fun vm₁ hW₁ => ⟨hf.1, hf.2, hPc (T.setVm vm₁) hT hW₁⟩) with ⟨v, vm₁, ⟨U', l2, c2, s2⟩, hW₁, X', ⟨g', mk, t, L, e1, e2, hq, h1, hL, h2, h3⟩, st⟩ | ⟨q, vm₁, ⟨U', l2, c2, s2⟩, hW₁, X', ⟨g', mk, t, L, E, ce, e1, e2, hq, hce, hcv, hcl, h1, hL, h2, h3⟩, st⟩
  · dsimp only [Pt.U, Pt.locs, Pt.cells, Pt.slots] at X' e1 e2 h1 h2 h3 st
    subst h1; subst h2; subst h3
    exact Or.inl ⟨v, (T.setVm vm₁).calling g' mk (Value.ref b :: As).toArray, t, U', L, hT, X', hL, e1, e2, hq, st⟩
  · dsimp only [Pt.U, Pt.locs, Pt.cells, Pt.slots] at X' e1 e2 h1 h2 h3 st hcl
    subst h1; subst h2; subst h3
    exact Or.inr ⟨q, (T.setVm vm₁).calling g' mk (Value.ref b :: As).toArray, t, U', L, E, ce, hT, X', hL, e1, e2, hq, hce, hcv, vx_cls hW₁ hcl, st⟩
theorem vx_runSN {y : MethodName} {bytes cc : ByteArray} {maxL nL mc ms n index : Nat} {ret : Option FieldType} {ws : List Cond} {rm : Room} {Pc : Array Value → State → Prop} {Qc : Array Value → State → Outcome → State → Prop} {XC : String → State → State → Prop} {free : Addr → Prop} {Ts : List Cond} {own host : String} {As rest : List Value} {g : JFrame}
    (S : CallFix p m c cc nL s args Ts own) (hM : vx_Met l y ws rm Pc Qc XC mc ms free) (cw : va_CN R s args own index y host bytes maxL ret ws rm mc ms n ∧ (Cond.static y).before args s = true ∧ True) (hp : PreS s H Pc As)
    (hg : g.method = m) (hn : As.length = n) (hsize : g.locals.size = nL) (hstack : g.stack = As.reverse ++ rest) (hW : 2 * g.monitorRoom + (rest.map fun v => v.category).sum ≤ 8) (hdg : decode cc g.pc = .ok (.invokestatic index, 3)) (hf : cells + mc ≤ R.cells ∧ slots + ms ≤ R.slots) :
    vx_Run p l e R s m args below meth c H locs cells slots mc ms g rest (Qc As.toArray) XC free := by
  obtain ⟨⟨⟨hrc, hrs, hfr, hlo, hws, hcw⟩, hcode, hini, hy, hlen, hl⟩, hx1, hx2⟩ := cw
  have hK : vx_Back l R p e below s args y 3 8 (PreOf R mc ms Pc) (PostOf Qc mc ms free) (vx_Post XC mc ms free) := vx_back (bytes := bytes) (maxL := maxL) (ret := ret) hM hp.1 hrc hrs hfr hlo hws hcw (fun a' U hW => word_at hW (Or.inl (by first | rfl | simp [Cond.onTables, Cond.keeps, Cond.steady])) hini)
  obtain ⟨hx, hb, hml, ho, -⟩ := S
  have hPc := hp.2
  intro T hT X
  rcases vx_callSN X hx (bytes := bytes) (maxL := maxL) (ret := ret) ho hl hx1 hini hcode hy hK hg (hsize.trans hml.symm) (argsL := As) (rest := rest) (fun sig h => hn.trans (hlen sig h)) hstack hW (by rw [hb]; exact hdg)
    (fun vm₁ hW₁ => ⟨hf.1, hf.2, hPc (T.setVm vm₁) hT hW₁⟩) with ⟨v, vm₁, ⟨U', l2, c2, s2⟩, hW₁, X', ⟨g', mk, t, L, e1, e2, hq, h1, hL, h2, h3⟩, st⟩ | ⟨q, vm₁, ⟨U', l2, c2, s2⟩, hW₁, X', ⟨g', mk, t, L, E, ce, e1, e2, hq, hce, hcv, hcl, h1, hL, h2, h3⟩, st⟩
  · dsimp only [Pt.U, Pt.locs, Pt.cells, Pt.slots] at X' e1 e2 h1 h2 h3 st
    subst h1; subst h2; subst h3
    exact Or.inl ⟨v, (T.setVm vm₁).calling g' mk As.toArray, t, U', L, hT, X', hL, e1, e2, hq, st⟩
  · dsimp only [Pt.U, Pt.locs, Pt.cells, Pt.slots] at X' e1 e2 h1 h2 h3 st hcl
    subst h1; subst h2; subst h3
    exact Or.inr ⟨q, (T.setVm vm₁).calling g' mk As.toArray, t, U', L, E, ce, hT, X', hL, e1, e2, hq, hce, hcv, vx_cls hW₁ hcl, st⟩
end
/-! ===== END ===== -/
/-! ===== BEGIN calls by an interface of methods that may throw (vx_callIF, vx_runF follow va_callIF, va_runF of this kit) ===== -/
section
variable {p : Program} {l : Launch} {e : Env} {R : Room} {s : State} {m : MethodId} {args : Array Value} {below : List Frame} {meth : Method} {c : Code} {H : Heap} {locs : List Loc} {cells slots : Nat} {Q : State → Prop}
variable {mc ms : Nat} {free : Addr → Prop} {A0 A1 : Nat → Prop} {H0 : Heap} {a : Array Value} {pc : Nat} {ls : Array Slot} {st0 rest : List Value}
def vx_Run5 (p : Program) (l : Launch) (e : Env) (R : Room) (s : State) (m : MethodId) (args : Array Value) (below : List Frame) (meth : Method) (c : Code) (H : Heap) (locs : List Loc) (cells slots mc ms : Nat) (g : JFrame) (rest : List Value) (Qa : State → Outcome → State → Prop) (XC : String → State → State → Prop) (free : Addr → Prop) : Prop :=
  ∀ T : State, T.heap = H → Stand p l e R s m args below meth c T locs cells slots →
    (∃ (v : Option Value) (st₀ t T' : State) (L : List Loc), st₀.heap = H ∧ Stand p l e R s m args below meth c T' (locs ++ L) (cells + mc) (slots + ms) ∧ (∀ q ∈ L, free q.base) ∧ T'.heap = t.heap ∧ T'.vm = t.vm ∧ Qa st₀ (.returned v) t ∧
      Goes p e below T g T' { g with pc := g.pc + 5, stack := v.toList ++ rest }) ∨
    (∃ (q : Addr) (st₀ t T' : State) (L : List Loc) (E : String) (ce : Cell), st₀.heap = H ∧ Stand p l e R s m args below meth c T' (locs ++ L) (cells + mc) (slots + ms) ∧ (∀ z ∈ L, free z.base) ∧ T'.heap = t.heap ∧ T'.vm = t.vm ∧ XC E st₀ t ∧ t.heap[q]? = some ce ∧ ce.vm = .none ∧ s.vm.findClass E = some ce.cls ∧
      Steps p.tables e below (T.setTop g) ((T'.setTop { g with stack := rest }).pushFrame (.throwing q)))
theorem vx_callIF {T : State} (X : Stand p l e R s m args below meth c T locs cells slots) (hexec : p.tables.exec = Jvm.exec) {own C : String} {index count : Nat} {x y : MethodName} {bytes : ByteArray} {maxL : Nat} {ret : Option FieldType}
    (hown : s.vm.findClass own = some m.cls) (hlink : (Cond.methodLink own index x).before args s = true) (hdecl : (Cond.declares x).before args s = true) (hface : (Cond.interfaceMethod x.cls x.cls x.name x.desc).before args s = true)
    (hsel : (Cond.selects C x y).before args s = true) (hinst : (Cond.instanceMethod y).before args s = true) (hpub : (Cond.publicMethod y).before args s = true) (hunh : (Cond.unhidden C x.name x.desc).before args s = true)
    (hcast : (Cond.castable C x.cls).before args s = true) (hcode : (Cond.code y bytes maxL ret).before args s = true) (hx : x.cls ≠ "java/lang/invoke/MethodHandle" ∧ x.cls ≠ "java/lang/invoke/VarHandle")
    {W9 : Nat} {Pre : Pt → Array Value → Prop} {Post : Pt → Array Value → Option Value → Pt → Prop} {PostX : Pt → Array Value → Addr → Pt → Prop} (hK : vx_Back l R p e below s args y 5 W9 Pre Post PostX)
    {b : Addr} {cellB : Cell} {kB : Class} (hcell : T.heap[b]? = some cellB) (hobj : cellB.vm.isStatics = false) (hcls : s.vm.findClass C = some cellB.cls) (hkB : s.vm.classes[cellB.cls]? = some kB)
    {g : JFrame} (hg : g.method = m) (hsize : g.locals.size = c.maxLocals) {argsL rest : List Value} (hlen : ∀ sig, parseMethodDescriptor x.desc = some sig → argsL.length = sig.parameters.length)
    (hstack : g.stack = argsL.reverse ++ .ref b :: rest) (hW : 2 * g.monitorRoom + (rest.map fun v => v.category).sum ≤ W9) (hdg : decode c.code g.pc = .ok (.invokeinterface index count, 5))
    (hpre : ∀ vm₁, s.WarmedH vm₁ → Pre ⟨T.setVm vm₁, locs, cells, slots⟩ (Value.ref b :: argsL).toArray) :
    (∃ (v : Option Value) (vm₁ : Vm) (B : Pt), s.WarmedH vm₁ ∧ Stand p l e R s m args below meth c B.U B.locs B.cells B.slots ∧ Post ⟨T.setVm vm₁, locs, cells, slots⟩ (Value.ref b :: argsL).toArray v B ∧
      ∀ target, Steps p.tables e below (B.U.setTop { g with pc := g.pc + 5, stack := v.toList ++ rest }) target → Steps p.tables e below (T.setTop g) target) ∨
    (∃ (q : Addr) (vm₁ : Vm) (B : Pt), s.WarmedH vm₁ ∧ Stand p l e R s m args below meth c B.U B.locs B.cells B.slots ∧ PostX ⟨T.setVm vm₁, locs, cells, slots⟩ (Value.ref b :: argsL).toArray q B ∧
      Steps p.tables e below (T.setTop g) ((B.U.setTop { g with stack := rest }).pushFrame (.throwing q))) := by
  obtain ⟨r0, r, hn, hrm, hstR, hsigR⟩ := Cond.declares_spec hdecl
  obtain ⟨cL, kL, r1, hcL, hkL, hiL, hfoundL, hn1⟩ := Cond.interfaceMethod_spec hface
  cases hn.symm.trans hn1
  have hr0cls : r0.cls = cL := Option.some.inj ((findClass_of_methodNamed hn).symm.trans hcL)
  obtain ⟨hnameR, hdescR⟩ := name_of_methodNamed hn hrm
  obtain ⟨mk, methM, hnamed, hmethM, -, habM⟩ := Cond.instanceMethod_spec hinst
  obtain ⟨c2, r2, m2, q1, q2, q3, q4, -⟩ := Cond.selects_spec hsel
  cases hcls.symm.trans q1
  cases hfoundL.symm.trans q2
  cases hnamed.symm.trans q3
  have hselP : selectMethod e.platform s.vm cellB.cls r0 = .method mk := by rw [Launch.admits_selectMethod X.admits]; exact q4
  have hpubM : hasFlag methM.accessFlags Acc.public_ = true := Cond.publicMethod_spec hnamed hmethM hpub
  have hway : ((cellB.cls :: s.vm.superclasses cellB.cls).any fun k => (declaredIn s.vm r.name r.desc k).any fun (_, z) => z.isPrivate || z.isStatic) = false := by
    rw [hnameR, hdescR]; exact Cond.unhidden_spec hcls hunh
  obtain ⟨c3, t3, w1, w2, w3⟩ := Cond.castable_spec hcast
  cases hcls.symm.trans w1
  cases hcL.symm.trans w2
  obtain ⟨vm₁, X₁, hstep₁⟩ := X.invokeinterface hexec hown hlink hn hrm hstR (by rw [hr0cls]; exact hkL) hiL hx (a := b) (cell := cellB) (kcell := kB) hcell
    (fun z h => by rw [h] at hobj; cases hobj) hkB (by rw [hr0cls]; exact w3) hselP hmethM hway hpubM habM (g := g) hg (argsL := argsL) (rest := rest) (hlen _ hsigR) hstack hdg
  rcases hK m meth c ⟨T.setVm vm₁, locs, cells, slots⟩ { g with stack := rest } (.invokeinterface index count) mk (Value.ref b :: argsL).toArray X₁ hg hsize hdg hW (X₁.named hnamed) (hpre vm₁ X₁.warmed) with ⟨v, B, X', hpost, hsteps⟩ | ⟨q, B, X', hpost, hsteps⟩
  · exact Or.inl ⟨v, vm₁, B, X₁.warmed, X', hpost, fun target h => hstep₁ _ fun acts => by rw [doInvoke_state]; exact hsteps.trans h⟩
  · exact Or.inr ⟨q, vm₁, B, X₁.warmed, X', hpost, hstep₁ _ fun acts => by rw [doInvoke_state]; exact hsteps⟩
theorem vx_runF {x y : MethodName} {bytes cc : ByteArray} {maxL nL mc ms n index count : Nat} {ret : Option FieldType} {ws : List Cond} {rm : Room} {Pc : Array Value → State → Prop} {Qc : Array Value → State → Outcome → State → Prop} {XC : String → State → State → Prop} {free : Addr → Prop} {Ts : List Cond} {own C : String} {cC : ClassId} {b : Addr} {As rest : List Value} {g : JFrame}
    (hat : ClassAt s C cC) (S : CallFix p m c cc nL s args Ts own) (hM : vx_Met l y ws rm Pc Qc XC mc ms free) (cw : va_CI R s args own C index x y bytes maxL ret ws rm mc ms n) (hp : PreV s H C b Pc As)
    (hg : g.method = m) (hn : As.length = n) (hsize : g.locals.size = nL) (hstack : g.stack = As.reverse ++ .ref b :: rest) (hW : 2 * g.monitorRoom + (rest.map fun v => v.category).sum ≤ 8) (hdg : decode cc g.pc = .ok (.invokeinterface index count, 5)) (hf : cells + mc ≤ R.cells ∧ slots + ms ≤ R.slots) :
    vx_Run5 p l e R s m args below meth c H locs cells slots mc ms g rest (Qc (Value.ref b :: As).toArray) XC free := by
  obtain ⟨hrc, hrs, hfr, hlo, hws, hcw⟩ := cw.back
  have hini := cw.init
  have hK : vx_Back l R p e below s args y 5 8 (PreOf R mc ms Pc) (PostOf Qc mc ms free) (vx_Post XC mc ms free) := vx_back (bytes := bytes) (maxL := maxL) (ret := ret) hM hp.1 hrc hrs hfr hlo hws hcw (fun a' U hW => word_at hW (Or.inl (by first | rfl | simp [Cond.onTables, Cond.keeps, Cond.steady])) hini)
  obtain ⟨hx, hb, hml, ho, -⟩ := S
  obtain ⟨-, ⟨cellB, hcB, hoB, hclB⟩, hPc⟩ := hp
  obtain ⟨hfc, kB, hkB, -⟩ := hat
  cases hfc.symm.trans hclB
  intro T hT X
  rcases vx_callIF X hx (C := C) (bytes := bytes) (maxL := maxL) (ret := ret) ho cw.link cw.decl cw.face cw.sel cw.inst cw.pub cw.unh cw.cast cw.code cw.notMH hK (by rw [hT]; exact hcB) hoB hclB hkB hg (hsize.trans hml.symm) (argsL := As) (rest := rest) (fun sig h => hn.trans (cw.len sig h)) hstack hW (by rw [hb]; exact hdg)
    (fun vm₁ hW₁ => ⟨hf.1, hf.2, hPc (T.setVm vm₁) hT hW₁⟩) with ⟨v, vm₁, ⟨U', l2, c2, s2⟩, hW₁, X', ⟨g', mk, t, L, e1, e2, hq, h1, hL, h2, h3⟩, st⟩ | ⟨q, vm₁, ⟨U', l2, c2, s2⟩, hW₁, X', ⟨g', mk, t, L, E, ce, e1, e2, hq, hce, hcv, hcl, h1, hL, h2, h3⟩, st⟩
  · dsimp only [Pt.U, Pt.locs, Pt.cells, Pt.slots] at X' e1 e2 h1 h2 h3 st
    subst h1; subst h2; subst h3
    exact Or.inl ⟨v, (T.setVm vm₁).calling g' mk (Value.ref b :: As).toArray, t, U', L, hT, X', hL, e1, e2, hq, st⟩
  · dsimp only [Pt.U, Pt.locs, Pt.cells, Pt.slots] at X' e1 e2 h1 h2 h3 st hcl
    subst h1; subst h2; subst h3
    exact Or.inr ⟨q, (T.setVm vm₁).calling g' mk (Value.ref b :: As).toArray, t, U', L, E, ce, hT, X', hL, e1, e2, hq, hce, hcv, vx_cls hW₁ hcl, st⟩
theorem vx_callFv {S SX : Type} {post : S → Prop} {px : SX → Prop} {B : S → State → Prop} {BX : String → SX → State → Prop} {AX : Nat → Prop} (hr : vx_Run5 p l e R s m args below meth c H locs cells slots mc ms (F0 m pc ls st0) rest (va_Qv post B A1 a) (vx_X px BX AX) free) (hS : va_S A0 H0 H locs) (hA : ∀ q, q < H.size → A1 q → A0 q) (hf : ∀ q, free q → A0 q) (hAX : ∀ q, q < H.size → AX q → A0 q)
    (kx : ∀ (E : String) (ce : Cell) (q9 : Addr) (u : SX) (t : State) (H1 : Heap) (locs1 : List Loc), t.heap = H1 → s.vm.Alike t.vm → px u → BX E u t → H.size ≤ H1.size → (∀ q : Nat, q < H.size → ¬ AX q → H1[q]? = H[q]?) → va_S A0 H0 H1 locs1 → H1[q9]? = some ce → ce.vm = .none → s.vm.findClass E = some ce.cls → vx_W p l e R s m args below meth c H1 locs1 (cells + mc) (slots + ms) Q (F0 m pc ls rest) q9)
    (kk : ∀ (u : S) (t : State) (H1 : Heap) (locs1 : List Loc), t.heap = H1 → s.vm.Alike t.vm → post u → B u t → H.size ≤ H1.size → (∀ q : Nat, q < H.size → ¬ A1 q → H1[q]? = H[q]?) → va_S A0 H0 H1 locs1 → W p l e R s m args below meth c H1 locs1 (cells + mc) (slots + ms) Q (F0 m (pc + 5) ls (rest))) : W p l e R s m args below meth c H locs cells slots Q (F0 m pc ls st0) := by
  intro T hT X
  rcases hr T hT X with ⟨v, st₀, t, T', L, h0, X', hL, e1, e2, ⟨⟨u, hv, hp, hb⟩, hF⟩, st⟩ | ⟨q, st₀, t, T', L, E, ce, h0, X', hL, e1, e2, ⟨u, hp, hb, hF⟩, hce, hcv, hcl, st⟩
  · cases hv
    obtain ⟨k1, k2, k3⟩ := vx_keep h0 e1 hS hA hf hL hF
    obtain ⟨t2, a1, b1⟩ := kk u t T'.heap (locs ++ L) e1.symm (by rw [← e2]; exact X'.warmed.alike) hp hb k1 k2 k3 T' rfl X'
    exact ⟨t2, st t2 a1, b1⟩
  · obtain ⟨k1, k2, k3⟩ := vx_keep h0 e1 hS hAX hf hL hF
    obtain ⟨t2, a1, b1⟩ := kx E ce q u t T'.heap (locs ++ L) e1.symm (by rw [← e2]; exact X'.warmed.alike) hp hb k1 k2 k3 (by rw [e1]; exact hce) hcv hcl T' rfl X'
    exact ⟨t2, st.trans a1, b1⟩
theorem vx_callFi {S SX : Type} {post : Int32 → S → Prop} {px : SX → Prop} {B : S → State → Prop} {BX : String → SX → State → Prop} {AX : Nat → Prop} (hr : vx_Run5 p l e R s m args below meth c H locs cells slots mc ms (F0 m pc ls st0) rest (va_Qi post B A1 a) (vx_X px BX AX) free) (hS : va_S A0 H0 H locs) (hA : ∀ q, q < H.size → A1 q → A0 q) (hf : ∀ q, free q → A0 q) (hAX : ∀ q, q < H.size → AX q → A0 q)
    (kx : ∀ (E : String) (ce : Cell) (q9 : Addr) (u : SX) (t : State) (H1 : Heap) (locs1 : List Loc), t.heap = H1 → s.vm.Alike t.vm → px u → BX E u t → H.size ≤ H1.size → (∀ q : Nat, q < H.size → ¬ AX q → H1[q]? = H[q]?) → va_S A0 H0 H1 locs1 → H1[q9]? = some ce → ce.vm = .none → s.vm.findClass E = some ce.cls → vx_W p l e R s m args below meth c H1 locs1 (cells + mc) (slots + ms) Q (F0 m pc ls rest) q9)
    (kk : ∀ (r : Int32) (u : S) (t : State) (H1 : Heap) (locs1 : List Loc), t.heap = H1 → s.vm.Alike t.vm → post r u → B u t → H.size ≤ H1.size → (∀ q : Nat, q < H.size → ¬ A1 q → H1[q]? = H[q]?) → va_S A0 H0 H1 locs1 → W p l e R s m args below meth c H1 locs1 (cells + mc) (slots + ms) Q (F0 m (pc + 5) ls (.int r :: rest))) : W p l e R s m args below meth c H locs cells slots Q (F0 m pc ls st0) := by
  intro T hT X
  rcases hr T hT X with ⟨v, st₀, t, T', L, h0, X', hL, e1, e2, ⟨⟨r, u, hv, hp, hb⟩, hF⟩, st⟩ | ⟨q, st₀, t, T', L, E, ce, h0, X', hL, e1, e2, ⟨u, hp, hb, hF⟩, hce, hcv, hcl, st⟩
  · cases hv
    obtain ⟨k1, k2, k3⟩ := vx_keep h0 e1 hS hA hf hL hF
    obtain ⟨t2, a1, b1⟩ := kk r u t T'.heap (locs ++ L) e1.symm (by rw [← e2]; exact X'.warmed.alike) hp hb k1 k2 k3 T' rfl X'
    exact ⟨t2, st t2 a1, b1⟩
  · obtain ⟨k1, k2, k3⟩ := vx_keep h0 e1 hS hAX hf hL hF
    obtain ⟨t2, a1, b1⟩ := kx E ce q u t T'.heap (locs ++ L) e1.symm (by rw [← e2]; exact X'.warmed.alike) hp hb k1 k2 k3 (by rw [e1]; exact hce) hcv hcl T' rfl X'
    exact ⟨t2, st.trans a1, b1⟩
theorem vx_callFl {S SX : Type} {post : Int64 → S → Prop} {px : SX → Prop} {B : S → State → Prop} {BX : String → SX → State → Prop} {AX : Nat → Prop} (hr : vx_Run5 p l e R s m args below meth c H locs cells slots mc ms (F0 m pc ls st0) rest (va_Ql post B A1 a) (vx_X px BX AX) free) (hS : va_S A0 H0 H locs) (hA : ∀ q, q < H.size → A1 q → A0 q) (hf : ∀ q, free q → A0 q) (hAX : ∀ q, q < H.size → AX q → A0 q)
    (kx : ∀ (E : String) (ce : Cell) (q9 : Addr) (u : SX) (t : State) (H1 : Heap) (locs1 : List Loc), t.heap = H1 → s.vm.Alike t.vm → px u → BX E u t → H.size ≤ H1.size → (∀ q : Nat, q < H.size → ¬ AX q → H1[q]? = H[q]?) → va_S A0 H0 H1 locs1 → H1[q9]? = some ce → ce.vm = .none → s.vm.findClass E = some ce.cls → vx_W p l e R s m args below meth c H1 locs1 (cells + mc) (slots + ms) Q (F0 m pc ls rest) q9)
    (kk : ∀ (r : Int64) (u : S) (t : State) (H1 : Heap) (locs1 : List Loc), t.heap = H1 → s.vm.Alike t.vm → post r u → B u t → H.size ≤ H1.size → (∀ q : Nat, q < H.size → ¬ A1 q → H1[q]? = H[q]?) → va_S A0 H0 H1 locs1 → W p l e R s m args below meth c H1 locs1 (cells + mc) (slots + ms) Q (F0 m (pc + 5) ls (.long r :: rest))) : W p l e R s m args below meth c H locs cells slots Q (F0 m pc ls st0) := by
  intro T hT X
  rcases hr T hT X with ⟨v, st₀, t, T', L, h0, X', hL, e1, e2, ⟨⟨r, u, hv, hp, hb⟩, hF⟩, st⟩ | ⟨q, st₀, t, T', L, E, ce, h0, X', hL, e1, e2, ⟨u, hp, hb, hF⟩, hce, hcv, hcl, st⟩
  · cases hv
    obtain ⟨k1, k2, k3⟩ := vx_keep h0 e1 hS hA hf hL hF
    obtain ⟨t2, a1, b1⟩ := kk r u t T'.heap (locs ++ L) e1.symm (by rw [← e2]; exact X'.warmed.alike) hp hb k1 k2 k3 T' rfl X'
    exact ⟨t2, st t2 a1, b1⟩
  · obtain ⟨k1, k2, k3⟩ := vx_keep h0 e1 hS hAX hf hL hF
    obtain ⟨t2, a1, b1⟩ := kx E ce q u t T'.heap (locs ++ L) e1.symm (by rw [← e2]; exact X'.warmed.alike) hp hb k1 k2 k3 (by rw [e1]; exact hce) hcv hcl T' rfl X'
    exact ⟨t2, st.trans a1, b1⟩
theorem vx_callFf {S SX : Type} {post : UInt32 → S → Prop} {px : SX → Prop} {B : S → State → Prop} {BX : String → SX → State → Prop} {AX : Nat → Prop} (hr : vx_Run5 p l e R s m args below meth c H locs cells slots mc ms (F0 m pc ls st0) rest (va_Qf post B A1 a) (vx_X px BX AX) free) (hS : va_S A0 H0 H locs) (hA : ∀ q, q < H.size → A1 q → A0 q) (hf : ∀ q, free q → A0 q) (hAX : ∀ q, q < H.size → AX q → A0 q)
    (kx : ∀ (E : String) (ce : Cell) (q9 : Addr) (u : SX) (t : State) (H1 : Heap) (locs1 : List Loc), t.heap = H1 → s.vm.Alike t.vm → px u → BX E u t → H.size ≤ H1.size → (∀ q : Nat, q < H.size → ¬ AX q → H1[q]? = H[q]?) → va_S A0 H0 H1 locs1 → H1[q9]? = some ce → ce.vm = .none → s.vm.findClass E = some ce.cls → vx_W p l e R s m args below meth c H1 locs1 (cells + mc) (slots + ms) Q (F0 m pc ls rest) q9)
    (kk : ∀ (r : UInt32) (u : S) (t : State) (H1 : Heap) (locs1 : List Loc), t.heap = H1 → s.vm.Alike t.vm → post r u → B u t → H.size ≤ H1.size → (∀ q : Nat, q < H.size → ¬ A1 q → H1[q]? = H[q]?) → va_S A0 H0 H1 locs1 → W p l e R s m args below meth c H1 locs1 (cells + mc) (slots + ms) Q (F0 m (pc + 5) ls (.float r :: rest))) : W p l e R s m args below meth c H locs cells slots Q (F0 m pc ls st0) := by
  intro T hT X
  rcases hr T hT X with ⟨v, st₀, t, T', L, h0, X', hL, e1, e2, ⟨⟨r, u, hv, hp, hb⟩, hF⟩, st⟩ | ⟨q, st₀, t, T', L, E, ce, h0, X', hL, e1, e2, ⟨u, hp, hb, hF⟩, hce, hcv, hcl, st⟩
  · cases hv
    obtain ⟨k1, k2, k3⟩ := vx_keep h0 e1 hS hA hf hL hF
    obtain ⟨t2, a1, b1⟩ := kk r u t T'.heap (locs ++ L) e1.symm (by rw [← e2]; exact X'.warmed.alike) hp hb k1 k2 k3 T' rfl X'
    exact ⟨t2, st t2 a1, b1⟩
  · obtain ⟨k1, k2, k3⟩ := vx_keep h0 e1 hS hAX hf hL hF
    obtain ⟨t2, a1, b1⟩ := kx E ce q u t T'.heap (locs ++ L) e1.symm (by rw [← e2]; exact X'.warmed.alike) hp hb k1 k2 k3 (by rw [e1]; exact hce) hcv hcl T' rfl X'
    exact ⟨t2, st.trans a1, b1⟩
theorem vx_callFd {S SX : Type} {post : UInt64 → S → Prop} {px : SX → Prop} {B : S → State → Prop} {BX : String → SX → State → Prop} {AX : Nat → Prop} (hr : vx_Run5 p l e R s m args below meth c H locs cells slots mc ms (F0 m pc ls st0) rest (va_Qd post B A1 a) (vx_X px BX AX) free) (hS : va_S A0 H0 H locs) (hA : ∀ q, q < H.size → A1 q → A0 q) (hf : ∀ q, free q → A0 q) (hAX : ∀ q, q < H.size → AX q → A0 q)
    (kx : ∀ (E : String) (ce : Cell) (q9 : Addr) (u : SX) (t : State) (H1 : Heap) (locs1 : List Loc), t.heap = H1 → s.vm.Alike t.vm → px u → BX E u t → H.size ≤ H1.size → (∀ q : Nat, q < H.size → ¬ AX q → H1[q]? = H[q]?) → va_S A0 H0 H1 locs1 → H1[q9]? = some ce → ce.vm = .none → s.vm.findClass E = some ce.cls → vx_W p l e R s m args below meth c H1 locs1 (cells + mc) (slots + ms) Q (F0 m pc ls rest) q9)
    (kk : ∀ (r : UInt64) (u : S) (t : State) (H1 : Heap) (locs1 : List Loc), t.heap = H1 → s.vm.Alike t.vm → post r u → B u t → H.size ≤ H1.size → (∀ q : Nat, q < H.size → ¬ A1 q → H1[q]? = H[q]?) → va_S A0 H0 H1 locs1 → W p l e R s m args below meth c H1 locs1 (cells + mc) (slots + ms) Q (F0 m (pc + 5) ls (.double r :: rest))) : W p l e R s m args below meth c H locs cells slots Q (F0 m pc ls st0) := by
  intro T hT X
  rcases hr T hT X with ⟨v, st₀, t, T', L, h0, X', hL, e1, e2, ⟨⟨r, u, hv, hp, hb⟩, hF⟩, st⟩ | ⟨q, st₀, t, T', L, E, ce, h0, X', hL, e1, e2, ⟨u, hp, hb, hF⟩, hce, hcv, hcl, st⟩
  · cases hv
    obtain ⟨k1, k2, k3⟩ := vx_keep h0 e1 hS hA hf hL hF
    obtain ⟨t2, a1, b1⟩ := kk r u t T'.heap (locs ++ L) e1.symm (by rw [← e2]; exact X'.warmed.alike) hp hb k1 k2 k3 T' rfl X'
    exact ⟨t2, st t2 a1, b1⟩
  · obtain ⟨k1, k2, k3⟩ := vx_keep h0 e1 hS hAX hf hL hF
    obtain ⟨t2, a1, b1⟩ := kx E ce q u t T'.heap (locs ++ L) e1.symm (by rw [← e2]; exact X'.warmed.alike) hp hb k1 k2 k3 (by rw [e1]; exact hce) hcv hcl T' rfl X'
    exact ⟨t2, st.trans a1, b1⟩
end
/-! ===== END ===== -/
/-! ===== BEGIN by an interface, a method with a table of its own that may throw (follows va_callIFW, va_runFW) ===== -/
section
variable {p : Program} {l : Launch} {e : Env} {R : Room} {s : State} {m : MethodId} {args : Array Value} {below : List Frame} {meth : Method} {c : Code} {H : Heap} {locs : List Loc} {cells slots : Nat}
theorem vx_callIFW {T : State} (X : Stand p l e R s m args below meth c T locs cells slots) (hexec : p.tables.exec = Jvm.exec) {own C : String} {index count : Nat} {x y : MethodName} {bytes : ByteArray} {maxL : Nat} {ret : Option FieldType} {hh : List (Nat × Nat × Nat × Nat)}
    (hown : s.vm.findClass own = some m.cls) (hlink : (Cond.methodLink own index x).before args s = true) (hdecl : (Cond.declares x).before args s = true) (hface : (Cond.interfaceMethod x.cls x.cls x.name x.desc).before args s = true)
    (hsel : (Cond.selects C x y).before args s = true) (hinst : (Cond.instanceMethod y).before args s = true) (hpub : (Cond.publicMethod y).before args s = true) (hunh : (Cond.unhidden C x.name x.desc).before args s = true)
    (hcast : (Cond.castable C x.cls).before args s = true) (hcode : (Cond.codeWith y bytes maxL ret hh).before args s = true) (hx : x.cls ≠ "java/lang/invoke/MethodHandle" ∧ x.cls ≠ "java/lang/invoke/VarHandle")
    {W : Nat} {Pre : Pt → Array Value → Prop} {Post : Pt → Array Value → Option Value → Pt → Prop} {PostX : Pt → Array Value → Addr → Pt → Prop} (hK : vx_Back l R p e below s args y 5 W Pre Post PostX)
    {b : Addr} {cellB : Cell} {kB : Class} (hcell : T.heap[b]? = some cellB) (hobj : cellB.vm.isStatics = false) (hcls : s.vm.findClass C = some cellB.cls) (hkB : s.vm.classes[cellB.cls]? = some kB)
    {g : JFrame} (hg : g.method = m) (hsize : g.locals.size = c.maxLocals) {argsL rest : List Value} (hlen : ∀ sig, parseMethodDescriptor x.desc = some sig → argsL.length = sig.parameters.length)
    (hstack : g.stack = argsL.reverse ++ .ref b :: rest) (hW : 2 * g.monitorRoom + (rest.map fun v => v.category).sum ≤ W) (hdg : decode c.code g.pc = .ok (.invokeinterface index count, 5))
    (hpre : ∀ vm₁, s.WarmedH vm₁ → Pre ⟨T.setVm vm₁, locs, cells, slots⟩ (Value.ref b :: argsL).toArray) :
    (∃ (v : Option Value) (vm₁ : Vm) (B : Pt), s.WarmedH vm₁ ∧ Stand p l e R s m args below meth c B.U B.locs B.cells B.slots ∧ Post ⟨T.setVm vm₁, locs, cells, slots⟩ (Value.ref b :: argsL).toArray v B ∧
      ∀ target, Steps p.tables e below (B.U.setTop { g with pc := g.pc + 5, stack := v.toList ++ rest }) target → Steps p.tables e below (T.setTop g) target) ∨
    (∃ (q : Addr) (vm₁ : Vm) (B : Pt), s.WarmedH vm₁ ∧ Stand p l e R s m args below meth c B.U B.locs B.cells B.slots ∧ PostX ⟨T.setVm vm₁, locs, cells, slots⟩ (Value.ref b :: argsL).toArray q B ∧
      Steps p.tables e below (T.setTop g) ((B.U.setTop { g with stack := rest }).pushFrame (.throwing q))) := by
  obtain ⟨r0, r, hn, hrm, hstR, hsigR⟩ := Cond.declares_spec hdecl
  obtain ⟨cL, kL, r1, hcL, hkL, hiL, hfoundL, hn1⟩ := Cond.interfaceMethod_spec hface
  cases hn.symm.trans hn1
  have hr0cls : r0.cls = cL := Option.some.inj ((findClass_of_methodNamed hn).symm.trans hcL)
  obtain ⟨hnameR, hdescR⟩ := name_of_methodNamed hn hrm
  obtain ⟨mk, methM, hnamed, hmethM, -, habM⟩ := Cond.instanceMethod_spec hinst
  obtain ⟨c2, r2, m2, q1, q2, q3, q4, -⟩ := Cond.selects_spec hsel
  cases hcls.symm.trans q1
  cases hfoundL.symm.trans q2
  cases hnamed.symm.trans q3
  have hselP : selectMethod e.platform s.vm cellB.cls r0 = .method mk := by rw [Launch.admits_selectMethod X.admits]; exact q4
  have hpubM : hasFlag methM.accessFlags Acc.public_ = true := Cond.publicMethod_spec hnamed hmethM hpub
  have hway : ((cellB.cls :: s.vm.superclasses cellB.cls).any fun k => (declaredIn s.vm r.name r.desc k).any fun (_, z) => z.isPrivate || z.isStatic) = false := by
    rw [hnameR, hdescR]; exact Cond.unhidden_spec hcls hunh
  obtain ⟨c3, t3, w1, w2, w3⟩ := Cond.castable_spec hcast
  cases hcls.symm.trans w1
  cases hcL.symm.trans w2
  obtain ⟨vm₁, X₁, hstep₁⟩ := X.invokeinterface hexec hown hlink hn hrm hstR (by rw [hr0cls]; exact hkL) hiL hx (a := b) (cell := cellB) (kcell := kB) hcell
    (fun z h => by rw [h] at hobj; cases hobj) hkB (by rw [hr0cls]; exact w3) hselP hmethM hway hpubM habM (g := g) hg (argsL := argsL) (rest := rest) (hlen _ hsigR) hstack hdg
  rcases hK m meth c ⟨T.setVm vm₁, locs, cells, slots⟩ { g with stack := rest } (.invokeinterface index count) mk (Value.ref b :: argsL).toArray X₁ hg hsize hdg hW (X₁.named hnamed) (hpre vm₁ X₁.warmed) with ⟨v, B, X', hpost, hsteps⟩ | ⟨q, B, X', hpost, hsteps⟩
  · exact Or.inl ⟨v, vm₁, B, X₁.warmed, X', hpost, fun target h => hstep₁ _ fun acts => by rw [doInvoke_state]; exact hsteps.trans h⟩
  · exact Or.inr ⟨q, vm₁, B, X₁.warmed, X', hpost, hstep₁ _ fun acts => by rw [doInvoke_state]; exact hsteps⟩
theorem vx_runFW {x y : MethodName} {bytes cc : ByteArray} {maxL nL mc ms n index count : Nat} {ret : Option FieldType} {hh : List (Nat × Nat × Nat × Nat)} {ws : List Cond} {rm : Room} {Pc : Array Value → State → Prop} {Qc : Array Value → State → Outcome → State → Prop} {XC : String → State → State → Prop} {free : Addr → Prop} {Ts : List Cond} {own C : String} {cC : ClassId} {b : Addr} {As rest : List Value} {g : JFrame}
    (hat : ClassAt s C cC) (S : CallFix p m c cc nL s args Ts own) (hM : vx_Met l y ws rm Pc Qc XC mc ms free) (cw : va_CIW R s args own C index x y bytes maxL ret hh ws rm mc ms n) (hp : PreV s H C b Pc As)
    (hg : g.method = m) (hn : As.length = n) (hsize : g.locals.size = nL) (hstack : g.stack = As.reverse ++ .ref b :: rest) (hW : 2 * g.monitorRoom + (rest.map fun v => v.category).sum ≤ 8) (hdg : decode cc g.pc = .ok (.invokeinterface index count, 5)) (hf : cells + mc ≤ R.cells ∧ slots + ms ≤ R.slots) :
    vx_Run5 p l e R s m args below meth c H locs cells slots mc ms g rest (Qc (Value.ref b :: As).toArray) XC free := by
  obtain ⟨hrc, hrs, hfr, hlo, hws, hcw⟩ := cw.back
  have hini := cw.init
  have hK : vx_Back l R p e below s args y 5 8 (PreOf R mc ms Pc) (PostOf Qc mc ms free) (vx_Post XC mc ms free) := vx_backW (hh := hh) (bytes := bytes) (maxL := maxL) (ret := ret) hM hp.1 hrc hrs hfr hlo hws hcw (fun a' U hW => word_at hW (Or.inl (by first | rfl | simp [Cond.onTables, Cond.keeps, Cond.steady])) hini)
  obtain ⟨hx, hb, hml, ho, -⟩ := S
  obtain ⟨-, ⟨cellB, hcB, hoB, hclB⟩, hPc⟩ := hp
  obtain ⟨hfc, kB, hkB, -⟩ := hat
  cases hfc.symm.trans hclB
  intro T hT X
  rcases vx_callIFW X hx (C := C) (hh := hh) (bytes := bytes) (maxL := maxL) (ret := ret) ho cw.link cw.decl cw.face cw.sel cw.inst cw.pub cw.unh cw.cast cw.code cw.notMH hK (by rw [hT]; exact hcB) hoB hclB hkB hg (hsize.trans hml.symm) (argsL := As) (rest := rest) (fun sig h => hn.trans (cw.len sig h)) hstack hW (by rw [hb]; exact hdg)
    (fun vm₁ hW₁ => ⟨hf.1, hf.2, hPc (T.setVm vm₁) hT hW₁⟩) with ⟨v, vm₁, ⟨U', l2, c2, s2⟩, hW₁, X', ⟨g', mk, t, L, e1, e2, hq, h1, hL, h2, h3⟩, st⟩ | ⟨q, vm₁, ⟨U', l2, c2, s2⟩, hW₁, X', ⟨g', mk, t, L, E, ce, e1, e2, hq, hce, hcv, hcl, h1, hL, h2, h3⟩, st⟩
  · dsimp only [Pt.U, Pt.locs, Pt.cells, Pt.slots] at X' e1 e2 h1 h2 h3 st
    subst h1; subst h2; subst h3
    exact Or.inl ⟨v, (T.setVm vm₁).calling g' mk (Value.ref b :: As).toArray, t, U', L, hT, X', hL, e1, e2, hq, st⟩
  · dsimp only [Pt.U, Pt.locs, Pt.cells, Pt.slots] at X' e1 e2 h1 h2 h3 st hcl
    subst h1; subst h2; subst h3
    exact Or.inr ⟨q, (T.setVm vm₁).calling g' mk (Value.ref b :: As).toArray, t, U', L, E, ce, hT, X', hL, e1, e2, hq, hce, hcv, vx_cls hW₁ hcl, st⟩
end
/-! ===== END ===== -/
/-! ===== BEGIN .. of methods that hand back an object of the pool ===== -/
section
variable {p : Program} {l : Launch} {e : Env} {R : Room} {s : State} {m : MethodId} {args : Array Value} {below : List Frame} {meth : Method} {c : Code} {H : Heap} {locs : List Loc} {cells slots : Nat} {Q : State → Prop}
variable {mc ms : Nat} {free : Addr → Prop} {A0 A1 : Nat → Prop} {H0 : Heap} {a : Array Value} {pc : Nat} {ls : Array Slot} {st0 rest : List Value}
theorem vx_callq {S SX : Type} {post : Option Nat → S → Prop} {px : SX → Prop} {B : S → State → Prop} {BX : String → SX → State → Prop} {AX : Nat → Prop} (hr : vx_Run p l e R s m args below meth c H locs cells slots mc ms (F0 m pc ls st0) rest (va_Qq post B A1 a) (vx_X px BX AX) free) (hS : va_S A0 H0 H locs) (hA : ∀ q, q < H.size → A1 q → A0 q) (hf : ∀ q, free q → A0 q) (hAX : ∀ q, q < H.size → AX q → A0 q)
    (kx : ∀ (E : String) (ce : Cell) (q9 : Addr) (u : SX) (t : State) (H1 : Heap) (locs1 : List Loc), t.heap = H1 → s.vm.Alike t.vm → px u → BX E u t → H.size ≤ H1.size → (∀ q : Nat, q < H.size → ¬ AX q → H1[q]? = H[q]?) → va_S A0 H0 H1 locs1 → H1[q9]? = some ce → ce.vm = .none → s.vm.findClass E = some ce.cls → vx_W p l e R s m args below meth c H1 locs1 (cells + mc) (slots + ms) Q (F0 m pc ls rest) q9)
    (kk : ∀ (r : Option Nat) (u : S) (t : State) (H1 : Heap) (locs1 : List Loc), t.heap = H1 → s.vm.Alike t.vm → post r u → B u t → H.size ≤ H1.size → (∀ q : Nat, q < H.size → ¬ A1 q → H1[q]? = H[q]?) → va_S A0 H0 H1 locs1 → W p l e R s m args below meth c H1 locs1 (cells + mc) (slots + ms) Q (F0 m (pc + 3) ls (va_rf r :: rest))) : W p l e R s m args below meth c H locs cells slots Q (F0 m pc ls st0) := by
  intro T hT X
  rcases hr T hT X with ⟨v, st₀, t, T', L, h0, X', hL, e1, e2, ⟨⟨r, u, hv, hp, hb⟩, hF⟩, st⟩ | ⟨q, st₀, t, T', L, E, ce, h0, X', hL, e1, e2, ⟨u, hp, hb, hF⟩, hce, hcv, hcl, st⟩
  · cases hv
    obtain ⟨k1, k2, k3⟩ := vx_keep h0 e1 hS hA hf hL hF
    obtain ⟨t2, a1, b1⟩ := kk r u t T'.heap (locs ++ L) e1.symm (by rw [← e2]; exact X'.warmed.alike) hp hb k1 k2 k3 T' rfl X'
    exact ⟨t2, st t2 a1, b1⟩
  · obtain ⟨k1, k2, k3⟩ := vx_keep h0 e1 hS hAX hf hL hF
    obtain ⟨t2, a1, b1⟩ := kx E ce q u t T'.heap (locs ++ L) e1.symm (by rw [← e2]; exact X'.warmed.alike) hp hb k1 k2 k3 (by rw [e1]; exact hce) hcv hcl T' rfl X'
    exact ⟨t2, st.trans a1, b1⟩
end
/-! ===== END ===== -/
/-! ===== BEGIN .. a constant ===== -/
section
variable {p : Program} {l : Launch} {e : Env} {R : Room} {s : State} {m : MethodId} {args : Array Value} {below : List Frame} {meth : Method} {c : Code} {H : Heap} {locs : List Loc} {cells slots : Nat} {Q : State → Prop}
variable {mc ms : Nat} {free : Addr → Prop} {A0 A1 : Nat → Prop} {H0 : Heap} {a : Array Value} {pc : Nat} {ls : Array Slot} {st0 rest : List Value}
theorem vx_calle {ad : Nat → Nat} {S SX : Type} {post : Option Nat → S → Prop} {px : SX → Prop} {B : S → State → Prop} {BX : String → SX → State → Prop} {AX : Nat → Prop} (hr : vx_Run p l e R s m args below meth c H locs cells slots mc ms (F0 m pc ls st0) rest (va_Qe ad post B A1 a) (vx_X px BX AX) free) (hS : va_S A0 H0 H locs) (hA : ∀ q, q < H.size → A1 q → A0 q) (hf : ∀ q, free q → A0 q) (hAX : ∀ q, q < H.size → AX q → A0 q)
    (kx : ∀ (E : String) (ce : Cell) (q9 : Addr) (u : SX) (t : State) (H1 : Heap) (locs1 : List Loc), t.heap = H1 → s.vm.Alike t.vm → px u → BX E u t → H.size ≤ H1.size → (∀ q : Nat, q < H.size → ¬ AX q → H1[q]? = H[q]?) → va_S A0 H0 H1 locs1 → H1[q9]? = some ce → ce.vm = .none → s.vm.findClass E = some ce.cls → vx_W p l e R s m args below meth c H1 locs1 (cells + mc) (slots + ms) Q (F0 m pc ls rest) q9)
    (kk : ∀ (r : Option Nat) (u : S) (t : State) (H1 : Heap) (locs1 : List Loc), t.heap = H1 → s.vm.Alike t.vm → post r u → B u t → H.size ≤ H1.size → (∀ q : Nat, q < H.size → ¬ A1 q → H1[q]? = H[q]?) → va_S A0 H0 H1 locs1 → W p l e R s m args below meth c H1 locs1 (cells + mc) (slots + ms) Q (F0 m (pc + 3) ls (va_re ad r :: rest))) : W p l e R s m args below meth c H locs cells slots Q (F0 m pc ls st0) := by
  intro T hT X
  rcases hr T hT X with ⟨v, st₀, t, T', L, h0, X', hL, e1, e2, ⟨⟨r, u, hv, hp, hb⟩, hF⟩, st⟩ | ⟨q, st₀, t, T', L, E, ce, h0, X', hL, e1, e2, ⟨u, hp, hb, hF⟩, hce, hcv, hcl, st⟩
  · cases hv
    obtain ⟨k1, k2, k3⟩ := vx_keep h0 e1 hS hA hf hL hF
    obtain ⟨t2, a1, b1⟩ := kk r u t T'.heap (locs ++ L) e1.symm (by rw [← e2]; exact X'.warmed.alike) hp hb k1 k2 k3 T' rfl X'
    exact ⟨t2, st t2 a1, b1⟩
  · obtain ⟨k1, k2, k3⟩ := vx_keep h0 e1 hS hAX hf hL hF
    obtain ⟨t2, a1, b1⟩ := kx E ce q u t T'.heap (locs ++ L) e1.symm (by rw [← e2]; exact X'.warmed.alike) hp hb k1 k2 k3 (by rw [e1]; exact hce) hcv hcl T' rfl X'
    exact ⟨t2, st.trans a1, b1⟩
end
/-! ===== END ===== -/
/-! ===== BEGIN .. by an interface, an object ===== -/
section
variable {p : Program} {l : Launch} {e : Env} {R : Room} {s : State} {m : MethodId} {args : Array Value} {below : List Frame} {meth : Method} {c : Code} {H : Heap} {locs : List Loc} {cells slots : Nat} {Q : State → Prop}
variable {mc ms : Nat} {free : Addr → Prop} {A0 A1 : Nat → Prop} {H0 : Heap} {a : Array Value} {pc : Nat} {ls : Array Slot} {st0 rest : List Value}
theorem vx_callFq {S SX : Type} {post : Option Nat → S → Prop} {px : SX → Prop} {B : S → State → Prop} {BX : String → SX → State → Prop} {AX : Nat → Prop} (hr : vx_Run5 p l e R s m args below meth c H locs cells slots mc ms (F0 m pc ls st0) rest (va_Qq post B A1 a) (vx_X px BX AX) free) (hS : va_S A0 H0 H locs) (hA : ∀ q, q < H.size → A1 q → A0 q) (hf : ∀ q, free q → A0 q) (hAX : ∀ q, q < H.size → AX q → A0 q)
    (kx : ∀ (E : String) (ce : Cell) (q9 : Addr) (u : SX) (t : State) (H1 : Heap) (locs1 : List Loc), t.heap = H1 → s.vm.Alike t.vm → px u → BX E u t → H.size ≤ H1.size → (∀ q : Nat, q < H.size → ¬ AX q → H1[q]? = H[q]?) → va_S A0 H0 H1 locs1 → H1[q9]? = some ce → ce.vm = .none → s.vm.findClass E = some ce.cls → vx_W p l e R s m args below meth c H1 locs1 (cells + mc) (slots + ms) Q (F0 m pc ls rest) q9)
    (kk : ∀ (r : Option Nat) (u : S) (t : State) (H1 : Heap) (locs1 : List Loc), t.heap = H1 → s.vm.Alike t.vm → post r u → B u t → H.size ≤ H1.size → (∀ q : Nat, q < H.size → ¬ A1 q → H1[q]? = H[q]?) → va_S A0 H0 H1 locs1 → W p l e R s m args below meth c H1 locs1 (cells + mc) (slots + ms) Q (F0 m (pc + 5) ls (va_rf r :: rest))) : W p l e R s m args below meth c H locs cells slots Q (F0 m pc ls st0) := by
  intro T hT X
  rcases hr T hT X with ⟨v, st₀, t, T', L, h0, X', hL, e1, e2, ⟨⟨r, u, hv, hp, hb⟩, hF⟩, st⟩ | ⟨q, st₀, t, T', L, E, ce, h0, X', hL, e1, e2, ⟨u, hp, hb, hF⟩, hce, hcv, hcl, st⟩
  · cases hv
    obtain ⟨k1, k2, k3⟩ := vx_keep h0 e1 hS hA hf hL hF
    obtain ⟨t2, a1, b1⟩ := kk r u t T'.heap (locs ++ L) e1.symm (by rw [← e2]; exact X'.warmed.alike) hp hb k1 k2 k3 T' rfl X'
    exact ⟨t2, st t2 a1, b1⟩
  · obtain ⟨k1, k2, k3⟩ := vx_keep h0 e1 hS hAX hf hL hF
    obtain ⟨t2, a1, b1⟩ := kx E ce q u t T'.heap (locs ++ L) e1.symm (by rw [← e2]; exact X'.warmed.alike) hp hb k1 k2 k3 (by rw [e1]; exact hce) hcv hcl T' rfl X'
    exact ⟨t2, st.trans a1, b1⟩
end
/-! ===== END ===== -/
/-! ===== BEGIN .. by an interface, a constant ===== -/
section
variable {p : Program} {l : Launch} {e : Env} {R : Room} {s : State} {m : MethodId} {args : Array Value} {below : List Frame} {meth : Method} {c : Code} {H : Heap} {locs : List Loc} {cells slots : Nat} {Q : State → Prop}
variable {mc ms : Nat} {free : Addr → Prop} {A0 A1 : Nat → Prop} {H0 : Heap} {a : Array Value} {pc : Nat} {ls : Array Slot} {st0 rest : List Value}
theorem vx_callFe {ad : Nat → Nat} {S SX : Type} {post : Option Nat → S → Prop} {px : SX → Prop} {B : S → State → Prop} {BX : String → SX → State → Prop} {AX : Nat → Prop} (hr : vx_Run5 p l e R s m args below meth c H locs cells slots mc ms (F0 m pc ls st0) rest (va_Qe ad post B A1 a) (vx_X px BX AX) free) (hS : va_S A0 H0 H locs) (hA : ∀ q, q < H.size → A1 q → A0 q) (hf : ∀ q, free q → A0 q) (hAX : ∀ q, q < H.size → AX q → A0 q)
    (kx : ∀ (E : String) (ce : Cell) (q9 : Addr) (u : SX) (t : State) (H1 : Heap) (locs1 : List Loc), t.heap = H1 → s.vm.Alike t.vm → px u → BX E u t → H.size ≤ H1.size → (∀ q : Nat, q < H.size → ¬ AX q → H1[q]? = H[q]?) → va_S A0 H0 H1 locs1 → H1[q9]? = some ce → ce.vm = .none → s.vm.findClass E = some ce.cls → vx_W p l e R s m args below meth c H1 locs1 (cells + mc) (slots + ms) Q (F0 m pc ls rest) q9)
    (kk : ∀ (r : Option Nat) (u : S) (t : State) (H1 : Heap) (locs1 : List Loc), t.heap = H1 → s.vm.Alike t.vm → post r u → B u t → H.size ≤ H1.size → (∀ q : Nat, q < H.size → ¬ A1 q → H1[q]? = H[q]?) → va_S A0 H0 H1 locs1 → W p l e R s m args below meth c H1 locs1 (cells + mc) (slots + ms) Q (F0 m (pc + 5) ls (va_re ad r :: rest))) : W p l e R s m args below meth c H locs cells slots Q (F0 m pc ls st0) := by
  intro T hT X
  rcases hr T hT X with ⟨v, st₀, t, T', L, h0, X', hL, e1, e2, ⟨⟨r, u, hv, hp, hb⟩, hF⟩, st⟩ | ⟨q, st₀, t, T', L, E, ce, h0, X', hL, e1, e2, ⟨u, hp, hb, hF⟩, hce, hcv, hcl, st⟩
  · cases hv
    obtain ⟨k1, k2, k3⟩ := vx_keep h0 e1 hS hA hf hL hF
    obtain ⟨t2, a1, b1⟩ := kk r u t T'.heap (locs ++ L) e1.symm (by rw [← e2]; exact X'.warmed.alike) hp hb k1 k2 k3 T' rfl X'
    exact ⟨t2, st t2 a1, b1⟩
  · obtain ⟨k1, k2, k3⟩ := vx_keep h0 e1 hS hAX hf hL hF
    obtain ⟨t2, a1, b1⟩ := kx E ce q u t T'.heap (locs ++ L) e1.symm (by rw [← e2]; exact X'.warmed.alike) hp hb k1 k2 k3 (by rw [e1]; exact hce) hcv hcl T' rfl X'
    exact ⟨t2, st.trans a1, b1⟩
end
/-! ===== END ===== -/
/-! ===== BEGIN what the machine throws by itself: null at a field, at athrow ===== -/
section VXM2
variable {p : Program} {l : Launch} {e : Env} {R : Room} {s : State} {m : MethodId} {args : Array Value} {below : List Frame} {meth : Method} {c : Code} {H : Heap} {locs : List Loc} {cells slots : Nat}
variable {Q : State → Prop} {cc : ByteArray} {pc : Nat} {ls : Array Slot} {rest : List Value}
theorem vx_getfN {D cl tys} {own ref C : String} {T : u_T} {N ci index : Nat} {Ts : List Cond} (hexec : p.tables.exec = Jvm.exec) (hb : c.code = cc) (hts : ∀ w ∈ Ts, w.before args s = true) (hin : ∀ w ∈ u_ws C T N, w ∈ Ts) (hown : s.vm.findClass own = some m.cls) (hK : va_K D cl tys s) (hc : cl[ci]? = some (C, T, N)) (k : Nat) (hk : k < N) (hlink : (Cond.fieldLink own index ref (T k).2.1 (T k).2.2.1).before args s = true) (hsame : ∀ x, s.fieldFound? (T k).1 (T k).2.1 (T k).2.2.1 = some x → s.fieldFound? ref (T k).2.1 (T k).2.2.1 = some x) (hdg : decode cc pc = .ok (.getfield index, 3)) (kk : vx_NoteN p l e R s m args below meth c H locs cells slots Q (F0 m pc ls rest)) : W p l e R s m args below meth c H locs cells slots Q (F0 m pc ls (.null :: rest)) := by
  obtain ⟨hS, hfc, kC, hkC, -⟩ := hK.1 ci _ hc
  obtain ⟨cf, kf, fi, f, hi, -⟩ := hS k hk
  intro U hU X
  obtain ⟨vm', X1, st1⟩ := X.getfieldNull hexec hown hlink (hsame _ hi) (u_facts hfc hkC (u_lays hts hin hk) hi).1 (g := F0 m pc ls (.null :: rest)) rfl (rest := rest) rfl (by rw [hb]; exact hdg)
  obtain ⟨t, st, q⟩ := kk (U.setVm vm') hU X1
  exact ⟨t, st1 t st, q⟩
theorem vx_getfNN {D cl tys} {own ref C host : String} {T : u_T} {N ci index : Nat} {Ts : List Cond} (hexec : p.tables.exec = Jvm.exec) (hb : c.code = cc) (hts : ∀ w ∈ Ts, w.before args s = true) (hin : ∀ w ∈ u_ws C T N, w ∈ Ts) (hown : s.vm.findClass own = some m.cls) (hK : va_K D cl tys s) (hc : cl[ci]? = some (C, T, N)) (k : Nat) (hk : k < N) (hlink : (Cond.fieldLinkNest own index ref (T k).2.1 (T k).2.2.1 host).before args s = true) (hsame : ∀ x, s.fieldFound? (T k).1 (T k).2.1 (T k).2.2.1 = some x → s.fieldFound? ref (T k).2.1 (T k).2.2.1 = some x) (hdg : decode cc pc = .ok (.getfield index, 3)) (kk : vx_NoteN p l e R s m args below meth c H locs cells slots Q (F0 m pc ls rest)) : W p l e R s m args below meth c H locs cells slots Q (F0 m pc ls (.null :: rest)) := by
  obtain ⟨hS, hfc, kC, hkC, -⟩ := hK.1 ci _ hc
  obtain ⟨cf, kf, fi, f, hi, -⟩ := hS k hk
  intro U hU X
  obtain ⟨vm', X1, st1⟩ := X.getfieldNullNest hexec hown hlink (hsame _ hi) (u_facts hfc hkC (u_lays hts hin hk) hi).1 (g := F0 m pc ls (.null :: rest)) rfl (rest := rest) rfl (by rw [hb]; exact hdg)
  obtain ⟨t, st, q⟩ := kk (U.setVm vm') hU X1
  exact ⟨t, st1 t st, q⟩
theorem vx_putfN {D cl tys} {own ref C : String} {T : u_T} {N ci index : Nat} {Ts : List Cond} (hexec : p.tables.exec = Jvm.exec) (hb : c.code = cc) (hts : ∀ w ∈ Ts, w.before args s = true) (hin : ∀ w ∈ u_ws C T N, w ∈ Ts) (hown : s.vm.findClass own = some m.cls) (hK : va_K D cl tys s) (hc : cl[ci]? = some (C, T, N)) (k : Nat) (hk : k < N) (hlink : (Cond.fieldLink own index ref (T k).2.1 (T k).2.2.1).before args s = true) (hsame : ∀ x, s.fieldFound? (T k).1 (T k).2.1 (T k).2.2.1 = some x → s.fieldFound? ref (T k).2.1 (T k).2.2.1 = some x) (hfin : (T k).2.2.2 = false) {v : Value} (hdg : decode cc pc = .ok (.putfield index, 3)) (kk : vx_NoteN p l e R s m args below meth c H locs cells slots Q (F0 m pc ls rest)) : W p l e R s m args below meth c H locs cells slots Q (F0 m pc ls (v :: .null :: rest)) := by
  obtain ⟨hS, hfc, kC, hkC, -⟩ := hK.1 ci _ hc
  obtain ⟨cf, kf, fi, f, hi, -⟩ := hS k hk
  have hlay := hts _ (hin _ (u_in_lay hk))
  unfold u_lay at hlay
  rw [if_neg (by rw [hfin]; decide)] at hlay
  obtain ⟨c9, k9, cf9, kf9, fi9, f9, -, -, hi9, hst9, hnf9, -⟩ := Cond.lays_spec hlay
  cases hi.symm.trans hi9
  intro U hU X
  obtain ⟨vm', X1, st1⟩ := X.putfieldNull hexec hown hlink (hsame _ hi) hst9 hnf9 (g := F0 m pc ls (v :: .null :: rest)) rfl (v := v) (rest := rest) rfl (by rw [hb]; exact hdg)
  obtain ⟨t, st, q⟩ := kk (U.setVm vm') hU X1
  exact ⟨t, st1 t st, q⟩
theorem vx_putfNN {D cl tys} {own ref C host : String} {T : u_T} {N ci index : Nat} {Ts : List Cond} (hexec : p.tables.exec = Jvm.exec) (hb : c.code = cc) (hts : ∀ w ∈ Ts, w.before args s = true) (hin : ∀ w ∈ u_ws C T N, w ∈ Ts) (hown : s.vm.findClass own = some m.cls) (hK : va_K D cl tys s) (hc : cl[ci]? = some (C, T, N)) (k : Nat) (hk : k < N) (hlink : (Cond.fieldLinkNest own index ref (T k).2.1 (T k).2.2.1 host).before args s = true) (hsame : ∀ x, s.fieldFound? (T k).1 (T k).2.1 (T k).2.2.1 = some x → s.fieldFound? ref (T k).2.1 (T k).2.2.1 = some x) (hfin : (T k).2.2.2 = false) {v : Value} (hdg : decode cc pc = .ok (.putfield index, 3)) (kk : vx_NoteN p l e R s m args below meth c H locs cells slots Q (F0 m pc ls rest)) : W p l e R s m args below meth c H locs cells slots Q (F0 m pc ls (v :: .null :: rest)) := by
  obtain ⟨hS, hfc, kC, hkC, -⟩ := hK.1 ci _ hc
  obtain ⟨cf, kf, fi, f, hi, -⟩ := hS k hk
  have hlay := hts _ (hin _ (u_in_lay hk))
  unfold u_lay at hlay
  rw [if_neg (by rw [hfin]; decide)] at hlay
  obtain ⟨c9, k9, cf9, kf9, fi9, f9, -, -, hi9, hst9, hnf9, -⟩ := Cond.lays_spec hlay
  cases hi.symm.trans hi9
  intro U hU X
  obtain ⟨vm', X1, st1⟩ := X.putfieldNullNest hexec hown hlink (hsame _ hi) hst9 hnf9 (g := F0 m pc ls (v :: .null :: rest)) rfl (v := v) (rest := rest) rfl (by rw [hb]; exact hdg)
  obtain ⟨t, st, q⟩ := kk (U.setVm vm') hU X1
  exact ⟨t, st1 t st, q⟩
theorem vx_athrowN (hexec : p.tables.exec = Jvm.exec) (hb : c.code = cc) (hdg : decode cc pc = .ok (.athrow, 1)) (k : vx_NoteN p l e R s m args below meth c H locs cells slots Q (F0 m pc ls rest)) : W p l e R s m args below meth c H locs cells slots Q (F0 m pc ls (.null :: rest)) := by
  intro T hT X
  obtain ⟨t, st, q⟩ := k T hT X
  exact ⟨t, X.athrowNull hexec (g := F0 m pc ls (.null :: rest)) rfl (rest := rest) rfl (by rw [hb]; exact hdg) t st, q⟩
end VXM2
/-! ===== END ===== -/
end
section
def RX0 : String := "Goalmouth$Book"
def TX0 : u_T := fun k => match k with
  | 0 => ("Goalmouth$Book", "events", "Ljava/util/ArrayList;", true)
  | 1 => ("Goalmouth$Book", "cards", "Ljava/util/ArrayList;", true)
  | 2 => ("Goalmouth$Book", "bans", "[I", true)
  | 3 => ("Goalmouth$Book", "yellows", "[I", true)
  | 4 => ("Goalmouth$Book", "oldBans", "[I", true)
  | _ => ("Goalmouth$Book", "oldYellows", "[I", true)
def tyX0 : Nat → FieldType := fun k => match k with
  | 0 => .object "java/util/ArrayList"
  | 1 => .object "java/util/ArrayList"
  | 2 => .array .int
  | 3 => .array .int
  | 4 => .array .int
  | _ => .array .int
theorem nmX0 : ∀ a, a < 6 → ∀ b, b < 6 → a ≠ b → (TX0 a).2.1 ≠ (TX0 b).2.1 := by decide +kernel
theorem tyX0_ok : ∀ k, k < 6 → parseFieldDescriptor (TX0 k).2.2.1 = some (tyX0 k) := by decide +kernel
abbrev cX0_init : ByteArray := prog_2_method_1_code
abbrev cX0_isFull : ByteArray := prog_2_method_2_code
abbrev cX0_write : ByteArray := prog_2_method_3_code
abbrev cX0_countAnew : ByteArray := prog_2_method_4_code
abbrev cX0_isSameAnew : ByteArray := prog_2_method_5_code
abbrev cX0_count : ByteArray := prog_2_method_6_code
abbrev cX0_playersWithYellows : ByteArray := prog_2_method_11_code
def RX1 : String := "Goalmouth$Card"
def RX2 : String := "Goalmouth$Club"
def TX2 : u_T := fun k => match k with
  | 0 => ("Goalmouth$Club", "number", "I", true)
  | 1 => ("Goalmouth$Club", "ground", "I", true)
  | 2 => ("Goalmouth$Club", "grade", "I", true)
  | 3 => ("Goalmouth$Club", "division", "I", false)
  | 4 => ("Goalmouth$Club", "money", "I", false)
  | 5 => ("Goalmouth$Club", "taken", "I", false)
  | 6 => ("Goalmouth$Club", "isStruck", "Z", false)
  | 7 => ("Goalmouth$Club", "rivals", "I", false)
  | 8 => ("Goalmouth$Club", "isInGroup", "Z", false)
  | 9 => ("Goalmouth$Club", "won", "I", false)
  | 10 => ("Goalmouth$Club", "difference", "I", false)
  | 11 => ("Goalmouth$Club", "scored", "I", false)
  | 12 => ("Goalmouth$Club", "total", "I", false)
  | 13 => ("Goalmouth$Club", "overall", "I", false)
  | _ => ("Goalmouth$Club", "key", "I", false)
def tyX2 : Nat → FieldType := fun k => match k with
  | 0 => .int
  | 1 => .int
  | 2 => .int
  | 3 => .int
  | 4 => .int
  | 5 => .int
  | 6 => .boolean
  | 7 => .int
  | 8 => .boolean
  | 9 => .int
  | 10 => .int
  | 11 => .int
  | 12 => .int
  | 13 => .int
  | _ => .int
theorem nmX2 : ∀ a, a < 15 → ∀ b, b < 15 → a ≠ b → (TX2 a).2.1 ≠ (TX2 b).2.1 := by decide +kernel
theorem tyX2_ok : ∀ k, k < 15 → parseFieldDescriptor (TX2 k).2.2.1 = some (tyX2 k) := by decide +kernel
abbrev cX2_init : ByteArray := prog_4_method_1_code
def RX3 : String := "Goalmouth$Event"
def TX3 : u_T := fun k => match k with
  | 0 => ("Goalmouth$Event", "kind", "I", true)
  | 1 => ("Goalmouth$Event", "side", "LGoalmouth$Side;", true)
  | 2 => ("Goalmouth$Event", "who", "I", true)
  | 3 => ("Goalmouth$Event", "strangers", "I", true)
  | 4 => ("Goalmouth$Event", "firstCard", "I", false)
  | _ => ("Goalmouth$Event", "pastCard", "I", false)
def tyX3 : Nat → FieldType := fun k => match k with
  | 0 => .int
  | 1 => .object "Goalmouth$Side"
  | 2 => .int
  | 3 => .int
  | 4 => .int
  | _ => .int
theorem nmX3 : ∀ a, a < 6 → ∀ b, b < 6 → a ≠ b → (TX3 a).2.1 ≠ (TX3 b).2.1 := by decide +kernel
theorem tyX3_ok : ∀ k, k < 6 → parseFieldDescriptor (TX3 k).2.2.1 = some (tyX3 k) := by decide +kernel
abbrev cX3_init : ByteArray := prog_5_method_1_code
def RX4 : String := "Goalmouth$Fixture"
def RX5 : String := "Goalmouth$Planner"
def TX5 : u_T := fun k => match k with
  | 0 => ("Goalmouth$Planner", "homes", "Ljava/util/ArrayList;", true)
  | 1 => ("Goalmouth$Planner", "aways", "Ljava/util/ArrayList;", true)
  | 2 => ("Goalmouth$Planner", "dayOf", "[I", true)
  | 3 => ("Goalmouth$Planner", "clubsOn", "[I", true)
  | 4 => ("Goalmouth$Planner", "groundsOn", "[I", true)
  | 5 => ("Goalmouth$Planner", "hasDerby", "[Z", true)
  | _ => ("Goalmouth$Planner", "days", "I", false)
def tyX5 : Nat → FieldType := fun k => match k with
  | 0 => .object "java/util/ArrayList"
  | 1 => .object "java/util/ArrayList"
  | 2 => .array .int
  | 3 => .array .int
  | 4 => .array .int
  | 5 => .array .boolean
  | _ => .int
theorem nmX5 : ∀ a, a < 7 → ∀ b, b < 7 → a ≠ b → (TX5 a).2.1 ≠ (TX5 b).2.1 := by decide +kernel
theorem tyX5_ok : ∀ k, k < 7 → parseFieldDescriptor (TX5 k).2.2.1 = some (tyX5 k) := by decide +kernel
abbrev cX5_init : ByteArray := prog_7_method_1_code
def RX6 : String := "Goalmouth$Player"
def RX7 : String := "Goalmouth$Side"
def RX8 : String := "Goalmouth$Table"
def TX8 : u_T := fun k => match k with
  | _ => ("Goalmouth$Table", "rows", "Ljava/util/ArrayList;", true)
def tyX8 : Nat → FieldType := fun k => match k with
  | _ => .object "java/util/ArrayList"
theorem nmX8 : ∀ a, a < 1 → ∀ b, b < 1 → a ≠ b → (TX8 a).2.1 ≠ (TX8 b).2.1 := by decide +kernel
theorem tyX8_ok : ∀ k, k < 1 → parseFieldDescriptor (TX8 k).2.2.1 = some (tyX8 k) := by decide +kernel
abbrev cX8_init : ByteArray := prog_10_method_1_code
abbrev cX8_draw : ByteArray := prog_10_method_2_code
abbrev cX8_firstToRise : ByteArray := prog_10_method_3_code
abbrev cX8_addRows : ByteArray := prog_10_method_5_code
abbrev cX8_countAmong : ByteArray := prog_10_method_6_code
abbrev cX8_sort : ByteArray := prog_10_method_7_code
abbrev cX8_partTies : ByteArray := prog_10_method_8_code
def RX9 : String := "Goalmouth"
def TX9 : u_T := fun k => match k with
  | 0 => ("Goalmouth", "clubs", "Ljava/util/ArrayList;", true)
  | 1 => ("Goalmouth", "players", "Ljava/util/ArrayList;", true)
  | 2 => ("Goalmouth", "fixtures", "Ljava/util/ArrayList;", true)
  | 3 => ("Goalmouth", "book", "LGoalmouth$Book;", true)
  | 4 => ("Goalmouth", "planner", "LGoalmouth$Planner;", true)
  | 5 => ("Goalmouth", "table", "LGoalmouth$Table;", true)
  | 6 => ("Goalmouth", "today", "I", false)
  | 7 => ("Goalmouth", "windowFrom", "I", false)
  | 8 => ("Goalmouth", "windowTo", "I", false)
  | _ => ("Goalmouth", "matchOn", "LGoalmouth$Fixture;", false)
def tyX9 : Nat → FieldType := fun k => match k with
  | 0 => .object "java/util/ArrayList"
  | 1 => .object "java/util/ArrayList"
  | 2 => .object "java/util/ArrayList"
  | 3 => .object "Goalmouth$Book"
  | 4 => .object "Goalmouth$Planner"
  | 5 => .object "Goalmouth$Table"
  | 6 => .int
  | 7 => .int
  | 8 => .int
  | _ => .object "Goalmouth$Fixture"
theorem nmX9 : ∀ a, a < 10 → ∀ b, b < 10 → a ≠ b → (TX9 a).2.1 ≠ (TX9 b).2.1 := by decide +kernel
theorem tyX9_ok : ∀ k, k < 10 → parseFieldDescriptor (TX9 k).2.2.1 = some (tyX9 k) := by decide +kernel
abbrev cX9_init : ByteArray := prog_1_method_1_code
abbrev cX9_addClub : ByteArray := prog_1_method_2_code
abbrev cX9_addPlayer : ByteArray := prog_1_method_3_code
abbrev cX9_setWindow : ByteArray := prog_1_method_4_code
abbrev cX9_goOn : ByteArray := prog_1_method_5_code
abbrev cX9_sell : ByteArray := prog_1_method_6_code
abbrev cX9_lend : ByteArray := prog_1_method_8_code
abbrev cX9_callBack : ByteArray := prog_1_method_9_code
abbrev cX9_setDerby : ByteArray := prog_1_method_10_code
abbrev cX9_plan : ByteArray := prog_1_method_11_code
abbrev cX9_putOff : ByteArray := prog_1_method_12_code
abbrev cX9_fixture : ByteArray := prog_1_method_14_code
abbrev cX9_stateOf : ByteArray := prog_1_method_15_code
abbrev cX9_name : ByteArray := prog_1_method_16_code
abbrev cX9_kickOff : ByteArray := prog_1_method_17_code
abbrev cX9_goal : ByteArray := prog_1_method_20_code
abbrev cX9_card : ByteArray := prog_1_method_21_code
abbrev cX9_change : ByteArray := prog_1_method_22_code
abbrev cX9_end : ByteArray := prog_1_method_23_code
abbrev cX9_abandon : ByteArray := prog_1_method_24_code
abbrev cX9_appeal : ByteArray := prog_1_method_27_code
abbrev cX9_wipe : ByteArray := prog_1_method_28_code
abbrev cX9_ban : ByteArray := prog_1_method_29_code
abbrev cX9_yellows : ByteArray := prog_1_method_30_code
abbrev cX9_isGuilty : ByteArray := prog_1_method_31_code
abbrev cX9_resultOf : ByteArray := prog_1_method_32_code
abbrev cX9_takePoints : ByteArray := prog_1_method_33_code
abbrev cX9_strike : ByteArray := prog_1_method_34_code
abbrev cX9_clubAt : ByteArray := prog_1_method_35_code
abbrev cX9_points : ByteArray := prog_1_method_36_code
abbrev cX9_divisionOf : ByteArray := prog_1_method_37_code
abbrev cX9_registered : ByteArray := prog_1_method_38_code
abbrev cX9_endSeason : ByteArray := prog_1_method_39_code
abbrev cX9_isFixtureLeft : ByteArray := prog_1_method_40_code
abbrev cX9_clearSeason : ByteArray := prog_1_method_41_code
abbrev cX9_money : ByteArray := prog_1_method_42_code
abbrev cX9_overShare : ByteArray := prog_1_method_43_code
abbrev cX9_meanGoals : ByteArray := prog_1_method_44_code
abbrev cX9_isSound : ByteArray := prog_1_method_45_code
abbrev cX9_isWithin : ByteArray := prog_1_method_46_code
abbrev cX9_isDivision : ByteArray := prog_1_method_47_code
abbrev cX9_isWindowOpen : ByteArray := prog_1_method_48_code
abbrev cX9_clubsIn : ByteArray := prog_1_method_49_code
abbrev cX9_hasFixtures : ByteArray := prog_1_method_50_code
abbrev cX9_fixturesOver : ByteArray := prog_1_method_51_code
abbrev cX9_knownClub : ByteArray := prog_1_method_52_code
abbrev cX9_knownPlayer : ByteArray := prog_1_method_53_code
abbrev cX9_knownBit : ByteArray := prog_1_method_54_code
abbrev cX9_knownFixture : ByteArray := prog_1_method_55_code
abbrev cX9_knownMatch : ByteArray := prog_1_method_56_code
def RX10 : String := "GoalmouthModel$Card"
def RX11 : String := "GoalmouthModel$Club"
def TX11 : u_T := fun k => match k with
  | 0 => ("GoalmouthModel$Club", "ground", "I", true)
  | 1 => ("GoalmouthModel$Club", "grade", "I", true)
  | 2 => ("GoalmouthModel$Club", "division", "I", false)
  | 3 => ("GoalmouthModel$Club", "money", "I", false)
  | 4 => ("GoalmouthModel$Club", "taken", "I", false)
  | _ => ("GoalmouthModel$Club", "struck", "Z", false)
def tyX11 : Nat → FieldType := fun k => match k with
  | 0 => .int
  | 1 => .int
  | 2 => .int
  | 3 => .int
  | 4 => .int
  | _ => .boolean
theorem nmX11 : ∀ a, a < 6 → ∀ b, b < 6 → a ≠ b → (TX11 a).2.1 ≠ (TX11 b).2.1 := by decide +kernel
theorem tyX11_ok : ∀ k, k < 6 → parseFieldDescriptor (TX11 k).2.2.1 = some (tyX11 k) := by decide +kernel
abbrev cX11_init : ByteArray := prog_14_method_1_code
def RX12 : String := "GoalmouthModel$Event"
def TX12 : u_T := fun k => match k with
  | 0 => ("GoalmouthModel$Event", "kind", "C", true)
  | 1 => ("GoalmouthModel$Event", "match", "LGoalmouthModel$Match;", true)
  | 2 => ("GoalmouthModel$Event", "player", "I", true)
  | 3 => ("GoalmouthModel$Event", "fits", "Z", true)
  | _ => ("GoalmouthModel$Event", "resting", "Ljava/util/List;", true)
def tyX12 : Nat → FieldType := fun k => match k with
  | 0 => .char
  | 1 => .object "GoalmouthModel$Match"
  | 2 => .int
  | 3 => .boolean
  | _ => .object "java/util/List"
theorem nmX12 : ∀ a, a < 5 → ∀ b, b < 5 → a ≠ b → (TX12 a).2.1 ≠ (TX12 b).2.1 := by decide +kernel
theorem tyX12_ok : ∀ k, k < 5 → parseFieldDescriptor (TX12 k).2.2.1 = some (tyX12 k) := by decide +kernel
abbrev cX12_init : ByteArray := prog_15_method_1_code
def RX13 : String := "GoalmouthModel$Match"
def RX14 : String := "GoalmouthModel$Player"
def RX15 : String := "GoalmouthModel"
def TX15 : u_T := fun k => match k with
  | 0 => ("GoalmouthModel", "clubs", "Ljava/util/List;", true)
  | 1 => ("GoalmouthModel", "players", "Ljava/util/List;", true)
  | 2 => ("GoalmouthModel", "matches", "Ljava/util/List;", true)
  | 3 => ("GoalmouthModel", "cards", "Ljava/util/List;", true)
  | 4 => ("GoalmouthModel", "events", "Ljava/util/List;", true)
  | 5 => ("GoalmouthModel", "derby", "[Z", true)
  | 6 => ("GoalmouthModel", "bans", "[I", true)
  | 7 => ("GoalmouthModel", "yellow", "[I", true)
  | 8 => ("GoalmouthModel", "thrown", "I", false)
  | 9 => ("GoalmouthModel", "day", "I", false)
  | 10 => ("GoalmouthModel", "from", "I", false)
  | 11 => ("GoalmouthModel", "to", "I", false)
  | _ => ("GoalmouthModel", "on", "LGoalmouthModel$Match;", false)
def tyX15 : Nat → FieldType := fun k => match k with
  | 0 => .object "java/util/List"
  | 1 => .object "java/util/List"
  | 2 => .object "java/util/List"
  | 3 => .object "java/util/List"
  | 4 => .object "java/util/List"
  | 5 => .array .boolean
  | 6 => .array .int
  | 7 => .array .int
  | 8 => .int
  | 9 => .int
  | 10 => .int
  | 11 => .int
  | _ => .object "GoalmouthModel$Match"
theorem nmX15 : ∀ a, a < 13 → ∀ b, b < 13 → a ≠ b → (TX15 a).2.1 ≠ (TX15 b).2.1 := by decide +kernel
theorem tyX15_ok : ∀ k, k < 13 → parseFieldDescriptor (TX15 k).2.2.1 = some (tyX15 k) := by decide +kernel
abbrev cX15_init : ByteArray := prog_12_method_1_code
abbrev cX15_thrown : ByteArray := prog_12_method_2_code
abbrev cX15_isIn : ByteArray := prog_12_method_3_code
abbrev cX15_no : ByteArray := prog_12_method_4_code
abbrev cX15_isClub : ByteArray := prog_12_method_5_code
abbrev cX15_isPlayer : ByteArray := prog_12_method_6_code
abbrev cX15_noMatch : ByteArray := prog_12_method_7_code
abbrev cX15_goesThrough : ByteArray := prog_12_method_8_code
abbrev cX15_clubsIn : ByteArray := prog_12_method_11_code
abbrev cX15_addClub : ByteArray := prog_12_method_12_code
abbrev cX15_addPlayer : ByteArray := prog_12_method_13_code
abbrev cX15_isOpen : ByteArray := prog_12_method_14_code
abbrev cX15_setWindow : ByteArray := prog_12_method_15_code
abbrev cX15_goOn : ByteArray := prog_12_method_16_code
abbrev cX15_sell : ByteArray := prog_12_method_17_code
abbrev cX15_lend : ByteArray := prog_12_method_18_code
abbrev cX15_callBack : ByteArray := prog_12_method_19_code
abbrev cX15_setDerby : ByteArray := prog_12_method_20_code
abbrev cX15_hasFixtures : ByteArray := prog_12_method_21_code
abbrev cX15_plan : ByteArray := prog_12_method_24_code
abbrev cX15_putOff : ByteArray := prog_12_method_26_code
abbrev cX15_fixture : ByteArray := prog_12_method_27_code
abbrev cX15_stateOf : ByteArray := prog_12_method_28_code
abbrev cX15_name : ByteArray := prog_12_method_29_code
abbrev cX15_kickOff : ByteArray := prog_12_method_31_code
abbrev cX15_noOn : ByteArray := prog_12_method_33_code
abbrev cX15_goal : ByteArray := prog_12_method_35_code
abbrev cX15_card : ByteArray := prog_12_method_36_code
abbrev cX15_change : ByteArray := prog_12_method_37_code
abbrev cX15_end : ByteArray := prog_12_method_39_code
abbrev cX15_abandon : ByteArray := prog_12_method_40_code
abbrev cX15_appeal : ByteArray := prog_12_method_41_code
abbrev cX15_wipe : ByteArray := prog_12_method_42_code
abbrev cX15_ban : ByteArray := prog_12_method_43_code
abbrev cX15_yellows : ByteArray := prog_12_method_44_code
abbrev cX15_isGuilty : ByteArray := prog_12_method_45_code
abbrev cX15_resultOf : ByteArray := prog_12_method_47_code
abbrev cX15_takePoints : ByteArray := prog_12_method_48_code
abbrev cX15_strike : ByteArray := prog_12_method_49_code
abbrev cX15_counting : ByteArray := prog_12_method_51_code
abbrev cX15_table : ByteArray := prog_12_method_53_code
abbrev cX15_clubAt : ByteArray := prog_12_method_57_code
abbrev cX15_points : ByteArray := prog_12_method_58_code
abbrev cX15_divisionOf : ByteArray := prog_12_method_59_code
abbrev cX15_registered : ByteArray := prog_12_method_60_code
abbrev cX15_endSeason : ByteArray := prog_12_method_61_code
abbrev cX15_money : ByteArray := prog_12_method_62_code
abbrev cX15_over : ByteArray := prog_12_method_63_code
abbrev cX15_overShare : ByteArray := prog_12_method_64_code
abbrev cX15_meanGoals : ByteArray := prog_12_method_65_code
abbrev cX15_isSound : ByteArray := prog_12_method_66_code
def RJx145de : String := "java/io/Serializable"
def RJ5 : String := "java/lang/AbstractStringBuilder"
def RJx2cfe8 : String := "java/lang/Appendable"
def RJx00060 : String := "java/lang/ArrayIndexOutOfBoundsException"
def RJx9f9b0 : String := "java/lang/CharSequence"
def RJx8e188 : String := "java/lang/Cloneable"
def RJxb160c : String := "java/lang/Comparable"
def RJxabbfe : String := "java/lang/Integer$IntegerCache"
def RJ6 : String := "java/lang/Integer"
def RJxab1ab : String := "java/lang/Iterable"
def RJ9 : String := "java/lang/Math"
def RJxd2413 : String := "java/lang/Number"
def RJ0 : String := "java/lang/String"
def RJ4 : String := "java/lang/StringBuilder"
def RJ1 : String := "java/lang/StringLatin1"
def RJ2 : String := "java/lang/StringUTF16"
def RJ10 : String := "java/lang/System"
def RJxfd54e : String := "java/lang/constant/Constable"
def RJx3cf43 : String := "java/lang/constant/ConstantDesc"
def RJxa1e45 : String := "java/util/AbstractCollection"
abbrev cJxa1e45_init_da8c8 : ByteArray := prog_45_method_1_code
def RJxc12de : String := "java/util/AbstractList"
abbrev cJxc12de_init_da8c8 : ByteArray := prog_46_method_1_code
def RJx35411 : String := "java/util/ArrayList$Itr"
def TJx35411 : u_T := fun k => match k with
  | 0 => ("java/util/ArrayList$Itr", "cursor", "I", false)
  | 1 => ("java/util/ArrayList$Itr", "lastRet", "I", false)
  | 2 => ("java/util/ArrayList$Itr", "expectedModCount", "I", false)
  | _ => ("java/util/ArrayList$Itr", "this$0", "Ljava/util/ArrayList;", true)
def tyJx35411 : Nat → FieldType := fun k => match k with
  | 0 => .int
  | 1 => .int
  | 2 => .int
  | _ => .object "java/util/ArrayList"
theorem nmJx35411 : ∀ a, a < 4 → ∀ b, b < 4 → a ≠ b → (TJx35411 a).2.1 ≠ (TJx35411 b).2.1 := by decide +kernel
theorem tyJx35411_ok : ∀ k, k < 4 → parseFieldDescriptor (TJx35411 k).2.2.1 = some (tyJx35411 k) := by decide +kernel
abbrev cJx35411_init_45d68 : ByteArray := prog_48_method_1_code
abbrev cJx35411_hasNext_aae02 : ByteArray := prog_48_method_2_code
def RJx4a65c : String := "java/util/ArrayList"
def TJx4a65c : u_T := fun k => match k with
  | 0 => ("java/util/AbstractList", "modCount", "I", false)
  | 1 => ("java/util/ArrayList", "elementData", "[Ljava/lang/Object;", false)
  | _ => ("java/util/ArrayList", "size", "I", false)
def tyJx4a65c : Nat → FieldType := fun k => match k with
  | 0 => .int
  | 1 => .array (.object "java/lang/Object")
  | _ => .int
theorem nmJx4a65c : ∀ a, a < 3 → ∀ b, b < 3 → a ≠ b → (TJx4a65c a).2.1 ≠ (TJx4a65c b).2.1 := by decide +kernel
theorem tyJx4a65c_ok : ∀ k, k < 3 → parseFieldDescriptor (TJx4a65c k).2.2.1 = some (tyJx4a65c k) := by decide +kernel
abbrev cJx4a65c_init_da8c8 : ByteArray := prog_47_method_2_code
abbrev cJx4a65c_grow_92f84 : ByteArray := prog_47_method_6_code
abbrev cJx4a65c_grow_d5877 : ByteArray := prog_47_method_7_code
abbrev cJx4a65c_size_8abf5 : ByteArray := prog_47_method_8_code
abbrev cJx4a65c_isEmpty_aae02 : ByteArray := prog_47_method_9_code
abbrev cJx4a65c_add_72be8 : ByteArray := prog_47_method_24_code
abbrev cJx4a65c_add_9ea2d : ByteArray := prog_47_method_25_code
abbrev cJx4a65c_clear_da8c8 : ByteArray := prog_47_method_40_code
abbrev cJx4a65c_iterator_32c93 : ByteArray := prog_47_method_55_code
def RJ7 : String := "java/util/Arrays"
abbrev cJ7_fill_53178 : ByteArray := prog_49_method_103_code
def RJx5ef63 : String := "java/util/Collection"
def RJx4d0d8 : String := "java/util/Iterator"
def RJxbd725 : String := "java/util/List"
def RJ15 : String := "java/util/Objects"
def RJxf0a74 : String := "java/util/RandomAccess"
def RJxa66e6 : String := "java/util/SequencedCollection"
def RJ8 : String := "jdk/internal/util/ArraysSupport"
def RJ3 : String := "jdk/internal/util/Preconditions"
def RL : String := "GoalmouthLaw"
abbrev cL_addClub : ByteArray := method_3_code
abbrev cL_addPlayer : ByteArray := method_4_code
abbrev cL_setWindow : ByteArray := method_5_code
abbrev cL_goOn : ByteArray := method_6_code
abbrev cL_sell : ByteArray := method_7_code
abbrev cL_lend : ByteArray := method_8_code
abbrev cL_callBack : ByteArray := method_9_code
abbrev cL_setDerby : ByteArray := method_10_code
abbrev cL_plan : ByteArray := method_11_code
abbrev cL_putOff : ByteArray := method_12_code
abbrev cL_fixture : ByteArray := method_13_code
abbrev cL_stateOf : ByteArray := method_14_code
abbrev cL_name : ByteArray := method_15_code
abbrev cL_kickOff : ByteArray := method_16_code
abbrev cL_goal : ByteArray := method_17_code
abbrev cL_card : ByteArray := method_18_code
abbrev cL_change : ByteArray := method_19_code
abbrev cL_end : ByteArray := method_20_code
abbrev cL_abandon : ByteArray := method_21_code
abbrev cL_appeal : ByteArray := method_22_code
abbrev cL_wipe : ByteArray := method_23_code
abbrev cL_ban : ByteArray := method_24_code
abbrev cL_yellows : ByteArray := method_25_code
abbrev cL_isGuilty : ByteArray := method_26_code
abbrev cL_resultOf : ByteArray := method_27_code
abbrev cL_takePoints : ByteArray := method_28_code
abbrev cL_strike : ByteArray := method_29_code
abbrev cL_clubAt : ByteArray := method_30_code
abbrev cL_points : ByteArray := method_31_code
abbrev cL_divisionOf : ByteArray := method_32_code
abbrev cL_registered : ByteArray := method_33_code
abbrev cL_endSeason : ByteArray := method_34_code
abbrev cL_overShare : ByteArray := method_35_code
abbrev cL_meanGoals : ByteArray := method_36_code
abbrev cL_law : ByteArray := code
def yJ7_fill_53178 : MethodName := ⟨RJ7, "fill", "([II)V"⟩
def yJx35411_hasNext_aae02 : MethodName := ⟨RJx35411, "hasNext", "()Z"⟩
def yJx35411_init_45d68 : MethodName := ⟨RJx35411, "<init>", "(Ljava/util/ArrayList;)V"⟩
def yJx4a65c_add_72be8 : MethodName := ⟨RJx4a65c, "add", "(Ljava/lang/Object;[Ljava/lang/Object;I)V"⟩
def yJx4a65c_add_9ea2d : MethodName := ⟨RJx4a65c, "add", "(Ljava/lang/Object;)Z"⟩
def yJx4a65c_clear_da8c8 : MethodName := ⟨RJx4a65c, "clear", "()V"⟩
def yJx4a65c_grow_92f84 : MethodName := ⟨RJx4a65c, "grow", "(I)[Ljava/lang/Object;"⟩
def yJx4a65c_grow_d5877 : MethodName := ⟨RJx4a65c, "grow", "()[Ljava/lang/Object;"⟩
def yJx4a65c_init_da8c8 : MethodName := ⟨RJx4a65c, "<init>", "()V"⟩
def yJx4a65c_isEmpty_aae02 : MethodName := ⟨RJx4a65c, "isEmpty", "()Z"⟩
def yJx4a65c_iterator_32c93 : MethodName := ⟨RJx4a65c, "iterator", "()Ljava/util/Iterator;"⟩
def yJx4a65c_size_8abf5 : MethodName := ⟨RJx4a65c, "size", "()I"⟩
def yJxa1e45_init_da8c8 : MethodName := ⟨RJxa1e45, "<init>", "()V"⟩
def yJxc12de_init_da8c8 : MethodName := ⟨RJxc12de, "<init>", "()V"⟩
def yL_abandon : MethodName := ⟨RL, "abandon", "(LGoalmouth;Z[J)I"⟩
def yL_addClub : MethodName := ⟨RL, "addClub", "(LGoalmouth;III[J)I"⟩
def yL_addPlayer : MethodName := ⟨RL, "addPlayer", "(LGoalmouth;I[J)I"⟩
def yL_appeal : MethodName := ⟨RL, "appeal", "(LGoalmouth;IZ[J)I"⟩
def yL_ban : MethodName := ⟨RL, "ban", "(LGoalmouth;I[J)I"⟩
def yL_callBack : MethodName := ⟨RL, "callBack", "(LGoalmouth;I[J)I"⟩
def yL_card : MethodName := ⟨RL, "card", "(LGoalmouth;IZ[J)I"⟩
def yL_change : MethodName := ⟨RL, "change", "(LGoalmouth;II[J)I"⟩
def yL_clubAt : MethodName := ⟨RL, "clubAt", "(LGoalmouth;II[J)I"⟩
def yL_divisionOf : MethodName := ⟨RL, "divisionOf", "(LGoalmouth;I[J)I"⟩
def yL_end : MethodName := ⟨RL, "end", "(LGoalmouth;[J)I"⟩
def yL_endSeason : MethodName := ⟨RL, "endSeason", "(LGoalmouth;[J)I"⟩
def yL_fixture : MethodName := ⟨RL, "fixture", "(LGoalmouth;IC[J)I"⟩
def yL_goOn : MethodName := ⟨RL, "goOn", "(LGoalmouth;I[J)I"⟩
def yL_goal : MethodName := ⟨RL, "goal", "(LGoalmouth;I[J)I"⟩
def yL_isGuilty : MethodName := ⟨RL, "isGuilty", "(LGoalmouth;IZ[J)I"⟩
def yL_kickOff : MethodName := ⟨RL, "kickOff", "(LGoalmouth;I[J)I"⟩
def yL_lend : MethodName := ⟨RL, "lend", "(LGoalmouth;II[J)I"⟩
def yL_meanGoals : MethodName := ⟨RL, "meanGoals", "(LGoalmouth;[D)I"⟩
def yL_name : MethodName := ⟨RL, "name", "(LGoalmouth;IZI[J)I"⟩
def yL_overShare : MethodName := ⟨RL, "overShare", "(LGoalmouth;[D)I"⟩
def yL_plan : MethodName := ⟨RL, "plan", "(LGoalmouth;I[J)I"⟩
def yL_points : MethodName := ⟨RL, "points", "(LGoalmouth;I[J)I"⟩
def yL_putOff : MethodName := ⟨RL, "putOff", "(LGoalmouth;II[J)I"⟩
def yL_registered : MethodName := ⟨RL, "registered", "(LGoalmouth;I[J)I"⟩
def yL_resultOf : MethodName := ⟨RL, "resultOf", "(LGoalmouth;I[J)I"⟩
def yL_sell : MethodName := ⟨RL, "sell", "(LGoalmouth;III[J)I"⟩
def yL_setDerby : MethodName := ⟨RL, "setDerby", "(LGoalmouth;IIZ[J)I"⟩
def yL_setWindow : MethodName := ⟨RL, "setWindow", "(LGoalmouth;II[J)I"⟩
def yL_stateOf : MethodName := ⟨RL, "stateOf", "(LGoalmouth;I[J)I"⟩
def yL_strike : MethodName := ⟨RL, "strike", "(LGoalmouth;IZ[J)I"⟩
def yL_takePoints : MethodName := ⟨RL, "takePoints", "(LGoalmouth;II[J)I"⟩
def yL_wipe : MethodName := ⟨RL, "wipe", "(LGoalmouth;[J)I"⟩
def yL_yellows : MethodName := ⟨RL, "yellows", "(LGoalmouth;I[J)I"⟩
def yX0_count : MethodName := ⟨RX0, "count", "(LGoalmouth$Event;)V"⟩
def yX0_countAnew : MethodName := ⟨RX0, "countAnew", "()V"⟩
def yX0_init : MethodName := ⟨RX0, "<init>", "()V"⟩
def yX0_isFull : MethodName := ⟨RX0, "isFull", "()Z"⟩
def yX0_isSameAnew : MethodName := ⟨RX0, "isSameAnew", "()Z"⟩
def yX0_playersWithYellows : MethodName := ⟨RX0, "playersWithYellows", "()I"⟩
def yX0_write : MethodName := ⟨RX0, "write", "(LGoalmouth$Event;)V"⟩
def yX11_init : MethodName := ⟨RX11, "<init>", "(III)V"⟩
def yX12_init : MethodName := ⟨RX12, "<init>", "(CLGoalmouthModel$Match;IZ)V"⟩
def yX15_abandon : MethodName := ⟨RX15, "abandon", "(Z)I"⟩
def yX15_addClub : MethodName := ⟨RX15, "addClub", "(III)I"⟩
def yX15_addPlayer : MethodName := ⟨RX15, "addPlayer", "(I)I"⟩
def yX15_appeal : MethodName := ⟨RX15, "appeal", "(IZ)Z"⟩
def yX15_ban : MethodName := ⟨RX15, "ban", "(I)I"⟩
def yX15_callBack : MethodName := ⟨RX15, "callBack", "(I)I"⟩
def yX15_card : MethodName := ⟨RX15, "card", "(IZ)I"⟩
def yX15_change : MethodName := ⟨RX15, "change", "(II)I"⟩
def yX15_clubAt : MethodName := ⟨RX15, "clubAt", "(II)I"⟩
def yX15_clubsIn : MethodName := ⟨RX15, "clubsIn", "(I)I"⟩
def yX15_counting : MethodName := ⟨RX15, "counting", "(I)Ljava/util/List;"⟩
def yX15_divisionOf : MethodName := ⟨RX15, "divisionOf", "(I)I"⟩
def yX15_end : MethodName := ⟨RX15, "end", "()I"⟩
def yX15_endSeason : MethodName := ⟨RX15, "endSeason", "()I"⟩
def yX15_fixture : MethodName := ⟨RX15, "fixture", "(IC)I"⟩
def yX15_goOn : MethodName := ⟨RX15, "goOn", "(I)I"⟩
def yX15_goal : MethodName := ⟨RX15, "goal", "(I)I"⟩
def yX15_goesThrough : MethodName := ⟨RX15, "goesThrough", "()V"⟩
def yX15_hasFixtures : MethodName := ⟨RX15, "hasFixtures", "(I)Z"⟩
def yX15_init : MethodName := ⟨RX15, "<init>", "()V"⟩
def yX15_isClub : MethodName := ⟨RX15, "isClub", "(I)Z"⟩
def yX15_isGuilty : MethodName := ⟨RX15, "isGuilty", "(IZ)Z"⟩
def yX15_isIn : MethodName := ⟨RX15, "isIn", "(JJJ)Z"⟩
def yX15_isOpen : MethodName := ⟨RX15, "isOpen", "()Z"⟩
def yX15_isPlayer : MethodName := ⟨RX15, "isPlayer", "(I)Z"⟩
def yX15_isSound : MethodName := ⟨RX15, "isSound", "()Z"⟩
def yX15_kickOff : MethodName := ⟨RX15, "kickOff", "(I)I"⟩
def yX15_lend : MethodName := ⟨RX15, "lend", "(II)I"⟩
def yX15_meanGoals : MethodName := ⟨RX15, "meanGoals", "()D"⟩
def yX15_money : MethodName := ⟨RX15, "money", "()J"⟩
def yX15_name : MethodName := ⟨RX15, "name", "(IZI)I"⟩
def yX15_no : MethodName := ⟨RX15, "no", "(ZI)Z"⟩
def yX15_noMatch : MethodName := ⟨RX15, "noMatch", "(I)Z"⟩
def yX15_noOn : MethodName := ⟨RX15, "noOn", "(I)Z"⟩
def yX15_over : MethodName := ⟨RX15, "over", "()I"⟩
def yX15_overShare : MethodName := ⟨RX15, "overShare", "()F"⟩
def yX15_plan : MethodName := ⟨RX15, "plan", "(I)I"⟩
def yX15_points : MethodName := ⟨RX15, "points", "(I)I"⟩
def yX15_putOff : MethodName := ⟨RX15, "putOff", "(II)I"⟩
def yX15_registered : MethodName := ⟨RX15, "registered", "(I)I"⟩
def yX15_resultOf : MethodName := ⟨RX15, "resultOf", "(I)I"⟩
def yX15_sell : MethodName := ⟨RX15, "sell", "(III)I"⟩
def yX15_setDerby : MethodName := ⟨RX15, "setDerby", "(IIZ)Z"⟩
def yX15_setWindow : MethodName := ⟨RX15, "setWindow", "(II)Z"⟩
def yX15_stateOf : MethodName := ⟨RX15, "stateOf", "(I)C"⟩
def yX15_strike : MethodName := ⟨RX15, "strike", "(IZ)Z"⟩
def yX15_table : MethodName := ⟨RX15, "table", "(I)Ljava/util/List;"⟩
def yX15_takePoints : MethodName := ⟨RX15, "takePoints", "(II)I"⟩
def yX15_thrown : MethodName := ⟨RX15, "thrown", "()I"⟩
def yX15_wipe : MethodName := ⟨RX15, "wipe", "()I"⟩
def yX15_yellows : MethodName := ⟨RX15, "yellows", "(I)I"⟩
def yX2_init : MethodName := ⟨RX2, "<init>", "(IIII)V"⟩
def yX3_init : MethodName := ⟨RX3, "<init>", "(ILGoalmouth$Side;II)V"⟩
def yX5_init : MethodName := ⟨RX5, "<init>", "()V"⟩
def yX8_addRows : MethodName := ⟨RX8, "addRows", "(ILjava/util/ArrayList;Z)V"⟩
def yX8_countAmong : MethodName := ⟨RX8, "countAmong", "(IILjava/util/ArrayList;)V"⟩
def yX8_draw : MethodName := ⟨RX8, "draw", "(ILjava/util/ArrayList;Ljava/util/ArrayList;)V"⟩
def yX8_firstToRise : MethodName := ⟨RX8, "firstToRise", "()LGoalmouth$Club;"⟩
def yX8_init : MethodName := ⟨RX8, "<init>", "()V"⟩
def yX8_partTies : MethodName := ⟨RX8, "partTies", "(IILjava/util/ArrayList;I)V"⟩
def yX8_sort : MethodName := ⟨RX8, "sort", "(II)V"⟩
def yX9_abandon : MethodName := ⟨RX9, "abandon", "(Z)I"⟩
def yX9_addClub : MethodName := ⟨RX9, "addClub", "(III)I"⟩
def yX9_addPlayer : MethodName := ⟨RX9, "addPlayer", "(I)I"⟩
def yX9_appeal : MethodName := ⟨RX9, "appeal", "(IZ)Z"⟩
def yX9_ban : MethodName := ⟨RX9, "ban", "(I)I"⟩
def yX9_callBack : MethodName := ⟨RX9, "callBack", "(I)I"⟩
def yX9_card : MethodName := ⟨RX9, "card", "(IZ)I"⟩
def yX9_change : MethodName := ⟨RX9, "change", "(II)I"⟩
def yX9_clearSeason : MethodName := ⟨RX9, "clearSeason", "()V"⟩
def yX9_clubAt : MethodName := ⟨RX9, "clubAt", "(II)I"⟩
def yX9_clubsIn : MethodName := ⟨RX9, "clubsIn", "(I)I"⟩
def yX9_divisionOf : MethodName := ⟨RX9, "divisionOf", "(I)I"⟩
def yX9_end : MethodName := ⟨RX9, "end", "()I"⟩
def yX9_endSeason : MethodName := ⟨RX9, "endSeason", "()I"⟩
def yX9_fixture : MethodName := ⟨RX9, "fixture", "(IC)I"⟩
def yX9_fixturesOver : MethodName := ⟨RX9, "fixturesOver", "()I"⟩
def yX9_goOn : MethodName := ⟨RX9, "goOn", "(I)I"⟩
def yX9_goal : MethodName := ⟨RX9, "goal", "(I)I"⟩
def yX9_hasFixtures : MethodName := ⟨RX9, "hasFixtures", "(I)Z"⟩
def yX9_init : MethodName := ⟨RX9, "<init>", "()V"⟩
def yX9_isDivision : MethodName := ⟨RX9, "isDivision", "(I)Z"⟩
def yX9_isFixtureLeft : MethodName := ⟨RX9, "isFixtureLeft", "()Z"⟩
def yX9_isGuilty : MethodName := ⟨RX9, "isGuilty", "(IZ)Z"⟩
def yX9_isSound : MethodName := ⟨RX9, "isSound", "()Z"⟩
def yX9_isWindowOpen : MethodName := ⟨RX9, "isWindowOpen", "()Z"⟩
def yX9_isWithin : MethodName := ⟨RX9, "isWithin", "(III)Z"⟩
def yX9_kickOff : MethodName := ⟨RX9, "kickOff", "(I)I"⟩
def yX9_knownBit : MethodName := ⟨RX9, "knownBit", "(I)I"⟩
def yX9_knownClub : MethodName := ⟨RX9, "knownClub", "(I)LGoalmouth$Club;"⟩
def yX9_knownFixture : MethodName := ⟨RX9, "knownFixture", "(I)LGoalmouth$Fixture;"⟩
def yX9_knownMatch : MethodName := ⟨RX9, "knownMatch", "()LGoalmouth$Fixture;"⟩
def yX9_knownPlayer : MethodName := ⟨RX9, "knownPlayer", "(I)LGoalmouth$Player;"⟩
def yX9_lend : MethodName := ⟨RX9, "lend", "(II)I"⟩
def yX9_meanGoals : MethodName := ⟨RX9, "meanGoals", "()D"⟩
def yX9_money : MethodName := ⟨RX9, "money", "()J"⟩
def yX9_name : MethodName := ⟨RX9, "name", "(IZI)I"⟩
def yX9_overShare : MethodName := ⟨RX9, "overShare", "()F"⟩
def yX9_plan : MethodName := ⟨RX9, "plan", "(I)I"⟩
def yX9_points : MethodName := ⟨RX9, "points", "(I)I"⟩
def yX9_putOff : MethodName := ⟨RX9, "putOff", "(II)I"⟩
def yX9_registered : MethodName := ⟨RX9, "registered", "(I)I"⟩
def yX9_resultOf : MethodName := ⟨RX9, "resultOf", "(I)I"⟩
def yX9_sell : MethodName := ⟨RX9, "sell", "(III)I"⟩
def yX9_setDerby : MethodName := ⟨RX9, "setDerby", "(IIZ)Z"⟩
def yX9_setWindow : MethodName := ⟨RX9, "setWindow", "(II)Z"⟩
def yX9_stateOf : MethodName := ⟨RX9, "stateOf", "(I)C"⟩
def yX9_strike : MethodName := ⟨RX9, "strike", "(IZ)Z"⟩
def yX9_takePoints : MethodName := ⟨RX9, "takePoints", "(II)I"⟩
def yX9_wipe : MethodName := ⟨RX9, "wipe", "()I"⟩
def yX9_yellows : MethodName := ⟨RX9, "yellows", "(I)I"⟩
def yF0 : MethodName := ⟨"java/util/List", "size", "()I"⟩
def yF1 : MethodName := ⟨"java/util/List", "add", "(Ljava/lang/Object;)Z"⟩
def yF2 : MethodName := ⟨"java/util/List", "iterator", "()Ljava/util/Iterator;"⟩
def yF3 : MethodName := ⟨"java/util/Iterator", "hasNext", "()Z"⟩
def yF4 : MethodName := ⟨"java/util/List", "clear", "()V"⟩
def yF5 : MethodName := ⟨"java/util/List", "isEmpty", "()Z"⟩
def vwC9 : List vw_C := [(RJx35411, TJx35411, 4), (RJx4a65c, TJx4a65c, 3), (RX0, TX0, 6), (RX2, TX2, 15), (RX3, TX3, 6), (RX5, TX5, 7), (RX8, TX8, 1), (RX9, TX9, 10), (RX11, TX11, 6), (RX12, TX12, 5), (RX15, TX15, 13)]
/-! tables: the words that the rows rest on, and numbers for owners, fields, calls, throws -/
def clsN : List String := [RJ7, RJx35411, RJx4a65c, RJxa1e45, RJxc12de, RL, RX0, RX11, RX12, RX15, RX2, RX3, RX5, RX8, RX9]
/-- the words that stand at these gaps -/
def pickG : List Nat → List Cond → List Cond
  | [], _ => []
  | g :: gs, l => match l.drop g with
    | [] => []
    | c :: r => c :: pickG gs r
def lwB : List Cond := pickG [0, 5, 0, 0, 0, 0, 0, 0, 0, 2, 1, 1, 2, 0, 0, 0, 1, 0, 0, 0, 0, 0, 0, 0, 0, 2, 2, 1, 3, 0, 7, 0, 0, 0, 0, 0, 0, 0, 0, 0, 3, 2, 0, 1, 0, 0, 0, 1, 0, 12, 0, 5, 0, 0, 0, 0, 0, 0, 0, 0, 0, 0, 0, 0, 0, 0, 0, 0, 0, 0, 0, 0, 0, 1, 1, 0, 0, 0, 0, 0, 0, 1, 1, 2, 0, 0, 0, 0, 0, 0, 0, 0, 0, 0, 0, 1, 1, 0, 0, 1, 1, 1, 1, 1, 2, 0, 0, 0, 0, 0, 0, 0, 0, 0, 0, 0, 0, 0, 0, 1, 1, 1, 1, 1, 1, 1, 2, 0, 0, 0, 0, 0, 0, 0, 0, 0, 1, 2, 0, 0, 0, 0, 0, 0, 0, 0, 0, 0, 1, 1, 1, 1, 1, 1, 1, 1, 1, 2, 0, 0, 0, 0, 0, 0, 0, 14, 0, 0, 0, 0, 25, 0, 0, 0, 0, 0, 0, 0, 0, 0, 0, 0, 0, 0, 0, 2, 1, 0, 13, 0, 18, 0, 0, 0, 0, 0, 0, 0, 0, 0, 0, 0, 0, 0, 0, 0, 0, 0, 1, 69, 1, 0, 0, 1, 13, 0, 0, 0, 0, 0, 0, 1, 2, 1, 3, 18, 1, 1, 1, 1, 1, 1, 1, 1, 1, 1, 1, 1, 1, 1, 2, 0, 0, 0, 0, 1, 0, 0, 1, 0, 0, 1, 0, 47, 5, 0, 0, 0, 0, 0, 23, 0, 0, 0, 0, 1, 0, 0, 1, 30, 0, 0, 0, 0, 0, 0, 1, 1, 0, 0, 0, 0, 0, 0, 0, 0, 2, 0, 0, 0, 0, 0, 0, 0, 0, 1, 0, 8, 16, 0, 0, 0, 0, 0, 0, 2, 0, 0, 0, 0, 0, 0, 1, 0, 0, 0, 0, 0, 0, 9, 0, 0, 0, 0, 0, 0, 0, 1, 1, 0, 6, 0, 0, 20, 100, 0, 0, 0, 0, 0, 0, 0, 1, 0, 16, 0, 0, 0, 0, 0, 0, 1, 0, 0, 0, 0, 0, 0, 0, 0, 0, 0, 0, 0, 0, 0, 1, 0, 14, 0, 0, 0, 0, 0, 0, 1, 0, 0, 0, 9, 0, 0, 0, 0, 0, 0, 0, 0, 1, 1, 5, 1, 1, 1, 1, 1, 2, 0, 0, 0, 0, 0, 0, 0, 0, 0, 0, 0, 0, 1, 0, 10, 0, 0, 0, 0, 0, 0, 21, 0, 0, 0, 0, 0, 0, 6, 0, 0, 0, 0, 0, 0, 8, 0, 0, 0, 0, 0, 0, 0, 0, 0, 0, 0, 0, 0, 2, 0, 0, 0, 0, 0, 0, 0, 0, 0, 0, 0, 0, 0, 0, 0, 0, 0, 0, 0, 0, 0, 0, 0, 0, 0, 0, 0, 0, 0, 0, 0, 1, 0, 0, 0, 0, 0, 0, 2, 0, 0, 0, 0, 0, 0, 1, 0, 0, 0, 0, 0, 0, 0, 0, 0, 0, 0, 0, 0, 1, 0, 0, 0, 0, 0, 2, 1, 0, 1, 1, 0, 12, 1, 0, 4, 1, 0, 4, 0, 0, 0, 0, 0, 0, 0, 0, 0, 0, 0, 0, 0, 0, 0, 0, 0, 0, 0, 0, 0, 0, 0, 0, 0, 0, 0, 0, 1, 0, 5, 0, 0, 0, 5, 1, 0, 1, 0, 0, 0, 0, 0, 0, 11, 1, 0, 0, 0, 0, 2, 1, 0, 0, 0, 0, 0, 0, 0, 0, 2, 0, 0, 0, 0, 0, 0, 0, 0, 0, 0, 0, 0, 0, 0, 0, 0, 0, 0, 0, 0, 0, 1, 1, 1, 1, 1, 1, 1, 1, 1, 1, 1, 1, 2, 0, 0, 0, 0, 0, 0, 0, 0, 0, 0, 0, 0, 0, 1, 0, 0, 1, 0, 1, 0, 0, 0, 0, 0, 0, 0, 0, 0, 0, 0, 0, 0, 0, 0, 0, 0, 0, 0, 1, 1, 1, 3, 0, 0, 0, 0, 0, 0, 0, 0, 24, 1, 0, 0, 0, 0, 0, 0, 0, 0, 0, 0, 0, 1, 1, 1, 1, 1, 1, 1, 1, 1, 1, 1, 3, 0, 0, 0, 0, 0, 0, 0, 0, 0, 0, 1, 0, 19, 0, 0, 0, 0, 0, 1, 0, 0, 0, 0, 0, 0, 0, 0, 0, 0, 0, 1, 0, 11, 0, 0, 0, 0, 0, 0, 0, 0, 0, 0, 0, 0, 0, 0, 0, 0, 1, 0, 85, 0, 0, 0, 0, 1, 0, 8, 0, 0, 0, 0, 0, 0, 0, 0, 0, 0, 0, 81, 0, 0, 0, 22, 1, 0, 0, 10, 0, 0, 0, 0, 0, 0, 0, 1, 1, 1, 1, 1, 1, 1, 1, 1, 2, 0, 0, 0, 0, 1, 0, 7, 0, 0, 0, 35, 0, 0, 0, 0, 0, 0, 0, 4, 0, 0, 0, 0, 0, 0, 0, 0, 0, 0, 0, 0, 0, 0, 0, 0, 0, 0, 0, 0, 0, 0, 0, 0, 0, 0, 0, 3, 0, 0, 0, 1, 0, 0, 0, 0, 0, 0, 0, 0, 1, 0, 0, 1, 0, 1, 0, 0, 0, 0, 0, 302, 0, 0, 0, 0, 0, 0, 0, 0, 0, 0, 0, 0, 0, 0, 0, 1, 0, 0, 0, 0, 0, 0, 0, 0, 0, 0, 0, 0, 0, 0, 1, 0, 0, 0, 0, 0, 0, 0, 0, 0, 0, 0, 19, 2, 8, 0] lw_tbl
def lwA : List Cond := lwB ++ ((vx_atS RX9 69 "java/lang/IllegalArgumentException" ["java/lang/RuntimeException", "java/lang/Exception"]) ++ (vx_atS RX9 360 "java/lang/IndexOutOfBoundsException" ["java/lang/RuntimeException", "java/lang/Exception"]) ++ (vx_atS RX9 80 "java/lang/IllegalStateException" ["java/lang/RuntimeException", "java/lang/Exception"]) ++ (vx_atS RX9 435 "java/lang/ArithmeticException" ["java/lang/RuntimeException", "java/lang/Exception"]))
def fT : List (Nat × Nat × Nat × Nat × Nat × Bool) := [(1, 25, 0, 0, 0, false), (1, 1, 0, 3, 4, true), (1, 13, 0, 1, 0, false), (1, 17, 1, 0, 0, false), (1, 22, 0, 2, 0, false), (2, 48, 1, 2, 0, false), (2, 63, 1, 0, 0, false), (2, 9, 1, 1, 4, false), (4, 7, 1, 0, 0, false), (6, 77, 4, 0, 3, true), (6, 25, 2, 3, 4, true), (6, 21, 2, 2, 4, true), (6, 12, 2, 0, 4, true), (6, 18, 2, 1, 4, true), (6, 28, 2, 4, 4, true), (6, 31, 2, 5, 4, true), (7, 7, 8, 3, 0, false), (7, 13, 8, 4, 0, false), (7, 16, 8, 5, 1, false), (7, 20, 8, 2, 0, false), (7, 23, 8, 0, 0, true), (7, 26, 8, 1, 0, true), (8, 10, 9, 4, 4, true), (8, 16, 9, 0, 2, true), (8, 20, 9, 1, 4, true), (8, 24, 9, 2, 0, true), (8, 28, 9, 3, 1, true), (9, 46, 10, 12, 4, false), (9, 10, 10, 0, 4, true), (9, 22, 10, 3, 4, true), (9, 19, 10, 2, 4, true), (9, 25, 10, 4, 4, true), (9, 174, 10, 9, 0, false), (9, 32, 10, 6, 4, true), (9, 36, 10, 7, 4, true), (9, 16, 10, 1, 4, true), (9, 28, 10, 5, 4, true), (9, 39, 10, 10, 0, false), (9, 43, 10, 11, 0, false), (9, 50, 10, 8, 0, false), (10, 9, 3, 0, 0, true), (10, 15, 3, 3, 0, false), (10, 18, 3, 1, 0, true), (10, 21, 3, 2, 0, true), (10, 24, 3, 4, 0, false), (11, 7, 4, 0, 0, true), (11, 13, 4, 1, 4, true), (11, 17, 4, 2, 0, true), (11, 20, 4, 3, 0, true), (12, 12, 5, 0, 4, true), (12, 18, 5, 1, 4, true), (12, 21, 5, 2, 4, true), (12, 25, 5, 3, 4, true), (12, 28, 5, 4, 4, true), (12, 31, 5, 5, 4, true), (13, 12, 6, 0, 4, true), (14, 10, 7, 0, 4, true), (14, 94, 3, 0, 3, true), (14, 25, 7, 3, 4, true), (14, 268, 2, 1, 3, true), (14, 19, 7, 2, 4, true), (14, 53, 7, 9, 4, false), (14, 39, 7, 5, 4, true), (14, 43, 7, 6, 0, false), (14, 16, 7, 1, 4, true), (14, 32, 7, 4, 4, true), (14, 47, 7, 7, 0, false), (14, 50, 7, 8, 0, false)]
def fnT : List (Nat × Nat × Nat × Nat) := [(1, 28, 1, 2)]
abbrev rVv : Type := Value ⊕ (Bool × Nat)
def newT : List (Nat × Nat × Nat × Nat × List rVv) := [(5, 8, 7, 10, [.inl .null, .inl .null, .inl .null, .inl .null, .inl .null, .inl .null, .inl (.int 0), .inl (.int 0), .inl (.int 0), .inl .null]), (5, 138, 10, 13, [.inl .null, .inl .null, .inl .null, .inl .null, .inl .null, .inl .null, .inl .null, .inl .null, .inl (.int 0), .inl (.int 0), .inl (.int 0), .inl (.int 0), .inl .null]), (2, 267, 0, 4, [.inl (.int 0), .inl (.int 0), .inl (.int 0), .inl .null]), (6, 9, 1, 3, [.inl (.int 0), .inl .null, .inl (.int 0)]), (8, 7, 1, 3, [.inl (.int 0), .inl .null, .inl (.int 0)]), (9, 146, 8, 6, [.inl (.int 0), .inl (.int 0), .inl (.int 0), .inl (.int 0), .inl (.int 0), .inl (.int 0)]), (9, 7, 1, 3, [.inl (.int 0), .inl .null, .inl (.int 0)]), (9, 81, 9, 5, [.inl (.int 0), .inl .null, .inl (.int 0), .inl (.int 0), .inl .null]), (12, 9, 1, 3, [.inl (.int 0), .inl .null, .inl (.int 0)]), (13, 9, 1, 3, [.inl (.int 0), .inl .null, .inl (.int 0)]), (14, 81, 3, 15, [.inl (.int 0), .inl (.int 0), .inl (.int 0), .inl (.int 0), .inl (.int 0), .inl (.int 0), .inl (.int 0), .inl (.int 0), .inl (.int 0), .inl (.int 0), .inl (.int 0), .inl (.int 0), .inl (.int 0), .inl (.int 0), .inl (.int 0)]), (14, 288, 4, 6, [.inl (.int 0), .inl .null, .inl (.int 0), .inl (.int 0), .inl (.int 0), .inl (.int 0)]), (14, 7, 1, 3, [.inl (.int 0), .inl .null, .inl (.int 0)]), (14, 22, 2, 6, [.inl .null, .inl .null, .inl .null, .inl .null, .inl .null, .inl .null]), (14, 29, 5, 7, [.inl .null, .inl .null, .inl .null, .inl .null, .inl .null, .inl .null, .inl (.int 0)]), (14, 36, 6, 1, [.inl .null])]
def anT : List (Nat × Nat) := [(2, 7)]
def gsT : List (Nat × Nat) := [(2, 39)]
def oiT : List (Nat × Nat) := [(1, 7), (3, 1), (6, 3), (7, 1), (8, 1), (9, 1), (10, 3), (11, 1), (12, 3), (13, 3), (14, 1)]
def mxT : List (Nat × Nat) := [(2, 79)]
def acT : List (Nat × Nat) := [(6, 68)]
def ldT : List (Nat × Nat × Int64) := [(9, 151, 7), (9, 153, 3), (9, 182, 99), (9, 177, 9999), (14, 454, 1000)]
def caT : List Nat := [3, 4, 8, 9]
def rSw : Array Int := #[160, 240, 296, 371, 427, 507, 575, 631, 734, 790, 858, 928, 984, 1080, 1136, 1192, 1276, 1344, 1388, 1460, 1551, 1595, 1651, 1707, 1798, 1854, 1922, 2013, 2081, 2137, 2193, 2249, 2293, 2307, 2373, 2438]
/-- calls: the sort (0 virtual, 1 special, 2 static, 3 a nest mate's constructor, 4 by interface, 5 static with a table), whose code, by which entry, which method, how many values it takes, the kind of the receiver, the count -/
def cT : List (Nat × Nat × Nat × Nat × Nat × Nat × Nat) := [(1, 5, 137, 138, 1, 0, 0), (1, 5, 140, 77, 1, 0, 0), (5, 5, 141, 16, 5, 0, 0), (0, 5, 146, 59, 4, 10, 0), (0, 5, 147, 106, 1, 10, 0), (5, 5, 150, 17, 3, 0, 0), (0, 5, 153, 60, 2, 10, 0), (5, 5, 154, 43, 4, 0, 0), (0, 5, 157, 101, 3, 10, 0), (5, 5, 158, 28, 3, 0, 0), (0, 5, 160, 73, 2, 10, 0), (5, 5, 161, 41, 5, 0, 0), (0, 5, 163, 99, 4, 10, 0), (5, 5, 164, 32, 4, 0, 0), (0, 5, 166, 85, 3, 10, 0), (5, 5, 167, 20, 3, 0, 0), (0, 5, 169, 63, 2, 10, 0), (5, 5, 170, 42, 5, 0, 0), (0, 5, 173, 100, 4, 10, 0), (5, 5, 174, 36, 3, 0, 0), (0, 5, 176, 94, 2, 10, 0), (5, 5, 177, 38, 4, 0, 0), (0, 5, 179, 96, 3, 10, 0), (5, 5, 180, 27, 4, 0, 0), (0, 5, 183, 72, 3, 10, 0), (5, 5, 184, 44, 3, 0, 0), (0, 5, 186, 102, 2, 10, 0), (5, 5, 187, 34, 5, 0, 0), (0, 5, 190, 88, 4, 10, 0), (5, 5, 191, 31, 3, 0, 0), (0, 5, 193, 84, 2, 10, 0), (5, 5, 194, 29, 3, 0, 0), (0, 5, 196, 74, 2, 10, 0), (5, 5, 197, 21, 4, 0, 0), (0, 5, 200, 64, 3, 10, 0), (5, 5, 201, 22, 4, 0, 0), (0, 5, 203, 65, 3, 10, 0), (5, 5, 204, 25, 2, 0, 0), (0, 5, 207, 70, 1, 10, 0), (5, 5, 208, 15, 3, 0, 0), (0, 5, 211, 58, 2, 10, 0), (5, 5, 212, 18, 4, 0, 0), (0, 5, 214, 61, 3, 10, 0), (5, 5, 215, 47, 2, 0, 0), (0, 5, 217, 107, 1, 10, 0), (5, 5, 218, 19, 3, 0, 0), (0, 5, 220, 62, 2, 10, 0), (5, 5, 221, 48, 3, 0, 0), (0, 5, 223, 108, 2, 10, 0), (5, 5, 224, 30, 4, 0, 0), (0, 5, 226, 79, 3, 10, 0), (5, 5, 227, 40, 3, 0, 0), (0, 5, 229, 98, 2, 10, 0), (5, 5, 230, 46, 4, 0, 0), (0, 5, 232, 105, 3, 10, 0), (5, 5, 233, 45, 4, 0, 0), (0, 5, 235, 103, 3, 10, 0), (5, 5, 236, 23, 4, 0, 0), (0, 5, 238, 66, 3, 10, 0), (5, 5, 239, 37, 3, 0, 0), (0, 5, 241, 95, 2, 10, 0), (5, 5, 242, 24, 3, 0, 0), (0, 5, 244, 69, 2, 10, 0), (5, 5, 245, 39, 3, 0, 0), (0, 5, 247, 97, 2, 10, 0), (5, 5, 248, 26, 2, 0, 0), (0, 5, 250, 71, 1, 10, 0), (0, 5, 251, 153, 1, 7, 0), (0, 5, 255, 87, 1, 10, 0), (5, 5, 256, 35, 2, 0, 0), (0, 5, 259, 93, 1, 10, 0), (5, 5, 260, 33, 2, 0, 0), (0, 5, 262, 86, 1, 10, 0), (0, 5, 263, 142, 1, 7, 0), (0, 5, 267, 83, 1, 10, 0), (0, 2, 129, 8, 1, 1, 0), (0, 2, 131, 4, 4, 1, 0), (0, 2, 69, 7, 2, 1, 0), (1, 2, 1, 14, 1, 0, 0), (1, 2, 269, 3, 2, 0, 0), (1, 4, 1, 13, 1, 0, 0), (0, 5, 83, 119, 2, 7, 0), (0, 5, 7, 120, 4, 7, 0), (0, 5, 17, 121, 2, 7, 0), (0, 5, 87, 122, 3, 7, 0), (0, 5, 94, 123, 2, 7, 0), (0, 5, 39, 124, 2, 7, 0), (0, 5, 72, 125, 3, 7, 0), (0, 5, 76, 126, 3, 7, 0), (0, 5, 112, 128, 3, 7, 0), (0, 5, 118, 130, 2, 7, 0), (0, 5, 79, 131, 1, 7, 0), (0, 5, 124, 132, 1, 7, 0), (0, 5, 54, 133, 3, 7, 0), (0, 5, 27, 135, 2, 7, 0), (0, 5, 69, 136, 2, 7, 0), (0, 5, 100, 141, 3, 7, 0), (0, 5, 66, 145, 2, 7, 0), (0, 5, 35, 151, 3, 7, 0), (0, 5, 133, 152, 1, 7, 0), (0, 5, 62, 154, 4, 7, 0), (0, 5, 127, 155, 1, 7, 0), (0, 5, 46, 156, 2, 7, 0), (0, 5, 115, 157, 2, 7, 0), (0, 5, 51, 158, 3, 7, 0), (0, 5, 121, 159, 2, 7, 0), (0, 5, 103, 160, 2, 7, 0), (0, 5, 30, 161, 4, 7, 0), (0, 5, 42, 162, 4, 7, 0), (0, 5, 23, 163, 3, 7, 0), (0, 5, 58, 164, 2, 7, 0), (0, 5, 109, 165, 3, 7, 0), (0, 5, 106, 166, 3, 7, 0), (0, 5, 91, 167, 1, 7, 0), (0, 5, 97, 168, 2, 7, 0), (2, 6, 46, 1, 2, 0, 0), (0, 6, 34, 12, 1, 1, 0), (1, 6, 11, 9, 1, 0, 0), (0, 6, 74, 50, 1, 2, 0), (0, 6, 38, 5, 2, 1, 0), (0, 6, 42, 49, 2, 2, 0), (1, 8, 9, 9, 1, 0, 0), (0, 9, 63, 89, 3, 10, 0), (2, 9, 59, 80, 3, 0, 0), (0, 9, 155, 67, 2, 10, 0), (4, 9, 53, 12, 1, 1, 1), (1, 9, 158, 56, 4, 0, 0), (4, 9, 161, 5, 2, 1, 2), (0, 9, 165, 78, 2, 10, 0), (0, 9, 184, 82, 2, 10, 0), (0, 9, 265, 91, 2, 10, 0), (4, 9, 67, 11, 1, 1, 1), (4, 9, 71, 2, 1, 0, 1), (1, 9, 9, 9, 1, 0, 0), (0, 9, 253, 75, 1, 10, 0), (0, 9, 344, 104, 2, 10, 0), (4, 9, 350, 6, 1, 1, 1), (1, 9, 256, 57, 5, 0, 0), (0, 9, 237, 90, 2, 10, 0), (0, 9, 353, 92, 1, 10, 0), (4, 9, 313, 10, 1, 1, 1), (0, 9, 224, 76, 2, 10, 0), (0, 9, 179, 81, 1, 10, 0), (0, 9, 305, 68, 2, 10, 0), (1, 12, 11, 9, 1, 0, 0), (0, 13, 21, 12, 1, 1, 0), (0, 13, 18, 6, 1, 1, 0), (0, 13, 35, 112, 4, 6, 0), (0, 13, 39, 113, 4, 6, 0), (0, 13, 65, 118, 3, 6, 0), (0, 13, 69, 117, 5, 6, 0), (1, 13, 11, 9, 1, 0, 0), (0, 14, 297, 149, 1, 7, 0), (2, 14, 57, 139, 1, 0, 0), (2, 14, 61, 144, 3, 0, 0), (0, 14, 72, 129, 2, 7, 0), (0, 14, 83, 12, 1, 1, 0), (1, 14, 87, 109, 5, 0, 0), (0, 14, 90, 5, 2, 1, 0), (0, 14, 97, 147, 2, 7, 0), (0, 14, 118, 150, 2, 7, 0), (0, 14, 237, 146, 2, 7, 0), (0, 14, 428, 6, 1, 1, 0), (1, 14, 290, 110, 5, 0, 0), (0, 14, 293, 55, 2, 2, 0), (0, 14, 410, 140, 1, 7, 0), (0, 14, 263, 52, 1, 2, 0), (0, 14, 397, 114, 4, 6, 0), (0, 14, 415, 115, 1, 6, 0), (0, 14, 422, 127, 1, 7, 0), (0, 14, 191, 148, 2, 7, 0), (1, 14, 9, 9, 1, 0, 0), (3, 14, 24, 51, 1, 0, 0), (3, 14, 31, 111, 1, 0, 0), (3, 14, 38, 116, 1, 0, 0), (0, 14, 448, 53, 1, 2, 0), (0, 14, 456, 153, 1, 7, 0), (0, 14, 436, 134, 1, 7, 0), (0, 14, 167, 137, 2, 7, 0), (0, 14, 110, 143, 1, 7, 0), (0, 14, 367, 54, 1, 2, 0)]
def tT : List (Nat × Nat × Nat × Nat × Nat × Bool) := [(14, 65, 67, 69, 0, false), (14, 356, 358, 360, 2, true), (14, 65, 165, 69, 0, false), (14, 356, 395, 360, 2, true), (14, 65, 114, 69, 0, false), (14, 356, 459, 360, 2, true), (14, 356, 463, 360, 2, true), (14, 76, 465, 80, 1, true), (14, 356, 461, 360, 2, true), (14, 431, 439, 435, 3, true), (14, 431, 433, 435, 3, true), (14, 76, 170, 80, 1, false), (14, 65, 108, 69, 0, false)]
def exN : List String := ["java/lang/IllegalArgumentException", "java/lang/IllegalStateException", "java/lang/IndexOutOfBoundsException", "java/lang/ArithmeticException", "java/lang/UnsupportedOperationException", "java/util/NoSuchElementException"]
/-- methods: owner, sort of its answer, its table, its locals, whether a constructor -/
def mI : List (Nat × Nat × List (Nat × Nat × Nat × Nat) × Nat × Bool) := [(5, 6, [], 9, false),
  (0, 0, [], 4, false),
  (1, 6, [], 1, false),
  (1, 0, [], 2, true),
  (2, 0, [], 4, false),
  (2, 6, [], 2, false),
  (2, 0, [], 4, false),
  (2, 3, [], 4, false),
  (2, 3, [], 1, false),
  (2, 0, [], 1, true),
  (2, 6, [], 1, false),
  (2, 3, [], 1, false),
  (2, 1, [], 1, false),
  (3, 0, [], 1, true),
  (4, 0, [], 1, true),
  (5, 1, [(0, 9, 12, 1)], 4, false),
  (5, 1, [(0, 12, 15, 0), (0, 12, 19, 1)], 6, false),
  (5, 1, [(0, 9, 12, 2), (0, 9, 15, 1)], 4, false),
  (5, 1, [(0, 17, 20, 2)], 5, false),
  (5, 1, [(0, 9, 12, 2)], 4, false),
  (5, 1, [(0, 9, 12, 2), (0, 9, 15, 4)], 4, false),
  (5, 1, [(0, 10, 13, 2), (0, 10, 17, 1), (0, 10, 21, 4)], 5, false),
  (5, 1, [(0, 10, 13, 2), (0, 10, 17, 1), (0, 10, 21, 4)], 5, false),
  (5, 1, [(0, 10, 13, 0), (0, 10, 17, 2)], 5, false),
  (5, 1, [(0, 9, 12, 2)], 4, false),
  (5, 1, [(0, 8, 11, 1)], 3, false),
  (5, 1, [(0, 8, 11, 1)], 3, false),
  (5, 1, [(0, 10, 13, 2), (0, 10, 17, 0)], 5, false),
  (5, 1, [(0, 9, 12, 0), (0, 9, 15, 1)], 4, false),
  (5, 1, [(0, 9, 12, 2), (0, 9, 15, 1), (0, 9, 18, 4)], 4, false),
  (5, 1, [(0, 17, 20, 2), (0, 17, 24, 4)], 5, false),
  (5, 1, [(0, 9, 12, 2), (0, 9, 15, 4), (0, 9, 18, 1)], 4, false),
  (5, 1, [(0, 10, 13, 2), (0, 10, 17, 0), (0, 10, 21, 4)], 5, false),
  (5, 1, [(0, 7, 10, 3)], 3, false),
  (5, 1, [(0, 12, 15, 2), (0, 12, 19, 4), (0, 12, 23, 0), (0, 12, 27, 1)], 6, false),
  (5, 1, [(0, 8, 11, 3)], 3, false),
  (5, 1, [(0, 9, 12, 0), (0, 9, 15, 1), (0, 9, 18, 5)], 4, false),
  (5, 1, [(0, 9, 12, 2)], 4, false),
  (5, 1, [(0, 10, 13, 2), (0, 10, 17, 0), (0, 10, 21, 4)], 5, false),
  (5, 1, [(0, 9, 12, 2)], 4, false),
  (5, 1, [(0, 9, 12, 2), (0, 9, 15, 4)], 4, false),
  (5, 1, [(0, 12, 15, 2), (0, 12, 19, 0), (0, 12, 23, 4)], 6, false),
  (5, 1, [(0, 19, 22, 2), (0, 19, 26, 0)], 6, false),
  (5, 1, [(0, 17, 20, 0)], 5, false),
  (5, 1, [(0, 9, 12, 2)], 4, false),
  (5, 1, [(0, 17, 20, 2), (0, 17, 24, 1)], 5, false),
  (5, 1, [(0, 10, 13, 2), (0, 10, 17, 0)], 5, false),
  (5, 1, [(0, 8, 11, 1)], 3, false),
  (5, 1, [(0, 9, 12, 2)], 4, false),
  (6, 0, [], 2, false),
  (6, 0, [], 3, false),
  (6, 0, [], 1, true),
  (6, 6, [], 1, false),
  (6, 6, [], 2, false),
  (6, 1, [], 3, false),
  (6, 0, [], 2, false),
  (7, 0, [], 4, true),
  (8, 0, [], 5, true),
  (9, 1, [], 3, false),
  (9, 1, [], 4, false),
  (9, 1, [], 2, false),
  (9, 6, [], 4, false),
  (9, 1, [], 2, false),
  (9, 1, [], 3, false),
  (9, 1, [], 6, false),
  (9, 1, [], 5, false),
  (9, 1, [], 3, false),
  (9, 1, [], 5, false),
  (9, 3, [], 4, false),
  (9, 1, [], 2, false),
  (9, 1, [], 2, false),
  (9, 1, [], 7, false),
  (9, 1, [], 4, false),
  (9, 1, [], 2, false),
  (9, 1, [], 2, false),
  (9, 0, [], 5, false),
  (9, 6, [], 5, false),
  (9, 0, [], 1, true),
  (9, 6, [], 2, false),
  (9, 6, [], 3, false),
  (9, 6, [], 6, false),
  (9, 6, [], 1, false),
  (9, 6, [], 2, false),
  (9, 6, [], 1, false),
  (9, 1, [], 7, false),
  (9, 1, [], 4, false),
  (9, 5, [], 4, false),
  (9, 2, [], 5, false),
  (9, 1, [], 6, false),
  (9, 6, [], 3, false),
  (9, 6, [], 2, false),
  (9, 6, [], 2, false),
  (9, 1, [], 4, false),
  (9, 4, [], 1, false),
  (9, 1, [], 5, false),
  (9, 1, [], 2, false),
  (9, 1, [], 5, false),
  (9, 1, [], 2, false),
  (9, 1, [], 3, false),
  (9, 1, [], 6, false),
  (9, 6, [], 5, false),
  (9, 6, [], 3, false),
  (9, 7, [], 2, false),
  (9, 6, [], 4, false),
  (9, 3, [], 8, false),
  (9, 1, [], 3, false),
  (9, 1, [], 1, false),
  (9, 1, [], 6, false),
  (9, 1, [], 2, false),
  (10, 0, [], 5, true),
  (11, 0, [], 5, true),
  (12, 0, [], 1, true),
  (13, 0, [], 6, false),
  (13, 0, [], 10, false),
  (13, 0, [], 7, false),
  (13, 3, [], 3, false),
  (13, 0, [], 1, true),
  (13, 0, [], 7, false),
  (13, 0, [], 6, false),
  (14, 1, [], 3, false),
  (14, 1, [], 5, false),
  (14, 1, [], 3, false),
  (14, 6, [], 5, false),
  (14, 1, [], 2, false),
  (14, 1, [], 4, false),
  (14, 1, [], 6, false),
  (14, 1, [], 7, false),
  (14, 0, [], 3, false),
  (14, 1, [], 3, false),
  (14, 1, [], 4, false),
  (14, 1, [], 2, false),
  (14, 1, [], 2, false),
  (14, 1, [], 3, false),
  (14, 1, [], 4, false),
  (14, 1, [], 3, false),
  (14, 1, [], 2, false),
  (14, 1, [], 5, false),
  (14, 6, [], 3, false),
  (14, 0, [], 1, true),
  (14, 6, [], 1, false),
  (14, 6, [], 3, false),
  (14, 6, [], 4, false),
  (14, 6, [], 5, false),
  (14, 6, [], 1, false),
  (14, 6, [], 3, false),
  (14, 1, [], 3, false),
  (14, 1, [], 2, false),
  (14, 3, [], 2, false),
  (14, 3, [], 2, false),
  (14, 3, [], 1, false),
  (14, 3, [], 2, false),
  (14, 1, [], 5, false),
  (14, 5, [], 5, false),
  (14, 2, [], 4, false),
  (14, 1, [], 7, false),
  (14, 4, [], 2, false),
  (14, 1, [], 2, false),
  (14, 1, [], 3, false),
  (14, 1, [], 5, false),
  (14, 1, [], 2, false),
  (14, 1, [], 3, false),
  (14, 1, [], 6, false),
  (14, 6, [], 7, false),
  (14, 6, [], 3, false),
  (14, 7, [], 2, false),
  (14, 6, [], 5, false),
  (14, 1, [], 4, false),
  (14, 1, [], 2, false),
  (14, 1, [], 2, false)]
def k_L_law : List (List (Nat × Nat × Int)) := [[(0, 69, 0), (3, 22, 0), (4, 201, 0), (7, 9, 1), (8, 69, 1), (11, 22, 0), (12, 201, 1), (15, 9, 2), (16, 15, 1), (17, 66, 0), (19, 9, 3), (20, 15, 1), (21, 67, 0), (23, 10, 4), (25, 15, 0), (26, 8, 5), (28, 1, 5), (30, 4, 0), (31, 63, 0), (32, 15, 4), (33, 26, 0), (34, 42, 2467), (37, 4, 0), (38, 1, 5), (40, 56, 0), (41, 16, 63), (43, 27, 0), (44, 54, 0)],
  [],
  [],
  [(204, 4, 1), (205, 4, 0), (206, 1, 5), (208, 15, 1), (209, 25, 0), (210, 56, 0), (211, 4, 0), (212, 1, 5), (214, 15, 2), (215, 25, 0), (216, 56, 0), (217, 4, 0), (218, 1, 5), (220, 15, 3), (221, 25, 0), (222, 56, 0), (223, 4, 3), (224, 201, 2), (227, 8, 6), (229, 4, 2), (230, 4, 0), (231, 1, 5), (233, 15, 1), (234, 25, 0), (235, 56, 0), (236, 4, 0), (237, 1, 5), (239, 15, 2), (240, 25, 0), (241, 56, 0), (242, 4, 0), (243, 1, 5), (245, 15, 3), (246, 25, 0), (247, 56, 0), (248, 201, 3), (251, 8, 7), (253, 4, 2), (254, 201, 4)],
  [(257, 1, 6), (259, 38, 5), (264, 1, 6), (266, 33, 15), (269, 4, 3), (270, 15, 0), (271, 57, 0), (272, 1, 7), (274, 30, 0), (275, 44, 5), (281, 53, 2214), (284, 4, 1), (285, 4, 0), (286, 1, 5), (288, 15, 1), (289, 25, 0), (290, 56, 0), (291, 4, 3), (292, 201, 5), (295, 8, 6), (297, 4, 2), (298, 4, 0), (299, 1, 5), (301, 15, 1), (302, 25, 0), (303, 56, 0), (304, 201, 6), (307, 8, 7), (309, 4, 2), (310, 201, 4), (313, 1, 6), (315, 38, 5)],
  [(320, 1, 6), (322, 33, 15), (337, 53, 2158), (340, 4, 1), (341, 4, 0), (342, 1, 5), (344, 15, 1), (345, 25, 0), (346, 56, 0), (347, 4, 0), (348, 1, 5), (350, 15, 2), (351, 25, 0), (352, 56, 0), (353, 4, 3), (354, 201, 7), (357, 8, 6), (359, 4, 2), (360, 4, 0), (361, 1, 5), (363, 15, 1), (364, 25, 0), (365, 56, 0), (366, 4, 0), (367, 1, 5), (369, 15, 2), (370, 25, 0), (371, 56, 0), (372, 201, 8), (375, 8, 7), (377, 4, 2), (378, 201, 4), (381, 1, 6), (383, 38, 5)],
  [(388, 1, 6), (390, 33, 22), (393, 4, 3), (394, 15, 0), (395, 57, 0), (396, 1, 7), (398, 32, 7), (401, 18, 1), (402, 53, 4), (405, 18, 0), (406, 44, 5), (412, 53, 2083), (415, 4, 1), (416, 4, 0), (417, 1, 5), (419, 15, 1), (420, 25, 0), (421, 56, 0), (422, 4, 3), (423, 201, 9), (426, 8, 6), (428, 4, 2), (429, 4, 0), (430, 1, 5), (432, 15, 1), (433, 25, 0), (434, 56, 0), (435, 201, 10), (438, 8, 7), (440, 4, 2), (441, 201, 4), (444, 1, 6), (446, 38, 5)],
  [(451, 1, 6), (453, 33, 15), (456, 4, 3), (457, 15, 0), (458, 57, 0), (459, 1, 7), (461, 30, 0), (462, 44, 5), (468, 53, 2027), (471, 4, 1), (472, 4, 0), (473, 1, 5), (475, 15, 1), (476, 25, 0), (477, 56, 0), (478, 4, 0), (479, 1, 5), (481, 15, 2), (482, 25, 0), (483, 56, 0), (484, 4, 0), (485, 1, 5), (487, 15, 3), (488, 25, 0), (489, 56, 0), (490, 4, 3), (491, 201, 11), (494, 8, 6), (496, 4, 2), (497, 4, 0), (498, 1, 5), (500, 15, 1), (501, 25, 0), (502, 56, 0), (503, 4, 0), (504, 1, 5), (506, 15, 2), (507, 25, 0), (508, 56, 0), (509, 4, 0), (510, 1, 5)],
  [(512, 15, 3), (513, 25, 0), (514, 56, 0), (515, 201, 12), (518, 8, 7), (520, 4, 2), (521, 201, 4), (524, 1, 6), (526, 38, 5), (531, 1, 6), (533, 33, 15), (548, 53, 1947), (551, 4, 1), (552, 4, 0), (553, 1, 5), (555, 15, 1), (556, 25, 0), (557, 56, 0), (558, 4, 0), (559, 1, 5), (561, 15, 2), (562, 25, 0), (563, 56, 0), (564, 4, 3), (565, 201, 13), (568, 8, 6), (570, 4, 2), (571, 4, 0), (572, 1, 5), (574, 15, 1), (575, 25, 0)],
  [(576, 56, 0), (577, 4, 0), (578, 1, 5), (580, 15, 2), (581, 25, 0), (582, 56, 0), (583, 201, 14), (586, 8, 7), (588, 4, 2), (589, 201, 4), (592, 1, 6), (594, 38, 5), (599, 1, 6), (601, 33, 15), (616, 53, 1879), (619, 4, 1), (620, 4, 0), (621, 1, 5), (623, 15, 1), (624, 25, 0), (625, 56, 0), (626, 4, 3), (627, 201, 15), (630, 8, 6), (632, 4, 2), (633, 4, 0), (634, 1, 5), (636, 15, 1), (637, 25, 0), (638, 56, 0), (639, 201, 16)],
  [(642, 8, 7), (644, 4, 2), (645, 201, 4), (648, 1, 6), (650, 38, 5), (655, 1, 6), (657, 33, 15), (672, 53, 1823), (675, 4, 1), (676, 4, 0), (677, 1, 5), (679, 15, 1), (680, 25, 0), (681, 56, 0), (682, 4, 0), (683, 1, 5), (685, 15, 2), (686, 25, 0), (687, 56, 0), (688, 4, 0), (689, 1, 5), (691, 15, 3), (692, 25, 0), (693, 56, 0), (694, 32, 7), (697, 15, 1), (698, 53, 4), (701, 15, 0), (702, 4, 3), (703, 201, 17)],
  [(706, 8, 6), (708, 4, 2), (709, 4, 0), (710, 1, 5), (712, 15, 1), (713, 25, 0), (714, 56, 0), (715, 4, 0), (716, 1, 5), (718, 15, 2), (719, 25, 0), (720, 56, 0), (721, 4, 0), (722, 1, 5), (724, 15, 3), (725, 25, 0), (726, 56, 0), (727, 32, 7), (730, 15, 1), (731, 53, 4), (734, 15, 0), (735, 201, 18), (738, 8, 7), (740, 4, 2), (741, 201, 4), (744, 1, 6), (746, 38, 5), (751, 1, 6), (753, 33, 22)],
  [(775, 53, 1720), (778, 4, 1), (779, 4, 0), (780, 1, 5), (782, 15, 1), (783, 25, 0), (784, 56, 0), (785, 4, 3), (786, 201, 19), (789, 8, 6), (791, 4, 2), (792, 4, 0), (793, 1, 5), (795, 15, 1), (796, 25, 0), (797, 56, 0), (798, 201, 20), (801, 8, 7), (803, 4, 2), (804, 201, 4), (807, 1, 6), (809, 38, 5), (814, 1, 6), (816, 33, 15), (831, 53, 1664)],
  [(834, 4, 1), (835, 4, 0), (836, 1, 5), (838, 15, 1), (839, 25, 0), (840, 56, 0), (841, 4, 0), (842, 1, 5), (844, 15, 2), (845, 25, 0), (846, 56, 0), (847, 4, 3), (848, 201, 21), (851, 8, 6), (853, 4, 2), (854, 4, 0), (855, 1, 5), (857, 15, 1), (858, 25, 0), (859, 56, 0), (860, 4, 0), (861, 1, 5), (863, 15, 2), (864, 25, 0), (865, 56, 0), (866, 201, 22), (869, 8, 7), (871, 4, 2), (872, 201, 4), (875, 1, 6), (877, 38, 5), (882, 1, 6), (884, 33, 15)],
  [(899, 53, 1596), (902, 4, 1), (903, 4, 0), (904, 1, 5), (906, 15, 1), (907, 25, 0), (908, 56, 0), (909, 4, 0), (910, 1, 5), (912, 15, 2), (913, 25, 0), (914, 56, 0), (915, 31, 0), (916, 4, 3), (917, 201, 23), (920, 8, 6), (922, 4, 2), (923, 4, 0), (924, 1, 5), (926, 15, 1), (927, 25, 0), (928, 56, 0), (929, 4, 0), (930, 1, 5), (932, 15, 2), (933, 25, 0), (934, 56, 0), (935, 31, 0), (936, 201, 24), (939, 8, 7), (941, 4, 2), (942, 201, 4), (945, 1, 6), (947, 38, 5), (952, 1, 6), (954, 33, 15)],
  [(969, 53, 1526), (972, 4, 1), (973, 4, 0), (974, 1, 5), (976, 15, 1), (977, 25, 0), (978, 56, 0), (979, 4, 3), (980, 201, 25), (983, 8, 6), (985, 4, 2), (986, 4, 0), (987, 1, 5), (989, 15, 1), (990, 25, 0), (991, 56, 0), (992, 201, 26), (995, 8, 7), (997, 4, 2), (998, 201, 4), (1001, 1, 6), (1003, 38, 5), (1008, 1, 6), (1010, 33, 15)],
  [(1025, 53, 1470), (1028, 4, 1), (1029, 4, 0), (1030, 1, 5), (1032, 15, 1), (1033, 25, 0), (1034, 56, 0), (1035, 4, 0), (1036, 1, 5), (1038, 15, 2), (1039, 25, 0), (1040, 56, 0), (1041, 32, 7), (1044, 15, 1), (1045, 53, 4), (1048, 15, 0), (1049, 4, 0), (1050, 1, 5), (1052, 15, 3), (1053, 25, 0), (1054, 56, 0), (1055, 4, 3), (1056, 201, 27), (1059, 8, 6), (1061, 4, 2), (1062, 4, 0), (1063, 1, 5), (1065, 15, 1), (1066, 25, 0), (1067, 56, 0), (1068, 4, 0), (1069, 1, 5), (1071, 15, 2), (1072, 25, 0), (1073, 56, 0), (1074, 32, 7), (1077, 15, 1), (1078, 53, 4), (1081, 15, 0), (1082, 4, 0), (1083, 1, 5), (1085, 15, 3), (1086, 25, 0), (1087, 56, 0)],
  [(1088, 201, 28), (1091, 8, 7), (1093, 4, 2), (1094, 201, 4), (1097, 1, 6), (1099, 38, 5), (1104, 1, 6), (1106, 33, 15), (1121, 53, 1374), (1124, 4, 1), (1125, 4, 0), (1126, 1, 5), (1128, 15, 1), (1129, 25, 0), (1130, 56, 0), (1131, 4, 3), (1132, 201, 29), (1135, 8, 6), (1137, 4, 2), (1138, 4, 0), (1139, 1, 5), (1141, 15, 1), (1142, 25, 0), (1143, 56, 0), (1144, 201, 30), (1147, 8, 7), (1149, 4, 2), (1150, 201, 4)],
  [(1153, 1, 6), (1155, 38, 5), (1160, 1, 6), (1162, 33, 15), (1177, 53, 1318), (1180, 4, 1), (1181, 4, 0), (1182, 1, 5), (1184, 15, 1), (1185, 25, 0), (1186, 56, 0), (1187, 4, 3), (1188, 201, 31), (1191, 8, 6), (1193, 4, 2), (1194, 4, 0), (1195, 1, 5), (1197, 15, 1), (1198, 25, 0), (1199, 56, 0), (1200, 201, 32), (1203, 8, 7), (1205, 4, 2), (1206, 201, 4), (1209, 1, 6), (1211, 38, 5)],
  [(1216, 1, 6), (1218, 33, 15), (1233, 53, 1262), (1236, 4, 1), (1237, 4, 0), (1238, 1, 5), (1240, 15, 1), (1241, 25, 0), (1242, 56, 0), (1243, 4, 0), (1244, 1, 5), (1246, 15, 2), (1247, 25, 0), (1248, 56, 0), (1249, 32, 7), (1252, 15, 1), (1253, 53, 4), (1256, 15, 0), (1257, 4, 3), (1258, 201, 33), (1261, 8, 6), (1263, 4, 2), (1264, 4, 0), (1265, 1, 5), (1267, 15, 1), (1268, 25, 0), (1269, 56, 0), (1270, 4, 0), (1271, 1, 5), (1273, 15, 2), (1274, 25, 0), (1275, 56, 0), (1276, 32, 7), (1279, 15, 1)],
  [(1280, 53, 4), (1283, 15, 0), (1284, 201, 34), (1287, 8, 7), (1289, 4, 2), (1290, 201, 4), (1293, 1, 6), (1295, 38, 5), (1300, 1, 6), (1302, 33, 15), (1317, 53, 1178), (1320, 4, 1), (1321, 4, 0), (1322, 1, 5), (1324, 15, 1), (1325, 25, 0), (1326, 56, 0), (1327, 4, 0), (1328, 1, 5), (1330, 15, 2), (1331, 25, 0), (1332, 56, 0), (1333, 4, 3), (1334, 201, 35), (1337, 8, 6), (1339, 4, 2), (1340, 4, 0), (1341, 1, 5), (1343, 15, 1)],
  [(1344, 25, 0), (1345, 56, 0), (1346, 4, 0), (1347, 1, 5), (1349, 15, 2), (1350, 25, 0), (1351, 56, 0), (1352, 201, 36), (1355, 8, 7), (1357, 4, 2), (1358, 201, 4), (1361, 1, 6), (1363, 38, 5), (1368, 1, 6), (1370, 33, 15), (1385, 53, 1110), (1388, 4, 1), (1389, 4, 3), (1390, 201, 37), (1393, 8, 6), (1395, 4, 2), (1396, 201, 38), (1399, 8, 7), (1401, 4, 2), (1402, 201, 4), (1405, 1, 6), (1407, 38, 5)],
  [(1412, 1, 6), (1414, 33, 15), (1429, 53, 1066), (1432, 4, 1), (1433, 4, 0), (1434, 1, 5), (1436, 15, 1), (1437, 25, 0), (1438, 56, 0), (1439, 32, 7), (1442, 15, 1), (1443, 53, 4), (1446, 15, 0), (1447, 4, 3), (1448, 201, 39), (1451, 8, 6), (1453, 4, 2), (1454, 4, 0), (1455, 1, 5), (1457, 15, 1), (1458, 25, 0), (1459, 56, 0), (1460, 32, 7), (1463, 15, 1), (1464, 53, 4), (1467, 15, 0), (1468, 201, 40), (1471, 8, 7)],
  [(1473, 4, 2), (1474, 201, 4), (1477, 1, 6), (1479, 38, 5), (1484, 1, 6), (1486, 33, 15), (1501, 53, 994), (1504, 4, 1), (1505, 4, 0), (1506, 1, 5), (1508, 15, 1), (1509, 25, 0), (1510, 56, 0), (1511, 4, 0), (1512, 1, 5), (1514, 15, 2), (1515, 25, 0), (1516, 56, 0), (1517, 32, 7), (1520, 15, 1), (1521, 53, 4), (1524, 15, 0), (1525, 4, 3), (1526, 201, 41), (1529, 8, 6), (1531, 4, 2), (1532, 4, 0), (1533, 1, 5), (1535, 15, 1)],
  [(1536, 25, 0), (1537, 56, 0), (1538, 4, 0), (1539, 1, 5), (1541, 15, 2), (1542, 25, 0), (1543, 56, 0), (1544, 32, 7), (1547, 15, 1), (1548, 53, 4), (1551, 15, 0), (1552, 201, 42), (1555, 8, 7), (1557, 4, 2), (1558, 201, 4), (1561, 1, 6), (1563, 38, 5), (1568, 1, 6), (1570, 33, 22), (1592, 53, 903), (1595, 4, 1), (1596, 4, 3), (1597, 201, 43)],
  [(1600, 8, 6), (1602, 4, 2), (1603, 201, 44), (1606, 8, 7), (1608, 4, 2), (1609, 201, 4), (1612, 1, 6), (1614, 38, 5), (1619, 1, 6), (1621, 33, 15), (1624, 4, 3), (1625, 15, 0), (1626, 57, 0), (1627, 1, 7), (1629, 30, 0), (1630, 44, 5), (1636, 53, 859), (1639, 4, 1), (1640, 4, 0), (1641, 1, 5), (1643, 15, 1), (1644, 25, 0), (1645, 56, 0), (1646, 4, 3), (1647, 201, 45), (1650, 8, 6), (1652, 4, 2), (1653, 4, 0), (1654, 1, 5), (1656, 15, 1), (1657, 25, 0), (1658, 56, 0), (1659, 201, 46), (1662, 8, 7)],
  [(1664, 4, 2), (1665, 201, 4), (1668, 1, 6), (1670, 38, 5), (1675, 1, 6), (1677, 33, 15), (1692, 53, 803), (1695, 4, 1), (1696, 4, 0), (1697, 1, 5), (1699, 15, 1), (1700, 25, 0), (1701, 56, 0), (1702, 4, 3), (1703, 201, 47), (1706, 8, 6), (1708, 4, 2), (1709, 4, 0), (1710, 1, 5), (1712, 15, 1), (1713, 25, 0), (1714, 56, 0), (1715, 201, 48), (1718, 8, 7), (1720, 4, 2), (1721, 201, 4), (1724, 1, 6), (1726, 38, 5)],
  [(1731, 1, 6), (1733, 33, 15), (1748, 53, 747), (1751, 4, 1), (1752, 4, 0), (1753, 1, 5), (1755, 15, 1), (1756, 25, 0), (1757, 56, 0), (1758, 4, 0), (1759, 1, 5), (1761, 15, 2), (1762, 25, 0), (1763, 56, 0), (1764, 32, 7), (1767, 15, 1), (1768, 53, 4), (1771, 15, 0), (1772, 4, 3), (1773, 201, 49), (1776, 8, 6), (1778, 4, 2), (1779, 4, 0), (1780, 1, 5), (1782, 15, 1), (1783, 25, 0), (1784, 56, 0), (1785, 4, 0), (1786, 1, 5), (1788, 15, 2), (1789, 25, 0), (1790, 56, 0), (1791, 32, 7)],
  [(1794, 15, 1), (1795, 53, 4), (1798, 15, 0), (1799, 201, 50), (1802, 8, 7), (1804, 4, 2), (1805, 201, 4), (1808, 1, 6), (1810, 38, 5), (1815, 1, 6), (1817, 33, 22), (1839, 53, 656), (1842, 4, 1), (1843, 4, 0), (1844, 1, 5), (1846, 15, 1), (1847, 25, 0), (1848, 56, 0), (1849, 4, 3), (1850, 201, 51), (1853, 8, 6), (1855, 4, 2)],
  [(1856, 4, 0), (1857, 1, 5), (1859, 15, 1), (1860, 25, 0), (1861, 56, 0), (1862, 201, 52), (1865, 8, 7), (1867, 4, 2), (1868, 201, 4), (1871, 1, 6), (1873, 38, 5), (1878, 1, 6), (1880, 33, 15), (1895, 53, 600), (1898, 4, 1), (1899, 4, 0), (1900, 1, 5), (1902, 15, 1), (1903, 25, 0), (1904, 56, 0), (1905, 4, 0), (1906, 1, 5), (1908, 15, 2), (1909, 25, 0), (1910, 56, 0), (1911, 4, 3), (1912, 201, 53), (1915, 8, 6), (1917, 4, 2), (1918, 4, 0), (1919, 1, 5)],
  [(1921, 15, 1), (1922, 25, 0), (1923, 56, 0), (1924, 4, 0), (1925, 1, 5), (1927, 15, 2), (1928, 25, 0), (1929, 56, 0), (1930, 201, 54), (1933, 8, 7), (1935, 4, 2), (1936, 201, 4), (1939, 1, 6), (1941, 38, 5), (1946, 1, 6), (1948, 33, 15), (1963, 53, 532), (1966, 4, 1), (1967, 4, 0), (1968, 1, 5), (1970, 15, 1), (1971, 25, 0), (1972, 56, 0), (1973, 4, 0), (1974, 1, 5), (1976, 15, 2), (1977, 25, 0), (1978, 56, 0), (1979, 32, 7), (1982, 15, 1), (1983, 53, 4)],
  [(1986, 15, 0), (1987, 4, 3), (1988, 201, 55), (1991, 8, 6), (1993, 4, 2), (1994, 4, 0), (1995, 1, 5), (1997, 15, 1), (1998, 25, 0), (1999, 56, 0), (2000, 4, 0), (2001, 1, 5), (2003, 15, 2), (2004, 25, 0), (2005, 56, 0), (2006, 32, 7), (2009, 15, 1), (2010, 53, 4), (2013, 15, 0), (2014, 201, 56), (2017, 8, 7), (2019, 4, 2), (2020, 201, 4), (2023, 1, 6), (2025, 38, 5), (2030, 1, 6), (2032, 33, 22)],
  [(2054, 53, 441), (2057, 4, 1), (2058, 4, 0), (2059, 1, 5), (2061, 15, 1), (2062, 25, 0), (2063, 56, 0), (2064, 4, 0), (2065, 1, 5), (2067, 15, 2), (2068, 25, 0), (2069, 56, 0), (2070, 4, 3), (2071, 201, 57), (2074, 8, 6), (2076, 4, 2), (2077, 4, 0), (2078, 1, 5), (2080, 15, 1), (2081, 25, 0), (2082, 56, 0), (2083, 4, 0), (2084, 1, 5), (2086, 15, 2), (2087, 25, 0), (2088, 56, 0), (2089, 201, 58), (2092, 8, 7), (2094, 4, 2), (2095, 201, 4), (2098, 1, 6), (2100, 38, 5), (2105, 1, 6), (2107, 33, 15)],
  [(2122, 53, 373), (2125, 4, 1), (2126, 4, 0), (2127, 1, 5), (2129, 15, 1), (2130, 25, 0), (2131, 56, 0), (2132, 4, 3), (2133, 201, 59), (2136, 8, 6), (2138, 4, 2), (2139, 4, 0), (2140, 1, 5), (2142, 15, 1), (2143, 25, 0), (2144, 56, 0), (2145, 201, 60), (2148, 8, 7), (2150, 4, 2), (2151, 201, 4), (2154, 1, 6), (2156, 38, 5), (2161, 1, 6), (2163, 33, 15)],
  [(2178, 53, 317), (2181, 4, 1), (2182, 4, 0), (2183, 1, 5), (2185, 15, 1), (2186, 25, 0), (2187, 56, 0), (2188, 4, 3), (2189, 201, 61), (2192, 8, 6), (2194, 4, 2), (2195, 4, 0), (2196, 1, 5), (2198, 15, 1), (2199, 25, 0), (2200, 56, 0), (2201, 201, 62), (2204, 8, 7), (2206, 4, 2), (2207, 201, 4), (2210, 1, 6), (2212, 38, 5), (2217, 1, 6), (2219, 33, 15), (2234, 53, 261), (2237, 4, 1), (2238, 4, 0), (2239, 1, 5)],
  [(2241, 15, 1), (2242, 25, 0), (2243, 56, 0), (2244, 4, 3), (2245, 201, 63), (2248, 8, 6), (2250, 4, 2), (2251, 4, 0), (2252, 1, 5), (2254, 15, 1), (2255, 25, 0), (2256, 56, 0), (2257, 201, 64), (2260, 8, 7), (2262, 4, 2), (2263, 201, 4), (2266, 1, 6), (2268, 38, 5), (2273, 1, 6), (2275, 33, 15), (2290, 53, 205), (2293, 4, 1), (2294, 4, 3), (2295, 201, 65), (2298, 8, 6), (2300, 4, 2), (2301, 201, 66)],
  [(2304, 8, 7), (2306, 4, 2), (2307, 201, 4), (2310, 1, 6), (2312, 38, 5), (2317, 1, 6), (2319, 33, 15), (2322, 4, 3), (2323, 15, 0), (2324, 57, 0), (2325, 1, 7), (2327, 30, 0), (2328, 44, 5), (2334, 53, 161), (2337, 4, 1), (2338, 201, 67), (2341, 4, 2), (2342, 201, 68), (2345, 44, 149), (2351, 4, 1), (2352, 5, 4), (2354, 201, 69), (2357, 8, 6), (2359, 4, 2), (2360, 201, 70), (2363, 13, 7), (2365, 4, 2), (2366, 201, 4)],
  [(2369, 1, 6), (2371, 38, 5), (2376, 1, 6), (2378, 33, 36), (2414, 53, 81), (2417, 4, 1), (2418, 5, 4), (2420, 201, 71), (2423, 8, 6), (2425, 4, 2), (2426, 201, 72), (2429, 14, 7), (2431, 4, 2)],
  [(2432, 201, 4), (2435, 1, 6), (2437, 38, 5), (2442, 1, 6), (2444, 33, 35), (2479, 53, 16), (2482, 4, 1), (2483, 201, 73), (2486, 4, 2), (2487, 201, 74), (2490, 38, 5), (2495, 29, 5504)],
  [(2498, 53, -2470), (2501, 15, 1), (2502, 200, 0)]]
def k_J7_fill_53178 : List (List (Nat × Nat × Int)) := [[(0, 15, 0), (1, 7, 2), (2, 4, 0), (3, 61, 0), (4, 7, 3), (5, 0, 2), (6, 0, 3), (7, 41, 13), (10, 4, 0), (11, 0, 2), (12, 0, 1), (13, 58, 0), (14, 29, 2501), (17, 53, -12), (20, 200, 0)]]
def k_Jx35411_hasNext_aae02 : List (List (Nat × Nat × Int)) := [[(0, 4, 0), (1, 70, 0), (4, 4, 0), (5, 70, 1), (8, 71, 0), (11, 38, 7), (18, 15, 0), (19, 200, 0)]]
def k_Jx35411_init_45d68 : List (List (Nat × Nat × Int)) := [[(0, 4, 0), (1, 4, 1), (2, 73, 1), (5, 4, 0), (6, 75, 0), (9, 4, 0), (10, 15, -1), (11, 72, 2), (14, 4, 0), (15, 4, 0), (16, 70, 1), (19, 70, 3), (22, 72, 4), (25, 200, 0)]]
def k_Jx4a65c_add_72be8 : List (List (Nat × Nat × Int)) := [[(0, 0, 3), (1, 4, 2), (2, 62, 0), (3, 39, 8), (6, 4, 0), (7, 201, 75), (10, 9, 2), (11, 4, 2), (12, 0, 3), (13, 4, 1), (14, 60, 0), (15, 4, 0), (16, 0, 3), (17, 15, 1), (18, 25, 0), (19, 72, 5), (22, 200, 0)]]
def k_Jx4a65c_add_9ea2d : List (List (Nat × Nat × Int)) := [[(0, 4, 0), (1, 22, 0), (2, 70, 6), (5, 15, 1), (6, 25, 0), (7, 72, 6), (10, 4, 0), (11, 4, 1), (12, 4, 0), (13, 70, 7), (16, 4, 0), (17, 70, 5), (20, 201, 76), (23, 15, 1), (24, 200, 0)]]
def k_Jx4a65c_clear_da8c8 : List (List (Nat × Nat × Int)) := [[(0, 4, 0), (1, 22, 0), (2, 70, 6), (5, 15, 1), (6, 25, 0), (7, 72, 6), (10, 4, 0), (11, 70, 7), (14, 9, 1), (15, 4, 0), (16, 70, 5), (19, 7, 2), (20, 4, 0), (21, 15, 0), (22, 23, 0), (23, 72, 5), (26, 7, 3), (27, 0, 3), (28, 0, 2), (29, 41, 13), (42, 200, 0)]]
def k_Jx4a65c_grow_92f84 : List (List (Nat × Nat × Int)) := [[(0, 4, 0), (1, 70, 7), (4, 62, 0), (5, 7, 2), (6, 0, 2), (7, 36, 13), (10, 4, 0), (11, 70, 7), (14, 74, 0), (17, 50, 28), (45, 4, 0), (46, 16, 10), (48, 0, 1), (49, 76, 0), (52, 68, 0), (55, 23, 0), (56, 72, 7), (59, 200, 0)]]
def k_Jx4a65c_grow_d5877 : List (List (Nat × Nat × Int)) := [[(0, 4, 0), (1, 4, 0), (2, 70, 5), (5, 15, 1), (6, 25, 0), (7, 201, 77), (10, 200, 0)]]
def k_Jx4a65c_init_da8c8 : List (List (Nat × Nat × Int)) := [[(0, 4, 0), (1, 201, 78), (4, 4, 0), (5, 74, 0), (8, 72, 7), (11, 200, 0)]]
def k_Jx4a65c_isEmpty_aae02 : List (List (Nat × Nat × Int)) := [[(0, 4, 0), (1, 70, 5), (4, 33, 7), (7, 15, 1), (8, 53, 4), (12, 200, 0)]]
def k_Jx4a65c_iterator_32c93 : List (List (Nat × Nat × Int)) := [[(0, 69, 2), (3, 22, 0), (4, 4, 0), (5, 201, 79), (8, 200, 0)]]
def k_Jx4a65c_size_8abf5 : List (List (Nat × Nat × Int)) := [[(0, 4, 0), (1, 70, 5), (4, 200, 0)]]
def k_Jxa1e45_init_da8c8 : List (List (Nat × Nat × Int)) := [[(0, 4, 0), (1, 75, 1), (4, 200, 0)]]
def k_Jxc12de_init_da8c8 : List (List (Nat × Nat × Int)) := [[(0, 4, 0), (1, 201, 80), (4, 4, 0), (5, 15, 0), (6, 72, 8), (9, 200, 0)]]
def k_L_abandon : List (List (Nat × Nat × Int)) := [[(0, 4, 2), (1, 15, 0), (2, 4, 0), (3, 0, 1), (4, 201, 81), (12, 9, 3), (13, 15, 1), (14, 200, 0)]]
def k_L_addClub : List (List (Nat × Nat × Int)) := [[(0, 5, 4), (2, 15, 0), (3, 4, 0), (4, 0, 1), (5, 0, 2), (6, 0, 3), (7, 201, 82), (10, 30, 0), (11, 59, 0), (12, 53, 11), (15, 10, 5), (17, 15, 1), (18, 200, 0), (23, 15, 0), (24, 200, 0)]]
def k_L_addPlayer : List (List (Nat × Nat × Int)) := [[(0, 4, 2), (1, 15, 0), (2, 4, 0), (3, 0, 1), (4, 201, 83), (12, 9, 3), (13, 15, 1), (14, 200, 0)]]
def k_L_appeal : List (List (Nat × Nat × Int)) := [[(0, 4, 3), (1, 15, 0), (2, 4, 0), (3, 0, 1), (4, 0, 2), (5, 201, 84), (20, 10, 4), (22, 15, 1), (23, 200, 0)]]
def k_L_ban : List (List (Nat × Nat × Int)) := [[(0, 4, 2), (1, 15, 0), (2, 4, 0), (3, 0, 1), (4, 201, 85), (12, 9, 3), (13, 15, 1), (14, 200, 0)]]
def k_L_callBack : List (List (Nat × Nat × Int)) := [[(0, 4, 2), (1, 15, 0), (2, 4, 0), (3, 0, 1), (4, 201, 86), (12, 9, 3), (13, 15, 1), (14, 200, 0)]]
def k_L_card : List (List (Nat × Nat × Int)) := [[(0, 4, 3), (1, 15, 0), (2, 4, 0), (3, 0, 1), (4, 0, 2), (5, 201, 87), (13, 10, 4), (15, 15, 1), (16, 200, 0)]]
def k_L_change : List (List (Nat × Nat × Int)) := [[(0, 4, 3), (1, 15, 0), (2, 4, 0), (3, 0, 1), (4, 0, 2), (5, 201, 88), (13, 10, 4), (15, 15, 1), (16, 200, 0)]]
def k_L_clubAt : List (List (Nat × Nat × Int)) := [[(0, 4, 3), (1, 15, 0), (2, 4, 0), (3, 0, 1), (4, 0, 2), (5, 201, 89), (13, 10, 4), (15, 15, 1), (16, 200, 0), (17, 10, 4), (19, 15, 2), (20, 200, 0)]]
def k_L_divisionOf : List (List (Nat × Nat × Int)) := [[(0, 4, 2), (1, 15, 0), (2, 4, 0), (3, 0, 1), (4, 201, 90), (12, 9, 3), (13, 15, 1), (14, 200, 0)]]
def k_L_end : List (List (Nat × Nat × Int)) := [[(0, 4, 1), (1, 15, 0), (2, 4, 0), (3, 201, 91), (11, 9, 2), (12, 15, 1), (13, 200, 0)]]
def k_L_endSeason : List (List (Nat × Nat × Int)) := [[(0, 4, 1), (1, 15, 0), (2, 4, 0), (3, 201, 92), (6, 30, 0), (7, 59, 0), (8, 53, 6), (14, 15, 0), (15, 200, 0)]]
def k_L_fixture : List (List (Nat × Nat × Int)) := [[(0, 4, 3), (1, 15, 0), (2, 4, 0), (3, 0, 1), (4, 0, 2), (5, 201, 93), (13, 10, 4), (15, 15, 1), (16, 200, 0)]]
def k_L_goOn : List (List (Nat × Nat × Int)) := [[(0, 4, 2), (1, 15, 0), (2, 4, 0), (3, 0, 1), (4, 201, 94), (7, 30, 0), (8, 59, 0), (9, 53, 9), (12, 9, 3), (13, 15, 1), (14, 200, 0), (18, 15, 0), (19, 200, 0)]]
def k_L_goal : List (List (Nat × Nat × Int)) := [[(0, 4, 2), (1, 15, 0), (2, 4, 0), (3, 0, 1), (4, 201, 95), (12, 9, 3), (13, 15, 1), (14, 200, 0)]]
def k_L_isGuilty : List (List (Nat × Nat × Int)) := [[(0, 4, 3), (1, 15, 0), (2, 4, 0), (3, 0, 1), (4, 0, 2), (5, 201, 96), (20, 10, 4), (22, 15, 1), (23, 200, 0)]]
def k_L_kickOff : List (List (Nat × Nat × Int)) := [[(0, 4, 2), (1, 15, 0), (2, 4, 0), (3, 0, 1), (4, 201, 97), (12, 9, 3), (13, 15, 1), (14, 200, 0)]]
def k_L_lend : List (List (Nat × Nat × Int)) := [[(0, 4, 3), (1, 15, 0), (2, 4, 0), (3, 0, 1), (4, 0, 2), (5, 201, 98), (13, 10, 4), (15, 15, 1), (16, 200, 0)]]
def k_L_meanGoals : List (List (Nat × Nat × Int)) := [[(0, 4, 1), (1, 15, 0), (2, 4, 0), (3, 201, 99), (10, 9, 2), (11, 15, 1), (12, 200, 0)]]
def k_L_name : List (List (Nat × Nat × Int)) := [[(0, 5, 4), (2, 15, 0), (3, 4, 0), (4, 0, 1), (5, 0, 2), (6, 0, 3), (7, 201, 100), (15, 10, 5), (17, 15, 1), (18, 200, 0)]]
def k_L_overShare : List (List (Nat × Nat × Int)) := [[(0, 4, 1), (1, 15, 0), (2, 4, 0), (3, 201, 101), (11, 9, 2), (12, 15, 1), (13, 200, 0)]]
def k_L_plan : List (List (Nat × Nat × Int)) := [[(0, 4, 2), (1, 15, 0), (2, 4, 0), (3, 0, 1), (4, 201, 102), (12, 9, 3), (13, 15, 1), (14, 200, 0), (15, 9, 3), (16, 15, 2), (17, 200, 0)]]
def k_L_points : List (List (Nat × Nat × Int)) := [[(0, 4, 2), (1, 15, 0), (2, 4, 0), (3, 0, 1), (4, 201, 103), (12, 9, 3), (13, 15, 1), (14, 200, 0)]]
def k_L_putOff : List (List (Nat × Nat × Int)) := [[(0, 4, 3), (1, 15, 0), (2, 4, 0), (3, 0, 1), (4, 0, 2), (5, 201, 104), (13, 10, 4), (15, 15, 1), (16, 200, 0)]]
def k_L_registered : List (List (Nat × Nat × Int)) := [[(0, 4, 2), (1, 15, 0), (2, 4, 0), (3, 0, 1), (4, 201, 105), (12, 9, 3), (13, 15, 1), (14, 200, 0)]]
def k_L_resultOf : List (List (Nat × Nat × Int)) := [[(0, 4, 2), (1, 15, 0), (2, 4, 0), (3, 0, 1), (4, 201, 106), (12, 9, 3), (13, 15, 1), (14, 200, 0)]]
def k_L_sell : List (List (Nat × Nat × Int)) := [[(0, 5, 4), (2, 15, 0), (3, 4, 0), (4, 0, 1), (5, 0, 2), (6, 0, 3), (7, 201, 107), (15, 10, 5), (17, 15, 1), (18, 200, 0)]]
def k_L_setDerby : List (List (Nat × Nat × Int)) := [[(0, 5, 4), (2, 15, 0), (3, 4, 0), (4, 0, 1), (5, 0, 2), (6, 0, 3), (7, 201, 108), (22, 10, 5), (24, 15, 1), (25, 200, 0)]]
def k_L_setWindow : List (List (Nat × Nat × Int)) := [[(0, 4, 3), (1, 15, 0), (2, 4, 0), (3, 0, 1), (4, 0, 2), (5, 201, 109), (8, 32, 7), (11, 18, 1), (12, 53, 4), (15, 18, 0), (16, 59, 0), (17, 53, 7), (20, 10, 4), (22, 15, 1), (23, 200, 0), (24, 15, 0), (25, 200, 0)]]
def k_L_stateOf : List (List (Nat × Nat × Int)) := [[(0, 4, 2), (1, 15, 0), (2, 4, 0), (3, 0, 1), (4, 201, 110), (12, 9, 3), (13, 15, 1), (14, 200, 0)]]
def k_L_strike : List (List (Nat × Nat × Int)) := [[(0, 4, 3), (1, 15, 0), (2, 4, 0), (3, 0, 1), (4, 0, 2), (5, 201, 111), (20, 10, 4), (22, 15, 1), (23, 200, 0)]]
def k_L_takePoints : List (List (Nat × Nat × Int)) := [[(0, 4, 3), (1, 15, 0), (2, 4, 0), (3, 0, 1), (4, 0, 2), (5, 201, 112), (13, 10, 4), (15, 15, 1), (16, 200, 0)]]
def k_L_wipe : List (List (Nat × Nat × Int)) := [[(0, 4, 1), (1, 15, 0), (2, 4, 0), (3, 201, 113), (6, 30, 0), (7, 59, 0), (8, 53, 6), (14, 15, 0), (15, 200, 0)]]
def k_L_yellows : List (List (Nat × Nat × Int)) := [[(0, 4, 2), (1, 15, 0), (2, 4, 0), (3, 0, 1), (4, 201, 114), (12, 9, 3), (13, 15, 1), (14, 200, 0)]]
def k_X0_count : List (List (Nat × Nat × Int)) := [[(0, 4, 1), (1, 70, 9), (4, 33, 40), (44, 4, 1), (45, 70, 9), (48, 15, 1), (49, 39, 26)],
  [(75, 4, 1), (76, 70, 9), (79, 15, 2), (80, 39, 11), (83, 4, 0), (84, 70, 10), (87, 15, 0), (88, 201, 115), (91, 200, 0)]]
def k_X0_countAnew : List (List (Nat × Nat × Int)) := [[(0, 4, 0), (1, 70, 11), (4, 15, 0), (5, 201, 115), (8, 4, 0), (9, 70, 10), (12, 15, 0), (13, 201, 115), (16, 15, 0), (17, 7, 1), (18, 0, 1), (19, 4, 0), (20, 70, 12), (23, 201, 116), (26, 41, 33), (59, 15, 0), (60, 7, 1), (61, 0, 1), (62, 4, 0), (63, 70, 12)],
  [(66, 201, 116), (69, 41, 24), (93, 200, 0)]]
def k_X0_init : List (List (Nat × Nat × Int)) := [[(0, 4, 0), (1, 75, 2), (4, 4, 0), (5, 69, 3), (8, 22, 0), (9, 201, 117), (12, 73, 12), (15, 4, 0), (16, 69, 3), (19, 22, 0), (20, 201, 117), (23, 73, 13), (26, 4, 0), (27, 16, 24), (29, 64, 0), (31, 73, 11), (34, 4, 0), (35, 16, 24), (37, 64, 0), (39, 73, 10), (42, 4, 0), (43, 16, 24), (45, 64, 0), (47, 73, 14), (50, 4, 0), (51, 16, 24), (53, 64, 0), (55, 73, 15), (58, 200, 0)]]
def k_X0_isFull : List (List (Nat × Nat × Int)) := [[(0, 4, 0), (1, 70, 12), (4, 201, 116), (7, 15, 2), (8, 25, 0), (9, 17, 1024), (12, 43, 7), (19, 15, 0), (20, 200, 0)]]
def k_X0_isSameAnew : List (List (Nat × Nat × Int)) := [[(0, 4, 0), (1, 70, 11), (4, 15, 0), (5, 4, 0), (6, 70, 14), (9, 15, 0), (10, 16, 24), (12, 77, 0), (15, 4, 0), (16, 70, 10), (19, 15, 0), (20, 4, 0), (21, 70, 15), (24, 15, 0), (25, 16, 24), (27, 77, 0), (30, 4, 0), (31, 201, 118), (34, 15, 0), (35, 7, 1), (36, 0, 1), (37, 16, 24), (39, 41, 41), (42, 4, 0), (43, 70, 11), (46, 0, 1), (47, 55, 0), (48, 4, 0), (49, 70, 14), (52, 0, 1), (53, 55, 0), (54, 39, 18), (57, 4, 0), (58, 70, 10), (61, 0, 1), (62, 55, 0), (63, 4, 0)],
  [(64, 70, 15), (67, 0, 1), (68, 55, 0), (69, 38, 5), (74, 29, 1501), (77, 53, -41), (80, 15, 1), (81, 200, 0)]]
def k_X0_playersWithYellows : List (List (Nat × Nat × Int)) := [[(0, 15, 0), (1, 7, 1), (2, 15, 0), (3, 7, 2), (4, 0, 2), (5, 16, 24), (7, 41, 21), (10, 4, 0), (11, 70, 10), (14, 0, 2), (15, 55, 0), (16, 37, 6), (22, 29, 2501), (25, 53, -21), (28, 0, 1), (29, 200, 0)]]
def k_X0_write : List (List (Nat × Nat × Int)) := [[(0, 4, 0), (1, 70, 12), (4, 4, 1), (5, 201, 119), (8, 24, 0), (9, 4, 0), (10, 4, 1), (11, 201, 120), (14, 200, 0)]]
def k_X11_init : List (List (Nat × Nat × Int)) := [[(0, 4, 0), (1, 75, 3), (4, 4, 0), (5, 17, 1000), (8, 72, 16), (11, 4, 0), (12, 15, 0), (13, 72, 17), (16, 4, 0), (17, 15, 0), (18, 72, 18), (21, 4, 0), (22, 0, 1), (23, 72, 19), (26, 4, 0), (27, 0, 2), (28, 73, 20), (31, 4, 0), (32, 0, 3), (33, 73, 21), (36, 200, 0)]]
def k_X12_init : List (List (Nat × Nat × Int)) := [[(0, 4, 0), (1, 75, 4), (4, 4, 0), (5, 69, 4), (8, 22, 0), (9, 201, 121), (12, 73, 22), (15, 4, 0), (16, 0, 1), (17, 73, 23), (20, 4, 0), (21, 6, 2), (22, 73, 24), (25, 4, 0), (26, 0, 3), (27, 73, 25), (30, 4, 0), (31, 1, 4), (33, 73, 26), (36, 200, 0)]]
def k_X15_abandon : List (List (Nat × Nat × Int)) := [[(0, 4, 0), (1, 4, 0), (2, 70, 27), (5, 51, 7), (12, 15, 0), (13, 15, 1), (14, 201, 122), (17, 32, 5), (20, 15, 0), (21, 200, 0)]]
def k_X15_addClub : List (List (Nat × Nat × Int)) := [[(0, 4, 0), (1, 0, 1), (2, 30, 0), (3, 18, 0), (4, 18, 1), (5, 201, 123), (8, 32, 31), (11, 0, 2), (12, 30, 0), (13, 18, 0), (14, 78, 0), (17, 201, 123), (20, 32, 19), (23, 0, 3), (24, 30, 0), (25, 18, 0), (26, 78, 1), (29, 201, 123), (32, 32, 7), (35, 15, 1), (36, 53, 4), (39, 15, 0), (40, 15, 1), (41, 201, 122), (44, 33, 39), (47, 4, 0), (48, 4, 0), (49, 0, 1), (50, 201, 124), (53, 15, 4), (54, 41, 21), (57, 4, 0), (58, 70, 28), (61, 201, 125)],
  [(66, 16, 8), (68, 41, 7), (71, 15, 1), (72, 53, 4), (76, 15, 2), (77, 201, 122), (80, 32, 5), (83, 15, 0), (84, 200, 0), (85, 4, 0), (86, 70, 28), (89, 69, 5), (92, 22, 0), (93, 0, 1), (94, 0, 2), (95, 0, 3), (96, 201, 126), (99, 201, 127), (104, 24, 0), (105, 4, 0), (106, 70, 28), (109, 201, 125), (114, 15, 1), (115, 26, 0), (116, 200, 0)]]
def k_X15_addPlayer : List (List (Nat × Nat × Int)) := [[(0, 4, 0), (1, 4, 0), (2, 0, 1), (3, 201, 128), (6, 15, 1), (7, 201, 122), (10, 33, 30), (40, 15, 0), (41, 200, 0)]]
def k_X15_appeal : List (List (Nat × Nat × Int)) := [[(0, 4, 0), (1, 0, 1), (2, 30, 0), (3, 18, 0), (4, 4, 0), (5, 70, 29), (8, 201, 125), (13, 15, 1), (14, 26, 0), (15, 30, 0), (16, 201, 123), (19, 15, 1), (20, 201, 122), (23, 32, 5), (26, 15, 0), (27, 200, 0)]]
def k_X15_ban : List (List (Nat × Nat × Int)) := [[(0, 4, 0), (1, 4, 0), (2, 0, 1), (3, 201, 129), (6, 15, 1), (7, 201, 122), (10, 32, 5), (13, 15, 0), (14, 200, 0)]]
def k_X15_callBack : List (List (Nat × Nat × Int)) := [[(0, 4, 0), (1, 4, 0), (2, 0, 1), (3, 201, 129), (6, 15, 1), (7, 201, 122), (10, 33, 42), (52, 15, 0), (53, 200, 0)]]
def k_X15_card : List (List (Nat × Nat × Int)) := [[(0, 4, 0), (1, 0, 1), (2, 201, 130), (5, 33, 16), (21, 15, 0), (22, 200, 0)]]
def k_X15_change : List (List (Nat × Nat × Int)) := [[(0, 4, 0), (1, 4, 0), (2, 0, 1), (3, 201, 129), (6, 32, 15), (21, 15, 0), (22, 15, 1), (23, 201, 122), (26, 33, 23), (49, 15, 0), (50, 200, 0)]]
def k_X15_clubAt : List (List (Nat × Nat × Int)) := [[(0, 4, 0), (1, 0, 1), (2, 30, 0), (3, 18, 0), (4, 18, 1), (5, 201, 123), (8, 15, 1), (9, 201, 122), (12, 33, 25), (15, 4, 0), (16, 0, 2), (17, 30, 0), (18, 18, 0), (19, 4, 0), (20, 0, 1), (21, 201, 124), (24, 15, 1), (25, 26, 0), (26, 30, 0), (27, 201, 123), (30, 15, 2), (31, 201, 122), (34, 32, 5), (37, 15, 0), (38, 200, 0)]]
def k_X15_clubsIn : List (List (Nat × Nat × Int)) := [[(0, 15, 0), (1, 7, 2), (2, 4, 0), (3, 70, 28), (6, 201, 131), (11, 9, 3), (12, 4, 3), (13, 201, 132), (18, 32, 34), (52, 0, 2), (53, 200, 0)]]
def k_X15_counting : List (List (Nat × Nat × Int)) := [[(0, 69, 6), (3, 22, 0), (4, 201, 133), (7, 9, 2), (8, 15, 0), (9, 7, 3), (10, 0, 3), (11, 4, 0), (12, 70, 28), (15, 201, 125), (20, 41, 59)],
  [(79, 4, 2), (80, 200, 0)]]
def k_X15_divisionOf : List (List (Nat × Nat × Int)) := [[(0, 4, 0), (1, 4, 0), (2, 0, 1), (3, 201, 128), (6, 15, 1), (7, 201, 122), (10, 32, 7), (13, 15, 0), (14, 53, 19), (33, 200, 0)]]
def k_X15_end : List (List (Nat × Nat × Int)) := [[(0, 4, 0), (1, 4, 0), (2, 70, 27), (5, 51, 7), (12, 15, 0), (13, 15, 1), (14, 201, 122), (17, 32, 5), (20, 15, 0), (21, 200, 0)]]
def k_X15_endSeason : List (List (Nat × Nat × Int)) := [[(0, 15, 1), (1, 7, 1), (2, 4, 0), (3, 70, 30), (6, 201, 131), (11, 9, 2), (12, 4, 2), (13, 201, 132), (18, 32, 75)],
  [(93, 4, 0), (94, 0, 1), (95, 32, 14), (98, 4, 0), (99, 70, 27), (102, 52, 7), (105, 15, 1), (106, 53, 4), (110, 15, 1), (111, 201, 122), (114, 32, 5), (119, 4, 0), (120, 201, 134), (123, 4, 0), (124, 15, 0), (125, 201, 135)],
  [(128, 9, 2), (129, 4, 0), (130, 15, 1), (131, 201, 135), (134, 9, 3), (135, 15, -1), (136, 8, 4), (138, 4, 3), (139, 201, 131), (144, 10, 5), (146, 5, 5), (148, 201, 132), (153, 32, 72)],
  [(225, 1, 4), (227, 15, -1), (228, 38, 21), (249, 1, 4), (251, 15, -1), (252, 38, 48)],
  [(300, 4, 0), (301, 70, 30), (304, 201, 136), (309, 4, 0), (310, 70, 28), (313, 201, 131), (318, 10, 5)],
  [(320, 5, 5), (322, 201, 132), (327, 32, 30), (357, 4, 0), (358, 70, 31), (361, 69, 7), (364, 22, 0), (365, 16, 119), (367, 21, 0), (368, 15, -1), (369, 15, 1), (370, 201, 137), (373, 201, 127), (378, 24, 0), (379, 1, 4), (381, 200, 0)]]
def k_X15_fixture : List (List (Nat × Nat × Int)) := [[(0, 4, 0), (1, 0, 1), (2, 201, 138), (5, 33, 34), (39, 15, 0), (40, 200, 0)]]
def k_X15_goOn : List (List (Nat × Nat × Int)) := [[(0, 4, 0), (1, 0, 1), (2, 30, 0), (3, 18, 1), (4, 78, 2), (7, 201, 123), (10, 15, 1), (11, 201, 122), (14, 33, 23), (17, 4, 0), (18, 4, 0), (19, 70, 27), (22, 52, 7), (25, 15, 1), (26, 53, 4), (30, 15, 2), (31, 201, 122), (34, 32, 5), (37, 15, 0), (38, 200, 0), (39, 4, 0), (40, 22, 0), (41, 70, 32), (44, 0, 1), (45, 25, 0), (46, 72, 32), (49, 4, 0), (50, 70, 32), (53, 200, 0)]]
def k_X15_goal : List (List (Nat × Nat × Int)) := [[(0, 4, 0), (1, 0, 1), (2, 201, 130), (5, 33, 45), (50, 15, 0), (51, 200, 0)]]
def k_X15_goesThrough : List (List (Nat × Nat × Int)) := [[(0, 15, 0), (1, 7, 1), (2, 0, 1), (3, 16, 24), (5, 41, 23), (8, 4, 0), (9, 70, 33), (12, 0, 1), (13, 15, 0), (14, 58, 0), (15, 4, 0), (16, 70, 34), (19, 0, 1), (20, 15, 0), (21, 58, 0), (22, 29, 1501), (25, 53, -23), (28, 4, 0), (29, 70, 31), (32, 201, 131), (37, 9, 1), (38, 4, 1), (39, 201, 132), (44, 32, 143)],
  [],
  [(187, 200, 0)]]
def k_X15_hasFixtures : List (List (Nat × Nat × Int)) := [[(0, 15, 0), (1, 7, 2), (2, 4, 0), (3, 70, 30), (6, 201, 131), (11, 9, 3), (12, 4, 3), (13, 201, 132), (18, 32, 49)],
  [(67, 0, 2), (68, 200, 0)]]
def k_X15_init : List (List (Nat × Nat × Int)) := [[(0, 4, 0), (1, 75, 5), (4, 4, 0), (5, 69, 6), (8, 22, 0), (9, 201, 133), (12, 73, 28), (15, 4, 0), (16, 69, 6), (19, 22, 0), (20, 201, 133), (23, 73, 35), (26, 4, 0), (27, 69, 6), (30, 22, 0), (31, 201, 133), (34, 73, 30), (37, 4, 0), (38, 69, 6), (41, 22, 0), (42, 201, 133), (45, 73, 29), (48, 4, 0), (49, 69, 6), (52, 22, 0), (53, 201, 133), (56, 73, 31), (59, 4, 0), (60, 16, 64), (62, 65, 0)],
  [(64, 73, 36), (67, 4, 0), (68, 16, 24), (70, 64, 0), (72, 73, 33), (75, 4, 0), (76, 16, 24), (78, 64, 0), (80, 73, 34), (83, 4, 0), (84, 15, 1), (85, 72, 37), (88, 4, 0), (89, 15, 0), (90, 72, 38), (93, 4, 0), (94, 21, 0), (95, 72, 27), (98, 200, 0)]]
def k_X15_isClub : List (List (Nat × Nat × Int)) := [[(0, 0, 1), (1, 30, 0), (2, 18, 0), (3, 4, 0), (4, 70, 28), (7, 201, 125), (12, 15, 1), (13, 26, 0), (14, 30, 0), (15, 201, 123), (18, 200, 0)]]
def k_X15_isGuilty : List (List (Nat × Nat × Int)) := [[(0, 4, 0), (1, 0, 1), (2, 201, 138), (5, 33, 37), (42, 15, 0), (43, 200, 0)]]
def k_X15_isIn : List (List (Nat × Nat × Int)) := [[(0, 2, 0), (1, 2, 2), (2, 46, 14), (6, 2, 0), (7, 3, 4), (9, 48, 7), (13, 15, 1), (14, 53, 4), (17, 15, 0), (18, 200, 0)]]
def k_X15_isOpen : List (List (Nat × Nat × Int)) := [[(0, 4, 0), (1, 70, 32), (4, 30, 0), (5, 4, 0), (6, 70, 37), (9, 30, 0), (10, 4, 0), (11, 70, 38), (14, 30, 0), (15, 201, 123), (18, 200, 0)]]
def k_X15_isPlayer : List (List (Nat × Nat × Int)) := [[(0, 0, 1), (1, 30, 0), (2, 18, 0), (3, 4, 0), (4, 70, 35), (7, 201, 125), (12, 15, 1), (13, 26, 0), (14, 30, 0), (15, 201, 123), (18, 200, 0)]]
def k_X15_isSound : List (List (Nat × Nat × Int)) := [[(0, 15, 1), (1, 200, 0)]]
def k_X15_kickOff : List (List (Nat × Nat × Int)) := [[(0, 4, 0), (1, 0, 1), (2, 201, 138), (5, 32, 5), (8, 15, 0), (9, 200, 0)]]
def k_X15_lend : List (List (Nat × Nat × Int)) := [[(0, 4, 0), (1, 4, 0), (2, 0, 1), (3, 201, 129), (6, 32, 15), (21, 15, 0), (22, 15, 1), (23, 201, 122), (26, 32, 5), (29, 15, 0), (30, 200, 0)]]
def k_X15_meanGoals : List (List (Nat × Nat × Int)) := [[(0, 4, 0), (1, 4, 0), (2, 201, 139), (5, 37, 7), (12, 15, 0), (13, 15, 1), (14, 201, 122), (17, 32, 5), (20, 20, 0), (21, 200, 0)]]
def k_X15_money : List (List (Nat × Nat × Int)) := [[(0, 18, 0), (1, 12, 1), (2, 4, 0), (3, 70, 28), (6, 201, 131), (11, 9, 3), (12, 4, 3), (13, 201, 132), (18, 32, 26), (44, 2, 1), (45, 200, 0)]]
def k_X15_name : List (List (Nat × Nat × Int)) := [[(0, 4, 0), (1, 0, 1), (2, 30, 0), (3, 18, 0), (4, 4, 0), (5, 70, 30), (8, 201, 125), (13, 15, 1), (14, 26, 0), (15, 30, 0), (16, 201, 123), (19, 32, 15), (34, 15, 0), (35, 15, 1), (36, 201, 122), (39, 32, 5), (42, 15, 0), (43, 200, 0)]]
def k_X15_no : List (List (Nat × Nat × Int)) := [[(0, 4, 0), (1, 0, 1), (2, 32, 7), (5, 15, 0), (6, 53, 4), (9, 0, 2), (10, 72, 39), (13, 0, 1), (14, 33, 7), (17, 15, 1), (18, 53, 4), (21, 15, 0), (22, 200, 0)]]
def k_X15_noMatch : List (List (Nat × Nat × Int)) := [[(0, 4, 0), (1, 0, 1), (2, 30, 0), (3, 18, 0), (4, 4, 0), (5, 70, 30), (8, 201, 125), (13, 15, 1), (14, 26, 0), (15, 30, 0), (16, 201, 123), (19, 15, 1), (20, 201, 122), (23, 200, 0)]]
def k_X15_noOn : List (List (Nat × Nat × Int)) := [[(0, 4, 0), (1, 4, 0), (2, 0, 1), (3, 201, 129), (6, 15, 1), (7, 201, 122), (10, 33, 23), (33, 15, 1), (34, 53, 4), (38, 200, 0)]]
def k_X15_over : List (List (Nat × Nat × Int)) := [[(0, 15, 0), (1, 7, 1), (2, 4, 0), (3, 70, 30), (6, 201, 131), (11, 9, 2), (12, 4, 2), (13, 201, 132), (18, 32, 31), (49, 0, 1), (50, 200, 0)]]
def k_X15_overShare : List (List (Nat × Nat × Int)) := [[(0, 4, 0), (1, 4, 0), (2, 70, 30), (5, 201, 140), (10, 33, 7), (17, 15, 0), (18, 15, 1), (19, 201, 122), (22, 32, 7), (25, 19, 0), (26, 53, 19), (45, 200, 0)]]
def k_X15_plan : List (List (Nat × Nat × Int)) := [[(0, 4, 0), (1, 0, 1), (2, 30, 0), (3, 18, 0), (4, 18, 1), (5, 201, 123), (8, 15, 1), (9, 201, 122), (12, 33, 33), (15, 4, 0), (16, 4, 0), (17, 0, 1), (18, 201, 141), (21, 33, 16), (24, 4, 0), (25, 0, 1), (26, 201, 124), (29, 15, 2), (30, 40, 7), (37, 15, 0), (38, 15, 2), (39, 201, 122), (42, 32, 5), (45, 15, 0), (46, 200, 0)]]
def k_X15_points : List (List (Nat × Nat × Int)) := [[(0, 4, 0), (1, 4, 0), (2, 0, 1), (3, 201, 128), (6, 15, 1), (7, 201, 122), (10, 32, 5), (13, 15, 0), (14, 200, 0)]]
def k_X15_putOff : List (List (Nat × Nat × Int)) := [[(0, 4, 0), (1, 0, 1), (2, 201, 138), (5, 32, 5), (8, 15, 0), (9, 200, 0)]]
def k_X15_registered : List (List (Nat × Nat × Int)) := [[(0, 4, 0), (1, 4, 0), (2, 0, 1), (3, 201, 129), (6, 15, 1), (7, 201, 122), (10, 32, 7), (13, 15, 0), (14, 53, 19), (33, 200, 0)]]
def k_X15_resultOf : List (List (Nat × Nat × Int)) := [[(0, 4, 0), (1, 0, 1), (2, 201, 138), (5, 33, 27), (32, 15, 0), (33, 200, 0)]]
def k_X15_sell : List (List (Nat × Nat × Int)) := [[(0, 4, 0), (1, 4, 0), (2, 0, 1), (3, 201, 129), (6, 32, 15), (21, 15, 0), (22, 15, 1), (23, 201, 122), (26, 32, 5), (29, 15, 0), (30, 200, 0)]]
def k_X15_setDerby : List (List (Nat × Nat × Int)) := [[(0, 4, 0), (1, 4, 0), (2, 0, 1), (3, 201, 128), (6, 32, 15), (21, 15, 0), (22, 15, 1), (23, 201, 122), (26, 33, 21), (47, 15, 0), (48, 200, 0)]]
def k_X15_setWindow : List (List (Nat × Nat × Int)) := [[(0, 4, 0), (1, 0, 1), (2, 30, 0), (3, 18, 0), (4, 78, 3), (7, 201, 123), (10, 32, 19), (13, 0, 2), (14, 30, 0), (15, 18, 0), (16, 78, 3), (19, 201, 123), (22, 32, 7), (25, 15, 1), (26, 53, 4), (29, 15, 0), (30, 15, 1), (31, 201, 122), (34, 32, 5), (37, 15, 0), (38, 200, 0), (39, 4, 0), (40, 0, 1), (41, 72, 37), (44, 4, 0), (45, 0, 2), (46, 72, 38), (49, 4, 0), (50, 201, 142), (53, 200, 0)]]
def k_X15_stateOf : List (List (Nat × Nat × Int)) := [[(0, 4, 0), (1, 0, 1), (2, 201, 138), (5, 32, 8), (8, 16, 112), (10, 53, 19), (29, 200, 0)]]
def k_X15_strike : List (List (Nat × Nat × Int)) := [[(0, 4, 0), (1, 4, 0), (2, 0, 1), (3, 201, 128), (6, 15, 1), (7, 201, 122), (10, 33, 23), (33, 15, 0), (34, 200, 0)]]
def k_X15_table : List (List (Nat × Nat × Int)) := [[(0, 4, 0), (1, 0, 1), (2, 201, 143), (5, 9, 2), (6, 69, 6), (9, 22, 0), (10, 201, 133), (13, 9, 3), (14, 4, 2), (15, 201, 140), (20, 33, 170)],
  [],
  [(190, 15, 0), (191, 8, 4)],
  [(193, 1, 4), (195, 4, 0), (196, 70, 28), (199, 201, 125), (204, 41, 62)],
  [(266, 4, 3), (267, 200, 0)]]
def k_X15_takePoints : List (List (Nat × Nat × Int)) := [[(0, 4, 0), (1, 4, 0), (2, 0, 1), (3, 201, 128), (6, 15, 1), (7, 201, 122), (10, 33, 20), (30, 15, 0), (31, 200, 0)]]
def k_X15_thrown : List (List (Nat × Nat × Int)) := [[(0, 4, 0), (1, 70, 39), (4, 200, 0)]]
def k_X15_wipe : List (List (Nat × Nat × Int)) := [[(0, 4, 0), (1, 4, 0), (2, 70, 27), (5, 52, 7), (8, 15, 1), (9, 53, 4), (13, 15, 1), (14, 201, 122), (17, 32, 5), (22, 4, 0), (23, 201, 134), (26, 15, 0), (27, 7, 1), (28, 4, 0), (29, 70, 34), (32, 9, 2), (33, 4, 2), (34, 61, 0), (35, 7, 3), (36, 15, 0), (37, 8, 4), (39, 1, 4), (41, 0, 3), (42, 41, 28), (45, 4, 2), (46, 1, 4), (48, 55, 0), (49, 8, 5), (51, 0, 1), (52, 1, 5), (54, 37, 7), (61, 15, 0), (62, 25, 0), (63, 7, 1)],
  [(64, 29, 4501), (67, 53, -28), (70, 4, 0), (71, 70, 31), (74, 69, 7), (77, 22, 0), (78, 16, 119), (80, 21, 0), (81, 15, -1), (82, 15, 1), (83, 201, 137), (86, 201, 127), (91, 24, 0), (92, 0, 1), (93, 200, 0)]]
def k_X15_yellows : List (List (Nat × Nat × Int)) := [[(0, 4, 0), (1, 4, 0), (2, 0, 1), (3, 201, 129), (6, 15, 1), (7, 201, 122), (10, 32, 5), (13, 15, 0), (14, 200, 0)]]
def k_X2_init : List (List (Nat × Nat × Int)) := [[(0, 4, 0), (1, 75, 6), (4, 4, 0), (5, 0, 1), (6, 73, 40), (9, 4, 0), (10, 0, 2), (11, 72, 41), (14, 4, 0), (15, 0, 3), (16, 73, 42), (19, 4, 0), (20, 1, 4), (22, 73, 43), (25, 4, 0), (26, 17, 1000), (29, 72, 44), (32, 200, 0)]]
def k_X3_init : List (List (Nat × Nat × Int)) := [[(0, 4, 0), (1, 75, 7), (4, 4, 0), (5, 0, 1), (6, 73, 45), (9, 4, 0), (10, 6, 2), (11, 73, 46), (14, 4, 0), (15, 0, 3), (16, 73, 47), (19, 4, 0), (20, 1, 4), (22, 73, 48), (25, 200, 0)]]
def k_X5_init : List (List (Nat × Nat × Int)) := [[(0, 4, 0), (1, 75, 8), (4, 4, 0), (5, 69, 8), (8, 22, 0), (9, 201, 144), (12, 73, 49), (15, 4, 0), (16, 69, 8), (19, 22, 0), (20, 201, 144), (23, 73, 50), (26, 4, 0), (27, 16, 12), (29, 64, 0), (31, 73, 51), (34, 4, 0), (35, 16, 6), (37, 64, 0), (39, 73, 52), (42, 4, 0), (43, 16, 6), (45, 64, 0), (47, 73, 53), (50, 4, 0), (51, 16, 6), (53, 65, 0), (55, 73, 54), (58, 200, 0)]]
def k_X8_addRows : List (List (Nat × Nat × Int)) := [[(0, 15, 0), (1, 8, 4), (3, 1, 4), (5, 4, 2), (6, 201, 145), (9, 41, 48), (57, 200, 0)]]
def k_X8_countAmong : List (List (Nat × Nat × Int)) := [[(0, 0, 1), (1, 8, 4), (3, 1, 4), (5, 0, 2), (6, 41, 40), (46, 15, 0), (47, 8, 4), (49, 1, 4), (51, 4, 3), (52, 201, 145), (55, 41, 116)],
  [],
  [(171, 0, 1), (172, 8, 4), (174, 1, 4), (176, 0, 2), (177, 41, 25)],
  [(202, 200, 0)]]
def k_X8_draw : List (List (Nat × Nat × Int)) := [[(0, 4, 0), (1, 70, 55), (4, 201, 146), (7, 15, 0), (8, 8, 4), (10, 1, 4), (12, 4, 2), (13, 201, 145), (16, 41, 22), (38, 4, 0), (39, 0, 1), (40, 4, 2), (41, 15, 0), (42, 201, 147), (45, 4, 0), (46, 70, 55), (49, 201, 145), (52, 8, 4), (54, 4, 0), (55, 15, 0), (56, 1, 4), (58, 4, 3), (59, 201, 148), (62, 15, 0), (63, 8, 5)],
  [(65, 1, 5), (67, 1, 4), (69, 41, 69)],
  [(138, 4, 0), (139, 15, 0), (140, 1, 4), (142, 201, 149), (145, 4, 0), (146, 15, 0), (147, 1, 4), (149, 4, 3), (150, 15, 0), (151, 201, 150), (154, 4, 0), (155, 0, 1), (156, 4, 2), (157, 15, 1), (158, 201, 147), (161, 200, 0)]]
def k_X8_firstToRise : List (List (Nat × Nat × Int)) := [[(0, 15, 0), (1, 7, 1), (2, 0, 1), (3, 4, 0), (4, 70, 55), (7, 201, 145), (10, 41, 38), (48, 21, 0), (49, 200, 0)]]
def k_X8_init : List (List (Nat × Nat × Int)) := [[(0, 4, 0), (1, 75, 9), (4, 4, 0), (5, 69, 9), (8, 22, 0), (9, 201, 151), (12, 73, 55), (15, 200, 0)]]
def k_X8_partTies : List (List (Nat × Nat × Int)) := [[(0, 0, 1), (1, 8, 5), (3, 0, 1), (4, 15, 1), (5, 25, 0), (6, 8, 6), (8, 1, 6), (10, 0, 2), (11, 42, 72)],
  [(83, 200, 0)]]
def k_X8_sort : List (List (Nat × Nat × Int)) := [[(0, 0, 1), (1, 15, 1), (2, 25, 0), (3, 7, 3), (4, 0, 3), (5, 0, 2), (6, 41, 98)],
  [(104, 200, 0)]]
def k_X9_abandon : List (List (Nat × Nat × Int)) := [[(0, 4, 0), (1, 201, 152)]]
def k_X9_addClub : List (List (Nat × Nat × Int)) := [[(0, 0, 1), (1, 201, 153), (4, 32, 22), (7, 0, 2), (8, 15, 0), (9, 16, 7), (11, 201, 154), (14, 32, 12), (17, 0, 3), (18, 15, 0), (19, 15, 3), (20, 201, 154), (23, 33, 13), (26, 202, 0), (36, 4, 0), (37, 0, 1), (38, 201, 155), (41, 15, 4), (42, 40, 13), (55, 69, 10), (58, 22, 0), (59, 4, 0), (60, 70, 56), (63, 201, 156)],
  [(66, 0, 1), (67, 0, 2), (68, 0, 3), (69, 201, 157), (72, 10, 4), (74, 4, 0), (75, 70, 56), (78, 5, 4), (80, 201, 158), (83, 24, 0), (84, 5, 4), (86, 70, 57), (89, 200, 0)]]
def k_X9_addPlayer : List (List (Nat × Nat × Int)) := [[(0, 4, 0), (1, 0, 1), (2, 201, 159)]]
def k_X9_appeal : List (List (Nat × Nat × Int)) := [[(0, 0, 1), (1, 34, 17), (4, 0, 1), (5, 4, 0), (6, 70, 58), (9, 70, 59), (12, 201, 156), (15, 40, 14), (18, 202, 1)]]
def k_X9_ban : List (List (Nat × Nat × Int)) := [[(0, 4, 0), (1, 0, 1), (2, 201, 160)]]
def k_X9_callBack : List (List (Nat × Nat × Int)) := [[(0, 4, 0), (1, 0, 1), (2, 201, 160)]]
def k_X9_card : List (List (Nat × Nat × Int)) := [[(0, 4, 0), (1, 0, 1), (2, 201, 161)]]
def k_X9_change : List (List (Nat × Nat × Int)) := [[(0, 4, 0), (1, 0, 1), (2, 201, 161)]]
def k_X9_clearSeason : List (List (Nat × Nat × Int)) := [[(0, 4, 0), (1, 70, 60), (4, 201, 162), (7, 4, 0), (8, 21, 0), (9, 72, 61), (12, 15, 0), (13, 7, 1), (14, 0, 1), (15, 4, 0), (16, 70, 56), (19, 201, 156), (22, 41, 31), (53, 4, 0), (54, 70, 58), (57, 69, 11), (60, 22, 0), (61, 15, 2), (62, 21, 0), (63, 15, 0)],
  [(64, 15, 0), (65, 201, 163), (68, 201, 164), (71, 200, 0)]]
def k_X9_clubAt : List (List (Nat × Nat × Int)) := [[(0, 0, 1), (1, 201, 153), (4, 33, 13), (7, 202, 2), (17, 0, 2), (18, 34, 12), (21, 0, 2), (22, 4, 0), (23, 0, 1), (24, 201, 155), (27, 40, 14), (30, 202, 3)]]
def k_X9_clubsIn : List (List (Nat × Nat × Int)) := [[(0, 15, 0), (1, 7, 2), (2, 15, 0), (3, 7, 3), (4, 0, 3), (5, 4, 0), (6, 70, 56), (9, 201, 156), (12, 41, 30), (42, 0, 2), (43, 200, 0)]]
def k_X9_divisionOf : List (List (Nat × Nat × Int)) := [[(0, 4, 0), (1, 0, 1), (2, 201, 159)]]
def k_X9_end : List (List (Nat × Nat × Int)) := [[(0, 4, 0), (1, 201, 152)]]
def k_X9_endSeason : List (List (Nat × Nat × Int)) := [[(0, 4, 0), (1, 201, 165), (4, 33, 13), (7, 4, 0), (8, 70, 58), (11, 201, 166), (14, 32, 14), (28, 4, 0), (29, 70, 62), (32, 15, 1), (33, 4, 0), (34, 70, 56), (37, 4, 0), (38, 70, 60), (41, 201, 167), (44, 4, 0), (45, 70, 62), (48, 201, 168), (51, 11, 1), (52, 4, 0), (53, 70, 62), (56, 15, 0), (57, 4, 0), (58, 70, 56), (61, 4, 0), (62, 70, 60)],
  [(65, 201, 167), (68, 6, 1), (69, 52, 7), (72, 21, 0), (73, 53, 10), (83, 11, 2), (84, 6, 1), (85, 51, 8), (93, 6, 2), (94, 51, 8), (102, 4, 0), (103, 201, 169), (106, 6, 1), (107, 52, 7), (110, 15, -1), (111, 53, 7), (118, 200, 0)]]
def k_X9_fixture : List (List (Nat × Nat × Int)) := [[(0, 4, 0), (1, 0, 1), (2, 201, 170)]]
def k_X9_fixturesOver : List (List (Nat × Nat × Int)) := [[(0, 15, 0), (1, 7, 1), (2, 15, 0), (3, 7, 2), (4, 0, 2), (5, 4, 0), (6, 70, 60), (9, 201, 156), (12, 41, 29), (41, 0, 1), (42, 200, 0)]]
def k_X9_goOn : List (List (Nat × Nat × Int)) := [[(0, 0, 1), (1, 15, 1), (2, 16, 99), (4, 201, 154), (7, 33, 13), (10, 202, 4), (20, 4, 0), (21, 70, 61), (24, 51, 13), (37, 4, 0), (38, 22, 0), (39, 70, 63), (42, 0, 1), (43, 25, 0), (44, 72, 63), (47, 4, 0), (48, 70, 63), (51, 200, 0)]]
def k_X9_goal : List (List (Nat × Nat × Int)) := [[(0, 4, 0), (1, 0, 1), (2, 201, 161)]]
def k_X9_hasFixtures : List (List (Nat × Nat × Int)) := [[(0, 15, 0), (1, 7, 2), (2, 0, 2), (3, 4, 0), (4, 70, 60), (7, 201, 156), (10, 41, 35), (45, 15, 0), (46, 200, 0)]]
def k_X9_init : List (List (Nat × Nat × Int)) := [[(0, 4, 0), (1, 75, 10), (4, 4, 0), (5, 69, 12), (8, 22, 0), (9, 201, 171), (12, 73, 56), (15, 4, 0), (16, 69, 12), (19, 22, 0), (20, 201, 171), (23, 73, 64), (26, 4, 0), (27, 69, 12), (30, 22, 0), (31, 201, 171), (34, 73, 60), (37, 4, 0), (38, 69, 13), (41, 22, 0), (42, 201, 172), (45, 73, 58), (48, 4, 0), (49, 69, 14), (52, 22, 0), (53, 201, 173), (56, 73, 65), (59, 4, 0), (60, 69, 15), (63, 22, 0)],
  [(64, 201, 174), (67, 73, 62), (70, 4, 0), (71, 15, 0), (72, 72, 63), (75, 4, 0), (76, 15, 1), (77, 72, 66), (80, 4, 0), (81, 15, 0), (82, 72, 67), (85, 4, 0), (86, 21, 0), (87, 72, 61), (90, 200, 0)]]
def k_X9_isDivision : List (List (Nat × Nat × Int)) := [[(0, 0, 0), (1, 15, 0), (2, 15, 1), (3, 201, 154), (6, 200, 0)]]
def k_X9_isFixtureLeft : List (List (Nat × Nat × Int)) := [[(0, 15, 0), (1, 7, 1), (2, 0, 1), (3, 4, 0), (4, 70, 60), (7, 201, 156), (10, 41, 37), (47, 15, 0), (48, 200, 0)]]
def k_X9_isGuilty : List (List (Nat × Nat × Int)) := [[(0, 4, 0), (1, 0, 1), (2, 201, 170)]]
def k_X9_isSound : List (List (Nat × Nat × Int)) := [[(0, 15, 0), (1, 7, 1), (2, 0, 1), (3, 4, 0), (4, 70, 60), (7, 201, 156), (10, 41, 23), (33, 4, 0), (34, 70, 58), (37, 201, 175), (40, 7, 1), (41, 15, 1), (42, 7, 2), (43, 15, 0), (44, 7, 3), (45, 0, 3), (46, 4, 0), (47, 70, 60), (50, 201, 156), (53, 41, 36)],
  [(89, 78, 4), (92, 4, 0), (93, 70, 56), (96, 201, 156), (99, 30, 0), (100, 28, 0), (101, 12, 3), (102, 0, 1), (103, 32, 20), (106, 0, 2), (107, 32, 16), (110, 4, 0), (111, 201, 176), (114, 2, 3), (115, 45, 7), (119, 15, 1), (120, 53, 4), (124, 200, 0)]]
def k_X9_isWindowOpen : List (List (Nat × Nat × Int)) := [[(0, 4, 0), (1, 70, 63), (4, 4, 0), (5, 70, 66), (8, 4, 0), (9, 70, 67), (12, 201, 154), (15, 200, 0)]]
def k_X9_isWithin : List (List (Nat × Nat × Int)) := [[(0, 0, 0), (1, 0, 1), (2, 40, 12), (5, 0, 0), (6, 0, 2), (7, 42, 7), (10, 15, 1), (11, 53, 4), (14, 15, 0), (15, 200, 0)]]
def k_X9_kickOff : List (List (Nat × Nat × Int)) := [[(0, 4, 0), (1, 0, 1), (2, 201, 170)]]
def k_X9_knownBit : List (List (Nat × Nat × Int)) := [[(0, 4, 0), (1, 0, 1), (2, 201, 160)]]
def k_X9_knownClub : List (List (Nat × Nat × Int)) := [[(0, 0, 1), (1, 34, 14), (4, 0, 1), (5, 4, 0), (6, 70, 56), (9, 201, 156), (12, 40, 14), (15, 202, 5)]]
def k_X9_knownFixture : List (List (Nat × Nat × Int)) := [[(0, 0, 1), (1, 34, 14), (4, 0, 1), (5, 4, 0), (6, 70, 60), (9, 201, 156), (12, 40, 14), (15, 202, 6)]]
def k_X9_knownMatch : List (List (Nat × Nat × Int)) := [[(0, 4, 0), (1, 70, 61), (4, 52, 14), (7, 202, 7)]]
def k_X9_knownPlayer : List (List (Nat × Nat × Int)) := [[(0, 0, 1), (1, 34, 20), (4, 0, 1), (5, 4, 0), (6, 70, 64), (9, 201, 156), (12, 41, 9), (21, 202, 8)]]
def k_X9_lend : List (List (Nat × Nat × Int)) := [[(0, 4, 0), (1, 0, 1), (2, 201, 160)]]
def k_X9_meanGoals : List (List (Nat × Nat × Int)) := [[(0, 4, 0), (1, 201, 177), (4, 7, 1), (5, 0, 1), (6, 33, 14), (9, 202, 9)]]
def k_X9_money : List (List (Nat × Nat × Int)) := [[(0, 18, 0), (1, 12, 1), (2, 15, 0), (3, 7, 3), (4, 0, 3), (5, 4, 0), (6, 70, 56), (9, 201, 156), (12, 41, 27), (39, 2, 1), (40, 200, 0)]]
def k_X9_name : List (List (Nat × Nat × Int)) := [[(0, 4, 0), (1, 0, 1), (2, 201, 170)]]
def k_X9_overShare : List (List (Nat × Nat × Int)) := [[(0, 4, 0), (1, 70, 60), (4, 201, 156), (7, 7, 1), (8, 0, 1), (9, 33, 14), (12, 202, 10)]]
def k_X9_plan : List (List (Nat × Nat × Int)) := [[(0, 0, 1), (1, 201, 153), (4, 33, 13), (7, 202, 2), (17, 4, 0), (18, 0, 1), (19, 201, 178), (22, 33, 12), (25, 4, 0), (26, 0, 1), (27, 201, 155), (30, 15, 2), (31, 41, 13), (34, 202, 11)]]
def k_X9_points : List (List (Nat × Nat × Int)) := [[(0, 4, 0), (1, 0, 1), (2, 201, 159)]]
def k_X9_putOff : List (List (Nat × Nat × Int)) := [[(0, 4, 0), (1, 0, 1), (2, 201, 170)]]
def k_X9_registered : List (List (Nat × Nat × Int)) := [[(0, 4, 0), (1, 0, 1), (2, 201, 160)]]
def k_X9_resultOf : List (List (Nat × Nat × Int)) := [[(0, 4, 0), (1, 0, 1), (2, 201, 170)]]
def k_X9_sell : List (List (Nat × Nat × Int)) := [[(0, 4, 0), (1, 0, 1), (2, 201, 160)]]
def k_X9_setDerby : List (List (Nat × Nat × Int)) := [[(0, 4, 0), (1, 0, 1), (2, 201, 159)]]
def k_X9_setWindow : List (List (Nat × Nat × Int)) := [[(0, 0, 1), (1, 15, 0), (2, 17, 9999), (5, 201, 154), (8, 32, 14), (11, 0, 2), (12, 15, 0), (13, 17, 9999), (16, 201, 154), (19, 33, 13), (22, 202, 12), (32, 4, 0), (33, 0, 1), (34, 72, 66), (37, 4, 0), (38, 0, 2), (39, 72, 67), (42, 4, 0), (43, 201, 179), (46, 200, 0)]]
def k_X9_stateOf : List (List (Nat × Nat × Int)) := [[(0, 4, 0), (1, 0, 1), (2, 201, 170)]]
def k_X9_strike : List (List (Nat × Nat × Int)) := [[(0, 4, 0), (1, 0, 1), (2, 201, 159)]]
def k_X9_takePoints : List (List (Nat × Nat × Int)) := [[(0, 4, 0), (1, 0, 1), (2, 201, 159)]]
def k_X9_wipe : List (List (Nat × Nat × Int)) := [[(0, 4, 0), (1, 70, 61), (4, 52, 13), (7, 4, 0), (8, 70, 58), (11, 201, 166), (14, 32, 13), (27, 4, 0), (28, 70, 58), (31, 201, 180), (34, 7, 1), (35, 4, 0), (36, 70, 58), (39, 69, 11), (42, 22, 0), (43, 15, 2), (44, 21, 0), (45, 15, 0), (46, 15, 0), (47, 201, 163), (50, 201, 164), (53, 0, 1), (54, 200, 0)]]
def k_X9_yellows : List (List (Nat × Nat × Int)) := [[(0, 4, 0), (1, 0, 1), (2, 201, 160)]]
def codeT : List (List (List (Nat × Nat × Int))) := [k_L_law, k_J7_fill_53178, k_Jx35411_hasNext_aae02, k_Jx35411_init_45d68, k_Jx4a65c_add_72be8, k_Jx4a65c_add_9ea2d, k_Jx4a65c_clear_da8c8, k_Jx4a65c_grow_92f84, k_Jx4a65c_grow_d5877, k_Jx4a65c_init_da8c8, k_Jx4a65c_isEmpty_aae02, k_Jx4a65c_iterator_32c93, k_Jx4a65c_size_8abf5, k_Jxa1e45_init_da8c8, k_Jxc12de_init_da8c8, k_L_abandon, k_L_addClub, k_L_addPlayer, k_L_appeal, k_L_ban, k_L_callBack, k_L_card, k_L_change, k_L_clubAt, k_L_divisionOf, k_L_end, k_L_endSeason, k_L_fixture, k_L_goOn, k_L_goal, k_L_isGuilty, k_L_kickOff, k_L_lend, k_L_meanGoals, k_L_name, k_L_overShare, k_L_plan, k_L_points, k_L_putOff, k_L_registered, k_L_resultOf, k_L_sell, k_L_setDerby, k_L_setWindow, k_L_stateOf, k_L_strike, k_L_takePoints, k_L_wipe, k_L_yellows, k_X0_count, k_X0_countAnew, k_X0_init, k_X0_isFull, k_X0_isSameAnew, k_X0_playersWithYellows, k_X0_write, k_X11_init, k_X12_init, k_X15_abandon, k_X15_addClub, k_X15_addPlayer, k_X15_appeal, k_X15_ban, k_X15_callBack, k_X15_card, k_X15_change, k_X15_clubAt, k_X15_clubsIn, k_X15_counting, k_X15_divisionOf, k_X15_end, k_X15_endSeason, k_X15_fixture, k_X15_goOn, k_X15_goal, k_X15_goesThrough, k_X15_hasFixtures, k_X15_init, k_X15_isClub, k_X15_isGuilty, k_X15_isIn, k_X15_isOpen, k_X15_isPlayer, k_X15_isSound, k_X15_kickOff, k_X15_lend, k_X15_meanGoals, k_X15_money, k_X15_name, k_X15_no, k_X15_noMatch, k_X15_noOn, k_X15_over, k_X15_overShare, k_X15_plan, k_X15_points, k_X15_putOff, k_X15_registered, k_X15_resultOf, k_X15_sell, k_X15_setDerby, k_X15_setWindow, k_X15_stateOf, k_X15_strike, k_X15_table, k_X15_takePoints, k_X15_thrown, k_X15_wipe, k_X15_yellows, k_X2_init, k_X3_init, k_X5_init, k_X8_addRows, k_X8_countAmong, k_X8_draw, k_X8_firstToRise, k_X8_init, k_X8_partTies, k_X8_sort, k_X9_abandon, k_X9_addClub, k_X9_addPlayer, k_X9_appeal, k_X9_ban, k_X9_callBack, k_X9_card, k_X9_change, k_X9_clearSeason, k_X9_clubAt, k_X9_clubsIn, k_X9_divisionOf, k_X9_end, k_X9_endSeason, k_X9_fixture, k_X9_fixturesOver, k_X9_goOn, k_X9_goal, k_X9_hasFixtures, k_X9_init, k_X9_isDivision, k_X9_isFixtureLeft, k_X9_isGuilty, k_X9_isSound, k_X9_isWindowOpen, k_X9_isWithin, k_X9_kickOff, k_X9_knownBit, k_X9_knownClub, k_X9_knownFixture, k_X9_knownMatch, k_X9_knownPlayer, k_X9_lend, k_X9_meanGoals, k_X9_money, k_X9_name, k_X9_overShare, k_X9_plan, k_X9_points, k_X9_putOff, k_X9_registered, k_X9_resultOf, k_X9_sell, k_X9_setDerby, k_X9_setWindow, k_X9_stateOf, k_X9_strike, k_X9_takePoints, k_X9_wipe, k_X9_yellows]
end
section
/-! A run of the law on a fresh object, followed by program: values, cells and frames as plain data; what they stand for (cV, cC, cW); a table of single steps with a row of the kit behind each; the run of a method as a function of fuel. -/
/-- a value: as it is (a ref is a place in the world, or 1000: the shared empty array, 1001: the script), an int symbol, or the long of one -/
abbrev rV : Type := Value ⊕ (Bool × Nat)
/-- a cell: an array of a type's tag and its values, or an object of a kind and its fields -/
abbrev rC : Type := (Nat × List rV) ⊕ (Nat × List rV)
abbrev rL : Type := List (Nat × rV)
/-- locals, stack, place, world, cells made, slots made -/
abbrev rF : Type := rL × List rV × Nat × List rC × Nat × Nat
/-- what is known: comparisons (true: equal, false: less), and the first number under the mask -/
abbrev rO : Type := List ((Bool × rV × rV) × Bool) × Int32
def cV (ρ : Nat → Nat) (σ : Nat → Int32) (v : rV) : Value := match v with
  | .inl (.ref i) => .ref (ρ i)
  | .inl (.int x) => .int x
  | .inl (.long x) => .long x
  | .inl (.float x) => .float x
  | .inl (.double x) => .double x
  | .inl .null => .null
  | .inl (.retAddr x) => .retAddr x
  | .inr (false, k) => .int (σ k)
  | .inr (true, k) => .long (σ k).toInt64
def catR (v : rV) : Nat := match v with
  | .inl (.long _) => 2
  | .inl (.double _) => 2
  | .inr (true, _) => 2
  | _ => 1
theorem cV_cat (ρ : Nat → Nat) (σ : Nat → Int32) (v : rV) : (cV ρ σ v).category = catR v := by
  rcases v with v | ⟨b, k⟩
  · cases v <;> rfl
  · cases b <;> rfl
def isI (v : rV) : Bool := match v with
  | .inl (.int _) => true
  | .inr (false, _) => true
  | _ => false
def isL (v : rV) : Bool := match v with
  | .inl (.long _) => true
  | .inr (true, _) => true
  | _ => false
def isR (v : rV) : Bool := match v with
  | .inl (.ref _) => true
  | .inl .null => true
  | _ => false
def uI (v : Value) : Int32 := match v with | .int x => x | _ => 0
def uL (v : Value) : Int64 := match v with | .long x => x | _ => 0
def uD (v : Value) : UInt64 := match v with | .double x => x | _ => 0
def uR (v : Value) : Option Nat := match v with | .ref a => some a | _ => none
/-- the number of an int -/
def cI (σ : Nat → Int32) (v : rV) : Int32 := match v with
  | .inl (.int x) => x
  | .inr (false, k) => σ k
  | _ => 0
theorem cV_int {ρ : Nat → Nat} {σ : Nat → Int32} {v : rV} (h : isI v = true) : cV ρ σ v = .int (cI σ v) := by
  rcases v with v | ⟨b, k⟩
  · cases v <;> first | rfl | cases h
  · cases b <;> first | rfl | cases h
theorem cV_long {ρ : Nat → Nat} {σ : Nat → Int32} {v : rV} (h : isL v = true) : cV ρ σ v = .long (uL (cV ρ σ v)) := by
  rcases v with v | ⟨b, k⟩
  · cases v <;> first | rfl | cases h
  · cases b <;> first | rfl | cases h
theorem cV_ref {ρ : Nat → Nat} {σ : Nat → Int32} {v : rV} (h : isR v = true) : cV ρ σ v = va_rf (uR (cV ρ σ v)) := by
  rcases v with v | ⟨b, k⟩
  · cases v <;> first | rfl | cases h
  · cases b <;> cases h
/-- the tags of arrays -/
def rTy (t : Nat) : FieldType := match t with
  | 0 => .int
  | 1 => .boolean
  | 2 => .long
  | 3 => .double
  | _ => .object "java/lang/Object"
def rZ (t : Nat) : rV := match t with
  | 0 => .inl (.int 0)
  | 1 => .inl (.int 0)
  | 2 => .inl (.long 0)
  | 3 => .inl (.double 0)
  | _ => .inl .null
def cA (ρ : Nat → Nat) (σ : Nat → Int32) (t : Nat) (es : List rV) : vp_A := (es.length, match t with
  | 0 => .inl (fun j => uI (cV ρ σ (es.getD j (rZ 0))))
  | 1 => .inl (fun j => uI (cV ρ σ (es.getD j (rZ 0))))
  | 2 => .inr (.inl (fun j => uL (cV ρ σ (es.getD j (rZ 2)))))
  | 3 => .inr (.inr (.inr (.inl (fun j => uD (cV ρ σ (es.getD j (rZ 3)))))))
  | _ => .inr (.inr (.inr (.inr (fun j => uR (cV ρ σ (es.getD j (rZ 4))))))))
def cC (ρ : Nat → Nat) (κ : Nat → ClassId) (σ : Nat → Int32) (i : Nat) (q : rC) : va_E := match q with
  | .inl (t, es) => .inl (κ i, cA ρ σ t es)
  | .inr (ci, fs) => .inr (ci, fs.map (cV ρ σ))
def cW (ρ : Nat → Nat) (κ : Nat → ClassId) (σ : Nat → Int32) : Nat → List rC → va_W
  | _, [] => []
  | i, q :: t => (ρ i, cC ρ κ σ i q) :: cW ρ κ σ (i + 1) t
def cL (ρ : Nat → Nat) (σ : Nat → Int32) (lv : rL) : List (Nat × Value) := lv.map (fun q => (q.1, cV ρ σ q.2))
theorem cW_get {ρ : Nat → Nat} {κ : Nat → ClassId} {σ : Nat → Int32} : ∀ (aw : List rC) (i0 i : Nat), (cW ρ κ σ i0 aw)[i]? = aw[i]?.map (fun q => (ρ (i0 + i), cC ρ κ σ (i0 + i) q))
  | [], i0, i => by simp [cW]
  | q :: t, i0, 0 => by simp [cW]
  | q :: t, i0, i + 1 => by
    simp only [cW, List.getElem?_cons_succ]
    rw [cW_get t (i0 + 1) i, show i0 + 1 + i = i0 + (i + 1) by omega]
theorem cW_at {ρ : Nat → Nat} {κ : Nat → ClassId} {σ : Nat → Int32} {aw : List rC} {i : Nat} {q : rC} (h : aw[i]? = some q) : (cW ρ κ σ 0 aw)[i]? = some (ρ i, cC ρ κ σ i q) := by
  rw [cW_get, h, Option.map_some, Nat.zero_add]
theorem cW_set {ρ : Nat → Nat} {κ : Nat → ClassId} {σ : Nat → Int32} : ∀ (aw : List rC) (i0 i : Nat) (q : rC), (cW ρ κ σ i0 aw).set i (ρ (i0 + i), cC ρ κ σ (i0 + i) q) = cW ρ κ σ i0 (aw.set i q)
  | [], i0, i, q => by simp [cW]
  | z :: t, i0, 0, q => by simp [cW]
  | z :: t, i0, i + 1, q => by
    simp only [cW, List.set_cons_succ]
    rw [show i0 + (i + 1) = i0 + 1 + i by omega, cW_set t (i0 + 1) i q]
theorem cW_put {ρ : Nat → Nat} {κ : Nat → ClassId} {σ : Nat → Int32} {aw : List rC} {i : Nat} {q : rC} : (cW ρ κ σ 0 aw).set i (ρ i, cC ρ κ σ i q) = cW ρ κ σ 0 (aw.set i q) := by
  have h := cW_set (ρ := ρ) (κ := κ) (σ := σ) aw 0 i q
  rwa [Nat.zero_add] at h
theorem cW_app {ρ : Nat → Nat} {κ : Nat → ClassId} {σ : Nat → Int32} : ∀ (aw : List rC) (i0 : Nat) (q : rC), cW ρ κ σ i0 aw ++ [(ρ (i0 + aw.length), cC ρ κ σ (i0 + aw.length) q)] = cW ρ κ σ i0 (aw ++ [q])
  | [], i0, q => by simp [cW]
  | z :: t, i0, q => by
    simp only [cW, List.cons_append, List.length_cons]
    rw [← cW_app t (i0 + 1) q, show i0 + (t.length + 1) = i0 + 1 + t.length by omega]
theorem cW_push {ρ : Nat → Nat} {κ : Nat → ClassId} {σ : Nat → Int32} {aw : List rC} {q : rC} : cW ρ κ σ 0 aw ++ [(ρ aw.length, cC ρ κ σ aw.length q)] = cW ρ κ σ 0 (aw ++ [q]) := by
  have h := cW_app (ρ := ρ) (κ := κ) (σ := σ) aw 0 q
  rwa [Nat.zero_add] at h
/-- every ref lies below n, or is one of the fixed ones -/
def wfV (n : Nat) (v : rV) : Bool := match v with
  | .inl (.ref i) => Nat.blt i n || Nat.ble 900 i
  | _ => true
def wfC (n : Nat) (q : rC) : Bool := match q with
  | .inl (_, es) => es.all (wfV n)
  | .inr (_, fs) => fs.all (wfV n)
def wfL (n : Nat) (lv : rL) : Bool := lv.all (fun q => wfV n q.2)
/-- later addresses agree with the earlier ones at places below n, and at the fixed ones -/
def rExt (n : Nat) (ρ : Nat → Nat) (κ : Nat → ClassId) (ρ' : Nat → Nat) (κ' : Nat → ClassId) : Prop := (∀ i, i < n ∨ 900 ≤ i → ρ' i = ρ i) ∧ ∀ i, i < n → κ' i = κ i
theorem rExt.rf {n : Nat} {ρ : Nat → Nat} {κ : Nat → ClassId} : rExt n ρ κ ρ κ := ⟨fun _ _ => rfl, fun _ _ => rfl⟩
theorem rExt.trans {n k : Nat} {ρ ρ1 ρ2 : Nat → Nat} {κ κ1 κ2 : Nat → ClassId} (h1 : rExt n ρ κ ρ1 κ1) (h2 : rExt k ρ1 κ1 ρ2 κ2) (hk : n ≤ k) : rExt n ρ κ ρ2 κ2 :=
  ⟨fun i hi => (h2.1 i (hi.imp (fun z => Nat.lt_of_lt_of_le z hk) id)).trans (h1.1 i hi), fun i hi => (h2.2 i (Nat.lt_of_lt_of_le hi hk)).trans (h1.2 i hi)⟩
theorem wfV_spec {n i : Nat} (h : wfV n (.inl (.ref i)) = true) : i < n ∨ 900 ≤ i := by
  simp only [wfV, Bool.or_eq_true] at h
  exact h.imp (fun z => by simpa using z) (fun z => Nat.le_of_ble_eq_true z)
theorem cV_ext {n : Nat} {ρ ρ' : Nat → Nat} {κ κ' : Nat → ClassId} {σ : Nat → Int32} {v : rV} (hw : wfV n v = true) (h : rExt n ρ κ ρ' κ') : cV ρ' σ v = cV ρ σ v := by
  rcases v with v | ⟨b, k⟩
  · cases v with
    | ref i => exact congrArg Value.ref (h.1 i (wfV_spec hw))
    | _ => rfl
  · cases b <;> rfl
theorem cVs_ext {n : Nat} {ρ ρ' : Nat → Nat} {κ κ' : Nat → ClassId} {σ : Nat → Int32} (h : rExt n ρ κ ρ' κ') : ∀ {vs : List rV}, vs.all (wfV n) = true → vs.map (cV ρ' σ) = vs.map (cV ρ σ)
  | [], _ => rfl
  | v :: t, hw => by
    simp only [List.all_cons, Bool.and_eq_true] at hw
    simp only [List.map_cons]
    rw [cV_ext hw.1 h, cVs_ext h hw.2]
theorem cL_ext {n : Nat} {ρ ρ' : Nat → Nat} {κ κ' : Nat → ClassId} {σ : Nat → Int32} (h : rExt n ρ κ ρ' κ') : ∀ {lv : rL}, wfL n lv = true → cL ρ' σ lv = cL ρ σ lv
  | [], _ => rfl
  | q :: t, hw => by
    simp only [wfL, List.all_cons, Bool.and_eq_true] at hw
    have ih := cL_ext (σ := σ) h (lv := t) hw.2
    simp only [cL, List.map_cons] at ih ⊢
    rw [cV_ext hw.1 h, ih]
theorem cD_ext {n : Nat} {ρ ρ' : Nat → Nat} {κ κ' : Nat → ClassId} {σ : Nat → Int32} (h : rExt n ρ κ ρ' κ') {es : List rV} (hw : es.all (wfV n) = true) {d : rV} (hd : wfV n d = true) (j : Nat) : cV ρ' σ (es.getD j d) = cV ρ σ (es.getD j d) := by
  have hv : wfV n (es.getD j d) = true := by
    rw [List.getD_eq_getElem?_getD]
    cases hj : es[j]? with
    | none => exact hd
    | some v => exact List.all_eq_true.mp hw v (List.mem_of_getElem? hj)
  exact cV_ext hv h
theorem cA_ext {n : Nat} {ρ ρ' : Nat → Nat} {κ κ' : Nat → ClassId} {σ : Nat → Int32} (h : rExt n ρ κ ρ' κ') {t : Nat} {es : List rV} (hw : es.all (wfV n) = true) : cA ρ' σ t es = cA ρ σ t es := by
  match t with
  | 0 => simp only [cA, cD_ext (σ := σ) h hw (show wfV n (rZ 0) = true from rfl)]
  | 1 => simp only [cA, cD_ext (σ := σ) h hw (show wfV n (rZ 0) = true from rfl)]
  | 2 => simp only [cA, cD_ext (σ := σ) h hw (show wfV n (rZ 2) = true from rfl)]
  | 3 => simp only [cA, cD_ext (σ := σ) h hw (show wfV n (rZ 3) = true from rfl)]
  | t + 4 => simp only [cA, cD_ext (σ := σ) h hw (show wfV n (rZ 4) = true from rfl)]
theorem cW_ext {n : Nat} {ρ ρ' : Nat → Nat} {κ κ' : Nat → ClassId} {σ : Nat → Int32} (h : rExt n ρ κ ρ' κ') : ∀ (aw : List rC) (i0 : Nat), i0 + aw.length ≤ n → aw.all (wfC n) = true → cW ρ' κ' σ i0 aw = cW ρ κ σ i0 aw
  | [], _, _, _ => rfl
  | q :: t, i0, hn, hw => by
    simp only [List.all_cons, Bool.and_eq_true] at hw
    simp only [List.length_cons] at hn
    have ih := cW_ext (σ := σ) h t (i0 + 1) (by omega) hw.2
    have e1 : ρ' i0 = ρ i0 := h.1 i0 (Or.inl (by omega))
    have e2 : κ' i0 = κ i0 := h.2 i0 (by omega)
    have e3 : cC ρ' κ' σ i0 q = cC ρ κ σ i0 q := by
      rcases q with ⟨t, es⟩ | ⟨ci, fs⟩
      · simp only [cC]
        rw [cA_ext h hw.1, e2]
      · simp only [cC]
        rw [cVs_ext h hw.1]
    simp only [cW]
    rw [e1, e3, ih]
/-! locals -/
def getL : rL → Nat → Option rV
  | [], _ => none
  | (j, v) :: t, i => if Nat.beq j i then some v else getL t i
def setL (lv : rL) (i : Nat) (v : rV) : rL := (i, v) :: lv.filter (fun q => !(q.1 == i) && !(q.1 + 1 == i && catR q.2 == 2))
def setL2 (lv : rL) (i : Nat) (v : rV) : rL := (i, v) :: lv.filter (fun q => !(q.1 == i) && (!(q.1 == i + 1) && !(q.1 + 1 == i && catR q.2 == 2)))
theorem getL_mem {lv : rL} {i : Nat} {v : rV} (h : getL lv i = some v) : (i, v) ∈ lv := by
  induction lv with
  | nil => cases h
  | cons q t ih =>
    obtain ⟨j, w⟩ := q
    simp only [getL] at h
    by_cases hj : Nat.beq j i = true
    · rw [if_pos hj] at h
      cases h
      cases Nat.eq_of_beq_eq_true hj
      exact List.mem_cons_self
    · rw [if_neg hj] at h
      exact List.mem_cons_of_mem _ (ih h)
theorem getL_at {ρ : Nat → Nat} {σ : Nat → Int32} {ls : Array Slot} {nL : Nat} {lv : rL} {i : Nat} {v : rV} (hl : lv_has ls nL (cL ρ σ lv)) (h : getL lv i = some v) : ls[i]? = some (.val (cV ρ σ v)) :=
  hl.2.2 (i, cV ρ σ v) (List.mem_map.mpr ⟨(i, v), getL_mem h, rfl⟩)
theorem cL_filter {ρ : Nat → Nat} {σ : Nat → Int32} {f : Nat × rV → Bool} {g : Nat × Value → Bool} (hfg : ∀ q : Nat × rV, g (q.1, cV ρ σ q.2) = f q) : ∀ lv : rL, (cL ρ σ lv).filter g = cL ρ σ (lv.filter f)
  | [] => rfl
  | q :: t => by
    have ih := cL_filter hfg t
    simp only [cL, List.map_cons, List.filter_cons, hfg] at ih ⊢
    cases f q
    · simpa using ih
    · simpa using ih
theorem setL_eq {ρ : Nat → Nat} {σ : Nat → Int32} (lv : rL) (i : Nat) (v : rV) : (i, cV ρ σ v) :: (cL ρ σ lv).filter (fun q => !(q.1 == i) && !(q.1 + 1 == i && q.2.category == 2)) = cL ρ σ (setL lv i v) := by
  rw [cL_filter (f := fun q => !(q.1 == i) && !(q.1 + 1 == i && catR q.2 == 2)) (fun q => by simp only [cV_cat])]
  rfl
theorem setL2_eq {ρ : Nat → Nat} {σ : Nat → Int32} (lv : rL) (i : Nat) (v : rV) : (i, cV ρ σ v) :: (cL ρ σ lv).filter (fun q => !(q.1 == i) && (!(q.1 == i + 1) && !(q.1 + 1 == i && q.2.category == 2))) = cL ρ σ (setL2 lv i v) := by
  rw [cL_filter (f := fun q => !(q.1 == i) && (!(q.1 == i + 1) && !(q.1 + 1 == i && catR q.2 == 2))) (fun q => by simp only [cV_cat])]
  rfl
/-! what the oracle knows -/
def lkO : List ((Bool × rV × rV) × Bool) → Bool × rV × rV → Option Bool
  | [], _ => none
  | (k, t) :: r, q => if k = q then some t else lkO r q
theorem lkO_mem {r : List ((Bool × rV × rV) × Bool)} {q : Bool × rV × rV} {t : Bool} (h : lkO r q = some t) : (q, t) ∈ r := by
  induction r with
  | nil => cases h
  | cons z r ih =>
    obtain ⟨k, b⟩ := z
    simp only [lkO] at h
    by_cases hk : k = q
    · rw [if_pos hk] at h
      cases h
      cases hk
      exact List.mem_cons_self
    · rw [if_neg hk] at h
      exact List.mem_cons_of_mem _ (ih h)
def eqD (O : rO) (x y : rV) : Option Bool := match x, y with
  | .inl (.int a), .inl (.int b) => some (decide (a = b))
  | .inr (false, a), .inr (false, b) => if Nat.beq a b then some true else none
  | x, y => if isI x && isI y then lkO O.1 (true, x, y) else none
def ltD (O : rO) (x y : rV) : Option Bool := match x, y with
  | .inl (.int a), .inl (.int b) => some (decide (a < b))
  | x, y => if isI x && isI y then lkO O.1 (false, x, y) else none
/-- the oracle is right for the numbers σ -/
def rOr (O : rO) (σ : Nat → Int32) : Prop := (∀ q ∈ O.1, (match q.1.1 with | true => (cI σ q.1.2.1 = cI σ q.1.2.2 ↔ q.2 = true) | false => (cI σ q.1.2.1 < cI σ q.1.2.2 ↔ q.2 = true))) ∧ (O.2 = 64 ∨ σ 0 &&& 63 = O.2) ∧ ((σ 2).toUInt32 % 65536).toInt32 = σ 4
theorem eqD_ok {O : rO} {σ : Nat → Int32} (hO : rOr O σ) {x y : rV} {t : Bool} (h : eqD O x y = some t) : isI x = true ∧ isI y = true ∧ (cI σ x = cI σ y ↔ t = true) := by
  have key : ∀ {x y : rV}, (if isI x && isI y then lkO O.1 (true, x, y) else none) = some t → isI x = true ∧ isI y = true ∧ (cI σ x = cI σ y ↔ t = true) := by
    intro x y h
    by_cases hi : (isI x && isI y) = true
    · rw [if_pos hi] at h
      simp only [Bool.and_eq_true] at hi
      exact ⟨hi.1, hi.2, hO.1 _ (lkO_mem h)⟩
    · rw [if_neg hi] at h
      cases h
  unfold eqD at h
  split at h
  · cases h
    exact ⟨rfl, rfl, by simp [cI]⟩
  · rename_i a b
    by_cases hab : Nat.beq a b = true
    · rw [if_pos hab] at h
      cases h
      cases Nat.eq_of_beq_eq_true hab
      exact ⟨rfl, rfl, by simp⟩
    · rw [if_neg hab] at h
      cases h
  · exact key h
theorem ltD_ok {O : rO} {σ : Nat → Int32} (hO : rOr O σ) {x y : rV} {t : Bool} (h : ltD O x y = some t) : isI x = true ∧ isI y = true ∧ (cI σ x < cI σ y ↔ t = true) := by
  unfold ltD at h
  split at h
  · cases h
    exact ⟨rfl, rfl, by simp [cI]⟩
  · by_cases hi : (isI x && isI y) = true
    · rw [if_pos hi] at h
      simp only [Bool.and_eq_true] at hi
      exact ⟨hi.1, hi.2, hO.1 _ (lkO_mem h)⟩
    · rw [if_neg hi] at h
      cases h
end
section
/-! single steps: what each does to the picture, and that the machine does it -/
/-- the constants that the rows rest on, at a method's start s: the shared empty array at E, the machinery of throwing -/
def rSt (A : Nat → Prop) (s : State) (E : Nat) : Prop :=
  va_Z "java/util/ArrayList" "DEFAULTCAPACITY_EMPTY_ELEMENTDATA" "[Ljava/lang/Object;" (.ref E) A s s.heap ∧ va_T (.object "java/lang/Object") E 0 (fun _ => .null) A s s.heap ∧ vx_Zq Bundle.tN "UNASSIGNED_STACK" Bundle.steD A s s.heap ∧ vx_Zq Bundle.tN "SUPPRESSED_SENTINEL" Bundle.listD A s s.heap
/-- the script, where the frame is the law's -/
def rSc (fl : Bool) (A : Nat → Prop) (s : State) (b L : Nat) (xs σ : Nat → Int32) : Prop :=
  fl = true → va_X b L xs s s.heap ∧ b < s.heap.size ∧ ¬ A b ∧ ∀ j, j < L → xs j = σ j
/-- what a frame knows besides its oracle: L (the script's length), whether it is the law's, its locals, its owner's number, whether it is a constructor's -/
abbrev rG : Type := rO × Nat × Bool × Nat × Nat × Bool
def rX (p : Program) (R : Room) (s : State) (m : MethodId) (args : Array Value) (meth : Method) (c : Code) (D : va_G) (A : Nat → Prop) (σ : Nat → Int32) (g : rG) (cc : ByteArray) (own : String) (E b : Nat) (xs : Nat → Int32) : Prop :=
  p.tables.exec = Jvm.exec ∧ c.code = cc ∧ c.maxLocals = g.2.2.2.1 ∧ s.vm.findClass own = some m.cls ∧ meth.locks = false ∧ va_K D vwC9 [] s ∧ (∀ q, s.heap.size ≤ q → A q) ∧ (∀ w ∈ lwA, w.before args s = true) ∧ (8 ≤ R.frames ∧ 200 ≤ R.locals) ∧ rSt A s E ∧ rSc g.2.2.1 A s b g.2.1 xs σ ∧ rOr g.1 σ ∧ clsN[g.2.2.2.2.1]? = some own ∧ (g.2.2.2.2.2 = true → meth.name = "<init>")
def rIv (D : va_G) (A : Nat → Prop) (σ : Nat → Int32) (s : State) (ρ : Nat → Nat) (κ : Nat → ClassId) (aw : List rC) (H : Heap) (locs : List Loc) : Prop :=
  (∀ i t es, aw[i]? = some (.inl (t, es)) → va_K D vwC9 [(κ i, rTy t)] s) ∧ va_P D vwC9 (cW ρ κ σ 0 aw) H ∧ va_D A (cW ρ κ σ 0 aw) ∧ va_S A s.heap H locs
/-- from this frame on the machine comes to Q -/
def rGo (p : Program) (l : Launch) (e : Env) (R : Room) (s : State) (m : MethodId) (args : Array Value) (below : List Frame) (meth : Method) (c : Code) (D : va_G) (A : Nat → Prop) (σ : Nat → Int32) (nL : Nat) (Q : State → Prop) (ρ : Nat → Nat) (κ : Nat → ClassId) (fr : rF) : Prop :=
  ∀ (H : Heap) (locs : List Loc) (ls : Array Slot), rIv D A σ s ρ κ fr.2.2.2.1 H locs → lv_has ls nL (cL ρ σ fr.1) → W p l e R s m args below meth c H locs fr.2.2.2.2.1 fr.2.2.2.2.2 Q (F0 m fr.2.2.1 ls (fr.2.1.map (cV ρ σ)))
/-- a kind of step: the instructions that stand there (where, what, how long), and what it does; and that this is so -/
def rOk (dk : Int → List (Nat × Instr × Nat)) (sem : rG → Int → rF → Option rF) : Prop :=
  ∀ (p : Program) (l : Launch) (e : Env) (R : Room) (s : State) (m : MethodId) (args : Array Value) (below : List Frame) (meth : Method) (c : Code) (D : va_G) (A : Nat → Prop) (σ : Nat → Int32) (Q : State → Prop) (g : rG) (cc : ByteArray) (own : String) (E b : Nat) (xs : Nat → Int32) (a : Int) (fr fr' : rF),
    rX p R s m args meth c D A σ g cc own E b xs → (∀ x ∈ dk a, decode cc (fr.2.2.1 + x.1) = .ok (x.2.1, x.2.2)) → sem g a fr = some fr' → fr'.2.2.2.2.1 ≤ R.cells → fr'.2.2.2.2.2 ≤ R.slots → ∀ (ρ : Nat → Nat) (κ : Nat → ClassId), ρ 1000 = E → ρ 1001 = b →
    (∀ ρ' κ', rExt fr.2.2.2.1.length ρ κ ρ' κ' → rGo p l e R s m args below meth c D A σ g.2.2.2.1 Q ρ' κ' fr') → rGo p l e R s m args below meth c D A σ g.2.2.2.1 Q ρ κ fr
def tgN (pc : Nat) (a : Int) : Option Nat := if 0 ≤ (pc : Int) + a then some ((pc : Int) + a).toNat else none
theorem tgN_ok {pc z : Nat} {a : Int} (h : tgN pc a = some z) : (pc : Int) + a = (z : Int) := by
  unfold tgN at h
  split at h
  · cases h
    omega
  · cases h
/-! loads -/
def sLd (ck : rV → Bool) (w : Nat) (g : rG) (a : Int) : rF → Option rF := fun ⟨lv, st, pc, aw, kc, ks⟩ =>
  match getL lv a.toNat with
  | some v => if ck v && (Nat.beq w 2 || Nat.blt a.toNat 4) then some (lv, v :: st, pc + w, aw, kc, ks) else none
  | none => none
theorem sLd_ok {ck : rV → Bool} {w : Nat} {g : rG} {a : Int} {lv : rL} {st : List rV} {pc : Nat} {aw : List rC} {kc ks : Nat} {fr' : rF} (h : sLd ck w g a (lv, st, pc, aw, kc, ks) = some fr') : ∃ v, getL lv a.toNat = some v ∧ ck v = true ∧ (w = 2 ∨ a.toNat < 4) ∧ fr' = (lv, v :: st, pc + w, aw, kc, ks) := by
  simp only [sLd] at h
  split at h
  · rename_i v hv
    split at h
    · rename_i hc
      cases h
      simp only [Bool.and_eq_true, Bool.or_eq_true] at hc
      exact ⟨v, hv, hc.1, hc.2.imp (fun z => Nat.eq_of_beq_eq_true z) (fun z => by simpa using z), rfl⟩
    · cases h
  · cases h
theorem fin4 {a : Nat} (h : a < 4) : ((Fin.ofNat 4 a : Fin 4) : Nat) = a := Nat.mod_eq_of_lt h
theorem ok_iload_n : rOk (fun a => [(0, .iload_n (Fin.ofNat 4 a.toNat), 1)]) (sLd isI 1) := by
  intro p l e R s m args below meth c D A σ Q g cc own E b xs a fr fr' X hd h hc hs ρ κ hE hb k H locs ls hI hl
  obtain ⟨lv, st, pc, aw, kc, ks⟩ := fr
  obtain ⟨v, hv, hi, hw, rfl⟩ := sLd_ok h
  have d := hd _ List.mem_cons_self
  have kk := k ρ κ rExt.rf H locs ls hI hl
  have ha := getL_at hl hv
  simp only [List.map_cons] at kk
  rw [cV_int hi] at ha kk
  exact lv_iload_n X.1 X.2.1 d (fin4 (hw.resolve_left (by decide))) ha kk
theorem ok_iload : rOk (fun a => [(0, .iload a.toNat, 2)]) (sLd isI 2) := by
  intro p l e R s m args below meth c D A σ Q g cc own E b xs a fr fr' X hd h hc hs ρ κ hE hb k H locs ls hI hl
  obtain ⟨lv, st, pc, aw, kc, ks⟩ := fr
  obtain ⟨v, hv, hi, hw, rfl⟩ := sLd_ok h
  have d := hd _ List.mem_cons_self
  have kk := k ρ κ rExt.rf H locs ls hI hl
  have ha := getL_at hl hv
  simp only [List.map_cons] at kk
  rw [cV_int hi] at ha kk
  exact lv_iload X.1 X.2.1 d ha kk
theorem ok_lload_n : rOk (fun a => [(0, .lload_n (Fin.ofNat 4 a.toNat), 1)]) (sLd isL 1) := by
  intro p l e R s m args below meth c D A σ Q g cc own E b xs a fr fr' X hd h hc hs ρ κ hE hb k H locs ls hI hl
  obtain ⟨lv, st, pc, aw, kc, ks⟩ := fr
  obtain ⟨v, hv, hi, hw, rfl⟩ := sLd_ok h
  have d := hd _ List.mem_cons_self
  have kk := k ρ κ rExt.rf H locs ls hI hl
  have ha := getL_at hl hv
  simp only [List.map_cons] at kk
  rw [cV_long hi] at ha kk
  exact lv_lload_n X.1 X.2.1 d (fin4 (hw.resolve_left (by decide))) ha kk
theorem ok_lload : rOk (fun a => [(0, .lload a.toNat, 2)]) (sLd isL 2) := by
  intro p l e R s m args below meth c D A σ Q g cc own E b xs a fr fr' X hd h hc hs ρ κ hE hb k H locs ls hI hl
  obtain ⟨lv, st, pc, aw, kc, ks⟩ := fr
  obtain ⟨v, hv, hi, hw, rfl⟩ := sLd_ok h
  have d := hd _ List.mem_cons_self
  have kk := k ρ κ rExt.rf H locs ls hI hl
  have ha := getL_at hl hv
  simp only [List.map_cons] at kk
  rw [cV_long hi] at ha kk
  exact lv_lload X.1 X.2.1 d ha kk
def isA (v : rV) : Bool := match v with
  | .inl (.ref _) => true
  | _ => false
theorem isA_ok {v : rV} (h : isA v = true) : ∃ i, v = .inl (.ref i) := by
  unfold isA at h
  split at h
  · exact ⟨_, rfl⟩
  · cases h
theorem ok_aload_n : rOk (fun a => [(0, .aload_n (Fin.ofNat 4 a.toNat), 1)]) (sLd isA 1) := by
  intro p l e R s m args below meth c D A σ Q g cc own E b xs a fr fr' X hd h hc hs ρ κ hE hb k H locs ls hI hl
  obtain ⟨lv, st, pc, aw, kc, ks⟩ := fr
  obtain ⟨v, hv, hi, hw, rfl⟩ := sLd_ok h
  obtain ⟨i, rfl⟩ := isA_ok hi
  have d := hd _ List.mem_cons_self
  exact lv_aload_n X.1 X.2.1 d (fin4 (hw.resolve_left (by decide))) (getL_at hl hv) (k ρ κ rExt.rf H locs ls hI hl)
theorem ok_aload : rOk (fun a => [(0, .aload a.toNat, 2)]) (sLd isA 2) := by
  intro p l e R s m args below meth c D A σ Q g cc own E b xs a fr fr' X hd h hc hs ρ κ hE hb k H locs ls hI hl
  obtain ⟨lv, st, pc, aw, kc, ks⟩ := fr
  obtain ⟨v, hv, hi, hw, rfl⟩ := sLd_ok h
  obtain ⟨i, rfl⟩ := isA_ok hi
  have d := hd _ List.mem_cons_self
  exact lv_aload X.1 X.2.1 d (getL_at hl hv) (k ρ κ rExt.rf H locs ls hI hl)
def isNl (v : rV) : Bool := match v with
  | .inl .null => true
  | _ => false
theorem isNl_ok {v : rV} (h : isNl v = true) : v = .inl .null := by
  unfold isNl at h
  split at h
  · rfl
  · cases h
theorem ok_aload_nN : rOk (fun a => [(0, .aload_n (Fin.ofNat 4 a.toNat), 1)]) (sLd isNl 1) := by
  intro p l e R s m args below meth c D A σ Q g cc own E b xs a fr fr' X hd h hc hs ρ κ hE hb k H locs ls hI hl
  obtain ⟨lv, st, pc, aw, kc, ks⟩ := fr
  obtain ⟨v, hv, hi, hw, rfl⟩ := sLd_ok h
  obtain rfl := isNl_ok hi
  have d := hd _ List.mem_cons_self
  exact lv_aload_nN X.1 X.2.1 d (fin4 (hw.resolve_left (by decide))) (getL_at hl hv) (k ρ κ rExt.rf H locs ls hI hl)
/-! stores -/
def sSt (ck : rV → Bool) (w : Nat) (g : rG) (a : Int) : rF → Option rF := fun ⟨lv, st, pc, aw, kc, ks⟩ =>
  match st with
  | v :: st => if ck v && ((Nat.beq w 2 || Nat.blt a.toNat 4) && Nat.blt a.toNat g.2.2.2.1) then some (setL lv a.toNat v, st, pc + w, aw, kc, ks) else none
  | [] => none
theorem sSt_ok {ck : rV → Bool} {w : Nat} {g : rG} {a : Int} {lv : rL} {st : List rV} {pc : Nat} {aw : List rC} {kc ks : Nat} {fr' : rF} (h : sSt ck w g a (lv, st, pc, aw, kc, ks) = some fr') : ∃ v st', st = v :: st' ∧ ck v = true ∧ (w = 2 ∨ a.toNat < 4) ∧ a.toNat < g.2.2.2.1 ∧ fr' = (setL lv a.toNat v, st', pc + w, aw, kc, ks) := by
  simp only [sSt] at h
  split at h
  · rename_i v st'
    split at h
    · rename_i hc
      cases h
      simp only [Bool.and_eq_true, Bool.or_eq_true] at hc
      exact ⟨v, st', rfl, hc.1, hc.2.1.imp (fun z => Nat.eq_of_beq_eq_true z) (fun z => by simpa using z), by simpa using hc.2.2, rfl⟩
    · cases h
  · cases h
theorem ok_istore_n : rOk (fun a => [(0, .istore_n (Fin.ofNat 4 a.toNat), 1)]) (sSt isI 1) := by
  intro p l e R s m args below meth c D A σ Q g cc own E b xs a fr fr' X hd h hc hs ρ κ hE hb k H locs ls hI hl
  obtain ⟨lv, st, pc, aw, kc, ks⟩ := fr
  obtain ⟨v, st', rfl, hi, hw, hn, rfl⟩ := sSt_ok h
  have d := hd _ List.mem_cons_self
  have e := setL_eq (ρ := ρ) (σ := σ) lv a.toNat v
  simp only [rGo, List.map_cons] at k ⊢
  rw [cV_int hi] at e ⊢
  exact lv_istore_n X.1 X.2.1 d (fin4 (hw.resolve_left (by decide))) hl hn e (fun ls' hl' => k ρ κ rExt.rf H locs ls' hI hl')
theorem ok_istore : rOk (fun a => [(0, .istore a.toNat, 2)]) (sSt isI 2) := by
  intro p l e R s m args below meth c D A σ Q g cc own E b xs a fr fr' X hd h hc hs ρ κ hE hb k H locs ls hI hl
  obtain ⟨lv, st, pc, aw, kc, ks⟩ := fr
  obtain ⟨v, st', rfl, hi, hw, hn, rfl⟩ := sSt_ok h
  have d := hd _ List.mem_cons_self
  have e := setL_eq (ρ := ρ) (σ := σ) lv a.toNat v
  simp only [rGo, List.map_cons] at k ⊢
  rw [cV_int hi] at e ⊢
  exact lv_istore X.1 X.2.1 d hl hn e (fun ls' hl' => k ρ κ rExt.rf H locs ls' hI hl')
theorem ok_astore_n : rOk (fun a => [(0, .astore_n (Fin.ofNat 4 a.toNat), 1)]) (sSt isA 1) := by
  intro p l e R s m args below meth c D A σ Q g cc own E b xs a fr fr' X hd h hc hs ρ κ hE hb k H locs ls hI hl
  obtain ⟨lv, st, pc, aw, kc, ks⟩ := fr
  obtain ⟨v, st', rfl, hi, hw, hn, rfl⟩ := sSt_ok h
  obtain ⟨i, rfl⟩ := isA_ok hi
  have d := hd _ List.mem_cons_self
  exact lv_astore_n X.1 X.2.1 d (fin4 (hw.resolve_left (by decide))) hl hn (setL_eq (ρ := ρ) (σ := σ) lv a.toNat (.inl (.ref i))) (fun ls' hl' => k ρ κ rExt.rf H locs ls' hI hl')
theorem ok_astore : rOk (fun a => [(0, .astore a.toNat, 2)]) (sSt isA 2) := by
  intro p l e R s m args below meth c D A σ Q g cc own E b xs a fr fr' X hd h hc hs ρ κ hE hb k H locs ls hI hl
  obtain ⟨lv, st, pc, aw, kc, ks⟩ := fr
  obtain ⟨v, st', rfl, hi, hw, hn, rfl⟩ := sSt_ok h
  obtain ⟨i, rfl⟩ := isA_ok hi
  have d := hd _ List.mem_cons_self
  exact lv_astore X.1 X.2.1 d hl hn (setL_eq (ρ := ρ) (σ := σ) lv a.toNat (.inl (.ref i))) (fun ls' hl' => k ρ κ rExt.rf H locs ls' hI hl')
theorem ok_astore_nN : rOk (fun a => [(0, .astore_n (Fin.ofNat 4 a.toNat), 1)]) (sSt isNl 1) := by
  intro p l e R s m args below meth c D A σ Q g cc own E b xs a fr fr' X hd h hc hs ρ κ hE hb k H locs ls hI hl
  obtain ⟨lv, st, pc, aw, kc, ks⟩ := fr
  obtain ⟨v, st', rfl, hi, hw, hn, rfl⟩ := sSt_ok h
  obtain rfl := isNl_ok hi
  have d := hd _ List.mem_cons_self
  exact lv_astore_nN X.1 X.2.1 d (fin4 (hw.resolve_left (by decide))) hl hn (setL_eq (ρ := ρ) (σ := σ) lv a.toNat (.inl .null)) (fun ls' hl' => k ρ κ rExt.rf H locs ls' hI hl')
def sSt2 (g : rG) (a : Int) : rF → Option rF := fun ⟨lv, st, pc, aw, kc, ks⟩ =>
  match st with
  | v :: st => if isL v && (Nat.blt a.toNat 4 && Nat.blt (a.toNat + 1) g.2.2.2.1) then some (setL2 lv a.toNat v, st, pc + 1, aw, kc, ks) else none
  | [] => none
theorem ok_lstore_n : rOk (fun a => [(0, .lstore_n (Fin.ofNat 4 a.toNat), 1)]) sSt2 := by
  intro p l e R s m args below meth c D A σ Q g cc own E b xs a fr fr' X hd h hc hs ρ κ hE hb k H locs ls hI hl
  obtain ⟨lv, st, pc, aw, kc, ks⟩ := fr
  simp only [sSt2] at h
  split at h
  · rename_i v st'
    split at h
    · rename_i hc2
      cases h
      simp only [Bool.and_eq_true] at hc2
      obtain ⟨hi, hw, hn⟩ := hc2
      have d := hd _ List.mem_cons_self
      have e := setL2_eq (ρ := ρ) (σ := σ) lv a.toNat v
      simp only [rGo, List.map_cons] at k ⊢
      rw [cV_long hi] at e ⊢
      exact lv_lstore_n X.1 X.2.1 d (fin4 (by simpa using hw)) hl (by simpa using hn) e (fun ls' hl' => k ρ κ rExt.rf H locs ls' hI hl')
    · cases h
  · cases h
def sFst (g : rG) (a : Int) : rF → Option rF := fun ⟨lv, st, pc, aw, kc, ks⟩ =>
  match st with
  | .inl (.float x) :: st => if Nat.blt a.toNat g.2.2.2.1 then some (setL lv a.toNat (.inl (.float x)), st, pc + 2, aw, kc, ks) else none
  | _ => none
theorem ok_fstore : rOk (fun a => [(0, .fstore a.toNat, 2)]) sFst := by
  intro p l e R s m args below meth c D A σ Q g cc own E b xs a fr fr' X hd h hc hs ρ κ hE hb k H locs ls hI hl
  obtain ⟨lv, st, pc, aw, kc, ks⟩ := fr
  simp only [sFst] at h
  split at h
  · rename_i x st'
    split at h
    · rename_i hn
      cases h
      have d := hd _ List.mem_cons_self
      exact lv_fstore X.1 X.2.1 d hl (by simpa using hn) (setL_eq (ρ := ρ) (σ := σ) lv a.toNat (.inl (.float x))) (fun ls' hl' => k ρ κ rExt.rf H locs ls' hI hl')
    · cases h
  · cases h
def sDst (g : rG) (a : Int) : rF → Option rF := fun ⟨lv, st, pc, aw, kc, ks⟩ =>
  match st with
  | .inl (.double x) :: st => if Nat.blt (a.toNat + 1) g.2.2.2.1 then some (setL2 lv a.toNat (.inl (.double x)), st, pc + 2, aw, kc, ks) else none
  | _ => none
theorem ok_dstore : rOk (fun a => [(0, .dstore a.toNat, 2)]) sDst := by
  intro p l e R s m args below meth c D A σ Q g cc own E b xs a fr fr' X hd h hc hs ρ κ hE hb k H locs ls hI hl
  obtain ⟨lv, st, pc, aw, kc, ks⟩ := fr
  simp only [sDst] at h
  split at h
  · rename_i x st'
    split at h
    · rename_i hn
      cases h
      have d := hd _ List.mem_cons_self
      exact lv_dstore X.1 X.2.1 d hl (by simpa using hn) (setL2_eq (ρ := ρ) (σ := σ) lv a.toNat (.inl (.double x))) (fun ls' hl' => k ρ κ rExt.rf H locs ls' hI hl')
    · cases h
  · cases h
/-! constants, and the stack's own steps -/
def sPush (w : Nat) (f : Int → Value) (g : rG) (a : Int) : rF → Option rF := fun ⟨lv, st, pc, aw, kc, ks⟩ => some (lv, .inl (f a) :: st, pc + w, aw, kc, ks)
theorem ok_iconst : rOk (fun a => [(0, .iconst a, 1)]) (sPush 1 (fun a => .int (Int32.ofInt a))) := by
  intro p l e R s m args below meth c D A σ Q g cc own E b xs a fr fr' X hd h hc hs ρ κ hE hb k H locs ls hI hl
  obtain ⟨lv, st, pc, aw, kc, ks⟩ := fr
  cases h
  have d := hd _ List.mem_cons_self
  exact lv_iconst X.1 X.2.1 d rfl (k ρ κ rExt.rf H locs ls hI hl)
theorem ok_bipush : rOk (fun a => [(0, .bipush a, 2)]) (sPush 2 (fun a => .int (Int8.ofInt a).toInt32)) := by
  intro p l e R s m args below meth c D A σ Q g cc own E b xs a fr fr' X hd h hc hs ρ κ hE hb k H locs ls hI hl
  obtain ⟨lv, st, pc, aw, kc, ks⟩ := fr
  cases h
  have d := hd _ List.mem_cons_self
  exact lv_bipush X.1 X.2.1 d rfl (k ρ κ rExt.rf H locs ls hI hl)
theorem ok_sipush : rOk (fun a => [(0, .sipush a, 3)]) (sPush 3 (fun a => .int (Int16.ofInt a).toInt32)) := by
  intro p l e R s m args below meth c D A σ Q g cc own E b xs a fr fr' X hd h hc hs ρ κ hE hb k H locs ls hI hl
  obtain ⟨lv, st, pc, aw, kc, ks⟩ := fr
  cases h
  have d := hd _ List.mem_cons_self
  exact lv_sipush X.1 X.2.1 d rfl (k ρ κ rExt.rf H locs ls hI hl)
theorem ok_lconst : rOk (fun a => [(0, .lconst (Fin.ofNat 2 a.toNat), 1)]) (sPush 1 (fun a => .long (Int64.ofNat (Fin.ofNat 2 a.toNat : Fin 2)))) := by
  intro p l e R s m args below meth c D A σ Q g cc own E b xs a fr fr' X hd h hc hs ρ κ hE hb k H locs ls hI hl
  obtain ⟨lv, st, pc, aw, kc, ks⟩ := fr
  cases h
  have d := hd _ List.mem_cons_self
  exact lv_lconst X.1 X.2.1 d rfl (k ρ κ rExt.rf H locs ls hI hl)
theorem ok_fconst : rOk (fun _ => [(0, .fconst 0, 1)]) (sPush 1 (fun _ => .float FP.fconst0)) := by
  intro p l e R s m args below meth c D A σ Q g cc own E b xs a fr fr' X hd h hc hs ρ κ hE hb k H locs ls hI hl
  obtain ⟨lv, st, pc, aw, kc, ks⟩ := fr
  cases h
  have d := hd _ List.mem_cons_self
  exact lv_fconst0 X.1 X.2.1 d (k ρ κ rExt.rf H locs ls hI hl)
theorem ok_dconst : rOk (fun _ => [(0, .dconst 0, 1)]) (sPush 1 (fun _ => .double FP.dconst0)) := by
  intro p l e R s m args below meth c D A σ Q g cc own E b xs a fr fr' X hd h hc hs ρ κ hE hb k H locs ls hI hl
  obtain ⟨lv, st, pc, aw, kc, ks⟩ := fr
  cases h
  have d := hd _ List.mem_cons_self
  exact lv_dconst0 X.1 X.2.1 d (k ρ κ rExt.rf H locs ls hI hl)
theorem ok_null : rOk (fun _ => [(0, .aconst_null, 1)]) (sPush 1 (fun _ => .null)) := by
  intro p l e R s m args below meth c D A σ Q g cc own E b xs a fr fr' X hd h hc hs ρ κ hE hb k H locs ls hI hl
  obtain ⟨lv, st, pc, aw, kc, ks⟩ := fr
  cases h
  have d := hd _ List.mem_cons_self
  exact lv_null X.1 X.2.1 d (k ρ κ rExt.rf H locs ls hI hl)
def sDup (g : rG) (a : Int) : rF → Option rF := fun ⟨lv, st, pc, aw, kc, ks⟩ =>
  match st with
  | v :: st => if Nat.beq (catR v) 1 then some (lv, v :: v :: st, pc + 1, aw, kc, ks) else none
  | [] => none
theorem ok_dup : rOk (fun _ => [(0, .dup, 1)]) sDup := by
  intro p l e R s m args below meth c D A σ Q g cc own E b xs a fr fr' X hd h hc hs ρ κ hE hb k H locs ls hI hl
  obtain ⟨lv, st, pc, aw, kc, ks⟩ := fr
  simp only [sDup] at h
  split at h
  · rename_i v st'
    split at h
    · rename_i hv
      cases h
      have d := hd _ List.mem_cons_self
      exact lv_dup X.1 X.2.1 d ((cV_cat ρ σ v).trans (Nat.eq_of_beq_eq_true hv)) (k ρ κ rExt.rf H locs ls hI hl)
    · cases h
  · cases h
def sDupX (g : rG) (a : Int) : rF → Option rF := fun ⟨lv, st, pc, aw, kc, ks⟩ =>
  match st with
  | v :: w :: st => if Nat.beq (catR v) 1 && Nat.beq (catR w) 1 then some (lv, v :: w :: v :: st, pc + 1, aw, kc, ks) else none
  | _ => none
theorem ok_dup_x1 : rOk (fun _ => [(0, .dup_x1, 1)]) sDupX := by
  intro p l e R s m args below meth c D A σ Q g cc own E b xs a fr fr' X hd h hc hs ρ κ hE hb k H locs ls hI hl
  obtain ⟨lv, st, pc, aw, kc, ks⟩ := fr
  simp only [sDupX] at h
  split at h
  · rename_i v w st'
    split at h
    · rename_i hv
      cases h
      simp only [Bool.and_eq_true] at hv
      have d := hd _ List.mem_cons_self
      exact lv_dup_x1 X.1 X.2.1 d ((cV_cat ρ σ v).trans (Nat.eq_of_beq_eq_true hv.1)) ((cV_cat ρ σ w).trans (Nat.eq_of_beq_eq_true hv.2)) (k ρ κ rExt.rf H locs ls hI hl)
    · cases h
  · cases h
def sPop (g : rG) (a : Int) : rF → Option rF := fun ⟨lv, st, pc, aw, kc, ks⟩ =>
  match st with
  | v :: st => if Nat.beq (catR v) 1 then some (lv, st, pc + 1, aw, kc, ks) else none
  | [] => none
theorem ok_pop : rOk (fun _ => [(0, .pop, 1)]) sPop := by
  intro p l e R s m args below meth c D A σ Q g cc own E b xs a fr fr' X hd h hc hs ρ κ hE hb k H locs ls hI hl
  obtain ⟨lv, st, pc, aw, kc, ks⟩ := fr
  simp only [sPop] at h
  split at h
  · rename_i v st'
    split at h
    · rename_i hv
      cases h
      have d := hd _ List.mem_cons_self
      exact lv_pop X.1 X.2.1 d ((cV_cat ρ σ v).trans (Nat.eq_of_beq_eq_true hv)) (k ρ κ rExt.rf H locs ls hI hl)
    · cases h
  · cases h
/-! numbers -/
def sAdd (g : rG) (a : Int) : rF → Option rF := fun ⟨lv, st, pc, aw, kc, ks⟩ =>
  match st with
  | .inl (.int y) :: .inl (.int x) :: st => some (lv, .inl (.int (x + y)) :: st, pc + 1, aw, kc, ks)
  | .inr (false, j) :: .inl (.int x) :: st => if x = 0 then some (lv, .inr (false, j) :: st, pc + 1, aw, kc, ks) else none
  | _ => none
theorem ok_iadd : rOk (fun _ => [(0, .iadd, 1)]) sAdd := by
  intro p l e R s m args below meth c D A σ Q g cc own E b xs a fr fr' X hd h hc hs ρ κ hE hb k H locs ls hI hl
  obtain ⟨lv, st, pc, aw, kc, ks⟩ := fr
  simp only [sAdd] at h
  split at h
  · cases h
    have d := hd _ List.mem_cons_self
    exact lv_iadd X.1 X.2.1 d (k ρ κ rExt.rf H locs ls hI hl)
  · split at h
    · rename_i j x st' hx
      cases h
      subst hx
      have d := hd _ List.mem_cons_self
      refine lv_iadd X.1 X.2.1 d ?_
      rw [Int32.zero_add]
      exact k ρ κ rExt.rf H locs ls hI hl
    · cases h
  · cases h
def sSub (g : rG) (a : Int) : rF → Option rF := fun ⟨lv, st, pc, aw, kc, ks⟩ =>
  match st with
  | .inl (.int y) :: .inl (.int x) :: st => some (lv, .inl (.int (x - y)) :: st, pc + 1, aw, kc, ks)
  | _ => none
theorem ok_isub : rOk (fun _ => [(0, .isub, 1)]) sSub := by
  intro p l e R s m args below meth c D A σ Q g cc own E b xs a fr fr' X hd h hc hs ρ κ hE hb k H locs ls hI hl
  obtain ⟨lv, st, pc, aw, kc, ks⟩ := fr
  simp only [sSub] at h
  split at h
  · cases h
    have d := hd _ List.mem_cons_self
    exact lv_isub X.1 X.2.1 d (k ρ κ rExt.rf H locs ls hI hl)
  · cases h
def sAnd (g : rG) (a : Int) : rF → Option rF := fun ⟨lv, st, pc, aw, kc, ks⟩ =>
  match st with
  | .inl (.int y) :: .inr (false, 0) :: st => if y = 63 ∧ g.1.2 ≠ 64 then some (lv, .inl (.int g.1.2) :: st, pc + 1, aw, kc, ks) else none
  | _ => none
theorem ok_iand : rOk (fun _ => [(0, .iand, 1)]) sAnd := by
  intro p l e R s m args below meth c D A σ Q g cc own E b xs a fr fr' X hd h hc hs ρ κ hE hb k H locs ls hI hl
  obtain ⟨lv, st, pc, aw, kc, ks⟩ := fr
  have hO : rOr g.1 σ := X.2.2.2.2.2.2.2.2.2.2.2.1
  simp only [sAnd] at h
  split at h
  · split at h
    · rename_i y st' hy
      cases h
      obtain ⟨rfl, hy⟩ := hy
      have d := hd _ List.mem_cons_self
      refine lv_iand X.1 X.2.1 d ?_
      rw [hO.2.1.resolve_left hy]
      exact k ρ κ rExt.rf H locs ls hI hl
    · cases h
  · cases h
def sLmul (g : rG) (a : Int) : rF → Option rF := fun ⟨lv, st, pc, aw, kc, ks⟩ =>
  match st with
  | .inl (.long y) :: .inl (.long x) :: st => some (lv, .inl (.long (x * y)) :: st, pc + 1, aw, kc, ks)
  | _ => none
theorem ok_lmul : rOk (fun _ => [(0, .lmul, 1)]) sLmul := by
  intro p l e R s m args below meth c D A σ Q g cc own E b xs a fr fr' X hd h hc hs ρ κ hE hb k H locs ls hI hl
  obtain ⟨lv, st, pc, aw, kc, ks⟩ := fr
  simp only [sLmul] at h
  split at h
  · cases h
    have d := hd _ List.mem_cons_self
    exact lv_lmul X.1 X.2.1 d (k ρ κ rExt.rf H locs ls hI hl)
  · cases h
/-- 1000 times the variable's number, 500 more, and the step -/
def sInc (g : rG) (a : Int) : rF → Option rF := fun ⟨lv, st, pc, aw, kc, ks⟩ =>
  match getL lv (a / 1000).toNat with
  | some (.inl (.int x)) => if Nat.blt (a / 1000).toNat g.2.2.2.1 then some (setL lv (a / 1000).toNat (.inl (.int (x + Int32.ofInt (a % 1000 - 500)))), st, pc + 3, aw, kc, ks) else none
  | _ => none
theorem ok_iinc : rOk (fun a => [(0, .iinc (a / 1000).toNat (a % 1000 - 500), 3)]) sInc := by
  intro p l e R s m args below meth c D A σ Q g cc own E b xs a fr fr' X hd h hc hs ρ κ hE hb k H locs ls hI hl
  obtain ⟨lv, st, pc, aw, kc, ks⟩ := fr
  simp only [sInc] at h
  split at h
  · rename_i x hv
    split at h
    · rename_i hn
      cases h
      obtain ⟨j, hj⟩ := List.mem_iff_getElem?.mp (List.mem_map.mpr ⟨_, getL_mem hv, rfl⟩ : ((a / 1000).toNat, cV ρ σ (.inl (.int x))) ∈ cL ρ σ lv)
      have d := hd _ List.mem_cons_self
      exact lv_iinc (k := j) X.1 X.2.1 d hl hj rfl (by simpa using hn) (setL_eq (ρ := ρ) (σ := σ) lv (a / 1000).toNat (.inl (.int (x + Int32.ofInt (a % 1000 - 500))))) (fun ls' hl' => k ρ κ rExt.rf H locs ls' hI hl')
    · cases h
  · cases h
def sI2l (g : rG) (a : Int) : rF → Option rF := fun ⟨lv, st, pc, aw, kc, ks⟩ =>
  match st with
  | .inl (.int x) :: st => some (lv, .inl (.long x.toInt64) :: st, pc + 1, aw, kc, ks)
  | .inr (false, j) :: st => some (lv, .inr (true, j) :: st, pc + 1, aw, kc, ks)
  | _ => none
theorem ok_i2l : rOk (fun _ => [(0, .i2l, 1)]) sI2l := by
  intro p l e R s m args below meth c D A σ Q g cc own E b xs a fr fr' X hd h hc hs ρ κ hE hb k H locs ls hI hl
  obtain ⟨lv, st, pc, aw, kc, ks⟩ := fr
  simp only [sI2l] at h
  split at h
  · cases h
    have d := hd _ List.mem_cons_self
    exact lv_i2l X.1 X.2.1 d rfl (k ρ κ rExt.rf H locs ls hI hl)
  · cases h
    have d := hd _ List.mem_cons_self
    exact lv_i2l X.1 X.2.1 d rfl (k ρ κ rExt.rf H locs ls hI hl)
  · cases h
def sI2c (g : rG) (a : Int) : rF → Option rF := fun ⟨lv, st, pc, aw, kc, ks⟩ =>
  match st with
  | .inr (false, 2) :: st => some (lv, .inr (false, 4) :: st, pc + 1, aw, kc, ks)
  | _ => none
theorem ok_i2c : rOk (fun _ => [(0, .i2c, 1)]) sI2c := by
  intro p l e R s m args below meth c D A σ Q g cc own E b xs a fr fr' X hd h hc hs ρ κ hE hb k H locs ls hI hl
  obtain ⟨lv, st, pc, aw, kc, ks⟩ := fr
  have hO : rOr g.1 σ := X.2.2.2.2.2.2.2.2.2.2.2.1
  simp only [sI2c] at h
  split at h
  · cases h
    have d := hd _ List.mem_cons_self
    exact lv_i2c X.1 X.2.1 d hO.2.2 (k ρ κ rExt.rf H locs ls hI hl)
  · cases h
end
section
/-! branches -/
def ngD (o : Option Bool) : Option Bool := match o with | some t => some (!t) | none => none
theorem ngD_ok {o : Option Bool} {t : Bool} (h : ngD o = some t) : o = some (!t) := by
  unfold ngD at h
  split at h
  · rename_i u
    cases h
    rw [Bool.not_not]
  · cases h
theorem nlt_ge {x y : Int32} : ¬ x < y ↔ y ≤ x := by rw [Int32.lt_iff_toInt_lt, Int32.le_iff_toInt_le]; omega
theorem bt_of {P : Prop} {t : Bool} (h : P ↔ t = true) (q : ¬ P) : t = false := by
  cases t
  · rfl
  · exact absurd (h.mpr rfl) q
def z0 : rV := .inl (.int 0)
def sIf (dec : rO → rV → Option Bool) (g : rG) (a : Int) : rF → Option rF := fun ⟨lv, st, pc, aw, kc, ks⟩ =>
  match st with
  | v :: st => (match dec g.1 v, tgN pc a with
    | some t, some z => some (lv, st, cond t z (pc + 3), aw, kc, ks)
    | _, _ => none)
  | [] => none
theorem sIf_ok {dec : rO → rV → Option Bool} {g : rG} {a : Int} {lv : rL} {st : List rV} {pc : Nat} {aw : List rC} {kc ks : Nat} {fr' : rF} (h : sIf dec g a (lv, st, pc, aw, kc, ks) = some fr') : ∃ v st' t z, st = v :: st' ∧ dec g.1 v = some t ∧ tgN pc a = some z ∧ fr' = (lv, st', cond t z (pc + 3), aw, kc, ks) := by
  simp only [sIf] at h
  split at h
  · rename_i v st'
    split at h
    · rename_i t z ht hz
      cases h
      exact ⟨v, st', t, z, rfl, ht, hz, rfl⟩
    · cases h
  · cases h
def sIc (dec : rO → rV → rV → Option Bool) (g : rG) (a : Int) : rF → Option rF := fun ⟨lv, st, pc, aw, kc, ks⟩ =>
  match st with
  | w :: v :: st => (match dec g.1 v w, tgN pc a with
    | some t, some z => some (lv, st, cond t z (pc + 3), aw, kc, ks)
    | _, _ => none)
  | _ => none
theorem sIc_ok {dec : rO → rV → rV → Option Bool} {g : rG} {a : Int} {lv : rL} {st : List rV} {pc : Nat} {aw : List rC} {kc ks : Nat} {fr' : rF} (h : sIc dec g a (lv, st, pc, aw, kc, ks) = some fr') : ∃ v w st' t z, st = w :: v :: st' ∧ dec g.1 v w = some t ∧ tgN pc a = some z ∧ fr' = (lv, st', cond t z (pc + 3), aw, kc, ks) := by
  simp only [sIc] at h
  split at h
  · rename_i w v st'
    split at h
    · rename_i t z ht hz
      cases h
      exact ⟨v, w, st', t, z, rfl, ht, hz, rfl⟩
    · cases h
  · cases h
theorem ok_if_eq : rOk (fun a => [(0, .ifCond .eq a, 3)]) (sIf (fun O v => eqD O v z0)) := by
  intro p l e R s m args below meth c D A σ Q g cc own E b xs a fr fr' X hd h hc hs ρ κ hE hb k H locs ls hI hl
  obtain ⟨lv, st, pc, aw, kc, ks⟩ := fr
  obtain ⟨hx, hbc, hml, hown, hlk, hK, hA, hW, ⟨hR1, hR2⟩, hSt, hSc, hO, hcl, hin⟩ := X
  obtain ⟨v, st', t, z, rfl, ht, hz, rfl⟩ := sIf_ok h
  have d := hd _ List.mem_cons_self
  obtain ⟨q1, q2, hiff⟩ := eqD_ok hO ht
  have hv : isI v = true := q1
  simp only [List.map_cons]
  rw [cV_int hv]
  refine lv_if_eq (tgt := z) hx hbc d (tgN_ok hz) (fun q => ?_) (fun q => ?_)
  · obtain rfl : t = true := hiff.mp q
    exact k ρ κ rExt.rf H locs ls hI hl
  · obtain rfl : t = false := bt_of hiff q
    exact k ρ κ rExt.rf H locs ls hI hl
theorem ok_icmp_eq : rOk (fun a => [(0, .if_icmp .eq a, 3)]) (sIc (fun O v w => eqD O v w)) := by
  intro p l e R s m args below meth c D A σ Q g cc own E b xs a fr fr' X hd h hc hs ρ κ hE hb k H locs ls hI hl
  obtain ⟨lv, st, pc, aw, kc, ks⟩ := fr
  obtain ⟨hx, hbc, hml, hown, hlk, hK, hA, hW, ⟨hR1, hR2⟩, hSt, hSc, hO, hcl, hin⟩ := X
  obtain ⟨v, w, st', t, z, rfl, ht, hz, rfl⟩ := sIc_ok h
  have d := hd _ List.mem_cons_self
  obtain ⟨q1, q2, hiff⟩ := eqD_ok hO ht
  simp only [List.map_cons]
  rw [cV_int q1, cV_int q2]
  refine lv_icmp_eq (tgt := z) hx hbc d (tgN_ok hz) (fun q => ?_) (fun q => ?_)
  · obtain rfl : t = true := hiff.mp q
    exact k ρ κ rExt.rf H locs ls hI hl
  · obtain rfl : t = false := bt_of hiff q
    exact k ρ κ rExt.rf H locs ls hI hl
theorem ok_if_ne : rOk (fun a => [(0, .ifCond .ne a, 3)]) (sIf (fun O v => ngD (eqD O v z0))) := by
  intro p l e R s m args below meth c D A σ Q g cc own E b xs a fr fr' X hd h hc hs ρ κ hE hb k H locs ls hI hl
  obtain ⟨lv, st, pc, aw, kc, ks⟩ := fr
  obtain ⟨hx, hbc, hml, hown, hlk, hK, hA, hW, ⟨hR1, hR2⟩, hSt, hSc, hO, hcl, hin⟩ := X
  obtain ⟨v, st', t, z, rfl, ht, hz, rfl⟩ := sIf_ok h
  have d := hd _ List.mem_cons_self
  have ht := ngD_ok ht
  obtain ⟨q1, q2, hiff⟩ := eqD_ok hO ht
  have hv : isI v = true := q1
  simp only [List.map_cons]
  rw [cV_int hv]
  refine lv_if_ne (tgt := z) hx hbc d (tgN_ok hz) (fun q => ?_) (fun q => ?_)
  · obtain rfl : t = true := by simpa using bt_of hiff q
    exact k ρ κ rExt.rf H locs ls hI hl
  · obtain rfl : t = false := by simpa using hiff.mp q
    exact k ρ κ rExt.rf H locs ls hI hl
theorem ok_icmp_ne : rOk (fun a => [(0, .if_icmp .ne a, 3)]) (sIc (fun O v w => ngD (eqD O v w))) := by
  intro p l e R s m args below meth c D A σ Q g cc own E b xs a fr fr' X hd h hc hs ρ κ hE hb k H locs ls hI hl
  obtain ⟨lv, st, pc, aw, kc, ks⟩ := fr
  obtain ⟨hx, hbc, hml, hown, hlk, hK, hA, hW, ⟨hR1, hR2⟩, hSt, hSc, hO, hcl, hin⟩ := X
  obtain ⟨v, w, st', t, z, rfl, ht, hz, rfl⟩ := sIc_ok h
  have d := hd _ List.mem_cons_self
  have ht := ngD_ok ht
  obtain ⟨q1, q2, hiff⟩ := eqD_ok hO ht
  simp only [List.map_cons]
  rw [cV_int q1, cV_int q2]
  refine lv_icmp_ne (tgt := z) hx hbc d (tgN_ok hz) (fun q => ?_) (fun q => ?_)
  · obtain rfl : t = true := by simpa using bt_of hiff q
    exact k ρ κ rExt.rf H locs ls hI hl
  · obtain rfl : t = false := by simpa using hiff.mp q
    exact k ρ κ rExt.rf H locs ls hI hl
theorem ok_if_lt : rOk (fun a => [(0, .ifCond .lt a, 3)]) (sIf (fun O v => ltD O v z0)) := by
  intro p l e R s m args below meth c D A σ Q g cc own E b xs a fr fr' X hd h hc hs ρ κ hE hb k H locs ls hI hl
  obtain ⟨lv, st, pc, aw, kc, ks⟩ := fr
  obtain ⟨hx, hbc, hml, hown, hlk, hK, hA, hW, ⟨hR1, hR2⟩, hSt, hSc, hO, hcl, hin⟩ := X
  obtain ⟨v, st', t, z, rfl, ht, hz, rfl⟩ := sIf_ok h
  have d := hd _ List.mem_cons_self
  obtain ⟨q1, q2, hiff⟩ := ltD_ok hO ht
  have hv : isI v = true := q1
  simp only [List.map_cons]
  rw [cV_int hv]
  refine lv_if_lt (tgt := z) hx hbc d (tgN_ok hz) (fun q => ?_) (fun q => ?_)
  · obtain rfl : t = true := hiff.mp q
    exact k ρ κ rExt.rf H locs ls hI hl
  · obtain rfl : t = false := bt_of hiff q
    exact k ρ κ rExt.rf H locs ls hI hl
theorem ok_icmp_lt : rOk (fun a => [(0, .if_icmp .lt a, 3)]) (sIc (fun O v w => ltD O v w)) := by
  intro p l e R s m args below meth c D A σ Q g cc own E b xs a fr fr' X hd h hc hs ρ κ hE hb k H locs ls hI hl
  obtain ⟨lv, st, pc, aw, kc, ks⟩ := fr
  obtain ⟨hx, hbc, hml, hown, hlk, hK, hA, hW, ⟨hR1, hR2⟩, hSt, hSc, hO, hcl, hin⟩ := X
  obtain ⟨v, w, st', t, z, rfl, ht, hz, rfl⟩ := sIc_ok h
  have d := hd _ List.mem_cons_self
  obtain ⟨q1, q2, hiff⟩ := ltD_ok hO ht
  simp only [List.map_cons]
  rw [cV_int q1, cV_int q2]
  refine lv_icmp_lt (tgt := z) hx hbc d (tgN_ok hz) (fun q => ?_) (fun q => ?_)
  · obtain rfl : t = true := hiff.mp q
    exact k ρ κ rExt.rf H locs ls hI hl
  · obtain rfl : t = false := bt_of hiff q
    exact k ρ κ rExt.rf H locs ls hI hl
theorem ok_if_ge : rOk (fun a => [(0, .ifCond .ge a, 3)]) (sIf (fun O v => ngD (ltD O v z0))) := by
  intro p l e R s m args below meth c D A σ Q g cc own E b xs a fr fr' X hd h hc hs ρ κ hE hb k H locs ls hI hl
  obtain ⟨lv, st, pc, aw, kc, ks⟩ := fr
  obtain ⟨hx, hbc, hml, hown, hlk, hK, hA, hW, ⟨hR1, hR2⟩, hSt, hSc, hO, hcl, hin⟩ := X
  obtain ⟨v, st', t, z, rfl, ht, hz, rfl⟩ := sIf_ok h
  have d := hd _ List.mem_cons_self
  have ht := ngD_ok ht
  obtain ⟨q1, q2, hiff⟩ := ltD_ok hO ht
  have hv : isI v = true := q1
  simp only [List.map_cons]
  rw [cV_int hv]
  refine lv_if_ge (tgt := z) hx hbc d (tgN_ok hz) (fun q => ?_) (fun q => ?_)
  · obtain rfl : t = true := by simpa using bt_of hiff (nlt_ge.mpr q)
    exact k ρ κ rExt.rf H locs ls hI hl
  · obtain rfl : t = false := by simpa using hiff.mp (Classical.byContradiction fun z9 => q (nlt_ge.mp z9))
    exact k ρ κ rExt.rf H locs ls hI hl
theorem ok_icmp_ge : rOk (fun a => [(0, .if_icmp .ge a, 3)]) (sIc (fun O v w => ngD (ltD O v w))) := by
  intro p l e R s m args below meth c D A σ Q g cc own E b xs a fr fr' X hd h hc hs ρ κ hE hb k H locs ls hI hl
  obtain ⟨lv, st, pc, aw, kc, ks⟩ := fr
  obtain ⟨hx, hbc, hml, hown, hlk, hK, hA, hW, ⟨hR1, hR2⟩, hSt, hSc, hO, hcl, hin⟩ := X
  obtain ⟨v, w, st', t, z, rfl, ht, hz, rfl⟩ := sIc_ok h
  have d := hd _ List.mem_cons_self
  have ht := ngD_ok ht
  obtain ⟨q1, q2, hiff⟩ := ltD_ok hO ht
  simp only [List.map_cons]
  rw [cV_int q1, cV_int q2]
  refine lv_icmp_ge (tgt := z) hx hbc d (tgN_ok hz) (fun q => ?_) (fun q => ?_)
  · obtain rfl : t = true := by simpa using bt_of hiff (nlt_ge.mpr q)
    exact k ρ κ rExt.rf H locs ls hI hl
  · obtain rfl : t = false := by simpa using hiff.mp (Classical.byContradiction fun z9 => q (nlt_ge.mp z9))
    exact k ρ κ rExt.rf H locs ls hI hl
theorem ok_if_gt : rOk (fun a => [(0, .ifCond .gt a, 3)]) (sIf (fun O v => ltD O z0 v)) := by
  intro p l e R s m args below meth c D A σ Q g cc own E b xs a fr fr' X hd h hc hs ρ κ hE hb k H locs ls hI hl
  obtain ⟨lv, st, pc, aw, kc, ks⟩ := fr
  obtain ⟨hx, hbc, hml, hown, hlk, hK, hA, hW, ⟨hR1, hR2⟩, hSt, hSc, hO, hcl, hin⟩ := X
  obtain ⟨v, st', t, z, rfl, ht, hz, rfl⟩ := sIf_ok h
  have d := hd _ List.mem_cons_self
  obtain ⟨q1, q2, hiff⟩ := ltD_ok hO ht
  have hv : isI v = true := q2
  simp only [List.map_cons]
  rw [cV_int hv]
  refine lv_if_gt (tgt := z) hx hbc d (tgN_ok hz) (fun q => ?_) (fun q => ?_)
  · obtain rfl : t = true := hiff.mp q
    exact k ρ κ rExt.rf H locs ls hI hl
  · obtain rfl : t = false := bt_of hiff q
    exact k ρ κ rExt.rf H locs ls hI hl
theorem ok_icmp_gt : rOk (fun a => [(0, .if_icmp .gt a, 3)]) (sIc (fun O v w => ltD O w v)) := by
  intro p l e R s m args below meth c D A σ Q g cc own E b xs a fr fr' X hd h hc hs ρ κ hE hb k H locs ls hI hl
  obtain ⟨lv, st, pc, aw, kc, ks⟩ := fr
  obtain ⟨hx, hbc, hml, hown, hlk, hK, hA, hW, ⟨hR1, hR2⟩, hSt, hSc, hO, hcl, hin⟩ := X
  obtain ⟨v, w, st', t, z, rfl, ht, hz, rfl⟩ := sIc_ok h
  have d := hd _ List.mem_cons_self
  obtain ⟨q1, q2, hiff⟩ := ltD_ok hO ht
  simp only [List.map_cons]
  rw [cV_int q1, cV_int q2]
  refine lv_icmp_gt (tgt := z) hx hbc d (tgN_ok hz) (fun q => ?_) (fun q => ?_)
  · obtain rfl : t = true := hiff.mp q
    exact k ρ κ rExt.rf H locs ls hI hl
  · obtain rfl : t = false := bt_of hiff q
    exact k ρ κ rExt.rf H locs ls hI hl
theorem ok_if_le : rOk (fun a => [(0, .ifCond .le a, 3)]) (sIf (fun O v => ngD (ltD O z0 v))) := by
  intro p l e R s m args below meth c D A σ Q g cc own E b xs a fr fr' X hd h hc hs ρ κ hE hb k H locs ls hI hl
  obtain ⟨lv, st, pc, aw, kc, ks⟩ := fr
  obtain ⟨hx, hbc, hml, hown, hlk, hK, hA, hW, ⟨hR1, hR2⟩, hSt, hSc, hO, hcl, hin⟩ := X
  obtain ⟨v, st', t, z, rfl, ht, hz, rfl⟩ := sIf_ok h
  have d := hd _ List.mem_cons_self
  have ht := ngD_ok ht
  obtain ⟨q1, q2, hiff⟩ := ltD_ok hO ht
  have hv : isI v = true := q2
  simp only [List.map_cons]
  rw [cV_int hv]
  refine lv_if_le (tgt := z) hx hbc d (tgN_ok hz) (fun q => ?_) (fun q => ?_)
  · obtain rfl : t = true := by simpa using bt_of hiff (nlt_ge.mpr q)
    exact k ρ κ rExt.rf H locs ls hI hl
  · obtain rfl : t = false := by simpa using hiff.mp (Classical.byContradiction fun z9 => q (nlt_ge.mp z9))
    exact k ρ κ rExt.rf H locs ls hI hl
theorem ok_icmp_le : rOk (fun a => [(0, .if_icmp .le a, 3)]) (sIc (fun O v w => ngD (ltD O w v))) := by
  intro p l e R s m args below meth c D A σ Q g cc own E b xs a fr fr' X hd h hc hs ρ κ hE hb k H locs ls hI hl
  obtain ⟨lv, st, pc, aw, kc, ks⟩ := fr
  obtain ⟨hx, hbc, hml, hown, hlk, hK, hA, hW, ⟨hR1, hR2⟩, hSt, hSc, hO, hcl, hin⟩ := X
  obtain ⟨v, w, st', t, z, rfl, ht, hz, rfl⟩ := sIc_ok h
  have d := hd _ List.mem_cons_self
  have ht := ngD_ok ht
  obtain ⟨q1, q2, hiff⟩ := ltD_ok hO ht
  simp only [List.map_cons]
  rw [cV_int q1, cV_int q2]
  refine lv_icmp_le (tgt := z) hx hbc d (tgN_ok hz) (fun q => ?_) (fun q => ?_)
  · obtain rfl : t = true := by simpa using bt_of hiff (nlt_ge.mpr q)
    exact k ρ κ rExt.rf H locs ls hI hl
  · obtain rfl : t = false := by simpa using hiff.mp (Classical.byContradiction fun z9 => q (nlt_ge.mp z9))
    exact k ρ κ rExt.rf H locs ls hI hl
/-! longs compared, and the branch behind -/
theorem fq_wide_lt (a b : Int32) : a.toInt64 < b.toInt64 ↔ a < b := by rw [Int64.lt_iff_toInt_lt, Int32.lt_iff_toInt_lt, Int32.toInt_toInt64, Int32.toInt_toInt64]
theorem fq_wide_eq (a b : Int32) : a.toInt64 = b.toInt64 ↔ a = b := by rw [← Int64.toInt_inj, ← Int32.toInt_inj, Int32.toInt_toInt64, Int32.toInt_toInt64]
theorem lgc_lt (x y : Int64) : lg_cmp x y < 0 ↔ x < y := by
  unfold lg_cmp
  split
  · rename_i h
    exact ⟨fun z => absurd z (by decide), fun z => absurd h (by rw [gt_iff_lt, Int64.lt_iff_toInt_lt] at *; omega)⟩
  · rename_i h
    split
    · rename_i h2
      subst h2
      exact ⟨fun z => absurd z (by decide), fun z => absurd z (by rw [Int64.lt_iff_toInt_lt]; omega)⟩
    · rename_i h2
      refine ⟨fun _ => ?_, fun _ => by decide⟩
      rw [gt_iff_lt, Int64.lt_iff_toInt_lt] at h
      rw [← Int64.toInt_inj] at h2
      rw [Int64.lt_iff_toInt_lt]
      omega
theorem lgc_gt (x y : Int64) : 0 < lg_cmp x y ↔ y < x := by
  unfold lg_cmp
  split
  · rename_i h
    exact ⟨fun _ => h, fun _ => by decide⟩
  · rename_i h
    refine ⟨fun z => ?_, fun z => absurd z h⟩
    split at z
    · exact absurd z (by decide)
    · exact absurd z (by decide)
theorem lgc_eq (x y : Int64) : lg_cmp x y = 0 ↔ x = y := by
  unfold lg_cmp
  split
  · rename_i h
    refine ⟨fun z => absurd z (by decide), fun z => absurd h ?_⟩
    subst z
    rw [gt_iff_lt, Int64.lt_iff_toInt_lt]
    omega
  · split
    · rename_i h2
      exact ⟨fun _ => h2, fun _ => rfl⟩
    · rename_i h2
      exact ⟨fun z => absurd z (by decide), fun z => absurd z h2⟩
def dnL (v : rV) : Option rV := match v with
  | .inl (.long z) => if z.toInt32.toInt64 = z then some (.inl (.int z.toInt32)) else none
  | .inr (true, j) => some (.inr (false, j))
  | _ => none
theorem dnL_ok {ρ : Nat → Nat} {σ : Nat → Int32} {v w : rV} (h : dnL v = some w) : cV ρ σ v = .long (cI σ w).toInt64 := by
  unfold dnL at h
  split at h
  · rename_i z
    split at h
    · rename_i hz
      cases h
      exact congrArg Value.long hz.symm
    · cases h
  · cases h
    rfl
  · cases h
def sLc (dec : rO → rV → rV → Option Bool) (g : rG) (a : Int) : rF → Option rF := fun ⟨lv, st, pc, aw, kc, ks⟩ =>
  match st with
  | w :: v :: st => (match dnL v, dnL w with
    | some v, some w => (match dec g.1 v w, tgN (pc + 1) a with
      | some t, some z => some (lv, st, cond t z (pc + 4), aw, kc, ks)
      | _, _ => none)
    | _, _ => none)
  | _ => none
theorem sLc_ok {dec : rO → rV → rV → Option Bool} {g : rG} {a : Int} {lv : rL} {st : List rV} {pc : Nat} {aw : List rC} {kc ks : Nat} {fr' : rF} (h : sLc dec g a (lv, st, pc, aw, kc, ks) = some fr') : ∃ v w v1 w1 st' t z, st = w :: v :: st' ∧ dnL v = some v1 ∧ dnL w = some w1 ∧ dec g.1 v1 w1 = some t ∧ tgN (pc + 1) a = some z ∧ fr' = (lv, st', cond t z (pc + 4), aw, kc, ks) := by
  simp only [sLc] at h
  split at h
  · rename_i w v st'
    split at h
    · rename_i v1 w1 hv hw
      split at h
      · rename_i t z ht hz
        cases h
        exact ⟨v, w, v1, w1, st', t, z, rfl, hv, hw, ht, hz, rfl⟩
      · cases h
    · cases h
  · cases h
theorem ok_lc_eq : rOk (fun a => [(0, .lcmp, 1), (1, .ifCond .eq a, 3)]) (sLc (fun O v w => eqD O v w)) := by
  intro p l e R s m args below meth c D A σ Q g cc own E b xs a fr fr' X hd h hc hs ρ κ hE hb k H locs ls hI hl
  obtain ⟨lv, st, pc, aw, kc, ks⟩ := fr
  obtain ⟨hx, hbc, hml, hown, hlk, hK, hA, hW, ⟨hR1, hR2⟩, hSt, hSc, hO, hcl, hin⟩ := X
  obtain ⟨v, w, v1, w1, st', t, z, rfl, hv, hw, ht, hz, rfl⟩ := sLc_ok h
  have d0 := hd _ List.mem_cons_self
  have d1 := hd _ (List.mem_cons_of_mem _ List.mem_cons_self)
  obtain ⟨q1, q2, hiff⟩ := eqD_ok hO ht
  have hiff := ((lgc_eq _ _).trans (fq_wide_eq _ _) : _).trans hiff
  simp only [List.map_cons]
  rw [dnL_ok hv, dnL_ok hw]
  refine W.lcmp hx hbc d0 ?_
  refine lv_if_eq (tgt := z) hx hbc d1 (tgN_ok hz) (fun q => ?_) (fun q => ?_)
  · obtain rfl : t = true := hiff.mp q
    exact k ρ κ rExt.rf H locs ls hI hl
  · obtain rfl : t = false := bt_of hiff q
    exact k ρ κ rExt.rf H locs ls hI hl
theorem ok_lc_ne : rOk (fun a => [(0, .lcmp, 1), (1, .ifCond .ne a, 3)]) (sLc (fun O v w => ngD (eqD O v w))) := by
  intro p l e R s m args below meth c D A σ Q g cc own E b xs a fr fr' X hd h hc hs ρ κ hE hb k H locs ls hI hl
  obtain ⟨lv, st, pc, aw, kc, ks⟩ := fr
  obtain ⟨hx, hbc, hml, hown, hlk, hK, hA, hW, ⟨hR1, hR2⟩, hSt, hSc, hO, hcl, hin⟩ := X
  obtain ⟨v, w, v1, w1, st', t, z, rfl, hv, hw, ht, hz, rfl⟩ := sLc_ok h
  have d0 := hd _ List.mem_cons_self
  have d1 := hd _ (List.mem_cons_of_mem _ List.mem_cons_self)
  have ht := ngD_ok ht
  obtain ⟨q1, q2, hiff⟩ := eqD_ok hO ht
  have hiff := ((lgc_eq _ _).trans (fq_wide_eq _ _) : _).trans hiff
  simp only [List.map_cons]
  rw [dnL_ok hv, dnL_ok hw]
  refine W.lcmp hx hbc d0 ?_
  refine lv_if_ne (tgt := z) hx hbc d1 (tgN_ok hz) (fun q => ?_) (fun q => ?_)
  · obtain rfl : t = true := by simpa using bt_of hiff q
    exact k ρ κ rExt.rf H locs ls hI hl
  · obtain rfl : t = false := by simpa using hiff.mp q
    exact k ρ κ rExt.rf H locs ls hI hl
theorem ok_lc_lt : rOk (fun a => [(0, .lcmp, 1), (1, .ifCond .lt a, 3)]) (sLc (fun O v w => ltD O v w)) := by
  intro p l e R s m args below meth c D A σ Q g cc own E b xs a fr fr' X hd h hc hs ρ κ hE hb k H locs ls hI hl
  obtain ⟨lv, st, pc, aw, kc, ks⟩ := fr
  obtain ⟨hx, hbc, hml, hown, hlk, hK, hA, hW, ⟨hR1, hR2⟩, hSt, hSc, hO, hcl, hin⟩ := X
  obtain ⟨v, w, v1, w1, st', t, z, rfl, hv, hw, ht, hz, rfl⟩ := sLc_ok h
  have d0 := hd _ List.mem_cons_self
  have d1 := hd _ (List.mem_cons_of_mem _ List.mem_cons_self)
  obtain ⟨q1, q2, hiff⟩ := ltD_ok hO ht
  have hiff := ((lgc_lt _ _).trans (fq_wide_lt _ _) : _).trans hiff
  simp only [List.map_cons]
  rw [dnL_ok hv, dnL_ok hw]
  refine W.lcmp hx hbc d0 ?_
  refine lv_if_lt (tgt := z) hx hbc d1 (tgN_ok hz) (fun q => ?_) (fun q => ?_)
  · obtain rfl : t = true := hiff.mp q
    exact k ρ κ rExt.rf H locs ls hI hl
  · obtain rfl : t = false := bt_of hiff q
    exact k ρ κ rExt.rf H locs ls hI hl
theorem ok_lc_ge : rOk (fun a => [(0, .lcmp, 1), (1, .ifCond .ge a, 3)]) (sLc (fun O v w => ngD (ltD O v w))) := by
  intro p l e R s m args below meth c D A σ Q g cc own E b xs a fr fr' X hd h hc hs ρ κ hE hb k H locs ls hI hl
  obtain ⟨lv, st, pc, aw, kc, ks⟩ := fr
  obtain ⟨hx, hbc, hml, hown, hlk, hK, hA, hW, ⟨hR1, hR2⟩, hSt, hSc, hO, hcl, hin⟩ := X
  obtain ⟨v, w, v1, w1, st', t, z, rfl, hv, hw, ht, hz, rfl⟩ := sLc_ok h
  have d0 := hd _ List.mem_cons_self
  have d1 := hd _ (List.mem_cons_of_mem _ List.mem_cons_self)
  have ht := ngD_ok ht
  obtain ⟨q1, q2, hiff⟩ := ltD_ok hO ht
  have hiff := ((lgc_lt _ _).trans (fq_wide_lt _ _) : _).trans hiff
  simp only [List.map_cons]
  rw [dnL_ok hv, dnL_ok hw]
  refine W.lcmp hx hbc d0 ?_
  refine lv_if_ge (tgt := z) hx hbc d1 (tgN_ok hz) (fun q => ?_) (fun q => ?_)
  · obtain rfl : t = true := by simpa using bt_of hiff (nlt_ge.mpr q)
    exact k ρ κ rExt.rf H locs ls hI hl
  · obtain rfl : t = false := by simpa using hiff.mp (Classical.byContradiction fun z9 => q (nlt_ge.mp z9))
    exact k ρ κ rExt.rf H locs ls hI hl
theorem ok_lc_gt : rOk (fun a => [(0, .lcmp, 1), (1, .ifCond .gt a, 3)]) (sLc (fun O v w => ltD O w v)) := by
  intro p l e R s m args below meth c D A σ Q g cc own E b xs a fr fr' X hd h hc hs ρ κ hE hb k H locs ls hI hl
  obtain ⟨lv, st, pc, aw, kc, ks⟩ := fr
  obtain ⟨hx, hbc, hml, hown, hlk, hK, hA, hW, ⟨hR1, hR2⟩, hSt, hSc, hO, hcl, hin⟩ := X
  obtain ⟨v, w, v1, w1, st', t, z, rfl, hv, hw, ht, hz, rfl⟩ := sLc_ok h
  have d0 := hd _ List.mem_cons_self
  have d1 := hd _ (List.mem_cons_of_mem _ List.mem_cons_self)
  obtain ⟨q1, q2, hiff⟩ := ltD_ok hO ht
  have hiff := ((lgc_gt _ _).trans (fq_wide_lt _ _) : _).trans hiff
  simp only [List.map_cons]
  rw [dnL_ok hv, dnL_ok hw]
  refine W.lcmp hx hbc d0 ?_
  refine lv_if_gt (tgt := z) hx hbc d1 (tgN_ok hz) (fun q => ?_) (fun q => ?_)
  · obtain rfl : t = true := hiff.mp q
    exact k ρ κ rExt.rf H locs ls hI hl
  · obtain rfl : t = false := bt_of hiff q
    exact k ρ κ rExt.rf H locs ls hI hl
theorem ok_lc_le : rOk (fun a => [(0, .lcmp, 1), (1, .ifCond .le a, 3)]) (sLc (fun O v w => ngD (ltD O w v))) := by
  intro p l e R s m args below meth c D A σ Q g cc own E b xs a fr fr' X hd h hc hs ρ κ hE hb k H locs ls hI hl
  obtain ⟨lv, st, pc, aw, kc, ks⟩ := fr
  obtain ⟨hx, hbc, hml, hown, hlk, hK, hA, hW, ⟨hR1, hR2⟩, hSt, hSc, hO, hcl, hin⟩ := X
  obtain ⟨v, w, v1, w1, st', t, z, rfl, hv, hw, ht, hz, rfl⟩ := sLc_ok h
  have d0 := hd _ List.mem_cons_self
  have d1 := hd _ (List.mem_cons_of_mem _ List.mem_cons_self)
  have ht := ngD_ok ht
  obtain ⟨q1, q2, hiff⟩ := ltD_ok hO ht
  have hiff := ((lgc_gt _ _).trans (fq_wide_lt _ _) : _).trans hiff
  simp only [List.map_cons]
  rw [dnL_ok hv, dnL_ok hw]
  refine W.lcmp hx hbc d0 ?_
  refine lv_if_le (tgt := z) hx hbc d1 (tgN_ok hz) (fun q => ?_) (fun q => ?_)
  · obtain rfl : t = true := by simpa using bt_of hiff (nlt_ge.mpr q)
    exact k ρ κ rExt.rf H locs ls hI hl
  · obtain rfl : t = false := by simpa using hiff.mp (Classical.byContradiction fun z9 => q (nlt_ge.mp z9))
    exact k ρ κ rExt.rf H locs ls hI hl
/-! refs compared, jumps, the law's switch -/
def sAc (g : rG) (a : Int) : rF → Option rF := fun ⟨lv, st, pc, aw, kc, ks⟩ =>
  match st with
  | w :: v :: st => (match tgN pc a with
    | some z => if isR v && decide (v = w) then some (lv, st, z, aw, kc, ks) else none
    | none => none)
  | _ => none
theorem ok_acmp_eq : rOk (fun a => [(0, .if_acmp .eq a, 3)]) sAc := by
  intro p l e R s m args below meth c D A σ Q g cc own E b xs a fr fr' X hd h hc hs ρ κ hE hb k H locs ls hI hl
  obtain ⟨lv, st, pc, aw, kc, ks⟩ := fr
  obtain ⟨hx, hbc, hml, hown, hlk, hK, hA, hW, ⟨hR1, hR2⟩, hSt, hSc, hO, hcl, hin⟩ := X
  simp only [sAc] at h
  split at h
  · rename_i w v st'
    split at h
    · rename_i z hz
      split at h
      · rename_i hv
        cases h
        simp only [Bool.and_eq_true, decide_eq_true_eq] at hv
        obtain ⟨hv, rfl⟩ := hv
        simp only [List.map_cons]
        rw [cV_ref hv]
        have d := hd _ List.mem_cons_self
        exact lv_acmp_eq (tgt := z) hx hbc d (tgN_ok hz) (fun _ => k ρ κ rExt.rf H locs ls hI hl) (fun q => absurd rfl q)
      · cases h
    · cases h
  · cases h
def sNu (t : Bool) (g : rG) (a : Int) : rF → Option rF := fun ⟨lv, st, pc, aw, kc, ks⟩ =>
  match st with
  | .inl .null :: st => (match tgN pc a with
    | some z => some (lv, st, cond t z (pc + 3), aw, kc, ks)
    | none => none)
  | _ => none
theorem ok_ifnull : rOk (fun a => [(0, .ifnull a, 3)]) (sNu true) := by
  intro p l e R s m args below meth c D A σ Q g cc own E b xs a fr fr' X hd h hc hs ρ κ hE hb k H locs ls hI hl
  obtain ⟨lv, st, pc, aw, kc, ks⟩ := fr
  obtain ⟨hx, hbc, hml, hown, hlk, hK, hA, hW, ⟨hR1, hR2⟩, hSt, hSc, hO, hcl, hin⟩ := X
  simp only [sNu] at h
  split at h
  · split at h
    · rename_i z hz
      cases h
      have d := hd _ List.mem_cons_self
      exact lv_ifnullN (tgt := z) hx hbc d (tgN_ok hz) (k ρ κ rExt.rf H locs ls hI hl)
    · cases h
  · cases h
theorem ok_ifnonnull : rOk (fun a => [(0, .ifnonnull a, 3)]) (sNu false) := by
  intro p l e R s m args below meth c D A σ Q g cc own E b xs a fr fr' X hd h hc hs ρ κ hE hb k H locs ls hI hl
  obtain ⟨lv, st, pc, aw, kc, ks⟩ := fr
  obtain ⟨hx, hbc, hml, hown, hlk, hK, hA, hW, ⟨hR1, hR2⟩, hSt, hSc, hO, hcl, hin⟩ := X
  simp only [sNu] at h
  split at h
  · split at h
    · rename_i z hz
      cases h
      have d := hd _ List.mem_cons_self
      exact lv_ifnonnullN hx hbc d (k ρ κ rExt.rf H locs ls hI hl)
    · cases h
  · cases h
def sGt (g : rG) (a : Int) : rF → Option rF := fun ⟨lv, st, pc, aw, kc, ks⟩ =>
  match tgN pc a with
  | some z => some (lv, st, z, aw, kc, ks)
  | none => none
theorem ok_goto : rOk (fun a => [(0, .goto a, 3)]) sGt := by
  intro p l e R s m args below meth c D A σ Q g cc own E b xs a fr fr' X hd h hc hs ρ κ hE hb k H locs ls hI hl
  obtain ⟨lv, st, pc, aw, kc, ks⟩ := fr
  obtain ⟨hx, hbc, hml, hown, hlk, hK, hA, hW, ⟨hR1, hR2⟩, hSt, hSc, hO, hcl, hin⟩ := X
  simp only [sGt] at h
  split at h
  · rename_i z hz
    cases h
    have d := hd _ List.mem_cons_self
    exact lv_goto (tgt := z) hx hbc d (tgN_ok hz) (k ρ κ rExt.rf H locs ls hI hl)
  · cases h
def sSw (g : rG) (a : Int) : rF → Option rF := fun ⟨lv, st, pc, aw, kc, ks⟩ =>
  match st with
  | .inl (.int x) :: st => if x.toInt < 0 ∨ 35 < x.toInt then (match tgN pc 2451 with
      | some z => some (lv, st, z, aw, kc, ks)
      | none => none) else (match rSw[(x.toInt - 0).toNat]? with
      | some off => (match tgN pc off with
        | some z => some (lv, st, z, aw, kc, ks)
        | none => none)
      | none => none)
  | _ => none
theorem ok_switch : rOk (fun _ => [(0, .tableswitch 2451 0 35 rSw, 160)]) sSw := by
  intro p l e R s m args below meth c D A σ Q g cc own E b xs a fr fr' X hd h hc hs ρ κ hE hb k H locs ls hI hl
  obtain ⟨lv, st, pc, aw, kc, ks⟩ := fr
  obtain ⟨hx, hbc, hml, hown, hlk, hK, hA, hW, ⟨hR1, hR2⟩, hSt, hSc, hO, hcl, hin⟩ := X
  simp only [sSw] at h
  split at h
  · rename_i x st'
    split at h
    · rename_i hx2
      split at h
      · rename_i z hz
        cases h
        have d := hd _ List.mem_cons_self
        exact lv_tableOut (tgt := z) hx hbc d hx2 (tgN_ok hz) (k ρ κ rExt.rf H locs ls hI hl)
      · cases h
    · rename_i hx2
      split at h
      · rename_i off ho
        split at h
        · rename_i z hz
          cases h
          have d := hd _ List.mem_cons_self
          exact lv_tableIn (tgt := z) hx hbc d (fun q => hx2 (Or.inl q)) (fun q => hx2 (Or.inr q)) ho (tgN_ok hz) (k ρ κ rExt.rf H locs ls hI hl)
        · cases h
      · cases h
  · cases h
/-! arrays -/
theorem vp_inG {i : Int32} {es : List rV} {v : rV} (h0 : ¬ i < 0) (h : es[i.toNatClampNeg]? = some v) : vp_in i es.length := by
  intro hh
  rcases hh with hh | hh
  · exact h0 hh
  · rw [List.getElem?_eq_none hh] at h
    cases h
theorem gD {es : List rV} {j : Nat} {v d : rV} (h : es[j]? = some v) : es.getD j d = v := by
  rw [List.getD_eq_getElem?_getD, h]
  rfl
def sIal (g : rG) (a : Int) : rF → Option rF := fun ⟨lv, st, pc, aw, kc, ks⟩ =>
  match st with
  | .inl (.int i) :: .inl (.ref r) :: st => (match aw[r]? with
    | some (.inl (0, es)) => (match es[i.toNatClampNeg]? with
      | some v => if isI v && !decide (i < 0) then some (lv, v :: st, pc + 1, aw, kc, ks) else none
      | none => none)
    | _ => none)
  | _ => none
theorem ok_iaload : rOk (fun _ => [(0, .iaload, 1)]) sIal := by
  intro p l e R s m args below meth c D A σ Q g cc own E b xs a fr fr' X hd h hc hs ρ κ hE hb k H locs ls hI hl
  obtain ⟨lv, st, pc, aw, kc, ks⟩ := fr
  obtain ⟨hx, hbc, hml, hown, hlk, hK, hA, hW, ⟨hR1, hR2⟩, hSt, hSc, hO, hcl, hin⟩ := X
  simp only [sIal] at h
  split at h
  · rename_i i r st'
    split at h
    · rename_i es hr
      split at h
      · rename_i v hv
        split at h
        · rename_i hi
          cases h
          simp only [Bool.and_eq_true, Bool.not_eq_true', decide_eq_false_iff_not] at hi
          obtain ⟨hi, h0⟩ := hi
          have kk := k ρ κ rExt.rf H locs ls hI hl
          simp only [List.map_cons] at kk ⊢
          rw [cV_int hi] at kk
          have d := hd _ List.mem_cons_self
          refine va_iald hx hbc (hI.1 r 0 es hr) hI.2.1 r 0 (cW_at hr) rfl (vp_inG h0 hv) d ?_
          rw [show uI (cV ρ σ (es.getD i.toNatClampNeg (rZ 0))) = cI σ v by rw [gD hv, cV_int hi]; rfl]
          exact kk
        · cases h
      · cases h
    · cases h
  · cases h
def sXal (g : rG) (a : Int) : rF → Option rF := fun ⟨lv, st, pc, aw, kc, ks⟩ =>
  match st with
  | .inl (.int i) :: .inl (.ref 1001) :: st => if g.2.2.1 && (!decide (i < 0) && Nat.blt i.toNatClampNeg g.2.1) then some (lv, .inr (false, i.toNatClampNeg) :: st, pc + 1, aw, kc, ks) else none
  | _ => none
theorem ok_xaload : rOk (fun _ => [(0, .iaload, 1)]) sXal := by
  intro p l e R s m args below meth c D A σ Q g cc own E b xs a fr fr' X hd h hc hs ρ κ hE hb k H locs ls hI hl
  obtain ⟨lv, st, pc, aw, kc, ks⟩ := fr
  obtain ⟨hx, hbc, hml, hown, hlk, hK, hA, hW, ⟨hR1, hR2⟩, hSt, hSc, hO, hcl, hin⟩ := X
  simp only [sXal] at h
  split at h
  · rename_i i st'
    split at h
    · rename_i hi
      cases h
      simp only [Bool.and_eq_true, Bool.not_eq_true', decide_eq_false_iff_not] at hi
      obtain ⟨hf, h0, hn⟩ := hi
      have hn : i.toNatClampNeg < g.2.1 := by simpa using hn
      obtain ⟨hX, hbl, hbA, hxs⟩ := hSc hf
      have kk := k ρ κ rExt.rf H locs ls hI hl
      have e1 : cV ρ σ (.inl (.ref 1001)) = .ref b := congrArg Value.ref hb
      have e2 : cV ρ σ (.inr (false, i.toNatClampNeg)) = .int (xs i.toNatClampNeg) := congrArg Value.int (hxs _ hn).symm
      simp only [List.map_cons] at kk ⊢
      rw [e2] at kk
      rw [e1]
      have d := hd _ List.mem_cons_self
      exact va_sld hx hbc hX hbl hbA hI.2.2.2 (fun z => z.elim h0 (fun z => absurd hn (Nat.not_lt.mpr z))) d kk
    · cases h
  · cases h
def sLal (g : rG) (a : Int) : rF → Option rF := fun ⟨lv, st, pc, aw, kc, ks⟩ =>
  match st with
  | .inl (.int i) :: .inl (.ref r) :: st => (match aw[r]? with
    | some (.inl (2, es)) => (match es[i.toNatClampNeg]? with
      | some v => if isL v && !decide (i < 0) then some (lv, v :: st, pc + 1, aw, kc, ks) else none
      | none => none)
    | _ => none)
  | _ => none
theorem ok_laload : rOk (fun _ => [(0, .laload, 1)]) sLal := by
  intro p l e R s m args below meth c D A σ Q g cc own E b xs a fr fr' X hd h hc hs ρ κ hE hb k H locs ls hI hl
  obtain ⟨lv, st, pc, aw, kc, ks⟩ := fr
  obtain ⟨hx, hbc, hml, hown, hlk, hK, hA, hW, ⟨hR1, hR2⟩, hSt, hSc, hO, hcl, hin⟩ := X
  simp only [sLal] at h
  split at h
  · rename_i i r st'
    split at h
    · rename_i es hr
      split at h
      · rename_i v hv
        split at h
        · rename_i hi
          cases h
          simp only [Bool.and_eq_true, Bool.not_eq_true', decide_eq_false_iff_not] at hi
          obtain ⟨hi, h0⟩ := hi
          have kk := k ρ κ rExt.rf H locs ls hI hl
          simp only [List.map_cons] at kk ⊢
          rw [cV_long hi] at kk
          have d := hd _ List.mem_cons_self
          refine va_lald hx hbc (hI.1 r 2 es hr) hI.2.1 r 0 (cW_at hr) rfl (vp_inG h0 hv) d ?_
          rw [show uL (cV ρ σ (es.getD i.toNatClampNeg (rZ 2))) = uL (cV ρ σ v) by rw [gD hv]]
          exact kk
        · cases h
      · cases h
    · cases h
  · cases h
theorem setD {es : List rV} {i : Nat} {v d : rV} (hi : i < es.length) (j : Nat) : (es.set i v).getD j d = if j = i then v else es.getD j d := by
  rw [List.getD_eq_getElem?_getD, List.getD_eq_getElem?_getD, List.getElem?_set]
  by_cases hj : j = i
  · subst hj
    simp [hi]
  · rw [if_neg (fun z => hj z.symm), if_neg hj]
theorem hKset {D : va_G} {s : State} {κ : Nat → ClassId} {aw : List rC} {r t : Nat} {es es' : List rV} (hr : aw[r]? = some (.inl (t, es))) (h : ∀ i t es, aw[i]? = some (.inl (t, es)) → va_K D vwC9 [(κ i, rTy t)] s) : ∀ i t1 es1, (aw.set r (.inl (t, es')))[i]? = some (.inl (t1, es1)) → va_K D vwC9 [(κ i, rTy t1)] s := by
  intro i t1 es1 hi
  rw [List.getElem?_set] at hi
  split at hi
  · rename_i e
    subst e
    split at hi
    · cases hi
      exact h _ _ _ hr
    · cases hi
  · exact h _ _ _ hi
theorem hKsetO {D : va_G} {s : State} {κ : Nat → ClassId} {aw : List rC} {r : Nat} {z : Nat × List rV} (h : ∀ i t es, aw[i]? = some (.inl (t, es)) → va_K D vwC9 [(κ i, rTy t)] s) : ∀ i t es, (aw.set r (.inr z))[i]? = some (.inl (t, es)) → va_K D vwC9 [(κ i, rTy t)] s := by
  intro i t1 es1 hi
  rw [List.getElem?_set] at hi
  split at hi
  · split at hi
    · cases hi
    · cases hi
  · exact h _ _ _ hi
def sIas (g : rG) (a : Int) : rF → Option rF := fun ⟨lv, st, pc, aw, kc, ks⟩ =>
  match st with
  | v :: .inl (.int i) :: .inl (.ref r) :: st => (match aw[r]? with
    | some (.inl (0, es)) => if isI v && (!decide (i < 0) && Nat.blt i.toNatClampNeg es.length) then some (lv, st, pc + 1, aw.set r (.inl (0, es.set i.toNatClampNeg v)), kc, ks) else none
    | _ => none)
  | _ => none
theorem ok_iastore : rOk (fun _ => [(0, .iastore, 1)]) sIas := by
  intro p l e R s m args below meth c D A σ Q g cc own E b xs a fr fr' X hd h hc hs ρ κ hE hb k H locs ls hI hl
  obtain ⟨lv, st, pc, aw, kc, ks⟩ := fr
  obtain ⟨hx, hbc, hml, hown, hlk, hK, hA, hW, ⟨hR1, hR2⟩, hSt, hSc, hO, hcl, hin⟩ := X
  simp only [sIas] at h
  split at h
  · rename_i v i r st'
    split at h
    · rename_i es hr
      split at h
      · rename_i hi
        cases h
        simp only [Bool.and_eq_true, Bool.not_eq_true', decide_eq_false_iff_not] at hi
        obtain ⟨hi, h0, hn⟩ := hi
        have hn : i.toNatClampNeg < es.length := by simpa using hn
        simp only [List.map_cons]
        rw [cV_int hi]
        have d := hd _ List.mem_cons_self
        refine va_iast hx hbc (hI.1 r 0 es hr) hI.2.1 hI.2.2.1 hI.2.2.2 r 0 (cW_at hr) rfl (fun z => z.elim h0 (fun z => absurd hn (Nat.not_lt.mpr z))) d (fun H1 locs1 hP hD hS => ?_)
        have e : ((ρ r, .inl (κ r, es.length, .inl (upd (fun j => uI (cV ρ σ (es.getD j (rZ 0)))) i.toNatClampNeg (cI σ v)))) : Nat × va_E) = (ρ r, cC ρ κ σ r (.inl (0, es.set i.toNatClampNeg v))) := by
          have e2 : upd (fun j => uI (cV ρ σ (es.getD j (rZ 0)))) i.toNatClampNeg (cI σ v) = fun j => uI (cV ρ σ ((es.set i.toNatClampNeg v).getD j (rZ 0))) := by
            funext j
            rw [setD hn]
            unfold upd
            by_cases hj : j = i.toNatClampNeg
            · rw [if_pos hj, if_pos hj, cV_int hi]
              rfl
            · rw [if_neg hj, if_neg hj]
          rw [e2]
          simp only [cC, cA, List.length_set]
        rw [e, cW_put] at hP hD
        exact k ρ κ rExt.rf H1 locs1 ls ⟨hKset hr hI.1, hP, hD, hS⟩ hl
      · cases h
    · cases h
  · cases h
def sLas (g : rG) (a : Int) : rF → Option rF := fun ⟨lv, st, pc, aw, kc, ks⟩ =>
  match st with
  | v :: .inl (.int i) :: .inl (.ref r) :: st => (match aw[r]? with
    | some (.inl (2, es)) => if isL v && (!decide (i < 0) && Nat.blt i.toNatClampNeg es.length) then some (lv, st, pc + 1, aw.set r (.inl (2, es.set i.toNatClampNeg v)), kc, ks) else none
    | _ => none)
  | _ => none
theorem ok_lastore : rOk (fun _ => [(0, .lastore, 1)]) sLas := by
  intro p l e R s m args below meth c D A σ Q g cc own E b xs a fr fr' X hd h hc hs ρ κ hE hb k H locs ls hI hl
  obtain ⟨lv, st, pc, aw, kc, ks⟩ := fr
  obtain ⟨hx, hbc, hml, hown, hlk, hK, hA, hW, ⟨hR1, hR2⟩, hSt, hSc, hO, hcl, hin⟩ := X
  simp only [sLas] at h
  split at h
  · rename_i v i r st'
    split at h
    · rename_i es hr
      split at h
      · rename_i hi
        cases h
        simp only [Bool.and_eq_true, Bool.not_eq_true', decide_eq_false_iff_not] at hi
        obtain ⟨hi, h0, hn⟩ := hi
        have hn : i.toNatClampNeg < es.length := by simpa using hn
        simp only [List.map_cons]
        rw [cV_long hi]
        have d := hd _ List.mem_cons_self
        refine va_last hx hbc (hI.1 r 2 es hr) hI.2.1 hI.2.2.1 hI.2.2.2 r 0 (cW_at hr) rfl (fun z => z.elim h0 (fun z => absurd hn (Nat.not_lt.mpr z))) d (fun H1 locs1 hP hD hS => ?_)
        have e : ((ρ r, .inl (κ r, es.length, .inr (.inl (vp_updL (fun j => uL (cV ρ σ (es.getD j (rZ 2)))) i.toNatClampNeg (uL (cV ρ σ v)))))) : Nat × va_E) = (ρ r, cC ρ κ σ r (.inl (2, es.set i.toNatClampNeg v))) := by
          have e2 : vp_updL (fun j => uL (cV ρ σ (es.getD j (rZ 2)))) i.toNatClampNeg (uL (cV ρ σ v)) = fun j => uL (cV ρ σ ((es.set i.toNatClampNeg v).getD j (rZ 2))) := by
            funext j
            rw [setD hn]
            unfold vp_updL
            by_cases hj : j = i.toNatClampNeg
            · rw [if_pos hj, if_pos hj]
            · rw [if_neg hj, if_neg hj]
          rw [e2]
          simp only [cC, cA, List.length_set]
        rw [e, cW_put] at hP hD
        exact k ρ κ rExt.rf H1 locs1 ls ⟨hKset hr hI.1, hP, hD, hS⟩ hl
      · cases h
    · cases h
  · cases h
end
section
/-! steps that rest on tables of their own: fields, new cells, constants, natives -/
theorem any_ok {w : Cond} (hw : w.onTables = true) {args : Array Value} {s : State} (h : ∀ w ∈ lwA, w.before args s = true) (hm : w ∈ lwA) : va_Nw w s := va_Nw.of hw (h w hm)
theorem own_eq {g : rG} {o : Nat} {own own2 : String} (h : clsN[g.2.2.2.2.1]? = some own) (h2 : clsN[o]? = some own2) (e : Nat.beq o g.2.2.2.2.1 = true) : own2 = own := by
  cases Nat.eq_of_beq_eq_true e
  exact Option.some.inj (h2.symm.trans h)
def tcOk (tc : Nat) (ty : FieldType) : Prop := match tc with
  | 0 => ty = .int
  | 1 => ty = .boolean
  | 2 => ty = .char
  | 3 => True
  | _ => (∃ n, ty = .object n) ∨ ∃ t, ty = .array t
def okF (tc : Nat) (v : rV) : Bool := match tc with
  | 0 => isI v
  | 1 => (match v with | .inl (.int x) => decide (x = 0) || decide (x = 1) | _ => false)
  | 2 => (match v with | .inl (.int x) => decide (x = 119) | _ => false)
  | 3 => false
  | _ => isR v
theorem okF_ok {tc : Nat} {ty : FieldType} {v : rV} {ρ : Nat → Nat} {σ : Nat → Int32} (h1 : tcOk tc ty) (h2 : okF tc v = true) : narrow ty (cV ρ σ v) = cV ρ σ v ∧ fits ty (cV ρ σ v) = true := by
  match tc, h1, h2 with
  | 0, h1, h2 =>
    cases h1
    rw [cV_int h2]
    exact ⟨rfl, rfl⟩
  | 1, h1, h2 =>
    cases h1
    simp only [okF] at h2
    split at h2
    · rename_i x
      simp only [Bool.or_eq_true, decide_eq_true_eq] at h2
      rcases h2 with rfl | rfl
      · exact ⟨rfl, rfl⟩
      · exact ⟨rfl, rfl⟩
    · cases h2
  | 2, h1, h2 =>
    cases h1
    simp only [okF] at h2
    split at h2
    · rename_i x
      simp only [decide_eq_true_eq] at h2
      subst h2
      exact ⟨rfl, rfl⟩
    · cases h2
  | 3, _, h2 => cases (show false = true from h2)
  | tc + 4, h1, h2 =>
    have h2 : isR v = true := h2
    unfold isR at h2
    split at h2
    · rcases h1 with ⟨n, rfl⟩ | ⟨t, rfl⟩
      · exact ⟨rfl, rfl⟩
      · exact ⟨rfl, rfl⟩
    · rcases h1 with ⟨n, rfl⟩ | ⟨t, rfl⟩
      · exact ⟨rfl, rfl⟩
      · exact ⟨rfl, rfl⟩
    · cases h2
/-- a field: whose code names it, by which entry, in objects of which kind, at which place, of which sort, whether it is final -/
def rFld (q : Nat × Nat × Nat × Nat × Nat × Bool) : Prop := ∃ (o ref C : String) (T : u_T) (N : Nat) (ty0 : Nat → FieldType), clsN[q.1]? = some o ∧ vwC9[q.2.2.1]? = some (C, T, N) ∧ (∀ w ∈ u_ws C T N, w ∈ lwA) ∧ q.2.2.2.1 < N ∧ Cond.fieldLink o q.2.1 ref (T q.2.2.2.1).2.1 (T q.2.2.2.1).2.2.1 ∈ lwA ∧ (ref = (T q.2.2.2.1).1 ∨ Cond.sameField ref (T q.2.2.2.1).1 (T q.2.2.2.1).2.1 (T q.2.2.2.1).2.2.1 ∈ lwA) ∧ (∀ k, k < N → parseFieldDescriptor (T k).2.2.1 = some (ty0 k)) ∧ (∀ a, a < N → ∀ b, b < N → a ≠ b → (T a).2.1 ≠ (T b).2.1) ∧ tcOk q.2.2.2.2.1 (ty0 q.2.2.2.1) ∧ (T q.2.2.2.1).2.2.2 = q.2.2.2.2.2 ∧ (q.2.2.2.2.2 = true → q.2.2.2.2.1 = 3 ∨ (T q.2.2.2.1).1 = o)
theorem hsameF {args : Array Value} {s : State} {T : u_T} {k : Nat} {ref : String} (hW : ∀ w ∈ lwA, w.before args s = true) (h : ref = (T k).1 ∨ Cond.sameField ref (T k).1 (T k).2.1 (T k).2.2.1 ∈ lwA) : ∀ x, s.fieldFound? (T k).1 (T k).2.1 (T k).2.2.1 = some x → s.fieldFound? ref (T k).2.1 (T k).2.2.1 = some x := by
  rcases h with rfl | h
  · exact fun _ z => z
  · exact fun x z => u_same (hW _ h) x z
def sGf (g : rG) (a : Int) : rF → Option rF := fun ⟨lv, st, pc, aw, kc, ks⟩ =>
  match fT[a.toNat]?, st with
  | some (o, _, ci, k, _, _), .inl (.ref r) :: st => (match aw[r]? with
    | some (.inr (cj, fs)) => if Nat.beq o g.2.2.2.2.1 && Nat.beq cj ci then (match fs[k]? with
      | some v => some (lv, v :: st, pc + 3, aw, kc, ks)
      | none => none) else none
    | _ => none)
  | _, _ => none
def dkF (f : Nat → Instr) (a : Int) : List (Nat × Instr × Nat) := match fT[a.toNat]? with
  | some q => [(0, f q.2.1, 3)]
  | none => []
theorem ok_getf (hT : ∀ q ∈ fT, rFld q) : rOk (dkF .getfield) sGf := by
  intro p l e R s m args below meth c D A σ Q g cc own E b xs a fr fr' X hd h hc hs ρ κ hE hb k H locs ls hI hl
  obtain ⟨lv, st, pc, aw, kc, ks⟩ := fr
  obtain ⟨hx, hbc, hml, hown, hlk, hK, hA, hW, ⟨hR1, hR2⟩, hSt, hSc, hO, hcl, hin⟩ := X
  simp only [sGf] at h
  split at h
  · rename_i o i ci kk tc fi r st' hq
    split at h
    · rename_i cj fs hr
      split at h
      · rename_i ho
        simp only [Bool.and_eq_true] at ho
        split at h
        · rename_i v hv
          cases h
          cases Nat.eq_of_beq_eq_true ho.2
          obtain ⟨o2, ref, C, T, N, ty0, f1, f2, f3, f4, f5, f6, f7, f8, f9, f10, f11⟩ := hT _ (List.mem_of_getElem? hq)
          cases own_eq hcl f1 ho.1
          have d : decode cc pc = .ok (.getfield i, 3) := hd (0, .getfield i, 3) (by simp only [dkF, hq]; exact List.mem_cons_self)
          exact va_get (D := D) hx hbc hW f3 hown hK hI.2.1 r (cW_at hr) f2 kk f4 (hW _ f5) (hsameF hW f6) (by rw [List.getElem?_map, hv]; rfl) d (k ρ κ rExt.rf H locs ls hI hl)
        · cases h
      · cases h
    · cases h
  · cases h
def rFldN (q : Nat × Nat × Nat × Nat) : Prop := ∃ (o ref C host : String) (T : u_T) (N : Nat), clsN[q.1]? = some o ∧ vwC9[q.2.2.1]? = some (C, T, N) ∧ (∀ w ∈ u_ws C T N, w ∈ lwA) ∧ q.2.2.2 < N ∧ Cond.fieldLinkNest o q.2.1 ref (T q.2.2.2).2.1 (T q.2.2.2).2.2.1 host ∈ lwA ∧ ref = (T q.2.2.2).1
def sGn (g : rG) (a : Int) : rF → Option rF := fun ⟨lv, st, pc, aw, kc, ks⟩ =>
  match fnT[a.toNat]?, st with
  | some (o, _, ci, k), .inl (.ref r) :: st => (match aw[r]? with
    | some (.inr (cj, fs)) => if Nat.beq o g.2.2.2.2.1 && Nat.beq cj ci then (match fs[k]? with
      | some v => some (lv, v :: st, pc + 3, aw, kc, ks)
      | none => none) else none
    | _ => none)
  | _, _ => none
def dkN (a : Int) : List (Nat × Instr × Nat) := match fnT[a.toNat]? with
  | some q => [(0, .getfield q.2.1, 3)]
  | none => []
theorem ok_getN (hT : ∀ q ∈ fnT, rFldN q) : rOk dkN sGn := by
  intro p l e R s m args below meth c D A σ Q g cc own E b xs a fr fr' X hd h hc hs ρ κ hE hb k H locs ls hI hl
  obtain ⟨lv, st, pc, aw, kc, ks⟩ := fr
  obtain ⟨hx, hbc, hml, hown, hlk, hK, hA, hW, ⟨hR1, hR2⟩, hSt, hSc, hO, hcl, hin⟩ := X
  simp only [sGn] at h
  split at h
  · rename_i o i ci kk r st' hq
    split at h
    · rename_i cj fs hr
      split at h
      · rename_i ho
        simp only [Bool.and_eq_true] at ho
        split at h
        · rename_i v hv
          cases h
          cases Nat.eq_of_beq_eq_true ho.2
          obtain ⟨o2, ref, C, host, T, N, f1, f2, f3, f4, f5, f6⟩ := hT _ (List.mem_of_getElem? hq)
          cases own_eq hcl f1 ho.1
          have d : decode cc pc = .ok (.getfield i, 3) := hd (0, .getfield i, 3) (by simp only [dkN, hq]; exact List.mem_cons_self)
          exact va_getN (D := D) hx hbc hW f3 hown hK hI.2.1 r (cW_at hr) f2 kk f4 (hW _ f5) (by rw [f6]; exact fun _ z => z) (by rw [List.getElem?_map, hv]; rfl) d (k ρ κ rExt.rf H locs ls hI hl)
        · cases h
      · cases h
    · cases h
  · cases h
def sPf (fin : Bool) (g : rG) (a : Int) : rF → Option rF := fun ⟨lv, st, pc, aw, kc, ks⟩ =>
  match fT[a.toNat]?, st with
  | some (o, _, ci, k, tc, fi), v :: .inl (.ref r) :: st => (match aw[r]? with
    | some (.inr (cj, fs)) => if (Nat.beq o g.2.2.2.2.1 && Nat.beq cj ci) && ((okF tc v && Nat.blt k fs.length) && (decide (fi = fin) && (!fin || g.2.2.2.2.2))) then some (lv, st, pc + 3, aw.set r (.inr (ci, fs.set k v)), kc, ks) else none
    | _ => none)
  | _, _ => none
theorem setP {ρ : Nat → Nat} {κ : Nat → ClassId} {σ : Nat → Int32} {aw : List rC} {r ci k : Nat} {fs : List rV} {v : rV} : (cW ρ κ σ 0 aw).set r (ρ r, .inr (ci, (fs.map (cV ρ σ)).set k (cV ρ σ v))) = cW ρ κ σ 0 (aw.set r (.inr (ci, fs.set k v))) := by
  rw [← cW_put]
  simp only [cC, List.map_set]
theorem ok_putf (hT : ∀ q ∈ fT, rFld q) : rOk (dkF .putfield) (sPf false) := by
  intro p l e R s m args below meth c D A σ Q g cc own E b xs a fr fr' X hd h hc hs ρ κ hE hb k H locs ls hI hl
  obtain ⟨lv, st, pc, aw, kc, ks⟩ := fr
  obtain ⟨hx, hbc, hml, hown, hlk, hK, hA, hW, ⟨hR1, hR2⟩, hSt, hSc, hO, hcl, hin⟩ := X
  simp only [sPf] at h
  split at h
  · rename_i o i ci kk tc fi v r st' hq
    split at h
    · rename_i cj fs hr
      split at h
      · rename_i ho
        cases h
        simp only [Bool.and_eq_true, decide_eq_true_eq] at ho
        obtain ⟨⟨ho, hci⟩, ⟨hv, hk⟩, rfl, -⟩ := ho
        cases Nat.eq_of_beq_eq_true hci
        obtain ⟨o2, ref, C, T, N, ty0, f1, f2, f3, f4, f5, f6, f7, f8, f9, f10, f11⟩ := hT _ (List.mem_of_getElem? hq)
        cases own_eq hcl f1 ho
        have d : decode cc pc = .ok (.putfield i, 3) := hd (0, .putfield i, 3) (by simp only [dkF, hq]; exact List.mem_cons_self)
        obtain ⟨hn, hf⟩ := okF_ok (ρ := ρ) (σ := σ) f9 hv
        refine va_put (D := D) hx hbc hW f3 ty0 f7 f8 hown hK hI.2.1 hI.2.2.1 hI.2.2.2 r (cW_at hr) f2 kk f4 (hW _ f5) (hsameF hW f6) f10 (f7 _ f4) hn hf (by rw [List.length_map]; simpa using hk) d (fun H1 locs1 hP hD hS => ?_)
        rw [setP] at hP hD
        exact k ρ κ rExt.rf H1 locs1 ls ⟨hKsetO hI.1, hP, hD, hS⟩ hl
      · cases h
    · cases h
  · cases h
theorem ok_putF (hT : ∀ q ∈ fT, rFld q) : rOk (dkF .putfield) (sPf true) := by
  intro p l e R s m args below meth c D A σ Q g cc own E b xs a fr fr' X hd h hc hs ρ κ hE hb k H locs ls hI hl
  obtain ⟨lv, st, pc, aw, kc, ks⟩ := fr
  obtain ⟨hx, hbc, hml, hown, hlk, hK, hA, hW, ⟨hR1, hR2⟩, hSt, hSc, hO, hcl, hin⟩ := X
  simp only [sPf] at h
  split at h
  · rename_i o i ci kk tc fi v r st' hq
    split at h
    · rename_i cj fs hr
      split at h
      · rename_i ho
        cases h
        simp only [Bool.and_eq_true, decide_eq_true_eq, Bool.not_true, Bool.false_or] at ho
        obtain ⟨⟨ho, hci⟩, ⟨hv, hk⟩, rfl, hi2⟩ := ho
        cases Nat.eq_of_beq_eq_true hci
        obtain ⟨o2, ref, C, T, N, ty0, f1, f2, f3, f4, f5, f6, f7, f8, f9, f10, f11⟩ := hT _ (List.mem_of_getElem? hq)
        cases own_eq hcl f1 ho
        have d : decode cc pc = .ok (.putfield i, 3) := hd (0, .putfield i, 3) (by simp only [dkF, hq]; exact List.mem_cons_self)
        obtain ⟨hn, hf⟩ := okF_ok (ρ := ρ) (σ := σ) f9 hv
        refine va_putF (D := D) hx hbc hW f3 ty0 f7 f8 hown hK hI.2.1 hI.2.2.1 hI.2.2.2 r (cW_at hr) f2 kk f4 (hW _ f5) (hsameF hW f6) f10 (hin hi2) ((f11 rfl).resolve_left (fun z => by cases z; cases hv)) (f7 _ f4) hn hf (by rw [List.length_map]; simpa using hk) d (fun H1 locs1 hP hD hS => ?_)
        rw [setP] at hP hD
        exact k ρ κ rExt.rf H1 locs1 ls ⟨hKsetO hI.1, hP, hD, hS⟩ hl
      · cases h
    · cases h
  · cases h
/-! new cells -/
def wfF (lv : rL) (st : List rV) (aw : List rC) : Bool := wfL aw.length lv && (st.all (wfV aw.length) && (aw.all (wfC aw.length) && Nat.blt aw.length 900))
def upA {α : Type} (f : Nat → α) (k : Nat) (v : α) : Nat → α := fun j => if j = k then v else f j
theorem upA_eq {α : Type} {f : Nat → α} {k : Nat} {v : α} : upA f k v k = v := if_pos rfl
theorem ext_up {n : Nat} {ρ : Nat → Nat} {κ : Nat → ClassId} {q : Nat} {z : ClassId} (hn : n < 900) : rExt n ρ κ (upA ρ n q) (upA κ n z) :=
  ⟨fun i hi => if_neg (by omega), fun i hi => if_neg (by omega)⟩
theorem hKpushA {D : va_G} {s : State} {κ : Nat → ClassId} {aw : List rC} {t : Nat} {es0 : List rV} {z : ClassId} (h : ∀ i t es, aw[i]? = some (.inl (t, es)) → va_K D vwC9 [(κ i, rTy t)] s) (hz : va_K D vwC9 [(z, rTy t)] s) : ∀ i t1 es, (aw ++ [.inl (t, es0)])[i]? = some (.inl (t1, es)) → va_K D vwC9 [(upA κ aw.length z i, rTy t1)] s := by
  intro i t1 es hi
  rw [List.getElem?_append] at hi
  split at hi
  · rename_i hlt
    rw [show upA κ aw.length z i = κ i from if_neg (by omega)]
    exact h _ _ _ hi
  · rename_i hge
    by_cases e : i - aw.length = 0
    · rw [e] at hi
      cases hi
      rw [show upA κ aw.length z i = z from if_pos (by omega)]
      exact hz
    · rw [List.getElem?_eq_none (by simp; omega)] at hi
      cases hi
theorem hKpushO {D : va_G} {s : State} {κ : Nat → ClassId} {aw : List rC} {y : Nat × List rV} {z : ClassId} (h : ∀ i t es, aw[i]? = some (.inl (t, es)) → va_K D vwC9 [(κ i, rTy t)] s) : ∀ i t1 es, (aw ++ [.inr y])[i]? = some (.inl (t1, es)) → va_K D vwC9 [(upA κ aw.length z i, rTy t1)] s := by
  intro i t1 es hi
  rw [List.getElem?_append] at hi
  split at hi
  · rename_i hlt
    rw [show upA κ aw.length z i = κ i from if_neg (by omega)]
    exact h _ _ _ hi
  · by_cases e : i - aw.length = 0
    · rw [e] at hi
      cases hi
    · rw [List.getElem?_eq_none (by simp; omega)] at hi
      cases hi
/-- a new cell comes to the picture -/
theorem new_in {D : va_G} {A : Nat → Prop} {σ : Nat → Int32} {s : State} {ρ : Nat → Nat} {κ : Nat → ClassId} {lv : rL} {st : List rV} {aw : List rC} {H1 : Heap} {locs : List Loc} {q : Nat} {z : ClassId} {y : rC} {v : va_E} (hw : wfF lv st aw = true) (hv : v = cC (upA ρ aw.length q) (upA κ aw.length z) σ aw.length y)
    (hP : va_P D vwC9 (cW ρ κ σ 0 aw ++ [(q, v)]) H1) (hD : va_D A (cW ρ κ σ 0 aw ++ [(q, v)])) (hS : va_S A s.heap H1 locs) (hKy : ∀ i t1 es, (aw ++ [y])[i]? = some (.inl (t1, es)) → va_K D vwC9 [(upA κ aw.length z i, rTy t1)] s) :
    rExt aw.length ρ κ (upA ρ aw.length q) (upA κ aw.length z) ∧ rIv D A σ s (upA ρ aw.length q) (upA κ aw.length z) (aw ++ [y]) H1 locs ∧ cL (upA ρ aw.length q) σ lv = cL ρ σ lv ∧ st.map (cV (upA ρ aw.length q) σ) = st.map (cV ρ σ) ∧ upA ρ aw.length q aw.length = q := by
  simp only [wfF, Bool.and_eq_true] at hw
  obtain ⟨w1, w2, w3, w4⟩ := hw
  have hx : rExt aw.length ρ κ (upA ρ aw.length q) (upA κ aw.length z) := ext_up (by simpa using w4)
  have e : cW ρ κ σ 0 aw ++ [(q, v)] = cW (upA ρ aw.length q) (upA κ aw.length z) σ 0 (aw ++ [y]) := by
    rw [← cW_push, cW_ext hx aw 0 (by omega) w3, hv, upA_eq]
  rw [e] at hP hD
  exact ⟨hx, ⟨hKy, hP, hD, hS⟩, cL_ext hx w1, cVs_ext hx w2, upA_eq⟩
def rNew (q : Nat × Nat × Nat × Nat × List rV) : Prop := ∃ (o C : String) (T : u_T) (ty : Nat → FieldType), clsN[q.1]? = some o ∧ vwC9[q.2.2.1]? = some (C, T, q.2.2.2.1) ∧ (∀ w ∈ u_ws C T q.2.2.2.1, w ∈ lwA) ∧ (∀ k, k < q.2.2.2.1 → parseFieldDescriptor (T k).2.2.1 = some (ty k)) ∧ Cond.classLink o q.2.1 C ∈ lwA ∧ Cond.instantiable C q.2.2.2.1 ∈ lwA ∧ Cond.initialized C ∈ lwA ∧ ∀ (ρ : Nat → Nat) (σ : Nat → Int32) (j : Nat), j < q.2.2.2.1 → defaultValue (ty j) = vp_V (q.2.2.2.2.map (cV ρ σ)) j
def sNew (g : rG) (a : Int) : rF → Option rF := fun ⟨lv, st, pc, aw, kc, ks⟩ =>
  match newT[a.toNat]? with
  | some (o, _, ci, N, fs) => if Nat.beq o g.2.2.2.2.1 && wfF lv st aw then some (lv, .inl (.ref aw.length) :: st, pc + 3, aw ++ [.inr (ci, fs)], kc + 1, ks + N) else none
  | none => none
def dkNew (a : Int) : List (Nat × Instr × Nat) := match newT[a.toNat]? with
  | some q => [(0, .new q.2.1, 3)]
  | none => []
theorem ok_new (hT : ∀ q ∈ newT, rNew q) (hfs : ∀ q ∈ newT, q.2.2.2.2.all (fun v => decide (v = .inl .null) || decide (v = .inl (.int 0))) = true) : rOk dkNew sNew := by
  intro p l e R s m args below meth c D A σ Q g cc own E b xs a fr fr' X hd h hc hs ρ κ hE hb k H locs ls hI hl
  obtain ⟨lv, st, pc, aw, kc, ks⟩ := fr
  obtain ⟨hx, hbc, hml, hown, hlk, hK, hA, hW, ⟨hR1, hR2⟩, hSt, hSc, hO, hcl, hin⟩ := X
  simp only [sNew] at h
  split at h
  · rename_i o i ci N fs hq
    split at h
    · rename_i ho
      cases h
      simp only [Bool.and_eq_true] at ho
      obtain ⟨o2, C, T, ty, f1, f2, f3, f4, f5, f6, f7, f8⟩ := hT _ (List.mem_of_getElem? hq)
      have hfs1 := hfs _ (List.mem_of_getElem? hq)
      cases own_eq hcl f1 ho.1
      have d : decode cc pc = .ok (.new i, 3) := hd (0, .new i, 3) (by simp only [dkNew, hq]; exact List.mem_cons_self)
      refine va_new (D := D) (fs := fs.map (cV ρ σ)) hx hbc hW f3 ty f4 hown (hW _ f5) (hW _ f6) (hW _ f7) hK hI.2.1 hI.2.2.1 hI.2.2.2 hA f2 (f8 ρ σ) hc hs d (fun q H1 hP hD hS => ?_)
      have e : fs.map (cV ρ σ) = fs.map (cV (upA ρ aw.length q) σ) := by
        apply List.map_congr_left
        intro v hv
        have := List.all_eq_true.mp hfs1 v hv
        simp only [Bool.or_eq_true, decide_eq_true_eq] at this
        rcases this with rfl | rfl <;> rfl
      obtain ⟨x1, x2, x3, x4, x5⟩ := new_in (z := κ 0) (y := .inr (ci, fs)) (v := .inr (ci, fs.map (cV ρ σ))) ho.2 (by simp only [cC]; rw [e]) hP hD hS (hKpushO hI.1)
      have kk := k _ _ x1 H1 locs ls x2 (by simp only [x3]; exact hl)
      simp only [List.map_cons] at kk
      rw [x4] at kk
      rw [show cV (upA ρ aw.length q) σ (.inl (.ref aw.length)) = .ref q from congrArg Value.ref x5] at kk
      exact kk
    · cases h
  · cases h
theorem repD {n j : Nat} {z : rV} : (List.replicate n z).getD j z = z := by
  rw [List.getD_eq_getElem?_getD, List.getElem?_replicate]
  split <;> rfl
theorem repD1 {n j : Nat} : (List.replicate n (rZ 1)).getD j (rZ 0) = rZ 0 := repD
def sNa (t : Nat) (g : rG) (a : Int) : rF → Option rF := fun ⟨lv, st, pc, aw, kc, ks⟩ =>
  match st with
  | .inl (.int n) :: st => if (!decide (n < 0) && Nat.ble n.toNatClampNeg 1000) && wfF lv st aw then some (lv, .inl (.ref aw.length) :: st, pc + 2, aw ++ [.inl (t, List.replicate n.toNatClampNeg (rZ t))], kc + 1, ks + n.toNatClampNeg) else none
  | _ => none
theorem ok_newI (hT : Cond.arrayClass .int ∈ lwA) : rOk (fun _ => [(0, .newarray .int, 2)]) (sNa 0) := by
  intro p l e R s m args below meth c D A σ Q g cc own E b xs a fr fr' X hd h hc hs ρ κ hE hb k H locs ls hI hl
  obtain ⟨lv, st, pc, aw, kc, ks⟩ := fr
  obtain ⟨hx, hbc, hml, hown, hlk, hK, hA, hW, ⟨hR1, hR2⟩, hSt, hSc, hO, hcl, hin⟩ := X
  simp only [sNa] at h
  split at h
  · rename_i n st'
    split at h
    · rename_i hn
      cases h
      simp only [Bool.and_eq_true, Bool.not_eq_true', decide_eq_false_iff_not] at hn
      obtain ⟨⟨h0, h1⟩, hw⟩ := hn
      have h1 : n.toNatClampNeg ≤ 1000 := Nat.le_of_ble_eq_true h1
      have d := hd _ List.mem_cons_self
      refine va_newa (D := D) (tys := []) (atype := .int) (ty := .int) (N' := n.toNatClampNeg) (a0 := cA ρ σ 0 (List.replicate n.toNatClampNeg (rZ 0))) hx hbc (hW _ hT) rfl hK hI.2.1 hI.2.2.1 hI.2.2.2 hA (fun cA9 => ?_) h0 rfl (Nat.le_trans (Nat.mul_le_mul_right _ h1) (Nat.le_of_ble_eq_true rfl)) hc hs d (fun q z H1 hK1 hP hD hS => ?_)
      · simp only [cA, repD, List.length_replicate]
        rfl
      · have e : ∀ ρ1 : Nat → Nat, cA ρ1 σ 0 (List.replicate n.toNatClampNeg (rZ 0)) = cA ρ σ 0 (List.replicate n.toNatClampNeg (rZ 0)) := fun ρ1 => by simp only [cA, repD]; rfl
        obtain ⟨x1, x2, x3, x4, x5⟩ := new_in (z := z) (y := .inl (0, List.replicate n.toNatClampNeg (rZ 0))) hw (by simp only [cC]; rw [upA_eq, e (upA ρ aw.length q)]) hP hD hS (hKpushA hI.1 hK1)
        have kk := k _ _ x1 H1 locs ls x2 (by simp only [x3]; exact hl)
        simp only [List.map_cons] at kk
        rw [x4] at kk
        rw [show cV (upA ρ aw.length q) σ (.inl (.ref aw.length)) = .ref q from congrArg Value.ref x5] at kk
        exact kk
    · cases h
  · cases h
theorem ok_newZ (hT : Cond.arrayClass .boolean ∈ lwA) : rOk (fun _ => [(0, .newarray .boolean, 2)]) (sNa 1) := by
  intro p l e R s m args below meth c D A σ Q g cc own E b xs a fr fr' X hd h hc hs ρ κ hE hb k H locs ls hI hl
  obtain ⟨lv, st, pc, aw, kc, ks⟩ := fr
  obtain ⟨hx, hbc, hml, hown, hlk, hK, hA, hW, ⟨hR1, hR2⟩, hSt, hSc, hO, hcl, hin⟩ := X
  simp only [sNa] at h
  split at h
  · rename_i n st'
    split at h
    · rename_i hn
      cases h
      simp only [Bool.and_eq_true, Bool.not_eq_true', decide_eq_false_iff_not] at hn
      obtain ⟨⟨h0, h1⟩, hw⟩ := hn
      have h1 : n.toNatClampNeg ≤ 1000 := Nat.le_of_ble_eq_true h1
      have d := hd _ List.mem_cons_self
      refine va_newa (D := D) (tys := []) (atype := .boolean) (ty := .boolean) (N' := n.toNatClampNeg) (a0 := cA ρ σ 1 (List.replicate n.toNatClampNeg (rZ 1))) hx hbc (hW _ hT) rfl hK hI.2.1 hI.2.2.1 hI.2.2.2 hA (fun cA9 => ?_) h0 rfl (Nat.le_trans (Nat.mul_le_mul_right _ h1) (Nat.le_of_ble_eq_true rfl)) hc hs d (fun q z H1 hK1 hP hD hS => ?_)
      · simp only [cA, repD1, List.length_replicate]
        rfl
      · have e : ∀ ρ1 : Nat → Nat, cA ρ1 σ 1 (List.replicate n.toNatClampNeg (rZ 1)) = cA ρ σ 1 (List.replicate n.toNatClampNeg (rZ 1)) := fun ρ1 => by simp only [cA, repD1]; rfl
        obtain ⟨x1, x2, x3, x4, x5⟩ := new_in (z := z) (y := .inl (1, List.replicate n.toNatClampNeg (rZ 1))) hw (by simp only [cC]; rw [upA_eq, e (upA ρ aw.length q)]) hP hD hS (hKpushA hI.1 hK1)
        have kk := k _ _ x1 H1 locs ls x2 (by simp only [x3]; exact hl)
        simp only [List.map_cons] at kk
        rw [x4] at kk
        rw [show cV (upA ρ aw.length q) σ (.inl (.ref aw.length)) = .ref q from congrArg Value.ref x5] at kk
        exact kk
    · cases h
  · cases h
theorem ok_newJ (hT : Cond.arrayClass .long ∈ lwA) : rOk (fun _ => [(0, .newarray .long, 2)]) (sNa 2) := by
  intro p l e R s m args below meth c D A σ Q g cc own E b xs a fr fr' X hd h hc hs ρ κ hE hb k H locs ls hI hl
  obtain ⟨lv, st, pc, aw, kc, ks⟩ := fr
  obtain ⟨hx, hbc, hml, hown, hlk, hK, hA, hW, ⟨hR1, hR2⟩, hSt, hSc, hO, hcl, hin⟩ := X
  simp only [sNa] at h
  split at h
  · rename_i n st'
    split at h
    · rename_i hn
      cases h
      simp only [Bool.and_eq_true, Bool.not_eq_true', decide_eq_false_iff_not] at hn
      obtain ⟨⟨h0, h1⟩, hw⟩ := hn
      have h1 : n.toNatClampNeg ≤ 1000 := Nat.le_of_ble_eq_true h1
      have d := hd _ List.mem_cons_self
      refine va_newa (D := D) (tys := []) (atype := .long) (ty := .long) (N' := n.toNatClampNeg) (a0 := cA ρ σ 2 (List.replicate n.toNatClampNeg (rZ 2))) hx hbc (hW _ hT) rfl hK hI.2.1 hI.2.2.1 hI.2.2.2 hA (fun cA9 => ?_) h0 rfl (Nat.le_trans (Nat.mul_le_mul_right _ h1) (Nat.le_of_ble_eq_true rfl)) hc hs d (fun q z H1 hK1 hP hD hS => ?_)
      · simp only [cA, repD, List.length_replicate]
        rfl
      · have e : ∀ ρ1 : Nat → Nat, cA ρ1 σ 2 (List.replicate n.toNatClampNeg (rZ 2)) = cA ρ σ 2 (List.replicate n.toNatClampNeg (rZ 2)) := fun ρ1 => by simp only [cA, repD]; rfl
        obtain ⟨x1, x2, x3, x4, x5⟩ := new_in (z := z) (y := .inl (2, List.replicate n.toNatClampNeg (rZ 2))) hw (by simp only [cC]; rw [upA_eq, e (upA ρ aw.length q)]) hP hD hS (hKpushA hI.1 hK1)
        have kk := k _ _ x1 H1 locs ls x2 (by simp only [x3]; exact hl)
        simp only [List.map_cons] at kk
        rw [x4] at kk
        rw [show cV (upA ρ aw.length q) σ (.inl (.ref aw.length)) = .ref q from congrArg Value.ref x5] at kk
        exact kk
    · cases h
  · cases h
theorem ok_newD (hT : Cond.arrayClass .double ∈ lwA) : rOk (fun _ => [(0, .newarray .double, 2)]) (sNa 3) := by
  intro p l e R s m args below meth c D A σ Q g cc own E b xs a fr fr' X hd h hc hs ρ κ hE hb k H locs ls hI hl
  obtain ⟨lv, st, pc, aw, kc, ks⟩ := fr
  obtain ⟨hx, hbc, hml, hown, hlk, hK, hA, hW, ⟨hR1, hR2⟩, hSt, hSc, hO, hcl, hin⟩ := X
  simp only [sNa] at h
  split at h
  · rename_i n st'
    split at h
    · rename_i hn
      cases h
      simp only [Bool.and_eq_true, Bool.not_eq_true', decide_eq_false_iff_not] at hn
      obtain ⟨⟨h0, h1⟩, hw⟩ := hn
      have h1 : n.toNatClampNeg ≤ 1000 := Nat.le_of_ble_eq_true h1
      have d := hd _ List.mem_cons_self
      refine va_newa (D := D) (tys := []) (atype := .double) (ty := .double) (N' := n.toNatClampNeg) (a0 := cA ρ σ 3 (List.replicate n.toNatClampNeg (rZ 3))) hx hbc (hW _ hT) rfl hK hI.2.1 hI.2.2.1 hI.2.2.2 hA (fun cA9 => ?_) h0 rfl (Nat.le_trans (Nat.mul_le_mul_right _ h1) (Nat.le_of_ble_eq_true rfl)) hc hs d (fun q z H1 hK1 hP hD hS => ?_)
      · simp only [cA, repD, List.length_replicate]
        rfl
      · have e : ∀ ρ1 : Nat → Nat, cA ρ1 σ 3 (List.replicate n.toNatClampNeg (rZ 3)) = cA ρ σ 3 (List.replicate n.toNatClampNeg (rZ 3)) := fun ρ1 => by simp only [cA, repD]; rfl
        obtain ⟨x1, x2, x3, x4, x5⟩ := new_in (z := z) (y := .inl (3, List.replicate n.toNatClampNeg (rZ 3))) hw (by simp only [cC]; rw [upA_eq, e (upA ρ aw.length q)]) hP hD hS (hKpushA hI.1 hK1)
        have kk := k _ _ x1 H1 locs ls x2 (by simp only [x3]; exact hl)
        simp only [List.map_cons] at kk
        rw [x4] at kk
        rw [show cV (upA ρ aw.length q) σ (.inl (.ref aw.length)) = .ref q from congrArg Value.ref x5] at kk
        exact kk
    · cases h
  · cases h
def rAn (q : Nat × Nat) : Prop := ∃ o : String, clsN[q.1]? = some o ∧ Cond.classLink o q.2 "java/lang/Object" ∈ lwA ∧ Cond.arrayOver (.object "java/lang/Object") ∈ lwA
def sAn (g : rG) (a : Int) : rF → Option rF := fun ⟨lv, st, pc, aw, kc, ks⟩ =>
  match anT[a.toNat]?, st with
  | some (o, _), .inl (.int n) :: st => if Nat.beq o g.2.2.2.2.1 && ((!decide (n < 0) && Nat.ble n.toNatClampNeg 1000) && wfF lv st aw) then some (lv, .inl (.ref aw.length) :: st, pc + 3, aw ++ [.inl (4, List.replicate n.toNatClampNeg (rZ 4))], kc + 1, ks + n.toNatClampNeg) else none
  | _, _ => none
def dkAn (a : Int) : List (Nat × Instr × Nat) := match anT[a.toNat]? with
  | some q => [(0, .anewarray q.2, 3)]
  | none => []
theorem ok_anew (hT : ∀ q ∈ anT, rAn q) : rOk dkAn sAn := by
  intro p l e R s m args below meth c D A σ Q g cc own E b xs a fr fr' X hd h hc hs ρ κ hE hb k H locs ls hI hl
  obtain ⟨lv, st, pc, aw, kc, ks⟩ := fr
  obtain ⟨hx, hbc, hml, hown, hlk, hK, hA, hW, ⟨hR1, hR2⟩, hSt, hSc, hO, hcl, hin⟩ := X
  simp only [sAn] at h
  split at h
  · rename_i o i n st' hq
    split at h
    · rename_i hn
      cases h
      simp only [Bool.and_eq_true, Bool.not_eq_true', decide_eq_false_iff_not] at hn
      obtain ⟨ho, ⟨h0, h1⟩, hw⟩ := hn
      have h1 : n.toNatClampNeg ≤ 1000 := Nat.le_of_ble_eq_true h1
      obtain ⟨o2, f1, f2, f3⟩ := hT _ (List.mem_of_getElem? hq)
      cases own_eq hcl f1 ho
      have d : decode cc pc = .ok (.anewarray i, 3) := hd (0, .anewarray i, 3) (by simp only [dkAn, hq]; exact List.mem_cons_self)
      refine va_newq (D := D) (tys := []) (N' := n.toNatClampNeg) hx hbc hown (hW _ f2) (hW _ f3) hK hI.2.1 hI.2.2.1 hI.2.2.2 hA h0 rfl (Nat.le_trans (Nat.mul_le_mul_right _ h1) (Nat.le_of_ble_eq_true rfl)) hc hs d (fun q z H1 hK1 hP hD hS => ?_)
      have e : ∀ ρ1 : Nat → Nat, ((n.toNatClampNeg, .inr (.inr (.inr (.inr (fun _ => none))))) : vp_A) = cA ρ1 σ 4 (List.replicate n.toNatClampNeg (rZ 4)) := fun ρ1 => by simp only [cA, repD, List.length_replicate]; rfl
      obtain ⟨x1, x2, x3, x4, x5⟩ := new_in (z := z) (y := .inl (4, List.replicate n.toNatClampNeg (rZ 4))) hw (by simp only [cC]; rw [upA_eq, ← e (upA ρ aw.length q)]) hP hD hS (hKpushA hI.1 hK1)
      have kk := k _ _ x1 H1 locs ls x2 (by simp only [x3]; exact hl)
      simp only [List.map_cons] at kk
      rw [x4] at kk
      rw [show cV (upA ρ aw.length q) σ (.inl (.ref aw.length)) = .ref q from congrArg Value.ref x5] at kk
      exact kk
    · cases h
  · cases h
/-! arrays of refs, lengths -/
def sAas (g : rG) (a : Int) : rF → Option rF := fun ⟨lv, st, pc, aw, kc, ks⟩ =>
  match st with
  | .inl (.ref v) :: .inl (.int i) :: .inl (.ref r) :: st => (match aw[r]?, aw[v]? with
    | some (.inl (4, es)), some (.inr (ci, _)) => if (!decide (i < 0) && Nat.blt i.toNatClampNeg es.length) && caT.contains ci then some (lv, st, pc + 1, aw.set r (.inl (4, es.set i.toNatClampNeg (.inl (.ref v)))), kc, ks) else none
    | _, _ => none)
  | _ => none
def rCa (ci : Nat) : Prop := ∃ q : vw_C, vwC9[ci]? = some q ∧ Cond.castable q.1 "java/lang/Object" ∈ lwA
theorem ok_aastore (hT : ∀ ci ∈ caT, rCa ci) : rOk (fun _ => [(0, .aastore, 1)]) sAas := by
  intro p l e R s m args below meth c D A σ Q g cc own E b xs a fr fr' X hd h hc hs ρ κ hE hb k H locs ls hI hl
  obtain ⟨lv, st, pc, aw, kc, ks⟩ := fr
  obtain ⟨hx, hbc, hml, hown, hlk, hK, hA, hW, ⟨hR1, hR2⟩, hSt, hSc, hO, hcl, hin⟩ := X
  simp only [sAas] at h
  split at h
  · rename_i v i r st'
    split at h
    · rename_i es ci fs hr hv
      split at h
      · rename_i hi
        cases h
        simp only [Bool.and_eq_true, Bool.not_eq_true', decide_eq_false_iff_not] at hi
        obtain ⟨⟨h0, hn⟩, hca⟩ := hi
        have hn : i.toNatClampNeg < es.length := by simpa using hn
        obtain ⟨q9, f1, f2⟩ := hT ci (by simpa using hca)
        have d := hd _ List.mem_cons_self
        refine va_astqO (D := D) hx hbc (hI.1 r 4 es hr) hI.2.1 hI.2.2.1 hI.2.2.2 r 0 v ci (cW_at hr) rfl (va_Nw.of rfl (hW _ f2)) (cW_at hv) f1 (fun z => z.elim h0 (fun z => absurd hn (Nat.not_lt.mpr z))) d (fun H1 locs1 hP hD hS => ?_)
        have e : ((ρ r, .inl (κ r, es.length, .inr (.inr (.inr (.inr (va_up (fun j => uR (cV ρ σ (es.getD j (rZ 4)))) i.toNatClampNeg (some (ρ v)))))))) : Nat × va_E) = (ρ r, cC ρ κ σ r (.inl (4, es.set i.toNatClampNeg (.inl (.ref v))))) := by
          have e2 : va_up (fun j => uR (cV ρ σ (es.getD j (rZ 4)))) i.toNatClampNeg (some (ρ v)) = fun j => uR (cV ρ σ ((es.set i.toNatClampNeg (.inl (.ref v))).getD j (rZ 4))) := by
            funext j
            rw [setD hn]
            unfold va_up
            by_cases hj : j = i.toNatClampNeg
            · rw [if_pos hj, if_pos hj]
              rfl
            · rw [if_neg hj, if_neg hj]
          rw [e2]
          simp only [cC, cA, List.length_set]
        rw [e, cW_put] at hP hD
        exact k ρ κ rExt.rf H1 locs1 ls ⟨hKset hr hI.1, hP, hD, hS⟩ hl
      · cases h
    · cases h
  · cases h
def sLen (g : rG) (a : Int) : rF → Option rF := fun ⟨lv, st, pc, aw, kc, ks⟩ =>
  match st with
  | .inl (.ref r) :: st => (match aw[r]? with
    | some (.inl (_, es)) => some (lv, .inl (.int (Int32.ofNat es.length)) :: st, pc + 1, aw, kc, ks)
    | _ => none)
  | _ => none
theorem ok_alen : rOk (fun _ => [(0, .arraylength, 1)]) sLen := by
  intro p l e R s m args below meth c D A σ Q g cc own E b xs a fr fr' X hd h hc hs ρ κ hE hb k H locs ls hI hl
  obtain ⟨lv, st, pc, aw, kc, ks⟩ := fr
  obtain ⟨hx, hbc, hml, hown, hlk, hK, hA, hW, ⟨hR1, hR2⟩, hSt, hSc, hO, hcl, hin⟩ := X
  simp only [sLen] at h
  split at h
  · rename_i r st'
    split at h
    · rename_i t es hr
      cases h
      have d := hd _ List.mem_cons_self
      exact va_alen (D := D) hx hbc (hI.1 r t es hr) hI.2.1 r 0 (cW_at hr) rfl rfl d (k ρ κ rExt.rf H locs ls hI hl)
    · cases h
  · cases h
def sLenS (g : rG) (a : Int) : rF → Option rF := fun ⟨lv, st, pc, aw, kc, ks⟩ =>
  match st with
  | .inl (.ref 1000) :: st => some (lv, .inl (.int 0) :: st, pc + 1, aw, kc, ks)
  | _ => none
theorem ok_alenS : rOk (fun _ => [(0, .arraylength, 1)]) sLenS := by
  intro p l e R s m args below meth c D A σ Q g cc own E b xs a fr fr' X hd h hc hs ρ κ hE hb k H locs ls hI hl
  obtain ⟨lv, st, pc, aw, kc, ks⟩ := fr
  obtain ⟨hx, hbc, hml, hown, hlk, hK, hA, hW, ⟨hR1, hR2⟩, hSt, hSc, hO, hcl, hin⟩ := X
  simp only [sLenS] at h
  split at h
  · rename_i st'
    cases h
    simp only [List.map_cons]
    rw [show cV ρ σ (.inl (.ref 1000)) = .ref E from congrArg Value.ref hE]
    have d := hd _ List.mem_cons_self
    exact va_tlen hx hbc hSt.2.1 hI.2.2.2 (v := 0) rfl d (k ρ κ rExt.rf H locs ls hI hl)
  · cases h
def sLenX (g : rG) (a : Int) : rF → Option rF := fun ⟨lv, st, pc, aw, kc, ks⟩ =>
  match st with
  | .inl (.ref 1001) :: st => if g.2.2.1 then some (lv, .inl (.int (Int32.ofNat g.2.1)) :: st, pc + 1, aw, kc, ks) else none
  | _ => none
theorem ok_alenX : rOk (fun _ => [(0, .arraylength, 1)]) sLenX := by
  intro p l e R s m args below meth c D A σ Q g cc own E b xs a fr fr' X hd h hc hs ρ κ hE hb k H locs ls hI hl
  obtain ⟨lv, st, pc, aw, kc, ks⟩ := fr
  obtain ⟨hx, hbc, hml, hown, hlk, hK, hA, hW, ⟨hR1, hR2⟩, hSt, hSc, hO, hcl, hin⟩ := X
  simp only [sLenX] at h
  split at h
  · rename_i st'
    split at h
    · rename_i hf
      cases h
      obtain ⟨hX, hbl, hbA, hxs⟩ := hSc hf
      simp only [List.map_cons]
      rw [show cV ρ σ (.inl (.ref 1001)) = .ref b from congrArg Value.ref hb]
      have d := hd _ List.mem_cons_self
      exact va_slen hx hbc hX hbl hbA hI.2.2.2 d (k ρ κ rExt.rf H locs ls hI hl)
    · cases h
  · cases h
/-! the rest: the shared empty array, Object's constructor, Math.max, arraycopy, long constants -/
def rGs (q : Nat × Nat) : Prop := ∃ o : String, clsN[q.1]? = some o ∧ Cond.fieldLink o q.2 "java/util/ArrayList" "DEFAULTCAPACITY_EMPTY_ELEMENTDATA" "[Ljava/lang/Object;" ∈ lwA
def sGs (g : rG) (a : Int) : rF → Option rF := fun ⟨lv, st, pc, aw, kc, ks⟩ =>
  match gsT[a.toNat]? with
  | some (o, _) => if Nat.beq o g.2.2.2.2.1 then some (lv, .inl (.ref 1000) :: st, pc + 3, aw, kc, ks) else none
  | none => none
def dkGs (a : Int) : List (Nat × Instr × Nat) := match gsT[a.toNat]? with
  | some q => [(0, .getstatic q.2, 3)]
  | none => []
theorem ok_gets (hT : ∀ q ∈ gsT, rGs q) : rOk dkGs sGs := by
  intro p l e R s m args below meth c D A σ Q g cc own E b xs a fr fr' X hd h hc hs ρ κ hE hb k H locs ls hI hl
  obtain ⟨lv, st, pc, aw, kc, ks⟩ := fr
  obtain ⟨hx, hbc, hml, hown, hlk, hK, hA, hW, ⟨hR1, hR2⟩, hSt, hSc, hO, hcl, hin⟩ := X
  simp only [sGs] at h
  split at h
  · rename_i o i hq
    split at h
    · rename_i ho
      cases h
      obtain ⟨o2, f1, f2⟩ := hT _ (List.mem_of_getElem? hq)
      cases own_eq hcl f1 ho
      have d : decode cc pc = .ok (.getstatic i, 3) := hd (0, .getstatic i, 3) (by simp only [dkGs, hq]; exact List.mem_cons_self)
      have kk := k ρ κ rExt.rf H locs ls hI hl
      simp only [List.map_cons] at kk
      rw [show cV ρ σ (.inl (.ref 1000)) = .ref E from congrArg Value.ref hE] at kk
      exact va_gets hx hbc hSt.1 hI.2.2.2 hown (hW _ f2) (fun _ z => z) d kk
    · cases h
  · cases h
def sumR (st : List rV) : Nat := match st with
  | [] => 0
  | v :: t => catR v + sumR t
theorem sumR_eq {ρ : Nat → Nat} {σ : Nat → Int32} : ∀ st : List rV, ((st.map (cV ρ σ)).map fun v => v.category).sum = sumR st
  | [] => rfl
  | v :: t => by
    have ih := sumR_eq (ρ := ρ) (σ := σ) t
    simp only [List.map_cons, List.sum_cons, sumR] at ih ⊢
    rw [ih, cV_cat]
def rOi (q : Nat × Nat) : Prop := ∃ o : String, clsN[q.1]? = some o ∧ Cond.methodLink o q.2 objectInit ∈ lwA ∧ Cond.instanceMethod objectInit ∈ lwA ∧ Cond.code objectInit ⟨#[0xb1]⟩ 1 none ∈ lwA
def sOi (g : rG) (a : Int) : rF → Option rF := fun ⟨lv, st, pc, aw, kc, ks⟩ =>
  match oiT[a.toNat]?, st with
  | some (o, _), .inl (.ref _) :: st => if Nat.beq o g.2.2.2.2.1 && Nat.ble (sumR st) 8 then some (lv, st, pc + 3, aw, kc, ks) else none
  | _, _ => none
def dkOi (a : Int) : List (Nat × Instr × Nat) := match oiT[a.toNat]? with
  | some q => [(0, .invokespecial q.2, 3)]
  | none => []
theorem ok_oinit (hT : ∀ q ∈ oiT, rOi q) : rOk dkOi sOi := by
  intro p l e R s m args below meth c D A σ Q g cc own E b xs a fr fr' X hd h hc hs ρ κ hE hb k H locs ls hI hl
  obtain ⟨lv, st, pc, aw, kc, ks⟩ := fr
  obtain ⟨hx, hbc, hml, hown, hlk, hK, hA, hW, ⟨hR1, hR2⟩, hSt, hSc, hO, hcl, hin⟩ := X
  simp only [sOi] at h
  split at h
  · rename_i o i r st' hq
    split at h
    · rename_i ho
      cases h
      simp only [Bool.and_eq_true] at ho
      have hsum : sumR st' ≤ 8 := Nat.le_of_ble_eq_true ho.2
      obtain ⟨o2, f1, f2, f3, f4⟩ := hT _ (List.mem_of_getElem? hq)
      cases own_eq hcl f1 ho.1
      have d : decode cc pc = .ok (.invokespecial i, 3) := hd (0, .invokespecial i, 3) (by simp only [dkOi, hq]; exact List.mem_cons_self)
      exact W.objInit hx hbc hown (hW _ f2) (hW _ f3) (hW _ f4) (g := F0 m pc ls (.ref (ρ r) :: st'.map (cV ρ σ))) rfl (hl.1.trans hml.symm) rfl d (by omega) (by
        rw [sumR_eq]
        show 2 * 0 + sumR st' + 12 ≤ R.locals
        omega) (k ρ κ rExt.rf H locs ls hI hl)
    · cases h
  · cases h
def rMx (q : Nat × Nat) : Prop := ∃ o : String, clsN[q.1]? = some o ∧ Cond.methodLink o q.2 Lib.Math.max.name ∈ lwA ∧ Cond.static Lib.Math.max.name ∈ lwA ∧ Cond.initialized "java/lang/Math" ∈ lwA ∧ Cond.code Lib.Math.max.name Lib.Math.max.code 2 (some .int) ∈ lwA
def sMx (g : rG) (a : Int) : rF → Option rF := fun ⟨lv, st, pc, aw, kc, ks⟩ =>
  match mxT[a.toNat]?, st with
  | some (o, _), .inl (.int y) :: .inl (.int x) :: st => if Nat.beq o g.2.2.2.2.1 && Nat.ble (sumR st) 8 then some (lv, .inl (.int (if x < y then y else x)) :: st, pc + 3, aw, kc, ks) else none
  | _, _ => none
def dkMx (a : Int) : List (Nat × Instr × Nat) := match mxT[a.toNat]? with
  | some q => [(0, .invokestatic q.2, 3)]
  | none => []
theorem ok_max (hT : ∀ q ∈ mxT, rMx q) : rOk dkMx sMx := by
  intro p l e R s m args below meth c D A σ Q g cc own E b xs a fr fr' X hd h hc hs ρ κ hE hb k H locs ls hI hl
  obtain ⟨lv, st, pc, aw, kc, ks⟩ := fr
  obtain ⟨hx, hbc, hml, hown, hlk, hK, hA, hW, ⟨hR1, hR2⟩, hSt, hSc, hO, hcl, hin⟩ := X
  simp only [sMx] at h
  split at h
  · rename_i o i y x st' hq
    split at h
    · rename_i ho
      cases h
      simp only [Bool.and_eq_true] at ho
      have hsum : sumR st' ≤ 8 := Nat.le_of_ble_eq_true ho.2
      obtain ⟨o2, f1, f2, f3, f4, f5⟩ := hT _ (List.mem_of_getElem? hq)
      cases own_eq hcl f1 ho.1
      have d : decode cc pc = .ok (.invokestatic i, 3) := hd (0, .invokestatic i, 3) (by simp only [dkMx, hq]; exact List.mem_cons_self)
      exact va_mmax hx hbc (hml.trans hl.1.symm) hown (hW _ f2) (hW _ f3) (hW _ f4) (hW _ f5) (by omega) (by rw [sumR_eq]; omega) hc hs d (k ρ κ rExt.rf H locs ls hI hl)
    · cases h
  · cases h
def rAc (q : Nat × Nat) : Prop := ∃ o : String, clsN[q.1]? = some o ∧ Cond.methodLink o q.2 arraycopyName ∈ lwA ∧ Cond.native arraycopyName ∈ lwA ∧ Cond.static arraycopyName ∈ lwA ∧ Cond.initialized "java/lang/System" ∈ lwA
def sAcp (g : rG) (a : Int) : rF → Option rF := fun ⟨lv, st, pc, aw, kc, ks⟩ =>
  match acT[a.toNat]?, st with
  | some (o, _), .inl (.int n) :: .inl (.int d) :: .inl (.ref r1) :: .inl (.int f) :: .inl (.ref r0) :: st => (match aw[r0]?, aw[r1]? with
    | some (.inl (0, es0)), some (.inl (0, es1)) => if (Nat.beq o g.2.2.2.2.1 && Nat.ble (sumR st) 8) && ((decide (f = 0) && decide (d = 0)) && ((!decide (n < 0) && Nat.beq n.toNatClampNeg es0.length) && (Nat.beq es1.length es0.length && es0.all isI))) then some (lv, st, pc + 3, aw.set r1 (.inl (0, es0)), kc, ks) else none
    | _, _ => none)
  | _, _ => none
def dkAc (a : Int) : List (Nat × Instr × Nat) := match acT[a.toNat]? with
  | some q => [(0, .invokestatic q.2, 3)]
  | none => []
theorem ok_acopy (hT : ∀ q ∈ acT, rAc q) : rOk dkAc sAcp := by
  intro p l e R s m args below meth c D A σ Q g cc own E b xs a fr fr' X hd h hc hs ρ κ hE hb k H locs ls hI hl
  obtain ⟨lv, st, pc, aw, kc, ks⟩ := fr
  obtain ⟨hx, hbc, hml, hown, hlk, hK, hA, hW, ⟨hR1, hR2⟩, hSt, hSc, hO, hcl, hin⟩ := X
  simp only [sAcp] at h
  split at h
  · rename_i o i n d0 r1 f0 r0 st' hq
    split at h
    · rename_i es0 es1 hr0 hr1
      split at h
      · rename_i ho
        cases h
        simp only [Bool.and_eq_true, Bool.not_eq_true', decide_eq_false_iff_not, decide_eq_true_eq] at ho
        obtain ⟨⟨ho, hsum⟩, ⟨rfl, rfl⟩, ⟨h0, hn⟩, hle, hall⟩ := ho
        have hsum : sumR st' ≤ 8 := Nat.le_of_ble_eq_true hsum
        have hn : n.toNatClampNeg = es0.length := Nat.eq_of_beq_eq_true hn
        have hle : es1.length = es0.length := Nat.eq_of_beq_eq_true hle
        obtain ⟨o2, f1, f2, f3, f4, f5⟩ := hT _ (List.mem_of_getElem? hq)
        cases own_eq hcl f1 ho
        have d : decode cc pc = .ok (.invokestatic i, 3) := hd (0, .invokestatic i, 3) (by simp only [dkAc, hq]; exact List.mem_cons_self)
        have hK2 : va_K D vwC9 ([(κ r0, .int)] ++ [(κ r1, .int)]) s := (hI.1 r0 0 es0 hr0).app (hI.1 r1 0 es1 hr1)
        refine va_copyi (D := D) hx hbc (hml.trans hl.1.symm) hown (hW _ f2) (hW _ f3) (hW _ f4) (hW _ f5) hK2 hI.2.1 hI.2.2.1 hI.2.2.2 r0 r1 0 1 (cW_at hr0) (cW_at hr1) rfl rfl rfl (by decide) (by decide) h0 (by
          rw [hn]
          exact Nat.le_of_eq (Nat.zero_add _)) (by
          rw [hn, hle]
          exact Nat.le_of_eq (Nat.zero_add _)) (fun j hj => rfl) (by omega) (by
          rw [sumR_eq]
          have : nativeFrameWords "java/lang/System" "arraycopy" 5 ≤ 100 := by decide
          omega) d (fun H1 locs1 hP hD hS => ?_)
        have e : ((ρ r1, .inl (κ r1, es1.length, .inl (va_cpy (fun j => uI (cV ρ σ (es0.getD j (rZ 0)))) (fun j => uI (cV ρ σ (es1.getD j (rZ 0)))) (0 : Int32).toNatClampNeg (0 : Int32).toNatClampNeg n.toNatClampNeg))) : Nat × va_E) = (ρ r1, cC ρ κ σ r1 (.inl (0, es0))) := by
          have e2 : va_cpy (fun j => uI (cV ρ σ (es0.getD j (rZ 0)))) (fun j => uI (cV ρ σ (es1.getD j (rZ 0)))) (0 : Int32).toNatClampNeg (0 : Int32).toNatClampNeg n.toNatClampNeg = fun j => uI (cV ρ σ (es0.getD j (rZ 0))) := by
            funext j
            rw [show (0 : Int32).toNatClampNeg = 0 from rfl, hn]
            by_cases hj : j < es0.length
            · rw [pk_cpy_in (Nat.zero_le j) (by omega)]
              simp
            · rw [pk_cpy_out (Or.inr (by omega))]
              rw [List.getD_eq_getElem?_getD, List.getD_eq_getElem?_getD, List.getElem?_eq_none (by omega), List.getElem?_eq_none (by omega)]
          rw [e2, hle]
          rfl
        rw [e, cW_put] at hP hD
        exact k ρ κ rExt.rf H1 locs1 ls ⟨hKset hr1 hI.1, hP, hD, hS⟩ hl
      · cases h
    · cases h
  · cases h
def rLd (q : Nat × Nat × Int64) : Prop := ∃ o : String, clsN[q.1]? = some o ∧ Cond.constantLong o q.2.1 q.2.2 ∈ lwA
def sLdc (g : rG) (a : Int) : rF → Option rF := fun ⟨lv, st, pc, aw, kc, ks⟩ =>
  match ldT[a.toNat]? with
  | some (o, _, x) => if Nat.beq o g.2.2.2.2.1 then some (lv, .inl (.long x) :: st, pc + 3, aw, kc, ks) else none
  | none => none
def dkLd (a : Int) : List (Nat × Instr × Nat) := match ldT[a.toNat]? with
  | some q => [(0, .ldc2_w q.2.1, 3)]
  | none => []
theorem ok_ldc2 (hT : ∀ q ∈ ldT, rLd q) : rOk dkLd sLdc := by
  intro p l e R s m args below meth c D A σ Q g cc own E b xs a fr fr' X hd h hc hs ρ κ hE hb k H locs ls hI hl
  obtain ⟨lv, st, pc, aw, kc, ks⟩ := fr
  obtain ⟨hx, hbc, hml, hown, hlk, hK, hA, hW, ⟨hR1, hR2⟩, hSt, hSc, hO, hcl, hin⟩ := X
  simp only [sLdc] at h
  split at h
  · rename_i o i x hq
    split at h
    · rename_i ho
      cases h
      obtain ⟨o2, f1, f2⟩ := hT _ (List.mem_of_getElem? hq)
      cases own_eq hcl f1 ho
      have d : decode cc pc = .ok (.ldc2_w i, 3) := hd (0, .ldc2_w i, 3) (by simp only [dkLd, hq]; exact List.mem_cons_self)
      exact lv_ldc2 hx hbc hown (hW _ f2) d (k ρ κ rExt.rf H locs ls hI hl)
    · cases h
  · cases h
end
section
/-! the table of single steps -/
def opT : List ((Int → List (Nat × Instr × Nat)) × (rG → Int → rF → Option rF)) := [
  ((fun a => [(0, .iload_n (Fin.ofNat 4 a.toNat), 1)]), sLd isI 1),
  ((fun a => [(0, .iload a.toNat, 2)]), sLd isI 2),
  ((fun a => [(0, .lload_n (Fin.ofNat 4 a.toNat), 1)]), sLd isL 1),
  ((fun a => [(0, .lload a.toNat, 2)]), sLd isL 2),
  ((fun a => [(0, .aload_n (Fin.ofNat 4 a.toNat), 1)]), sLd isA 1),
  ((fun a => [(0, .aload a.toNat, 2)]), sLd isA 2),
  ((fun a => [(0, .aload_n (Fin.ofNat 4 a.toNat), 1)]), sLd isNl 1),
  ((fun a => [(0, .istore_n (Fin.ofNat 4 a.toNat), 1)]), sSt isI 1),
  ((fun a => [(0, .istore a.toNat, 2)]), sSt isI 2),
  ((fun a => [(0, .astore_n (Fin.ofNat 4 a.toNat), 1)]), sSt isA 1),
  ((fun a => [(0, .astore a.toNat, 2)]), sSt isA 2),
  ((fun a => [(0, .astore_n (Fin.ofNat 4 a.toNat), 1)]), sSt isNl 1),
  ((fun a => [(0, .lstore_n (Fin.ofNat 4 a.toNat), 1)]), sSt2),
  ((fun a => [(0, .fstore a.toNat, 2)]), sFst),
  ((fun a => [(0, .dstore a.toNat, 2)]), sDst),
  ((fun a => [(0, .iconst a, 1)]), sPush 1 (fun a => .int (Int32.ofInt a))),
  ((fun a => [(0, .bipush a, 2)]), sPush 2 (fun a => .int (Int8.ofInt a).toInt32)),
  ((fun a => [(0, .sipush a, 3)]), sPush 3 (fun a => .int (Int16.ofInt a).toInt32)),
  ((fun a => [(0, .lconst (Fin.ofNat 2 a.toNat), 1)]), sPush 1 (fun a => .long (Int64.ofNat (Fin.ofNat 2 a.toNat : Fin 2)))),
  ((fun _ => [(0, .fconst 0, 1)]), sPush 1 (fun _ => .float FP.fconst0)),
  ((fun _ => [(0, .dconst 0, 1)]), sPush 1 (fun _ => .double FP.dconst0)),
  ((fun _ => [(0, .aconst_null, 1)]), sPush 1 (fun _ => .null)),
  ((fun _ => [(0, .dup, 1)]), sDup),
  ((fun _ => [(0, .dup_x1, 1)]), sDupX),
  ((fun _ => [(0, .pop, 1)]), sPop),
  ((fun _ => [(0, .iadd, 1)]), sAdd),
  ((fun _ => [(0, .isub, 1)]), sSub),
  ((fun _ => [(0, .iand, 1)]), sAnd),
  ((fun _ => [(0, .lmul, 1)]), sLmul),
  ((fun a => [(0, .iinc (a / 1000).toNat (a % 1000 - 500), 3)]), sInc),
  ((fun _ => [(0, .i2l, 1)]), sI2l),
  ((fun _ => [(0, .i2c, 1)]), sI2c),
  ((fun a => [(0, .ifCond .eq a, 3)]), sIf (fun O v => eqD O v z0)),
  ((fun a => [(0, .ifCond .ne a, 3)]), sIf (fun O v => ngD (eqD O v z0))),
  ((fun a => [(0, .ifCond .lt a, 3)]), sIf (fun O v => ltD O v z0)),
  ((fun a => [(0, .ifCond .ge a, 3)]), sIf (fun O v => ngD (ltD O v z0))),
  ((fun a => [(0, .ifCond .gt a, 3)]), sIf (fun O v => ltD O z0 v)),
  ((fun a => [(0, .ifCond .le a, 3)]), sIf (fun O v => ngD (ltD O z0 v))),
  ((fun a => [(0, .if_icmp .eq a, 3)]), sIc (fun O v w => eqD O v w)),
  ((fun a => [(0, .if_icmp .ne a, 3)]), sIc (fun O v w => ngD (eqD O v w))),
  ((fun a => [(0, .if_icmp .lt a, 3)]), sIc (fun O v w => ltD O v w)),
  ((fun a => [(0, .if_icmp .ge a, 3)]), sIc (fun O v w => ngD (ltD O v w))),
  ((fun a => [(0, .if_icmp .gt a, 3)]), sIc (fun O v w => ltD O w v)),
  ((fun a => [(0, .if_icmp .le a, 3)]), sIc (fun O v w => ngD (ltD O w v))),
  ((fun a => [(0, .lcmp, 1), (1, .ifCond .eq a, 3)]), sLc (fun O v w => eqD O v w)),
  ((fun a => [(0, .lcmp, 1), (1, .ifCond .ne a, 3)]), sLc (fun O v w => ngD (eqD O v w))),
  ((fun a => [(0, .lcmp, 1), (1, .ifCond .lt a, 3)]), sLc (fun O v w => ltD O v w)),
  ((fun a => [(0, .lcmp, 1), (1, .ifCond .ge a, 3)]), sLc (fun O v w => ngD (ltD O v w))),
  ((fun a => [(0, .lcmp, 1), (1, .ifCond .gt a, 3)]), sLc (fun O v w => ltD O w v)),
  ((fun a => [(0, .lcmp, 1), (1, .ifCond .le a, 3)]), sLc (fun O v w => ngD (ltD O w v))),
  ((fun a => [(0, .if_acmp .eq a, 3)]), sAc),
  ((fun a => [(0, .ifnull a, 3)]), sNu true),
  ((fun a => [(0, .ifnonnull a, 3)]), sNu false),
  ((fun a => [(0, .goto a, 3)]), sGt),
  ((fun _ => [(0, .tableswitch 2451 0 35 rSw, 160)]), sSw),
  ((fun _ => [(0, .iaload, 1)]), sIal),
  ((fun _ => [(0, .iaload, 1)]), sXal),
  ((fun _ => [(0, .laload, 1)]), sLal),
  ((fun _ => [(0, .iastore, 1)]), sIas),
  ((fun _ => [(0, .lastore, 1)]), sLas),
  ((fun _ => [(0, .aastore, 1)]), sAas),
  ((fun _ => [(0, .arraylength, 1)]), sLen),
  ((fun _ => [(0, .arraylength, 1)]), sLenS),
  ((fun _ => [(0, .arraylength, 1)]), sLenX),
  ((fun _ => [(0, .newarray .int, 2)]), sNa 0),
  ((fun _ => [(0, .newarray .boolean, 2)]), sNa 1),
  ((fun _ => [(0, .newarray .long, 2)]), sNa 2),
  ((fun _ => [(0, .newarray .double, 2)]), sNa 3),
  (dkAn, sAn),
  (dkNew, sNew),
  ((dkF .getfield), sGf),
  (dkN, sGn),
  ((dkF .putfield), sPf false),
  ((dkF .putfield), sPf true),
  (dkGs, sGs),
  (dkOi, sOi),
  (dkMx, sMx),
  (dkAc, sAcp),
  (dkLd, sLdc)]
end
section
/-! the run of a method: fuel, and what it comes to -/
/-- an answer, an exception's number, or a stop at the place asked for -/
abbrev rR : Type := Option rV ⊕ (Nat ⊕ (rL × List rV))
def lookB (pc : Nat) : List (Nat × Nat × Int) → Option (Nat × Int)
  | [] => none
  | (j, o, a) :: t => if Nat.beq j pc then some (o, a) else lookB pc t
def lookC (id pc : Nat) : Option (Nat × Int) := match codeT[id]? with
  | some bs => (match bs[pc / 64]? with
    | some bl => lookB pc bl
    | none => none)
  | none => none
/-- does a value fit the sort of answer -/
def okR (rk : Nat) (v : Option rV) : Bool := match rk, v with
  | 0, none => true
  | 1, some v => isI v
  | 2, some v => isL v
  | 3, some v => isR v
  | 4, some (.inl (.float _)) => true
  | 5, some (.inl (.double _)) => true
  | 6, some (.inl (.int x)) => decide (x = 0) || decide (x = 1)
  | 7, some (.inl (.int x)) => decide (x = 112)
  | _, _ => false
/-- the handler that takes the exception E at pc: none where that isn't known, some none where it goes on to the caller -/
def hnd (pc E : Nat) : List (Nat × Nat × Nat × Nat) → Option (Option Nat)
  | [] => some none
  | (x, y, t, z) :: r => if Nat.ble x pc && Nat.blt pc y then (if Nat.beq z E then some (some t) else if (Nat.beq z 0 && (Nat.beq E 1 || Nat.beq E 2)) then hnd pc E r else none) else hnd pc E r
def argR : Nat → List rV → rL
  | _, [] => []
  | i, v :: t => (i, v) :: argR (if catR v = 2 then i + 2 else i + 1) t
def dropL (lv : rL) (i : Nat) : rL := lv.filter (fun q => !(q.1 == i) && !(q.1 + 1 == i && catR q.2 == 2))
/-- the receiver, where the call has one -/
def rcv (kind ci : Nat) (aw : List rC) (as : List rV) : Bool := match as with
  | .inl (.ref r) :: _ => if Nat.beq kind 1 || Nat.beq kind 3 then true else (match aw[r]? with
    | some (.inr (cj, _)) => Nat.beq cj ci
    | _ => false)
  | _ => false
/-- the callee's locals hold what it takes -/
def nLok (tgt : Nat) (as : List rV) : Bool := match mI[tgt]? with
  | some (_, _, _, nL, _) => Nat.ble (sumR as) nL
  | none => false
def gOf (O : rO) (L : Nat) (fl : Bool) (id : Nat) : Option rG := match mI[id]? with
  | some (o, _, _, nL, ini) => some (O, L, fl, nL, o, ini)
  | none => none
def ex (O : rO) (L : Nat) : Nat → Bool → Nat → Nat → rF → Option (rR × List rC × Nat × Nat)
  | 0, _, _, _, _ => none
  | n + 1, fl, stop, id, (lv, st, pc, aw, kc, ks) =>
    if Nat.beq pc stop then some (.inr (.inr (lv, st)), aw, kc, ks) else
    match lookC id pc, mI[id]? with
    | some (op, a), some (o, rk, hh, nL, ini) =>
      if Nat.blt op 200 then (match opT[op]? with
        | some t => (match t.2 (O, L, fl, nL, o, ini) a (lv, st, pc, aw, kc, ks) with
          | some fr' => if (Nat.ble kc fr'.2.2.2.2.1 && Nat.ble ks fr'.2.2.2.2.2) && Nat.ble aw.length fr'.2.2.2.1.length then ex O L n fl stop id fr' else none
          | none => none)
        | none => none)
      else if Nat.beq op 200 then (match st with
        | [] => if okR rk none then some (.inl none, aw, kc, ks) else none
        | [v] => if okR rk (some v) then some (.inl (some v), aw, kc, ks) else none
        | _ => none)
      else if Nat.beq op 201 then (match cT[a.toNat]? with
        | some (kind, oc, _, tgt, na, ci, _) =>
          if (Nat.beq oc o && Nat.ble na st.length) && ((Nat.ble (sumR (st.drop na)) 8 && wfL aw.length lv) && (((st.drop na).all (wfV aw.length) && Nat.blt aw.length 900) && ((Nat.beq kind 2 || (Nat.beq kind 5 || rcv kind ci aw (st.take na).reverse)) && nLok tgt (st.take na)))) then (match ex O L n false 100000 tgt (argR 0 (st.take na).reverse, [], 0, aw, 0, 0) with
            | some (.inl v, aw1, mc, ms) => if Nat.ble aw.length aw1.length then ex O L n fl stop id (lv, v.toList ++ st.drop na, pc + (if Nat.beq kind 4 then 5 else 3), aw1, kc + mc, ks + ms) else none
            | some (.inr (.inl E), aw1, mc, ms) => if (Nat.ble aw.length aw1.length && !Nat.beq kind 4) && !fl then (match hnd pc E hh with
              | some none => some (.inr (.inl E), aw1, kc + mc, ks + ms)
              | some (some t) => (match lookC id t with
                | some (op2, b) => if (Nat.beq op2 9 && Nat.blt b.toNat 4) && Nat.blt b.toNat nL then ex O L n fl stop id (dropL lv b.toNat, [], t + 1, aw1, kc + mc, ks + ms) else if Nat.beq op2 10 && Nat.blt b.toNat nL then ex O L n fl stop id (dropL lv b.toNat, [], t + 2, aw1, kc + mc, ks + ms) else none
                | none => none)
              | none => none) else none
            | _ => none) else none
        | none => none)
      else if Nat.beq op 202 then (match tT[a.toNat]? with
        | some (ot, _, _, _, E, _) => if ((Nat.beq ot o && Nat.ble (sumR st) 8) && hh.isEmpty) && !fl then some (.inr (.inl E), aw, kc + 1, ks + 6) else none
        | none => none)
      else none
    | _, _ => none
end
section
/-- the methods, as the Statement has them -/
def mS : List (MethodName × ByteArray × Option FieldType × List (Nat × Nat × Nat × Nat)) := [
  (x, code, ret, []),
  (yJ7_fill_53178, cJ7_fill_53178, none, []),
  (yJx35411_hasNext_aae02, cJx35411_hasNext_aae02, (some .boolean), []),
  (yJx35411_init_45d68, cJx35411_init_45d68, none, []),
  (yJx4a65c_add_72be8, cJx4a65c_add_72be8, none, []),
  (yJx4a65c_add_9ea2d, cJx4a65c_add_9ea2d, (some .boolean), []),
  (yJx4a65c_clear_da8c8, cJx4a65c_clear_da8c8, none, []),
  (yJx4a65c_grow_92f84, cJx4a65c_grow_92f84, (some (.array (.object "java/lang/Object"))), []),
  (yJx4a65c_grow_d5877, cJx4a65c_grow_d5877, (some (.array (.object "java/lang/Object"))), []),
  (yJx4a65c_init_da8c8, cJx4a65c_init_da8c8, none, []),
  (yJx4a65c_isEmpty_aae02, cJx4a65c_isEmpty_aae02, (some .boolean), []),
  (yJx4a65c_iterator_32c93, cJx4a65c_iterator_32c93, (some (.object "java/util/Iterator")), []),
  (yJx4a65c_size_8abf5, cJx4a65c_size_8abf5, (some .int), []),
  (yJxa1e45_init_da8c8, cJxa1e45_init_da8c8, none, []),
  (yJxc12de_init_da8c8, cJxc12de_init_da8c8, none, []),
  (yL_abandon, cL_abandon, (some .int), [(0, 9, 12, 15)]),
  (yL_addClub, cL_addClub, (some .int), [(0, 12, 15, 13), (0, 12, 19, 15)]),
  (yL_addPlayer, cL_addPlayer, (some .int), [(0, 9, 12, 21), (0, 9, 15, 15)]),
  (yL_appeal, cL_appeal, (some .int), [(0, 17, 20, 21)]),
  (yL_ban, cL_ban, (some .int), [(0, 9, 12, 21)]),
  (yL_callBack, cL_callBack, (some .int), [(0, 9, 12, 21), (0, 9, 15, 33)]),
  (yL_card, cL_card, (some .int), [(0, 10, 13, 21), (0, 10, 17, 15), (0, 10, 21, 33)]),
  (yL_change, cL_change, (some .int), [(0, 10, 13, 21), (0, 10, 17, 15), (0, 10, 21, 33)]),
  (yL_clubAt, cL_clubAt, (some .int), [(0, 10, 13, 13), (0, 10, 17, 21)]),
  (yL_divisionOf, cL_divisionOf, (some .int), [(0, 9, 12, 21)]),
  (yL_end, cL_end, (some .int), [(0, 8, 11, 15)]),
  (yL_endSeason, cL_endSeason, (some .int), [(0, 8, 11, 15)]),
  (yL_fixture, cL_fixture, (some .int), [(0, 10, 13, 21), (0, 10, 17, 13)]),
  (yL_goOn, cL_goOn, (some .int), [(0, 9, 12, 13), (0, 9, 15, 15)]),
  (yL_goal, cL_goal, (some .int), [(0, 9, 12, 21), (0, 9, 15, 15), (0, 9, 18, 33)]),
  (yL_isGuilty, cL_isGuilty, (some .int), [(0, 17, 20, 21), (0, 17, 24, 33)]),
  (yL_kickOff, cL_kickOff, (some .int), [(0, 9, 12, 21), (0, 9, 15, 33), (0, 9, 18, 15)]),
  (yL_lend, cL_lend, (some .int), [(0, 10, 13, 21), (0, 10, 17, 13), (0, 10, 21, 33)]),
  (yL_meanGoals, cL_meanGoals, (some .int), [(0, 7, 10, 131)]),
  (yL_name, cL_name, (some .int), [(0, 12, 15, 21), (0, 12, 19, 33), (0, 12, 23, 13), (0, 12, 27, 15)]),
  (yL_overShare, cL_overShare, (some .int), [(0, 8, 11, 131)]),
  (yL_plan, cL_plan, (some .int), [(0, 9, 12, 13), (0, 9, 15, 15), (0, 9, 18, 49)]),
  (yL_points, cL_points, (some .int), [(0, 9, 12, 21)]),
  (yL_putOff, cL_putOff, (some .int), [(0, 10, 13, 21), (0, 10, 17, 13), (0, 10, 21, 33)]),
  (yL_registered, cL_registered, (some .int), [(0, 9, 12, 21)]),
  (yL_resultOf, cL_resultOf, (some .int), [(0, 9, 12, 21), (0, 9, 15, 33)]),
  (yL_sell, cL_sell, (some .int), [(0, 12, 15, 21), (0, 12, 19, 13), (0, 12, 23, 33)]),
  (yL_setDerby, cL_setDerby, (some .int), [(0, 19, 22, 21), (0, 19, 26, 13)]),
  (yL_setWindow, cL_setWindow, (some .int), [(0, 17, 20, 13)]),
  (yL_stateOf, cL_stateOf, (some .int), [(0, 9, 12, 21)]),
  (yL_strike, cL_strike, (some .int), [(0, 17, 20, 21), (0, 17, 24, 15)]),
  (yL_takePoints, cL_takePoints, (some .int), [(0, 10, 13, 21), (0, 10, 17, 13)]),
  (yL_wipe, cL_wipe, (some .int), [(0, 8, 11, 15)]),
  (yL_yellows, cL_yellows, (some .int), [(0, 9, 12, 21)]),
  (yX0_count, cX0_count, none, []),
  (yX0_countAnew, cX0_countAnew, none, []),
  (yX0_init, cX0_init, none, []),
  (yX0_isFull, cX0_isFull, (some .boolean), []),
  (yX0_isSameAnew, cX0_isSameAnew, (some .boolean), []),
  (yX0_playersWithYellows, cX0_playersWithYellows, (some .int), []),
  (yX0_write, cX0_write, none, []),
  (yX11_init, cX11_init, none, []),
  (yX12_init, cX12_init, none, []),
  (yX15_abandon, cX15_abandon, (some .int), []),
  (yX15_addClub, cX15_addClub, (some .int), []),
  (yX15_addPlayer, cX15_addPlayer, (some .int), []),
  (yX15_appeal, cX15_appeal, (some .boolean), []),
  (yX15_ban, cX15_ban, (some .int), []),
  (yX15_callBack, cX15_callBack, (some .int), []),
  (yX15_card, cX15_card, (some .int), []),
  (yX15_change, cX15_change, (some .int), []),
  (yX15_clubAt, cX15_clubAt, (some .int), []),
  (yX15_clubsIn, cX15_clubsIn, (some .int), []),
  (yX15_counting, cX15_counting, (some (.object "java/util/List")), []),
  (yX15_divisionOf, cX15_divisionOf, (some .int), []),
  (yX15_end, cX15_end, (some .int), []),
  (yX15_endSeason, cX15_endSeason, (some .int), []),
  (yX15_fixture, cX15_fixture, (some .int), []),
  (yX15_goOn, cX15_goOn, (some .int), []),
  (yX15_goal, cX15_goal, (some .int), []),
  (yX15_goesThrough, cX15_goesThrough, none, []),
  (yX15_hasFixtures, cX15_hasFixtures, (some .boolean), []),
  (yX15_init, cX15_init, none, []),
  (yX15_isClub, cX15_isClub, (some .boolean), []),
  (yX15_isGuilty, cX15_isGuilty, (some .boolean), []),
  (yX15_isIn, cX15_isIn, (some .boolean), []),
  (yX15_isOpen, cX15_isOpen, (some .boolean), []),
  (yX15_isPlayer, cX15_isPlayer, (some .boolean), []),
  (yX15_isSound, cX15_isSound, (some .boolean), []),
  (yX15_kickOff, cX15_kickOff, (some .int), []),
  (yX15_lend, cX15_lend, (some .int), []),
  (yX15_meanGoals, cX15_meanGoals, (some .double), []),
  (yX15_money, cX15_money, (some .long), []),
  (yX15_name, cX15_name, (some .int), []),
  (yX15_no, cX15_no, (some .boolean), []),
  (yX15_noMatch, cX15_noMatch, (some .boolean), []),
  (yX15_noOn, cX15_noOn, (some .boolean), []),
  (yX15_over, cX15_over, (some .int), []),
  (yX15_overShare, cX15_overShare, (some .float), []),
  (yX15_plan, cX15_plan, (some .int), []),
  (yX15_points, cX15_points, (some .int), []),
  (yX15_putOff, cX15_putOff, (some .int), []),
  (yX15_registered, cX15_registered, (some .int), []),
  (yX15_resultOf, cX15_resultOf, (some .int), []),
  (yX15_sell, cX15_sell, (some .int), []),
  (yX15_setDerby, cX15_setDerby, (some .boolean), []),
  (yX15_setWindow, cX15_setWindow, (some .boolean), []),
  (yX15_stateOf, cX15_stateOf, (some .char), []),
  (yX15_strike, cX15_strike, (some .boolean), []),
  (yX15_table, cX15_table, (some (.object "java/util/List")), []),
  (yX15_takePoints, cX15_takePoints, (some .int), []),
  (yX15_thrown, cX15_thrown, (some .int), []),
  (yX15_wipe, cX15_wipe, (some .int), []),
  (yX15_yellows, cX15_yellows, (some .int), []),
  (yX2_init, cX2_init, none, []),
  (yX3_init, cX3_init, none, []),
  (yX5_init, cX5_init, none, []),
  (yX8_addRows, cX8_addRows, none, []),
  (yX8_countAmong, cX8_countAmong, none, []),
  (yX8_draw, cX8_draw, none, []),
  (yX8_firstToRise, cX8_firstToRise, (some (.object "Goalmouth$Club")), []),
  (yX8_init, cX8_init, none, []),
  (yX8_partTies, cX8_partTies, none, []),
  (yX8_sort, cX8_sort, none, []),
  (yX9_abandon, cX9_abandon, (some .int), []),
  (yX9_addClub, cX9_addClub, (some .int), []),
  (yX9_addPlayer, cX9_addPlayer, (some .int), []),
  (yX9_appeal, cX9_appeal, (some .boolean), []),
  (yX9_ban, cX9_ban, (some .int), []),
  (yX9_callBack, cX9_callBack, (some .int), []),
  (yX9_card, cX9_card, (some .int), []),
  (yX9_change, cX9_change, (some .int), []),
  (yX9_clearSeason, cX9_clearSeason, none, []),
  (yX9_clubAt, cX9_clubAt, (some .int), []),
  (yX9_clubsIn, cX9_clubsIn, (some .int), []),
  (yX9_divisionOf, cX9_divisionOf, (some .int), []),
  (yX9_end, cX9_end, (some .int), []),
  (yX9_endSeason, cX9_endSeason, (some .int), []),
  (yX9_fixture, cX9_fixture, (some .int), []),
  (yX9_fixturesOver, cX9_fixturesOver, (some .int), []),
  (yX9_goOn, cX9_goOn, (some .int), []),
  (yX9_goal, cX9_goal, (some .int), []),
  (yX9_hasFixtures, cX9_hasFixtures, (some .boolean), []),
  (yX9_init, cX9_init, none, []),
  (yX9_isDivision, cX9_isDivision, (some .boolean), []),
  (yX9_isFixtureLeft, cX9_isFixtureLeft, (some .boolean), []),
  (yX9_isGuilty, cX9_isGuilty, (some .boolean), []),
  (yX9_isSound, cX9_isSound, (some .boolean), []),
  (yX9_isWindowOpen, cX9_isWindowOpen, (some .boolean), []),
  (yX9_isWithin, cX9_isWithin, (some .boolean), []),
  (yX9_kickOff, cX9_kickOff, (some .int), []),
  (yX9_knownBit, cX9_knownBit, (some .int), []),
  (yX9_knownClub, cX9_knownClub, (some (.object "Goalmouth$Club")), []),
  (yX9_knownFixture, cX9_knownFixture, (some (.object "Goalmouth$Fixture")), []),
  (yX9_knownMatch, cX9_knownMatch, (some (.object "Goalmouth$Fixture")), []),
  (yX9_knownPlayer, cX9_knownPlayer, (some (.object "Goalmouth$Player")), []),
  (yX9_lend, cX9_lend, (some .int), []),
  (yX9_meanGoals, cX9_meanGoals, (some .double), []),
  (yX9_money, cX9_money, (some .long), []),
  (yX9_name, cX9_name, (some .int), []),
  (yX9_overShare, cX9_overShare, (some .float), []),
  (yX9_plan, cX9_plan, (some .int), []),
  (yX9_points, cX9_points, (some .int), []),
  (yX9_putOff, cX9_putOff, (some .int), []),
  (yX9_registered, cX9_registered, (some .int), []),
  (yX9_resultOf, cX9_resultOf, (some .int), []),
  (yX9_sell, cX9_sell, (some .int), []),
  (yX9_setDerby, cX9_setDerby, (some .boolean), []),
  (yX9_setWindow, cX9_setWindow, (some .boolean), []),
  (yX9_stateOf, cX9_stateOf, (some .char), []),
  (yX9_strike, cX9_strike, (some .boolean), []),
  (yX9_takePoints, cX9_takePoints, (some .int), []),
  (yX9_wipe, cX9_wipe, (some .int), []),
  (yX9_yellows, cX9_yellows, (some .int), [])]
end
section
/-! the machine follows the run -/
def rWd (s : State) : Prop := ∀ w ∈ lwA, w.before #[] s = true
def okw (w : Cond) : Bool := match w with
  | .arrayClass _ => true
  | .arrayOver ty => (match ty with | .object _ => true | _ => false)
  | .fieldLinkNest .. => true
  | .methodLinkNest .. => true
  | w => w.keepsFace && w.onTables
theorem okw_move {w : Cond} {args a' : Array Value} {s U : State} (hk : okw w = true) (hW : s.WarmedH U.vm) (h : w.before args s = true) : w.before a' U = true := by
  have key : w.keepsFace = true → w.onTables = true → w.before a' U = true := fun h1 h2 => va_tabs (u := s.setVm U.vm) h2 rfl (Cond.before_shiftedFace (State.Shifted.of_warmed hW) _ h1 h)
  cases w with
  | arrayClass ty =>
    have h1 : (Cond.arrayClass ty).before args (s.setVm U.vm) = true := Cond.before_shiftedFace (State.Shifted.of_warmed hW) _ rfl h
    exact h1
  | arrayOver ty =>
    cases ty with
    | object n => exact va_AO.use (va_AO.moved hW.alike (va_AO.of h))
    | _ => exact (Bool.false_ne_true hk).elim
  | fieldLinkNest a i b n d h9 => exact va_Nw.use rfl (va_Nw.warmF hW (va_Nw.of rfl h))
  | methodLinkNest a i x h9 => exact va_Nw.use rfl (va_Nw.warmM hW (va_Nw.of rfl h))
  | _ =>
    simp only [okw, Bool.and_eq_true] at hk
    exact key hk.1 hk.2
def rThr (s : State) : Prop := ∀ q ∈ tT, ∃ (o text : String) (sa : Nat), clsN[q.1]? = some o ∧ vk_R o q.2.2.1 text sa s
def rNcs (s : State) : Prop := va_Nc "java/lang/IllegalStateException" "java/lang/IllegalArgumentException" s ∧ va_Nc "java/lang/IndexOutOfBoundsException" "java/lang/IllegalArgumentException" s
def retI (rk : Nat) : Instr := match rk with
  | 0 => .return_
  | 2 => .lreturn
  | 3 => .areturn
  | 4 => .freturn
  | 5 => .dreturn
  | _ => .ireturn
def retOk (rk : Nat) (ret : Option FieldType) : Prop := match rk with
  | 0 => ret = none
  | 1 => ret = some .int
  | 2 => ret = some .long
  | 3 => ∃ ty, ret = some ty ∧ ((∃ n, ty = .object n) ∨ ∃ t, ty = .array t)
  | 4 => ret = some .float
  | 5 => ret = some .double
  | 6 => ret = some .boolean
  | 7 => ret = some .char
  | _ => False
def callR (q : Nat × Nat × Nat × Nat × Nat × Nat × Nat) : Instr := match q.1 with
  | 0 => .invokevirtual q.2.2.1
  | 1 => .invokespecial q.2.2.1
  | 3 => .invokespecial q.2.2.1
  | 4 => .invokeinterface q.2.2.1 q.2.2.2.2.2.2
  | _ => .invokestatic q.2.2.1
def dkT (q : Nat × Nat × Nat × Nat × Nat × Bool) : List (Nat × Instr × Nat) := match q.2.2.2.2.2 with
  | true => [(0, .new q.2.1, 3), (3, .dup, 1), (4, .ldc_w q.2.2.1, 3), (7, .invokespecial q.2.2.2.1, 3), (10, .athrow, 1)]
  | false => [(0, .new q.2.1, 3), (3, .dup, 1), (4, .ldc q.2.2.1, 2), (6, .invokespecial q.2.2.2.1, 3), (9, .athrow, 1)]
def dkAll (rk op : Nat) (a : Int) : List (Nat × Instr × Nat) :=
  if Nat.blt op 200 then (match opT[op]? with
    | some t => t.1 a
    | none => [])
  else if Nat.beq op 200 then [(0, retI rk, 1)]
  else if Nat.beq op 201 then (match cT[a.toNat]? with
    | some q => [(0, callR q, if Nat.beq q.1 4 then 5 else 3)]
    | none => [])
  else (match tT[a.toNat]? with
    | some q => dkT q
    | none => [])
/-- the code of a method, as the run has it, is the machine's -/
def rDec (id rk : Nat) (cc : ByteArray) : Prop := ∀ bs, codeT[id]? = some bs → ∀ bl ∈ bs, ∀ z ∈ bl, ∀ x ∈ dkAll rk z.2.1 z.2.2, decode cc (z.1 + x.1) = .ok (x.2.1, x.2.2)
theorem lookB_mem {pc op : Nat} {a : Int} : ∀ {bl : List (Nat × Nat × Int)}, lookB pc bl = some (op, a) → (pc, op, a) ∈ bl
  | [], h => by cases h
  | (j, o, b) :: t, h => by
    simp only [lookB] at h
    by_cases hj : Nat.beq j pc = true
    · rw [if_pos hj] at h
      cases h
      cases Nat.eq_of_beq_eq_true hj
      exact List.mem_cons_self
    · rw [if_neg hj] at h
      exact List.mem_cons_of_mem _ (lookB_mem h)
theorem look_dec {id rk pc op : Nat} {a : Int} {cc : ByteArray} (hd : rDec id rk cc) (h : lookC id pc = some (op, a)) : ∀ x ∈ dkAll rk op a, decode cc (pc + x.1) = .ok (x.2.1, x.2.2) := by
  simp only [lookC] at h
  split at h
  · rename_i bs hbs
    split at h
    · rename_i bl hbl
      exact hd bs hbs bl (List.mem_of_getElem? hbl) _ (lookB_mem h)
    · cases h
  · cases h
/-- tables of handlers agree -/
def hRel (own : String) : List (Nat × Nat × Nat × Nat) → List (Nat × Nat × Nat × Nat) → Prop
  | [], [] => True
  | (x, y, t, z) :: r, (x2, y2, t2, ct) :: r2 => (x = x2 ∧ y = y2 ∧ t = t2 ∧ ct ≠ 0 ∧ ∃ nm : String, exN[z]? = some nm ∧ Cond.classLink own ct nm ∈ lwA ∧ Cond.castable nm nm ∈ lwA) ∧ hRel own r r2
  | _, _ => False
def hPass (own nm : String) (args : Array Value) (s : State) (pc : Nat) (z : ExceptionTableEntry) : Prop := covers z pc = false ∨ (z.catchType ≠ 0 ∧ ∃ nm2 : String, (Cond.classLink own z.catchType nm2).before args s = true ∧ va_Nc nm nm2 s)
theorem hnd_none {own nm : String} {args : Array Value} {s : State} {pc E : Nat} (hnm : exN[E]? = some nm) (hW : ∀ w ∈ lwA, w.before args s = true) (hN : rNcs s) : ∀ {hh hr : List (Nat × Nat × Nat × Nat)}, hRel own hh hr → hnd pc E hh = some none → ∀ z ∈ tableOf hr, hPass own nm args s pc z
  | [], [], _, _ => fun z hz => by cases hz
  | [], _ :: _, h, _ => h.elim
  | _ :: _, [], h, _ => h.elim
  | (x, y, t, z9) :: r, (x2, y2, t2, ct) :: r2, h, h2 => by
    obtain ⟨⟨rfl, rfl, rfl, hct, nm2, e1, e2, e3⟩, hr⟩ := h
    simp only [hnd] at h2
    intro z hz
    simp only [tableOf, List.map_cons, List.mem_cons] at hz
    split at h2
    · split at h2
      · cases h2
      · split at h2
        · rename_i hp
          simp only [Bool.and_eq_true, Bool.or_eq_true] at hp
          obtain ⟨hz0, hE⟩ := hp
          cases Nat.eq_of_beq_eq_true hz0
          cases e1
          rcases hz with rfl | hz
          · refine Or.inr ⟨hct, _, hW _ e2, ?_⟩
            rcases hE with hE | hE
            · cases Nat.eq_of_beq_eq_true hE
              cases hnm
              exact hN.1
            · cases Nat.eq_of_beq_eq_true hE
              cases hnm
              exact hN.2
          · exact hnd_none hnm hW hN hr h2 z hz
        · cases h2
    · rename_i hc
      rcases hz with rfl | hz
      · refine Or.inl ?_
        simp only [covers]
        by_cases h1 : x ≤ pc
        · have : ¬ pc < y := fun z => hc (by rw [Nat.ble_eq_true_of_le h1, Bool.true_and]; simpa using z)
          simp [this]
        · simp [h1]
      · exact hnd_none hnm hW hN hr h2 z hz
theorem hnd_some {own nm : String} {args : Array Value} {s : State} {pc E t : Nat} (hnm : exN[E]? = some nm) (hW : ∀ w ∈ lwA, w.before args s = true) (hN : rNcs s) : ∀ {hh hr : List (Nat × Nat × Nat × Nat)}, hRel own hh hr → hnd pc E hh = some (some t) → ∃ pre x suf, tableOf hr = pre ++ x :: suf ∧ (∀ z ∈ pre, hPass own nm args s pc z) ∧ covers x pc = true ∧ x.catchType ≠ 0 ∧ (Cond.classLink own x.catchType nm).before args s = true ∧ (Cond.castable nm nm).before args s = true ∧ x.handlerPc = t
  | [], _, _, h2 => by cases h2
  | _ :: _, [], h, _ => h.elim
  | (x, y, t1, z9) :: r, (x2, y2, t2, ct) :: r2, h, h2 => by
    obtain ⟨⟨rfl, rfl, rfl, hct, nm2, e1, e2, e3⟩, hr⟩ := h
    simp only [hnd] at h2
    split at h2
    · rename_i hc
      simp only [Bool.and_eq_true] at hc
      split at h2
      · rename_i hz
        cases h2
        cases Nat.eq_of_beq_eq_true hz
        cases hnm.symm.trans e1
        refine ⟨[], ⟨x, y, t, ct⟩, tableOf r2, rfl, fun z hz => (by cases hz), ?_, hct, hW _ e2, hW _ e3, rfl⟩
        simp only [covers]
        have h1 : x ≤ pc := Nat.le_of_ble_eq_true hc.1
        have h3 : pc < y := by simpa using hc.2
        simp [h1, h3]
      · split at h2
        · rename_i hp
          simp only [Bool.and_eq_true, Bool.or_eq_true] at hp
          obtain ⟨hz0, hE⟩ := hp
          cases Nat.eq_of_beq_eq_true hz0
          cases e1
          obtain ⟨pre, x9, suf, f1, f2, f3⟩ := hnd_some hnm hW hN hr h2
          refine ⟨⟨x, y, t1, ct⟩ :: pre, x9, suf, by simp only [tableOf, List.map_cons, List.cons_append] at f1 ⊢; rw [f1], fun z hz => ?_, f3⟩
          rcases List.mem_cons.mp hz with rfl | hz
          · refine Or.inr ⟨hct, _, hW _ e2, ?_⟩
            rcases hE with hE | hE
            · cases Nat.eq_of_beq_eq_true hE
              cases hnm
              exact hN.1
            · cases Nat.eq_of_beq_eq_true hE
              cases hnm
              exact hN.2
          · exact f2 z hz
        · cases h2
    · rename_i hc
      obtain ⟨pre, x9, suf, f1, f2, f3⟩ := hnd_some hnm hW hN hr h2
      refine ⟨⟨x, y, t1, ct⟩ :: pre, x9, suf, by simp only [tableOf, List.map_cons, List.cons_append] at f1 ⊢; rw [f1], fun z hz => ?_, f3⟩
      rcases List.mem_cons.mp hz with rfl | hz
      · refine Or.inl ?_
        simp only [covers]
        by_cases h1 : x ≤ pc
        · have : ¬ pc < y := fun z => hc (by rw [Nat.ble_eq_true_of_le h1, Bool.true_and]; simpa using z)
          simp [this]
        · simp [h1]
      · exact f2 z hz
/-! a method's contract, out of its run -/
def rPc (D : va_G) (σ : Nat → Int32) (ρ : Nat → Nat) (κ : Nat → ClassId) (sz E : Nat) (aw : List rC) (as : List rV) : Array Value → State → Prop := va_Pc (as.map (cV ρ σ)) (fun U => U.heap.size = sz ∧ va_K D vwC9 [] U ∧ (∀ i t es, aw[i]? = some (.inl (t, es)) → va_K D vwC9 [(κ i, rTy t)] U) ∧ va_P D vwC9 (cW ρ κ σ 0 aw) U.heap ∧ va_D (fun _ => True) (cW ρ κ σ 0 aw) ∧ rSt (va_A (cW ρ κ σ 0 aw) sz) U E ∧ rThr U ∧ rNcs U ∧ rWd U)
def rAft (D : va_G) (σ : Nat → Int32) (ρ : Nat → Nat) (κ : Nat → ClassId) (A : Nat → Prop) (n : Nat) (aw1 : List rC) (t : State) (ρ' : Nat → Nat) (κ' : Nat → ClassId) : Prop :=
  rExt n ρ κ ρ' κ' ∧ (∀ i ty es, aw1[i]? = some (.inl (ty, es)) → va_K D vwC9 [(κ' i, rTy ty)] t) ∧ va_P D vwC9 (cW ρ' κ' σ 0 aw1) t.heap ∧ va_D A (cW ρ' κ' σ 0 aw1)
def rQc (D : va_G) (σ : Nat → Int32) (ρ : Nat → Nat) (κ : Nat → ClassId) (A : Nat → Prop) (n : Nat) (out : rR) (aw1 : List rC) : Array Value → State → Outcome → State → Prop := fun _ st o t =>
  (∃ (v : Option rV) (ρ' : Nat → Nat) (κ' : Nat → ClassId), out = .inl v ∧ o = .returned (v.map (cV ρ' σ)) ∧ rAft D σ ρ κ A n aw1 t ρ' κ') ∧ va_F A st t
def rXc (D : va_G) (σ : Nat → Int32) (ρ : Nat → Nat) (κ : Nat → ClassId) (A : Nat → Prop) (n : Nat) (out : rR) (aw1 : List rC) : String → State → State → Prop := fun nm st t =>
  (∃ (E : Nat) (ρ' : Nat → Nat) (κ' : Nat → ClassId), out = .inr (.inl E) ∧ exN[E]? = some nm ∧ rAft D σ ρ κ A n aw1 t ρ' κ') ∧ va_F A st t
theorem rSt_move {A A' : Nat → Prop} {s U : State} {E : Nat} {H : Heap} {locs : List Loc} (h : rSt A s E) (hS : va_S A s.heap H locs) (hU : U.heap = H) (hW : s.vm.Alike U.vm) (hA : ∀ q, A' q → A q) : rSt A' U E := by
  obtain ⟨h1, h2, h3, h4⟩ := h
  subst hU
  exact ⟨va_Z.narrow (va_Z.moved hW (va_Z.kept h1 hS.2.1)) hA, va_T.narrow (va_T.moved hW (va_T.kept h2 hS.2.1)) hA, vx_Zq.narrow (vx_Zq.moved hW (vx_Zq.kept h3 hS.2.1)) hA, vx_Zq.narrow (vx_Zq.moved hW (vx_Zq.kept h4 hS.2.1)) hA⟩
theorem rThr_move {s U : State} (h : rThr s) (hW : s.WarmedH U.vm) : rThr U := fun q hq => by
  obtain ⟨o, text, sa, h1, h2⟩ := h q hq
  exact ⟨o, text, sa, h1, vk_R.warm hW h2⟩
theorem rNcs_move {s U : State} (h : rNcs s) (hW : s.vm.Alike U.vm) : rNcs U := ⟨va_Nc.moved hW h.1, va_Nc.moved hW h.2⟩
theorem rPc_blind (hokw : ∀ w ∈ lwA, okw w = true) {D : va_G} {σ : Nat → Int32} {ρ : Nat → Nat} {κ : Nat → ClassId} {sz E : Nat} {aw : List rC} {as : List rV} : FrameBlind (rPc D σ ρ κ sz E aw as) := by
  intro a U g mk ⟨h0, h1, h2, h3, h4, h5, h6, h7, h8, h9⟩
  have hal : U.vm.Alike (U.calling g mk a).vm := Vm.Alike.refl U.vm
  have hwm : U.WarmedH (U.calling g mk a).vm := State.WarmedH.refl U
  have hvw : ∀ w ∈ lwA, w.before #[] U = true → w.before #[] (U.calling g mk a) = true := fun w hw h => okw_move (hokw w hw) hwm h
  refine ⟨h0, h1, va_K.moved hal h2, fun i t es hi => va_K.moved hal (h3 i t es hi), h4, h5, ?_, rThr_move h7 hwm, rNcs_move h8 hal, fun w hw => hvw w hw (h9 w hw)⟩
  exact rSt_move (H := U.heap) (locs := []) h6 va_S.rf rfl hal (fun _ z => z)
/-- what a run comes to, in a frame -/
def rEnd (p : Program) (l : Launch) (e : Env) (R : Room) (s : State) (m : MethodId) (args : Array Value) (below : List Frame) (meth : Method) (c : Code) (D : va_G) (A : Nat → Prop) (σ : Nat → Int32) (Q : State → Prop) (g : rG) (cc : ByteArray) (own : String) (rk stop : Nat) (ρ : Nat → Nat) (κ : Nat → ClassId) (n : Nat) (out : rR) (aw' : List rC) (kc' ks' : Nat) : Prop :=
  ∀ (ρ' : Nat → Nat) (κ' : Nat → ClassId) (H' : Heap) (locs' : List Loc), rExt n ρ κ ρ' κ' → rIv D A σ s ρ' κ' aw' H' locs' → (match out with
    | .inl v => ∀ (pc : Nat) (ls : Array Slot), decode cc pc = .ok (retI rk, 1) → okR rk v = true → W p l e R s m args below meth c H' locs' kc' ks' Q (F0 m pc ls (v.map (cV ρ' σ)).toList)
    | .inr (.inl E9) => (∀ (pc : Nat) (ls : Array Slot) (rest : List Value) (q : Addr) (ce : Cell) (nm : String), exN[E9]? = some nm → H'[q]? = some ce → ce.vm = .none → s.vm.findClass nm = some ce.cls → (∀ z ∈ c.exceptionTable.toList, hPass own nm args s pc z) → vx_W p l e R s m args below meth c H' locs' kc' ks' Q (F0 m pc ls rest) q) ∧
        (∀ (q : Nat × Nat × Nat × Nat × Nat × Bool) (pc : Nat) (ls : Array Slot) (st : List rV) (kc0 ks0 : Nat), q ∈ tT → q.2.2.2.2.1 = E9 → kc0 + 1 = kc' → ks0 + 6 = ks' → sumR st ≤ 8 → ls.size = c.maxLocals → clsN[q.1]? = some own → c.exceptionTable.toList = [] → (∀ x ∈ dkT q, decode cc (pc + x.1) = .ok (x.2.1, x.2.2)) → W p l e R s m args below meth c H' locs' kc0 ks0 Q (F0 m pc ls (st.map (cV ρ' σ))))
    | .inr (.inr (lv, st)) => ∀ (ls : Array Slot), lv_has ls g.2.2.2.1 (cL ρ' σ lv) → W p l e R s m args below meth c H' locs' kc' ks' Q (F0 m stop ls (st.map (cV ρ' σ))))
theorem rEnd.step (p : Program) (l : Launch) (e : Env) (R : Room) (s : State) (m : MethodId) (args : Array Value) (below : List Frame) (meth : Method) (c : Code) {D : va_G} {A : Nat → Prop} {σ : Nat → Int32} {Q : State → Prop} {g : rG} {cc : ByteArray} {own : String} {rk stop : Nat} {ρ ρ1 : Nat → Nat} {κ κ1 : Nat → ClassId} {n k : Nat} {out : rR} {aw' : List rC} {kc' ks' : Nat} (h : rEnd p l e R s m args below meth c D A σ Q g cc own rk stop ρ κ n out aw' kc' ks') (hx : rExt n ρ κ ρ1 κ1) (hk : n ≤ k) : rEnd p l e R s m args below meth c D A σ Q g cc own rk stop ρ1 κ1 k out aw' kc' ks' :=
  fun ρ' κ' H' locs' hx2 hI => h ρ' κ' H' locs' (hx.trans hx2 hk) hI
theorem lv_args_eq {ρ : Nat → Nat} {σ : Nat → Int32} : ∀ (as : List rV) (i : Nat), lv_args i (as.map (cV ρ σ)) = cL ρ σ (argR i as)
  | [], _ => rfl
  | v :: t, i => by
    have ih := fun j => lv_args_eq (ρ := ρ) (σ := σ) t j
    simp only [List.map_cons, lv_args, argR, cL, cV_cat] at ih ⊢
    rw [ih]
theorem lg_len {ρ : Nat → Nat} {σ : Nat → Int32} : ∀ (as : List rV), (lg_sl (as.map (cV ρ σ))).length = sumR as
  | [] => rfl
  | v :: t => by
    have ih := lg_len (ρ := ρ) (σ := σ) t
    simp only [lg_sl, List.map_cons, List.flatMap_cons, List.length_append, sumR, cV_cat] at ih ⊢
    rw [ih]
    rcases v with v | ⟨b, j⟩
    · cases v <;> simp [catR]
    · cases b <;> simp [catR]
theorem sumR_rev : ∀ (as : List rV), sumR as.reverse = sumR as := by
  have happ : ∀ a b : List rV, sumR (a ++ b) = sumR a + sumR b := by
    intro a b
    induction a with
    | nil => simp [sumR]
    | cons v t ih => simp only [List.cons_append, sumR, ih]; omega
  intro as
  induction as with
  | nil => rfl
  | cons v t ih => rw [List.reverse_cons, happ, ih]; simp only [sumR]; omega
theorem ex_mono (O : rO) (L : Nat) : ∀ (n : Nat) (fl : Bool) (stop id : Nat) (fr : rF) (out : rR) (aw' : List rC) (kc' ks' : Nat), ex O L n fl stop id fr = some (out, aw', kc', ks') → fr.2.2.2.2.1 ≤ kc' ∧ fr.2.2.2.2.2 ≤ ks' ∧ fr.2.2.2.1.length ≤ aw'.length := by
  intro n
  induction n with
  | zero => intro fl stop id fr out aw' kc' ks' h; simp only [ex] at h; cases h
  | succ n ih =>
    intro fl stop id fr out aw' kc' ks' h
    obtain ⟨lv, st, pc, aw, kc, ks⟩ := fr
    simp only [ex] at h
    split at h
    · cases h
      exact ⟨Nat.le_refl _, Nat.le_refl _, Nat.le_refl _⟩
    · split at h
      · rename_i op a o rk hh nL ini hlk hmi
        split at h
        · split at h
          · split at h
            · split at h
              · rename_i t ht fr' hs hm
                simp only [Bool.and_eq_true] at hm
                obtain ⟨i1, i2, i3⟩ := ih _ _ _ _ _ _ _ _ h
                exact ⟨Nat.le_trans (Nat.le_of_ble_eq_true hm.1.1) i1, Nat.le_trans (Nat.le_of_ble_eq_true hm.1.2) i2, Nat.le_trans (Nat.le_of_ble_eq_true hm.2) i3⟩
              · cases h
            · cases h
          · cases h
        · split at h
          · split at h
            · split at h
              · cases h
                exact ⟨Nat.le_refl _, Nat.le_refl _, Nat.le_refl _⟩
              · cases h
            · split at h
              · cases h
                exact ⟨Nat.le_refl _, Nat.le_refl _, Nat.le_refl _⟩
              · cases h
            · cases h
          · split at h
            · split at h
              · split at h
                · split at h
                  · split at h
                    · rename_i hl
                      obtain ⟨i1, i2, i3⟩ := ih _ _ _ _ _ _ _ _ h
                      exact ⟨Nat.le_trans (Nat.le_add_right _ _) i1, Nat.le_trans (Nat.le_add_right _ _) i2, Nat.le_trans (Nat.le_of_ble_eq_true hl) i3⟩
                    · cases h
                  · split at h
                    · rename_i hl
                      simp only [Bool.and_eq_true] at hl
                      have hl1 := Nat.le_of_ble_eq_true hl.1.1
                      split at h
                      · cases h
                        exact ⟨Nat.le_add_right _ _, Nat.le_add_right _ _, hl1⟩
                      · split at h
                        · split at h
                          · obtain ⟨i1, i2, i3⟩ := ih _ _ _ _ _ _ _ _ h
                            exact ⟨Nat.le_trans (Nat.le_add_right _ _) i1, Nat.le_trans (Nat.le_add_right _ _) i2, Nat.le_trans hl1 i3⟩
                          · split at h
                            · obtain ⟨i1, i2, i3⟩ := ih _ _ _ _ _ _ _ _ h
                              exact ⟨Nat.le_trans (Nat.le_add_right _ _) i1, Nat.le_trans (Nat.le_add_right _ _) i2, Nat.le_trans hl1 i3⟩
                            · cases h
                        · cases h
                      · cases h
                    · cases h
                  · cases h
                · cases h
              · cases h
            · split at h
              · split at h
                · split at h
                  · cases h
                    exact ⟨Nat.le_add_right _ _, Nat.le_add_right _ _, Nat.le_refl _⟩
                  · cases h
                · cases h
              · cases h
      · cases h
end
section
def mW (y : MethodName) (cc : ByteArray) (nL : Nat) (ret : Option FieldType) (hr : List (Nat × Nat × Nat × Nat)) : Cond := match hr with
  | [] => .code y cc nL ret
  | _ :: _ => .codeWith y cc nL ret hr
/-- what is known of the method i -/
def rMeth (i : Nat) : Prop := ∀ (o rk : Nat) (hh : List (Nat × Nat × Nat × Nat)) (nL : Nat) (ini : Bool), mI[i]? = some (o, rk, hh, nL, ini) → ∃ (y : MethodName) (cc : ByteArray) (ret : Option FieldType) (hr : List (Nat × Nat × Nat × Nat)), mS[i]? = some (y, cc, ret, hr) ∧ clsN[o]? = some y.cls ∧ plainName y.cls = true ∧ (y.cls ≠ "java/lang/invoke/MethodHandle" ∧ y.cls ≠ "java/lang/invoke/VarHandle") ∧ mW y cc nL ret hr ∈ lwA ∧ Cond.initialized y.cls ∈ lwA ∧ retOk rk ret ∧ (ini = true → y.name = "<init>") ∧ hRel y.cls hh hr ∧ rDec i rk cc ∧ nL ≤ 40
/-- what is known of a throw -/
def rThF (q : Nat × Nat × Nat × Nat × Nat × Bool) : Prop := ∃ (o nm : String) (names : List String), clsN[q.1]? = some o ∧ exN[q.2.2.2.2.1]? = some nm ∧ names.length = 2 ∧ Bundle.fit nm = true ∧ (∀ n ∈ names, Bundle.fit n = true) ∧ Cond.classLink o q.2.1 nm ∈ lwA ∧ Cond.initialized nm ∈ lwA ∧ (∀ w ∈ vx_atS o q.2.2.2.1 nm names, w ∈ lwA) ∧ ∀ w ∈ Cond.classLink o q.2.1 nm :: Cond.initialized nm :: vx_atS o q.2.2.2.1 nm names, vx_ot w = true
def exOk (O : rO) (L n : Nat) : Prop := ∀ (fl : Bool) (stop id : Nat) (fr : rF) (out : rR) (aw' : List rC) (kc' ks' : Nat), ex O L n fl stop id fr = some (out, aw', kc', ks') →
  ∀ (p : Program) (l : Launch) (e : Env) (R : Room) (s : State) (m : MethodId) (args : Array Value) (below : List Frame) (meth : Method) (c : Code) (D : va_G) (A : Nat → Prop) (σ : Nat → Int32) (Q : State → Prop) (o rk : Nat) (hh : List (Nat × Nat × Nat × Nat)) (nL : Nat) (ini : Bool) (cc : ByteArray) (own : String) (E b : Nat) (xs : Nat → Int32) (hr : List (Nat × Nat × Nat × Nat)),
    mI[id]? = some (o, rk, hh, nL, ini) → rX p R s m args meth c D A σ (O, L, fl, nL, o, ini) cc own E b xs → rDec id rk cc → hRel own hh hr → (fl = true ∨ c.exceptionTable.toList = tableOf hr) → l.stackTraces = false → rThr s → rNcs s → rWd s → n + 8 ≤ R.frames → 64 * n + 200 ≤ R.locals → kc' ≤ R.cells → ks' ≤ R.slots →
    ∀ (ρ : Nat → Nat) (κ : Nat → ClassId), ρ 1000 = E → ρ 1001 = b → rEnd p l e R s m args below meth c D A σ Q (O, L, fl, nL, o, ini) cc own rk stop ρ κ fr.2.2.2.1.length out aw' kc' ks' → rGo p l e R s m args below meth c D A σ nL Q ρ κ fr
theorem lt_of_P {D : va_G} {cl : List vw_C} {ws : va_W} {H1 : Heap} (h : va_P D cl ws H1) : ∀ (k : Nat) (q : Nat × va_E), ws[k]? = some q → q.1 < H1.size := fun _ _ hk => vx_lt h hk
theorem keep_P {D : va_G} {cl : List vw_C} {ws : va_W} {H1 H2 : Heap} (h : va_P D cl ws H1) (h2 : ∀ q : Nat, q < H1.size → H2[q]? = H1[q]?) : va_P D cl ws H2 := va_P.kept h (fun k q hk => h2 _ (lt_of_P h k q hk))
theorem met_of {O : rO} {L n : Nat} (hih : exOk O L n) (hM : ∀ i, i ≠ 0 → rMeth i) (hTT : ∀ q ∈ tT, rThF q) (hokw : ∀ w ∈ lwA, okw w = true) {l : Launch} (hl : l.stackTraces = false) {id o rk : Nat} (hid : id ≠ 0) {hh : List (Nat × Nat × Nat × Nat)} {nL : Nat} {ini : Bool} (hmi : mI[id]? = some (o, rk, hh, nL, ini)) {y : MethodName} {cc : ByteArray} {ret : Option FieldType} {hr : List (Nat × Nat × Nat × Nat)} (hms : mS[id]? = some (y, cc, ret, hr)) {aw : List rC} {as : List rV} {out : rR} {aw1 : List rC} {mc ms : Nat}
    (hex : ex O L n false 100000 id (argR 0 as, [], 0, aw, 0, 0) = some (out, aw1, mc, ms)) (hns : ∀ z, out ≠ .inr (.inr z)) (hnl : sumR as ≤ nL) (D : va_G) (σ : Nat → Int32) (ρ : Nat → Nat) (κ : Nat → ClassId) (sz : Nat) (hO : rOr O σ) :
    vx_Met l y [mW y cc nL ret hr] { frames := n + 8, cells := mc, slots := ms, locals := 64 * n + 200 } (rPc D σ ρ κ sz (ρ 1000) aw as) (rQc D σ ρ κ (va_A (cW ρ κ σ 0 aw) sz) aw.length out aw1) (rXc D σ ρ κ (va_A (cW ρ κ σ 0 aw) sz) aw.length out aw1) mc ms (va_A (cW ρ κ σ 0 aw) sz) := by
  obtain ⟨y9, cc9, ret9, hr9, e9, f1, f2, f3, f4, f5, f6, f7, f8, f9, f10⟩ := hM id hid o rk hh nL ini hmi
  cases hms.symm.trans e9
  have key : ∀ (p : Program) (e : Env) (s : State) (m : MethodId) (args : Array Value) (below : List Frame) (meth : Method) (c : Code) (s₁ : State), BodyLoose p l y (headSpec [mW y cc nL ret hr] { frames := n + 8, cells := mc, slots := ms, locals := 64 * n + 200 }) cc nL ret e s m args below meth c s₁ → c.maxLocals = nL → c.exceptionTable.toList = tableOf hr → rPc D σ ρ κ sz (ρ 1000) aw as args s →
      W p l e (headSpec [mW y cc nL ret hr] { frames := n + 8, cells := mc, slots := ms, locals := 64 * n + 200 }).room s m args below meth c s.heap [] 0 0 (vx_MQ below (rQc D σ ρ κ (va_A (cW ρ κ σ 0 aw) sz) aw.length out aw1) (rXc D σ ρ κ (va_A (cW ρ κ σ 0 aw) sz) aw.length out aw1) args s mc ms (va_A (cW ρ κ σ 0 aw) sz)) (entryFrame m args nL) := by
    intro p e s m args below meth c s₁ B hml htab hv
    obtain ⟨rfl, hsz, hK, hKa, hP, hD0, hSt, hTh, hNc, hW⟩ := hv
    subst hsz
    have hown : s.vm.findClass y.cls = some m.cls := findClass_of_methodNamed B.named
    have hname : meth.name = y.name := (name_of_methodNamed B.named B.method).1
    have hlk : meth.locks = false := B.notSynchronized
    have hrt : meth.sig.returnType = ret := B.returns
    have hWa : ∀ w ∈ lwA, w.before (as.map (cV ρ σ)).toArray s = true := fun w hw => okw_move (hokw w hw) (State.WarmedH.refl s) (hW w hw)
    have hl0 := lv_entry (as.map (cV ρ σ)) (n := nL) (by rw [lg_len]; exact hnl)
    rw [lg_entry_eq]
    rw [lv_args_eq] at hl0
    have X : rX p (headSpec [mW y cc nL ret hr] { frames := n + 8, cells := mc, slots := ms, locals := 64 * n + 200 }).room s m (as.map (cV ρ σ)).toArray meth c D (va_A (cW ρ κ σ 0 aw) s.heap.size) σ (O, L, false, nL, o, ini) cc y.cls (ρ 1000) (ρ 1001) σ :=
      ⟨B.exec, B.bytes, hml, hown, hlk, hK, fun q h => Or.inr h, hWa, ⟨Nat.le_add_left 8 n, Nat.le_add_left 200 (64 * n)⟩, hSt, fun h => (by cases h), hO, f1, fun h => hname.trans (f7 h)⟩
    refine hih _ _ _ _ _ _ _ _ hex p l e _ s m _ below meth c D _ σ _ o rk hh nL ini cc y.cls (ρ 1000) (ρ 1001) σ hr hmi X f9 f8 (Or.inr htab) hl hTh hNc hW (Nat.le_refl _) (Nat.le_refl _) (Nat.le_refl _) (Nat.le_refl _) ρ κ rfl rfl ?_ s.heap [] _ ⟨hKa, hP, hD0.self, va_S.rf⟩ hl0
    intro ρ' κ' H' locs' hx hI
    have hQ : ∀ v, out = .inl v → ∀ t : State, t.heap = H' → s.WarmedH t.vm → rQc D σ ρ κ (va_A (cW ρ κ σ 0 aw) s.heap.size) aw.length out aw1 (as.map (cV ρ σ)).toArray s (.returned (v.map (cV ρ' σ))) t := fun v hv t ht hW2 =>
      ⟨⟨v, ρ', κ', hv, rfl, hx, fun i ty es hi => va_K.moved hW2.alike (hI.1 i ty es hi), by rw [ht]; exact hI.2.1, hI.2.2.1⟩, hI.2.2.2.F ht⟩
    have hf : ∀ q ∈ locs', va_A (cW ρ κ σ 0 aw) s.heap.size q.base := hI.2.2.2.2.2
    rcases out with v | E | z
    · intro pc ls hd hok
      have hQv := hQ v rfl
      refine vx_ret ?_
      match rk, v, hok, hd, f6 with
      | 0, none, _, hd, f6 => exact W.vret B.exec B.bytes (hrt.trans f6) hQv hf hd hlk
      | 1, some u, hok, hd, f6 =>
        have hi : isI u = true := hok
        simp only [Option.map_some, Option.toList_some] at hQv ⊢
        rw [cV_int hi] at hQv ⊢
        exact W.iret B.exec B.bytes (hrt.trans f6) hQv hf hd hlk
      | 2, some u, hok, hd, f6 =>
        have hi : isL u = true := hok
        simp only [Option.map_some, Option.toList_some] at hQv ⊢
        rw [cV_long hi] at hQv ⊢
        exact W.lret B.exec B.bytes (hrt.trans f6) hQv hf hd hlk
      | 3, some u, hok, hd, f6 =>
        have hi : isR u = true := hok
        obtain ⟨ty, h1, h2⟩ := f6
        refine W.aret B.exec B.bytes (hrt.trans h1) h2 ?_ hQv hf hd hlk
        unfold isR at hi
        split at hi
        · exact Or.inr ⟨_, rfl⟩
        · exact Or.inl rfl
        · cases hi
      | 4, some (.inl (.float z)), hok, hd, f6 => exact W.fret B.exec B.bytes (hrt.trans f6) hQv hf hd hlk
      | 5, some (.inl (.double z)), hok, hd, f6 => exact W.dret B.exec B.bytes (hrt.trans f6) hQv hf hd hlk
      | 6, some (.inl (.int z)), hok, hd, f6 =>
        have hz : z = 0 ∨ z = 1 := by simpa [okR] using hok
        refine W.zret B.exec B.bytes (hrt.trans f6) ?_ hQv hf hd hlk
        rcases hz with rfl | rfl <;> rfl
      | 7, some (.inl (.int z)), hok, hd, f6 =>
        have hz : z = 112 := by simpa [okR] using hok
        refine W.zret B.exec B.bytes (hrt.trans f6) ?_ hQv hf hd hlk
        rw [hz]
        rfl
    · refine ⟨fun pc ls rest q ce nm hnm hq hv hcl hpass => ?_, fun q pc ls st kc0 ks0 hq he hk1 hk2 hsum hls hclq htab0 hdk => ?_⟩
      · exact vx_outP hown hlk hpass hq hv hcl (fun t ht hal => ⟨⟨E, ρ', κ', rfl, hnm, hx, fun i ty es hi => va_K.moved hal (hI.1 i ty es hi), by rw [ht]; exact hI.2.1, hI.2.2.1⟩, hI.2.2.2.F ht⟩) hf (Nat.le_refl _) (Nat.le_refl _)
      · obtain ⟨o2, nm, names, g1, g2, g3, g4, g5, g6, g7, g8, g9⟩ := hTT q hq
        cases hclq.symm.trans g1
        obtain ⟨o3, text, sa, k1, k2⟩ := hTh q hq
        cases hclq.symm.trans k1
        have hXC : ∀ t : State, s.vm.Alike t.vm → H'.size ≤ t.heap.size → (∀ q : Nat, q < H'.size → t.heap[q]? = H'[q]?) → rXc D σ ρ κ (va_A (cW ρ κ σ 0 aw) s.heap.size) aw.length (.inr (.inl E)) aw1 nm s t := fun t hal h1 h2 =>
          ⟨⟨E, ρ', κ', rfl, by rw [← he]; exact g2, hx, fun i ty es hi => va_K.moved hal (hI.1 i ty es hi), keep_P hI.2.1 h2, hI.2.2.1⟩, ⟨Nat.le_trans hI.2.2.2.1 h1, fun q h3 h4 => (h2 q (Nat.lt_of_lt_of_le h3 hI.2.2.2.1)).trans (hI.2.2.2.2.1 q h3 h4)⟩⟩
        have hout : ∀ z9 : Nat, ∀ x ∈ c.exceptionTable.toList, covers x z9 = false := fun z9 x hx9 => by rw [htab0] at hx9; cases hx9
        obtain ⟨q1, q2, q3, q4, q5, q6⟩ := q
        cases q6 with
        | false =>
          have d0 := hdk (0, .new q2, 3) List.mem_cons_self
          have d3 := hdk (3, .dup, 1) (List.mem_cons_of_mem _ List.mem_cons_self)
          have d4 := hdk (4, .ldc q3, 2) (List.mem_cons_of_mem _ (List.mem_cons_of_mem _ List.mem_cons_self))
          have d6 := hdk (6, .invokespecial q4, 3) (List.mem_cons_of_mem _ (List.mem_cons_of_mem _ (List.mem_cons_of_mem _ List.mem_cons_self)))
          have d9 := hdk (9, .athrow, 1) (List.mem_cons_of_mem _ (List.mem_cons_of_mem _ (List.mem_cons_of_mem _ (List.mem_cons_of_mem _ List.mem_cons_self))))
          exact vx_throwS (names := names) B.exec B.bytes hl hown g4 g5 (hWa _ g6) (hWa _ g7) k2 (fun w hw => hWa _ (g8 w hw)) g9 hSt.2.2.1 hSt.2.2.2 hI.2.2.2 hls d0 d3 d4 d6 d9 (hout _) (by rw [g3]; show 2 + 3 < n + 8; omega) (by rw [sumR_eq, g3]; show _ ≤ 64 * n + 200; omega) (by show kc0 + 1 ≤ mc; omega) (by show ks0 + 6 ≤ ms; omega) hlk hXC hf (Nat.le_of_eq hk1) (Nat.le_of_eq hk2)
        | true =>
          have d0 := hdk (0, .new q2, 3) List.mem_cons_self
          have d3 := hdk (3, .dup, 1) (List.mem_cons_of_mem _ List.mem_cons_self)
          have d4 := hdk (4, .ldc_w q3, 3) (List.mem_cons_of_mem _ (List.mem_cons_of_mem _ List.mem_cons_self))
          have d7 := hdk (7, .invokespecial q4, 3) (List.mem_cons_of_mem _ (List.mem_cons_of_mem _ (List.mem_cons_of_mem _ List.mem_cons_self)))
          have d10 := hdk (10, .athrow, 1) (List.mem_cons_of_mem _ (List.mem_cons_of_mem _ (List.mem_cons_of_mem _ (List.mem_cons_of_mem _ List.mem_cons_self))))
          exact vx_throwSW (names := names) B.exec B.bytes hl hown g4 g5 (hWa _ g6) (hWa _ g7) k2 (fun w hw => hWa _ (g8 w hw)) g9 hSt.2.2.1 hSt.2.2.2 hI.2.2.2 hls d0 d3 d4 d7 d10 (hout _) (by rw [g3]; show 2 + 3 < n + 8; omega) (by rw [sumR_eq, g3]; show _ ≤ 64 * n + 200; omega) (by show kc0 + 1 ≤ mc; omega) (by show ks0 + 6 ≤ ms; omega) hlk hXC hf (Nat.le_of_eq hk1) (Nat.le_of_eq hk2)
    · exact absurd rfl (hns z)
  cases hr with
  | nil =>
    exact vx_ofW f2 rfl (fun p e s m args below meth c s₁ B hml ht hv => key p e s m args below meth c s₁ B hml (List.eq_nil_iff_forall_not_mem.mpr (fun x hx => ht x hx)) hv)
  | cons z0 zr =>
    exact vx_ofWH f2 rfl (fun p e s m args below meth c s₁ B hml hv => key p e s m args below meth c s₁ B hml (vx_table (x := y) B (atoms_spec (ws := [mW y cc nL ret (z0 :: zr)]) B.pre _ List.mem_cons_self)) hv)
end
section
/-- what is known of a call -/
def arOk (d : String) (k : Nat) : Prop := (parseMethodDescriptor d).map (fun d => d.parameters.length) = some k
def rCall (q : Nat × Nat × Nat × Nat × Nat × Nat × Nat) : Prop := ∃ (o : String) (y : MethodName) (cc : ByteArray) (ret : Option FieldType) (hr : List (Nat × Nat × Nat × Nat)), clsN[q.2.1]? = some o ∧ mS[q.2.2.2.1]? = some (y, cc, ret, hr) ∧ q.2.2.2.1 ≠ 0 ∧ (match q.1 with
  | 0 => hr = [] ∧ (∃ (T : u_T) (N : Nat), vwC9[q.2.2.2.2.2.1]? = some (y.cls, T, N)) ∧ Cond.methodLink o q.2.2.1 y ∈ lwA ∧ Cond.instanceMethod y ∈ lwA ∧ Cond.selects y.cls y y ∈ lwA ∧ 1 ≤ q.2.2.2.2.1 ∧ arOk y.desc (q.2.2.2.2.1 - 1)
  | 1 => hr = [] ∧ ret = none ∧ y.name = "<init>" ∧ Cond.methodLink o q.2.2.1 y ∈ lwA ∧ Cond.instanceMethod y ∈ lwA ∧ 1 ≤ q.2.2.2.2.1 ∧ arOk y.desc (q.2.2.2.2.1 - 1)
  | 2 => hr = [] ∧ Cond.methodLink o q.2.2.1 y ∈ lwA ∧ Cond.static y ∈ lwA ∧ arOk y.desc q.2.2.2.2.1
  | 3 => hr = [] ∧ ret = none ∧ y.name = "<init>" ∧ (∃ host : String, Cond.methodLinkNest o q.2.2.1 y host ∈ lwA) ∧ Cond.instanceMethod y ∈ lwA ∧ 1 ≤ q.2.2.2.2.1 ∧ arOk y.desc (q.2.2.2.2.1 - 1)
  | 4 => hr = [] ∧ (∃ (x : MethodName) (C : String) (T : u_T) (N : Nat), vwC9[q.2.2.2.2.2.1]? = some (C, T, N) ∧ Cond.methodLink o q.2.2.1 x ∈ lwA ∧ Cond.declares x ∈ lwA ∧ Cond.interfaceMethod x.cls x.cls x.name x.desc ∈ lwA ∧ Cond.selects C x y ∈ lwA ∧ Cond.instanceMethod y ∈ lwA ∧ Cond.publicMethod y ∈ lwA ∧ Cond.unhidden C x.name x.desc ∈ lwA ∧ Cond.castable C x.cls ∈ lwA ∧ arOk x.desc (q.2.2.2.2.1 - 1) ∧ (x.cls ≠ "java/lang/invoke/MethodHandle" ∧ x.cls ≠ "java/lang/invoke/VarHandle")) ∧ 1 ≤ q.2.2.2.2.1
  | 5 => hr ≠ [] ∧ Cond.methodLink o q.2.2.1 y ∈ lwA ∧ Cond.static y ∈ lwA ∧ arOk y.desc q.2.2.2.2.1
  | _ => False)
def rRun (p : Program) (l : Launch) (e : Env) (R : Room) (s : State) (m : MethodId) (args : Array Value) (below : List Frame) (meth : Method) (c : Code) (H : Heap) (locs : List Loc) (cells slots mc ms : Nat) (g : JFrame) (rest : List Value) (len : Nat) (Qa : State → Outcome → State → Prop) (XC : String → State → State → Prop) (free : Addr → Prop) : Prop :=
  ∀ T : State, T.heap = H → Stand p l e R s m args below meth c T locs cells slots →
    (∃ (v : Option Value) (st₀ t T' : State) (L : List Loc), st₀.heap = H ∧ Stand p l e R s m args below meth c T' (locs ++ L) (cells + mc) (slots + ms) ∧ (∀ q ∈ L, free q.base) ∧ T'.heap = t.heap ∧ T'.vm = t.vm ∧ Qa st₀ (.returned v) t ∧
      Goes p e below T g T' { g with pc := g.pc + len, stack := v.toList ++ rest }) ∨
    (∃ (q : Addr) (st₀ t T' : State) (L : List Loc) (E : String) (ce : Cell), st₀.heap = H ∧ Stand p l e R s m args below meth c T' (locs ++ L) (cells + mc) (slots + ms) ∧ (∀ z ∈ L, free z.base) ∧ T'.heap = t.heap ∧ T'.vm = t.vm ∧ XC E st₀ t ∧ t.heap[q]? = some ce ∧ ce.vm = .none ∧ s.vm.findClass E = some ce.cls ∧
      Steps p.tables e below (T.setTop g) ((T'.setTop { g with stack := rest }).pushFrame (.throwing q)))
theorem call_W (p : Program) (l : Launch) (e : Env) (R : Room) (s : State) (m : MethodId) (args : Array Value) (below : List Frame) (meth : Method) (c : Code) {D : va_G} {A A1 : Nat → Prop} {σ : Nat → Int32} {Q : State → Prop} {ρ : Nat → Nat} {κ : Nat → ClassId} {H : Heap} {locs : List Loc} {kc ks mc ms pc : Nat} {ls : Array Slot} {st0 rest : List Value} {len n : Nat} {out : rR} {aw1 : List rC} {av : Array Value}
    (hr : rRun p l e R s m args below meth c H locs kc ks mc ms (F0 m pc ls st0) rest len (rQc D σ ρ κ A1 n out aw1 av) (rXc D σ ρ κ A1 n out aw1) A1) (hS : va_S A s.heap H locs) (hA1 : ∀ q, A1 q → A q)
    (kk : ∀ (v : Option rV) (ρ' : Nat → Nat) (κ' : Nat → ClassId) (H1 : Heap) (locs1 : List Loc), out = .inl v → rExt n ρ κ ρ' κ' → rIv D A σ s ρ' κ' aw1 H1 locs1 → W p l e R s m args below meth c H1 locs1 (kc + mc) (ks + ms) Q (F0 m (pc + len) ls ((v.map (cV ρ' σ)).toList ++ rest)))
    (kx : ∀ (E : Nat) (nm : String) (ρ' : Nat → Nat) (κ' : Nat → ClassId) (H1 : Heap) (locs1 : List Loc) (q : Addr) (ce : Cell), out = .inr (.inl E) → exN[E]? = some nm → rExt n ρ κ ρ' κ' → rIv D A σ s ρ' κ' aw1 H1 locs1 → H1[q]? = some ce → ce.vm = .none → s.vm.findClass nm = some ce.cls → vx_W p l e R s m args below meth c H1 locs1 (kc + mc) (ks + ms) Q (F0 m pc ls rest) q) :
    W p l e R s m args below meth c H locs kc ks Q (F0 m pc ls st0) := by
  intro T hT X
  rcases hr T hT X with ⟨v, st₀, t, T', L, h0, X', hL, e1, e2, ⟨⟨v9, ρ', κ', ho, hv, hAft⟩, hF⟩, st⟩ | ⟨q, st₀, t, T', L, E, ce, h0, X', hL, e1, e2, ⟨⟨E9, ρ', κ', ho, hnm, hAft⟩, hF⟩, hce, hcv, hcl, st⟩
  · cases hv
    obtain ⟨k1, k2, k3⟩ := vx_keep h0 e1 hS (fun q _ z => hA1 q z) (fun q z => hA1 q z) hL hF
    obtain ⟨x1, x2, x3, x4⟩ := hAft
    have hal : s.vm.Alike t.vm := by rw [← e2]; exact X'.warmed.alike
    obtain ⟨t2, a1, b1⟩ := kk v9 ρ' κ' T'.heap (locs ++ L) ho x1 ⟨fun i ty es hi => va_K.moved hal.symm (x2 i ty es hi), by rw [e1]; exact x3, va_D.weaken x4 (fun _ _ _ z => hA1 _ z), k3⟩ T' rfl X'
    exact ⟨t2, st t2 a1, b1⟩
  · obtain ⟨k1, k2, k3⟩ := vx_keep h0 e1 hS (fun q _ z => hA1 q z) (fun q z => hA1 q z) hL hF
    obtain ⟨x1, x2, x3, x4⟩ := hAft
    have hal : s.vm.Alike t.vm := by rw [← e2]; exact X'.warmed.alike
    obtain ⟨t2, a1, b1⟩ := kx E9 E ρ' κ' T'.heap (locs ++ L) q ce ho hnm x1 ⟨fun i ty es hi => va_K.moved hal.symm (x2 i ty es hi), by rw [e1]; exact x3, va_D.weaken x4 (fun _ _ _ z => hA1 _ z), k3⟩ (by rw [e1]; exact hce) hcv hcl T' rfl X'
    exact ⟨t2, st.trans a1, b1⟩
theorem lv_tail {ls : Array Slot} {nL : Nat} {x : Nat × Value} {l : List (Nat × Value)} (h : lv_has ls nL (x :: l)) : lv_has ls nL l := ⟨h.1, h.2.1, fun q hq => h.2.2 q (List.mem_cons_of_mem _ hq)⟩
theorem dropL_eq {ρ : Nat → Nat} {σ : Nat → Int32} (lv : rL) (i : Nat) : (cL ρ σ lv).filter (fun q => !(q.1 == i) && !(q.1 + 1 == i && q.2.category == 2)) = cL ρ σ (dropL lv i) := by
  rw [cL_filter (f := fun q => !(q.1 == i) && !(q.1 + 1 == i && catR q.2 == 2)) (fun q => by simp only [cV_cat])]
  rfl
theorem wfL_drop {n : Nat} {lv : rL} {i : Nat} (h : wfL n lv = true) : wfL n (dropL lv i) = true := by
  unfold wfL dropL at *
  rw [List.all_eq_true] at h ⊢
  intro x hx
  exact h x (List.mem_filter.mp hx).1
theorem ex_ok (O : rO) (L : Nat) (hM : ∀ i, i ≠ 0 → rMeth i) (hTT : ∀ q ∈ tT, rThF q) (hCT : ∀ q ∈ cT, rCall q) (hokw : ∀ w ∈ lwA, okw w = true) (hop : ∀ t ∈ opT, rOk t.1 t.2) (h9 : opT[9]? = some ((fun a => [(0, .astore_n (Fin.ofNat 4 a.toNat), 1)]), sSt isA 1)) (h10 : opT[10]? = some ((fun a => [(0, .astore a.toNat, 2)]), sSt isA 2)) : ∀ n, exOk O L n := by
  intro n
  induction n with
  | zero =>
    intro fl stop id fr out aw' kc' ks' h
    simp only [ex] at h
    cases h
  | succ n ih =>
    intro fl stop id fr out aw' kc' ks' h p l e R s m args below meth c D A σ Q o rk hh nL ini cc own E b xs hr hmi X hdec hrel htab hl hTh hNc hWd hfr hlo hkc hks ρ κ hE hb hEnd
    obtain ⟨lv, st, pc, aw, kc, ks⟩ := fr
    simp only [ex] at h
    split at h
    · rename_i hst
      cases h
      cases Nat.eq_of_beq_eq_true hst
      exact fun H locs ls hI hlv => hEnd ρ κ H locs rExt.rf hI ls hlv
    · split at h
      · rename_i op a o1 rk1 hh1 nL1 ini1 hlk hmi1
        cases hmi.symm.trans hmi1
        have hdk := look_dec hdec hlk
        split at h
        · rename_i hop1
          have hdk0 : dkAll rk op a = (match opT[op]? with | some t => t.1 a | none => []) := by simp only [dkAll, hop1, if_true]; rfl
          split at h
          · rename_i t ht
            rw [hdk0, ht] at hdk
            split at h
            · rename_i fr' hs
              split at h
              · rename_i hm
                simp only [Bool.and_eq_true] at hm
                have hmono := ex_mono O L _ _ _ _ _ _ _ _ _ h
                have hlen : aw.length ≤ fr'.2.2.2.1.length := Nat.le_of_ble_eq_true hm.2
                refine hop t (List.mem_of_getElem? ht) p l e R s m args below meth c D A σ Q (O, L, fl, nL, o, ini) cc own E b xs a (lv, st, pc, aw, kc, ks) fr' X hdk hs (Nat.le_trans hmono.1 hkc) (Nat.le_trans hmono.2.1 hks) ρ κ hE hb (fun ρ1 κ1 hx1 => ?_)
                exact ih fl stop id fr' out aw' kc' ks' h p l e R s m args below meth c D A σ Q o rk hh nL ini cc own E b xs hr hmi X hdec hrel htab hl hTh hNc hWd (by omega) (by omega) hkc hks ρ1 κ1 ((hx1.1 1000 (Or.inr (by decide))).trans hE) ((hx1.1 1001 (Or.inr (by decide))).trans hb) (rEnd.step p l e R s m args below meth c hEnd hx1 hlen)
              · cases h
            · cases h
          · cases h
        · rename_i hop1
          split at h
          · rename_i hop2
            have hdk0 : dkAll rk op a = [(0, retI rk, 1)] := by simp only [dkAll, hop1, hop2, if_true]; rfl
            rw [hdk0] at hdk
            have d := hdk _ List.mem_cons_self
            split at h
            · split at h
              · rename_i hok
                cases h
                exact fun H locs ls hI hlv => hEnd ρ κ H locs rExt.rf hI pc ls d hok
              · cases h
            · split at h
              · rename_i hok
                cases h
                exact fun H locs ls hI hlv => hEnd ρ κ H locs rExt.rf hI pc ls d hok
              · cases h
            · cases h
          · rename_i hop2
            split at h
            · rename_i hop3
              split at h
              · rename_i kind oc ix tgt na ci cnt hq
                have hdk0 : dkAll rk op a = [(0, callR (kind, oc, ix, tgt, na, ci, cnt), if Nat.beq kind 4 then 5 else 3)] := by simp only [dkAll, hop1, hop2, hop3, hq, if_true]; rfl
                rw [hdk0] at hdk
                have dq := hdk _ List.mem_cons_self
                have d : decode cc pc = .ok (callR (kind, oc, ix, tgt, na, ci, cnt), if Nat.beq kind 4 then 5 else 3) := dq
                split at h
                · rename_i hcnd
                  simp only [Bool.and_eq_true, Bool.or_eq_true] at hcnd
                  obtain ⟨⟨hoc, hna⟩, ⟨hsum, hwl⟩, ⟨hwr, hn9⟩, hrc, hnl⟩ := hcnd
                  have hna : na ≤ st.length := Nat.le_of_ble_eq_true hna
                  have hsum : sumR (st.drop na) ≤ 8 := Nat.le_of_ble_eq_true hsum
                  obtain ⟨ow, y, cc2, ret2, hr2, g1, g2, gne, g3⟩ := hCT _ (List.mem_of_getElem? hq)
                  cases own_eq X.2.2.2.2.2.2.2.2.2.2.2.2.1 g1 hoc
                  -- the callee
                  have hcal : ∃ o2 rk2 hh2 nL2 ini2, mI[tgt]? = some (o2, rk2, hh2, nL2, ini2) ∧ sumR (st.take na) ≤ nL2 := by
                    unfold nLok at hnl
                    split at hnl
                    · rename_i o2 rk2 hh2 nL2 ini2 hm2
                      exact ⟨o2, rk2, hh2, nL2, ini2, hm2, Nat.le_of_ble_eq_true hnl⟩
                    · cases hnl
                  obtain ⟨o2, rk2, hh2, nL2, ini2, hm2, hnl2⟩ := hcal
                  obtain ⟨y9, cc9, ret9, hr9, e9, f1, f2, f3, f4, f5, f6, f7, f8, f9, f10⟩ := hM tgt gne o2 rk2 hh2 nL2 ini2 hm2
                  cases g2.symm.trans e9
                  have hstk : st.map (cV ρ σ) = (((st.take na).reverse).map (cV ρ σ)).reverse ++ (st.drop na).map (cV ρ σ) := by
                    rw [← List.map_reverse, List.reverse_reverse, ← List.map_append, List.take_append_drop]
                  have hrest : 2 * (F0 m pc #[] ((st.drop na).map (cV ρ σ))).monitorRoom + (((st.drop na).map (cV ρ σ)).map fun v => v.category).sum ≤ 8 := by
                    rw [sumR_eq]
                    show 2 * 0 + sumR (st.drop na) ≤ 8
                    omega
                  have hR1 : n + 8 + 1 ≤ R.frames := by omega
                  have hR2 : 8 + (nL2 + 11) + (64 * n + 200) ≤ R.locals := by omega
                  obtain ⟨hx, hbc, hml, hown, hlk2, hK, hA, hW, ⟨hX1, hX2⟩, hSt, hSc, hO, hcl, hin⟩ := X
                  have hCF : CallFix p m c cc nL s args lwA own := ⟨hx, hbc, hml, hown, hW⟩
                  -- any call gives this
                  have hrun : ∀ (out1 : rR) (aw1 : List rC) (mc ms : Nat), ex O L n false 100000 tgt (argR 0 (st.take na).reverse, [], 0, aw, 0, 0) = some (out1, aw1, mc, ms) → (∀ z, out1 ≠ .inr (.inr z)) → kc + mc ≤ R.cells → ks + ms ≤ R.slots → ∀ (H : Heap) (locs : List Loc) (ls : Array Slot), rIv D A σ s ρ κ aw H locs → lv_has ls nL (cL ρ σ lv) →
                      rRun p l e R s m args below meth c H locs kc ks mc ms (F0 m pc ls (st.map (cV ρ σ))) ((st.drop na).map (cV ρ σ)) (if Nat.beq kind 4 then 5 else 3) (rQc D σ ρ κ (va_A (cW ρ κ σ 0 aw) H.size) aw.length out1 aw1 (((st.take na).reverse).map (cV ρ σ)).toArray) (rXc D σ ρ κ (va_A (cW ρ κ σ 0 aw) H.size) aw.length out1 aw1) (va_A (cW ρ κ σ 0 aw) H.size) := by
                    intro out1 aw1 mc ms hex hns hcc hss H locs ls hI hlv
                    have hMet := met_of ih hM hTT hokw hl gne hm2 g2 hex hns (by rw [sumR_rev]; exact hnl2) D σ ρ κ H.size hO
                    have hFA : ∀ q, va_A (cW ρ κ σ 0 aw) H.size q → A q := fun q hq => by
                      rcases hq with ⟨k9, e9, hk9⟩ | hq
                      · exact hI.2.2.1.2 k9 _ hk9
                      · exact hA q (Nat.le_trans hI.2.2.2.1 hq)
                    have hPre : ∀ U : State, U.heap = H → s.WarmedH U.vm → rPc D σ ρ κ H.size (ρ 1000) aw (st.take na).reverse (((st.take na).reverse).map (cV ρ σ)).toArray U := fun U hU hWU =>
                      ⟨rfl, by rw [hU], va_K.moved hWU.alike hK, fun i t es hi => va_K.moved hWU.alike (hI.1 i t es hi), by rw [hU]; exact hI.2.1, va_D.weaken hI.2.2.1 (fun _ _ _ _ => trivial), rSt_move (by rw [hE]; exact hSt) hI.2.2.2 hU hWU.alike hFA, rThr_move hTh hWU, rNcs_move hNc hWU.alike, fun w hw => okw_move (hokw w hw) hWU (hWd w hw)⟩
                    have hws : ∀ w ∈ [mW y cc2 nL2 ret2 hr2], ∀ (a' : Array Value) (U : State), s.WarmedH U.vm → w.before a' U = true := fun w hw a' U hWU => by
                      rw [List.mem_singleton] at hw
                      subst hw
                      exact okw_move (hokw _ f4) hWU (hW _ f4)
                    have hls : ls.size = nL := hlv.1
                    have harN : ∀ {dd : String} {k9 : Nat}, arOk dd k9 → ∀ sig, parseMethodDescriptor dd = some sig → k9 = sig.parameters.length := fun har sig hsig => by
                      unfold arOk at har
                      rw [hsig] at har
                      exact (Option.some.inj har).symm
                    have hlenA : ((st.take na).reverse).length = na := by rw [List.length_reverse, List.length_take]; omega
                    match kind, d, g3, hrc with
                    | 0, d, g3, hrc =>
                      obtain ⟨rfl, ⟨T9, N9, hv9⟩, w1, w2, w3, hn1, har⟩ := g3
                      obtain ⟨r9, as9, has⟩ : ∃ r9 as9, (st.take na).reverse = .inl (.ref r9) :: as9 ∧ rcv 0 ci aw (.inl (.ref r9) :: as9) = true := by
                        rcases hrc with hrc | hrc | hrc
                        · cases hrc
                        · cases hrc
                        · unfold rcv at hrc
                          split at hrc
                          · rename_i r9 as9 he
                            exact ⟨r9, as9, he, hrc⟩
                          · cases hrc
                      obtain ⟨has, hrv⟩ := has
                      obtain ⟨fs9, hr9⟩ : ∃ fs9, aw[r9]? = some (.inr (ci, fs9)) := by
                        simp only [rcv] at hrv
                        split at hrv
                        · rename_i hh9
                          cases hh9
                        · split at hrv
                          · rename_i cj fs9 h9
                            cases Nat.eq_of_beq_eq_true hrv
                            exact ⟨fs9, h9⟩
                          · cases hrv
                      rw [has] at hMet hPre hstk hlenA
                      rw [has]
                      refine vx_runV (As := as9.map (cV ρ σ)) (b := ρ r9) (n := na - 1) hCF hMet ⟨⟨rfl, rfl, hR1, hR2, hws, List.mem_singleton.mpr rfl, hW _ f4, hW _ f5, f3, harN har, hW _ w1⟩, hW _ w2, hW _ w3⟩ ⟨rPc_blind hokw, va_recv hK hI.2.1 (q := (y.cls, T9, N9)) hv9 (cW_at hr9), hPre⟩ rfl (by rw [List.length_map]; simp only [List.length_cons] at hlenA; omega) hls (hstk.trans (by simp only [List.map_cons, List.reverse_cons, List.append_assoc]; rfl)) hrest d ⟨hcc, hss⟩
                    | 1, d, g3, hrc =>
                      obtain ⟨rfl, rfl, hnm1, w1, w2, hn1, har⟩ := g3
                      obtain ⟨r9, as9, has⟩ : ∃ r9 as9, (st.take na).reverse = .inl (.ref r9) :: as9 := by
                        rcases hrc with hrc | hrc | hrc
                        · cases hrc
                        · cases hrc
                        · unfold rcv at hrc
                          split at hrc
                          · rename_i r9 as9 he
                            exact ⟨r9, as9, he⟩
                          · cases hrc
                      rw [has] at hMet hPre hstk hlenA
                      rw [has]
                      refine vx_runI (As := as9.map (cV ρ σ)) (b := ρ r9) (n := na - 1) hCF hMet ⟨⟨rfl, rfl, hR1, hR2, hws, List.mem_singleton.mpr rfl, hW _ f4, hW _ f5, f3, harN har, hW _ w1⟩, hnm1, hW _ w2⟩ ⟨rPc_blind hokw, hPre⟩ rfl (by rw [List.length_map]; simp only [List.length_cons] at hlenA; omega) hls (hstk.trans (by simp only [List.map_cons, List.reverse_cons, List.append_assoc]; rfl)) hrest d ⟨hcc, hss⟩
                    | 2, d, g3, hrc =>
                      obtain ⟨rfl, w1, w2, har⟩ := g3
                      refine vx_runS (As := ((st.take na).reverse).map (cV ρ σ)) (n := na) hCF hMet ⟨⟨rfl, rfl, hR1, hR2, hws, List.mem_singleton.mpr rfl, hW _ f4, hW _ f5, f3, harN har, hW _ w1⟩, hW _ w2⟩ ⟨rPc_blind hokw, hPre⟩ rfl (by rw [List.length_map]; exact hlenA) hls hstk hrest d ⟨hcc, hss⟩
                    | 3, d, g3, hrc =>
                      obtain ⟨rfl, rfl, hnm1, ⟨host, w1⟩, w2, hn1, har⟩ := g3
                      obtain ⟨r9, as9, has⟩ : ∃ r9 as9, (st.take na).reverse = .inl (.ref r9) :: as9 := by
                        rcases hrc with hrc | hrc | hrc
                        · cases hrc
                        · cases hrc
                        · unfold rcv at hrc
                          split at hrc
                          · rename_i r9 as9 he
                            exact ⟨r9, as9, he⟩
                          · cases hrc
                      rw [has] at hMet hPre hstk hlenA
                      rw [has]
                      refine vx_runIN (As := as9.map (cV ρ σ)) (b := ρ r9) (n := na - 1) hCF hMet ⟨⟨⟨rfl, rfl, hR1, hR2, hws, List.mem_singleton.mpr rfl⟩, hW _ f4, hW _ f5, f3, harN har, hW _ w1⟩, hnm1, hW _ w2⟩ ⟨rPc_blind hokw, hPre⟩ rfl (by rw [List.length_map]; simp only [List.length_cons] at hlenA; omega) hls (hstk.trans (by simp only [List.map_cons, List.reverse_cons, List.append_assoc]; rfl)) hrest d ⟨hcc, hss⟩
                    | 4, d, g3, hrc =>
                      obtain ⟨rfl, ⟨x9, C9, T9, N9, hv9, w1, w2, w3, w4, w5, w6, w7, w8, har, hx9⟩, hn1⟩ := g3
                      obtain ⟨r9, as9, has⟩ : ∃ r9 as9, (st.take na).reverse = .inl (.ref r9) :: as9 ∧ rcv 4 ci aw (.inl (.ref r9) :: as9) = true := by
                        rcases hrc with hrc | hrc | hrc
                        · cases hrc
                        · cases hrc
                        · unfold rcv at hrc
                          split at hrc
                          · rename_i r9 as9 he
                            exact ⟨r9, as9, he, hrc⟩
                          · cases hrc
                      obtain ⟨has, hrv⟩ := has
                      obtain ⟨fs9, hr9⟩ : ∃ fs9, aw[r9]? = some (.inr (ci, fs9)) := by
                        simp only [rcv] at hrv
                        split at hrv
                        · rename_i hh9
                          cases hh9
                        · split at hrv
                          · rename_i cj fs9 h9
                            cases Nat.eq_of_beq_eq_true hrv
                            exact ⟨fs9, h9⟩
                          · cases hrv
                      rw [has] at hMet hPre hstk hlenA
                      rw [has]
                      refine vx_runF (As := as9.map (cV ρ σ)) (b := ρ r9) (n := na - 1) (hK.1 ci _ hv9).2 hCF hMet ⟨⟨rfl, rfl, hR1, hR2, hws, List.mem_singleton.mpr rfl⟩, hW _ w1, hW _ w2, hW _ w3, hW _ w4, hW _ w5, hW _ w6, hW _ w7, hW _ w8, hW _ f5, hW _ f4, hx9, harN har⟩ ⟨rPc_blind hokw, va_recv hK hI.2.1 (q := (C9, T9, N9)) hv9 (cW_at hr9), hPre⟩ rfl (by rw [List.length_map]; simp only [List.length_cons] at hlenA; omega) hls (hstk.trans (by simp only [List.map_cons, List.reverse_cons, List.append_assoc]; rfl)) hrest d ⟨hcc, hss⟩
                    | 5, d, g3, hrc =>
                      obtain ⟨hr5, w1, w2, har⟩ := g3
                      cases hr2 with
                      | nil => exact absurd rfl hr5
                      | cons z5 r5 =>
                        refine vx_runSX (As := ((st.take na).reverse).map (cV ρ σ)) (n := na) hCF hMet ⟨⟨rfl, rfl, hR1, hR2, hws, List.mem_singleton.mpr rfl⟩, hW _ f4, hW _ f5, f3, harN har, hW _ w1, hW _ w2⟩ ⟨rPc_blind hokw, hPre⟩ rfl (by rw [List.length_map]; exact hlenA) hls hstk hrest d ⟨hcc, hss⟩
                  have X2 : rX p R s m args meth c D A σ (O, L, fl, nL, o, ini) cc own E b xs := ⟨hx, hbc, hml, hown, hlk2, hK, hA, hW, ⟨hX1, hX2⟩, hSt, hSc, hO, hcl, hin⟩
                  split at h
                  · rename_i v aw1 mc ms hex
                    split at h
                    · rename_i hle
                      have hle : aw.length ≤ aw1.length := Nat.le_of_ble_eq_true hle
                      have hmono := ex_mono O L _ _ _ _ _ _ _ _ _ h
                      intro H locs ls hI hlv
                      have hFA : ∀ q, va_A (cW ρ κ σ 0 aw) H.size q → A q := fun q hq => by
                        rcases hq with ⟨k9, e9, hk9⟩ | hq
                        · exact hI.2.2.1.2 k9 _ hk9
                        · exact hA q (Nat.le_trans hI.2.2.2.1 hq)
                      refine call_W p l e R s m args below meth c (hrun _ aw1 mc ms hex (fun z hz => by cases hz) (Nat.le_trans hmono.1 hkc) (Nat.le_trans hmono.2.1 hks) H locs ls hI hlv) hI.2.2.2 hFA (fun v9 ρ1 κ1 H1 locs1 ho hx1 hI1 => ?_) (fun E9 nm ρ1 κ1 H1 locs1 q ce ho => by cases ho)
                      cases ho
                      have kk := ih fl stop id _ out aw' kc' ks' h p l e R s m args below meth c D A σ Q o rk hh nL ini cc own E b xs hr hmi X2 hdec hrel htab hl hTh hNc hWd (by omega) (by omega) hkc hks ρ1 κ1 ((hx1.1 1000 (Or.inr (by decide))).trans hE) ((hx1.1 1001 (Or.inr (by decide))).trans hb) (rEnd.step p l e R s m args below meth c hEnd hx1 hle) H1 locs1 ls hI1 (by rw [cL_ext hx1 hwl]; exact hlv)
                      have e1 : (v.toList ++ st.drop na).map (cV ρ1 σ) = (v.map (cV ρ1 σ)).toList ++ (st.drop na).map (cV ρ σ) := by
                        rw [List.map_append, cVs_ext hx1 hwr]
                        cases v <;> rfl
                      rw [← e1]
                      exact kk
                    · cases h
                  · rename_i E9 aw1 mc ms hex
                    split at h
                    · rename_i hle
                      simp only [Bool.and_eq_true, Bool.not_eq_true'] at hle
                      obtain ⟨⟨hle, hk4⟩, hflf⟩ := hle
                      have htab1 : c.exceptionTable.toList = tableOf hr := htab.resolve_left (by rw [hflf]; decide)
                      have hle : aw.length ≤ aw1.length := Nat.le_of_ble_eq_true hle
                      split at h
                      · rename_i hnd0
                        cases h
                        intro H locs ls hI hlv
                        have hFA : ∀ q, va_A (cW ρ κ σ 0 aw) H.size q → A q := fun q hq => by
                          rcases hq with ⟨k9, e9, hk9⟩ | hq
                          · exact hI.2.2.1.2 k9 _ hk9
                          · exact hA q (Nat.le_trans hI.2.2.2.1 hq)
                        refine call_W p l e R s m args below meth c (hrun _ _ mc ms hex (fun z hz => by cases hz) hkc hks H locs ls hI hlv) hI.2.2.2 hFA (fun v9 ρ1 κ1 H1 locs1 ho => by cases ho) (fun E8 nm ρ1 κ1 H1 locs1 q ce ho hnm hx1 hI1 hq9 hv9 hcl9 => ?_)
                        cases ho
                        exact (hEnd ρ1 κ1 H1 locs1 hx1 hI1).1 pc ls _ q ce nm hnm hq9 hv9 hcl9 (by rw [htab1]; exact hnd_none hnm hW hNc hrel hnd0)
                      · rename_i t0 hnd0
                        split at h
                        · rename_i op2 b2 hlk9
                          have hdk2 := look_dec hdec hlk9
                          split at h
                          · rename_i hc2
                            simp only [Bool.and_eq_true] at hc2
                            obtain ⟨⟨hop9, hb4⟩, hbn⟩ := hc2
                            cases Nat.eq_of_beq_eq_true hop9
                            have d2 : decode cc t0 = .ok (.astore_n (Fin.ofNat 4 b2.toNat), 1) := hdk2 (0, .astore_n (Fin.ofNat 4 b2.toNat), 1) (by simp only [dkAll, h9]; exact List.mem_cons_self)
                            have hmono := ex_mono O L _ _ _ _ _ _ _ _ _ h
                            intro H locs ls hI hlv
                            have hFA : ∀ q, va_A (cW ρ κ σ 0 aw) H.size q → A q := fun q hq => by
                              rcases hq with ⟨k9, e9, hk9⟩ | hq
                              · exact hI.2.2.1.2 k9 _ hk9
                              · exact hA q (Nat.le_trans hI.2.2.2.1 hq)
                            refine call_W p l e R s m args below meth c (hrun _ _ mc ms hex (fun z hz => by cases hz) (Nat.le_trans hmono.1 hkc) (Nat.le_trans hmono.2.1 hks) H locs ls hI hlv) hI.2.2.2 hFA (fun v9 ρ1 κ1 H1 locs1 ho => by cases ho) (fun E8 nm ρ1 κ1 H1 locs1 q ce ho hnm hx1 hI1 hq9 hv9 hcl9 => ?_)
                            cases ho
                            obtain ⟨pre, x9, suf, k1, k2, k3, k4, k5, k6, k7⟩ := hnd_some hnm hW hNc hrel hnd0
                            refine vx_catch hown pre x9 suf (htab1.trans k1) k2 k3 k4 k5 k6 hq9 hv9 hcl9 ?_
                            rw [k7]
                            refine lv_astore_n (lv' := (b2.toNat, .ref q) :: cL ρ σ (dropL lv b2.toNat)) hx hbc d2 (fin4 (by simpa using hb4)) hlv (by simpa using hbn) (by rw [← dropL_eq]) (fun ls' hls' => ?_)
                            exact ih fl stop id _ out aw' kc' ks' h p l e R s m args below meth c D A σ Q o rk hh nL ini cc own E b xs hr hmi X2 hdec hrel htab hl hTh hNc hWd (by omega) (by omega) hkc hks ρ1 κ1 ((hx1.1 1000 (Or.inr (by decide))).trans hE) ((hx1.1 1001 (Or.inr (by decide))).trans hb) (rEnd.step p l e R s m args below meth c hEnd hx1 hle) H1 locs1 ls' hI1 (by rw [cL_ext hx1 (wfL_drop hwl)]; exact lv_tail hls')
                          · split at h
                            · rename_i hc2
                              simp only [Bool.and_eq_true] at hc2
                              obtain ⟨hop9, hbn⟩ := hc2
                              cases Nat.eq_of_beq_eq_true hop9
                              have d2 : decode cc t0 = .ok (.astore b2.toNat, 2) := hdk2 (0, .astore b2.toNat, 2) (by simp only [dkAll, h10]; exact List.mem_cons_self)
                              have hmono := ex_mono O L _ _ _ _ _ _ _ _ _ h
                              intro H locs ls hI hlv
                              have hFA : ∀ q, va_A (cW ρ κ σ 0 aw) H.size q → A q := fun q hq => by
                                rcases hq with ⟨k9, e9, hk9⟩ | hq
                                · exact hI.2.2.1.2 k9 _ hk9
                                · exact hA q (Nat.le_trans hI.2.2.2.1 hq)
                              refine call_W p l e R s m args below meth c (hrun _ _ mc ms hex (fun z hz => by cases hz) (Nat.le_trans hmono.1 hkc) (Nat.le_trans hmono.2.1 hks) H locs ls hI hlv) hI.2.2.2 hFA (fun v9 ρ1 κ1 H1 locs1 ho => by cases ho) (fun E8 nm ρ1 κ1 H1 locs1 q ce ho hnm hx1 hI1 hq9 hv9 hcl9 => ?_)
                              cases ho
                              obtain ⟨pre, x9, suf, k1, k2, k3, k4, k5, k6, k7⟩ := hnd_some hnm hW hNc hrel hnd0
                              refine vx_catch hown pre x9 suf (htab1.trans k1) k2 k3 k4 k5 k6 hq9 hv9 hcl9 ?_
                              rw [k7]
                              refine lv_astore (lv' := (b2.toNat, .ref q) :: cL ρ σ (dropL lv b2.toNat)) hx hbc d2 hlv (by simpa using hbn) (by rw [← dropL_eq]) (fun ls' hls' => ?_)
                              exact ih fl stop id _ out aw' kc' ks' h p l e R s m args below meth c D A σ Q o rk hh nL ini cc own E b xs hr hmi X2 hdec hrel htab hl hTh hNc hWd (by omega) (by omega) hkc hks ρ1 κ1 ((hx1.1 1000 (Or.inr (by decide))).trans hE) ((hx1.1 1001 (Or.inr (by decide))).trans hb) (rEnd.step p l e R s m args below meth c hEnd hx1 hle) H1 locs1 ls' hI1 (by rw [cL_ext hx1 (wfL_drop hwl)]; exact lv_tail hls')
                            · cases h
                        · cases h
                      · cases h
                    · cases h
                  · cases h
                · cases h
              · cases h
            · rename_i hop3
              split at h
              · rename_i hop4
                split at h
                · rename_i ot i1 i2 i3 E9 wd hq
                  have hdk0 : dkAll rk op a = dkT (ot, i1, i2, i3, E9, wd) := by simp only [dkAll, hop1, hop2, hop3, hq]; rfl
                  rw [hdk0] at hdk
                  split at h
                  · rename_i hc2
                    cases h
                    simp only [Bool.and_eq_true, Bool.not_eq_true'] at hc2
                    obtain ⟨⟨⟨hot, hsum⟩, hhe⟩, hflf⟩ := hc2
                    have htab1 : c.exceptionTable.toList = tableOf hr := htab.resolve_left (by rw [hflf]; decide)
                    have hsum : sumR st ≤ 8 := Nat.le_of_ble_eq_true hsum
                    obtain ⟨o2, nm2, names2, g1, -⟩ := hTT _ (List.mem_of_getElem? hq)
                    cases own_eq X.2.2.2.2.2.2.2.2.2.2.2.2.1 g1 hot
                    have hh0 : hh = [] := List.isEmpty_iff.mp hhe
                    subst hh0
                    have hr0 : hr = [] := by
                      cases hr with
                      | nil => rfl
                      | cons z zr => exact hrel.elim
                    subst hr0
                    exact fun H locs ls hI hlv => (hEnd ρ κ H locs rExt.rf hI).2 (ot, i1, i2, i3, E9, wd) pc ls st kc ks (List.mem_of_getElem? hq) rfl rfl rfl hsum (hlv.1.trans X.2.2.1.symm) g1 htab1 hdk
                  · cases h
                · cases h
              · cases h
      · cases h
end
section
/-! what the tables say is among the words of the Statement -/
theorem mA {w : Cond} (i : Nat) (h : lwB[i]? = some w) : w ∈ lwA := List.mem_append_left _ (List.mem_of_getElem? h)
theorem mem_p {big ws : List Cond} (ps : List Nat) (hp : ws = ps.filterMap (fun i => big[i]?)) : ∀ w ∈ ws, w ∈ big := by
  intro w hw
  rw [hp] at hw
  obtain ⟨i, -, hi⟩ := List.mem_filterMap.mp hw
  exact List.mem_of_getElem? hi
theorem pickG_in : ∀ (gs : List Nat) (l : List Cond), ∀ w ∈ pickG gs l, w ∈ l
  | [], _ => fun w h => by cases h
  | g :: gs, l => fun w h => by
    unfold pickG at h
    split at h
    · cases h
    · rename_i c r e
      have hs : ∀ x ∈ c :: r, x ∈ l := fun x hx => List.mem_of_mem_drop (e ▸ hx)
      rcases List.mem_cons.mp h with rfl | h
      · exact hs _ List.mem_cons_self
      · exact hs _ (List.mem_cons_of_mem _ (pickG_in gs r w h))
theorem lwB_in : ∀ w ∈ lwB, w ∈ lw_tbl := pickG_in _ _
theorem at_in0 : ∀ w ∈ vx_atS RX9 69 "java/lang/IllegalArgumentException" ["java/lang/RuntimeException", "java/lang/Exception"], w ∈ lw_tbl := by decide +kernel
theorem at_in1 : ∀ w ∈ vx_atS RX9 360 "java/lang/IndexOutOfBoundsException" ["java/lang/RuntimeException", "java/lang/Exception"], w ∈ lw_tbl := by decide +kernel
theorem at_in2 : ∀ w ∈ vx_atS RX9 80 "java/lang/IllegalStateException" ["java/lang/RuntimeException", "java/lang/Exception"], w ∈ lw_tbl := by decide +kernel
theorem at_in3 : ∀ w ∈ vx_atS RX9 435 "java/lang/ArithmeticException" ["java/lang/RuntimeException", "java/lang/Exception"], w ∈ lw_tbl := by decide +kernel
theorem at_lw0 : ∀ w ∈ vx_atS RX9 69 "java/lang/IllegalArgumentException" ["java/lang/RuntimeException", "java/lang/Exception"], w ∈ lwA := fun w h => List.mem_append_right _ (List.mem_append_left _ (List.mem_append_left _ (List.mem_append_left _ (h))))
theorem at_lw1 : ∀ w ∈ vx_atS RX9 360 "java/lang/IndexOutOfBoundsException" ["java/lang/RuntimeException", "java/lang/Exception"], w ∈ lwA := fun w h => List.mem_append_right _ (List.mem_append_left _ (List.mem_append_left _ (List.mem_append_right _ (h))))
theorem at_lw2 : ∀ w ∈ vx_atS RX9 80 "java/lang/IllegalStateException" ["java/lang/RuntimeException", "java/lang/Exception"], w ∈ lwA := fun w h => List.mem_append_right _ (List.mem_append_left _ (List.mem_append_right _ (h)))
theorem at_lw3 : ∀ w ∈ vx_atS RX9 435 "java/lang/ArithmeticException" ["java/lang/RuntimeException", "java/lang/Exception"], w ∈ lwA := fun w h => List.mem_append_right _ (List.mem_append_right _ (h))
theorem lwA_in : ∀ w ∈ lwA, w ∈ lw_tbl := fun w h => (List.mem_append.mp h).elim (fun h => lwB_in w h) (fun h => (List.mem_append.mp h).elim (fun h => (List.mem_append.mp h).elim (fun h => (List.mem_append.mp h).elim (fun h => at_in0 w h) (fun h => at_in1 w h)) (fun h => at_in2 w h)) (fun h => at_in3 w h))
theorem lwA_okw : ∀ w ∈ lwA, okw w = true := by
  have h : lwA.all okw = true := by decide +kernel
  exact fun w hw => List.all_eq_true.mp h w hw
theorem inl_Jx35411 : ∀ w ∈ u_ws RJx35411 TJx35411 4, w ∈ lwA := fun w h => List.mem_append_left _ (mem_p (big := lwB) [657, 658, 659, 660] (by decide +kernel) w h)
theorem inl_Jx4a65c : ∀ w ∈ u_ws RJx4a65c TJx4a65c 3, w ∈ lwA := fun w h => List.mem_append_left _ (mem_p (big := lwB) [82, 80, 81] (by decide +kernel) w h)
theorem inl_X0 : ∀ w ∈ u_ws RX0 TX0 6, w ∈ lwA := fun w h => List.mem_append_left _ (mem_p (big := lwB) [98, 99, 100, 101, 102, 103] (by decide +kernel) w h)
theorem inl_X2 : ∀ w ∈ u_ws RX2 TX2 15, w ∈ lwA := fun w h => List.mem_append_left _ (mem_p (big := lwB) [225, 226, 227, 228, 229, 230, 231, 232, 233, 234, 235, 236, 237, 238, 239] (by decide +kernel) w h)
theorem inl_X3 : ∀ w ∈ u_ws RX3 TX3 6, w ∈ lwA := fun w h => List.mem_append_left _ (mem_p (big := lwB) [390, 391, 392, 393, 394, 395] (by decide +kernel) w h)
theorem inl_X5 : ∀ w ∈ u_ws RX5 TX5 7, w ∈ lwA := fun w h => List.mem_append_left _ (mem_p (big := lwB) [119, 120, 121, 122, 123, 124, 125] (by decide +kernel) w h)
theorem inl_X8 : ∀ w ∈ u_ws RX8 TX8 1, w ∈ lwA := fun w h => List.mem_append_left _ (mem_p (big := lwB) [136] (by decide +kernel) w h)
theorem inl_X9 : ∀ w ∈ u_ws RX9 TX9 10, w ∈ lwA := fun w h => List.mem_append_left _ (mem_p (big := lwB) [147, 148, 149, 150, 151, 152, 153, 154, 155, 156] (by decide +kernel) w h)
theorem inl_X11 : ∀ w ∈ u_ws RX11 TX11 6, w ∈ lwA := fun w h => List.mem_append_left _ (mem_p (big := lwB) [688, 689, 690, 691, 692, 693] (by decide +kernel) w h)
theorem inl_X12 : ∀ w ∈ u_ws RX12 TX12 5, w ∈ lwA := fun w h => List.mem_append_left _ (mem_p (big := lwB) [785, 786, 787, 788, 789] (by decide +kernel) w h)
theorem inl_X15 : ∀ w ∈ u_ws RX15 TX15 13, w ∈ lwA := fun w h => List.mem_append_left _ (mem_p (big := lwB) [606, 607, 608, 609, 610, 611, 612, 613, 614, 615, 616, 617, 618] (by decide +kernel) w h)
theorem fT_0 : rFld (1, 25, 0, 0, 0, false) := ⟨RJx35411, "java/util/ArrayList$Itr", RJx35411, TJx35411, 4, tyJx35411, rfl, rfl, inl_Jx35411, by decide, mA 653 (by decide +kernel), Or.inl rfl, tyJx35411_ok, nmJx35411, (by first | exact trivial | exact rfl | exact Or.inl ⟨_, rfl⟩ | exact Or.inr ⟨_, rfl⟩), rfl, fun h => (by first | exact Or.inr rfl | exact Or.inl rfl | cases h)⟩
theorem fT_1 : rFld (1, 1, 0, 3, 4, true) := ⟨RJx35411, "java/util/ArrayList$Itr", RJx35411, TJx35411, 4, tyJx35411, rfl, rfl, inl_Jx35411, by decide, mA 656 (by decide +kernel), Or.inl rfl, tyJx35411_ok, nmJx35411, (by first | exact trivial | exact rfl | exact Or.inl ⟨_, rfl⟩ | exact Or.inr ⟨_, rfl⟩), rfl, fun h => (by first | exact Or.inr rfl | exact Or.inl rfl | cases h)⟩
theorem fT_2 : rFld (1, 13, 0, 1, 0, false) := ⟨RJx35411, "java/util/ArrayList$Itr", RJx35411, TJx35411, 4, tyJx35411, rfl, rfl, inl_Jx35411, by decide, mA 654 (by decide +kernel), Or.inl rfl, tyJx35411_ok, nmJx35411, (by first | exact trivial | exact rfl | exact Or.inl ⟨_, rfl⟩ | exact Or.inr ⟨_, rfl⟩), rfl, fun h => (by first | exact Or.inr rfl | exact Or.inl rfl | cases h)⟩
theorem fT_3 : rFld (1, 17, 1, 0, 0, false) := ⟨RJx35411, "java/util/ArrayList", RJx4a65c, TJx4a65c, 3, tyJx4a65c, rfl, rfl, inl_Jx4a65c, by decide, mA 77 (by decide +kernel), Or.inr (mA 78 (by decide +kernel)), tyJx4a65c_ok, nmJx4a65c, (by first | exact trivial | exact rfl | exact Or.inl ⟨_, rfl⟩ | exact Or.inr ⟨_, rfl⟩), rfl, fun h => (by first | exact Or.inr rfl | exact Or.inl rfl | cases h)⟩
theorem fT_4 : rFld (1, 22, 0, 2, 0, false) := ⟨RJx35411, "java/util/ArrayList$Itr", RJx35411, TJx35411, 4, tyJx35411, rfl, rfl, inl_Jx35411, by decide, mA 655 (by decide +kernel), Or.inl rfl, tyJx35411_ok, nmJx35411, (by first | exact trivial | exact rfl | exact Or.inl ⟨_, rfl⟩ | exact Or.inr ⟨_, rfl⟩), rfl, fun h => (by first | exact Or.inr rfl | exact Or.inl rfl | cases h)⟩
theorem fT_5 : rFld (2, 48, 1, 2, 0, false) := ⟨RJx4a65c, "java/util/ArrayList", RJx4a65c, TJx4a65c, 3, tyJx4a65c, rfl, rfl, inl_Jx4a65c, by decide, mA 75 (by decide +kernel), Or.inl rfl, tyJx4a65c_ok, nmJx4a65c, (by first | exact trivial | exact rfl | exact Or.inl ⟨_, rfl⟩ | exact Or.inr ⟨_, rfl⟩), rfl, fun h => (by first | exact Or.inr rfl | exact Or.inl rfl | cases h)⟩
theorem fT_6 : rFld (2, 63, 1, 0, 0, false) := ⟨RJx4a65c, "java/util/ArrayList", RJx4a65c, TJx4a65c, 3, tyJx4a65c, rfl, rfl, inl_Jx4a65c, by decide, mA 79 (by decide +kernel), Or.inr (mA 78 (by decide +kernel)), tyJx4a65c_ok, nmJx4a65c, (by first | exact trivial | exact rfl | exact Or.inl ⟨_, rfl⟩ | exact Or.inr ⟨_, rfl⟩), rfl, fun h => (by first | exact Or.inr rfl | exact Or.inl rfl | cases h)⟩
theorem fT_7 : rFld (2, 9, 1, 1, 4, false) := ⟨RJx4a65c, "java/util/ArrayList", RJx4a65c, TJx4a65c, 3, tyJx4a65c, rfl, rfl, inl_Jx4a65c, by decide, mA 73 (by decide +kernel), Or.inl rfl, tyJx4a65c_ok, nmJx4a65c, (by first | exact trivial | exact rfl | exact Or.inl ⟨_, rfl⟩ | exact Or.inr ⟨_, rfl⟩), rfl, fun h => (by first | exact Or.inr rfl | exact Or.inl rfl | cases h)⟩
theorem fT_8 : rFld (4, 7, 1, 0, 0, false) := ⟨RJxc12de, "java/util/AbstractList", RJx4a65c, TJx4a65c, 3, tyJx4a65c, rfl, rfl, inl_Jx4a65c, by decide, mA 76 (by decide +kernel), Or.inl rfl, tyJx4a65c_ok, nmJx4a65c, (by first | exact trivial | exact rfl | exact Or.inl ⟨_, rfl⟩ | exact Or.inr ⟨_, rfl⟩), rfl, fun h => (by first | exact Or.inr rfl | exact Or.inl rfl | cases h)⟩
theorem fT_9 : rFld (6, 77, 4, 0, 3, true) := ⟨RX0, "Goalmouth$Event", RX3, TX3, 6, tyX3, rfl, rfl, inl_X3, by decide, mA 386 (by decide +kernel), Or.inl rfl, tyX3_ok, nmX3, (by first | exact trivial | exact rfl | exact Or.inl ⟨_, rfl⟩ | exact Or.inr ⟨_, rfl⟩), rfl, fun h => (by first | exact Or.inr rfl | exact Or.inl rfl | cases h)⟩
theorem fT_10 : rFld (6, 25, 2, 3, 4, true) := ⟨RX0, "Goalmouth$Book", RX0, TX0, 6, tyX0, rfl, rfl, inl_X0, by decide, mA 95 (by decide +kernel), Or.inl rfl, tyX0_ok, nmX0, (by first | exact trivial | exact rfl | exact Or.inl ⟨_, rfl⟩ | exact Or.inr ⟨_, rfl⟩), rfl, fun h => (by first | exact Or.inr rfl | exact Or.inl rfl | cases h)⟩
theorem fT_11 : rFld (6, 21, 2, 2, 4, true) := ⟨RX0, "Goalmouth$Book", RX0, TX0, 6, tyX0, rfl, rfl, inl_X0, by decide, mA 94 (by decide +kernel), Or.inl rfl, tyX0_ok, nmX0, (by first | exact trivial | exact rfl | exact Or.inl ⟨_, rfl⟩ | exact Or.inr ⟨_, rfl⟩), rfl, fun h => (by first | exact Or.inr rfl | exact Or.inl rfl | cases h)⟩
theorem fT_12 : rFld (6, 12, 2, 0, 4, true) := ⟨RX0, "Goalmouth$Book", RX0, TX0, 6, tyX0, rfl, rfl, inl_X0, by decide, mA 91 (by decide +kernel), Or.inl rfl, tyX0_ok, nmX0, (by first | exact trivial | exact rfl | exact Or.inl ⟨_, rfl⟩ | exact Or.inr ⟨_, rfl⟩), rfl, fun h => (by first | exact Or.inr rfl | exact Or.inl rfl | cases h)⟩
theorem fT_13 : rFld (6, 18, 2, 1, 4, true) := ⟨RX0, "Goalmouth$Book", RX0, TX0, 6, tyX0, rfl, rfl, inl_X0, by decide, mA 92 (by decide +kernel), Or.inl rfl, tyX0_ok, nmX0, (by first | exact trivial | exact rfl | exact Or.inl ⟨_, rfl⟩ | exact Or.inr ⟨_, rfl⟩), rfl, fun h => (by first | exact Or.inr rfl | exact Or.inl rfl | cases h)⟩
theorem fT_14 : rFld (6, 28, 2, 4, 4, true) := ⟨RX0, "Goalmouth$Book", RX0, TX0, 6, tyX0, rfl, rfl, inl_X0, by decide, mA 96 (by decide +kernel), Or.inl rfl, tyX0_ok, nmX0, (by first | exact trivial | exact rfl | exact Or.inl ⟨_, rfl⟩ | exact Or.inr ⟨_, rfl⟩), rfl, fun h => (by first | exact Or.inr rfl | exact Or.inl rfl | cases h)⟩
theorem fT_15 : rFld (6, 31, 2, 5, 4, true) := ⟨RX0, "Goalmouth$Book", RX0, TX0, 6, tyX0, rfl, rfl, inl_X0, by decide, mA 97 (by decide +kernel), Or.inl rfl, tyX0_ok, nmX0, (by first | exact trivial | exact rfl | exact Or.inl ⟨_, rfl⟩ | exact Or.inr ⟨_, rfl⟩), rfl, fun h => (by first | exact Or.inr rfl | exact Or.inl rfl | cases h)⟩
theorem fT_16 : rFld (7, 7, 8, 3, 0, false) := ⟨RX11, "GoalmouthModel$Club", RX11, TX11, 6, tyX11, rfl, rfl, inl_X11, by decide, mA 685 (by decide +kernel), Or.inl rfl, tyX11_ok, nmX11, (by first | exact trivial | exact rfl | exact Or.inl ⟨_, rfl⟩ | exact Or.inr ⟨_, rfl⟩), rfl, fun h => (by first | exact Or.inr rfl | exact Or.inl rfl | cases h)⟩
theorem fT_17 : rFld (7, 13, 8, 4, 0, false) := ⟨RX11, "GoalmouthModel$Club", RX11, TX11, 6, tyX11, rfl, rfl, inl_X11, by decide, mA 686 (by decide +kernel), Or.inl rfl, tyX11_ok, nmX11, (by first | exact trivial | exact rfl | exact Or.inl ⟨_, rfl⟩ | exact Or.inr ⟨_, rfl⟩), rfl, fun h => (by first | exact Or.inr rfl | exact Or.inl rfl | cases h)⟩
theorem fT_18 : rFld (7, 16, 8, 5, 1, false) := ⟨RX11, "GoalmouthModel$Club", RX11, TX11, 6, tyX11, rfl, rfl, inl_X11, by decide, mA 687 (by decide +kernel), Or.inl rfl, tyX11_ok, nmX11, (by first | exact trivial | exact rfl | exact Or.inl ⟨_, rfl⟩ | exact Or.inr ⟨_, rfl⟩), rfl, fun h => (by first | exact Or.inr rfl | exact Or.inl rfl | cases h)⟩
theorem fT_19 : rFld (7, 20, 8, 2, 0, false) := ⟨RX11, "GoalmouthModel$Club", RX11, TX11, 6, tyX11, rfl, rfl, inl_X11, by decide, mA 684 (by decide +kernel), Or.inl rfl, tyX11_ok, nmX11, (by first | exact trivial | exact rfl | exact Or.inl ⟨_, rfl⟩ | exact Or.inr ⟨_, rfl⟩), rfl, fun h => (by first | exact Or.inr rfl | exact Or.inl rfl | cases h)⟩
theorem fT_20 : rFld (7, 23, 8, 0, 0, true) := ⟨RX11, "GoalmouthModel$Club", RX11, TX11, 6, tyX11, rfl, rfl, inl_X11, by decide, mA 682 (by decide +kernel), Or.inl rfl, tyX11_ok, nmX11, (by first | exact trivial | exact rfl | exact Or.inl ⟨_, rfl⟩ | exact Or.inr ⟨_, rfl⟩), rfl, fun h => (by first | exact Or.inr rfl | exact Or.inl rfl | cases h)⟩
theorem fT_21 : rFld (7, 26, 8, 1, 0, true) := ⟨RX11, "GoalmouthModel$Club", RX11, TX11, 6, tyX11, rfl, rfl, inl_X11, by decide, mA 683 (by decide +kernel), Or.inl rfl, tyX11_ok, nmX11, (by first | exact trivial | exact rfl | exact Or.inl ⟨_, rfl⟩ | exact Or.inr ⟨_, rfl⟩), rfl, fun h => (by first | exact Or.inr rfl | exact Or.inl rfl | cases h)⟩
theorem fT_22 : rFld (8, 10, 9, 4, 4, true) := ⟨RX12, "GoalmouthModel$Event", RX12, TX12, 5, tyX12, rfl, rfl, inl_X12, by decide, mA 784 (by decide +kernel), Or.inl rfl, tyX12_ok, nmX12, (by first | exact trivial | exact rfl | exact Or.inl ⟨_, rfl⟩ | exact Or.inr ⟨_, rfl⟩), rfl, fun h => (by first | exact Or.inr rfl | exact Or.inl rfl | cases h)⟩
theorem fT_23 : rFld (8, 16, 9, 0, 2, true) := ⟨RX12, "GoalmouthModel$Event", RX12, TX12, 5, tyX12, rfl, rfl, inl_X12, by decide, mA 780 (by decide +kernel), Or.inl rfl, tyX12_ok, nmX12, (by first | exact trivial | exact rfl | exact Or.inl ⟨_, rfl⟩ | exact Or.inr ⟨_, rfl⟩), rfl, fun h => (by first | exact Or.inr rfl | exact Or.inl rfl | cases h)⟩
theorem fT_24 : rFld (8, 20, 9, 1, 4, true) := ⟨RX12, "GoalmouthModel$Event", RX12, TX12, 5, tyX12, rfl, rfl, inl_X12, by decide, mA 781 (by decide +kernel), Or.inl rfl, tyX12_ok, nmX12, (by first | exact trivial | exact rfl | exact Or.inl ⟨_, rfl⟩ | exact Or.inr ⟨_, rfl⟩), rfl, fun h => (by first | exact Or.inr rfl | exact Or.inl rfl | cases h)⟩
theorem fT_25 : rFld (8, 24, 9, 2, 0, true) := ⟨RX12, "GoalmouthModel$Event", RX12, TX12, 5, tyX12, rfl, rfl, inl_X12, by decide, mA 782 (by decide +kernel), Or.inl rfl, tyX12_ok, nmX12, (by first | exact trivial | exact rfl | exact Or.inl ⟨_, rfl⟩ | exact Or.inr ⟨_, rfl⟩), rfl, fun h => (by first | exact Or.inr rfl | exact Or.inl rfl | cases h)⟩
theorem fT_26 : rFld (8, 28, 9, 3, 1, true) := ⟨RX12, "GoalmouthModel$Event", RX12, TX12, 5, tyX12, rfl, rfl, inl_X12, by decide, mA 783 (by decide +kernel), Or.inl rfl, tyX12_ok, nmX12, (by first | exact trivial | exact rfl | exact Or.inl ⟨_, rfl⟩ | exact Or.inr ⟨_, rfl⟩), rfl, fun h => (by first | exact Or.inr rfl | exact Or.inl rfl | cases h)⟩
theorem fT_27 : rFld (9, 46, 10, 12, 4, false) := ⟨RX15, "GoalmouthModel", RX15, TX15, 13, tyX15, rfl, rfl, inl_X15, by decide, mA 605 (by decide +kernel), Or.inl rfl, tyX15_ok, nmX15, (by first | exact trivial | exact rfl | exact Or.inl ⟨_, rfl⟩ | exact Or.inr ⟨_, rfl⟩), rfl, fun h => (by first | exact Or.inr rfl | exact Or.inl rfl | cases h)⟩
theorem fT_28 : rFld (9, 10, 10, 0, 4, true) := ⟨RX15, "GoalmouthModel", RX15, TX15, 13, tyX15, rfl, rfl, inl_X15, by decide, mA 593 (by decide +kernel), Or.inl rfl, tyX15_ok, nmX15, (by first | exact trivial | exact rfl | exact Or.inl ⟨_, rfl⟩ | exact Or.inr ⟨_, rfl⟩), rfl, fun h => (by first | exact Or.inr rfl | exact Or.inl rfl | cases h)⟩
theorem fT_29 : rFld (9, 22, 10, 3, 4, true) := ⟨RX15, "GoalmouthModel", RX15, TX15, 13, tyX15, rfl, rfl, inl_X15, by decide, mA 596 (by decide +kernel), Or.inl rfl, tyX15_ok, nmX15, (by first | exact trivial | exact rfl | exact Or.inl ⟨_, rfl⟩ | exact Or.inr ⟨_, rfl⟩), rfl, fun h => (by first | exact Or.inr rfl | exact Or.inl rfl | cases h)⟩
theorem fT_30 : rFld (9, 19, 10, 2, 4, true) := ⟨RX15, "GoalmouthModel", RX15, TX15, 13, tyX15, rfl, rfl, inl_X15, by decide, mA 595 (by decide +kernel), Or.inl rfl, tyX15_ok, nmX15, (by first | exact trivial | exact rfl | exact Or.inl ⟨_, rfl⟩ | exact Or.inr ⟨_, rfl⟩), rfl, fun h => (by first | exact Or.inr rfl | exact Or.inl rfl | cases h)⟩
theorem fT_31 : rFld (9, 25, 10, 4, 4, true) := ⟨RX15, "GoalmouthModel", RX15, TX15, 13, tyX15, rfl, rfl, inl_X15, by decide, mA 597 (by decide +kernel), Or.inl rfl, tyX15_ok, nmX15, (by first | exact trivial | exact rfl | exact Or.inl ⟨_, rfl⟩ | exact Or.inr ⟨_, rfl⟩), rfl, fun h => (by first | exact Or.inr rfl | exact Or.inl rfl | cases h)⟩
theorem fT_32 : rFld (9, 174, 10, 9, 0, false) := ⟨RX15, "GoalmouthModel", RX15, TX15, 13, tyX15, rfl, rfl, inl_X15, by decide, mA 602 (by decide +kernel), Or.inl rfl, tyX15_ok, nmX15, (by first | exact trivial | exact rfl | exact Or.inl ⟨_, rfl⟩ | exact Or.inr ⟨_, rfl⟩), rfl, fun h => (by first | exact Or.inr rfl | exact Or.inl rfl | cases h)⟩
theorem fT_33 : rFld (9, 32, 10, 6, 4, true) := ⟨RX15, "GoalmouthModel", RX15, TX15, 13, tyX15, rfl, rfl, inl_X15, by decide, mA 599 (by decide +kernel), Or.inl rfl, tyX15_ok, nmX15, (by first | exact trivial | exact rfl | exact Or.inl ⟨_, rfl⟩ | exact Or.inr ⟨_, rfl⟩), rfl, fun h => (by first | exact Or.inr rfl | exact Or.inl rfl | cases h)⟩
theorem fT_34 : rFld (9, 36, 10, 7, 4, true) := ⟨RX15, "GoalmouthModel", RX15, TX15, 13, tyX15, rfl, rfl, inl_X15, by decide, mA 600 (by decide +kernel), Or.inl rfl, tyX15_ok, nmX15, (by first | exact trivial | exact rfl | exact Or.inl ⟨_, rfl⟩ | exact Or.inr ⟨_, rfl⟩), rfl, fun h => (by first | exact Or.inr rfl | exact Or.inl rfl | cases h)⟩
theorem fT_35 : rFld (9, 16, 10, 1, 4, true) := ⟨RX15, "GoalmouthModel", RX15, TX15, 13, tyX15, rfl, rfl, inl_X15, by decide, mA 594 (by decide +kernel), Or.inl rfl, tyX15_ok, nmX15, (by first | exact trivial | exact rfl | exact Or.inl ⟨_, rfl⟩ | exact Or.inr ⟨_, rfl⟩), rfl, fun h => (by first | exact Or.inr rfl | exact Or.inl rfl | cases h)⟩
theorem fT_36 : rFld (9, 28, 10, 5, 4, true) := ⟨RX15, "GoalmouthModel", RX15, TX15, 13, tyX15, rfl, rfl, inl_X15, by decide, mA 598 (by decide +kernel), Or.inl rfl, tyX15_ok, nmX15, (by first | exact trivial | exact rfl | exact Or.inl ⟨_, rfl⟩ | exact Or.inr ⟨_, rfl⟩), rfl, fun h => (by first | exact Or.inr rfl | exact Or.inl rfl | cases h)⟩
theorem fT_37 : rFld (9, 39, 10, 10, 0, false) := ⟨RX15, "GoalmouthModel", RX15, TX15, 13, tyX15, rfl, rfl, inl_X15, by decide, mA 603 (by decide +kernel), Or.inl rfl, tyX15_ok, nmX15, (by first | exact trivial | exact rfl | exact Or.inl ⟨_, rfl⟩ | exact Or.inr ⟨_, rfl⟩), rfl, fun h => (by first | exact Or.inr rfl | exact Or.inl rfl | cases h)⟩
theorem fT_38 : rFld (9, 43, 10, 11, 0, false) := ⟨RX15, "GoalmouthModel", RX15, TX15, 13, tyX15, rfl, rfl, inl_X15, by decide, mA 604 (by decide +kernel), Or.inl rfl, tyX15_ok, nmX15, (by first | exact trivial | exact rfl | exact Or.inl ⟨_, rfl⟩ | exact Or.inr ⟨_, rfl⟩), rfl, fun h => (by first | exact Or.inr rfl | exact Or.inl rfl | cases h)⟩
theorem fT_39 : rFld (9, 50, 10, 8, 0, false) := ⟨RX15, "GoalmouthModel", RX15, TX15, 13, tyX15, rfl, rfl, inl_X15, by decide, mA 601 (by decide +kernel), Or.inl rfl, tyX15_ok, nmX15, (by first | exact trivial | exact rfl | exact Or.inl ⟨_, rfl⟩ | exact Or.inr ⟨_, rfl⟩), rfl, fun h => (by first | exact Or.inr rfl | exact Or.inl rfl | cases h)⟩
theorem fT_40 : rFld (10, 9, 3, 0, 0, true) := ⟨RX2, "Goalmouth$Club", RX2, TX2, 15, tyX2, rfl, rfl, inl_X2, by decide, mA 219 (by decide +kernel), Or.inl rfl, tyX2_ok, nmX2, (by first | exact trivial | exact rfl | exact Or.inl ⟨_, rfl⟩ | exact Or.inr ⟨_, rfl⟩), rfl, fun h => (by first | exact Or.inr rfl | exact Or.inl rfl | cases h)⟩
theorem fT_41 : rFld (10, 15, 3, 3, 0, false) := ⟨RX2, "Goalmouth$Club", RX2, TX2, 15, tyX2, rfl, rfl, inl_X2, by decide, mA 223 (by decide +kernel), Or.inl rfl, tyX2_ok, nmX2, (by first | exact trivial | exact rfl | exact Or.inl ⟨_, rfl⟩ | exact Or.inr ⟨_, rfl⟩), rfl, fun h => (by first | exact Or.inr rfl | exact Or.inl rfl | cases h)⟩
theorem fT_42 : rFld (10, 18, 3, 1, 0, true) := ⟨RX2, "Goalmouth$Club", RX2, TX2, 15, tyX2, rfl, rfl, inl_X2, by decide, mA 221 (by decide +kernel), Or.inl rfl, tyX2_ok, nmX2, (by first | exact trivial | exact rfl | exact Or.inl ⟨_, rfl⟩ | exact Or.inr ⟨_, rfl⟩), rfl, fun h => (by first | exact Or.inr rfl | exact Or.inl rfl | cases h)⟩
theorem fT_43 : rFld (10, 21, 3, 2, 0, true) := ⟨RX2, "Goalmouth$Club", RX2, TX2, 15, tyX2, rfl, rfl, inl_X2, by decide, mA 222 (by decide +kernel), Or.inl rfl, tyX2_ok, nmX2, (by first | exact trivial | exact rfl | exact Or.inl ⟨_, rfl⟩ | exact Or.inr ⟨_, rfl⟩), rfl, fun h => (by first | exact Or.inr rfl | exact Or.inl rfl | cases h)⟩
theorem fT_44 : rFld (10, 24, 3, 4, 0, false) := ⟨RX2, "Goalmouth$Club", RX2, TX2, 15, tyX2, rfl, rfl, inl_X2, by decide, mA 224 (by decide +kernel), Or.inl rfl, tyX2_ok, nmX2, (by first | exact trivial | exact rfl | exact Or.inl ⟨_, rfl⟩ | exact Or.inr ⟨_, rfl⟩), rfl, fun h => (by first | exact Or.inr rfl | exact Or.inl rfl | cases h)⟩
theorem fT_45 : rFld (11, 7, 4, 0, 0, true) := ⟨RX3, "Goalmouth$Event", RX3, TX3, 6, tyX3, rfl, rfl, inl_X3, by decide, mA 385 (by decide +kernel), Or.inl rfl, tyX3_ok, nmX3, (by first | exact trivial | exact rfl | exact Or.inl ⟨_, rfl⟩ | exact Or.inr ⟨_, rfl⟩), rfl, fun h => (by first | exact Or.inr rfl | exact Or.inl rfl | cases h)⟩
theorem fT_46 : rFld (11, 13, 4, 1, 4, true) := ⟨RX3, "Goalmouth$Event", RX3, TX3, 6, tyX3, rfl, rfl, inl_X3, by decide, mA 387 (by decide +kernel), Or.inl rfl, tyX3_ok, nmX3, (by first | exact trivial | exact rfl | exact Or.inl ⟨_, rfl⟩ | exact Or.inr ⟨_, rfl⟩), rfl, fun h => (by first | exact Or.inr rfl | exact Or.inl rfl | cases h)⟩
theorem fT_47 : rFld (11, 17, 4, 2, 0, true) := ⟨RX3, "Goalmouth$Event", RX3, TX3, 6, tyX3, rfl, rfl, inl_X3, by decide, mA 388 (by decide +kernel), Or.inl rfl, tyX3_ok, nmX3, (by first | exact trivial | exact rfl | exact Or.inl ⟨_, rfl⟩ | exact Or.inr ⟨_, rfl⟩), rfl, fun h => (by first | exact Or.inr rfl | exact Or.inl rfl | cases h)⟩
theorem fT_48 : rFld (11, 20, 4, 3, 0, true) := ⟨RX3, "Goalmouth$Event", RX3, TX3, 6, tyX3, rfl, rfl, inl_X3, by decide, mA 389 (by decide +kernel), Or.inl rfl, tyX3_ok, nmX3, (by first | exact trivial | exact rfl | exact Or.inl ⟨_, rfl⟩ | exact Or.inr ⟨_, rfl⟩), rfl, fun h => (by first | exact Or.inr rfl | exact Or.inl rfl | cases h)⟩
theorem fT_49 : rFld (12, 12, 5, 0, 4, true) := ⟨RX5, "Goalmouth$Planner", RX5, TX5, 7, tyX5, rfl, rfl, inl_X5, by decide, mA 113 (by decide +kernel), Or.inl rfl, tyX5_ok, nmX5, (by first | exact trivial | exact rfl | exact Or.inl ⟨_, rfl⟩ | exact Or.inr ⟨_, rfl⟩), rfl, fun h => (by first | exact Or.inr rfl | exact Or.inl rfl | cases h)⟩
theorem fT_50 : rFld (12, 18, 5, 1, 4, true) := ⟨RX5, "Goalmouth$Planner", RX5, TX5, 7, tyX5, rfl, rfl, inl_X5, by decide, mA 114 (by decide +kernel), Or.inl rfl, tyX5_ok, nmX5, (by first | exact trivial | exact rfl | exact Or.inl ⟨_, rfl⟩ | exact Or.inr ⟨_, rfl⟩), rfl, fun h => (by first | exact Or.inr rfl | exact Or.inl rfl | cases h)⟩
theorem fT_51 : rFld (12, 21, 5, 2, 4, true) := ⟨RX5, "Goalmouth$Planner", RX5, TX5, 7, tyX5, rfl, rfl, inl_X5, by decide, mA 115 (by decide +kernel), Or.inl rfl, tyX5_ok, nmX5, (by first | exact trivial | exact rfl | exact Or.inl ⟨_, rfl⟩ | exact Or.inr ⟨_, rfl⟩), rfl, fun h => (by first | exact Or.inr rfl | exact Or.inl rfl | cases h)⟩
theorem fT_52 : rFld (12, 25, 5, 3, 4, true) := ⟨RX5, "Goalmouth$Planner", RX5, TX5, 7, tyX5, rfl, rfl, inl_X5, by decide, mA 116 (by decide +kernel), Or.inl rfl, tyX5_ok, nmX5, (by first | exact trivial | exact rfl | exact Or.inl ⟨_, rfl⟩ | exact Or.inr ⟨_, rfl⟩), rfl, fun h => (by first | exact Or.inr rfl | exact Or.inl rfl | cases h)⟩
theorem fT_53 : rFld (12, 28, 5, 4, 4, true) := ⟨RX5, "Goalmouth$Planner", RX5, TX5, 7, tyX5, rfl, rfl, inl_X5, by decide, mA 117 (by decide +kernel), Or.inl rfl, tyX5_ok, nmX5, (by first | exact trivial | exact rfl | exact Or.inl ⟨_, rfl⟩ | exact Or.inr ⟨_, rfl⟩), rfl, fun h => (by first | exact Or.inr rfl | exact Or.inl rfl | cases h)⟩
theorem fT_54 : rFld (12, 31, 5, 5, 4, true) := ⟨RX5, "Goalmouth$Planner", RX5, TX5, 7, tyX5, rfl, rfl, inl_X5, by decide, mA 118 (by decide +kernel), Or.inl rfl, tyX5_ok, nmX5, (by first | exact trivial | exact rfl | exact Or.inl ⟨_, rfl⟩ | exact Or.inr ⟨_, rfl⟩), rfl, fun h => (by first | exact Or.inr rfl | exact Or.inl rfl | cases h)⟩
theorem fT_55 : rFld (13, 12, 6, 0, 4, true) := ⟨RX8, "Goalmouth$Table", RX8, TX8, 1, tyX8, rfl, rfl, inl_X8, by decide, mA 135 (by decide +kernel), Or.inl rfl, tyX8_ok, nmX8, (by first | exact trivial | exact rfl | exact Or.inl ⟨_, rfl⟩ | exact Or.inr ⟨_, rfl⟩), rfl, fun h => (by first | exact Or.inr rfl | exact Or.inl rfl | cases h)⟩
theorem fT_56 : rFld (14, 10, 7, 0, 4, true) := ⟨RX9, "Goalmouth", RX9, TX9, 10, tyX9, rfl, rfl, inl_X9, by decide, mA 137 (by decide +kernel), Or.inl rfl, tyX9_ok, nmX9, (by first | exact trivial | exact rfl | exact Or.inl ⟨_, rfl⟩ | exact Or.inr ⟨_, rfl⟩), rfl, fun h => (by first | exact Or.inr rfl | exact Or.inl rfl | cases h)⟩
theorem fT_57 : rFld (14, 94, 3, 0, 3, true) := ⟨RX9, "Goalmouth$Club", RX2, TX2, 15, tyX2, rfl, rfl, inl_X2, by decide, mA 220 (by decide +kernel), Or.inl rfl, tyX2_ok, nmX2, (by first | exact trivial | exact rfl | exact Or.inl ⟨_, rfl⟩ | exact Or.inr ⟨_, rfl⟩), rfl, fun h => (by first | exact Or.inr rfl | exact Or.inl rfl | cases h)⟩
theorem fT_58 : rFld (14, 25, 7, 3, 4, true) := ⟨RX9, "Goalmouth", RX9, TX9, 10, tyX9, rfl, rfl, inl_X9, by decide, mA 140 (by decide +kernel), Or.inl rfl, tyX9_ok, nmX9, (by first | exact trivial | exact rfl | exact Or.inl ⟨_, rfl⟩ | exact Or.inr ⟨_, rfl⟩), rfl, fun h => (by first | exact Or.inr rfl | exact Or.inl rfl | cases h)⟩
theorem fT_59 : rFld (14, 268, 2, 1, 3, true) := ⟨RX9, "Goalmouth$Book", RX0, TX0, 6, tyX0, rfl, rfl, inl_X0, by decide, mA 93 (by decide +kernel), Or.inl rfl, tyX0_ok, nmX0, (by first | exact trivial | exact rfl | exact Or.inl ⟨_, rfl⟩ | exact Or.inr ⟨_, rfl⟩), rfl, fun h => (by first | exact Or.inr rfl | exact Or.inl rfl | cases h)⟩
theorem fT_60 : rFld (14, 19, 7, 2, 4, true) := ⟨RX9, "Goalmouth", RX9, TX9, 10, tyX9, rfl, rfl, inl_X9, by decide, mA 139 (by decide +kernel), Or.inl rfl, tyX9_ok, nmX9, (by first | exact trivial | exact rfl | exact Or.inl ⟨_, rfl⟩ | exact Or.inr ⟨_, rfl⟩), rfl, fun h => (by first | exact Or.inr rfl | exact Or.inl rfl | cases h)⟩
theorem fT_61 : rFld (14, 53, 7, 9, 4, false) := ⟨RX9, "Goalmouth", RX9, TX9, 10, tyX9, rfl, rfl, inl_X9, by decide, mA 146 (by decide +kernel), Or.inl rfl, tyX9_ok, nmX9, (by first | exact trivial | exact rfl | exact Or.inl ⟨_, rfl⟩ | exact Or.inr ⟨_, rfl⟩), rfl, fun h => (by first | exact Or.inr rfl | exact Or.inl rfl | cases h)⟩
theorem fT_62 : rFld (14, 39, 7, 5, 4, true) := ⟨RX9, "Goalmouth", RX9, TX9, 10, tyX9, rfl, rfl, inl_X9, by decide, mA 142 (by decide +kernel), Or.inl rfl, tyX9_ok, nmX9, (by first | exact trivial | exact rfl | exact Or.inl ⟨_, rfl⟩ | exact Or.inr ⟨_, rfl⟩), rfl, fun h => (by first | exact Or.inr rfl | exact Or.inl rfl | cases h)⟩
theorem fT_63 : rFld (14, 43, 7, 6, 0, false) := ⟨RX9, "Goalmouth", RX9, TX9, 10, tyX9, rfl, rfl, inl_X9, by decide, mA 143 (by decide +kernel), Or.inl rfl, tyX9_ok, nmX9, (by first | exact trivial | exact rfl | exact Or.inl ⟨_, rfl⟩ | exact Or.inr ⟨_, rfl⟩), rfl, fun h => (by first | exact Or.inr rfl | exact Or.inl rfl | cases h)⟩
theorem fT_64 : rFld (14, 16, 7, 1, 4, true) := ⟨RX9, "Goalmouth", RX9, TX9, 10, tyX9, rfl, rfl, inl_X9, by decide, mA 138 (by decide +kernel), Or.inl rfl, tyX9_ok, nmX9, (by first | exact trivial | exact rfl | exact Or.inl ⟨_, rfl⟩ | exact Or.inr ⟨_, rfl⟩), rfl, fun h => (by first | exact Or.inr rfl | exact Or.inl rfl | cases h)⟩
theorem fT_65 : rFld (14, 32, 7, 4, 4, true) := ⟨RX9, "Goalmouth", RX9, TX9, 10, tyX9, rfl, rfl, inl_X9, by decide, mA 141 (by decide +kernel), Or.inl rfl, tyX9_ok, nmX9, (by first | exact trivial | exact rfl | exact Or.inl ⟨_, rfl⟩ | exact Or.inr ⟨_, rfl⟩), rfl, fun h => (by first | exact Or.inr rfl | exact Or.inl rfl | cases h)⟩
theorem fT_66 : rFld (14, 47, 7, 7, 0, false) := ⟨RX9, "Goalmouth", RX9, TX9, 10, tyX9, rfl, rfl, inl_X9, by decide, mA 144 (by decide +kernel), Or.inl rfl, tyX9_ok, nmX9, (by first | exact trivial | exact rfl | exact Or.inl ⟨_, rfl⟩ | exact Or.inr ⟨_, rfl⟩), rfl, fun h => (by first | exact Or.inr rfl | exact Or.inl rfl | cases h)⟩
theorem fT_67 : rFld (14, 50, 7, 8, 0, false) := ⟨RX9, "Goalmouth", RX9, TX9, 10, tyX9, rfl, rfl, inl_X9, by decide, mA 145 (by decide +kernel), Or.inl rfl, tyX9_ok, nmX9, (by first | exact trivial | exact rfl | exact Or.inl ⟨_, rfl⟩ | exact Or.inr ⟨_, rfl⟩), rfl, fun h => (by first | exact Or.inr rfl | exact Or.inl rfl | cases h)⟩
theorem fT_ok : ∀ q ∈ fT, rFld q := List.forall_mem_cons.mpr ⟨fT_0, List.forall_mem_cons.mpr ⟨fT_1, List.forall_mem_cons.mpr ⟨fT_2, List.forall_mem_cons.mpr ⟨fT_3, List.forall_mem_cons.mpr ⟨fT_4, List.forall_mem_cons.mpr ⟨fT_5, List.forall_mem_cons.mpr ⟨fT_6, List.forall_mem_cons.mpr ⟨fT_7, List.forall_mem_cons.mpr ⟨fT_8, List.forall_mem_cons.mpr ⟨fT_9, List.forall_mem_cons.mpr ⟨fT_10, List.forall_mem_cons.mpr ⟨fT_11, List.forall_mem_cons.mpr ⟨fT_12, List.forall_mem_cons.mpr ⟨fT_13, List.forall_mem_cons.mpr ⟨fT_14, List.forall_mem_cons.mpr ⟨fT_15, List.forall_mem_cons.mpr ⟨fT_16, List.forall_mem_cons.mpr ⟨fT_17, List.forall_mem_cons.mpr ⟨fT_18, List.forall_mem_cons.mpr ⟨fT_19, List.forall_mem_cons.mpr ⟨fT_20, List.forall_mem_cons.mpr ⟨fT_21, List.forall_mem_cons.mpr ⟨fT_22, List.forall_mem_cons.mpr ⟨fT_23, List.forall_mem_cons.mpr ⟨fT_24, List.forall_mem_cons.mpr ⟨fT_25, List.forall_mem_cons.mpr ⟨fT_26, List.forall_mem_cons.mpr ⟨fT_27, List.forall_mem_cons.mpr ⟨fT_28, List.forall_mem_cons.mpr ⟨fT_29, List.forall_mem_cons.mpr ⟨fT_30, List.forall_mem_cons.mpr ⟨fT_31, List.forall_mem_cons.mpr ⟨fT_32, List.forall_mem_cons.mpr ⟨fT_33, List.forall_mem_cons.mpr ⟨fT_34, List.forall_mem_cons.mpr ⟨fT_35, List.forall_mem_cons.mpr ⟨fT_36, List.forall_mem_cons.mpr ⟨fT_37, List.forall_mem_cons.mpr ⟨fT_38, List.forall_mem_cons.mpr ⟨fT_39, List.forall_mem_cons.mpr ⟨fT_40, List.forall_mem_cons.mpr ⟨fT_41, List.forall_mem_cons.mpr ⟨fT_42, List.forall_mem_cons.mpr ⟨fT_43, List.forall_mem_cons.mpr ⟨fT_44, List.forall_mem_cons.mpr ⟨fT_45, List.forall_mem_cons.mpr ⟨fT_46, List.forall_mem_cons.mpr ⟨fT_47, List.forall_mem_cons.mpr ⟨fT_48, List.forall_mem_cons.mpr ⟨fT_49, List.forall_mem_cons.mpr ⟨fT_50, List.forall_mem_cons.mpr ⟨fT_51, List.forall_mem_cons.mpr ⟨fT_52, List.forall_mem_cons.mpr ⟨fT_53, List.forall_mem_cons.mpr ⟨fT_54, List.forall_mem_cons.mpr ⟨fT_55, List.forall_mem_cons.mpr ⟨fT_56, List.forall_mem_cons.mpr ⟨fT_57, List.forall_mem_cons.mpr ⟨fT_58, List.forall_mem_cons.mpr ⟨fT_59, List.forall_mem_cons.mpr ⟨fT_60, List.forall_mem_cons.mpr ⟨fT_61, List.forall_mem_cons.mpr ⟨fT_62, List.forall_mem_cons.mpr ⟨fT_63, List.forall_mem_cons.mpr ⟨fT_64, List.forall_mem_cons.mpr ⟨fT_65, List.forall_mem_cons.mpr ⟨fT_66, List.forall_mem_cons.mpr ⟨fT_67, fun _ h => absurd h List.not_mem_nil⟩⟩⟩⟩⟩⟩⟩⟩⟩⟩⟩⟩⟩⟩⟩⟩⟩⟩⟩⟩⟩⟩⟩⟩⟩⟩⟩⟩⟩⟩⟩⟩⟩⟩⟩⟩⟩⟩⟩⟩⟩⟩⟩⟩⟩⟩⟩⟩⟩⟩⟩⟩⟩⟩⟩⟩⟩⟩⟩⟩⟩⟩⟩⟩⟩⟩⟩⟩
theorem fnT_ok : ∀ q ∈ fnT, rFldN q := List.forall_mem_cons.mpr ⟨⟨RJx35411, "java/util/ArrayList", RJx4a65c, "java/util/ArrayList", TJx4a65c, 3, rfl, rfl, inl_Jx4a65c, by decide, mA 74 (by decide +kernel), rfl⟩, fun _ h => absurd h List.not_mem_nil⟩
theorem newT_0 : rNew (5, 8, 7, 10, [.inl .null, .inl .null, .inl .null, .inl .null, .inl .null, .inl .null, .inl (.int 0), .inl (.int 0), .inl (.int 0), .inl .null]) := ⟨RL, RX9, TX9, tyX9, rfl, rfl, inl_X9, tyX9_ok, mA 52 (by decide +kernel), mA 53 (by decide +kernel), mA 32 (by decide +kernel), fun ρ σ j hj => by
  have h9 : j = 0 ∨ j = 1 ∨ j = 2 ∨ j = 3 ∨ j = 4 ∨ j = 5 ∨ j = 6 ∨ j = 7 ∨ j = 8 ∨ j = 9 := by have hj : j < 10 := hj; omega
  rcases h9 with rfl | rfl | rfl | rfl | rfl | rfl | rfl | rfl | rfl | rfl <;> rfl⟩
theorem newT_1 : rNew (5, 138, 10, 13, [.inl .null, .inl .null, .inl .null, .inl .null, .inl .null, .inl .null, .inl .null, .inl .null, .inl (.int 0), .inl (.int 0), .inl (.int 0), .inl (.int 0), .inl .null]) := ⟨RL, RX15, TX15, tyX15, rfl, rfl, inl_X15, tyX15_ok, mA 585 (by decide +kernel), mA 586 (by decide +kernel), mA 39 (by decide +kernel), fun ρ σ j hj => by
  have h9 : j = 0 ∨ j = 1 ∨ j = 2 ∨ j = 3 ∨ j = 4 ∨ j = 5 ∨ j = 6 ∨ j = 7 ∨ j = 8 ∨ j = 9 ∨ j = 10 ∨ j = 11 ∨ j = 12 := by have hj : j < 13 := hj; omega
  rcases h9 with rfl | rfl | rfl | rfl | rfl | rfl | rfl | rfl | rfl | rfl | rfl | rfl | rfl <;> rfl⟩
theorem newT_2 : rNew (2, 267, 0, 4, [.inl (.int 0), .inl (.int 0), .inl (.int 0), .inl .null]) := ⟨RJx4a65c, RJx35411, TJx35411, tyJx35411, rfl, rfl, inl_Jx35411, tyJx35411_ok, mA 647 (by decide +kernel), mA 648 (by decide +kernel), mA 46 (by decide +kernel), fun ρ σ j hj => by
  have h9 : j = 0 ∨ j = 1 ∨ j = 2 ∨ j = 3 := by have hj : j < 4 := hj; omega
  rcases h9 with rfl | rfl | rfl | rfl <;> rfl⟩
theorem newT_3 : rNew (6, 9, 1, 3, [.inl (.int 0), .inl .null, .inl (.int 0)]) := ⟨RX0, RJx4a65c, TJx4a65c, tyJx4a65c, rfl, rfl, inl_Jx4a65c, tyJx4a65c_ok, mA 89 (by decide +kernel), mA 61 (by decide +kernel), mA 35 (by decide +kernel), fun ρ σ j hj => by
  have h9 : j = 0 ∨ j = 1 ∨ j = 2 := by have hj : j < 3 := hj; omega
  rcases h9 with rfl | rfl | rfl <;> rfl⟩
theorem newT_4 : rNew (8, 7, 1, 3, [.inl (.int 0), .inl .null, .inl (.int 0)]) := ⟨RX12, RJx4a65c, TJx4a65c, tyJx4a65c, rfl, rfl, inl_Jx4a65c, tyJx4a65c_ok, mA 778 (by decide +kernel), mA 61 (by decide +kernel), mA 35 (by decide +kernel), fun ρ σ j hj => by
  have h9 : j = 0 ∨ j = 1 ∨ j = 2 := by have hj : j < 3 := hj; omega
  rcases h9 with rfl | rfl | rfl <;> rfl⟩
theorem newT_5 : rNew (9, 146, 8, 6, [.inl (.int 0), .inl (.int 0), .inl (.int 0), .inl (.int 0), .inl (.int 0), .inl (.int 0)]) := ⟨RX15, RX11, TX11, tyX11, rfl, rfl, inl_X11, tyX11_ok, mA 670 (by decide +kernel), mA 677 (by decide +kernel), mA 47 (by decide +kernel), fun ρ σ j hj => by
  have h9 : j = 0 ∨ j = 1 ∨ j = 2 ∨ j = 3 ∨ j = 4 ∨ j = 5 := by have hj : j < 6 := hj; omega
  rcases h9 with rfl | rfl | rfl | rfl | rfl | rfl <;> rfl⟩
theorem newT_6 : rNew (9, 7, 1, 3, [.inl (.int 0), .inl .null, .inl (.int 0)]) := ⟨RX15, RJx4a65c, TJx4a65c, tyJx4a65c, rfl, rfl, inl_Jx4a65c, tyJx4a65c_ok, mA 591 (by decide +kernel), mA 61 (by decide +kernel), mA 35 (by decide +kernel), fun ρ σ j hj => by
  have h9 : j = 0 ∨ j = 1 ∨ j = 2 := by have hj : j < 3 := hj; omega
  rcases h9 with rfl | rfl | rfl <;> rfl⟩
theorem newT_7 : rNew (9, 81, 9, 5, [.inl (.int 0), .inl .null, .inl (.int 0), .inl (.int 0), .inl .null]) := ⟨RX15, RX12, TX12, tyX12, rfl, rfl, inl_X12, tyX12_ok, mA 772 (by decide +kernel), mA 773 (by decide +kernel), mA 50 (by decide +kernel), fun ρ σ j hj => by
  have h9 : j = 0 ∨ j = 1 ∨ j = 2 ∨ j = 3 ∨ j = 4 := by have hj : j < 5 := hj; omega
  rcases h9 with rfl | rfl | rfl | rfl | rfl <;> rfl⟩
theorem newT_8 : rNew (12, 9, 1, 3, [.inl (.int 0), .inl .null, .inl (.int 0)]) := ⟨RX5, RJx4a65c, TJx4a65c, tyJx4a65c, rfl, rfl, inl_Jx4a65c, tyJx4a65c_ok, mA 111 (by decide +kernel), mA 61 (by decide +kernel), mA 35 (by decide +kernel), fun ρ σ j hj => by
  have h9 : j = 0 ∨ j = 1 ∨ j = 2 := by have hj : j < 3 := hj; omega
  rcases h9 with rfl | rfl | rfl <;> rfl⟩
theorem newT_9 : rNew (13, 9, 1, 3, [.inl (.int 0), .inl .null, .inl (.int 0)]) := ⟨RX8, RJx4a65c, TJx4a65c, tyJx4a65c, rfl, rfl, inl_Jx4a65c, tyJx4a65c_ok, mA 133 (by decide +kernel), mA 61 (by decide +kernel), mA 35 (by decide +kernel), fun ρ σ j hj => by
  have h9 : j = 0 ∨ j = 1 ∨ j = 2 := by have hj : j < 3 := hj; omega
  rcases h9 with rfl | rfl | rfl <;> rfl⟩
theorem newT_10 : rNew (14, 81, 3, 15, [.inl (.int 0), .inl (.int 0), .inl (.int 0), .inl (.int 0), .inl (.int 0), .inl (.int 0), .inl (.int 0), .inl (.int 0), .inl (.int 0), .inl (.int 0), .inl (.int 0), .inl (.int 0), .inl (.int 0), .inl (.int 0), .inl (.int 0)]) := ⟨RX9, RX2, TX2, tyX2, rfl, rfl, inl_X2, tyX2_ok, mA 165 (by decide +kernel), mA 214 (by decide +kernel), mA 42 (by decide +kernel), fun ρ σ j hj => by
  have h9 : j = 0 ∨ j = 1 ∨ j = 2 ∨ j = 3 ∨ j = 4 ∨ j = 5 ∨ j = 6 ∨ j = 7 ∨ j = 8 ∨ j = 9 ∨ j = 10 ∨ j = 11 ∨ j = 12 ∨ j = 13 ∨ j = 14 := by have hj : j < 15 := hj; omega
  rcases h9 with rfl | rfl | rfl | rfl | rfl | rfl | rfl | rfl | rfl | rfl | rfl | rfl | rfl | rfl | rfl <;> rfl⟩
theorem newT_11 : rNew (14, 288, 4, 6, [.inl (.int 0), .inl .null, .inl (.int 0), .inl (.int 0), .inl (.int 0), .inl (.int 0)]) := ⟨RX9, RX3, TX3, tyX3, rfl, rfl, inl_X3, tyX3_ok, mA 379 (by decide +kernel), mA 380 (by decide +kernel), mA 49 (by decide +kernel), fun ρ σ j hj => by
  have h9 : j = 0 ∨ j = 1 ∨ j = 2 ∨ j = 3 ∨ j = 4 ∨ j = 5 := by have hj : j < 6 := hj; omega
  rcases h9 with rfl | rfl | rfl | rfl | rfl | rfl <;> rfl⟩
theorem newT_12 : rNew (14, 7, 1, 3, [.inl (.int 0), .inl .null, .inl (.int 0)]) := ⟨RX9, RJx4a65c, TJx4a65c, tyJx4a65c, rfl, rfl, inl_Jx4a65c, tyJx4a65c_ok, mA 60 (by decide +kernel), mA 61 (by decide +kernel), mA 35 (by decide +kernel), fun ρ σ j hj => by
  have h9 : j = 0 ∨ j = 1 ∨ j = 2 := by have hj : j < 3 := hj; omega
  rcases h9 with rfl | rfl | rfl <;> rfl⟩
theorem newT_13 : rNew (14, 22, 2, 6, [.inl .null, .inl .null, .inl .null, .inl .null, .inl .null, .inl .null]) := ⟨RX9, RX0, TX0, tyX0, rfl, rfl, inl_X0, tyX0_ok, mA 83 (by decide +kernel), mA 84 (by decide +kernel), mA 36 (by decide +kernel), fun ρ σ j hj => by
  have h9 : j = 0 ∨ j = 1 ∨ j = 2 ∨ j = 3 ∨ j = 4 ∨ j = 5 := by have hj : j < 6 := hj; omega
  rcases h9 with rfl | rfl | rfl | rfl | rfl | rfl <;> rfl⟩
theorem newT_14 : rNew (14, 29, 5, 7, [.inl .null, .inl .null, .inl .null, .inl .null, .inl .null, .inl .null, .inl (.int 0)]) := ⟨RX9, RX5, TX5, tyX5, rfl, rfl, inl_X5, tyX5_ok, mA 105 (by decide +kernel), mA 106 (by decide +kernel), mA 37 (by decide +kernel), fun ρ σ j hj => by
  have h9 : j = 0 ∨ j = 1 ∨ j = 2 ∨ j = 3 ∨ j = 4 ∨ j = 5 ∨ j = 6 := by have hj : j < 7 := hj; omega
  rcases h9 with rfl | rfl | rfl | rfl | rfl | rfl | rfl <;> rfl⟩
theorem newT_15 : rNew (14, 36, 6, 1, [.inl .null]) := ⟨RX9, RX8, TX8, tyX8, rfl, rfl, inl_X8, tyX8_ok, mA 127 (by decide +kernel), mA 128 (by decide +kernel), mA 38 (by decide +kernel), fun ρ σ j hj => by
  have h9 : j = 0 := by have hj : j < 1 := hj; omega
  rcases h9 with rfl <;> rfl⟩
theorem newT_ok : ∀ q ∈ newT, rNew q := List.forall_mem_cons.mpr ⟨newT_0, List.forall_mem_cons.mpr ⟨newT_1, List.forall_mem_cons.mpr ⟨newT_2, List.forall_mem_cons.mpr ⟨newT_3, List.forall_mem_cons.mpr ⟨newT_4, List.forall_mem_cons.mpr ⟨newT_5, List.forall_mem_cons.mpr ⟨newT_6, List.forall_mem_cons.mpr ⟨newT_7, List.forall_mem_cons.mpr ⟨newT_8, List.forall_mem_cons.mpr ⟨newT_9, List.forall_mem_cons.mpr ⟨newT_10, List.forall_mem_cons.mpr ⟨newT_11, List.forall_mem_cons.mpr ⟨newT_12, List.forall_mem_cons.mpr ⟨newT_13, List.forall_mem_cons.mpr ⟨newT_14, List.forall_mem_cons.mpr ⟨newT_15, fun _ h => absurd h List.not_mem_nil⟩⟩⟩⟩⟩⟩⟩⟩⟩⟩⟩⟩⟩⟩⟩⟩
theorem newT_fs : ∀ q ∈ newT, q.2.2.2.2.all (fun v => decide (v = .inl .null) || decide (v = .inl (.int 0))) = true := by decide +kernel
theorem anT_ok : ∀ q ∈ anT, rAn q := List.forall_mem_cons.mpr ⟨⟨RJx4a65c, rfl, mA 255 (by decide +kernel), mA 253 (by decide +kernel)⟩, fun _ h => absurd h List.not_mem_nil⟩
theorem gsT_ok : ∀ q ∈ gsT, rGs q := List.forall_mem_cons.mpr ⟨⟨RJx4a65c, rfl, mA 72 (by decide +kernel)⟩, fun _ h => absurd h List.not_mem_nil⟩
theorem oiT_ok : ∀ q ∈ oiT, rOi q := List.forall_mem_cons.mpr ⟨⟨RJx35411, rfl, mA 652 (by decide +kernel), mA 58 (by decide +kernel), mA 59 (by decide +kernel)⟩, List.forall_mem_cons.mpr ⟨⟨RJxa1e45, rfl, mA 71 (by decide +kernel), mA 58 (by decide +kernel), mA 59 (by decide +kernel)⟩, List.forall_mem_cons.mpr ⟨⟨RX0, rfl, mA 88 (by decide +kernel), mA 58 (by decide +kernel), mA 59 (by decide +kernel)⟩, List.forall_mem_cons.mpr ⟨⟨RX11, rfl, mA 681 (by decide +kernel), mA 58 (by decide +kernel), mA 59 (by decide +kernel)⟩, List.forall_mem_cons.mpr ⟨⟨RX12, rfl, mA 777 (by decide +kernel), mA 58 (by decide +kernel), mA 59 (by decide +kernel)⟩, List.forall_mem_cons.mpr ⟨⟨RX15, rfl, mA 590 (by decide +kernel), mA 58 (by decide +kernel), mA 59 (by decide +kernel)⟩, List.forall_mem_cons.mpr ⟨⟨RX2, rfl, mA 218 (by decide +kernel), mA 58 (by decide +kernel), mA 59 (by decide +kernel)⟩, List.forall_mem_cons.mpr ⟨⟨RX3, rfl, mA 384 (by decide +kernel), mA 58 (by decide +kernel), mA 59 (by decide +kernel)⟩, List.forall_mem_cons.mpr ⟨⟨RX5, rfl, mA 110 (by decide +kernel), mA 58 (by decide +kernel), mA 59 (by decide +kernel)⟩, List.forall_mem_cons.mpr ⟨⟨RX8, rfl, mA 132 (by decide +kernel), mA 58 (by decide +kernel), mA 59 (by decide +kernel)⟩, List.forall_mem_cons.mpr ⟨⟨RX9, rfl, mA 57 (by decide +kernel), mA 58 (by decide +kernel), mA 59 (by decide +kernel)⟩, fun _ h => absurd h List.not_mem_nil⟩⟩⟩⟩⟩⟩⟩⟩⟩⟩⟩
theorem mxT_ok : ∀ q ∈ mxT, rMx q := List.forall_mem_cons.mpr ⟨⟨RJx4a65c, rfl, mA 254 (by decide +kernel), mA 188 (by decide +kernel), mA 43 (by decide +kernel), mA 189 (by decide +kernel)⟩, fun _ h => absurd h List.not_mem_nil⟩
theorem acT_ok : ∀ q ∈ acT, rAc q := List.forall_mem_cons.mpr ⟨⟨RX0, rfl, mA 174 (by decide +kernel), mA 176 (by decide +kernel), mA 175 (by decide +kernel), mA 45 (by decide +kernel)⟩, fun _ h => absurd h List.not_mem_nil⟩
theorem ldT_ok : ∀ q ∈ ldT, rLd q := List.forall_mem_cons.mpr ⟨⟨RX15, rfl, mA 630 (by decide +kernel)⟩, List.forall_mem_cons.mpr ⟨⟨RX15, rfl, mA 631 (by decide +kernel)⟩, List.forall_mem_cons.mpr ⟨⟨RX15, rfl, mA 719 (by decide +kernel)⟩, List.forall_mem_cons.mpr ⟨⟨RX15, rfl, mA 711 (by decide +kernel)⟩, List.forall_mem_cons.mpr ⟨⟨RX9, rfl, mA 190 (by decide +kernel)⟩, fun _ h => absurd h List.not_mem_nil⟩⟩⟩⟩⟩
theorem caT_ok : ∀ ci ∈ caT, rCa ci := List.forall_mem_cons.mpr ⟨⟨(RX2, TX2, 15), rfl, mA 904 (by decide +kernel)⟩, List.forall_mem_cons.mpr ⟨⟨(RX3, TX3, 6), rfl, mA 906 (by decide +kernel)⟩, List.forall_mem_cons.mpr ⟨⟨(RX11, TX11, 6), rfl, mA 905 (by decide +kernel)⟩, List.forall_mem_cons.mpr ⟨⟨(RX12, TX12, 5), rfl, mA 907 (by decide +kernel)⟩, fun _ h => absurd h List.not_mem_nil⟩⟩⟩⟩
theorem opT_ok : ∀ t ∈ opT, rOk t.1 t.2 := List.forall_mem_cons.mpr ⟨ok_iload_n, List.forall_mem_cons.mpr ⟨ok_iload, List.forall_mem_cons.mpr ⟨ok_lload_n, List.forall_mem_cons.mpr ⟨ok_lload, List.forall_mem_cons.mpr ⟨ok_aload_n, List.forall_mem_cons.mpr ⟨ok_aload, List.forall_mem_cons.mpr ⟨ok_aload_nN, List.forall_mem_cons.mpr ⟨ok_istore_n, List.forall_mem_cons.mpr ⟨ok_istore, List.forall_mem_cons.mpr ⟨ok_astore_n, List.forall_mem_cons.mpr ⟨ok_astore, List.forall_mem_cons.mpr ⟨ok_astore_nN, List.forall_mem_cons.mpr ⟨ok_lstore_n, List.forall_mem_cons.mpr ⟨ok_fstore, List.forall_mem_cons.mpr ⟨ok_dstore, List.forall_mem_cons.mpr ⟨ok_iconst, List.forall_mem_cons.mpr ⟨ok_bipush, List.forall_mem_cons.mpr ⟨ok_sipush, List.forall_mem_cons.mpr ⟨ok_lconst, List.forall_mem_cons.mpr ⟨ok_fconst, List.forall_mem_cons.mpr ⟨ok_dconst, List.forall_mem_cons.mpr ⟨ok_null, List.forall_mem_cons.mpr ⟨ok_dup, List.forall_mem_cons.mpr ⟨ok_dup_x1, List.forall_mem_cons.mpr ⟨ok_pop, List.forall_mem_cons.mpr ⟨ok_iadd, List.forall_mem_cons.mpr ⟨ok_isub, List.forall_mem_cons.mpr ⟨ok_iand, List.forall_mem_cons.mpr ⟨ok_lmul, List.forall_mem_cons.mpr ⟨ok_iinc, List.forall_mem_cons.mpr ⟨ok_i2l, List.forall_mem_cons.mpr ⟨ok_i2c, List.forall_mem_cons.mpr ⟨ok_if_eq, List.forall_mem_cons.mpr ⟨ok_if_ne, List.forall_mem_cons.mpr ⟨ok_if_lt, List.forall_mem_cons.mpr ⟨ok_if_ge, List.forall_mem_cons.mpr ⟨ok_if_gt, List.forall_mem_cons.mpr ⟨ok_if_le, List.forall_mem_cons.mpr ⟨ok_icmp_eq, List.forall_mem_cons.mpr ⟨ok_icmp_ne, List.forall_mem_cons.mpr ⟨ok_icmp_lt, List.forall_mem_cons.mpr ⟨ok_icmp_ge, List.forall_mem_cons.mpr ⟨ok_icmp_gt, List.forall_mem_cons.mpr ⟨ok_icmp_le, List.forall_mem_cons.mpr ⟨ok_lc_eq, List.forall_mem_cons.mpr ⟨ok_lc_ne, List.forall_mem_cons.mpr ⟨ok_lc_lt, List.forall_mem_cons.mpr ⟨ok_lc_ge, List.forall_mem_cons.mpr ⟨ok_lc_gt, List.forall_mem_cons.mpr ⟨ok_lc_le, List.forall_mem_cons.mpr ⟨ok_acmp_eq, List.forall_mem_cons.mpr ⟨ok_ifnull, List.forall_mem_cons.mpr ⟨ok_ifnonnull, List.forall_mem_cons.mpr ⟨ok_goto, List.forall_mem_cons.mpr ⟨ok_switch, List.forall_mem_cons.mpr ⟨ok_iaload, List.forall_mem_cons.mpr ⟨ok_xaload, List.forall_mem_cons.mpr ⟨ok_laload, List.forall_mem_cons.mpr ⟨ok_iastore, List.forall_mem_cons.mpr ⟨ok_lastore, List.forall_mem_cons.mpr ⟨ok_aastore caT_ok, List.forall_mem_cons.mpr ⟨ok_alen, List.forall_mem_cons.mpr ⟨ok_alenS, List.forall_mem_cons.mpr ⟨ok_alenX, List.forall_mem_cons.mpr ⟨ok_newI (mA 104 (by decide +kernel)), List.forall_mem_cons.mpr ⟨ok_newZ (mA 126 (by decide +kernel)), List.forall_mem_cons.mpr ⟨ok_newJ (mA 902 (by decide +kernel)), List.forall_mem_cons.mpr ⟨ok_newD (mA 903 (by decide +kernel)), List.forall_mem_cons.mpr ⟨ok_anew anT_ok, List.forall_mem_cons.mpr ⟨ok_new newT_ok newT_fs, List.forall_mem_cons.mpr ⟨ok_getf fT_ok, List.forall_mem_cons.mpr ⟨ok_getN fnT_ok, List.forall_mem_cons.mpr ⟨ok_putf fT_ok, List.forall_mem_cons.mpr ⟨ok_putF fT_ok, List.forall_mem_cons.mpr ⟨ok_gets gsT_ok, List.forall_mem_cons.mpr ⟨ok_oinit oiT_ok, List.forall_mem_cons.mpr ⟨ok_max mxT_ok, List.forall_mem_cons.mpr ⟨ok_acopy acT_ok, List.forall_mem_cons.mpr ⟨ok_ldc2 ldT_ok, fun _ h => absurd h List.not_mem_nil⟩⟩⟩⟩⟩⟩⟩⟩⟩⟩⟩⟩⟩⟩⟩⟩⟩⟩⟩⟩⟩⟩⟩⟩⟩⟩⟩⟩⟩⟩⟩⟩⟩⟩⟩⟩⟩⟩⟩⟩⟩⟩⟩⟩⟩⟩⟩⟩⟩⟩⟩⟩⟩⟩⟩⟩⟩⟩⟩⟩⟩⟩⟩⟩⟩⟩⟩⟩⟩⟩⟩⟩⟩⟩⟩⟩⟩⟩⟩
theorem tT_0 : rThF (14, 65, 67, 69, 0, false) := ⟨RX9, "java/lang/IllegalArgumentException", ["java/lang/RuntimeException", "java/lang/Exception"], rfl, rfl, rfl, by decide +kernel, by decide +kernel, mA 207 (by decide +kernel), mA 40 (by decide +kernel), at_lw0, by decide +kernel⟩
theorem tT_1 : rThF (14, 356, 358, 360, 2, true) := ⟨RX9, "java/lang/IndexOutOfBoundsException", ["java/lang/RuntimeException", "java/lang/Exception"], rfl, rfl, rfl, by decide +kernel, by decide +kernel, mA 267 (by decide +kernel), mA 48 (by decide +kernel), at_lw1, by decide +kernel⟩
theorem tT_2 : rThF (14, 65, 165, 69, 0, false) := ⟨RX9, "java/lang/IllegalArgumentException", ["java/lang/RuntimeException", "java/lang/Exception"], rfl, rfl, rfl, by decide +kernel, by decide +kernel, mA 207 (by decide +kernel), mA 40 (by decide +kernel), at_lw0, by decide +kernel⟩
theorem tT_3 : rThF (14, 356, 395, 360, 2, true) := ⟨RX9, "java/lang/IndexOutOfBoundsException", ["java/lang/RuntimeException", "java/lang/Exception"], rfl, rfl, rfl, by decide +kernel, by decide +kernel, mA 267 (by decide +kernel), mA 48 (by decide +kernel), at_lw1, by decide +kernel⟩
theorem tT_4 : rThF (14, 65, 114, 69, 0, false) := ⟨RX9, "java/lang/IllegalArgumentException", ["java/lang/RuntimeException", "java/lang/Exception"], rfl, rfl, rfl, by decide +kernel, by decide +kernel, mA 207 (by decide +kernel), mA 40 (by decide +kernel), at_lw0, by decide +kernel⟩
theorem tT_5 : rThF (14, 356, 459, 360, 2, true) := ⟨RX9, "java/lang/IndexOutOfBoundsException", ["java/lang/RuntimeException", "java/lang/Exception"], rfl, rfl, rfl, by decide +kernel, by decide +kernel, mA 267 (by decide +kernel), mA 48 (by decide +kernel), at_lw1, by decide +kernel⟩
theorem tT_6 : rThF (14, 356, 463, 360, 2, true) := ⟨RX9, "java/lang/IndexOutOfBoundsException", ["java/lang/RuntimeException", "java/lang/Exception"], rfl, rfl, rfl, by decide +kernel, by decide +kernel, mA 267 (by decide +kernel), mA 48 (by decide +kernel), at_lw1, by decide +kernel⟩
theorem tT_7 : rThF (14, 76, 465, 80, 1, true) := ⟨RX9, "java/lang/IllegalStateException", ["java/lang/RuntimeException", "java/lang/Exception"], rfl, rfl, rfl, by decide +kernel, by decide +kernel, mA 212 (by decide +kernel), mA 41 (by decide +kernel), at_lw2, by decide +kernel⟩
theorem tT_8 : rThF (14, 356, 461, 360, 2, true) := ⟨RX9, "java/lang/IndexOutOfBoundsException", ["java/lang/RuntimeException", "java/lang/Exception"], rfl, rfl, rfl, by decide +kernel, by decide +kernel, mA 267 (by decide +kernel), mA 48 (by decide +kernel), at_lw1, by decide +kernel⟩
theorem tT_9 : rThF (14, 431, 439, 435, 3, true) := ⟨RX9, "java/lang/ArithmeticException", ["java/lang/RuntimeException", "java/lang/Exception"], rfl, rfl, rfl, by decide +kernel, by decide +kernel, mA 574 (by decide +kernel), mA 51 (by decide +kernel), at_lw3, by decide +kernel⟩
theorem tT_10 : rThF (14, 431, 433, 435, 3, true) := ⟨RX9, "java/lang/ArithmeticException", ["java/lang/RuntimeException", "java/lang/Exception"], rfl, rfl, rfl, by decide +kernel, by decide +kernel, mA 574 (by decide +kernel), mA 51 (by decide +kernel), at_lw3, by decide +kernel⟩
theorem tT_11 : rThF (14, 76, 170, 80, 1, false) := ⟨RX9, "java/lang/IllegalStateException", ["java/lang/RuntimeException", "java/lang/Exception"], rfl, rfl, rfl, by decide +kernel, by decide +kernel, mA 212 (by decide +kernel), mA 41 (by decide +kernel), at_lw2, by decide +kernel⟩
theorem tT_12 : rThF (14, 65, 108, 69, 0, false) := ⟨RX9, "java/lang/IllegalArgumentException", ["java/lang/RuntimeException", "java/lang/Exception"], rfl, rfl, rfl, by decide +kernel, by decide +kernel, mA 207 (by decide +kernel), mA 40 (by decide +kernel), at_lw0, by decide +kernel⟩
theorem tT_ok : ∀ q ∈ tT, rThF q := List.forall_mem_cons.mpr ⟨tT_0, List.forall_mem_cons.mpr ⟨tT_1, List.forall_mem_cons.mpr ⟨tT_2, List.forall_mem_cons.mpr ⟨tT_3, List.forall_mem_cons.mpr ⟨tT_4, List.forall_mem_cons.mpr ⟨tT_5, List.forall_mem_cons.mpr ⟨tT_6, List.forall_mem_cons.mpr ⟨tT_7, List.forall_mem_cons.mpr ⟨tT_8, List.forall_mem_cons.mpr ⟨tT_9, List.forall_mem_cons.mpr ⟨tT_10, List.forall_mem_cons.mpr ⟨tT_11, List.forall_mem_cons.mpr ⟨tT_12, fun _ h => absurd h List.not_mem_nil⟩⟩⟩⟩⟩⟩⟩⟩⟩⟩⟩⟩⟩
end
section
/-! every method: its code, its place among the words, its handlers -/
theorem kd_L_law_0 : ∀ z ∈ ([(0, 69, 0), (3, 22, 0), (4, 201, 0), (7, 9, 1), (8, 69, 1), (11, 22, 0), (12, 201, 1), (15, 9, 2), (16, 15, 1), (17, 66, 0), (19, 9, 3), (20, 15, 1), (21, 67, 0), (23, 10, 4), (25, 15, 0), (26, 8, 5), (28, 1, 5), (30, 4, 0), (31, 63, 0), (32, 15, 4), (33, 26, 0), (34, 42, 2467), (37, 4, 0), (38, 1, 5), (40, 56, 0), (41, 16, 63), (43, 27, 0), (44, 54, 0)] : List (Nat × Nat × Int)), ∀ x ∈ dkAll 6 z.2.1 z.2.2, decode code (z.1 + x.1) = .ok (x.2.1, x.2.2) := by decide +kernel
theorem kd_L_law_1 : ∀ z ∈ ([] : List (Nat × Nat × Int)), ∀ x ∈ dkAll 6 z.2.1 z.2.2, decode code (z.1 + x.1) = .ok (x.2.1, x.2.2) := by decide +kernel
theorem kd_L_law_2 : ∀ z ∈ ([] : List (Nat × Nat × Int)), ∀ x ∈ dkAll 6 z.2.1 z.2.2, decode code (z.1 + x.1) = .ok (x.2.1, x.2.2) := by decide +kernel
theorem kd_L_law_3 : ∀ z ∈ ([(204, 4, 1), (205, 4, 0), (206, 1, 5), (208, 15, 1), (209, 25, 0), (210, 56, 0), (211, 4, 0), (212, 1, 5), (214, 15, 2), (215, 25, 0), (216, 56, 0), (217, 4, 0), (218, 1, 5), (220, 15, 3), (221, 25, 0), (222, 56, 0), (223, 4, 3), (224, 201, 2), (227, 8, 6), (229, 4, 2), (230, 4, 0), (231, 1, 5), (233, 15, 1), (234, 25, 0), (235, 56, 0), (236, 4, 0), (237, 1, 5), (239, 15, 2), (240, 25, 0), (241, 56, 0), (242, 4, 0), (243, 1, 5), (245, 15, 3), (246, 25, 0), (247, 56, 0), (248, 201, 3), (251, 8, 7), (253, 4, 2), (254, 201, 4)] : List (Nat × Nat × Int)), ∀ x ∈ dkAll 6 z.2.1 z.2.2, decode code (z.1 + x.1) = .ok (x.2.1, x.2.2) := by decide +kernel
theorem kd_L_law_4 : ∀ z ∈ ([(257, 1, 6), (259, 38, 5), (264, 1, 6), (266, 33, 15), (269, 4, 3), (270, 15, 0), (271, 57, 0), (272, 1, 7), (274, 30, 0), (275, 44, 5), (281, 53, 2214), (284, 4, 1), (285, 4, 0), (286, 1, 5), (288, 15, 1), (289, 25, 0), (290, 56, 0), (291, 4, 3), (292, 201, 5), (295, 8, 6), (297, 4, 2), (298, 4, 0), (299, 1, 5), (301, 15, 1), (302, 25, 0), (303, 56, 0), (304, 201, 6), (307, 8, 7), (309, 4, 2), (310, 201, 4), (313, 1, 6), (315, 38, 5)] : List (Nat × Nat × Int)), ∀ x ∈ dkAll 6 z.2.1 z.2.2, decode code (z.1 + x.1) = .ok (x.2.1, x.2.2) := by decide +kernel
theorem kd_L_law_5 : ∀ z ∈ ([(320, 1, 6), (322, 33, 15), (337, 53, 2158), (340, 4, 1), (341, 4, 0), (342, 1, 5), (344, 15, 1), (345, 25, 0), (346, 56, 0), (347, 4, 0), (348, 1, 5), (350, 15, 2), (351, 25, 0), (352, 56, 0), (353, 4, 3), (354, 201, 7), (357, 8, 6), (359, 4, 2), (360, 4, 0), (361, 1, 5), (363, 15, 1), (364, 25, 0), (365, 56, 0), (366, 4, 0), (367, 1, 5), (369, 15, 2), (370, 25, 0), (371, 56, 0), (372, 201, 8), (375, 8, 7), (377, 4, 2), (378, 201, 4), (381, 1, 6), (383, 38, 5)] : List (Nat × Nat × Int)), ∀ x ∈ dkAll 6 z.2.1 z.2.2, decode code (z.1 + x.1) = .ok (x.2.1, x.2.2) := by decide +kernel
theorem kd_L_law_6 : ∀ z ∈ ([(388, 1, 6), (390, 33, 22), (393, 4, 3), (394, 15, 0), (395, 57, 0), (396, 1, 7), (398, 32, 7), (401, 18, 1), (402, 53, 4), (405, 18, 0), (406, 44, 5), (412, 53, 2083), (415, 4, 1), (416, 4, 0), (417, 1, 5), (419, 15, 1), (420, 25, 0), (421, 56, 0), (422, 4, 3), (423, 201, 9), (426, 8, 6), (428, 4, 2), (429, 4, 0), (430, 1, 5), (432, 15, 1), (433, 25, 0), (434, 56, 0), (435, 201, 10), (438, 8, 7), (440, 4, 2), (441, 201, 4), (444, 1, 6), (446, 38, 5)] : List (Nat × Nat × Int)), ∀ x ∈ dkAll 6 z.2.1 z.2.2, decode code (z.1 + x.1) = .ok (x.2.1, x.2.2) := by decide +kernel
theorem kd_L_law_7 : ∀ z ∈ ([(451, 1, 6), (453, 33, 15), (456, 4, 3), (457, 15, 0), (458, 57, 0), (459, 1, 7), (461, 30, 0), (462, 44, 5), (468, 53, 2027), (471, 4, 1), (472, 4, 0), (473, 1, 5), (475, 15, 1), (476, 25, 0), (477, 56, 0), (478, 4, 0), (479, 1, 5), (481, 15, 2), (482, 25, 0), (483, 56, 0), (484, 4, 0), (485, 1, 5), (487, 15, 3), (488, 25, 0), (489, 56, 0), (490, 4, 3), (491, 201, 11), (494, 8, 6), (496, 4, 2), (497, 4, 0), (498, 1, 5), (500, 15, 1), (501, 25, 0), (502, 56, 0), (503, 4, 0), (504, 1, 5), (506, 15, 2), (507, 25, 0), (508, 56, 0), (509, 4, 0), (510, 1, 5)] : List (Nat × Nat × Int)), ∀ x ∈ dkAll 6 z.2.1 z.2.2, decode code (z.1 + x.1) = .ok (x.2.1, x.2.2) := by decide +kernel
theorem kd_L_law_8 : ∀ z ∈ ([(512, 15, 3), (513, 25, 0), (514, 56, 0), (515, 201, 12), (518, 8, 7), (520, 4, 2), (521, 201, 4), (524, 1, 6), (526, 38, 5), (531, 1, 6), (533, 33, 15), (548, 53, 1947), (551, 4, 1), (552, 4, 0), (553, 1, 5), (555, 15, 1), (556, 25, 0), (557, 56, 0), (558, 4, 0), (559, 1, 5), (561, 15, 2), (562, 25, 0), (563, 56, 0), (564, 4, 3), (565, 201, 13), (568, 8, 6), (570, 4, 2), (571, 4, 0), (572, 1, 5), (574, 15, 1), (575, 25, 0)] : List (Nat × Nat × Int)), ∀ x ∈ dkAll 6 z.2.1 z.2.2, decode code (z.1 + x.1) = .ok (x.2.1, x.2.2) := by decide +kernel
theorem kd_L_law_9 : ∀ z ∈ ([(576, 56, 0), (577, 4, 0), (578, 1, 5), (580, 15, 2), (581, 25, 0), (582, 56, 0), (583, 201, 14), (586, 8, 7), (588, 4, 2), (589, 201, 4), (592, 1, 6), (594, 38, 5), (599, 1, 6), (601, 33, 15), (616, 53, 1879), (619, 4, 1), (620, 4, 0), (621, 1, 5), (623, 15, 1), (624, 25, 0), (625, 56, 0), (626, 4, 3), (627, 201, 15), (630, 8, 6), (632, 4, 2), (633, 4, 0), (634, 1, 5), (636, 15, 1), (637, 25, 0), (638, 56, 0), (639, 201, 16)] : List (Nat × Nat × Int)), ∀ x ∈ dkAll 6 z.2.1 z.2.2, decode code (z.1 + x.1) = .ok (x.2.1, x.2.2) := by decide +kernel
theorem kd_L_law_10 : ∀ z ∈ ([(642, 8, 7), (644, 4, 2), (645, 201, 4), (648, 1, 6), (650, 38, 5), (655, 1, 6), (657, 33, 15), (672, 53, 1823), (675, 4, 1), (676, 4, 0), (677, 1, 5), (679, 15, 1), (680, 25, 0), (681, 56, 0), (682, 4, 0), (683, 1, 5), (685, 15, 2), (686, 25, 0), (687, 56, 0), (688, 4, 0), (689, 1, 5), (691, 15, 3), (692, 25, 0), (693, 56, 0), (694, 32, 7), (697, 15, 1), (698, 53, 4), (701, 15, 0), (702, 4, 3), (703, 201, 17)] : List (Nat × Nat × Int)), ∀ x ∈ dkAll 6 z.2.1 z.2.2, decode code (z.1 + x.1) = .ok (x.2.1, x.2.2) := by decide +kernel
theorem kd_L_law_11 : ∀ z ∈ ([(706, 8, 6), (708, 4, 2), (709, 4, 0), (710, 1, 5), (712, 15, 1), (713, 25, 0), (714, 56, 0), (715, 4, 0), (716, 1, 5), (718, 15, 2), (719, 25, 0), (720, 56, 0), (721, 4, 0), (722, 1, 5), (724, 15, 3), (725, 25, 0), (726, 56, 0), (727, 32, 7), (730, 15, 1), (731, 53, 4), (734, 15, 0), (735, 201, 18), (738, 8, 7), (740, 4, 2), (741, 201, 4), (744, 1, 6), (746, 38, 5), (751, 1, 6), (753, 33, 22)] : List (Nat × Nat × Int)), ∀ x ∈ dkAll 6 z.2.1 z.2.2, decode code (z.1 + x.1) = .ok (x.2.1, x.2.2) := by decide +kernel
theorem kd_L_law_12 : ∀ z ∈ ([(775, 53, 1720), (778, 4, 1), (779, 4, 0), (780, 1, 5), (782, 15, 1), (783, 25, 0), (784, 56, 0), (785, 4, 3), (786, 201, 19), (789, 8, 6), (791, 4, 2), (792, 4, 0), (793, 1, 5), (795, 15, 1), (796, 25, 0), (797, 56, 0), (798, 201, 20), (801, 8, 7), (803, 4, 2), (804, 201, 4), (807, 1, 6), (809, 38, 5), (814, 1, 6), (816, 33, 15), (831, 53, 1664)] : List (Nat × Nat × Int)), ∀ x ∈ dkAll 6 z.2.1 z.2.2, decode code (z.1 + x.1) = .ok (x.2.1, x.2.2) := by decide +kernel
theorem kd_L_law_13 : ∀ z ∈ ([(834, 4, 1), (835, 4, 0), (836, 1, 5), (838, 15, 1), (839, 25, 0), (840, 56, 0), (841, 4, 0), (842, 1, 5), (844, 15, 2), (845, 25, 0), (846, 56, 0), (847, 4, 3), (848, 201, 21), (851, 8, 6), (853, 4, 2), (854, 4, 0), (855, 1, 5), (857, 15, 1), (858, 25, 0), (859, 56, 0), (860, 4, 0), (861, 1, 5), (863, 15, 2), (864, 25, 0), (865, 56, 0), (866, 201, 22), (869, 8, 7), (871, 4, 2), (872, 201, 4), (875, 1, 6), (877, 38, 5), (882, 1, 6), (884, 33, 15)] : List (Nat × Nat × Int)), ∀ x ∈ dkAll 6 z.2.1 z.2.2, decode code (z.1 + x.1) = .ok (x.2.1, x.2.2) := by decide +kernel
theorem kd_L_law_14 : ∀ z ∈ ([(899, 53, 1596), (902, 4, 1), (903, 4, 0), (904, 1, 5), (906, 15, 1), (907, 25, 0), (908, 56, 0), (909, 4, 0), (910, 1, 5), (912, 15, 2), (913, 25, 0), (914, 56, 0), (915, 31, 0), (916, 4, 3), (917, 201, 23), (920, 8, 6), (922, 4, 2), (923, 4, 0), (924, 1, 5), (926, 15, 1), (927, 25, 0), (928, 56, 0), (929, 4, 0), (930, 1, 5), (932, 15, 2), (933, 25, 0), (934, 56, 0), (935, 31, 0), (936, 201, 24), (939, 8, 7), (941, 4, 2), (942, 201, 4), (945, 1, 6), (947, 38, 5), (952, 1, 6), (954, 33, 15)] : List (Nat × Nat × Int)), ∀ x ∈ dkAll 6 z.2.1 z.2.2, decode code (z.1 + x.1) = .ok (x.2.1, x.2.2) := by decide +kernel
theorem kd_L_law_15 : ∀ z ∈ ([(969, 53, 1526), (972, 4, 1), (973, 4, 0), (974, 1, 5), (976, 15, 1), (977, 25, 0), (978, 56, 0), (979, 4, 3), (980, 201, 25), (983, 8, 6), (985, 4, 2), (986, 4, 0), (987, 1, 5), (989, 15, 1), (990, 25, 0), (991, 56, 0), (992, 201, 26), (995, 8, 7), (997, 4, 2), (998, 201, 4), (1001, 1, 6), (1003, 38, 5), (1008, 1, 6), (1010, 33, 15)] : List (Nat × Nat × Int)), ∀ x ∈ dkAll 6 z.2.1 z.2.2, decode code (z.1 + x.1) = .ok (x.2.1, x.2.2) := by decide +kernel
theorem kd_L_law_16 : ∀ z ∈ ([(1025, 53, 1470), (1028, 4, 1), (1029, 4, 0), (1030, 1, 5), (1032, 15, 1), (1033, 25, 0), (1034, 56, 0), (1035, 4, 0), (1036, 1, 5), (1038, 15, 2), (1039, 25, 0), (1040, 56, 0), (1041, 32, 7), (1044, 15, 1), (1045, 53, 4), (1048, 15, 0), (1049, 4, 0), (1050, 1, 5), (1052, 15, 3), (1053, 25, 0), (1054, 56, 0), (1055, 4, 3), (1056, 201, 27), (1059, 8, 6), (1061, 4, 2), (1062, 4, 0), (1063, 1, 5), (1065, 15, 1), (1066, 25, 0), (1067, 56, 0), (1068, 4, 0), (1069, 1, 5), (1071, 15, 2), (1072, 25, 0), (1073, 56, 0), (1074, 32, 7), (1077, 15, 1), (1078, 53, 4), (1081, 15, 0), (1082, 4, 0), (1083, 1, 5), (1085, 15, 3), (1086, 25, 0), (1087, 56, 0)] : List (Nat × Nat × Int)), ∀ x ∈ dkAll 6 z.2.1 z.2.2, decode code (z.1 + x.1) = .ok (x.2.1, x.2.2) := by decide +kernel
theorem kd_L_law_17 : ∀ z ∈ ([(1088, 201, 28), (1091, 8, 7), (1093, 4, 2), (1094, 201, 4), (1097, 1, 6), (1099, 38, 5), (1104, 1, 6), (1106, 33, 15), (1121, 53, 1374), (1124, 4, 1), (1125, 4, 0), (1126, 1, 5), (1128, 15, 1), (1129, 25, 0), (1130, 56, 0), (1131, 4, 3), (1132, 201, 29), (1135, 8, 6), (1137, 4, 2), (1138, 4, 0), (1139, 1, 5), (1141, 15, 1), (1142, 25, 0), (1143, 56, 0), (1144, 201, 30), (1147, 8, 7), (1149, 4, 2), (1150, 201, 4)] : List (Nat × Nat × Int)), ∀ x ∈ dkAll 6 z.2.1 z.2.2, decode code (z.1 + x.1) = .ok (x.2.1, x.2.2) := by decide +kernel
theorem kd_L_law_18 : ∀ z ∈ ([(1153, 1, 6), (1155, 38, 5), (1160, 1, 6), (1162, 33, 15), (1177, 53, 1318), (1180, 4, 1), (1181, 4, 0), (1182, 1, 5), (1184, 15, 1), (1185, 25, 0), (1186, 56, 0), (1187, 4, 3), (1188, 201, 31), (1191, 8, 6), (1193, 4, 2), (1194, 4, 0), (1195, 1, 5), (1197, 15, 1), (1198, 25, 0), (1199, 56, 0), (1200, 201, 32), (1203, 8, 7), (1205, 4, 2), (1206, 201, 4), (1209, 1, 6), (1211, 38, 5)] : List (Nat × Nat × Int)), ∀ x ∈ dkAll 6 z.2.1 z.2.2, decode code (z.1 + x.1) = .ok (x.2.1, x.2.2) := by decide +kernel
theorem kd_L_law_19 : ∀ z ∈ ([(1216, 1, 6), (1218, 33, 15), (1233, 53, 1262), (1236, 4, 1), (1237, 4, 0), (1238, 1, 5), (1240, 15, 1), (1241, 25, 0), (1242, 56, 0), (1243, 4, 0), (1244, 1, 5), (1246, 15, 2), (1247, 25, 0), (1248, 56, 0), (1249, 32, 7), (1252, 15, 1), (1253, 53, 4), (1256, 15, 0), (1257, 4, 3), (1258, 201, 33), (1261, 8, 6), (1263, 4, 2), (1264, 4, 0), (1265, 1, 5), (1267, 15, 1), (1268, 25, 0), (1269, 56, 0), (1270, 4, 0), (1271, 1, 5), (1273, 15, 2), (1274, 25, 0), (1275, 56, 0), (1276, 32, 7), (1279, 15, 1)] : List (Nat × Nat × Int)), ∀ x ∈ dkAll 6 z.2.1 z.2.2, decode code (z.1 + x.1) = .ok (x.2.1, x.2.2) := by decide +kernel
theorem kd_L_law_20 : ∀ z ∈ ([(1280, 53, 4), (1283, 15, 0), (1284, 201, 34), (1287, 8, 7), (1289, 4, 2), (1290, 201, 4), (1293, 1, 6), (1295, 38, 5), (1300, 1, 6), (1302, 33, 15), (1317, 53, 1178), (1320, 4, 1), (1321, 4, 0), (1322, 1, 5), (1324, 15, 1), (1325, 25, 0), (1326, 56, 0), (1327, 4, 0), (1328, 1, 5), (1330, 15, 2), (1331, 25, 0), (1332, 56, 0), (1333, 4, 3), (1334, 201, 35), (1337, 8, 6), (1339, 4, 2), (1340, 4, 0), (1341, 1, 5), (1343, 15, 1)] : List (Nat × Nat × Int)), ∀ x ∈ dkAll 6 z.2.1 z.2.2, decode code (z.1 + x.1) = .ok (x.2.1, x.2.2) := by decide +kernel
theorem kd_L_law_21 : ∀ z ∈ ([(1344, 25, 0), (1345, 56, 0), (1346, 4, 0), (1347, 1, 5), (1349, 15, 2), (1350, 25, 0), (1351, 56, 0), (1352, 201, 36), (1355, 8, 7), (1357, 4, 2), (1358, 201, 4), (1361, 1, 6), (1363, 38, 5), (1368, 1, 6), (1370, 33, 15), (1385, 53, 1110), (1388, 4, 1), (1389, 4, 3), (1390, 201, 37), (1393, 8, 6), (1395, 4, 2), (1396, 201, 38), (1399, 8, 7), (1401, 4, 2), (1402, 201, 4), (1405, 1, 6), (1407, 38, 5)] : List (Nat × Nat × Int)), ∀ x ∈ dkAll 6 z.2.1 z.2.2, decode code (z.1 + x.1) = .ok (x.2.1, x.2.2) := by decide +kernel
theorem kd_L_law_22 : ∀ z ∈ ([(1412, 1, 6), (1414, 33, 15), (1429, 53, 1066), (1432, 4, 1), (1433, 4, 0), (1434, 1, 5), (1436, 15, 1), (1437, 25, 0), (1438, 56, 0), (1439, 32, 7), (1442, 15, 1), (1443, 53, 4), (1446, 15, 0), (1447, 4, 3), (1448, 201, 39), (1451, 8, 6), (1453, 4, 2), (1454, 4, 0), (1455, 1, 5), (1457, 15, 1), (1458, 25, 0), (1459, 56, 0), (1460, 32, 7), (1463, 15, 1), (1464, 53, 4), (1467, 15, 0), (1468, 201, 40), (1471, 8, 7)] : List (Nat × Nat × Int)), ∀ x ∈ dkAll 6 z.2.1 z.2.2, decode code (z.1 + x.1) = .ok (x.2.1, x.2.2) := by decide +kernel
theorem kd_L_law_23 : ∀ z ∈ ([(1473, 4, 2), (1474, 201, 4), (1477, 1, 6), (1479, 38, 5), (1484, 1, 6), (1486, 33, 15), (1501, 53, 994), (1504, 4, 1), (1505, 4, 0), (1506, 1, 5), (1508, 15, 1), (1509, 25, 0), (1510, 56, 0), (1511, 4, 0), (1512, 1, 5), (1514, 15, 2), (1515, 25, 0), (1516, 56, 0), (1517, 32, 7), (1520, 15, 1), (1521, 53, 4), (1524, 15, 0), (1525, 4, 3), (1526, 201, 41), (1529, 8, 6), (1531, 4, 2), (1532, 4, 0), (1533, 1, 5), (1535, 15, 1)] : List (Nat × Nat × Int)), ∀ x ∈ dkAll 6 z.2.1 z.2.2, decode code (z.1 + x.1) = .ok (x.2.1, x.2.2) := by decide +kernel
theorem kd_L_law_24 : ∀ z ∈ ([(1536, 25, 0), (1537, 56, 0), (1538, 4, 0), (1539, 1, 5), (1541, 15, 2), (1542, 25, 0), (1543, 56, 0), (1544, 32, 7), (1547, 15, 1), (1548, 53, 4), (1551, 15, 0), (1552, 201, 42), (1555, 8, 7), (1557, 4, 2), (1558, 201, 4), (1561, 1, 6), (1563, 38, 5), (1568, 1, 6), (1570, 33, 22), (1592, 53, 903), (1595, 4, 1), (1596, 4, 3), (1597, 201, 43)] : List (Nat × Nat × Int)), ∀ x ∈ dkAll 6 z.2.1 z.2.2, decode code (z.1 + x.1) = .ok (x.2.1, x.2.2) := by decide +kernel
theorem kd_L_law_25 : ∀ z ∈ ([(1600, 8, 6), (1602, 4, 2), (1603, 201, 44), (1606, 8, 7), (1608, 4, 2), (1609, 201, 4), (1612, 1, 6), (1614, 38, 5), (1619, 1, 6), (1621, 33, 15), (1624, 4, 3), (1625, 15, 0), (1626, 57, 0), (1627, 1, 7), (1629, 30, 0), (1630, 44, 5), (1636, 53, 859), (1639, 4, 1), (1640, 4, 0), (1641, 1, 5), (1643, 15, 1), (1644, 25, 0), (1645, 56, 0), (1646, 4, 3), (1647, 201, 45), (1650, 8, 6), (1652, 4, 2), (1653, 4, 0), (1654, 1, 5), (1656, 15, 1), (1657, 25, 0), (1658, 56, 0), (1659, 201, 46), (1662, 8, 7)] : List (Nat × Nat × Int)), ∀ x ∈ dkAll 6 z.2.1 z.2.2, decode code (z.1 + x.1) = .ok (x.2.1, x.2.2) := by decide +kernel
theorem kd_L_law_26 : ∀ z ∈ ([(1664, 4, 2), (1665, 201, 4), (1668, 1, 6), (1670, 38, 5), (1675, 1, 6), (1677, 33, 15), (1692, 53, 803), (1695, 4, 1), (1696, 4, 0), (1697, 1, 5), (1699, 15, 1), (1700, 25, 0), (1701, 56, 0), (1702, 4, 3), (1703, 201, 47), (1706, 8, 6), (1708, 4, 2), (1709, 4, 0), (1710, 1, 5), (1712, 15, 1), (1713, 25, 0), (1714, 56, 0), (1715, 201, 48), (1718, 8, 7), (1720, 4, 2), (1721, 201, 4), (1724, 1, 6), (1726, 38, 5)] : List (Nat × Nat × Int)), ∀ x ∈ dkAll 6 z.2.1 z.2.2, decode code (z.1 + x.1) = .ok (x.2.1, x.2.2) := by decide +kernel
theorem kd_L_law_27 : ∀ z ∈ ([(1731, 1, 6), (1733, 33, 15), (1748, 53, 747), (1751, 4, 1), (1752, 4, 0), (1753, 1, 5), (1755, 15, 1), (1756, 25, 0), (1757, 56, 0), (1758, 4, 0), (1759, 1, 5), (1761, 15, 2), (1762, 25, 0), (1763, 56, 0), (1764, 32, 7), (1767, 15, 1), (1768, 53, 4), (1771, 15, 0), (1772, 4, 3), (1773, 201, 49), (1776, 8, 6), (1778, 4, 2), (1779, 4, 0), (1780, 1, 5), (1782, 15, 1), (1783, 25, 0), (1784, 56, 0), (1785, 4, 0), (1786, 1, 5), (1788, 15, 2), (1789, 25, 0), (1790, 56, 0), (1791, 32, 7)] : List (Nat × Nat × Int)), ∀ x ∈ dkAll 6 z.2.1 z.2.2, decode code (z.1 + x.1) = .ok (x.2.1, x.2.2) := by decide +kernel
theorem kd_L_law_28 : ∀ z ∈ ([(1794, 15, 1), (1795, 53, 4), (1798, 15, 0), (1799, 201, 50), (1802, 8, 7), (1804, 4, 2), (1805, 201, 4), (1808, 1, 6), (1810, 38, 5), (1815, 1, 6), (1817, 33, 22), (1839, 53, 656), (1842, 4, 1), (1843, 4, 0), (1844, 1, 5), (1846, 15, 1), (1847, 25, 0), (1848, 56, 0), (1849, 4, 3), (1850, 201, 51), (1853, 8, 6), (1855, 4, 2)] : List (Nat × Nat × Int)), ∀ x ∈ dkAll 6 z.2.1 z.2.2, decode code (z.1 + x.1) = .ok (x.2.1, x.2.2) := by decide +kernel
theorem kd_L_law_29 : ∀ z ∈ ([(1856, 4, 0), (1857, 1, 5), (1859, 15, 1), (1860, 25, 0), (1861, 56, 0), (1862, 201, 52), (1865, 8, 7), (1867, 4, 2), (1868, 201, 4), (1871, 1, 6), (1873, 38, 5), (1878, 1, 6), (1880, 33, 15), (1895, 53, 600), (1898, 4, 1), (1899, 4, 0), (1900, 1, 5), (1902, 15, 1), (1903, 25, 0), (1904, 56, 0), (1905, 4, 0), (1906, 1, 5), (1908, 15, 2), (1909, 25, 0), (1910, 56, 0), (1911, 4, 3), (1912, 201, 53), (1915, 8, 6), (1917, 4, 2), (1918, 4, 0), (1919, 1, 5)] : List (Nat × Nat × Int)), ∀ x ∈ dkAll 6 z.2.1 z.2.2, decode code (z.1 + x.1) = .ok (x.2.1, x.2.2) := by decide +kernel
theorem kd_L_law_30 : ∀ z ∈ ([(1921, 15, 1), (1922, 25, 0), (1923, 56, 0), (1924, 4, 0), (1925, 1, 5), (1927, 15, 2), (1928, 25, 0), (1929, 56, 0), (1930, 201, 54), (1933, 8, 7), (1935, 4, 2), (1936, 201, 4), (1939, 1, 6), (1941, 38, 5), (1946, 1, 6), (1948, 33, 15), (1963, 53, 532), (1966, 4, 1), (1967, 4, 0), (1968, 1, 5), (1970, 15, 1), (1971, 25, 0), (1972, 56, 0), (1973, 4, 0), (1974, 1, 5), (1976, 15, 2), (1977, 25, 0), (1978, 56, 0), (1979, 32, 7), (1982, 15, 1), (1983, 53, 4)] : List (Nat × Nat × Int)), ∀ x ∈ dkAll 6 z.2.1 z.2.2, decode code (z.1 + x.1) = .ok (x.2.1, x.2.2) := by decide +kernel
theorem kd_L_law_31 : ∀ z ∈ ([(1986, 15, 0), (1987, 4, 3), (1988, 201, 55), (1991, 8, 6), (1993, 4, 2), (1994, 4, 0), (1995, 1, 5), (1997, 15, 1), (1998, 25, 0), (1999, 56, 0), (2000, 4, 0), (2001, 1, 5), (2003, 15, 2), (2004, 25, 0), (2005, 56, 0), (2006, 32, 7), (2009, 15, 1), (2010, 53, 4), (2013, 15, 0), (2014, 201, 56), (2017, 8, 7), (2019, 4, 2), (2020, 201, 4), (2023, 1, 6), (2025, 38, 5), (2030, 1, 6), (2032, 33, 22)] : List (Nat × Nat × Int)), ∀ x ∈ dkAll 6 z.2.1 z.2.2, decode code (z.1 + x.1) = .ok (x.2.1, x.2.2) := by decide +kernel
theorem kd_L_law_32 : ∀ z ∈ ([(2054, 53, 441), (2057, 4, 1), (2058, 4, 0), (2059, 1, 5), (2061, 15, 1), (2062, 25, 0), (2063, 56, 0), (2064, 4, 0), (2065, 1, 5), (2067, 15, 2), (2068, 25, 0), (2069, 56, 0), (2070, 4, 3), (2071, 201, 57), (2074, 8, 6), (2076, 4, 2), (2077, 4, 0), (2078, 1, 5), (2080, 15, 1), (2081, 25, 0), (2082, 56, 0), (2083, 4, 0), (2084, 1, 5), (2086, 15, 2), (2087, 25, 0), (2088, 56, 0), (2089, 201, 58), (2092, 8, 7), (2094, 4, 2), (2095, 201, 4), (2098, 1, 6), (2100, 38, 5), (2105, 1, 6), (2107, 33, 15)] : List (Nat × Nat × Int)), ∀ x ∈ dkAll 6 z.2.1 z.2.2, decode code (z.1 + x.1) = .ok (x.2.1, x.2.2) := by decide +kernel
theorem kd_L_law_33 : ∀ z ∈ ([(2122, 53, 373), (2125, 4, 1), (2126, 4, 0), (2127, 1, 5), (2129, 15, 1), (2130, 25, 0), (2131, 56, 0), (2132, 4, 3), (2133, 201, 59), (2136, 8, 6), (2138, 4, 2), (2139, 4, 0), (2140, 1, 5), (2142, 15, 1), (2143, 25, 0), (2144, 56, 0), (2145, 201, 60), (2148, 8, 7), (2150, 4, 2), (2151, 201, 4), (2154, 1, 6), (2156, 38, 5), (2161, 1, 6), (2163, 33, 15)] : List (Nat × Nat × Int)), ∀ x ∈ dkAll 6 z.2.1 z.2.2, decode code (z.1 + x.1) = .ok (x.2.1, x.2.2) := by decide +kernel
theorem kd_L_law_34 : ∀ z ∈ ([(2178, 53, 317), (2181, 4, 1), (2182, 4, 0), (2183, 1, 5), (2185, 15, 1), (2186, 25, 0), (2187, 56, 0), (2188, 4, 3), (2189, 201, 61), (2192, 8, 6), (2194, 4, 2), (2195, 4, 0), (2196, 1, 5), (2198, 15, 1), (2199, 25, 0), (2200, 56, 0), (2201, 201, 62), (2204, 8, 7), (2206, 4, 2), (2207, 201, 4), (2210, 1, 6), (2212, 38, 5), (2217, 1, 6), (2219, 33, 15), (2234, 53, 261), (2237, 4, 1), (2238, 4, 0), (2239, 1, 5)] : List (Nat × Nat × Int)), ∀ x ∈ dkAll 6 z.2.1 z.2.2, decode code (z.1 + x.1) = .ok (x.2.1, x.2.2) := by decide +kernel
theorem kd_L_law_35 : ∀ z ∈ ([(2241, 15, 1), (2242, 25, 0), (2243, 56, 0), (2244, 4, 3), (2245, 201, 63), (2248, 8, 6), (2250, 4, 2), (2251, 4, 0), (2252, 1, 5), (2254, 15, 1), (2255, 25, 0), (2256, 56, 0), (2257, 201, 64), (2260, 8, 7), (2262, 4, 2), (2263, 201, 4), (2266, 1, 6), (2268, 38, 5), (2273, 1, 6), (2275, 33, 15), (2290, 53, 205), (2293, 4, 1), (2294, 4, 3), (2295, 201, 65), (2298, 8, 6), (2300, 4, 2), (2301, 201, 66)] : List (Nat × Nat × Int)), ∀ x ∈ dkAll 6 z.2.1 z.2.2, decode code (z.1 + x.1) = .ok (x.2.1, x.2.2) := by decide +kernel
theorem kd_L_law_36 : ∀ z ∈ ([(2304, 8, 7), (2306, 4, 2), (2307, 201, 4), (2310, 1, 6), (2312, 38, 5), (2317, 1, 6), (2319, 33, 15), (2322, 4, 3), (2323, 15, 0), (2324, 57, 0), (2325, 1, 7), (2327, 30, 0), (2328, 44, 5), (2334, 53, 161), (2337, 4, 1), (2338, 201, 67), (2341, 4, 2), (2342, 201, 68), (2345, 44, 149), (2351, 4, 1), (2352, 5, 4), (2354, 201, 69), (2357, 8, 6), (2359, 4, 2), (2360, 201, 70), (2363, 13, 7), (2365, 4, 2), (2366, 201, 4)] : List (Nat × Nat × Int)), ∀ x ∈ dkAll 6 z.2.1 z.2.2, decode code (z.1 + x.1) = .ok (x.2.1, x.2.2) := by decide +kernel
theorem kd_L_law_37 : ∀ z ∈ ([(2369, 1, 6), (2371, 38, 5), (2376, 1, 6), (2378, 33, 36), (2414, 53, 81), (2417, 4, 1), (2418, 5, 4), (2420, 201, 71), (2423, 8, 6), (2425, 4, 2), (2426, 201, 72), (2429, 14, 7), (2431, 4, 2)] : List (Nat × Nat × Int)), ∀ x ∈ dkAll 6 z.2.1 z.2.2, decode code (z.1 + x.1) = .ok (x.2.1, x.2.2) := by decide +kernel
theorem kd_L_law_38 : ∀ z ∈ ([(2432, 201, 4), (2435, 1, 6), (2437, 38, 5), (2442, 1, 6), (2444, 33, 35), (2479, 53, 16), (2482, 4, 1), (2483, 201, 73), (2486, 4, 2), (2487, 201, 74), (2490, 38, 5), (2495, 29, 5504)] : List (Nat × Nat × Int)), ∀ x ∈ dkAll 6 z.2.1 z.2.2, decode code (z.1 + x.1) = .ok (x.2.1, x.2.2) := by decide +kernel
theorem kd_L_law_39 : ∀ z ∈ ([(2498, 53, -2470), (2501, 15, 1), (2502, 200, 0)] : List (Nat × Nat × Int)), ∀ x ∈ dkAll 6 z.2.1 z.2.2, decode code (z.1 + x.1) = .ok (x.2.1, x.2.2) := by decide +kernel
theorem kd_L_law : rDec 0 6 code := fun bs h => by
  cases (show codeT[0]? = some k_L_law from rfl).symm.trans h
  exact (List.forall_mem_cons.mpr ⟨kd_L_law_0, List.forall_mem_cons.mpr ⟨kd_L_law_1, List.forall_mem_cons.mpr ⟨kd_L_law_2, List.forall_mem_cons.mpr ⟨kd_L_law_3, List.forall_mem_cons.mpr ⟨kd_L_law_4, List.forall_mem_cons.mpr ⟨kd_L_law_5, List.forall_mem_cons.mpr ⟨kd_L_law_6, List.forall_mem_cons.mpr ⟨kd_L_law_7, List.forall_mem_cons.mpr ⟨kd_L_law_8, List.forall_mem_cons.mpr ⟨kd_L_law_9, List.forall_mem_cons.mpr ⟨kd_L_law_10, List.forall_mem_cons.mpr ⟨kd_L_law_11, List.forall_mem_cons.mpr ⟨kd_L_law_12, List.forall_mem_cons.mpr ⟨kd_L_law_13, List.forall_mem_cons.mpr ⟨kd_L_law_14, List.forall_mem_cons.mpr ⟨kd_L_law_15, List.forall_mem_cons.mpr ⟨kd_L_law_16, List.forall_mem_cons.mpr ⟨kd_L_law_17, List.forall_mem_cons.mpr ⟨kd_L_law_18, List.forall_mem_cons.mpr ⟨kd_L_law_19, List.forall_mem_cons.mpr ⟨kd_L_law_20, List.forall_mem_cons.mpr ⟨kd_L_law_21, List.forall_mem_cons.mpr ⟨kd_L_law_22, List.forall_mem_cons.mpr ⟨kd_L_law_23, List.forall_mem_cons.mpr ⟨kd_L_law_24, List.forall_mem_cons.mpr ⟨kd_L_law_25, List.forall_mem_cons.mpr ⟨kd_L_law_26, List.forall_mem_cons.mpr ⟨kd_L_law_27, List.forall_mem_cons.mpr ⟨kd_L_law_28, List.forall_mem_cons.mpr ⟨kd_L_law_29, List.forall_mem_cons.mpr ⟨kd_L_law_30, List.forall_mem_cons.mpr ⟨kd_L_law_31, List.forall_mem_cons.mpr ⟨kd_L_law_32, List.forall_mem_cons.mpr ⟨kd_L_law_33, List.forall_mem_cons.mpr ⟨kd_L_law_34, List.forall_mem_cons.mpr ⟨kd_L_law_35, List.forall_mem_cons.mpr ⟨kd_L_law_36, List.forall_mem_cons.mpr ⟨kd_L_law_37, List.forall_mem_cons.mpr ⟨kd_L_law_38, List.forall_mem_cons.mpr ⟨kd_L_law_39, fun _ h => absurd h List.not_mem_nil⟩⟩⟩⟩⟩⟩⟩⟩⟩⟩⟩⟩⟩⟩⟩⟩⟩⟩⟩⟩⟩⟩⟩⟩⟩⟩⟩⟩⟩⟩⟩⟩⟩⟩⟩⟩⟩⟩⟩⟩ : ∀ bl ∈ k_L_law, ∀ z ∈ bl, ∀ x ∈ dkAll 6 z.2.1 z.2.2, decode code (z.1 + x.1) = .ok (x.2.1, x.2.2))
theorem kd_J7_fill_53178_0 : ∀ z ∈ ([(0, 15, 0), (1, 7, 2), (2, 4, 0), (3, 61, 0), (4, 7, 3), (5, 0, 2), (6, 0, 3), (7, 41, 13), (10, 4, 0), (11, 0, 2), (12, 0, 1), (13, 58, 0), (14, 29, 2501), (17, 53, -12), (20, 200, 0)] : List (Nat × Nat × Int)), ∀ x ∈ dkAll 0 z.2.1 z.2.2, decode cJ7_fill_53178 (z.1 + x.1) = .ok (x.2.1, x.2.2) := by decide +kernel
theorem kd_J7_fill_53178 : rDec 1 0 cJ7_fill_53178 := fun bs h => by
  cases (show codeT[1]? = some k_J7_fill_53178 from rfl).symm.trans h
  exact (List.forall_mem_cons.mpr ⟨kd_J7_fill_53178_0, fun _ h => absurd h List.not_mem_nil⟩ : ∀ bl ∈ k_J7_fill_53178, ∀ z ∈ bl, ∀ x ∈ dkAll 0 z.2.1 z.2.2, decode cJ7_fill_53178 (z.1 + x.1) = .ok (x.2.1, x.2.2))
theorem kd_Jx35411_hasNext_aae02_0 : ∀ z ∈ ([(0, 4, 0), (1, 70, 0), (4, 4, 0), (5, 70, 1), (8, 71, 0), (11, 38, 7), (18, 15, 0), (19, 200, 0)] : List (Nat × Nat × Int)), ∀ x ∈ dkAll 6 z.2.1 z.2.2, decode cJx35411_hasNext_aae02 (z.1 + x.1) = .ok (x.2.1, x.2.2) := by decide +kernel
theorem kd_Jx35411_hasNext_aae02 : rDec 2 6 cJx35411_hasNext_aae02 := fun bs h => by
  cases (show codeT[2]? = some k_Jx35411_hasNext_aae02 from rfl).symm.trans h
  exact (List.forall_mem_cons.mpr ⟨kd_Jx35411_hasNext_aae02_0, fun _ h => absurd h List.not_mem_nil⟩ : ∀ bl ∈ k_Jx35411_hasNext_aae02, ∀ z ∈ bl, ∀ x ∈ dkAll 6 z.2.1 z.2.2, decode cJx35411_hasNext_aae02 (z.1 + x.1) = .ok (x.2.1, x.2.2))
theorem kd_Jx35411_init_45d68_0 : ∀ z ∈ ([(0, 4, 0), (1, 4, 1), (2, 73, 1), (5, 4, 0), (6, 75, 0), (9, 4, 0), (10, 15, -1), (11, 72, 2), (14, 4, 0), (15, 4, 0), (16, 70, 1), (19, 70, 3), (22, 72, 4), (25, 200, 0)] : List (Nat × Nat × Int)), ∀ x ∈ dkAll 0 z.2.1 z.2.2, decode cJx35411_init_45d68 (z.1 + x.1) = .ok (x.2.1, x.2.2) := by decide +kernel
theorem kd_Jx35411_init_45d68 : rDec 3 0 cJx35411_init_45d68 := fun bs h => by
  cases (show codeT[3]? = some k_Jx35411_init_45d68 from rfl).symm.trans h
  exact (List.forall_mem_cons.mpr ⟨kd_Jx35411_init_45d68_0, fun _ h => absurd h List.not_mem_nil⟩ : ∀ bl ∈ k_Jx35411_init_45d68, ∀ z ∈ bl, ∀ x ∈ dkAll 0 z.2.1 z.2.2, decode cJx35411_init_45d68 (z.1 + x.1) = .ok (x.2.1, x.2.2))
theorem kd_Jx4a65c_add_72be8_0 : ∀ z ∈ ([(0, 0, 3), (1, 4, 2), (2, 62, 0), (3, 39, 8), (6, 4, 0), (7, 201, 75), (10, 9, 2), (11, 4, 2), (12, 0, 3), (13, 4, 1), (14, 60, 0), (15, 4, 0), (16, 0, 3), (17, 15, 1), (18, 25, 0), (19, 72, 5), (22, 200, 0)] : List (Nat × Nat × Int)), ∀ x ∈ dkAll 0 z.2.1 z.2.2, decode cJx4a65c_add_72be8 (z.1 + x.1) = .ok (x.2.1, x.2.2) := by decide +kernel
theorem kd_Jx4a65c_add_72be8 : rDec 4 0 cJx4a65c_add_72be8 := fun bs h => by
  cases (show codeT[4]? = some k_Jx4a65c_add_72be8 from rfl).symm.trans h
  exact (List.forall_mem_cons.mpr ⟨kd_Jx4a65c_add_72be8_0, fun _ h => absurd h List.not_mem_nil⟩ : ∀ bl ∈ k_Jx4a65c_add_72be8, ∀ z ∈ bl, ∀ x ∈ dkAll 0 z.2.1 z.2.2, decode cJx4a65c_add_72be8 (z.1 + x.1) = .ok (x.2.1, x.2.2))
theorem kd_Jx4a65c_add_9ea2d_0 : ∀ z ∈ ([(0, 4, 0), (1, 22, 0), (2, 70, 6), (5, 15, 1), (6, 25, 0), (7, 72, 6), (10, 4, 0), (11, 4, 1), (12, 4, 0), (13, 70, 7), (16, 4, 0), (17, 70, 5), (20, 201, 76), (23, 15, 1), (24, 200, 0)] : List (Nat × Nat × Int)), ∀ x ∈ dkAll 6 z.2.1 z.2.2, decode cJx4a65c_add_9ea2d (z.1 + x.1) = .ok (x.2.1, x.2.2) := by decide +kernel
theorem kd_Jx4a65c_add_9ea2d : rDec 5 6 cJx4a65c_add_9ea2d := fun bs h => by
  cases (show codeT[5]? = some k_Jx4a65c_add_9ea2d from rfl).symm.trans h
  exact (List.forall_mem_cons.mpr ⟨kd_Jx4a65c_add_9ea2d_0, fun _ h => absurd h List.not_mem_nil⟩ : ∀ bl ∈ k_Jx4a65c_add_9ea2d, ∀ z ∈ bl, ∀ x ∈ dkAll 6 z.2.1 z.2.2, decode cJx4a65c_add_9ea2d (z.1 + x.1) = .ok (x.2.1, x.2.2))
theorem kd_Jx4a65c_clear_da8c8_0 : ∀ z ∈ ([(0, 4, 0), (1, 22, 0), (2, 70, 6), (5, 15, 1), (6, 25, 0), (7, 72, 6), (10, 4, 0), (11, 70, 7), (14, 9, 1), (15, 4, 0), (16, 70, 5), (19, 7, 2), (20, 4, 0), (21, 15, 0), (22, 23, 0), (23, 72, 5), (26, 7, 3), (27, 0, 3), (28, 0, 2), (29, 41, 13), (42, 200, 0)] : List (Nat × Nat × Int)), ∀ x ∈ dkAll 0 z.2.1 z.2.2, decode cJx4a65c_clear_da8c8 (z.1 + x.1) = .ok (x.2.1, x.2.2) := by decide +kernel
theorem kd_Jx4a65c_clear_da8c8 : rDec 6 0 cJx4a65c_clear_da8c8 := fun bs h => by
  cases (show codeT[6]? = some k_Jx4a65c_clear_da8c8 from rfl).symm.trans h
  exact (List.forall_mem_cons.mpr ⟨kd_Jx4a65c_clear_da8c8_0, fun _ h => absurd h List.not_mem_nil⟩ : ∀ bl ∈ k_Jx4a65c_clear_da8c8, ∀ z ∈ bl, ∀ x ∈ dkAll 0 z.2.1 z.2.2, decode cJx4a65c_clear_da8c8 (z.1 + x.1) = .ok (x.2.1, x.2.2))
theorem kd_Jx4a65c_grow_92f84_0 : ∀ z ∈ ([(0, 4, 0), (1, 70, 7), (4, 62, 0), (5, 7, 2), (6, 0, 2), (7, 36, 13), (10, 4, 0), (11, 70, 7), (14, 74, 0), (17, 50, 28), (45, 4, 0), (46, 16, 10), (48, 0, 1), (49, 76, 0), (52, 68, 0), (55, 23, 0), (56, 72, 7), (59, 200, 0)] : List (Nat × Nat × Int)), ∀ x ∈ dkAll 3 z.2.1 z.2.2, decode cJx4a65c_grow_92f84 (z.1 + x.1) = .ok (x.2.1, x.2.2) := by decide +kernel
theorem kd_Jx4a65c_grow_92f84 : rDec 7 3 cJx4a65c_grow_92f84 := fun bs h => by
  cases (show codeT[7]? = some k_Jx4a65c_grow_92f84 from rfl).symm.trans h
  exact (List.forall_mem_cons.mpr ⟨kd_Jx4a65c_grow_92f84_0, fun _ h => absurd h List.not_mem_nil⟩ : ∀ bl ∈ k_Jx4a65c_grow_92f84, ∀ z ∈ bl, ∀ x ∈ dkAll 3 z.2.1 z.2.2, decode cJx4a65c_grow_92f84 (z.1 + x.1) = .ok (x.2.1, x.2.2))
theorem kd_Jx4a65c_grow_d5877_0 : ∀ z ∈ ([(0, 4, 0), (1, 4, 0), (2, 70, 5), (5, 15, 1), (6, 25, 0), (7, 201, 77), (10, 200, 0)] : List (Nat × Nat × Int)), ∀ x ∈ dkAll 3 z.2.1 z.2.2, decode cJx4a65c_grow_d5877 (z.1 + x.1) = .ok (x.2.1, x.2.2) := by decide +kernel
theorem kd_Jx4a65c_grow_d5877 : rDec 8 3 cJx4a65c_grow_d5877 := fun bs h => by
  cases (show codeT[8]? = some k_Jx4a65c_grow_d5877 from rfl).symm.trans h
  exact (List.forall_mem_cons.mpr ⟨kd_Jx4a65c_grow_d5877_0, fun _ h => absurd h List.not_mem_nil⟩ : ∀ bl ∈ k_Jx4a65c_grow_d5877, ∀ z ∈ bl, ∀ x ∈ dkAll 3 z.2.1 z.2.2, decode cJx4a65c_grow_d5877 (z.1 + x.1) = .ok (x.2.1, x.2.2))
theorem kd_Jx4a65c_init_da8c8_0 : ∀ z ∈ ([(0, 4, 0), (1, 201, 78), (4, 4, 0), (5, 74, 0), (8, 72, 7), (11, 200, 0)] : List (Nat × Nat × Int)), ∀ x ∈ dkAll 0 z.2.1 z.2.2, decode cJx4a65c_init_da8c8 (z.1 + x.1) = .ok (x.2.1, x.2.2) := by decide +kernel
theorem kd_Jx4a65c_init_da8c8 : rDec 9 0 cJx4a65c_init_da8c8 := fun bs h => by
  cases (show codeT[9]? = some k_Jx4a65c_init_da8c8 from rfl).symm.trans h
  exact (List.forall_mem_cons.mpr ⟨kd_Jx4a65c_init_da8c8_0, fun _ h => absurd h List.not_mem_nil⟩ : ∀ bl ∈ k_Jx4a65c_init_da8c8, ∀ z ∈ bl, ∀ x ∈ dkAll 0 z.2.1 z.2.2, decode cJx4a65c_init_da8c8 (z.1 + x.1) = .ok (x.2.1, x.2.2))
theorem kd_Jx4a65c_isEmpty_aae02_0 : ∀ z ∈ ([(0, 4, 0), (1, 70, 5), (4, 33, 7), (7, 15, 1), (8, 53, 4), (12, 200, 0)] : List (Nat × Nat × Int)), ∀ x ∈ dkAll 6 z.2.1 z.2.2, decode cJx4a65c_isEmpty_aae02 (z.1 + x.1) = .ok (x.2.1, x.2.2) := by decide +kernel
theorem kd_Jx4a65c_isEmpty_aae02 : rDec 10 6 cJx4a65c_isEmpty_aae02 := fun bs h => by
  cases (show codeT[10]? = some k_Jx4a65c_isEmpty_aae02 from rfl).symm.trans h
  exact (List.forall_mem_cons.mpr ⟨kd_Jx4a65c_isEmpty_aae02_0, fun _ h => absurd h List.not_mem_nil⟩ : ∀ bl ∈ k_Jx4a65c_isEmpty_aae02, ∀ z ∈ bl, ∀ x ∈ dkAll 6 z.2.1 z.2.2, decode cJx4a65c_isEmpty_aae02 (z.1 + x.1) = .ok (x.2.1, x.2.2))
theorem kd_Jx4a65c_iterator_32c93_0 : ∀ z ∈ ([(0, 69, 2), (3, 22, 0), (4, 4, 0), (5, 201, 79), (8, 200, 0)] : List (Nat × Nat × Int)), ∀ x ∈ dkAll 3 z.2.1 z.2.2, decode cJx4a65c_iterator_32c93 (z.1 + x.1) = .ok (x.2.1, x.2.2) := by decide +kernel
theorem kd_Jx4a65c_iterator_32c93 : rDec 11 3 cJx4a65c_iterator_32c93 := fun bs h => by
  cases (show codeT[11]? = some k_Jx4a65c_iterator_32c93 from rfl).symm.trans h
  exact (List.forall_mem_cons.mpr ⟨kd_Jx4a65c_iterator_32c93_0, fun _ h => absurd h List.not_mem_nil⟩ : ∀ bl ∈ k_Jx4a65c_iterator_32c93, ∀ z ∈ bl, ∀ x ∈ dkAll 3 z.2.1 z.2.2, decode cJx4a65c_iterator_32c93 (z.1 + x.1) = .ok (x.2.1, x.2.2))
theorem kd_Jx4a65c_size_8abf5_0 : ∀ z ∈ ([(0, 4, 0), (1, 70, 5), (4, 200, 0)] : List (Nat × Nat × Int)), ∀ x ∈ dkAll 1 z.2.1 z.2.2, decode cJx4a65c_size_8abf5 (z.1 + x.1) = .ok (x.2.1, x.2.2) := by decide +kernel
theorem kd_Jx4a65c_size_8abf5 : rDec 12 1 cJx4a65c_size_8abf5 := fun bs h => by
  cases (show codeT[12]? = some k_Jx4a65c_size_8abf5 from rfl).symm.trans h
  exact (List.forall_mem_cons.mpr ⟨kd_Jx4a65c_size_8abf5_0, fun _ h => absurd h List.not_mem_nil⟩ : ∀ bl ∈ k_Jx4a65c_size_8abf5, ∀ z ∈ bl, ∀ x ∈ dkAll 1 z.2.1 z.2.2, decode cJx4a65c_size_8abf5 (z.1 + x.1) = .ok (x.2.1, x.2.2))
theorem kd_Jxa1e45_init_da8c8_0 : ∀ z ∈ ([(0, 4, 0), (1, 75, 1), (4, 200, 0)] : List (Nat × Nat × Int)), ∀ x ∈ dkAll 0 z.2.1 z.2.2, decode cJxa1e45_init_da8c8 (z.1 + x.1) = .ok (x.2.1, x.2.2) := by decide +kernel
theorem kd_Jxa1e45_init_da8c8 : rDec 13 0 cJxa1e45_init_da8c8 := fun bs h => by
  cases (show codeT[13]? = some k_Jxa1e45_init_da8c8 from rfl).symm.trans h
  exact (List.forall_mem_cons.mpr ⟨kd_Jxa1e45_init_da8c8_0, fun _ h => absurd h List.not_mem_nil⟩ : ∀ bl ∈ k_Jxa1e45_init_da8c8, ∀ z ∈ bl, ∀ x ∈ dkAll 0 z.2.1 z.2.2, decode cJxa1e45_init_da8c8 (z.1 + x.1) = .ok (x.2.1, x.2.2))
theorem kd_Jxc12de_init_da8c8_0 : ∀ z ∈ ([(0, 4, 0), (1, 201, 80), (4, 4, 0), (5, 15, 0), (6, 72, 8), (9, 200, 0)] : List (Nat × Nat × Int)), ∀ x ∈ dkAll 0 z.2.1 z.2.2, decode cJxc12de_init_da8c8 (z.1 + x.1) = .ok (x.2.1, x.2.2) := by decide +kernel
theorem kd_Jxc12de_init_da8c8 : rDec 14 0 cJxc12de_init_da8c8 := fun bs h => by
  cases (show codeT[14]? = some k_Jxc12de_init_da8c8 from rfl).symm.trans h
  exact (List.forall_mem_cons.mpr ⟨kd_Jxc12de_init_da8c8_0, fun _ h => absurd h List.not_mem_nil⟩ : ∀ bl ∈ k_Jxc12de_init_da8c8, ∀ z ∈ bl, ∀ x ∈ dkAll 0 z.2.1 z.2.2, decode cJxc12de_init_da8c8 (z.1 + x.1) = .ok (x.2.1, x.2.2))
theorem kd_L_abandon_0 : ∀ z ∈ ([(0, 4, 2), (1, 15, 0), (2, 4, 0), (3, 0, 1), (4, 201, 81), (12, 9, 3), (13, 15, 1), (14, 200, 0)] : List (Nat × Nat × Int)), ∀ x ∈ dkAll 1 z.2.1 z.2.2, decode cL_abandon (z.1 + x.1) = .ok (x.2.1, x.2.2) := by decide +kernel
theorem kd_L_abandon : rDec 15 1 cL_abandon := fun bs h => by
  cases (show codeT[15]? = some k_L_abandon from rfl).symm.trans h
  exact (List.forall_mem_cons.mpr ⟨kd_L_abandon_0, fun _ h => absurd h List.not_mem_nil⟩ : ∀ bl ∈ k_L_abandon, ∀ z ∈ bl, ∀ x ∈ dkAll 1 z.2.1 z.2.2, decode cL_abandon (z.1 + x.1) = .ok (x.2.1, x.2.2))
theorem kd_L_addClub_0 : ∀ z ∈ ([(0, 5, 4), (2, 15, 0), (3, 4, 0), (4, 0, 1), (5, 0, 2), (6, 0, 3), (7, 201, 82), (10, 30, 0), (11, 59, 0), (12, 53, 11), (15, 10, 5), (17, 15, 1), (18, 200, 0), (23, 15, 0), (24, 200, 0)] : List (Nat × Nat × Int)), ∀ x ∈ dkAll 1 z.2.1 z.2.2, decode cL_addClub (z.1 + x.1) = .ok (x.2.1, x.2.2) := by decide +kernel
theorem kd_L_addClub : rDec 16 1 cL_addClub := fun bs h => by
  cases (show codeT[16]? = some k_L_addClub from rfl).symm.trans h
  exact (List.forall_mem_cons.mpr ⟨kd_L_addClub_0, fun _ h => absurd h List.not_mem_nil⟩ : ∀ bl ∈ k_L_addClub, ∀ z ∈ bl, ∀ x ∈ dkAll 1 z.2.1 z.2.2, decode cL_addClub (z.1 + x.1) = .ok (x.2.1, x.2.2))
theorem kd_L_addPlayer_0 : ∀ z ∈ ([(0, 4, 2), (1, 15, 0), (2, 4, 0), (3, 0, 1), (4, 201, 83), (12, 9, 3), (13, 15, 1), (14, 200, 0)] : List (Nat × Nat × Int)), ∀ x ∈ dkAll 1 z.2.1 z.2.2, decode cL_addPlayer (z.1 + x.1) = .ok (x.2.1, x.2.2) := by decide +kernel
theorem kd_L_addPlayer : rDec 17 1 cL_addPlayer := fun bs h => by
  cases (show codeT[17]? = some k_L_addPlayer from rfl).symm.trans h
  exact (List.forall_mem_cons.mpr ⟨kd_L_addPlayer_0, fun _ h => absurd h List.not_mem_nil⟩ : ∀ bl ∈ k_L_addPlayer, ∀ z ∈ bl, ∀ x ∈ dkAll 1 z.2.1 z.2.2, decode cL_addPlayer (z.1 + x.1) = .ok (x.2.1, x.2.2))
theorem kd_L_appeal_0 : ∀ z ∈ ([(0, 4, 3), (1, 15, 0), (2, 4, 0), (3, 0, 1), (4, 0, 2), (5, 201, 84), (20, 10, 4), (22, 15, 1), (23, 200, 0)] : List (Nat × Nat × Int)), ∀ x ∈ dkAll 1 z.2.1 z.2.2, decode cL_appeal (z.1 + x.1) = .ok (x.2.1, x.2.2) := by decide +kernel
theorem kd_L_appeal : rDec 18 1 cL_appeal := fun bs h => by
  cases (show codeT[18]? = some k_L_appeal from rfl).symm.trans h
  exact (List.forall_mem_cons.mpr ⟨kd_L_appeal_0, fun _ h => absurd h List.not_mem_nil⟩ : ∀ bl ∈ k_L_appeal, ∀ z ∈ bl, ∀ x ∈ dkAll 1 z.2.1 z.2.2, decode cL_appeal (z.1 + x.1) = .ok (x.2.1, x.2.2))
theorem kd_L_ban_0 : ∀ z ∈ ([(0, 4, 2), (1, 15, 0), (2, 4, 0), (3, 0, 1), (4, 201, 85), (12, 9, 3), (13, 15, 1), (14, 200, 0)] : List (Nat × Nat × Int)), ∀ x ∈ dkAll 1 z.2.1 z.2.2, decode cL_ban (z.1 + x.1) = .ok (x.2.1, x.2.2) := by decide +kernel
theorem kd_L_ban : rDec 19 1 cL_ban := fun bs h => by
  cases (show codeT[19]? = some k_L_ban from rfl).symm.trans h
  exact (List.forall_mem_cons.mpr ⟨kd_L_ban_0, fun _ h => absurd h List.not_mem_nil⟩ : ∀ bl ∈ k_L_ban, ∀ z ∈ bl, ∀ x ∈ dkAll 1 z.2.1 z.2.2, decode cL_ban (z.1 + x.1) = .ok (x.2.1, x.2.2))
theorem kd_L_callBack_0 : ∀ z ∈ ([(0, 4, 2), (1, 15, 0), (2, 4, 0), (3, 0, 1), (4, 201, 86), (12, 9, 3), (13, 15, 1), (14, 200, 0)] : List (Nat × Nat × Int)), ∀ x ∈ dkAll 1 z.2.1 z.2.2, decode cL_callBack (z.1 + x.1) = .ok (x.2.1, x.2.2) := by decide +kernel
theorem kd_L_callBack : rDec 20 1 cL_callBack := fun bs h => by
  cases (show codeT[20]? = some k_L_callBack from rfl).symm.trans h
  exact (List.forall_mem_cons.mpr ⟨kd_L_callBack_0, fun _ h => absurd h List.not_mem_nil⟩ : ∀ bl ∈ k_L_callBack, ∀ z ∈ bl, ∀ x ∈ dkAll 1 z.2.1 z.2.2, decode cL_callBack (z.1 + x.1) = .ok (x.2.1, x.2.2))
theorem kd_L_card_0 : ∀ z ∈ ([(0, 4, 3), (1, 15, 0), (2, 4, 0), (3, 0, 1), (4, 0, 2), (5, 201, 87), (13, 10, 4), (15, 15, 1), (16, 200, 0)] : List (Nat × Nat × Int)), ∀ x ∈ dkAll 1 z.2.1 z.2.2, decode cL_card (z.1 + x.1) = .ok (x.2.1, x.2.2) := by decide +kernel
theorem kd_L_card : rDec 21 1 cL_card := fun bs h => by
  cases (show codeT[21]? = some k_L_card from rfl).symm.trans h
  exact (List.forall_mem_cons.mpr ⟨kd_L_card_0, fun _ h => absurd h List.not_mem_nil⟩ : ∀ bl ∈ k_L_card, ∀ z ∈ bl, ∀ x ∈ dkAll 1 z.2.1 z.2.2, decode cL_card (z.1 + x.1) = .ok (x.2.1, x.2.2))
theorem kd_L_change_0 : ∀ z ∈ ([(0, 4, 3), (1, 15, 0), (2, 4, 0), (3, 0, 1), (4, 0, 2), (5, 201, 88), (13, 10, 4), (15, 15, 1), (16, 200, 0)] : List (Nat × Nat × Int)), ∀ x ∈ dkAll 1 z.2.1 z.2.2, decode cL_change (z.1 + x.1) = .ok (x.2.1, x.2.2) := by decide +kernel
theorem kd_L_change : rDec 22 1 cL_change := fun bs h => by
  cases (show codeT[22]? = some k_L_change from rfl).symm.trans h
  exact (List.forall_mem_cons.mpr ⟨kd_L_change_0, fun _ h => absurd h List.not_mem_nil⟩ : ∀ bl ∈ k_L_change, ∀ z ∈ bl, ∀ x ∈ dkAll 1 z.2.1 z.2.2, decode cL_change (z.1 + x.1) = .ok (x.2.1, x.2.2))
theorem kd_L_clubAt_0 : ∀ z ∈ ([(0, 4, 3), (1, 15, 0), (2, 4, 0), (3, 0, 1), (4, 0, 2), (5, 201, 89), (13, 10, 4), (15, 15, 1), (16, 200, 0), (17, 10, 4), (19, 15, 2), (20, 200, 0)] : List (Nat × Nat × Int)), ∀ x ∈ dkAll 1 z.2.1 z.2.2, decode cL_clubAt (z.1 + x.1) = .ok (x.2.1, x.2.2) := by decide +kernel
theorem kd_L_clubAt : rDec 23 1 cL_clubAt := fun bs h => by
  cases (show codeT[23]? = some k_L_clubAt from rfl).symm.trans h
  exact (List.forall_mem_cons.mpr ⟨kd_L_clubAt_0, fun _ h => absurd h List.not_mem_nil⟩ : ∀ bl ∈ k_L_clubAt, ∀ z ∈ bl, ∀ x ∈ dkAll 1 z.2.1 z.2.2, decode cL_clubAt (z.1 + x.1) = .ok (x.2.1, x.2.2))
theorem kd_L_divisionOf_0 : ∀ z ∈ ([(0, 4, 2), (1, 15, 0), (2, 4, 0), (3, 0, 1), (4, 201, 90), (12, 9, 3), (13, 15, 1), (14, 200, 0)] : List (Nat × Nat × Int)), ∀ x ∈ dkAll 1 z.2.1 z.2.2, decode cL_divisionOf (z.1 + x.1) = .ok (x.2.1, x.2.2) := by decide +kernel
theorem kd_L_divisionOf : rDec 24 1 cL_divisionOf := fun bs h => by
  cases (show codeT[24]? = some k_L_divisionOf from rfl).symm.trans h
  exact (List.forall_mem_cons.mpr ⟨kd_L_divisionOf_0, fun _ h => absurd h List.not_mem_nil⟩ : ∀ bl ∈ k_L_divisionOf, ∀ z ∈ bl, ∀ x ∈ dkAll 1 z.2.1 z.2.2, decode cL_divisionOf (z.1 + x.1) = .ok (x.2.1, x.2.2))
theorem kd_L_end_0 : ∀ z ∈ ([(0, 4, 1), (1, 15, 0), (2, 4, 0), (3, 201, 91), (11, 9, 2), (12, 15, 1), (13, 200, 0)] : List (Nat × Nat × Int)), ∀ x ∈ dkAll 1 z.2.1 z.2.2, decode cL_end (z.1 + x.1) = .ok (x.2.1, x.2.2) := by decide +kernel
theorem kd_L_end : rDec 25 1 cL_end := fun bs h => by
  cases (show codeT[25]? = some k_L_end from rfl).symm.trans h
  exact (List.forall_mem_cons.mpr ⟨kd_L_end_0, fun _ h => absurd h List.not_mem_nil⟩ : ∀ bl ∈ k_L_end, ∀ z ∈ bl, ∀ x ∈ dkAll 1 z.2.1 z.2.2, decode cL_end (z.1 + x.1) = .ok (x.2.1, x.2.2))
theorem kd_L_endSeason_0 : ∀ z ∈ ([(0, 4, 1), (1, 15, 0), (2, 4, 0), (3, 201, 92), (6, 30, 0), (7, 59, 0), (8, 53, 6), (14, 15, 0), (15, 200, 0)] : List (Nat × Nat × Int)), ∀ x ∈ dkAll 1 z.2.1 z.2.2, decode cL_endSeason (z.1 + x.1) = .ok (x.2.1, x.2.2) := by decide +kernel
theorem kd_L_endSeason : rDec 26 1 cL_endSeason := fun bs h => by
  cases (show codeT[26]? = some k_L_endSeason from rfl).symm.trans h
  exact (List.forall_mem_cons.mpr ⟨kd_L_endSeason_0, fun _ h => absurd h List.not_mem_nil⟩ : ∀ bl ∈ k_L_endSeason, ∀ z ∈ bl, ∀ x ∈ dkAll 1 z.2.1 z.2.2, decode cL_endSeason (z.1 + x.1) = .ok (x.2.1, x.2.2))
theorem kd_L_fixture_0 : ∀ z ∈ ([(0, 4, 3), (1, 15, 0), (2, 4, 0), (3, 0, 1), (4, 0, 2), (5, 201, 93), (13, 10, 4), (15, 15, 1), (16, 200, 0)] : List (Nat × Nat × Int)), ∀ x ∈ dkAll 1 z.2.1 z.2.2, decode cL_fixture (z.1 + x.1) = .ok (x.2.1, x.2.2) := by decide +kernel
theorem kd_L_fixture : rDec 27 1 cL_fixture := fun bs h => by
  cases (show codeT[27]? = some k_L_fixture from rfl).symm.trans h
  exact (List.forall_mem_cons.mpr ⟨kd_L_fixture_0, fun _ h => absurd h List.not_mem_nil⟩ : ∀ bl ∈ k_L_fixture, ∀ z ∈ bl, ∀ x ∈ dkAll 1 z.2.1 z.2.2, decode cL_fixture (z.1 + x.1) = .ok (x.2.1, x.2.2))
theorem kd_L_goOn_0 : ∀ z ∈ ([(0, 4, 2), (1, 15, 0), (2, 4, 0), (3, 0, 1), (4, 201, 94), (7, 30, 0), (8, 59, 0), (9, 53, 9), (12, 9, 3), (13, 15, 1), (14, 200, 0), (18, 15, 0), (19, 200, 0)] : List (Nat × Nat × Int)), ∀ x ∈ dkAll 1 z.2.1 z.2.2, decode cL_goOn (z.1 + x.1) = .ok (x.2.1, x.2.2) := by decide +kernel
theorem kd_L_goOn : rDec 28 1 cL_goOn := fun bs h => by
  cases (show codeT[28]? = some k_L_goOn from rfl).symm.trans h
  exact (List.forall_mem_cons.mpr ⟨kd_L_goOn_0, fun _ h => absurd h List.not_mem_nil⟩ : ∀ bl ∈ k_L_goOn, ∀ z ∈ bl, ∀ x ∈ dkAll 1 z.2.1 z.2.2, decode cL_goOn (z.1 + x.1) = .ok (x.2.1, x.2.2))
theorem kd_L_goal_0 : ∀ z ∈ ([(0, 4, 2), (1, 15, 0), (2, 4, 0), (3, 0, 1), (4, 201, 95), (12, 9, 3), (13, 15, 1), (14, 200, 0)] : List (Nat × Nat × Int)), ∀ x ∈ dkAll 1 z.2.1 z.2.2, decode cL_goal (z.1 + x.1) = .ok (x.2.1, x.2.2) := by decide +kernel
theorem kd_L_goal : rDec 29 1 cL_goal := fun bs h => by
  cases (show codeT[29]? = some k_L_goal from rfl).symm.trans h
  exact (List.forall_mem_cons.mpr ⟨kd_L_goal_0, fun _ h => absurd h List.not_mem_nil⟩ : ∀ bl ∈ k_L_goal, ∀ z ∈ bl, ∀ x ∈ dkAll 1 z.2.1 z.2.2, decode cL_goal (z.1 + x.1) = .ok (x.2.1, x.2.2))
theorem kd_L_isGuilty_0 : ∀ z ∈ ([(0, 4, 3), (1, 15, 0), (2, 4, 0), (3, 0, 1), (4, 0, 2), (5, 201, 96), (20, 10, 4), (22, 15, 1), (23, 200, 0)] : List (Nat × Nat × Int)), ∀ x ∈ dkAll 1 z.2.1 z.2.2, decode cL_isGuilty (z.1 + x.1) = .ok (x.2.1, x.2.2) := by decide +kernel
theorem kd_L_isGuilty : rDec 30 1 cL_isGuilty := fun bs h => by
  cases (show codeT[30]? = some k_L_isGuilty from rfl).symm.trans h
  exact (List.forall_mem_cons.mpr ⟨kd_L_isGuilty_0, fun _ h => absurd h List.not_mem_nil⟩ : ∀ bl ∈ k_L_isGuilty, ∀ z ∈ bl, ∀ x ∈ dkAll 1 z.2.1 z.2.2, decode cL_isGuilty (z.1 + x.1) = .ok (x.2.1, x.2.2))
theorem kd_L_kickOff_0 : ∀ z ∈ ([(0, 4, 2), (1, 15, 0), (2, 4, 0), (3, 0, 1), (4, 201, 97), (12, 9, 3), (13, 15, 1), (14, 200, 0)] : List (Nat × Nat × Int)), ∀ x ∈ dkAll 1 z.2.1 z.2.2, decode cL_kickOff (z.1 + x.1) = .ok (x.2.1, x.2.2) := by decide +kernel
theorem kd_L_kickOff : rDec 31 1 cL_kickOff := fun bs h => by
  cases (show codeT[31]? = some k_L_kickOff from rfl).symm.trans h
  exact (List.forall_mem_cons.mpr ⟨kd_L_kickOff_0, fun _ h => absurd h List.not_mem_nil⟩ : ∀ bl ∈ k_L_kickOff, ∀ z ∈ bl, ∀ x ∈ dkAll 1 z.2.1 z.2.2, decode cL_kickOff (z.1 + x.1) = .ok (x.2.1, x.2.2))
theorem kd_L_lend_0 : ∀ z ∈ ([(0, 4, 3), (1, 15, 0), (2, 4, 0), (3, 0, 1), (4, 0, 2), (5, 201, 98), (13, 10, 4), (15, 15, 1), (16, 200, 0)] : List (Nat × Nat × Int)), ∀ x ∈ dkAll 1 z.2.1 z.2.2, decode cL_lend (z.1 + x.1) = .ok (x.2.1, x.2.2) := by decide +kernel
theorem kd_L_lend : rDec 32 1 cL_lend := fun bs h => by
  cases (show codeT[32]? = some k_L_lend from rfl).symm.trans h
  exact (List.forall_mem_cons.mpr ⟨kd_L_lend_0, fun _ h => absurd h List.not_mem_nil⟩ : ∀ bl ∈ k_L_lend, ∀ z ∈ bl, ∀ x ∈ dkAll 1 z.2.1 z.2.2, decode cL_lend (z.1 + x.1) = .ok (x.2.1, x.2.2))
theorem kd_L_meanGoals_0 : ∀ z ∈ ([(0, 4, 1), (1, 15, 0), (2, 4, 0), (3, 201, 99), (10, 9, 2), (11, 15, 1), (12, 200, 0)] : List (Nat × Nat × Int)), ∀ x ∈ dkAll 1 z.2.1 z.2.2, decode cL_meanGoals (z.1 + x.1) = .ok (x.2.1, x.2.2) := by decide +kernel
theorem kd_L_meanGoals : rDec 33 1 cL_meanGoals := fun bs h => by
  cases (show codeT[33]? = some k_L_meanGoals from rfl).symm.trans h
  exact (List.forall_mem_cons.mpr ⟨kd_L_meanGoals_0, fun _ h => absurd h List.not_mem_nil⟩ : ∀ bl ∈ k_L_meanGoals, ∀ z ∈ bl, ∀ x ∈ dkAll 1 z.2.1 z.2.2, decode cL_meanGoals (z.1 + x.1) = .ok (x.2.1, x.2.2))
theorem kd_L_name_0 : ∀ z ∈ ([(0, 5, 4), (2, 15, 0), (3, 4, 0), (4, 0, 1), (5, 0, 2), (6, 0, 3), (7, 201, 100), (15, 10, 5), (17, 15, 1), (18, 200, 0)] : List (Nat × Nat × Int)), ∀ x ∈ dkAll 1 z.2.1 z.2.2, decode cL_name (z.1 + x.1) = .ok (x.2.1, x.2.2) := by decide +kernel
theorem kd_L_name : rDec 34 1 cL_name := fun bs h => by
  cases (show codeT[34]? = some k_L_name from rfl).symm.trans h
  exact (List.forall_mem_cons.mpr ⟨kd_L_name_0, fun _ h => absurd h List.not_mem_nil⟩ : ∀ bl ∈ k_L_name, ∀ z ∈ bl, ∀ x ∈ dkAll 1 z.2.1 z.2.2, decode cL_name (z.1 + x.1) = .ok (x.2.1, x.2.2))
theorem kd_L_overShare_0 : ∀ z ∈ ([(0, 4, 1), (1, 15, 0), (2, 4, 0), (3, 201, 101), (11, 9, 2), (12, 15, 1), (13, 200, 0)] : List (Nat × Nat × Int)), ∀ x ∈ dkAll 1 z.2.1 z.2.2, decode cL_overShare (z.1 + x.1) = .ok (x.2.1, x.2.2) := by decide +kernel
theorem kd_L_overShare : rDec 35 1 cL_overShare := fun bs h => by
  cases (show codeT[35]? = some k_L_overShare from rfl).symm.trans h
  exact (List.forall_mem_cons.mpr ⟨kd_L_overShare_0, fun _ h => absurd h List.not_mem_nil⟩ : ∀ bl ∈ k_L_overShare, ∀ z ∈ bl, ∀ x ∈ dkAll 1 z.2.1 z.2.2, decode cL_overShare (z.1 + x.1) = .ok (x.2.1, x.2.2))
theorem kd_L_plan_0 : ∀ z ∈ ([(0, 4, 2), (1, 15, 0), (2, 4, 0), (3, 0, 1), (4, 201, 102), (12, 9, 3), (13, 15, 1), (14, 200, 0), (15, 9, 3), (16, 15, 2), (17, 200, 0)] : List (Nat × Nat × Int)), ∀ x ∈ dkAll 1 z.2.1 z.2.2, decode cL_plan (z.1 + x.1) = .ok (x.2.1, x.2.2) := by decide +kernel
theorem kd_L_plan : rDec 36 1 cL_plan := fun bs h => by
  cases (show codeT[36]? = some k_L_plan from rfl).symm.trans h
  exact (List.forall_mem_cons.mpr ⟨kd_L_plan_0, fun _ h => absurd h List.not_mem_nil⟩ : ∀ bl ∈ k_L_plan, ∀ z ∈ bl, ∀ x ∈ dkAll 1 z.2.1 z.2.2, decode cL_plan (z.1 + x.1) = .ok (x.2.1, x.2.2))
theorem kd_L_points_0 : ∀ z ∈ ([(0, 4, 2), (1, 15, 0), (2, 4, 0), (3, 0, 1), (4, 201, 103), (12, 9, 3), (13, 15, 1), (14, 200, 0)] : List (Nat × Nat × Int)), ∀ x ∈ dkAll 1 z.2.1 z.2.2, decode cL_points (z.1 + x.1) = .ok (x.2.1, x.2.2) := by decide +kernel
theorem kd_L_points : rDec 37 1 cL_points := fun bs h => by
  cases (show codeT[37]? = some k_L_points from rfl).symm.trans h
  exact (List.forall_mem_cons.mpr ⟨kd_L_points_0, fun _ h => absurd h List.not_mem_nil⟩ : ∀ bl ∈ k_L_points, ∀ z ∈ bl, ∀ x ∈ dkAll 1 z.2.1 z.2.2, decode cL_points (z.1 + x.1) = .ok (x.2.1, x.2.2))
theorem kd_L_putOff_0 : ∀ z ∈ ([(0, 4, 3), (1, 15, 0), (2, 4, 0), (3, 0, 1), (4, 0, 2), (5, 201, 104), (13, 10, 4), (15, 15, 1), (16, 200, 0)] : List (Nat × Nat × Int)), ∀ x ∈ dkAll 1 z.2.1 z.2.2, decode cL_putOff (z.1 + x.1) = .ok (x.2.1, x.2.2) := by decide +kernel
theorem kd_L_putOff : rDec 38 1 cL_putOff := fun bs h => by
  cases (show codeT[38]? = some k_L_putOff from rfl).symm.trans h
  exact (List.forall_mem_cons.mpr ⟨kd_L_putOff_0, fun _ h => absurd h List.not_mem_nil⟩ : ∀ bl ∈ k_L_putOff, ∀ z ∈ bl, ∀ x ∈ dkAll 1 z.2.1 z.2.2, decode cL_putOff (z.1 + x.1) = .ok (x.2.1, x.2.2))
theorem kd_L_registered_0 : ∀ z ∈ ([(0, 4, 2), (1, 15, 0), (2, 4, 0), (3, 0, 1), (4, 201, 105), (12, 9, 3), (13, 15, 1), (14, 200, 0)] : List (Nat × Nat × Int)), ∀ x ∈ dkAll 1 z.2.1 z.2.2, decode cL_registered (z.1 + x.1) = .ok (x.2.1, x.2.2) := by decide +kernel
theorem kd_L_registered : rDec 39 1 cL_registered := fun bs h => by
  cases (show codeT[39]? = some k_L_registered from rfl).symm.trans h
  exact (List.forall_mem_cons.mpr ⟨kd_L_registered_0, fun _ h => absurd h List.not_mem_nil⟩ : ∀ bl ∈ k_L_registered, ∀ z ∈ bl, ∀ x ∈ dkAll 1 z.2.1 z.2.2, decode cL_registered (z.1 + x.1) = .ok (x.2.1, x.2.2))
theorem kd_L_resultOf_0 : ∀ z ∈ ([(0, 4, 2), (1, 15, 0), (2, 4, 0), (3, 0, 1), (4, 201, 106), (12, 9, 3), (13, 15, 1), (14, 200, 0)] : List (Nat × Nat × Int)), ∀ x ∈ dkAll 1 z.2.1 z.2.2, decode cL_resultOf (z.1 + x.1) = .ok (x.2.1, x.2.2) := by decide +kernel
theorem kd_L_resultOf : rDec 40 1 cL_resultOf := fun bs h => by
  cases (show codeT[40]? = some k_L_resultOf from rfl).symm.trans h
  exact (List.forall_mem_cons.mpr ⟨kd_L_resultOf_0, fun _ h => absurd h List.not_mem_nil⟩ : ∀ bl ∈ k_L_resultOf, ∀ z ∈ bl, ∀ x ∈ dkAll 1 z.2.1 z.2.2, decode cL_resultOf (z.1 + x.1) = .ok (x.2.1, x.2.2))
theorem kd_L_sell_0 : ∀ z ∈ ([(0, 5, 4), (2, 15, 0), (3, 4, 0), (4, 0, 1), (5, 0, 2), (6, 0, 3), (7, 201, 107), (15, 10, 5), (17, 15, 1), (18, 200, 0)] : List (Nat × Nat × Int)), ∀ x ∈ dkAll 1 z.2.1 z.2.2, decode cL_sell (z.1 + x.1) = .ok (x.2.1, x.2.2) := by decide +kernel
theorem kd_L_sell : rDec 41 1 cL_sell := fun bs h => by
  cases (show codeT[41]? = some k_L_sell from rfl).symm.trans h
  exact (List.forall_mem_cons.mpr ⟨kd_L_sell_0, fun _ h => absurd h List.not_mem_nil⟩ : ∀ bl ∈ k_L_sell, ∀ z ∈ bl, ∀ x ∈ dkAll 1 z.2.1 z.2.2, decode cL_sell (z.1 + x.1) = .ok (x.2.1, x.2.2))
theorem kd_L_setDerby_0 : ∀ z ∈ ([(0, 5, 4), (2, 15, 0), (3, 4, 0), (4, 0, 1), (5, 0, 2), (6, 0, 3), (7, 201, 108), (22, 10, 5), (24, 15, 1), (25, 200, 0)] : List (Nat × Nat × Int)), ∀ x ∈ dkAll 1 z.2.1 z.2.2, decode cL_setDerby (z.1 + x.1) = .ok (x.2.1, x.2.2) := by decide +kernel
theorem kd_L_setDerby : rDec 42 1 cL_setDerby := fun bs h => by
  cases (show codeT[42]? = some k_L_setDerby from rfl).symm.trans h
  exact (List.forall_mem_cons.mpr ⟨kd_L_setDerby_0, fun _ h => absurd h List.not_mem_nil⟩ : ∀ bl ∈ k_L_setDerby, ∀ z ∈ bl, ∀ x ∈ dkAll 1 z.2.1 z.2.2, decode cL_setDerby (z.1 + x.1) = .ok (x.2.1, x.2.2))
theorem kd_L_setWindow_0 : ∀ z ∈ ([(0, 4, 3), (1, 15, 0), (2, 4, 0), (3, 0, 1), (4, 0, 2), (5, 201, 109), (8, 32, 7), (11, 18, 1), (12, 53, 4), (15, 18, 0), (16, 59, 0), (17, 53, 7), (20, 10, 4), (22, 15, 1), (23, 200, 0), (24, 15, 0), (25, 200, 0)] : List (Nat × Nat × Int)), ∀ x ∈ dkAll 1 z.2.1 z.2.2, decode cL_setWindow (z.1 + x.1) = .ok (x.2.1, x.2.2) := by decide +kernel
theorem kd_L_setWindow : rDec 43 1 cL_setWindow := fun bs h => by
  cases (show codeT[43]? = some k_L_setWindow from rfl).symm.trans h
  exact (List.forall_mem_cons.mpr ⟨kd_L_setWindow_0, fun _ h => absurd h List.not_mem_nil⟩ : ∀ bl ∈ k_L_setWindow, ∀ z ∈ bl, ∀ x ∈ dkAll 1 z.2.1 z.2.2, decode cL_setWindow (z.1 + x.1) = .ok (x.2.1, x.2.2))
theorem kd_L_stateOf_0 : ∀ z ∈ ([(0, 4, 2), (1, 15, 0), (2, 4, 0), (3, 0, 1), (4, 201, 110), (12, 9, 3), (13, 15, 1), (14, 200, 0)] : List (Nat × Nat × Int)), ∀ x ∈ dkAll 1 z.2.1 z.2.2, decode cL_stateOf (z.1 + x.1) = .ok (x.2.1, x.2.2) := by decide +kernel
theorem kd_L_stateOf : rDec 44 1 cL_stateOf := fun bs h => by
  cases (show codeT[44]? = some k_L_stateOf from rfl).symm.trans h
  exact (List.forall_mem_cons.mpr ⟨kd_L_stateOf_0, fun _ h => absurd h List.not_mem_nil⟩ : ∀ bl ∈ k_L_stateOf, ∀ z ∈ bl, ∀ x ∈ dkAll 1 z.2.1 z.2.2, decode cL_stateOf (z.1 + x.1) = .ok (x.2.1, x.2.2))
theorem kd_L_strike_0 : ∀ z ∈ ([(0, 4, 3), (1, 15, 0), (2, 4, 0), (3, 0, 1), (4, 0, 2), (5, 201, 111), (20, 10, 4), (22, 15, 1), (23, 200, 0)] : List (Nat × Nat × Int)), ∀ x ∈ dkAll 1 z.2.1 z.2.2, decode cL_strike (z.1 + x.1) = .ok (x.2.1, x.2.2) := by decide +kernel
theorem kd_L_strike : rDec 45 1 cL_strike := fun bs h => by
  cases (show codeT[45]? = some k_L_strike from rfl).symm.trans h
  exact (List.forall_mem_cons.mpr ⟨kd_L_strike_0, fun _ h => absurd h List.not_mem_nil⟩ : ∀ bl ∈ k_L_strike, ∀ z ∈ bl, ∀ x ∈ dkAll 1 z.2.1 z.2.2, decode cL_strike (z.1 + x.1) = .ok (x.2.1, x.2.2))
theorem kd_L_takePoints_0 : ∀ z ∈ ([(0, 4, 3), (1, 15, 0), (2, 4, 0), (3, 0, 1), (4, 0, 2), (5, 201, 112), (13, 10, 4), (15, 15, 1), (16, 200, 0)] : List (Nat × Nat × Int)), ∀ x ∈ dkAll 1 z.2.1 z.2.2, decode cL_takePoints (z.1 + x.1) = .ok (x.2.1, x.2.2) := by decide +kernel
theorem kd_L_takePoints : rDec 46 1 cL_takePoints := fun bs h => by
  cases (show codeT[46]? = some k_L_takePoints from rfl).symm.trans h
  exact (List.forall_mem_cons.mpr ⟨kd_L_takePoints_0, fun _ h => absurd h List.not_mem_nil⟩ : ∀ bl ∈ k_L_takePoints, ∀ z ∈ bl, ∀ x ∈ dkAll 1 z.2.1 z.2.2, decode cL_takePoints (z.1 + x.1) = .ok (x.2.1, x.2.2))
theorem kd_L_wipe_0 : ∀ z ∈ ([(0, 4, 1), (1, 15, 0), (2, 4, 0), (3, 201, 113), (6, 30, 0), (7, 59, 0), (8, 53, 6), (14, 15, 0), (15, 200, 0)] : List (Nat × Nat × Int)), ∀ x ∈ dkAll 1 z.2.1 z.2.2, decode cL_wipe (z.1 + x.1) = .ok (x.2.1, x.2.2) := by decide +kernel
theorem kd_L_wipe : rDec 47 1 cL_wipe := fun bs h => by
  cases (show codeT[47]? = some k_L_wipe from rfl).symm.trans h
  exact (List.forall_mem_cons.mpr ⟨kd_L_wipe_0, fun _ h => absurd h List.not_mem_nil⟩ : ∀ bl ∈ k_L_wipe, ∀ z ∈ bl, ∀ x ∈ dkAll 1 z.2.1 z.2.2, decode cL_wipe (z.1 + x.1) = .ok (x.2.1, x.2.2))
theorem kd_L_yellows_0 : ∀ z ∈ ([(0, 4, 2), (1, 15, 0), (2, 4, 0), (3, 0, 1), (4, 201, 114), (12, 9, 3), (13, 15, 1), (14, 200, 0)] : List (Nat × Nat × Int)), ∀ x ∈ dkAll 1 z.2.1 z.2.2, decode cL_yellows (z.1 + x.1) = .ok (x.2.1, x.2.2) := by decide +kernel
theorem kd_L_yellows : rDec 48 1 cL_yellows := fun bs h => by
  cases (show codeT[48]? = some k_L_yellows from rfl).symm.trans h
  exact (List.forall_mem_cons.mpr ⟨kd_L_yellows_0, fun _ h => absurd h List.not_mem_nil⟩ : ∀ bl ∈ k_L_yellows, ∀ z ∈ bl, ∀ x ∈ dkAll 1 z.2.1 z.2.2, decode cL_yellows (z.1 + x.1) = .ok (x.2.1, x.2.2))
theorem kd_X0_count_0 : ∀ z ∈ ([(0, 4, 1), (1, 70, 9), (4, 33, 40), (44, 4, 1), (45, 70, 9), (48, 15, 1), (49, 39, 26)] : List (Nat × Nat × Int)), ∀ x ∈ dkAll 0 z.2.1 z.2.2, decode cX0_count (z.1 + x.1) = .ok (x.2.1, x.2.2) := by decide +kernel
theorem kd_X0_count_1 : ∀ z ∈ ([(75, 4, 1), (76, 70, 9), (79, 15, 2), (80, 39, 11), (83, 4, 0), (84, 70, 10), (87, 15, 0), (88, 201, 115), (91, 200, 0)] : List (Nat × Nat × Int)), ∀ x ∈ dkAll 0 z.2.1 z.2.2, decode cX0_count (z.1 + x.1) = .ok (x.2.1, x.2.2) := by decide +kernel
theorem kd_X0_count : rDec 49 0 cX0_count := fun bs h => by
  cases (show codeT[49]? = some k_X0_count from rfl).symm.trans h
  exact (List.forall_mem_cons.mpr ⟨kd_X0_count_0, List.forall_mem_cons.mpr ⟨kd_X0_count_1, fun _ h => absurd h List.not_mem_nil⟩⟩ : ∀ bl ∈ k_X0_count, ∀ z ∈ bl, ∀ x ∈ dkAll 0 z.2.1 z.2.2, decode cX0_count (z.1 + x.1) = .ok (x.2.1, x.2.2))
theorem kd_X0_countAnew_0 : ∀ z ∈ ([(0, 4, 0), (1, 70, 11), (4, 15, 0), (5, 201, 115), (8, 4, 0), (9, 70, 10), (12, 15, 0), (13, 201, 115), (16, 15, 0), (17, 7, 1), (18, 0, 1), (19, 4, 0), (20, 70, 12), (23, 201, 116), (26, 41, 33), (59, 15, 0), (60, 7, 1), (61, 0, 1), (62, 4, 0), (63, 70, 12)] : List (Nat × Nat × Int)), ∀ x ∈ dkAll 0 z.2.1 z.2.2, decode cX0_countAnew (z.1 + x.1) = .ok (x.2.1, x.2.2) := by decide +kernel
theorem kd_X0_countAnew_1 : ∀ z ∈ ([(66, 201, 116), (69, 41, 24), (93, 200, 0)] : List (Nat × Nat × Int)), ∀ x ∈ dkAll 0 z.2.1 z.2.2, decode cX0_countAnew (z.1 + x.1) = .ok (x.2.1, x.2.2) := by decide +kernel
theorem kd_X0_countAnew : rDec 50 0 cX0_countAnew := fun bs h => by
  cases (show codeT[50]? = some k_X0_countAnew from rfl).symm.trans h
  exact (List.forall_mem_cons.mpr ⟨kd_X0_countAnew_0, List.forall_mem_cons.mpr ⟨kd_X0_countAnew_1, fun _ h => absurd h List.not_mem_nil⟩⟩ : ∀ bl ∈ k_X0_countAnew, ∀ z ∈ bl, ∀ x ∈ dkAll 0 z.2.1 z.2.2, decode cX0_countAnew (z.1 + x.1) = .ok (x.2.1, x.2.2))
theorem kd_X0_init_0 : ∀ z ∈ ([(0, 4, 0), (1, 75, 2), (4, 4, 0), (5, 69, 3), (8, 22, 0), (9, 201, 117), (12, 73, 12), (15, 4, 0), (16, 69, 3), (19, 22, 0), (20, 201, 117), (23, 73, 13), (26, 4, 0), (27, 16, 24), (29, 64, 0), (31, 73, 11), (34, 4, 0), (35, 16, 24), (37, 64, 0), (39, 73, 10), (42, 4, 0), (43, 16, 24), (45, 64, 0), (47, 73, 14), (50, 4, 0), (51, 16, 24), (53, 64, 0), (55, 73, 15), (58, 200, 0)] : List (Nat × Nat × Int)), ∀ x ∈ dkAll 0 z.2.1 z.2.2, decode cX0_init (z.1 + x.1) = .ok (x.2.1, x.2.2) := by decide +kernel
theorem kd_X0_init : rDec 51 0 cX0_init := fun bs h => by
  cases (show codeT[51]? = some k_X0_init from rfl).symm.trans h
  exact (List.forall_mem_cons.mpr ⟨kd_X0_init_0, fun _ h => absurd h List.not_mem_nil⟩ : ∀ bl ∈ k_X0_init, ∀ z ∈ bl, ∀ x ∈ dkAll 0 z.2.1 z.2.2, decode cX0_init (z.1 + x.1) = .ok (x.2.1, x.2.2))
theorem kd_X0_isFull_0 : ∀ z ∈ ([(0, 4, 0), (1, 70, 12), (4, 201, 116), (7, 15, 2), (8, 25, 0), (9, 17, 1024), (12, 43, 7), (19, 15, 0), (20, 200, 0)] : List (Nat × Nat × Int)), ∀ x ∈ dkAll 6 z.2.1 z.2.2, decode cX0_isFull (z.1 + x.1) = .ok (x.2.1, x.2.2) := by decide +kernel
theorem kd_X0_isFull : rDec 52 6 cX0_isFull := fun bs h => by
  cases (show codeT[52]? = some k_X0_isFull from rfl).symm.trans h
  exact (List.forall_mem_cons.mpr ⟨kd_X0_isFull_0, fun _ h => absurd h List.not_mem_nil⟩ : ∀ bl ∈ k_X0_isFull, ∀ z ∈ bl, ∀ x ∈ dkAll 6 z.2.1 z.2.2, decode cX0_isFull (z.1 + x.1) = .ok (x.2.1, x.2.2))
theorem kd_X0_isSameAnew_0 : ∀ z ∈ ([(0, 4, 0), (1, 70, 11), (4, 15, 0), (5, 4, 0), (6, 70, 14), (9, 15, 0), (10, 16, 24), (12, 77, 0), (15, 4, 0), (16, 70, 10), (19, 15, 0), (20, 4, 0), (21, 70, 15), (24, 15, 0), (25, 16, 24), (27, 77, 0), (30, 4, 0), (31, 201, 118), (34, 15, 0), (35, 7, 1), (36, 0, 1), (37, 16, 24), (39, 41, 41), (42, 4, 0), (43, 70, 11), (46, 0, 1), (47, 55, 0), (48, 4, 0), (49, 70, 14), (52, 0, 1), (53, 55, 0), (54, 39, 18), (57, 4, 0), (58, 70, 10), (61, 0, 1), (62, 55, 0), (63, 4, 0)] : List (Nat × Nat × Int)), ∀ x ∈ dkAll 6 z.2.1 z.2.2, decode cX0_isSameAnew (z.1 + x.1) = .ok (x.2.1, x.2.2) := by decide +kernel
theorem kd_X0_isSameAnew_1 : ∀ z ∈ ([(64, 70, 15), (67, 0, 1), (68, 55, 0), (69, 38, 5), (74, 29, 1501), (77, 53, -41), (80, 15, 1), (81, 200, 0)] : List (Nat × Nat × Int)), ∀ x ∈ dkAll 6 z.2.1 z.2.2, decode cX0_isSameAnew (z.1 + x.1) = .ok (x.2.1, x.2.2) := by decide +kernel
theorem kd_X0_isSameAnew : rDec 53 6 cX0_isSameAnew := fun bs h => by
  cases (show codeT[53]? = some k_X0_isSameAnew from rfl).symm.trans h
  exact (List.forall_mem_cons.mpr ⟨kd_X0_isSameAnew_0, List.forall_mem_cons.mpr ⟨kd_X0_isSameAnew_1, fun _ h => absurd h List.not_mem_nil⟩⟩ : ∀ bl ∈ k_X0_isSameAnew, ∀ z ∈ bl, ∀ x ∈ dkAll 6 z.2.1 z.2.2, decode cX0_isSameAnew (z.1 + x.1) = .ok (x.2.1, x.2.2))
theorem kd_X0_playersWithYellows_0 : ∀ z ∈ ([(0, 15, 0), (1, 7, 1), (2, 15, 0), (3, 7, 2), (4, 0, 2), (5, 16, 24), (7, 41, 21), (10, 4, 0), (11, 70, 10), (14, 0, 2), (15, 55, 0), (16, 37, 6), (22, 29, 2501), (25, 53, -21), (28, 0, 1), (29, 200, 0)] : List (Nat × Nat × Int)), ∀ x ∈ dkAll 1 z.2.1 z.2.2, decode cX0_playersWithYellows (z.1 + x.1) = .ok (x.2.1, x.2.2) := by decide +kernel
theorem kd_X0_playersWithYellows : rDec 54 1 cX0_playersWithYellows := fun bs h => by
  cases (show codeT[54]? = some k_X0_playersWithYellows from rfl).symm.trans h
  exact (List.forall_mem_cons.mpr ⟨kd_X0_playersWithYellows_0, fun _ h => absurd h List.not_mem_nil⟩ : ∀ bl ∈ k_X0_playersWithYellows, ∀ z ∈ bl, ∀ x ∈ dkAll 1 z.2.1 z.2.2, decode cX0_playersWithYellows (z.1 + x.1) = .ok (x.2.1, x.2.2))
theorem kd_X0_write_0 : ∀ z ∈ ([(0, 4, 0), (1, 70, 12), (4, 4, 1), (5, 201, 119), (8, 24, 0), (9, 4, 0), (10, 4, 1), (11, 201, 120), (14, 200, 0)] : List (Nat × Nat × Int)), ∀ x ∈ dkAll 0 z.2.1 z.2.2, decode cX0_write (z.1 + x.1) = .ok (x.2.1, x.2.2) := by decide +kernel
theorem kd_X0_write : rDec 55 0 cX0_write := fun bs h => by
  cases (show codeT[55]? = some k_X0_write from rfl).symm.trans h
  exact (List.forall_mem_cons.mpr ⟨kd_X0_write_0, fun _ h => absurd h List.not_mem_nil⟩ : ∀ bl ∈ k_X0_write, ∀ z ∈ bl, ∀ x ∈ dkAll 0 z.2.1 z.2.2, decode cX0_write (z.1 + x.1) = .ok (x.2.1, x.2.2))
theorem kd_X11_init_0 : ∀ z ∈ ([(0, 4, 0), (1, 75, 3), (4, 4, 0), (5, 17, 1000), (8, 72, 16), (11, 4, 0), (12, 15, 0), (13, 72, 17), (16, 4, 0), (17, 15, 0), (18, 72, 18), (21, 4, 0), (22, 0, 1), (23, 72, 19), (26, 4, 0), (27, 0, 2), (28, 73, 20), (31, 4, 0), (32, 0, 3), (33, 73, 21), (36, 200, 0)] : List (Nat × Nat × Int)), ∀ x ∈ dkAll 0 z.2.1 z.2.2, decode cX11_init (z.1 + x.1) = .ok (x.2.1, x.2.2) := by decide +kernel
theorem kd_X11_init : rDec 56 0 cX11_init := fun bs h => by
  cases (show codeT[56]? = some k_X11_init from rfl).symm.trans h
  exact (List.forall_mem_cons.mpr ⟨kd_X11_init_0, fun _ h => absurd h List.not_mem_nil⟩ : ∀ bl ∈ k_X11_init, ∀ z ∈ bl, ∀ x ∈ dkAll 0 z.2.1 z.2.2, decode cX11_init (z.1 + x.1) = .ok (x.2.1, x.2.2))
theorem kd_X12_init_0 : ∀ z ∈ ([(0, 4, 0), (1, 75, 4), (4, 4, 0), (5, 69, 4), (8, 22, 0), (9, 201, 121), (12, 73, 22), (15, 4, 0), (16, 0, 1), (17, 73, 23), (20, 4, 0), (21, 6, 2), (22, 73, 24), (25, 4, 0), (26, 0, 3), (27, 73, 25), (30, 4, 0), (31, 1, 4), (33, 73, 26), (36, 200, 0)] : List (Nat × Nat × Int)), ∀ x ∈ dkAll 0 z.2.1 z.2.2, decode cX12_init (z.1 + x.1) = .ok (x.2.1, x.2.2) := by decide +kernel
theorem kd_X12_init : rDec 57 0 cX12_init := fun bs h => by
  cases (show codeT[57]? = some k_X12_init from rfl).symm.trans h
  exact (List.forall_mem_cons.mpr ⟨kd_X12_init_0, fun _ h => absurd h List.not_mem_nil⟩ : ∀ bl ∈ k_X12_init, ∀ z ∈ bl, ∀ x ∈ dkAll 0 z.2.1 z.2.2, decode cX12_init (z.1 + x.1) = .ok (x.2.1, x.2.2))
theorem kd_X15_abandon_0 : ∀ z ∈ ([(0, 4, 0), (1, 4, 0), (2, 70, 27), (5, 51, 7), (12, 15, 0), (13, 15, 1), (14, 201, 122), (17, 32, 5), (20, 15, 0), (21, 200, 0)] : List (Nat × Nat × Int)), ∀ x ∈ dkAll 1 z.2.1 z.2.2, decode cX15_abandon (z.1 + x.1) = .ok (x.2.1, x.2.2) := by decide +kernel
theorem kd_X15_abandon : rDec 58 1 cX15_abandon := fun bs h => by
  cases (show codeT[58]? = some k_X15_abandon from rfl).symm.trans h
  exact (List.forall_mem_cons.mpr ⟨kd_X15_abandon_0, fun _ h => absurd h List.not_mem_nil⟩ : ∀ bl ∈ k_X15_abandon, ∀ z ∈ bl, ∀ x ∈ dkAll 1 z.2.1 z.2.2, decode cX15_abandon (z.1 + x.1) = .ok (x.2.1, x.2.2))
theorem kd_X15_addClub_0 : ∀ z ∈ ([(0, 4, 0), (1, 0, 1), (2, 30, 0), (3, 18, 0), (4, 18, 1), (5, 201, 123), (8, 32, 31), (11, 0, 2), (12, 30, 0), (13, 18, 0), (14, 78, 0), (17, 201, 123), (20, 32, 19), (23, 0, 3), (24, 30, 0), (25, 18, 0), (26, 78, 1), (29, 201, 123), (32, 32, 7), (35, 15, 1), (36, 53, 4), (39, 15, 0), (40, 15, 1), (41, 201, 122), (44, 33, 39), (47, 4, 0), (48, 4, 0), (49, 0, 1), (50, 201, 124), (53, 15, 4), (54, 41, 21), (57, 4, 0), (58, 70, 28), (61, 201, 125)] : List (Nat × Nat × Int)), ∀ x ∈ dkAll 1 z.2.1 z.2.2, decode cX15_addClub (z.1 + x.1) = .ok (x.2.1, x.2.2) := by decide +kernel
theorem kd_X15_addClub_1 : ∀ z ∈ ([(66, 16, 8), (68, 41, 7), (71, 15, 1), (72, 53, 4), (76, 15, 2), (77, 201, 122), (80, 32, 5), (83, 15, 0), (84, 200, 0), (85, 4, 0), (86, 70, 28), (89, 69, 5), (92, 22, 0), (93, 0, 1), (94, 0, 2), (95, 0, 3), (96, 201, 126), (99, 201, 127), (104, 24, 0), (105, 4, 0), (106, 70, 28), (109, 201, 125), (114, 15, 1), (115, 26, 0), (116, 200, 0)] : List (Nat × Nat × Int)), ∀ x ∈ dkAll 1 z.2.1 z.2.2, decode cX15_addClub (z.1 + x.1) = .ok (x.2.1, x.2.2) := by decide +kernel
theorem kd_X15_addClub : rDec 59 1 cX15_addClub := fun bs h => by
  cases (show codeT[59]? = some k_X15_addClub from rfl).symm.trans h
  exact (List.forall_mem_cons.mpr ⟨kd_X15_addClub_0, List.forall_mem_cons.mpr ⟨kd_X15_addClub_1, fun _ h => absurd h List.not_mem_nil⟩⟩ : ∀ bl ∈ k_X15_addClub, ∀ z ∈ bl, ∀ x ∈ dkAll 1 z.2.1 z.2.2, decode cX15_addClub (z.1 + x.1) = .ok (x.2.1, x.2.2))
theorem kd_X15_addPlayer_0 : ∀ z ∈ ([(0, 4, 0), (1, 4, 0), (2, 0, 1), (3, 201, 128), (6, 15, 1), (7, 201, 122), (10, 33, 30), (40, 15, 0), (41, 200, 0)] : List (Nat × Nat × Int)), ∀ x ∈ dkAll 1 z.2.1 z.2.2, decode cX15_addPlayer (z.1 + x.1) = .ok (x.2.1, x.2.2) := by decide +kernel
theorem kd_X15_addPlayer : rDec 60 1 cX15_addPlayer := fun bs h => by
  cases (show codeT[60]? = some k_X15_addPlayer from rfl).symm.trans h
  exact (List.forall_mem_cons.mpr ⟨kd_X15_addPlayer_0, fun _ h => absurd h List.not_mem_nil⟩ : ∀ bl ∈ k_X15_addPlayer, ∀ z ∈ bl, ∀ x ∈ dkAll 1 z.2.1 z.2.2, decode cX15_addPlayer (z.1 + x.1) = .ok (x.2.1, x.2.2))
theorem kd_X15_appeal_0 : ∀ z ∈ ([(0, 4, 0), (1, 0, 1), (2, 30, 0), (3, 18, 0), (4, 4, 0), (5, 70, 29), (8, 201, 125), (13, 15, 1), (14, 26, 0), (15, 30, 0), (16, 201, 123), (19, 15, 1), (20, 201, 122), (23, 32, 5), (26, 15, 0), (27, 200, 0)] : List (Nat × Nat × Int)), ∀ x ∈ dkAll 6 z.2.1 z.2.2, decode cX15_appeal (z.1 + x.1) = .ok (x.2.1, x.2.2) := by decide +kernel
theorem kd_X15_appeal : rDec 61 6 cX15_appeal := fun bs h => by
  cases (show codeT[61]? = some k_X15_appeal from rfl).symm.trans h
  exact (List.forall_mem_cons.mpr ⟨kd_X15_appeal_0, fun _ h => absurd h List.not_mem_nil⟩ : ∀ bl ∈ k_X15_appeal, ∀ z ∈ bl, ∀ x ∈ dkAll 6 z.2.1 z.2.2, decode cX15_appeal (z.1 + x.1) = .ok (x.2.1, x.2.2))
theorem kd_X15_ban_0 : ∀ z ∈ ([(0, 4, 0), (1, 4, 0), (2, 0, 1), (3, 201, 129), (6, 15, 1), (7, 201, 122), (10, 32, 5), (13, 15, 0), (14, 200, 0)] : List (Nat × Nat × Int)), ∀ x ∈ dkAll 1 z.2.1 z.2.2, decode cX15_ban (z.1 + x.1) = .ok (x.2.1, x.2.2) := by decide +kernel
theorem kd_X15_ban : rDec 62 1 cX15_ban := fun bs h => by
  cases (show codeT[62]? = some k_X15_ban from rfl).symm.trans h
  exact (List.forall_mem_cons.mpr ⟨kd_X15_ban_0, fun _ h => absurd h List.not_mem_nil⟩ : ∀ bl ∈ k_X15_ban, ∀ z ∈ bl, ∀ x ∈ dkAll 1 z.2.1 z.2.2, decode cX15_ban (z.1 + x.1) = .ok (x.2.1, x.2.2))
theorem kd_X15_callBack_0 : ∀ z ∈ ([(0, 4, 0), (1, 4, 0), (2, 0, 1), (3, 201, 129), (6, 15, 1), (7, 201, 122), (10, 33, 42), (52, 15, 0), (53, 200, 0)] : List (Nat × Nat × Int)), ∀ x ∈ dkAll 1 z.2.1 z.2.2, decode cX15_callBack (z.1 + x.1) = .ok (x.2.1, x.2.2) := by decide +kernel
theorem kd_X15_callBack : rDec 63 1 cX15_callBack := fun bs h => by
  cases (show codeT[63]? = some k_X15_callBack from rfl).symm.trans h
  exact (List.forall_mem_cons.mpr ⟨kd_X15_callBack_0, fun _ h => absurd h List.not_mem_nil⟩ : ∀ bl ∈ k_X15_callBack, ∀ z ∈ bl, ∀ x ∈ dkAll 1 z.2.1 z.2.2, decode cX15_callBack (z.1 + x.1) = .ok (x.2.1, x.2.2))
theorem kd_X15_card_0 : ∀ z ∈ ([(0, 4, 0), (1, 0, 1), (2, 201, 130), (5, 33, 16), (21, 15, 0), (22, 200, 0)] : List (Nat × Nat × Int)), ∀ x ∈ dkAll 1 z.2.1 z.2.2, decode cX15_card (z.1 + x.1) = .ok (x.2.1, x.2.2) := by decide +kernel
theorem kd_X15_card : rDec 64 1 cX15_card := fun bs h => by
  cases (show codeT[64]? = some k_X15_card from rfl).symm.trans h
  exact (List.forall_mem_cons.mpr ⟨kd_X15_card_0, fun _ h => absurd h List.not_mem_nil⟩ : ∀ bl ∈ k_X15_card, ∀ z ∈ bl, ∀ x ∈ dkAll 1 z.2.1 z.2.2, decode cX15_card (z.1 + x.1) = .ok (x.2.1, x.2.2))
theorem kd_X15_change_0 : ∀ z ∈ ([(0, 4, 0), (1, 4, 0), (2, 0, 1), (3, 201, 129), (6, 32, 15), (21, 15, 0), (22, 15, 1), (23, 201, 122), (26, 33, 23), (49, 15, 0), (50, 200, 0)] : List (Nat × Nat × Int)), ∀ x ∈ dkAll 1 z.2.1 z.2.2, decode cX15_change (z.1 + x.1) = .ok (x.2.1, x.2.2) := by decide +kernel
theorem kd_X15_change : rDec 65 1 cX15_change := fun bs h => by
  cases (show codeT[65]? = some k_X15_change from rfl).symm.trans h
  exact (List.forall_mem_cons.mpr ⟨kd_X15_change_0, fun _ h => absurd h List.not_mem_nil⟩ : ∀ bl ∈ k_X15_change, ∀ z ∈ bl, ∀ x ∈ dkAll 1 z.2.1 z.2.2, decode cX15_change (z.1 + x.1) = .ok (x.2.1, x.2.2))
theorem kd_X15_clubAt_0 : ∀ z ∈ ([(0, 4, 0), (1, 0, 1), (2, 30, 0), (3, 18, 0), (4, 18, 1), (5, 201, 123), (8, 15, 1), (9, 201, 122), (12, 33, 25), (15, 4, 0), (16, 0, 2), (17, 30, 0), (18, 18, 0), (19, 4, 0), (20, 0, 1), (21, 201, 124), (24, 15, 1), (25, 26, 0), (26, 30, 0), (27, 201, 123), (30, 15, 2), (31, 201, 122), (34, 32, 5), (37, 15, 0), (38, 200, 0)] : List (Nat × Nat × Int)), ∀ x ∈ dkAll 1 z.2.1 z.2.2, decode cX15_clubAt (z.1 + x.1) = .ok (x.2.1, x.2.2) := by decide +kernel
theorem kd_X15_clubAt : rDec 66 1 cX15_clubAt := fun bs h => by
  cases (show codeT[66]? = some k_X15_clubAt from rfl).symm.trans h
  exact (List.forall_mem_cons.mpr ⟨kd_X15_clubAt_0, fun _ h => absurd h List.not_mem_nil⟩ : ∀ bl ∈ k_X15_clubAt, ∀ z ∈ bl, ∀ x ∈ dkAll 1 z.2.1 z.2.2, decode cX15_clubAt (z.1 + x.1) = .ok (x.2.1, x.2.2))
theorem kd_X15_clubsIn_0 : ∀ z ∈ ([(0, 15, 0), (1, 7, 2), (2, 4, 0), (3, 70, 28), (6, 201, 131), (11, 9, 3), (12, 4, 3), (13, 201, 132), (18, 32, 34), (52, 0, 2), (53, 200, 0)] : List (Nat × Nat × Int)), ∀ x ∈ dkAll 1 z.2.1 z.2.2, decode cX15_clubsIn (z.1 + x.1) = .ok (x.2.1, x.2.2) := by decide +kernel
theorem kd_X15_clubsIn : rDec 67 1 cX15_clubsIn := fun bs h => by
  cases (show codeT[67]? = some k_X15_clubsIn from rfl).symm.trans h
  exact (List.forall_mem_cons.mpr ⟨kd_X15_clubsIn_0, fun _ h => absurd h List.not_mem_nil⟩ : ∀ bl ∈ k_X15_clubsIn, ∀ z ∈ bl, ∀ x ∈ dkAll 1 z.2.1 z.2.2, decode cX15_clubsIn (z.1 + x.1) = .ok (x.2.1, x.2.2))
theorem kd_X15_counting_0 : ∀ z ∈ ([(0, 69, 6), (3, 22, 0), (4, 201, 133), (7, 9, 2), (8, 15, 0), (9, 7, 3), (10, 0, 3), (11, 4, 0), (12, 70, 28), (15, 201, 125), (20, 41, 59)] : List (Nat × Nat × Int)), ∀ x ∈ dkAll 3 z.2.1 z.2.2, decode cX15_counting (z.1 + x.1) = .ok (x.2.1, x.2.2) := by decide +kernel
theorem kd_X15_counting_1 : ∀ z ∈ ([(79, 4, 2), (80, 200, 0)] : List (Nat × Nat × Int)), ∀ x ∈ dkAll 3 z.2.1 z.2.2, decode cX15_counting (z.1 + x.1) = .ok (x.2.1, x.2.2) := by decide +kernel
theorem kd_X15_counting : rDec 68 3 cX15_counting := fun bs h => by
  cases (show codeT[68]? = some k_X15_counting from rfl).symm.trans h
  exact (List.forall_mem_cons.mpr ⟨kd_X15_counting_0, List.forall_mem_cons.mpr ⟨kd_X15_counting_1, fun _ h => absurd h List.not_mem_nil⟩⟩ : ∀ bl ∈ k_X15_counting, ∀ z ∈ bl, ∀ x ∈ dkAll 3 z.2.1 z.2.2, decode cX15_counting (z.1 + x.1) = .ok (x.2.1, x.2.2))
theorem kd_X15_divisionOf_0 : ∀ z ∈ ([(0, 4, 0), (1, 4, 0), (2, 0, 1), (3, 201, 128), (6, 15, 1), (7, 201, 122), (10, 32, 7), (13, 15, 0), (14, 53, 19), (33, 200, 0)] : List (Nat × Nat × Int)), ∀ x ∈ dkAll 1 z.2.1 z.2.2, decode cX15_divisionOf (z.1 + x.1) = .ok (x.2.1, x.2.2) := by decide +kernel
theorem kd_X15_divisionOf : rDec 69 1 cX15_divisionOf := fun bs h => by
  cases (show codeT[69]? = some k_X15_divisionOf from rfl).symm.trans h
  exact (List.forall_mem_cons.mpr ⟨kd_X15_divisionOf_0, fun _ h => absurd h List.not_mem_nil⟩ : ∀ bl ∈ k_X15_divisionOf, ∀ z ∈ bl, ∀ x ∈ dkAll 1 z.2.1 z.2.2, decode cX15_divisionOf (z.1 + x.1) = .ok (x.2.1, x.2.2))
theorem kd_X15_end_0 : ∀ z ∈ ([(0, 4, 0), (1, 4, 0), (2, 70, 27), (5, 51, 7), (12, 15, 0), (13, 15, 1), (14, 201, 122), (17, 32, 5), (20, 15, 0), (21, 200, 0)] : List (Nat × Nat × Int)), ∀ x ∈ dkAll 1 z.2.1 z.2.2, decode cX15_end (z.1 + x.1) = .ok (x.2.1, x.2.2) := by decide +kernel
theorem kd_X15_end : rDec 70 1 cX15_end := fun bs h => by
  cases (show codeT[70]? = some k_X15_end from rfl).symm.trans h
  exact (List.forall_mem_cons.mpr ⟨kd_X15_end_0, fun _ h => absurd h List.not_mem_nil⟩ : ∀ bl ∈ k_X15_end, ∀ z ∈ bl, ∀ x ∈ dkAll 1 z.2.1 z.2.2, decode cX15_end (z.1 + x.1) = .ok (x.2.1, x.2.2))
theorem kd_X15_endSeason_0 : ∀ z ∈ ([(0, 15, 1), (1, 7, 1), (2, 4, 0), (3, 70, 30), (6, 201, 131), (11, 9, 2), (12, 4, 2), (13, 201, 132), (18, 32, 75)] : List (Nat × Nat × Int)), ∀ x ∈ dkAll 1 z.2.1 z.2.2, decode cX15_endSeason (z.1 + x.1) = .ok (x.2.1, x.2.2) := by decide +kernel
theorem kd_X15_endSeason_1 : ∀ z ∈ ([(93, 4, 0), (94, 0, 1), (95, 32, 14), (98, 4, 0), (99, 70, 27), (102, 52, 7), (105, 15, 1), (106, 53, 4), (110, 15, 1), (111, 201, 122), (114, 32, 5), (119, 4, 0), (120, 201, 134), (123, 4, 0), (124, 15, 0), (125, 201, 135)] : List (Nat × Nat × Int)), ∀ x ∈ dkAll 1 z.2.1 z.2.2, decode cX15_endSeason (z.1 + x.1) = .ok (x.2.1, x.2.2) := by decide +kernel
theorem kd_X15_endSeason_2 : ∀ z ∈ ([(128, 9, 2), (129, 4, 0), (130, 15, 1), (131, 201, 135), (134, 9, 3), (135, 15, -1), (136, 8, 4), (138, 4, 3), (139, 201, 131), (144, 10, 5), (146, 5, 5), (148, 201, 132), (153, 32, 72)] : List (Nat × Nat × Int)), ∀ x ∈ dkAll 1 z.2.1 z.2.2, decode cX15_endSeason (z.1 + x.1) = .ok (x.2.1, x.2.2) := by decide +kernel
theorem kd_X15_endSeason_3 : ∀ z ∈ ([(225, 1, 4), (227, 15, -1), (228, 38, 21), (249, 1, 4), (251, 15, -1), (252, 38, 48)] : List (Nat × Nat × Int)), ∀ x ∈ dkAll 1 z.2.1 z.2.2, decode cX15_endSeason (z.1 + x.1) = .ok (x.2.1, x.2.2) := by decide +kernel
theorem kd_X15_endSeason_4 : ∀ z ∈ ([(300, 4, 0), (301, 70, 30), (304, 201, 136), (309, 4, 0), (310, 70, 28), (313, 201, 131), (318, 10, 5)] : List (Nat × Nat × Int)), ∀ x ∈ dkAll 1 z.2.1 z.2.2, decode cX15_endSeason (z.1 + x.1) = .ok (x.2.1, x.2.2) := by decide +kernel
theorem kd_X15_endSeason_5 : ∀ z ∈ ([(320, 5, 5), (322, 201, 132), (327, 32, 30), (357, 4, 0), (358, 70, 31), (361, 69, 7), (364, 22, 0), (365, 16, 119), (367, 21, 0), (368, 15, -1), (369, 15, 1), (370, 201, 137), (373, 201, 127), (378, 24, 0), (379, 1, 4), (381, 200, 0)] : List (Nat × Nat × Int)), ∀ x ∈ dkAll 1 z.2.1 z.2.2, decode cX15_endSeason (z.1 + x.1) = .ok (x.2.1, x.2.2) := by decide +kernel
theorem kd_X15_endSeason : rDec 71 1 cX15_endSeason := fun bs h => by
  cases (show codeT[71]? = some k_X15_endSeason from rfl).symm.trans h
  exact (List.forall_mem_cons.mpr ⟨kd_X15_endSeason_0, List.forall_mem_cons.mpr ⟨kd_X15_endSeason_1, List.forall_mem_cons.mpr ⟨kd_X15_endSeason_2, List.forall_mem_cons.mpr ⟨kd_X15_endSeason_3, List.forall_mem_cons.mpr ⟨kd_X15_endSeason_4, List.forall_mem_cons.mpr ⟨kd_X15_endSeason_5, fun _ h => absurd h List.not_mem_nil⟩⟩⟩⟩⟩⟩ : ∀ bl ∈ k_X15_endSeason, ∀ z ∈ bl, ∀ x ∈ dkAll 1 z.2.1 z.2.2, decode cX15_endSeason (z.1 + x.1) = .ok (x.2.1, x.2.2))
theorem kd_X15_fixture_0 : ∀ z ∈ ([(0, 4, 0), (1, 0, 1), (2, 201, 138), (5, 33, 34), (39, 15, 0), (40, 200, 0)] : List (Nat × Nat × Int)), ∀ x ∈ dkAll 1 z.2.1 z.2.2, decode cX15_fixture (z.1 + x.1) = .ok (x.2.1, x.2.2) := by decide +kernel
theorem kd_X15_fixture : rDec 72 1 cX15_fixture := fun bs h => by
  cases (show codeT[72]? = some k_X15_fixture from rfl).symm.trans h
  exact (List.forall_mem_cons.mpr ⟨kd_X15_fixture_0, fun _ h => absurd h List.not_mem_nil⟩ : ∀ bl ∈ k_X15_fixture, ∀ z ∈ bl, ∀ x ∈ dkAll 1 z.2.1 z.2.2, decode cX15_fixture (z.1 + x.1) = .ok (x.2.1, x.2.2))
theorem kd_X15_goOn_0 : ∀ z ∈ ([(0, 4, 0), (1, 0, 1), (2, 30, 0), (3, 18, 1), (4, 78, 2), (7, 201, 123), (10, 15, 1), (11, 201, 122), (14, 33, 23), (17, 4, 0), (18, 4, 0), (19, 70, 27), (22, 52, 7), (25, 15, 1), (26, 53, 4), (30, 15, 2), (31, 201, 122), (34, 32, 5), (37, 15, 0), (38, 200, 0), (39, 4, 0), (40, 22, 0), (41, 70, 32), (44, 0, 1), (45, 25, 0), (46, 72, 32), (49, 4, 0), (50, 70, 32), (53, 200, 0)] : List (Nat × Nat × Int)), ∀ x ∈ dkAll 1 z.2.1 z.2.2, decode cX15_goOn (z.1 + x.1) = .ok (x.2.1, x.2.2) := by decide +kernel
theorem kd_X15_goOn : rDec 73 1 cX15_goOn := fun bs h => by
  cases (show codeT[73]? = some k_X15_goOn from rfl).symm.trans h
  exact (List.forall_mem_cons.mpr ⟨kd_X15_goOn_0, fun _ h => absurd h List.not_mem_nil⟩ : ∀ bl ∈ k_X15_goOn, ∀ z ∈ bl, ∀ x ∈ dkAll 1 z.2.1 z.2.2, decode cX15_goOn (z.1 + x.1) = .ok (x.2.1, x.2.2))
theorem kd_X15_goal_0 : ∀ z ∈ ([(0, 4, 0), (1, 0, 1), (2, 201, 130), (5, 33, 45), (50, 15, 0), (51, 200, 0)] : List (Nat × Nat × Int)), ∀ x ∈ dkAll 1 z.2.1 z.2.2, decode cX15_goal (z.1 + x.1) = .ok (x.2.1, x.2.2) := by decide +kernel
theorem kd_X15_goal : rDec 74 1 cX15_goal := fun bs h => by
  cases (show codeT[74]? = some k_X15_goal from rfl).symm.trans h
  exact (List.forall_mem_cons.mpr ⟨kd_X15_goal_0, fun _ h => absurd h List.not_mem_nil⟩ : ∀ bl ∈ k_X15_goal, ∀ z ∈ bl, ∀ x ∈ dkAll 1 z.2.1 z.2.2, decode cX15_goal (z.1 + x.1) = .ok (x.2.1, x.2.2))
theorem kd_X15_goesThrough_0 : ∀ z ∈ ([(0, 15, 0), (1, 7, 1), (2, 0, 1), (3, 16, 24), (5, 41, 23), (8, 4, 0), (9, 70, 33), (12, 0, 1), (13, 15, 0), (14, 58, 0), (15, 4, 0), (16, 70, 34), (19, 0, 1), (20, 15, 0), (21, 58, 0), (22, 29, 1501), (25, 53, -23), (28, 4, 0), (29, 70, 31), (32, 201, 131), (37, 9, 1), (38, 4, 1), (39, 201, 132), (44, 32, 143)] : List (Nat × Nat × Int)), ∀ x ∈ dkAll 0 z.2.1 z.2.2, decode cX15_goesThrough (z.1 + x.1) = .ok (x.2.1, x.2.2) := by decide +kernel
theorem kd_X15_goesThrough_1 : ∀ z ∈ ([] : List (Nat × Nat × Int)), ∀ x ∈ dkAll 0 z.2.1 z.2.2, decode cX15_goesThrough (z.1 + x.1) = .ok (x.2.1, x.2.2) := by decide +kernel
theorem kd_X15_goesThrough_2 : ∀ z ∈ ([(187, 200, 0)] : List (Nat × Nat × Int)), ∀ x ∈ dkAll 0 z.2.1 z.2.2, decode cX15_goesThrough (z.1 + x.1) = .ok (x.2.1, x.2.2) := by decide +kernel
theorem kd_X15_goesThrough : rDec 75 0 cX15_goesThrough := fun bs h => by
  cases (show codeT[75]? = some k_X15_goesThrough from rfl).symm.trans h
  exact (List.forall_mem_cons.mpr ⟨kd_X15_goesThrough_0, List.forall_mem_cons.mpr ⟨kd_X15_goesThrough_1, List.forall_mem_cons.mpr ⟨kd_X15_goesThrough_2, fun _ h => absurd h List.not_mem_nil⟩⟩⟩ : ∀ bl ∈ k_X15_goesThrough, ∀ z ∈ bl, ∀ x ∈ dkAll 0 z.2.1 z.2.2, decode cX15_goesThrough (z.1 + x.1) = .ok (x.2.1, x.2.2))
theorem kd_X15_hasFixtures_0 : ∀ z ∈ ([(0, 15, 0), (1, 7, 2), (2, 4, 0), (3, 70, 30), (6, 201, 131), (11, 9, 3), (12, 4, 3), (13, 201, 132), (18, 32, 49)] : List (Nat × Nat × Int)), ∀ x ∈ dkAll 6 z.2.1 z.2.2, decode cX15_hasFixtures (z.1 + x.1) = .ok (x.2.1, x.2.2) := by decide +kernel
theorem kd_X15_hasFixtures_1 : ∀ z ∈ ([(67, 0, 2), (68, 200, 0)] : List (Nat × Nat × Int)), ∀ x ∈ dkAll 6 z.2.1 z.2.2, decode cX15_hasFixtures (z.1 + x.1) = .ok (x.2.1, x.2.2) := by decide +kernel
theorem kd_X15_hasFixtures : rDec 76 6 cX15_hasFixtures := fun bs h => by
  cases (show codeT[76]? = some k_X15_hasFixtures from rfl).symm.trans h
  exact (List.forall_mem_cons.mpr ⟨kd_X15_hasFixtures_0, List.forall_mem_cons.mpr ⟨kd_X15_hasFixtures_1, fun _ h => absurd h List.not_mem_nil⟩⟩ : ∀ bl ∈ k_X15_hasFixtures, ∀ z ∈ bl, ∀ x ∈ dkAll 6 z.2.1 z.2.2, decode cX15_hasFixtures (z.1 + x.1) = .ok (x.2.1, x.2.2))
theorem kd_X15_init_0 : ∀ z ∈ ([(0, 4, 0), (1, 75, 5), (4, 4, 0), (5, 69, 6), (8, 22, 0), (9, 201, 133), (12, 73, 28), (15, 4, 0), (16, 69, 6), (19, 22, 0), (20, 201, 133), (23, 73, 35), (26, 4, 0), (27, 69, 6), (30, 22, 0), (31, 201, 133), (34, 73, 30), (37, 4, 0), (38, 69, 6), (41, 22, 0), (42, 201, 133), (45, 73, 29), (48, 4, 0), (49, 69, 6), (52, 22, 0), (53, 201, 133), (56, 73, 31), (59, 4, 0), (60, 16, 64), (62, 65, 0)] : List (Nat × Nat × Int)), ∀ x ∈ dkAll 0 z.2.1 z.2.2, decode cX15_init (z.1 + x.1) = .ok (x.2.1, x.2.2) := by decide +kernel
theorem kd_X15_init_1 : ∀ z ∈ ([(64, 73, 36), (67, 4, 0), (68, 16, 24), (70, 64, 0), (72, 73, 33), (75, 4, 0), (76, 16, 24), (78, 64, 0), (80, 73, 34), (83, 4, 0), (84, 15, 1), (85, 72, 37), (88, 4, 0), (89, 15, 0), (90, 72, 38), (93, 4, 0), (94, 21, 0), (95, 72, 27), (98, 200, 0)] : List (Nat × Nat × Int)), ∀ x ∈ dkAll 0 z.2.1 z.2.2, decode cX15_init (z.1 + x.1) = .ok (x.2.1, x.2.2) := by decide +kernel
theorem kd_X15_init : rDec 77 0 cX15_init := fun bs h => by
  cases (show codeT[77]? = some k_X15_init from rfl).symm.trans h
  exact (List.forall_mem_cons.mpr ⟨kd_X15_init_0, List.forall_mem_cons.mpr ⟨kd_X15_init_1, fun _ h => absurd h List.not_mem_nil⟩⟩ : ∀ bl ∈ k_X15_init, ∀ z ∈ bl, ∀ x ∈ dkAll 0 z.2.1 z.2.2, decode cX15_init (z.1 + x.1) = .ok (x.2.1, x.2.2))
theorem kd_X15_isClub_0 : ∀ z ∈ ([(0, 0, 1), (1, 30, 0), (2, 18, 0), (3, 4, 0), (4, 70, 28), (7, 201, 125), (12, 15, 1), (13, 26, 0), (14, 30, 0), (15, 201, 123), (18, 200, 0)] : List (Nat × Nat × Int)), ∀ x ∈ dkAll 6 z.2.1 z.2.2, decode cX15_isClub (z.1 + x.1) = .ok (x.2.1, x.2.2) := by decide +kernel
theorem kd_X15_isClub : rDec 78 6 cX15_isClub := fun bs h => by
  cases (show codeT[78]? = some k_X15_isClub from rfl).symm.trans h
  exact (List.forall_mem_cons.mpr ⟨kd_X15_isClub_0, fun _ h => absurd h List.not_mem_nil⟩ : ∀ bl ∈ k_X15_isClub, ∀ z ∈ bl, ∀ x ∈ dkAll 6 z.2.1 z.2.2, decode cX15_isClub (z.1 + x.1) = .ok (x.2.1, x.2.2))
theorem kd_X15_isGuilty_0 : ∀ z ∈ ([(0, 4, 0), (1, 0, 1), (2, 201, 138), (5, 33, 37), (42, 15, 0), (43, 200, 0)] : List (Nat × Nat × Int)), ∀ x ∈ dkAll 6 z.2.1 z.2.2, decode cX15_isGuilty (z.1 + x.1) = .ok (x.2.1, x.2.2) := by decide +kernel
theorem kd_X15_isGuilty : rDec 79 6 cX15_isGuilty := fun bs h => by
  cases (show codeT[79]? = some k_X15_isGuilty from rfl).symm.trans h
  exact (List.forall_mem_cons.mpr ⟨kd_X15_isGuilty_0, fun _ h => absurd h List.not_mem_nil⟩ : ∀ bl ∈ k_X15_isGuilty, ∀ z ∈ bl, ∀ x ∈ dkAll 6 z.2.1 z.2.2, decode cX15_isGuilty (z.1 + x.1) = .ok (x.2.1, x.2.2))
theorem kd_X15_isIn_0 : ∀ z ∈ ([(0, 2, 0), (1, 2, 2), (2, 46, 14), (6, 2, 0), (7, 3, 4), (9, 48, 7), (13, 15, 1), (14, 53, 4), (17, 15, 0), (18, 200, 0)] : List (Nat × Nat × Int)), ∀ x ∈ dkAll 6 z.2.1 z.2.2, decode cX15_isIn (z.1 + x.1) = .ok (x.2.1, x.2.2) := by decide +kernel
theorem kd_X15_isIn : rDec 80 6 cX15_isIn := fun bs h => by
  cases (show codeT[80]? = some k_X15_isIn from rfl).symm.trans h
  exact (List.forall_mem_cons.mpr ⟨kd_X15_isIn_0, fun _ h => absurd h List.not_mem_nil⟩ : ∀ bl ∈ k_X15_isIn, ∀ z ∈ bl, ∀ x ∈ dkAll 6 z.2.1 z.2.2, decode cX15_isIn (z.1 + x.1) = .ok (x.2.1, x.2.2))
theorem kd_X15_isOpen_0 : ∀ z ∈ ([(0, 4, 0), (1, 70, 32), (4, 30, 0), (5, 4, 0), (6, 70, 37), (9, 30, 0), (10, 4, 0), (11, 70, 38), (14, 30, 0), (15, 201, 123), (18, 200, 0)] : List (Nat × Nat × Int)), ∀ x ∈ dkAll 6 z.2.1 z.2.2, decode cX15_isOpen (z.1 + x.1) = .ok (x.2.1, x.2.2) := by decide +kernel
theorem kd_X15_isOpen : rDec 81 6 cX15_isOpen := fun bs h => by
  cases (show codeT[81]? = some k_X15_isOpen from rfl).symm.trans h
  exact (List.forall_mem_cons.mpr ⟨kd_X15_isOpen_0, fun _ h => absurd h List.not_mem_nil⟩ : ∀ bl ∈ k_X15_isOpen, ∀ z ∈ bl, ∀ x ∈ dkAll 6 z.2.1 z.2.2, decode cX15_isOpen (z.1 + x.1) = .ok (x.2.1, x.2.2))
theorem kd_X15_isPlayer_0 : ∀ z ∈ ([(0, 0, 1), (1, 30, 0), (2, 18, 0), (3, 4, 0), (4, 70, 35), (7, 201, 125), (12, 15, 1), (13, 26, 0), (14, 30, 0), (15, 201, 123), (18, 200, 0)] : List (Nat × Nat × Int)), ∀ x ∈ dkAll 6 z.2.1 z.2.2, decode cX15_isPlayer (z.1 + x.1) = .ok (x.2.1, x.2.2) := by decide +kernel
theorem kd_X15_isPlayer : rDec 82 6 cX15_isPlayer := fun bs h => by
  cases (show codeT[82]? = some k_X15_isPlayer from rfl).symm.trans h
  exact (List.forall_mem_cons.mpr ⟨kd_X15_isPlayer_0, fun _ h => absurd h List.not_mem_nil⟩ : ∀ bl ∈ k_X15_isPlayer, ∀ z ∈ bl, ∀ x ∈ dkAll 6 z.2.1 z.2.2, decode cX15_isPlayer (z.1 + x.1) = .ok (x.2.1, x.2.2))
theorem kd_X15_isSound_0 : ∀ z ∈ ([(0, 15, 1), (1, 200, 0)] : List (Nat × Nat × Int)), ∀ x ∈ dkAll 6 z.2.1 z.2.2, decode cX15_isSound (z.1 + x.1) = .ok (x.2.1, x.2.2) := by decide +kernel
theorem kd_X15_isSound : rDec 83 6 cX15_isSound := fun bs h => by
  cases (show codeT[83]? = some k_X15_isSound from rfl).symm.trans h
  exact (List.forall_mem_cons.mpr ⟨kd_X15_isSound_0, fun _ h => absurd h List.not_mem_nil⟩ : ∀ bl ∈ k_X15_isSound, ∀ z ∈ bl, ∀ x ∈ dkAll 6 z.2.1 z.2.2, decode cX15_isSound (z.1 + x.1) = .ok (x.2.1, x.2.2))
theorem kd_X15_kickOff_0 : ∀ z ∈ ([(0, 4, 0), (1, 0, 1), (2, 201, 138), (5, 32, 5), (8, 15, 0), (9, 200, 0)] : List (Nat × Nat × Int)), ∀ x ∈ dkAll 1 z.2.1 z.2.2, decode cX15_kickOff (z.1 + x.1) = .ok (x.2.1, x.2.2) := by decide +kernel
theorem kd_X15_kickOff : rDec 84 1 cX15_kickOff := fun bs h => by
  cases (show codeT[84]? = some k_X15_kickOff from rfl).symm.trans h
  exact (List.forall_mem_cons.mpr ⟨kd_X15_kickOff_0, fun _ h => absurd h List.not_mem_nil⟩ : ∀ bl ∈ k_X15_kickOff, ∀ z ∈ bl, ∀ x ∈ dkAll 1 z.2.1 z.2.2, decode cX15_kickOff (z.1 + x.1) = .ok (x.2.1, x.2.2))
theorem kd_X15_lend_0 : ∀ z ∈ ([(0, 4, 0), (1, 4, 0), (2, 0, 1), (3, 201, 129), (6, 32, 15), (21, 15, 0), (22, 15, 1), (23, 201, 122), (26, 32, 5), (29, 15, 0), (30, 200, 0)] : List (Nat × Nat × Int)), ∀ x ∈ dkAll 1 z.2.1 z.2.2, decode cX15_lend (z.1 + x.1) = .ok (x.2.1, x.2.2) := by decide +kernel
theorem kd_X15_lend : rDec 85 1 cX15_lend := fun bs h => by
  cases (show codeT[85]? = some k_X15_lend from rfl).symm.trans h
  exact (List.forall_mem_cons.mpr ⟨kd_X15_lend_0, fun _ h => absurd h List.not_mem_nil⟩ : ∀ bl ∈ k_X15_lend, ∀ z ∈ bl, ∀ x ∈ dkAll 1 z.2.1 z.2.2, decode cX15_lend (z.1 + x.1) = .ok (x.2.1, x.2.2))
theorem kd_X15_meanGoals_0 : ∀ z ∈ ([(0, 4, 0), (1, 4, 0), (2, 201, 139), (5, 37, 7), (12, 15, 0), (13, 15, 1), (14, 201, 122), (17, 32, 5), (20, 20, 0), (21, 200, 0)] : List (Nat × Nat × Int)), ∀ x ∈ dkAll 5 z.2.1 z.2.2, decode cX15_meanGoals (z.1 + x.1) = .ok (x.2.1, x.2.2) := by decide +kernel
theorem kd_X15_meanGoals : rDec 86 5 cX15_meanGoals := fun bs h => by
  cases (show codeT[86]? = some k_X15_meanGoals from rfl).symm.trans h
  exact (List.forall_mem_cons.mpr ⟨kd_X15_meanGoals_0, fun _ h => absurd h List.not_mem_nil⟩ : ∀ bl ∈ k_X15_meanGoals, ∀ z ∈ bl, ∀ x ∈ dkAll 5 z.2.1 z.2.2, decode cX15_meanGoals (z.1 + x.1) = .ok (x.2.1, x.2.2))
theorem kd_X15_money_0 : ∀ z ∈ ([(0, 18, 0), (1, 12, 1), (2, 4, 0), (3, 70, 28), (6, 201, 131), (11, 9, 3), (12, 4, 3), (13, 201, 132), (18, 32, 26), (44, 2, 1), (45, 200, 0)] : List (Nat × Nat × Int)), ∀ x ∈ dkAll 2 z.2.1 z.2.2, decode cX15_money (z.1 + x.1) = .ok (x.2.1, x.2.2) := by decide +kernel
theorem kd_X15_money : rDec 87 2 cX15_money := fun bs h => by
  cases (show codeT[87]? = some k_X15_money from rfl).symm.trans h
  exact (List.forall_mem_cons.mpr ⟨kd_X15_money_0, fun _ h => absurd h List.not_mem_nil⟩ : ∀ bl ∈ k_X15_money, ∀ z ∈ bl, ∀ x ∈ dkAll 2 z.2.1 z.2.2, decode cX15_money (z.1 + x.1) = .ok (x.2.1, x.2.2))
theorem kd_X15_name_0 : ∀ z ∈ ([(0, 4, 0), (1, 0, 1), (2, 30, 0), (3, 18, 0), (4, 4, 0), (5, 70, 30), (8, 201, 125), (13, 15, 1), (14, 26, 0), (15, 30, 0), (16, 201, 123), (19, 32, 15), (34, 15, 0), (35, 15, 1), (36, 201, 122), (39, 32, 5), (42, 15, 0), (43, 200, 0)] : List (Nat × Nat × Int)), ∀ x ∈ dkAll 1 z.2.1 z.2.2, decode cX15_name (z.1 + x.1) = .ok (x.2.1, x.2.2) := by decide +kernel
theorem kd_X15_name : rDec 88 1 cX15_name := fun bs h => by
  cases (show codeT[88]? = some k_X15_name from rfl).symm.trans h
  exact (List.forall_mem_cons.mpr ⟨kd_X15_name_0, fun _ h => absurd h List.not_mem_nil⟩ : ∀ bl ∈ k_X15_name, ∀ z ∈ bl, ∀ x ∈ dkAll 1 z.2.1 z.2.2, decode cX15_name (z.1 + x.1) = .ok (x.2.1, x.2.2))
theorem kd_X15_no_0 : ∀ z ∈ ([(0, 4, 0), (1, 0, 1), (2, 32, 7), (5, 15, 0), (6, 53, 4), (9, 0, 2), (10, 72, 39), (13, 0, 1), (14, 33, 7), (17, 15, 1), (18, 53, 4), (21, 15, 0), (22, 200, 0)] : List (Nat × Nat × Int)), ∀ x ∈ dkAll 6 z.2.1 z.2.2, decode cX15_no (z.1 + x.1) = .ok (x.2.1, x.2.2) := by decide +kernel
theorem kd_X15_no : rDec 89 6 cX15_no := fun bs h => by
  cases (show codeT[89]? = some k_X15_no from rfl).symm.trans h
  exact (List.forall_mem_cons.mpr ⟨kd_X15_no_0, fun _ h => absurd h List.not_mem_nil⟩ : ∀ bl ∈ k_X15_no, ∀ z ∈ bl, ∀ x ∈ dkAll 6 z.2.1 z.2.2, decode cX15_no (z.1 + x.1) = .ok (x.2.1, x.2.2))
theorem kd_X15_noMatch_0 : ∀ z ∈ ([(0, 4, 0), (1, 0, 1), (2, 30, 0), (3, 18, 0), (4, 4, 0), (5, 70, 30), (8, 201, 125), (13, 15, 1), (14, 26, 0), (15, 30, 0), (16, 201, 123), (19, 15, 1), (20, 201, 122), (23, 200, 0)] : List (Nat × Nat × Int)), ∀ x ∈ dkAll 6 z.2.1 z.2.2, decode cX15_noMatch (z.1 + x.1) = .ok (x.2.1, x.2.2) := by decide +kernel
theorem kd_X15_noMatch : rDec 90 6 cX15_noMatch := fun bs h => by
  cases (show codeT[90]? = some k_X15_noMatch from rfl).symm.trans h
  exact (List.forall_mem_cons.mpr ⟨kd_X15_noMatch_0, fun _ h => absurd h List.not_mem_nil⟩ : ∀ bl ∈ k_X15_noMatch, ∀ z ∈ bl, ∀ x ∈ dkAll 6 z.2.1 z.2.2, decode cX15_noMatch (z.1 + x.1) = .ok (x.2.1, x.2.2))
theorem kd_X15_noOn_0 : ∀ z ∈ ([(0, 4, 0), (1, 4, 0), (2, 0, 1), (3, 201, 129), (6, 15, 1), (7, 201, 122), (10, 33, 23), (33, 15, 1), (34, 53, 4), (38, 200, 0)] : List (Nat × Nat × Int)), ∀ x ∈ dkAll 6 z.2.1 z.2.2, decode cX15_noOn (z.1 + x.1) = .ok (x.2.1, x.2.2) := by decide +kernel
theorem kd_X15_noOn : rDec 91 6 cX15_noOn := fun bs h => by
  cases (show codeT[91]? = some k_X15_noOn from rfl).symm.trans h
  exact (List.forall_mem_cons.mpr ⟨kd_X15_noOn_0, fun _ h => absurd h List.not_mem_nil⟩ : ∀ bl ∈ k_X15_noOn, ∀ z ∈ bl, ∀ x ∈ dkAll 6 z.2.1 z.2.2, decode cX15_noOn (z.1 + x.1) = .ok (x.2.1, x.2.2))
theorem kd_X15_over_0 : ∀ z ∈ ([(0, 15, 0), (1, 7, 1), (2, 4, 0), (3, 70, 30), (6, 201, 131), (11, 9, 2), (12, 4, 2), (13, 201, 132), (18, 32, 31), (49, 0, 1), (50, 200, 0)] : List (Nat × Nat × Int)), ∀ x ∈ dkAll 1 z.2.1 z.2.2, decode cX15_over (z.1 + x.1) = .ok (x.2.1, x.2.2) := by decide +kernel
theorem kd_X15_over : rDec 92 1 cX15_over := fun bs h => by
  cases (show codeT[92]? = some k_X15_over from rfl).symm.trans h
  exact (List.forall_mem_cons.mpr ⟨kd_X15_over_0, fun _ h => absurd h List.not_mem_nil⟩ : ∀ bl ∈ k_X15_over, ∀ z ∈ bl, ∀ x ∈ dkAll 1 z.2.1 z.2.2, decode cX15_over (z.1 + x.1) = .ok (x.2.1, x.2.2))
theorem kd_X15_overShare_0 : ∀ z ∈ ([(0, 4, 0), (1, 4, 0), (2, 70, 30), (5, 201, 140), (10, 33, 7), (17, 15, 0), (18, 15, 1), (19, 201, 122), (22, 32, 7), (25, 19, 0), (26, 53, 19), (45, 200, 0)] : List (Nat × Nat × Int)), ∀ x ∈ dkAll 4 z.2.1 z.2.2, decode cX15_overShare (z.1 + x.1) = .ok (x.2.1, x.2.2) := by decide +kernel
theorem kd_X15_overShare : rDec 93 4 cX15_overShare := fun bs h => by
  cases (show codeT[93]? = some k_X15_overShare from rfl).symm.trans h
  exact (List.forall_mem_cons.mpr ⟨kd_X15_overShare_0, fun _ h => absurd h List.not_mem_nil⟩ : ∀ bl ∈ k_X15_overShare, ∀ z ∈ bl, ∀ x ∈ dkAll 4 z.2.1 z.2.2, decode cX15_overShare (z.1 + x.1) = .ok (x.2.1, x.2.2))
theorem kd_X15_plan_0 : ∀ z ∈ ([(0, 4, 0), (1, 0, 1), (2, 30, 0), (3, 18, 0), (4, 18, 1), (5, 201, 123), (8, 15, 1), (9, 201, 122), (12, 33, 33), (15, 4, 0), (16, 4, 0), (17, 0, 1), (18, 201, 141), (21, 33, 16), (24, 4, 0), (25, 0, 1), (26, 201, 124), (29, 15, 2), (30, 40, 7), (37, 15, 0), (38, 15, 2), (39, 201, 122), (42, 32, 5), (45, 15, 0), (46, 200, 0)] : List (Nat × Nat × Int)), ∀ x ∈ dkAll 1 z.2.1 z.2.2, decode cX15_plan (z.1 + x.1) = .ok (x.2.1, x.2.2) := by decide +kernel
theorem kd_X15_plan : rDec 94 1 cX15_plan := fun bs h => by
  cases (show codeT[94]? = some k_X15_plan from rfl).symm.trans h
  exact (List.forall_mem_cons.mpr ⟨kd_X15_plan_0, fun _ h => absurd h List.not_mem_nil⟩ : ∀ bl ∈ k_X15_plan, ∀ z ∈ bl, ∀ x ∈ dkAll 1 z.2.1 z.2.2, decode cX15_plan (z.1 + x.1) = .ok (x.2.1, x.2.2))
theorem kd_X15_points_0 : ∀ z ∈ ([(0, 4, 0), (1, 4, 0), (2, 0, 1), (3, 201, 128), (6, 15, 1), (7, 201, 122), (10, 32, 5), (13, 15, 0), (14, 200, 0)] : List (Nat × Nat × Int)), ∀ x ∈ dkAll 1 z.2.1 z.2.2, decode cX15_points (z.1 + x.1) = .ok (x.2.1, x.2.2) := by decide +kernel
theorem kd_X15_points : rDec 95 1 cX15_points := fun bs h => by
  cases (show codeT[95]? = some k_X15_points from rfl).symm.trans h
  exact (List.forall_mem_cons.mpr ⟨kd_X15_points_0, fun _ h => absurd h List.not_mem_nil⟩ : ∀ bl ∈ k_X15_points, ∀ z ∈ bl, ∀ x ∈ dkAll 1 z.2.1 z.2.2, decode cX15_points (z.1 + x.1) = .ok (x.2.1, x.2.2))
theorem kd_X15_putOff_0 : ∀ z ∈ ([(0, 4, 0), (1, 0, 1), (2, 201, 138), (5, 32, 5), (8, 15, 0), (9, 200, 0)] : List (Nat × Nat × Int)), ∀ x ∈ dkAll 1 z.2.1 z.2.2, decode cX15_putOff (z.1 + x.1) = .ok (x.2.1, x.2.2) := by decide +kernel
theorem kd_X15_putOff : rDec 96 1 cX15_putOff := fun bs h => by
  cases (show codeT[96]? = some k_X15_putOff from rfl).symm.trans h
  exact (List.forall_mem_cons.mpr ⟨kd_X15_putOff_0, fun _ h => absurd h List.not_mem_nil⟩ : ∀ bl ∈ k_X15_putOff, ∀ z ∈ bl, ∀ x ∈ dkAll 1 z.2.1 z.2.2, decode cX15_putOff (z.1 + x.1) = .ok (x.2.1, x.2.2))
theorem kd_X15_registered_0 : ∀ z ∈ ([(0, 4, 0), (1, 4, 0), (2, 0, 1), (3, 201, 129), (6, 15, 1), (7, 201, 122), (10, 32, 7), (13, 15, 0), (14, 53, 19), (33, 200, 0)] : List (Nat × Nat × Int)), ∀ x ∈ dkAll 1 z.2.1 z.2.2, decode cX15_registered (z.1 + x.1) = .ok (x.2.1, x.2.2) := by decide +kernel
theorem kd_X15_registered : rDec 97 1 cX15_registered := fun bs h => by
  cases (show codeT[97]? = some k_X15_registered from rfl).symm.trans h
  exact (List.forall_mem_cons.mpr ⟨kd_X15_registered_0, fun _ h => absurd h List.not_mem_nil⟩ : ∀ bl ∈ k_X15_registered, ∀ z ∈ bl, ∀ x ∈ dkAll 1 z.2.1 z.2.2, decode cX15_registered (z.1 + x.1) = .ok (x.2.1, x.2.2))
theorem kd_X15_resultOf_0 : ∀ z ∈ ([(0, 4, 0), (1, 0, 1), (2, 201, 138), (5, 33, 27), (32, 15, 0), (33, 200, 0)] : List (Nat × Nat × Int)), ∀ x ∈ dkAll 1 z.2.1 z.2.2, decode cX15_resultOf (z.1 + x.1) = .ok (x.2.1, x.2.2) := by decide +kernel
theorem kd_X15_resultOf : rDec 98 1 cX15_resultOf := fun bs h => by
  cases (show codeT[98]? = some k_X15_resultOf from rfl).symm.trans h
  exact (List.forall_mem_cons.mpr ⟨kd_X15_resultOf_0, fun _ h => absurd h List.not_mem_nil⟩ : ∀ bl ∈ k_X15_resultOf, ∀ z ∈ bl, ∀ x ∈ dkAll 1 z.2.1 z.2.2, decode cX15_resultOf (z.1 + x.1) = .ok (x.2.1, x.2.2))
theorem kd_X15_sell_0 : ∀ z ∈ ([(0, 4, 0), (1, 4, 0), (2, 0, 1), (3, 201, 129), (6, 32, 15), (21, 15, 0), (22, 15, 1), (23, 201, 122), (26, 32, 5), (29, 15, 0), (30, 200, 0)] : List (Nat × Nat × Int)), ∀ x ∈ dkAll 1 z.2.1 z.2.2, decode cX15_sell (z.1 + x.1) = .ok (x.2.1, x.2.2) := by decide +kernel
theorem kd_X15_sell : rDec 99 1 cX15_sell := fun bs h => by
  cases (show codeT[99]? = some k_X15_sell from rfl).symm.trans h
  exact (List.forall_mem_cons.mpr ⟨kd_X15_sell_0, fun _ h => absurd h List.not_mem_nil⟩ : ∀ bl ∈ k_X15_sell, ∀ z ∈ bl, ∀ x ∈ dkAll 1 z.2.1 z.2.2, decode cX15_sell (z.1 + x.1) = .ok (x.2.1, x.2.2))
theorem kd_X15_setDerby_0 : ∀ z ∈ ([(0, 4, 0), (1, 4, 0), (2, 0, 1), (3, 201, 128), (6, 32, 15), (21, 15, 0), (22, 15, 1), (23, 201, 122), (26, 33, 21), (47, 15, 0), (48, 200, 0)] : List (Nat × Nat × Int)), ∀ x ∈ dkAll 6 z.2.1 z.2.2, decode cX15_setDerby (z.1 + x.1) = .ok (x.2.1, x.2.2) := by decide +kernel
theorem kd_X15_setDerby : rDec 100 6 cX15_setDerby := fun bs h => by
  cases (show codeT[100]? = some k_X15_setDerby from rfl).symm.trans h
  exact (List.forall_mem_cons.mpr ⟨kd_X15_setDerby_0, fun _ h => absurd h List.not_mem_nil⟩ : ∀ bl ∈ k_X15_setDerby, ∀ z ∈ bl, ∀ x ∈ dkAll 6 z.2.1 z.2.2, decode cX15_setDerby (z.1 + x.1) = .ok (x.2.1, x.2.2))
theorem kd_X15_setWindow_0 : ∀ z ∈ ([(0, 4, 0), (1, 0, 1), (2, 30, 0), (3, 18, 0), (4, 78, 3), (7, 201, 123), (10, 32, 19), (13, 0, 2), (14, 30, 0), (15, 18, 0), (16, 78, 3), (19, 201, 123), (22, 32, 7), (25, 15, 1), (26, 53, 4), (29, 15, 0), (30, 15, 1), (31, 201, 122), (34, 32, 5), (37, 15, 0), (38, 200, 0), (39, 4, 0), (40, 0, 1), (41, 72, 37), (44, 4, 0), (45, 0, 2), (46, 72, 38), (49, 4, 0), (50, 201, 142), (53, 200, 0)] : List (Nat × Nat × Int)), ∀ x ∈ dkAll 6 z.2.1 z.2.2, decode cX15_setWindow (z.1 + x.1) = .ok (x.2.1, x.2.2) := by decide +kernel
theorem kd_X15_setWindow : rDec 101 6 cX15_setWindow := fun bs h => by
  cases (show codeT[101]? = some k_X15_setWindow from rfl).symm.trans h
  exact (List.forall_mem_cons.mpr ⟨kd_X15_setWindow_0, fun _ h => absurd h List.not_mem_nil⟩ : ∀ bl ∈ k_X15_setWindow, ∀ z ∈ bl, ∀ x ∈ dkAll 6 z.2.1 z.2.2, decode cX15_setWindow (z.1 + x.1) = .ok (x.2.1, x.2.2))
theorem kd_X15_stateOf_0 : ∀ z ∈ ([(0, 4, 0), (1, 0, 1), (2, 201, 138), (5, 32, 8), (8, 16, 112), (10, 53, 19), (29, 200, 0)] : List (Nat × Nat × Int)), ∀ x ∈ dkAll 7 z.2.1 z.2.2, decode cX15_stateOf (z.1 + x.1) = .ok (x.2.1, x.2.2) := by decide +kernel
theorem kd_X15_stateOf : rDec 102 7 cX15_stateOf := fun bs h => by
  cases (show codeT[102]? = some k_X15_stateOf from rfl).symm.trans h
  exact (List.forall_mem_cons.mpr ⟨kd_X15_stateOf_0, fun _ h => absurd h List.not_mem_nil⟩ : ∀ bl ∈ k_X15_stateOf, ∀ z ∈ bl, ∀ x ∈ dkAll 7 z.2.1 z.2.2, decode cX15_stateOf (z.1 + x.1) = .ok (x.2.1, x.2.2))
theorem kd_X15_strike_0 : ∀ z ∈ ([(0, 4, 0), (1, 4, 0), (2, 0, 1), (3, 201, 128), (6, 15, 1), (7, 201, 122), (10, 33, 23), (33, 15, 0), (34, 200, 0)] : List (Nat × Nat × Int)), ∀ x ∈ dkAll 6 z.2.1 z.2.2, decode cX15_strike (z.1 + x.1) = .ok (x.2.1, x.2.2) := by decide +kernel
theorem kd_X15_strike : rDec 103 6 cX15_strike := fun bs h => by
  cases (show codeT[103]? = some k_X15_strike from rfl).symm.trans h
  exact (List.forall_mem_cons.mpr ⟨kd_X15_strike_0, fun _ h => absurd h List.not_mem_nil⟩ : ∀ bl ∈ k_X15_strike, ∀ z ∈ bl, ∀ x ∈ dkAll 6 z.2.1 z.2.2, decode cX15_strike (z.1 + x.1) = .ok (x.2.1, x.2.2))
theorem kd_X15_table_0 : ∀ z ∈ ([(0, 4, 0), (1, 0, 1), (2, 201, 143), (5, 9, 2), (6, 69, 6), (9, 22, 0), (10, 201, 133), (13, 9, 3), (14, 4, 2), (15, 201, 140), (20, 33, 170)] : List (Nat × Nat × Int)), ∀ x ∈ dkAll 3 z.2.1 z.2.2, decode cX15_table (z.1 + x.1) = .ok (x.2.1, x.2.2) := by decide +kernel
theorem kd_X15_table_1 : ∀ z ∈ ([] : List (Nat × Nat × Int)), ∀ x ∈ dkAll 3 z.2.1 z.2.2, decode cX15_table (z.1 + x.1) = .ok (x.2.1, x.2.2) := by decide +kernel
theorem kd_X15_table_2 : ∀ z ∈ ([(190, 15, 0), (191, 8, 4)] : List (Nat × Nat × Int)), ∀ x ∈ dkAll 3 z.2.1 z.2.2, decode cX15_table (z.1 + x.1) = .ok (x.2.1, x.2.2) := by decide +kernel
theorem kd_X15_table_3 : ∀ z ∈ ([(193, 1, 4), (195, 4, 0), (196, 70, 28), (199, 201, 125), (204, 41, 62)] : List (Nat × Nat × Int)), ∀ x ∈ dkAll 3 z.2.1 z.2.2, decode cX15_table (z.1 + x.1) = .ok (x.2.1, x.2.2) := by decide +kernel
theorem kd_X15_table_4 : ∀ z ∈ ([(266, 4, 3), (267, 200, 0)] : List (Nat × Nat × Int)), ∀ x ∈ dkAll 3 z.2.1 z.2.2, decode cX15_table (z.1 + x.1) = .ok (x.2.1, x.2.2) := by decide +kernel
theorem kd_X15_table : rDec 104 3 cX15_table := fun bs h => by
  cases (show codeT[104]? = some k_X15_table from rfl).symm.trans h
  exact (List.forall_mem_cons.mpr ⟨kd_X15_table_0, List.forall_mem_cons.mpr ⟨kd_X15_table_1, List.forall_mem_cons.mpr ⟨kd_X15_table_2, List.forall_mem_cons.mpr ⟨kd_X15_table_3, List.forall_mem_cons.mpr ⟨kd_X15_table_4, fun _ h => absurd h List.not_mem_nil⟩⟩⟩⟩⟩ : ∀ bl ∈ k_X15_table, ∀ z ∈ bl, ∀ x ∈ dkAll 3 z.2.1 z.2.2, decode cX15_table (z.1 + x.1) = .ok (x.2.1, x.2.2))
theorem kd_X15_takePoints_0 : ∀ z ∈ ([(0, 4, 0), (1, 4, 0), (2, 0, 1), (3, 201, 128), (6, 15, 1), (7, 201, 122), (10, 33, 20), (30, 15, 0), (31, 200, 0)] : List (Nat × Nat × Int)), ∀ x ∈ dkAll 1 z.2.1 z.2.2, decode cX15_takePoints (z.1 + x.1) = .ok (x.2.1, x.2.2) := by decide +kernel
theorem kd_X15_takePoints : rDec 105 1 cX15_takePoints := fun bs h => by
  cases (show codeT[105]? = some k_X15_takePoints from rfl).symm.trans h
  exact (List.forall_mem_cons.mpr ⟨kd_X15_takePoints_0, fun _ h => absurd h List.not_mem_nil⟩ : ∀ bl ∈ k_X15_takePoints, ∀ z ∈ bl, ∀ x ∈ dkAll 1 z.2.1 z.2.2, decode cX15_takePoints (z.1 + x.1) = .ok (x.2.1, x.2.2))
theorem kd_X15_thrown_0 : ∀ z ∈ ([(0, 4, 0), (1, 70, 39), (4, 200, 0)] : List (Nat × Nat × Int)), ∀ x ∈ dkAll 1 z.2.1 z.2.2, decode cX15_thrown (z.1 + x.1) = .ok (x.2.1, x.2.2) := by decide +kernel
theorem kd_X15_thrown : rDec 106 1 cX15_thrown := fun bs h => by
  cases (show codeT[106]? = some k_X15_thrown from rfl).symm.trans h
  exact (List.forall_mem_cons.mpr ⟨kd_X15_thrown_0, fun _ h => absurd h List.not_mem_nil⟩ : ∀ bl ∈ k_X15_thrown, ∀ z ∈ bl, ∀ x ∈ dkAll 1 z.2.1 z.2.2, decode cX15_thrown (z.1 + x.1) = .ok (x.2.1, x.2.2))
theorem kd_X15_wipe_0 : ∀ z ∈ ([(0, 4, 0), (1, 4, 0), (2, 70, 27), (5, 52, 7), (8, 15, 1), (9, 53, 4), (13, 15, 1), (14, 201, 122), (17, 32, 5), (22, 4, 0), (23, 201, 134), (26, 15, 0), (27, 7, 1), (28, 4, 0), (29, 70, 34), (32, 9, 2), (33, 4, 2), (34, 61, 0), (35, 7, 3), (36, 15, 0), (37, 8, 4), (39, 1, 4), (41, 0, 3), (42, 41, 28), (45, 4, 2), (46, 1, 4), (48, 55, 0), (49, 8, 5), (51, 0, 1), (52, 1, 5), (54, 37, 7), (61, 15, 0), (62, 25, 0), (63, 7, 1)] : List (Nat × Nat × Int)), ∀ x ∈ dkAll 1 z.2.1 z.2.2, decode cX15_wipe (z.1 + x.1) = .ok (x.2.1, x.2.2) := by decide +kernel
theorem kd_X15_wipe_1 : ∀ z ∈ ([(64, 29, 4501), (67, 53, -28), (70, 4, 0), (71, 70, 31), (74, 69, 7), (77, 22, 0), (78, 16, 119), (80, 21, 0), (81, 15, -1), (82, 15, 1), (83, 201, 137), (86, 201, 127), (91, 24, 0), (92, 0, 1), (93, 200, 0)] : List (Nat × Nat × Int)), ∀ x ∈ dkAll 1 z.2.1 z.2.2, decode cX15_wipe (z.1 + x.1) = .ok (x.2.1, x.2.2) := by decide +kernel
theorem kd_X15_wipe : rDec 107 1 cX15_wipe := fun bs h => by
  cases (show codeT[107]? = some k_X15_wipe from rfl).symm.trans h
  exact (List.forall_mem_cons.mpr ⟨kd_X15_wipe_0, List.forall_mem_cons.mpr ⟨kd_X15_wipe_1, fun _ h => absurd h List.not_mem_nil⟩⟩ : ∀ bl ∈ k_X15_wipe, ∀ z ∈ bl, ∀ x ∈ dkAll 1 z.2.1 z.2.2, decode cX15_wipe (z.1 + x.1) = .ok (x.2.1, x.2.2))
theorem kd_X15_yellows_0 : ∀ z ∈ ([(0, 4, 0), (1, 4, 0), (2, 0, 1), (3, 201, 129), (6, 15, 1), (7, 201, 122), (10, 32, 5), (13, 15, 0), (14, 200, 0)] : List (Nat × Nat × Int)), ∀ x ∈ dkAll 1 z.2.1 z.2.2, decode cX15_yellows (z.1 + x.1) = .ok (x.2.1, x.2.2) := by decide +kernel
theorem kd_X15_yellows : rDec 108 1 cX15_yellows := fun bs h => by
  cases (show codeT[108]? = some k_X15_yellows from rfl).symm.trans h
  exact (List.forall_mem_cons.mpr ⟨kd_X15_yellows_0, fun _ h => absurd h List.not_mem_nil⟩ : ∀ bl ∈ k_X15_yellows, ∀ z ∈ bl, ∀ x ∈ dkAll 1 z.2.1 z.2.2, decode cX15_yellows (z.1 + x.1) = .ok (x.2.1, x.2.2))
theorem kd_X2_init_0 : ∀ z ∈ ([(0, 4, 0), (1, 75, 6), (4, 4, 0), (5, 0, 1), (6, 73, 40), (9, 4, 0), (10, 0, 2), (11, 72, 41), (14, 4, 0), (15, 0, 3), (16, 73, 42), (19, 4, 0), (20, 1, 4), (22, 73, 43), (25, 4, 0), (26, 17, 1000), (29, 72, 44), (32, 200, 0)] : List (Nat × Nat × Int)), ∀ x ∈ dkAll 0 z.2.1 z.2.2, decode cX2_init (z.1 + x.1) = .ok (x.2.1, x.2.2) := by decide +kernel
theorem kd_X2_init : rDec 109 0 cX2_init := fun bs h => by
  cases (show codeT[109]? = some k_X2_init from rfl).symm.trans h
  exact (List.forall_mem_cons.mpr ⟨kd_X2_init_0, fun _ h => absurd h List.not_mem_nil⟩ : ∀ bl ∈ k_X2_init, ∀ z ∈ bl, ∀ x ∈ dkAll 0 z.2.1 z.2.2, decode cX2_init (z.1 + x.1) = .ok (x.2.1, x.2.2))
theorem kd_X3_init_0 : ∀ z ∈ ([(0, 4, 0), (1, 75, 7), (4, 4, 0), (5, 0, 1), (6, 73, 45), (9, 4, 0), (10, 6, 2), (11, 73, 46), (14, 4, 0), (15, 0, 3), (16, 73, 47), (19, 4, 0), (20, 1, 4), (22, 73, 48), (25, 200, 0)] : List (Nat × Nat × Int)), ∀ x ∈ dkAll 0 z.2.1 z.2.2, decode cX3_init (z.1 + x.1) = .ok (x.2.1, x.2.2) := by decide +kernel
theorem kd_X3_init : rDec 110 0 cX3_init := fun bs h => by
  cases (show codeT[110]? = some k_X3_init from rfl).symm.trans h
  exact (List.forall_mem_cons.mpr ⟨kd_X3_init_0, fun _ h => absurd h List.not_mem_nil⟩ : ∀ bl ∈ k_X3_init, ∀ z ∈ bl, ∀ x ∈ dkAll 0 z.2.1 z.2.2, decode cX3_init (z.1 + x.1) = .ok (x.2.1, x.2.2))
theorem kd_X5_init_0 : ∀ z ∈ ([(0, 4, 0), (1, 75, 8), (4, 4, 0), (5, 69, 8), (8, 22, 0), (9, 201, 144), (12, 73, 49), (15, 4, 0), (16, 69, 8), (19, 22, 0), (20, 201, 144), (23, 73, 50), (26, 4, 0), (27, 16, 12), (29, 64, 0), (31, 73, 51), (34, 4, 0), (35, 16, 6), (37, 64, 0), (39, 73, 52), (42, 4, 0), (43, 16, 6), (45, 64, 0), (47, 73, 53), (50, 4, 0), (51, 16, 6), (53, 65, 0), (55, 73, 54), (58, 200, 0)] : List (Nat × Nat × Int)), ∀ x ∈ dkAll 0 z.2.1 z.2.2, decode cX5_init (z.1 + x.1) = .ok (x.2.1, x.2.2) := by decide +kernel
theorem kd_X5_init : rDec 111 0 cX5_init := fun bs h => by
  cases (show codeT[111]? = some k_X5_init from rfl).symm.trans h
  exact (List.forall_mem_cons.mpr ⟨kd_X5_init_0, fun _ h => absurd h List.not_mem_nil⟩ : ∀ bl ∈ k_X5_init, ∀ z ∈ bl, ∀ x ∈ dkAll 0 z.2.1 z.2.2, decode cX5_init (z.1 + x.1) = .ok (x.2.1, x.2.2))
theorem kd_X8_addRows_0 : ∀ z ∈ ([(0, 15, 0), (1, 8, 4), (3, 1, 4), (5, 4, 2), (6, 201, 145), (9, 41, 48), (57, 200, 0)] : List (Nat × Nat × Int)), ∀ x ∈ dkAll 0 z.2.1 z.2.2, decode cX8_addRows (z.1 + x.1) = .ok (x.2.1, x.2.2) := by decide +kernel
theorem kd_X8_addRows : rDec 112 0 cX8_addRows := fun bs h => by
  cases (show codeT[112]? = some k_X8_addRows from rfl).symm.trans h
  exact (List.forall_mem_cons.mpr ⟨kd_X8_addRows_0, fun _ h => absurd h List.not_mem_nil⟩ : ∀ bl ∈ k_X8_addRows, ∀ z ∈ bl, ∀ x ∈ dkAll 0 z.2.1 z.2.2, decode cX8_addRows (z.1 + x.1) = .ok (x.2.1, x.2.2))
theorem kd_X8_countAmong_0 : ∀ z ∈ ([(0, 0, 1), (1, 8, 4), (3, 1, 4), (5, 0, 2), (6, 41, 40), (46, 15, 0), (47, 8, 4), (49, 1, 4), (51, 4, 3), (52, 201, 145), (55, 41, 116)] : List (Nat × Nat × Int)), ∀ x ∈ dkAll 0 z.2.1 z.2.2, decode cX8_countAmong (z.1 + x.1) = .ok (x.2.1, x.2.2) := by decide +kernel
theorem kd_X8_countAmong_1 : ∀ z ∈ ([] : List (Nat × Nat × Int)), ∀ x ∈ dkAll 0 z.2.1 z.2.2, decode cX8_countAmong (z.1 + x.1) = .ok (x.2.1, x.2.2) := by decide +kernel
theorem kd_X8_countAmong_2 : ∀ z ∈ ([(171, 0, 1), (172, 8, 4), (174, 1, 4), (176, 0, 2), (177, 41, 25)] : List (Nat × Nat × Int)), ∀ x ∈ dkAll 0 z.2.1 z.2.2, decode cX8_countAmong (z.1 + x.1) = .ok (x.2.1, x.2.2) := by decide +kernel
theorem kd_X8_countAmong_3 : ∀ z ∈ ([(202, 200, 0)] : List (Nat × Nat × Int)), ∀ x ∈ dkAll 0 z.2.1 z.2.2, decode cX8_countAmong (z.1 + x.1) = .ok (x.2.1, x.2.2) := by decide +kernel
theorem kd_X8_countAmong : rDec 113 0 cX8_countAmong := fun bs h => by
  cases (show codeT[113]? = some k_X8_countAmong from rfl).symm.trans h
  exact (List.forall_mem_cons.mpr ⟨kd_X8_countAmong_0, List.forall_mem_cons.mpr ⟨kd_X8_countAmong_1, List.forall_mem_cons.mpr ⟨kd_X8_countAmong_2, List.forall_mem_cons.mpr ⟨kd_X8_countAmong_3, fun _ h => absurd h List.not_mem_nil⟩⟩⟩⟩ : ∀ bl ∈ k_X8_countAmong, ∀ z ∈ bl, ∀ x ∈ dkAll 0 z.2.1 z.2.2, decode cX8_countAmong (z.1 + x.1) = .ok (x.2.1, x.2.2))
theorem kd_X8_draw_0 : ∀ z ∈ ([(0, 4, 0), (1, 70, 55), (4, 201, 146), (7, 15, 0), (8, 8, 4), (10, 1, 4), (12, 4, 2), (13, 201, 145), (16, 41, 22), (38, 4, 0), (39, 0, 1), (40, 4, 2), (41, 15, 0), (42, 201, 147), (45, 4, 0), (46, 70, 55), (49, 201, 145), (52, 8, 4), (54, 4, 0), (55, 15, 0), (56, 1, 4), (58, 4, 3), (59, 201, 148), (62, 15, 0), (63, 8, 5)] : List (Nat × Nat × Int)), ∀ x ∈ dkAll 0 z.2.1 z.2.2, decode cX8_draw (z.1 + x.1) = .ok (x.2.1, x.2.2) := by decide +kernel
theorem kd_X8_draw_1 : ∀ z ∈ ([(65, 1, 5), (67, 1, 4), (69, 41, 69)] : List (Nat × Nat × Int)), ∀ x ∈ dkAll 0 z.2.1 z.2.2, decode cX8_draw (z.1 + x.1) = .ok (x.2.1, x.2.2) := by decide +kernel
theorem kd_X8_draw_2 : ∀ z ∈ ([(138, 4, 0), (139, 15, 0), (140, 1, 4), (142, 201, 149), (145, 4, 0), (146, 15, 0), (147, 1, 4), (149, 4, 3), (150, 15, 0), (151, 201, 150), (154, 4, 0), (155, 0, 1), (156, 4, 2), (157, 15, 1), (158, 201, 147), (161, 200, 0)] : List (Nat × Nat × Int)), ∀ x ∈ dkAll 0 z.2.1 z.2.2, decode cX8_draw (z.1 + x.1) = .ok (x.2.1, x.2.2) := by decide +kernel
theorem kd_X8_draw : rDec 114 0 cX8_draw := fun bs h => by
  cases (show codeT[114]? = some k_X8_draw from rfl).symm.trans h
  exact (List.forall_mem_cons.mpr ⟨kd_X8_draw_0, List.forall_mem_cons.mpr ⟨kd_X8_draw_1, List.forall_mem_cons.mpr ⟨kd_X8_draw_2, fun _ h => absurd h List.not_mem_nil⟩⟩⟩ : ∀ bl ∈ k_X8_draw, ∀ z ∈ bl, ∀ x ∈ dkAll 0 z.2.1 z.2.2, decode cX8_draw (z.1 + x.1) = .ok (x.2.1, x.2.2))
theorem kd_X8_firstToRise_0 : ∀ z ∈ ([(0, 15, 0), (1, 7, 1), (2, 0, 1), (3, 4, 0), (4, 70, 55), (7, 201, 145), (10, 41, 38), (48, 21, 0), (49, 200, 0)] : List (Nat × Nat × Int)), ∀ x ∈ dkAll 3 z.2.1 z.2.2, decode cX8_firstToRise (z.1 + x.1) = .ok (x.2.1, x.2.2) := by decide +kernel
theorem kd_X8_firstToRise : rDec 115 3 cX8_firstToRise := fun bs h => by
  cases (show codeT[115]? = some k_X8_firstToRise from rfl).symm.trans h
  exact (List.forall_mem_cons.mpr ⟨kd_X8_firstToRise_0, fun _ h => absurd h List.not_mem_nil⟩ : ∀ bl ∈ k_X8_firstToRise, ∀ z ∈ bl, ∀ x ∈ dkAll 3 z.2.1 z.2.2, decode cX8_firstToRise (z.1 + x.1) = .ok (x.2.1, x.2.2))
theorem kd_X8_init_0 : ∀ z ∈ ([(0, 4, 0), (1, 75, 9), (4, 4, 0), (5, 69, 9), (8, 22, 0), (9, 201, 151), (12, 73, 55), (15, 200, 0)] : List (Nat × Nat × Int)), ∀ x ∈ dkAll 0 z.2.1 z.2.2, decode cX8_init (z.1 + x.1) = .ok (x.2.1, x.2.2) := by decide +kernel
theorem kd_X8_init : rDec 116 0 cX8_init := fun bs h => by
  cases (show codeT[116]? = some k_X8_init from rfl).symm.trans h
  exact (List.forall_mem_cons.mpr ⟨kd_X8_init_0, fun _ h => absurd h List.not_mem_nil⟩ : ∀ bl ∈ k_X8_init, ∀ z ∈ bl, ∀ x ∈ dkAll 0 z.2.1 z.2.2, decode cX8_init (z.1 + x.1) = .ok (x.2.1, x.2.2))
theorem kd_X8_partTies_0 : ∀ z ∈ ([(0, 0, 1), (1, 8, 5), (3, 0, 1), (4, 15, 1), (5, 25, 0), (6, 8, 6), (8, 1, 6), (10, 0, 2), (11, 42, 72)] : List (Nat × Nat × Int)), ∀ x ∈ dkAll 0 z.2.1 z.2.2, decode cX8_partTies (z.1 + x.1) = .ok (x.2.1, x.2.2) := by decide +kernel
theorem kd_X8_partTies_1 : ∀ z ∈ ([(83, 200, 0)] : List (Nat × Nat × Int)), ∀ x ∈ dkAll 0 z.2.1 z.2.2, decode cX8_partTies (z.1 + x.1) = .ok (x.2.1, x.2.2) := by decide +kernel
theorem kd_X8_partTies : rDec 117 0 cX8_partTies := fun bs h => by
  cases (show codeT[117]? = some k_X8_partTies from rfl).symm.trans h
  exact (List.forall_mem_cons.mpr ⟨kd_X8_partTies_0, List.forall_mem_cons.mpr ⟨kd_X8_partTies_1, fun _ h => absurd h List.not_mem_nil⟩⟩ : ∀ bl ∈ k_X8_partTies, ∀ z ∈ bl, ∀ x ∈ dkAll 0 z.2.1 z.2.2, decode cX8_partTies (z.1 + x.1) = .ok (x.2.1, x.2.2))
theorem kd_X8_sort_0 : ∀ z ∈ ([(0, 0, 1), (1, 15, 1), (2, 25, 0), (3, 7, 3), (4, 0, 3), (5, 0, 2), (6, 41, 98)] : List (Nat × Nat × Int)), ∀ x ∈ dkAll 0 z.2.1 z.2.2, decode cX8_sort (z.1 + x.1) = .ok (x.2.1, x.2.2) := by decide +kernel
theorem kd_X8_sort_1 : ∀ z ∈ ([(104, 200, 0)] : List (Nat × Nat × Int)), ∀ x ∈ dkAll 0 z.2.1 z.2.2, decode cX8_sort (z.1 + x.1) = .ok (x.2.1, x.2.2) := by decide +kernel
theorem kd_X8_sort : rDec 118 0 cX8_sort := fun bs h => by
  cases (show codeT[118]? = some k_X8_sort from rfl).symm.trans h
  exact (List.forall_mem_cons.mpr ⟨kd_X8_sort_0, List.forall_mem_cons.mpr ⟨kd_X8_sort_1, fun _ h => absurd h List.not_mem_nil⟩⟩ : ∀ bl ∈ k_X8_sort, ∀ z ∈ bl, ∀ x ∈ dkAll 0 z.2.1 z.2.2, decode cX8_sort (z.1 + x.1) = .ok (x.2.1, x.2.2))
theorem kd_X9_abandon_0 : ∀ z ∈ ([(0, 4, 0), (1, 201, 152)] : List (Nat × Nat × Int)), ∀ x ∈ dkAll 1 z.2.1 z.2.2, decode cX9_abandon (z.1 + x.1) = .ok (x.2.1, x.2.2) := by decide +kernel
theorem kd_X9_abandon : rDec 119 1 cX9_abandon := fun bs h => by
  cases (show codeT[119]? = some k_X9_abandon from rfl).symm.trans h
  exact (List.forall_mem_cons.mpr ⟨kd_X9_abandon_0, fun _ h => absurd h List.not_mem_nil⟩ : ∀ bl ∈ k_X9_abandon, ∀ z ∈ bl, ∀ x ∈ dkAll 1 z.2.1 z.2.2, decode cX9_abandon (z.1 + x.1) = .ok (x.2.1, x.2.2))
theorem kd_X9_addClub_0 : ∀ z ∈ ([(0, 0, 1), (1, 201, 153), (4, 32, 22), (7, 0, 2), (8, 15, 0), (9, 16, 7), (11, 201, 154), (14, 32, 12), (17, 0, 3), (18, 15, 0), (19, 15, 3), (20, 201, 154), (23, 33, 13), (26, 202, 0), (36, 4, 0), (37, 0, 1), (38, 201, 155), (41, 15, 4), (42, 40, 13), (55, 69, 10), (58, 22, 0), (59, 4, 0), (60, 70, 56), (63, 201, 156)] : List (Nat × Nat × Int)), ∀ x ∈ dkAll 1 z.2.1 z.2.2, decode cX9_addClub (z.1 + x.1) = .ok (x.2.1, x.2.2) := by decide +kernel
theorem kd_X9_addClub_1 : ∀ z ∈ ([(66, 0, 1), (67, 0, 2), (68, 0, 3), (69, 201, 157), (72, 10, 4), (74, 4, 0), (75, 70, 56), (78, 5, 4), (80, 201, 158), (83, 24, 0), (84, 5, 4), (86, 70, 57), (89, 200, 0)] : List (Nat × Nat × Int)), ∀ x ∈ dkAll 1 z.2.1 z.2.2, decode cX9_addClub (z.1 + x.1) = .ok (x.2.1, x.2.2) := by decide +kernel
theorem kd_X9_addClub : rDec 120 1 cX9_addClub := fun bs h => by
  cases (show codeT[120]? = some k_X9_addClub from rfl).symm.trans h
  exact (List.forall_mem_cons.mpr ⟨kd_X9_addClub_0, List.forall_mem_cons.mpr ⟨kd_X9_addClub_1, fun _ h => absurd h List.not_mem_nil⟩⟩ : ∀ bl ∈ k_X9_addClub, ∀ z ∈ bl, ∀ x ∈ dkAll 1 z.2.1 z.2.2, decode cX9_addClub (z.1 + x.1) = .ok (x.2.1, x.2.2))
theorem kd_X9_addPlayer_0 : ∀ z ∈ ([(0, 4, 0), (1, 0, 1), (2, 201, 159)] : List (Nat × Nat × Int)), ∀ x ∈ dkAll 1 z.2.1 z.2.2, decode cX9_addPlayer (z.1 + x.1) = .ok (x.2.1, x.2.2) := by decide +kernel
theorem kd_X9_addPlayer : rDec 121 1 cX9_addPlayer := fun bs h => by
  cases (show codeT[121]? = some k_X9_addPlayer from rfl).symm.trans h
  exact (List.forall_mem_cons.mpr ⟨kd_X9_addPlayer_0, fun _ h => absurd h List.not_mem_nil⟩ : ∀ bl ∈ k_X9_addPlayer, ∀ z ∈ bl, ∀ x ∈ dkAll 1 z.2.1 z.2.2, decode cX9_addPlayer (z.1 + x.1) = .ok (x.2.1, x.2.2))
theorem kd_X9_appeal_0 : ∀ z ∈ ([(0, 0, 1), (1, 34, 17), (4, 0, 1), (5, 4, 0), (6, 70, 58), (9, 70, 59), (12, 201, 156), (15, 40, 14), (18, 202, 1)] : List (Nat × Nat × Int)), ∀ x ∈ dkAll 6 z.2.1 z.2.2, decode cX9_appeal (z.1 + x.1) = .ok (x.2.1, x.2.2) := by decide +kernel
theorem kd_X9_appeal : rDec 122 6 cX9_appeal := fun bs h => by
  cases (show codeT[122]? = some k_X9_appeal from rfl).symm.trans h
  exact (List.forall_mem_cons.mpr ⟨kd_X9_appeal_0, fun _ h => absurd h List.not_mem_nil⟩ : ∀ bl ∈ k_X9_appeal, ∀ z ∈ bl, ∀ x ∈ dkAll 6 z.2.1 z.2.2, decode cX9_appeal (z.1 + x.1) = .ok (x.2.1, x.2.2))
theorem kd_X9_ban_0 : ∀ z ∈ ([(0, 4, 0), (1, 0, 1), (2, 201, 160)] : List (Nat × Nat × Int)), ∀ x ∈ dkAll 1 z.2.1 z.2.2, decode cX9_ban (z.1 + x.1) = .ok (x.2.1, x.2.2) := by decide +kernel
theorem kd_X9_ban : rDec 123 1 cX9_ban := fun bs h => by
  cases (show codeT[123]? = some k_X9_ban from rfl).symm.trans h
  exact (List.forall_mem_cons.mpr ⟨kd_X9_ban_0, fun _ h => absurd h List.not_mem_nil⟩ : ∀ bl ∈ k_X9_ban, ∀ z ∈ bl, ∀ x ∈ dkAll 1 z.2.1 z.2.2, decode cX9_ban (z.1 + x.1) = .ok (x.2.1, x.2.2))
theorem kd_X9_callBack_0 : ∀ z ∈ ([(0, 4, 0), (1, 0, 1), (2, 201, 160)] : List (Nat × Nat × Int)), ∀ x ∈ dkAll 1 z.2.1 z.2.2, decode cX9_callBack (z.1 + x.1) = .ok (x.2.1, x.2.2) := by decide +kernel
theorem kd_X9_callBack : rDec 124 1 cX9_callBack := fun bs h => by
  cases (show codeT[124]? = some k_X9_callBack from rfl).symm.trans h
  exact (List.forall_mem_cons.mpr ⟨kd_X9_callBack_0, fun _ h => absurd h List.not_mem_nil⟩ : ∀ bl ∈ k_X9_callBack, ∀ z ∈ bl, ∀ x ∈ dkAll 1 z.2.1 z.2.2, decode cX9_callBack (z.1 + x.1) = .ok (x.2.1, x.2.2))
theorem kd_X9_card_0 : ∀ z ∈ ([(0, 4, 0), (1, 0, 1), (2, 201, 161)] : List (Nat × Nat × Int)), ∀ x ∈ dkAll 1 z.2.1 z.2.2, decode cX9_card (z.1 + x.1) = .ok (x.2.1, x.2.2) := by decide +kernel
theorem kd_X9_card : rDec 125 1 cX9_card := fun bs h => by
  cases (show codeT[125]? = some k_X9_card from rfl).symm.trans h
  exact (List.forall_mem_cons.mpr ⟨kd_X9_card_0, fun _ h => absurd h List.not_mem_nil⟩ : ∀ bl ∈ k_X9_card, ∀ z ∈ bl, ∀ x ∈ dkAll 1 z.2.1 z.2.2, decode cX9_card (z.1 + x.1) = .ok (x.2.1, x.2.2))
theorem kd_X9_change_0 : ∀ z ∈ ([(0, 4, 0), (1, 0, 1), (2, 201, 161)] : List (Nat × Nat × Int)), ∀ x ∈ dkAll 1 z.2.1 z.2.2, decode cX9_change (z.1 + x.1) = .ok (x.2.1, x.2.2) := by decide +kernel
theorem kd_X9_change : rDec 126 1 cX9_change := fun bs h => by
  cases (show codeT[126]? = some k_X9_change from rfl).symm.trans h
  exact (List.forall_mem_cons.mpr ⟨kd_X9_change_0, fun _ h => absurd h List.not_mem_nil⟩ : ∀ bl ∈ k_X9_change, ∀ z ∈ bl, ∀ x ∈ dkAll 1 z.2.1 z.2.2, decode cX9_change (z.1 + x.1) = .ok (x.2.1, x.2.2))
theorem kd_X9_clearSeason_0 : ∀ z ∈ ([(0, 4, 0), (1, 70, 60), (4, 201, 162), (7, 4, 0), (8, 21, 0), (9, 72, 61), (12, 15, 0), (13, 7, 1), (14, 0, 1), (15, 4, 0), (16, 70, 56), (19, 201, 156), (22, 41, 31), (53, 4, 0), (54, 70, 58), (57, 69, 11), (60, 22, 0), (61, 15, 2), (62, 21, 0), (63, 15, 0)] : List (Nat × Nat × Int)), ∀ x ∈ dkAll 0 z.2.1 z.2.2, decode cX9_clearSeason (z.1 + x.1) = .ok (x.2.1, x.2.2) := by decide +kernel
theorem kd_X9_clearSeason_1 : ∀ z ∈ ([(64, 15, 0), (65, 201, 163), (68, 201, 164), (71, 200, 0)] : List (Nat × Nat × Int)), ∀ x ∈ dkAll 0 z.2.1 z.2.2, decode cX9_clearSeason (z.1 + x.1) = .ok (x.2.1, x.2.2) := by decide +kernel
theorem kd_X9_clearSeason : rDec 127 0 cX9_clearSeason := fun bs h => by
  cases (show codeT[127]? = some k_X9_clearSeason from rfl).symm.trans h
  exact (List.forall_mem_cons.mpr ⟨kd_X9_clearSeason_0, List.forall_mem_cons.mpr ⟨kd_X9_clearSeason_1, fun _ h => absurd h List.not_mem_nil⟩⟩ : ∀ bl ∈ k_X9_clearSeason, ∀ z ∈ bl, ∀ x ∈ dkAll 0 z.2.1 z.2.2, decode cX9_clearSeason (z.1 + x.1) = .ok (x.2.1, x.2.2))
theorem kd_X9_clubAt_0 : ∀ z ∈ ([(0, 0, 1), (1, 201, 153), (4, 33, 13), (7, 202, 2), (17, 0, 2), (18, 34, 12), (21, 0, 2), (22, 4, 0), (23, 0, 1), (24, 201, 155), (27, 40, 14), (30, 202, 3)] : List (Nat × Nat × Int)), ∀ x ∈ dkAll 1 z.2.1 z.2.2, decode cX9_clubAt (z.1 + x.1) = .ok (x.2.1, x.2.2) := by decide +kernel
theorem kd_X9_clubAt : rDec 128 1 cX9_clubAt := fun bs h => by
  cases (show codeT[128]? = some k_X9_clubAt from rfl).symm.trans h
  exact (List.forall_mem_cons.mpr ⟨kd_X9_clubAt_0, fun _ h => absurd h List.not_mem_nil⟩ : ∀ bl ∈ k_X9_clubAt, ∀ z ∈ bl, ∀ x ∈ dkAll 1 z.2.1 z.2.2, decode cX9_clubAt (z.1 + x.1) = .ok (x.2.1, x.2.2))
theorem kd_X9_clubsIn_0 : ∀ z ∈ ([(0, 15, 0), (1, 7, 2), (2, 15, 0), (3, 7, 3), (4, 0, 3), (5, 4, 0), (6, 70, 56), (9, 201, 156), (12, 41, 30), (42, 0, 2), (43, 200, 0)] : List (Nat × Nat × Int)), ∀ x ∈ dkAll 1 z.2.1 z.2.2, decode cX9_clubsIn (z.1 + x.1) = .ok (x.2.1, x.2.2) := by decide +kernel
theorem kd_X9_clubsIn : rDec 129 1 cX9_clubsIn := fun bs h => by
  cases (show codeT[129]? = some k_X9_clubsIn from rfl).symm.trans h
  exact (List.forall_mem_cons.mpr ⟨kd_X9_clubsIn_0, fun _ h => absurd h List.not_mem_nil⟩ : ∀ bl ∈ k_X9_clubsIn, ∀ z ∈ bl, ∀ x ∈ dkAll 1 z.2.1 z.2.2, decode cX9_clubsIn (z.1 + x.1) = .ok (x.2.1, x.2.2))
theorem kd_X9_divisionOf_0 : ∀ z ∈ ([(0, 4, 0), (1, 0, 1), (2, 201, 159)] : List (Nat × Nat × Int)), ∀ x ∈ dkAll 1 z.2.1 z.2.2, decode cX9_divisionOf (z.1 + x.1) = .ok (x.2.1, x.2.2) := by decide +kernel
theorem kd_X9_divisionOf : rDec 130 1 cX9_divisionOf := fun bs h => by
  cases (show codeT[130]? = some k_X9_divisionOf from rfl).symm.trans h
  exact (List.forall_mem_cons.mpr ⟨kd_X9_divisionOf_0, fun _ h => absurd h List.not_mem_nil⟩ : ∀ bl ∈ k_X9_divisionOf, ∀ z ∈ bl, ∀ x ∈ dkAll 1 z.2.1 z.2.2, decode cX9_divisionOf (z.1 + x.1) = .ok (x.2.1, x.2.2))
theorem kd_X9_end_0 : ∀ z ∈ ([(0, 4, 0), (1, 201, 152)] : List (Nat × Nat × Int)), ∀ x ∈ dkAll 1 z.2.1 z.2.2, decode cX9_end (z.1 + x.1) = .ok (x.2.1, x.2.2) := by decide +kernel
theorem kd_X9_end : rDec 131 1 cX9_end := fun bs h => by
  cases (show codeT[131]? = some k_X9_end from rfl).symm.trans h
  exact (List.forall_mem_cons.mpr ⟨kd_X9_end_0, fun _ h => absurd h List.not_mem_nil⟩ : ∀ bl ∈ k_X9_end, ∀ z ∈ bl, ∀ x ∈ dkAll 1 z.2.1 z.2.2, decode cX9_end (z.1 + x.1) = .ok (x.2.1, x.2.2))
theorem kd_X9_endSeason_0 : ∀ z ∈ ([(0, 4, 0), (1, 201, 165), (4, 33, 13), (7, 4, 0), (8, 70, 58), (11, 201, 166), (14, 32, 14), (28, 4, 0), (29, 70, 62), (32, 15, 1), (33, 4, 0), (34, 70, 56), (37, 4, 0), (38, 70, 60), (41, 201, 167), (44, 4, 0), (45, 70, 62), (48, 201, 168), (51, 11, 1), (52, 4, 0), (53, 70, 62), (56, 15, 0), (57, 4, 0), (58, 70, 56), (61, 4, 0), (62, 70, 60)] : List (Nat × Nat × Int)), ∀ x ∈ dkAll 1 z.2.1 z.2.2, decode cX9_endSeason (z.1 + x.1) = .ok (x.2.1, x.2.2) := by decide +kernel
theorem kd_X9_endSeason_1 : ∀ z ∈ ([(65, 201, 167), (68, 6, 1), (69, 52, 7), (72, 21, 0), (73, 53, 10), (83, 11, 2), (84, 6, 1), (85, 51, 8), (93, 6, 2), (94, 51, 8), (102, 4, 0), (103, 201, 169), (106, 6, 1), (107, 52, 7), (110, 15, -1), (111, 53, 7), (118, 200, 0)] : List (Nat × Nat × Int)), ∀ x ∈ dkAll 1 z.2.1 z.2.2, decode cX9_endSeason (z.1 + x.1) = .ok (x.2.1, x.2.2) := by decide +kernel
theorem kd_X9_endSeason : rDec 132 1 cX9_endSeason := fun bs h => by
  cases (show codeT[132]? = some k_X9_endSeason from rfl).symm.trans h
  exact (List.forall_mem_cons.mpr ⟨kd_X9_endSeason_0, List.forall_mem_cons.mpr ⟨kd_X9_endSeason_1, fun _ h => absurd h List.not_mem_nil⟩⟩ : ∀ bl ∈ k_X9_endSeason, ∀ z ∈ bl, ∀ x ∈ dkAll 1 z.2.1 z.2.2, decode cX9_endSeason (z.1 + x.1) = .ok (x.2.1, x.2.2))
theorem kd_X9_fixture_0 : ∀ z ∈ ([(0, 4, 0), (1, 0, 1), (2, 201, 170)] : List (Nat × Nat × Int)), ∀ x ∈ dkAll 1 z.2.1 z.2.2, decode cX9_fixture (z.1 + x.1) = .ok (x.2.1, x.2.2) := by decide +kernel
theorem kd_X9_fixture : rDec 133 1 cX9_fixture := fun bs h => by
  cases (show codeT[133]? = some k_X9_fixture from rfl).symm.trans h
  exact (List.forall_mem_cons.mpr ⟨kd_X9_fixture_0, fun _ h => absurd h List.not_mem_nil⟩ : ∀ bl ∈ k_X9_fixture, ∀ z ∈ bl, ∀ x ∈ dkAll 1 z.2.1 z.2.2, decode cX9_fixture (z.1 + x.1) = .ok (x.2.1, x.2.2))
theorem kd_X9_fixturesOver_0 : ∀ z ∈ ([(0, 15, 0), (1, 7, 1), (2, 15, 0), (3, 7, 2), (4, 0, 2), (5, 4, 0), (6, 70, 60), (9, 201, 156), (12, 41, 29), (41, 0, 1), (42, 200, 0)] : List (Nat × Nat × Int)), ∀ x ∈ dkAll 1 z.2.1 z.2.2, decode cX9_fixturesOver (z.1 + x.1) = .ok (x.2.1, x.2.2) := by decide +kernel
theorem kd_X9_fixturesOver : rDec 134 1 cX9_fixturesOver := fun bs h => by
  cases (show codeT[134]? = some k_X9_fixturesOver from rfl).symm.trans h
  exact (List.forall_mem_cons.mpr ⟨kd_X9_fixturesOver_0, fun _ h => absurd h List.not_mem_nil⟩ : ∀ bl ∈ k_X9_fixturesOver, ∀ z ∈ bl, ∀ x ∈ dkAll 1 z.2.1 z.2.2, decode cX9_fixturesOver (z.1 + x.1) = .ok (x.2.1, x.2.2))
theorem kd_X9_goOn_0 : ∀ z ∈ ([(0, 0, 1), (1, 15, 1), (2, 16, 99), (4, 201, 154), (7, 33, 13), (10, 202, 4), (20, 4, 0), (21, 70, 61), (24, 51, 13), (37, 4, 0), (38, 22, 0), (39, 70, 63), (42, 0, 1), (43, 25, 0), (44, 72, 63), (47, 4, 0), (48, 70, 63), (51, 200, 0)] : List (Nat × Nat × Int)), ∀ x ∈ dkAll 1 z.2.1 z.2.2, decode cX9_goOn (z.1 + x.1) = .ok (x.2.1, x.2.2) := by decide +kernel
theorem kd_X9_goOn : rDec 135 1 cX9_goOn := fun bs h => by
  cases (show codeT[135]? = some k_X9_goOn from rfl).symm.trans h
  exact (List.forall_mem_cons.mpr ⟨kd_X9_goOn_0, fun _ h => absurd h List.not_mem_nil⟩ : ∀ bl ∈ k_X9_goOn, ∀ z ∈ bl, ∀ x ∈ dkAll 1 z.2.1 z.2.2, decode cX9_goOn (z.1 + x.1) = .ok (x.2.1, x.2.2))
theorem kd_X9_goal_0 : ∀ z ∈ ([(0, 4, 0), (1, 0, 1), (2, 201, 161)] : List (Nat × Nat × Int)), ∀ x ∈ dkAll 1 z.2.1 z.2.2, decode cX9_goal (z.1 + x.1) = .ok (x.2.1, x.2.2) := by decide +kernel
theorem kd_X9_goal : rDec 136 1 cX9_goal := fun bs h => by
  cases (show codeT[136]? = some k_X9_goal from rfl).symm.trans h
  exact (List.forall_mem_cons.mpr ⟨kd_X9_goal_0, fun _ h => absurd h List.not_mem_nil⟩ : ∀ bl ∈ k_X9_goal, ∀ z ∈ bl, ∀ x ∈ dkAll 1 z.2.1 z.2.2, decode cX9_goal (z.1 + x.1) = .ok (x.2.1, x.2.2))
theorem kd_X9_hasFixtures_0 : ∀ z ∈ ([(0, 15, 0), (1, 7, 2), (2, 0, 2), (3, 4, 0), (4, 70, 60), (7, 201, 156), (10, 41, 35), (45, 15, 0), (46, 200, 0)] : List (Nat × Nat × Int)), ∀ x ∈ dkAll 6 z.2.1 z.2.2, decode cX9_hasFixtures (z.1 + x.1) = .ok (x.2.1, x.2.2) := by decide +kernel
theorem kd_X9_hasFixtures : rDec 137 6 cX9_hasFixtures := fun bs h => by
  cases (show codeT[137]? = some k_X9_hasFixtures from rfl).symm.trans h
  exact (List.forall_mem_cons.mpr ⟨kd_X9_hasFixtures_0, fun _ h => absurd h List.not_mem_nil⟩ : ∀ bl ∈ k_X9_hasFixtures, ∀ z ∈ bl, ∀ x ∈ dkAll 6 z.2.1 z.2.2, decode cX9_hasFixtures (z.1 + x.1) = .ok (x.2.1, x.2.2))
theorem kd_X9_init_0 : ∀ z ∈ ([(0, 4, 0), (1, 75, 10), (4, 4, 0), (5, 69, 12), (8, 22, 0), (9, 201, 171), (12, 73, 56), (15, 4, 0), (16, 69, 12), (19, 22, 0), (20, 201, 171), (23, 73, 64), (26, 4, 0), (27, 69, 12), (30, 22, 0), (31, 201, 171), (34, 73, 60), (37, 4, 0), (38, 69, 13), (41, 22, 0), (42, 201, 172), (45, 73, 58), (48, 4, 0), (49, 69, 14), (52, 22, 0), (53, 201, 173), (56, 73, 65), (59, 4, 0), (60, 69, 15), (63, 22, 0)] : List (Nat × Nat × Int)), ∀ x ∈ dkAll 0 z.2.1 z.2.2, decode cX9_init (z.1 + x.1) = .ok (x.2.1, x.2.2) := by decide +kernel
theorem kd_X9_init_1 : ∀ z ∈ ([(64, 201, 174), (67, 73, 62), (70, 4, 0), (71, 15, 0), (72, 72, 63), (75, 4, 0), (76, 15, 1), (77, 72, 66), (80, 4, 0), (81, 15, 0), (82, 72, 67), (85, 4, 0), (86, 21, 0), (87, 72, 61), (90, 200, 0)] : List (Nat × Nat × Int)), ∀ x ∈ dkAll 0 z.2.1 z.2.2, decode cX9_init (z.1 + x.1) = .ok (x.2.1, x.2.2) := by decide +kernel
theorem kd_X9_init : rDec 138 0 cX9_init := fun bs h => by
  cases (show codeT[138]? = some k_X9_init from rfl).symm.trans h
  exact (List.forall_mem_cons.mpr ⟨kd_X9_init_0, List.forall_mem_cons.mpr ⟨kd_X9_init_1, fun _ h => absurd h List.not_mem_nil⟩⟩ : ∀ bl ∈ k_X9_init, ∀ z ∈ bl, ∀ x ∈ dkAll 0 z.2.1 z.2.2, decode cX9_init (z.1 + x.1) = .ok (x.2.1, x.2.2))
theorem kd_X9_isDivision_0 : ∀ z ∈ ([(0, 0, 0), (1, 15, 0), (2, 15, 1), (3, 201, 154), (6, 200, 0)] : List (Nat × Nat × Int)), ∀ x ∈ dkAll 6 z.2.1 z.2.2, decode cX9_isDivision (z.1 + x.1) = .ok (x.2.1, x.2.2) := by decide +kernel
theorem kd_X9_isDivision : rDec 139 6 cX9_isDivision := fun bs h => by
  cases (show codeT[139]? = some k_X9_isDivision from rfl).symm.trans h
  exact (List.forall_mem_cons.mpr ⟨kd_X9_isDivision_0, fun _ h => absurd h List.not_mem_nil⟩ : ∀ bl ∈ k_X9_isDivision, ∀ z ∈ bl, ∀ x ∈ dkAll 6 z.2.1 z.2.2, decode cX9_isDivision (z.1 + x.1) = .ok (x.2.1, x.2.2))
theorem kd_X9_isFixtureLeft_0 : ∀ z ∈ ([(0, 15, 0), (1, 7, 1), (2, 0, 1), (3, 4, 0), (4, 70, 60), (7, 201, 156), (10, 41, 37), (47, 15, 0), (48, 200, 0)] : List (Nat × Nat × Int)), ∀ x ∈ dkAll 6 z.2.1 z.2.2, decode cX9_isFixtureLeft (z.1 + x.1) = .ok (x.2.1, x.2.2) := by decide +kernel
theorem kd_X9_isFixtureLeft : rDec 140 6 cX9_isFixtureLeft := fun bs h => by
  cases (show codeT[140]? = some k_X9_isFixtureLeft from rfl).symm.trans h
  exact (List.forall_mem_cons.mpr ⟨kd_X9_isFixtureLeft_0, fun _ h => absurd h List.not_mem_nil⟩ : ∀ bl ∈ k_X9_isFixtureLeft, ∀ z ∈ bl, ∀ x ∈ dkAll 6 z.2.1 z.2.2, decode cX9_isFixtureLeft (z.1 + x.1) = .ok (x.2.1, x.2.2))
theorem kd_X9_isGuilty_0 : ∀ z ∈ ([(0, 4, 0), (1, 0, 1), (2, 201, 170)] : List (Nat × Nat × Int)), ∀ x ∈ dkAll 6 z.2.1 z.2.2, decode cX9_isGuilty (z.1 + x.1) = .ok (x.2.1, x.2.2) := by decide +kernel
theorem kd_X9_isGuilty : rDec 141 6 cX9_isGuilty := fun bs h => by
  cases (show codeT[141]? = some k_X9_isGuilty from rfl).symm.trans h
  exact (List.forall_mem_cons.mpr ⟨kd_X9_isGuilty_0, fun _ h => absurd h List.not_mem_nil⟩ : ∀ bl ∈ k_X9_isGuilty, ∀ z ∈ bl, ∀ x ∈ dkAll 6 z.2.1 z.2.2, decode cX9_isGuilty (z.1 + x.1) = .ok (x.2.1, x.2.2))
theorem kd_X9_isSound_0 : ∀ z ∈ ([(0, 15, 0), (1, 7, 1), (2, 0, 1), (3, 4, 0), (4, 70, 60), (7, 201, 156), (10, 41, 23), (33, 4, 0), (34, 70, 58), (37, 201, 175), (40, 7, 1), (41, 15, 1), (42, 7, 2), (43, 15, 0), (44, 7, 3), (45, 0, 3), (46, 4, 0), (47, 70, 60), (50, 201, 156), (53, 41, 36)] : List (Nat × Nat × Int)), ∀ x ∈ dkAll 6 z.2.1 z.2.2, decode cX9_isSound (z.1 + x.1) = .ok (x.2.1, x.2.2) := by decide +kernel
theorem kd_X9_isSound_1 : ∀ z ∈ ([(89, 78, 4), (92, 4, 0), (93, 70, 56), (96, 201, 156), (99, 30, 0), (100, 28, 0), (101, 12, 3), (102, 0, 1), (103, 32, 20), (106, 0, 2), (107, 32, 16), (110, 4, 0), (111, 201, 176), (114, 2, 3), (115, 45, 7), (119, 15, 1), (120, 53, 4), (124, 200, 0)] : List (Nat × Nat × Int)), ∀ x ∈ dkAll 6 z.2.1 z.2.2, decode cX9_isSound (z.1 + x.1) = .ok (x.2.1, x.2.2) := by decide +kernel
theorem kd_X9_isSound : rDec 142 6 cX9_isSound := fun bs h => by
  cases (show codeT[142]? = some k_X9_isSound from rfl).symm.trans h
  exact (List.forall_mem_cons.mpr ⟨kd_X9_isSound_0, List.forall_mem_cons.mpr ⟨kd_X9_isSound_1, fun _ h => absurd h List.not_mem_nil⟩⟩ : ∀ bl ∈ k_X9_isSound, ∀ z ∈ bl, ∀ x ∈ dkAll 6 z.2.1 z.2.2, decode cX9_isSound (z.1 + x.1) = .ok (x.2.1, x.2.2))
theorem kd_X9_isWindowOpen_0 : ∀ z ∈ ([(0, 4, 0), (1, 70, 63), (4, 4, 0), (5, 70, 66), (8, 4, 0), (9, 70, 67), (12, 201, 154), (15, 200, 0)] : List (Nat × Nat × Int)), ∀ x ∈ dkAll 6 z.2.1 z.2.2, decode cX9_isWindowOpen (z.1 + x.1) = .ok (x.2.1, x.2.2) := by decide +kernel
theorem kd_X9_isWindowOpen : rDec 143 6 cX9_isWindowOpen := fun bs h => by
  cases (show codeT[143]? = some k_X9_isWindowOpen from rfl).symm.trans h
  exact (List.forall_mem_cons.mpr ⟨kd_X9_isWindowOpen_0, fun _ h => absurd h List.not_mem_nil⟩ : ∀ bl ∈ k_X9_isWindowOpen, ∀ z ∈ bl, ∀ x ∈ dkAll 6 z.2.1 z.2.2, decode cX9_isWindowOpen (z.1 + x.1) = .ok (x.2.1, x.2.2))
theorem kd_X9_isWithin_0 : ∀ z ∈ ([(0, 0, 0), (1, 0, 1), (2, 40, 12), (5, 0, 0), (6, 0, 2), (7, 42, 7), (10, 15, 1), (11, 53, 4), (14, 15, 0), (15, 200, 0)] : List (Nat × Nat × Int)), ∀ x ∈ dkAll 6 z.2.1 z.2.2, decode cX9_isWithin (z.1 + x.1) = .ok (x.2.1, x.2.2) := by decide +kernel
theorem kd_X9_isWithin : rDec 144 6 cX9_isWithin := fun bs h => by
  cases (show codeT[144]? = some k_X9_isWithin from rfl).symm.trans h
  exact (List.forall_mem_cons.mpr ⟨kd_X9_isWithin_0, fun _ h => absurd h List.not_mem_nil⟩ : ∀ bl ∈ k_X9_isWithin, ∀ z ∈ bl, ∀ x ∈ dkAll 6 z.2.1 z.2.2, decode cX9_isWithin (z.1 + x.1) = .ok (x.2.1, x.2.2))
theorem kd_X9_kickOff_0 : ∀ z ∈ ([(0, 4, 0), (1, 0, 1), (2, 201, 170)] : List (Nat × Nat × Int)), ∀ x ∈ dkAll 1 z.2.1 z.2.2, decode cX9_kickOff (z.1 + x.1) = .ok (x.2.1, x.2.2) := by decide +kernel
theorem kd_X9_kickOff : rDec 145 1 cX9_kickOff := fun bs h => by
  cases (show codeT[145]? = some k_X9_kickOff from rfl).symm.trans h
  exact (List.forall_mem_cons.mpr ⟨kd_X9_kickOff_0, fun _ h => absurd h List.not_mem_nil⟩ : ∀ bl ∈ k_X9_kickOff, ∀ z ∈ bl, ∀ x ∈ dkAll 1 z.2.1 z.2.2, decode cX9_kickOff (z.1 + x.1) = .ok (x.2.1, x.2.2))
theorem kd_X9_knownBit_0 : ∀ z ∈ ([(0, 4, 0), (1, 0, 1), (2, 201, 160)] : List (Nat × Nat × Int)), ∀ x ∈ dkAll 1 z.2.1 z.2.2, decode cX9_knownBit (z.1 + x.1) = .ok (x.2.1, x.2.2) := by decide +kernel
theorem kd_X9_knownBit : rDec 146 1 cX9_knownBit := fun bs h => by
  cases (show codeT[146]? = some k_X9_knownBit from rfl).symm.trans h
  exact (List.forall_mem_cons.mpr ⟨kd_X9_knownBit_0, fun _ h => absurd h List.not_mem_nil⟩ : ∀ bl ∈ k_X9_knownBit, ∀ z ∈ bl, ∀ x ∈ dkAll 1 z.2.1 z.2.2, decode cX9_knownBit (z.1 + x.1) = .ok (x.2.1, x.2.2))
theorem kd_X9_knownClub_0 : ∀ z ∈ ([(0, 0, 1), (1, 34, 14), (4, 0, 1), (5, 4, 0), (6, 70, 56), (9, 201, 156), (12, 40, 14), (15, 202, 5)] : List (Nat × Nat × Int)), ∀ x ∈ dkAll 3 z.2.1 z.2.2, decode cX9_knownClub (z.1 + x.1) = .ok (x.2.1, x.2.2) := by decide +kernel
theorem kd_X9_knownClub : rDec 147 3 cX9_knownClub := fun bs h => by
  cases (show codeT[147]? = some k_X9_knownClub from rfl).symm.trans h
  exact (List.forall_mem_cons.mpr ⟨kd_X9_knownClub_0, fun _ h => absurd h List.not_mem_nil⟩ : ∀ bl ∈ k_X9_knownClub, ∀ z ∈ bl, ∀ x ∈ dkAll 3 z.2.1 z.2.2, decode cX9_knownClub (z.1 + x.1) = .ok (x.2.1, x.2.2))
theorem kd_X9_knownFixture_0 : ∀ z ∈ ([(0, 0, 1), (1, 34, 14), (4, 0, 1), (5, 4, 0), (6, 70, 60), (9, 201, 156), (12, 40, 14), (15, 202, 6)] : List (Nat × Nat × Int)), ∀ x ∈ dkAll 3 z.2.1 z.2.2, decode cX9_knownFixture (z.1 + x.1) = .ok (x.2.1, x.2.2) := by decide +kernel
theorem kd_X9_knownFixture : rDec 148 3 cX9_knownFixture := fun bs h => by
  cases (show codeT[148]? = some k_X9_knownFixture from rfl).symm.trans h
  exact (List.forall_mem_cons.mpr ⟨kd_X9_knownFixture_0, fun _ h => absurd h List.not_mem_nil⟩ : ∀ bl ∈ k_X9_knownFixture, ∀ z ∈ bl, ∀ x ∈ dkAll 3 z.2.1 z.2.2, decode cX9_knownFixture (z.1 + x.1) = .ok (x.2.1, x.2.2))
theorem kd_X9_knownMatch_0 : ∀ z ∈ ([(0, 4, 0), (1, 70, 61), (4, 52, 14), (7, 202, 7)] : List (Nat × Nat × Int)), ∀ x ∈ dkAll 3 z.2.1 z.2.2, decode cX9_knownMatch (z.1 + x.1) = .ok (x.2.1, x.2.2) := by decide +kernel
theorem kd_X9_knownMatch : rDec 149 3 cX9_knownMatch := fun bs h => by
  cases (show codeT[149]? = some k_X9_knownMatch from rfl).symm.trans h
  exact (List.forall_mem_cons.mpr ⟨kd_X9_knownMatch_0, fun _ h => absurd h List.not_mem_nil⟩ : ∀ bl ∈ k_X9_knownMatch, ∀ z ∈ bl, ∀ x ∈ dkAll 3 z.2.1 z.2.2, decode cX9_knownMatch (z.1 + x.1) = .ok (x.2.1, x.2.2))
theorem kd_X9_knownPlayer_0 : ∀ z ∈ ([(0, 0, 1), (1, 34, 20), (4, 0, 1), (5, 4, 0), (6, 70, 64), (9, 201, 156), (12, 41, 9), (21, 202, 8)] : List (Nat × Nat × Int)), ∀ x ∈ dkAll 3 z.2.1 z.2.2, decode cX9_knownPlayer (z.1 + x.1) = .ok (x.2.1, x.2.2) := by decide +kernel
theorem kd_X9_knownPlayer : rDec 150 3 cX9_knownPlayer := fun bs h => by
  cases (show codeT[150]? = some k_X9_knownPlayer from rfl).symm.trans h
  exact (List.forall_mem_cons.mpr ⟨kd_X9_knownPlayer_0, fun _ h => absurd h List.not_mem_nil⟩ : ∀ bl ∈ k_X9_knownPlayer, ∀ z ∈ bl, ∀ x ∈ dkAll 3 z.2.1 z.2.2, decode cX9_knownPlayer (z.1 + x.1) = .ok (x.2.1, x.2.2))
theorem kd_X9_lend_0 : ∀ z ∈ ([(0, 4, 0), (1, 0, 1), (2, 201, 160)] : List (Nat × Nat × Int)), ∀ x ∈ dkAll 1 z.2.1 z.2.2, decode cX9_lend (z.1 + x.1) = .ok (x.2.1, x.2.2) := by decide +kernel
theorem kd_X9_lend : rDec 151 1 cX9_lend := fun bs h => by
  cases (show codeT[151]? = some k_X9_lend from rfl).symm.trans h
  exact (List.forall_mem_cons.mpr ⟨kd_X9_lend_0, fun _ h => absurd h List.not_mem_nil⟩ : ∀ bl ∈ k_X9_lend, ∀ z ∈ bl, ∀ x ∈ dkAll 1 z.2.1 z.2.2, decode cX9_lend (z.1 + x.1) = .ok (x.2.1, x.2.2))
theorem kd_X9_meanGoals_0 : ∀ z ∈ ([(0, 4, 0), (1, 201, 177), (4, 7, 1), (5, 0, 1), (6, 33, 14), (9, 202, 9)] : List (Nat × Nat × Int)), ∀ x ∈ dkAll 5 z.2.1 z.2.2, decode cX9_meanGoals (z.1 + x.1) = .ok (x.2.1, x.2.2) := by decide +kernel
theorem kd_X9_meanGoals : rDec 152 5 cX9_meanGoals := fun bs h => by
  cases (show codeT[152]? = some k_X9_meanGoals from rfl).symm.trans h
  exact (List.forall_mem_cons.mpr ⟨kd_X9_meanGoals_0, fun _ h => absurd h List.not_mem_nil⟩ : ∀ bl ∈ k_X9_meanGoals, ∀ z ∈ bl, ∀ x ∈ dkAll 5 z.2.1 z.2.2, decode cX9_meanGoals (z.1 + x.1) = .ok (x.2.1, x.2.2))
theorem kd_X9_money_0 : ∀ z ∈ ([(0, 18, 0), (1, 12, 1), (2, 15, 0), (3, 7, 3), (4, 0, 3), (5, 4, 0), (6, 70, 56), (9, 201, 156), (12, 41, 27), (39, 2, 1), (40, 200, 0)] : List (Nat × Nat × Int)), ∀ x ∈ dkAll 2 z.2.1 z.2.2, decode cX9_money (z.1 + x.1) = .ok (x.2.1, x.2.2) := by decide +kernel
theorem kd_X9_money : rDec 153 2 cX9_money := fun bs h => by
  cases (show codeT[153]? = some k_X9_money from rfl).symm.trans h
  exact (List.forall_mem_cons.mpr ⟨kd_X9_money_0, fun _ h => absurd h List.not_mem_nil⟩ : ∀ bl ∈ k_X9_money, ∀ z ∈ bl, ∀ x ∈ dkAll 2 z.2.1 z.2.2, decode cX9_money (z.1 + x.1) = .ok (x.2.1, x.2.2))
theorem kd_X9_name_0 : ∀ z ∈ ([(0, 4, 0), (1, 0, 1), (2, 201, 170)] : List (Nat × Nat × Int)), ∀ x ∈ dkAll 1 z.2.1 z.2.2, decode cX9_name (z.1 + x.1) = .ok (x.2.1, x.2.2) := by decide +kernel
theorem kd_X9_name : rDec 154 1 cX9_name := fun bs h => by
  cases (show codeT[154]? = some k_X9_name from rfl).symm.trans h
  exact (List.forall_mem_cons.mpr ⟨kd_X9_name_0, fun _ h => absurd h List.not_mem_nil⟩ : ∀ bl ∈ k_X9_name, ∀ z ∈ bl, ∀ x ∈ dkAll 1 z.2.1 z.2.2, decode cX9_name (z.1 + x.1) = .ok (x.2.1, x.2.2))
theorem kd_X9_overShare_0 : ∀ z ∈ ([(0, 4, 0), (1, 70, 60), (4, 201, 156), (7, 7, 1), (8, 0, 1), (9, 33, 14), (12, 202, 10)] : List (Nat × Nat × Int)), ∀ x ∈ dkAll 4 z.2.1 z.2.2, decode cX9_overShare (z.1 + x.1) = .ok (x.2.1, x.2.2) := by decide +kernel
theorem kd_X9_overShare : rDec 155 4 cX9_overShare := fun bs h => by
  cases (show codeT[155]? = some k_X9_overShare from rfl).symm.trans h
  exact (List.forall_mem_cons.mpr ⟨kd_X9_overShare_0, fun _ h => absurd h List.not_mem_nil⟩ : ∀ bl ∈ k_X9_overShare, ∀ z ∈ bl, ∀ x ∈ dkAll 4 z.2.1 z.2.2, decode cX9_overShare (z.1 + x.1) = .ok (x.2.1, x.2.2))
theorem kd_X9_plan_0 : ∀ z ∈ ([(0, 0, 1), (1, 201, 153), (4, 33, 13), (7, 202, 2), (17, 4, 0), (18, 0, 1), (19, 201, 178), (22, 33, 12), (25, 4, 0), (26, 0, 1), (27, 201, 155), (30, 15, 2), (31, 41, 13), (34, 202, 11)] : List (Nat × Nat × Int)), ∀ x ∈ dkAll 1 z.2.1 z.2.2, decode cX9_plan (z.1 + x.1) = .ok (x.2.1, x.2.2) := by decide +kernel
theorem kd_X9_plan : rDec 156 1 cX9_plan := fun bs h => by
  cases (show codeT[156]? = some k_X9_plan from rfl).symm.trans h
  exact (List.forall_mem_cons.mpr ⟨kd_X9_plan_0, fun _ h => absurd h List.not_mem_nil⟩ : ∀ bl ∈ k_X9_plan, ∀ z ∈ bl, ∀ x ∈ dkAll 1 z.2.1 z.2.2, decode cX9_plan (z.1 + x.1) = .ok (x.2.1, x.2.2))
theorem kd_X9_points_0 : ∀ z ∈ ([(0, 4, 0), (1, 0, 1), (2, 201, 159)] : List (Nat × Nat × Int)), ∀ x ∈ dkAll 1 z.2.1 z.2.2, decode cX9_points (z.1 + x.1) = .ok (x.2.1, x.2.2) := by decide +kernel
theorem kd_X9_points : rDec 157 1 cX9_points := fun bs h => by
  cases (show codeT[157]? = some k_X9_points from rfl).symm.trans h
  exact (List.forall_mem_cons.mpr ⟨kd_X9_points_0, fun _ h => absurd h List.not_mem_nil⟩ : ∀ bl ∈ k_X9_points, ∀ z ∈ bl, ∀ x ∈ dkAll 1 z.2.1 z.2.2, decode cX9_points (z.1 + x.1) = .ok (x.2.1, x.2.2))
theorem kd_X9_putOff_0 : ∀ z ∈ ([(0, 4, 0), (1, 0, 1), (2, 201, 170)] : List (Nat × Nat × Int)), ∀ x ∈ dkAll 1 z.2.1 z.2.2, decode cX9_putOff (z.1 + x.1) = .ok (x.2.1, x.2.2) := by decide +kernel
theorem kd_X9_putOff : rDec 158 1 cX9_putOff := fun bs h => by
  cases (show codeT[158]? = some k_X9_putOff from rfl).symm.trans h
  exact (List.forall_mem_cons.mpr ⟨kd_X9_putOff_0, fun _ h => absurd h List.not_mem_nil⟩ : ∀ bl ∈ k_X9_putOff, ∀ z ∈ bl, ∀ x ∈ dkAll 1 z.2.1 z.2.2, decode cX9_putOff (z.1 + x.1) = .ok (x.2.1, x.2.2))
theorem kd_X9_registered_0 : ∀ z ∈ ([(0, 4, 0), (1, 0, 1), (2, 201, 160)] : List (Nat × Nat × Int)), ∀ x ∈ dkAll 1 z.2.1 z.2.2, decode cX9_registered (z.1 + x.1) = .ok (x.2.1, x.2.2) := by decide +kernel
theorem kd_X9_registered : rDec 159 1 cX9_registered := fun bs h => by
  cases (show codeT[159]? = some k_X9_registered from rfl).symm.trans h
  exact (List.forall_mem_cons.mpr ⟨kd_X9_registered_0, fun _ h => absurd h List.not_mem_nil⟩ : ∀ bl ∈ k_X9_registered, ∀ z ∈ bl, ∀ x ∈ dkAll 1 z.2.1 z.2.2, decode cX9_registered (z.1 + x.1) = .ok (x.2.1, x.2.2))
theorem kd_X9_resultOf_0 : ∀ z ∈ ([(0, 4, 0), (1, 0, 1), (2, 201, 170)] : List (Nat × Nat × Int)), ∀ x ∈ dkAll 1 z.2.1 z.2.2, decode cX9_resultOf (z.1 + x.1) = .ok (x.2.1, x.2.2) := by decide +kernel
theorem kd_X9_resultOf : rDec 160 1 cX9_resultOf := fun bs h => by
  cases (show codeT[160]? = some k_X9_resultOf from rfl).symm.trans h
  exact (List.forall_mem_cons.mpr ⟨kd_X9_resultOf_0, fun _ h => absurd h List.not_mem_nil⟩ : ∀ bl ∈ k_X9_resultOf, ∀ z ∈ bl, ∀ x ∈ dkAll 1 z.2.1 z.2.2, decode cX9_resultOf (z.1 + x.1) = .ok (x.2.1, x.2.2))
theorem kd_X9_sell_0 : ∀ z ∈ ([(0, 4, 0), (1, 0, 1), (2, 201, 160)] : List (Nat × Nat × Int)), ∀ x ∈ dkAll 1 z.2.1 z.2.2, decode cX9_sell (z.1 + x.1) = .ok (x.2.1, x.2.2) := by decide +kernel
theorem kd_X9_sell : rDec 161 1 cX9_sell := fun bs h => by
  cases (show codeT[161]? = some k_X9_sell from rfl).symm.trans h
  exact (List.forall_mem_cons.mpr ⟨kd_X9_sell_0, fun _ h => absurd h List.not_mem_nil⟩ : ∀ bl ∈ k_X9_sell, ∀ z ∈ bl, ∀ x ∈ dkAll 1 z.2.1 z.2.2, decode cX9_sell (z.1 + x.1) = .ok (x.2.1, x.2.2))
theorem kd_X9_setDerby_0 : ∀ z ∈ ([(0, 4, 0), (1, 0, 1), (2, 201, 159)] : List (Nat × Nat × Int)), ∀ x ∈ dkAll 6 z.2.1 z.2.2, decode cX9_setDerby (z.1 + x.1) = .ok (x.2.1, x.2.2) := by decide +kernel
theorem kd_X9_setDerby : rDec 162 6 cX9_setDerby := fun bs h => by
  cases (show codeT[162]? = some k_X9_setDerby from rfl).symm.trans h
  exact (List.forall_mem_cons.mpr ⟨kd_X9_setDerby_0, fun _ h => absurd h List.not_mem_nil⟩ : ∀ bl ∈ k_X9_setDerby, ∀ z ∈ bl, ∀ x ∈ dkAll 6 z.2.1 z.2.2, decode cX9_setDerby (z.1 + x.1) = .ok (x.2.1, x.2.2))
theorem kd_X9_setWindow_0 : ∀ z ∈ ([(0, 0, 1), (1, 15, 0), (2, 17, 9999), (5, 201, 154), (8, 32, 14), (11, 0, 2), (12, 15, 0), (13, 17, 9999), (16, 201, 154), (19, 33, 13), (22, 202, 12), (32, 4, 0), (33, 0, 1), (34, 72, 66), (37, 4, 0), (38, 0, 2), (39, 72, 67), (42, 4, 0), (43, 201, 179), (46, 200, 0)] : List (Nat × Nat × Int)), ∀ x ∈ dkAll 6 z.2.1 z.2.2, decode cX9_setWindow (z.1 + x.1) = .ok (x.2.1, x.2.2) := by decide +kernel
theorem kd_X9_setWindow : rDec 163 6 cX9_setWindow := fun bs h => by
  cases (show codeT[163]? = some k_X9_setWindow from rfl).symm.trans h
  exact (List.forall_mem_cons.mpr ⟨kd_X9_setWindow_0, fun _ h => absurd h List.not_mem_nil⟩ : ∀ bl ∈ k_X9_setWindow, ∀ z ∈ bl, ∀ x ∈ dkAll 6 z.2.1 z.2.2, decode cX9_setWindow (z.1 + x.1) = .ok (x.2.1, x.2.2))
theorem kd_X9_stateOf_0 : ∀ z ∈ ([(0, 4, 0), (1, 0, 1), (2, 201, 170)] : List (Nat × Nat × Int)), ∀ x ∈ dkAll 7 z.2.1 z.2.2, decode cX9_stateOf (z.1 + x.1) = .ok (x.2.1, x.2.2) := by decide +kernel
theorem kd_X9_stateOf : rDec 164 7 cX9_stateOf := fun bs h => by
  cases (show codeT[164]? = some k_X9_stateOf from rfl).symm.trans h
  exact (List.forall_mem_cons.mpr ⟨kd_X9_stateOf_0, fun _ h => absurd h List.not_mem_nil⟩ : ∀ bl ∈ k_X9_stateOf, ∀ z ∈ bl, ∀ x ∈ dkAll 7 z.2.1 z.2.2, decode cX9_stateOf (z.1 + x.1) = .ok (x.2.1, x.2.2))
theorem kd_X9_strike_0 : ∀ z ∈ ([(0, 4, 0), (1, 0, 1), (2, 201, 159)] : List (Nat × Nat × Int)), ∀ x ∈ dkAll 6 z.2.1 z.2.2, decode cX9_strike (z.1 + x.1) = .ok (x.2.1, x.2.2) := by decide +kernel
theorem kd_X9_strike : rDec 165 6 cX9_strike := fun bs h => by
  cases (show codeT[165]? = some k_X9_strike from rfl).symm.trans h
  exact (List.forall_mem_cons.mpr ⟨kd_X9_strike_0, fun _ h => absurd h List.not_mem_nil⟩ : ∀ bl ∈ k_X9_strike, ∀ z ∈ bl, ∀ x ∈ dkAll 6 z.2.1 z.2.2, decode cX9_strike (z.1 + x.1) = .ok (x.2.1, x.2.2))
theorem kd_X9_takePoints_0 : ∀ z ∈ ([(0, 4, 0), (1, 0, 1), (2, 201, 159)] : List (Nat × Nat × Int)), ∀ x ∈ dkAll 1 z.2.1 z.2.2, decode cX9_takePoints (z.1 + x.1) = .ok (x.2.1, x.2.2) := by decide +kernel
theorem kd_X9_takePoints : rDec 166 1 cX9_takePoints := fun bs h => by
  cases (show codeT[166]? = some k_X9_takePoints from rfl).symm.trans h
  exact (List.forall_mem_cons.mpr ⟨kd_X9_takePoints_0, fun _ h => absurd h List.not_mem_nil⟩ : ∀ bl ∈ k_X9_takePoints, ∀ z ∈ bl, ∀ x ∈ dkAll 1 z.2.1 z.2.2, decode cX9_takePoints (z.1 + x.1) = .ok (x.2.1, x.2.2))
theorem kd_X9_wipe_0 : ∀ z ∈ ([(0, 4, 0), (1, 70, 61), (4, 52, 13), (7, 4, 0), (8, 70, 58), (11, 201, 166), (14, 32, 13), (27, 4, 0), (28, 70, 58), (31, 201, 180), (34, 7, 1), (35, 4, 0), (36, 70, 58), (39, 69, 11), (42, 22, 0), (43, 15, 2), (44, 21, 0), (45, 15, 0), (46, 15, 0), (47, 201, 163), (50, 201, 164), (53, 0, 1), (54, 200, 0)] : List (Nat × Nat × Int)), ∀ x ∈ dkAll 1 z.2.1 z.2.2, decode cX9_wipe (z.1 + x.1) = .ok (x.2.1, x.2.2) := by decide +kernel
theorem kd_X9_wipe : rDec 167 1 cX9_wipe := fun bs h => by
  cases (show codeT[167]? = some k_X9_wipe from rfl).symm.trans h
  exact (List.forall_mem_cons.mpr ⟨kd_X9_wipe_0, fun _ h => absurd h List.not_mem_nil⟩ : ∀ bl ∈ k_X9_wipe, ∀ z ∈ bl, ∀ x ∈ dkAll 1 z.2.1 z.2.2, decode cX9_wipe (z.1 + x.1) = .ok (x.2.1, x.2.2))
theorem kd_X9_yellows_0 : ∀ z ∈ ([(0, 4, 0), (1, 0, 1), (2, 201, 160)] : List (Nat × Nat × Int)), ∀ x ∈ dkAll 1 z.2.1 z.2.2, decode cX9_yellows (z.1 + x.1) = .ok (x.2.1, x.2.2) := by decide +kernel
theorem kd_X9_yellows : rDec 168 1 cX9_yellows := fun bs h => by
  cases (show codeT[168]? = some k_X9_yellows from rfl).symm.trans h
  exact (List.forall_mem_cons.mpr ⟨kd_X9_yellows_0, fun _ h => absurd h List.not_mem_nil⟩ : ∀ bl ∈ k_X9_yellows, ∀ z ∈ bl, ∀ x ∈ dkAll 1 z.2.1 z.2.2, decode cX9_yellows (z.1 + x.1) = .ok (x.2.1, x.2.2))
end
section
/-! what is known of every method and of every call -/
theorem me_J7_fill_53178 : rMeth 1 := fun o rk hh nL ini h => by
  cases (show mI[1]? = some _ from rfl).symm.trans h
  exact ⟨yJ7_fill_53178, cJ7_fill_53178, _, _, rfl, rfl, by decide +kernel, ⟨by decide +kernel, by decide +kernel⟩, mA 183 (by decide +kernel), mA 44 (by decide +kernel), rfl, fun h => (by first | rfl | cases h), trivial, kd_J7_fill_53178, by decide⟩
theorem me_Jx35411_hasNext_aae02 : rMeth 2 := fun o rk hh nL ini h => by
  cases (show mI[2]? = some _ from rfl).symm.trans h
  exact ⟨yJx35411_hasNext_aae02, cJx35411_hasNext_aae02, _, _, rfl, rfl, by decide +kernel, ⟨by decide +kernel, by decide +kernel⟩, mA 669 (by decide +kernel), mA 46 (by decide +kernel), rfl, fun h => (by first | rfl | cases h), trivial, kd_Jx35411_hasNext_aae02, by decide⟩
theorem me_Jx35411_init_45d68 : rMeth 3 := fun o rk hh nL ini h => by
  cases (show mI[3]? = some _ from rfl).symm.trans h
  exact ⟨yJx35411_init_45d68, cJx35411_init_45d68, _, _, rfl, rfl, by decide +kernel, ⟨by decide +kernel, by decide +kernel⟩, mA 651 (by decide +kernel), mA 46 (by decide +kernel), rfl, fun h => (by first | rfl | cases h), trivial, kd_Jx35411_init_45d68, by decide⟩
theorem me_Jx4a65c_add_72be8 : rMeth 4 := fun o rk hh nL ini h => by
  cases (show mI[4]? = some _ from rfl).symm.trans h
  exact ⟨yJx4a65c_add_72be8, cJx4a65c_add_72be8, _, _, rfl, rfl, by decide +kernel, ⟨by decide +kernel, by decide +kernel⟩, mA 246 (by decide +kernel), mA 35 (by decide +kernel), rfl, fun h => (by first | rfl | cases h), trivial, kd_Jx4a65c_add_72be8, by decide⟩
theorem me_Jx4a65c_add_9ea2d : rMeth 5 := fun o rk hh nL ini h => by
  cases (show mI[5]? = some _ from rfl).symm.trans h
  exact ⟨yJx4a65c_add_9ea2d, cJx4a65c_add_9ea2d, _, _, rfl, rfl, by decide +kernel, ⟨by decide +kernel, by decide +kernel⟩, mA 243 (by decide +kernel), mA 35 (by decide +kernel), rfl, fun h => (by first | rfl | cases h), trivial, kd_Jx4a65c_add_9ea2d, by decide⟩
theorem me_Jx4a65c_clear_da8c8 : rMeth 6 := fun o rk hh nL ini h => by
  cases (show mI[6]? = some _ from rfl).symm.trans h
  exact ⟨yJx4a65c_clear_da8c8, cJx4a65c_clear_da8c8, _, _, rfl, rfl, by decide +kernel, ⟨by decide +kernel, by decide +kernel⟩, mA 332 (by decide +kernel), mA 35 (by decide +kernel), rfl, fun h => (by first | rfl | cases h), trivial, kd_Jx4a65c_clear_da8c8, by decide⟩
theorem me_Jx4a65c_grow_92f84 : rMeth 7 := fun o rk hh nL ini h => by
  cases (show mI[7]? = some _ from rfl).symm.trans h
  exact ⟨yJx4a65c_grow_92f84, cJx4a65c_grow_92f84, _, _, rfl, rfl, by decide +kernel, ⟨by decide +kernel, by decide +kernel⟩, mA 252 (by decide +kernel), mA 35 (by decide +kernel), ⟨_, rfl, (by first | exact Or.inl ⟨_, rfl⟩ | exact Or.inr ⟨_, rfl⟩)⟩, fun h => (by first | rfl | cases h), trivial, kd_Jx4a65c_grow_92f84, by decide⟩
theorem me_Jx4a65c_grow_d5877 : rMeth 8 := fun o rk hh nL ini h => by
  cases (show mI[8]? = some _ from rfl).symm.trans h
  exact ⟨yJx4a65c_grow_d5877, cJx4a65c_grow_d5877, _, _, rfl, rfl, by decide +kernel, ⟨by decide +kernel, by decide +kernel⟩, mA 249 (by decide +kernel), mA 35 (by decide +kernel), ⟨_, rfl, (by first | exact Or.inl ⟨_, rfl⟩ | exact Or.inr ⟨_, rfl⟩)⟩, fun h => (by first | rfl | cases h), trivial, kd_Jx4a65c_grow_d5877, by decide⟩
theorem me_Jx4a65c_init_da8c8 : rMeth 9 := fun o rk hh nL ini h => by
  cases (show mI[9]? = some _ from rfl).symm.trans h
  exact ⟨yJx4a65c_init_da8c8, cJx4a65c_init_da8c8, _, _, rfl, rfl, by decide +kernel, ⟨by decide +kernel, by decide +kernel⟩, mA 64 (by decide +kernel), mA 35 (by decide +kernel), rfl, fun h => (by first | rfl | cases h), trivial, kd_Jx4a65c_init_da8c8, by decide⟩
theorem me_Jx4a65c_isEmpty_aae02 : rMeth 10 := fun o rk hh nL ini h => by
  cases (show mI[10]? = some _ from rfl).symm.trans h
  exact ⟨yJx4a65c_isEmpty_aae02, cJx4a65c_isEmpty_aae02, _, _, rfl, rfl, by decide +kernel, ⟨by decide +kernel, by decide +kernel⟩, mA 560 (by decide +kernel), mA 35 (by decide +kernel), rfl, fun h => (by first | rfl | cases h), trivial, kd_Jx4a65c_isEmpty_aae02, by decide⟩
theorem me_Jx4a65c_iterator_32c93 : rMeth 11 := fun o rk hh nL ini h => by
  cases (show mI[11]? = some _ from rfl).symm.trans h
  exact ⟨yJx4a65c_iterator_32c93, cJx4a65c_iterator_32c93, _, _, rfl, rfl, by decide +kernel, ⟨by decide +kernel, by decide +kernel⟩, mA 646 (by decide +kernel), mA 35 (by decide +kernel), ⟨_, rfl, (by first | exact Or.inl ⟨_, rfl⟩ | exact Or.inr ⟨_, rfl⟩)⟩, fun h => (by first | rfl | cases h), trivial, kd_Jx4a65c_iterator_32c93, by decide⟩
theorem me_Jx4a65c_size_8abf5 : rMeth 12 := fun o rk hh nL ini h => by
  cases (show mI[12]? = some _ from rfl).symm.trans h
  exact ⟨yJx4a65c_size_8abf5, cJx4a65c_size_8abf5, _, _, rfl, rfl, by decide +kernel, ⟨by decide +kernel, by decide +kernel⟩, mA 164 (by decide +kernel), mA 35 (by decide +kernel), rfl, fun h => (by first | rfl | cases h), trivial, kd_Jx4a65c_size_8abf5, by decide⟩
theorem me_Jxa1e45_init_da8c8 : rMeth 13 := fun o rk hh nL ini h => by
  cases (show mI[13]? = some _ from rfl).symm.trans h
  exact ⟨yJxa1e45_init_da8c8, cJxa1e45_init_da8c8, _, _, rfl, rfl, by decide +kernel, ⟨by decide +kernel, by decide +kernel⟩, mA 70 (by decide +kernel), mA 33 (by decide +kernel), rfl, fun h => (by first | rfl | cases h), trivial, kd_Jxa1e45_init_da8c8, by decide⟩
theorem me_Jxc12de_init_da8c8 : rMeth 14 := fun o rk hh nL ini h => by
  cases (show mI[14]? = some _ from rfl).symm.trans h
  exact ⟨yJxc12de_init_da8c8, cJxc12de_init_da8c8, _, _, rfl, rfl, by decide +kernel, ⟨by decide +kernel, by decide +kernel⟩, mA 67 (by decide +kernel), mA 34 (by decide +kernel), rfl, fun h => (by first | rfl | cases h), trivial, kd_Jxc12de_init_da8c8, by decide⟩
theorem me_L_abandon : rMeth 15 := fun o rk hh nL ini h => by
  cases (show mI[15]? = some _ from rfl).symm.trans h
  exact ⟨yL_abandon, cL_abandon, _, _, rfl, rfl, by decide +kernel, ⟨by decide +kernel, by decide +kernel⟩, mA 434 (by decide +kernel), mA 31 (by decide +kernel), rfl, fun h => (by first | rfl | cases h), ⟨⟨rfl, rfl, rfl, by decide, "java/lang/IllegalStateException", rfl, mA 196 (by decide +kernel), mA 213 (by decide +kernel)⟩, trivial⟩, kd_L_abandon, by decide⟩
theorem me_L_addClub : rMeth 16 := fun o rk hh nL ini h => by
  cases (show mI[16]? = some _ from rfl).symm.trans h
  exact ⟨yL_addClub, cL_addClub, _, _, rfl, rfl, by decide +kernel, ⟨by decide +kernel, by decide +kernel⟩, mA 194 (by decide +kernel), mA 31 (by decide +kernel), rfl, fun h => (by first | rfl | cases h), ⟨⟨rfl, rfl, rfl, by decide, "java/lang/IllegalArgumentException", rfl, mA 195 (by decide +kernel), mA 208 (by decide +kernel)⟩, ⟨⟨rfl, rfl, rfl, by decide, "java/lang/IllegalStateException", rfl, mA 196 (by decide +kernel), mA 213 (by decide +kernel)⟩, trivial⟩⟩, kd_L_addClub, by decide⟩
theorem me_L_addPlayer : rMeth 17 := fun o rk hh nL ini h => by
  cases (show mI[17]? = some _ from rfl).symm.trans h
  exact ⟨yL_addPlayer, cL_addPlayer, _, _, rfl, rfl, by decide +kernel, ⟨by decide +kernel, by decide +kernel⟩, mA 258 (by decide +kernel), mA 31 (by decide +kernel), rfl, fun h => (by first | rfl | cases h), ⟨⟨rfl, rfl, rfl, by decide, "java/lang/IndexOutOfBoundsException", rfl, mA 259 (by decide +kernel), mA 268 (by decide +kernel)⟩, ⟨⟨rfl, rfl, rfl, by decide, "java/lang/IllegalStateException", rfl, mA 196 (by decide +kernel), mA 213 (by decide +kernel)⟩, trivial⟩⟩, kd_L_addPlayer, by decide⟩
theorem me_L_appeal : rMeth 18 := fun o rk hh nL ini h => by
  cases (show mI[18]? = some _ from rfl).symm.trans h
  exact ⟨yL_appeal, cL_appeal, _, _, rfl, rfl, by decide +kernel, ⟨by decide +kernel, by decide +kernel⟩, mA 441 (by decide +kernel), mA 31 (by decide +kernel), rfl, fun h => (by first | rfl | cases h), ⟨⟨rfl, rfl, rfl, by decide, "java/lang/IndexOutOfBoundsException", rfl, mA 259 (by decide +kernel), mA 268 (by decide +kernel)⟩, trivial⟩, kd_L_appeal, by decide⟩
theorem me_L_ban : rMeth 19 := fun o rk hh nL ini h => by
  cases (show mI[19]? = some _ from rfl).symm.trans h
  exact ⟨yL_ban, cL_ban, _, _, rfl, rfl, by decide +kernel, ⟨by decide +kernel, by decide +kernel⟩, mA 459 (by decide +kernel), mA 31 (by decide +kernel), rfl, fun h => (by first | rfl | cases h), ⟨⟨rfl, rfl, rfl, by decide, "java/lang/IndexOutOfBoundsException", rfl, mA 259 (by decide +kernel), mA 268 (by decide +kernel)⟩, trivial⟩, kd_L_ban, by decide⟩
theorem me_L_callBack : rMeth 20 := fun o rk hh nL ini h => by
  cases (show mI[20]? = some _ from rfl).symm.trans h
  exact ⟨yL_callBack, cL_callBack, _, _, rfl, rfl, by decide +kernel, ⟨by decide +kernel, by decide +kernel⟩, mA 307 (by decide +kernel), mA 31 (by decide +kernel), rfl, fun h => (by first | rfl | cases h), ⟨⟨rfl, rfl, rfl, by decide, "java/lang/IndexOutOfBoundsException", rfl, mA 259 (by decide +kernel), mA 268 (by decide +kernel)⟩, ⟨⟨rfl, rfl, rfl, by decide, "java/lang/UnsupportedOperationException", rfl, mA 289 (by decide +kernel), mA 297 (by decide +kernel)⟩, trivial⟩⟩, kd_L_callBack, by decide⟩
theorem me_L_card : rMeth 21 := fun o rk hh nL ini h => by
  cases (show mI[21]? = some _ from rfl).symm.trans h
  exact ⟨yL_card, cL_card, _, _, rfl, rfl, by decide +kernel, ⟨by decide +kernel, by decide +kernel⟩, mA 413 (by decide +kernel), mA 31 (by decide +kernel), rfl, fun h => (by first | rfl | cases h), ⟨⟨rfl, rfl, rfl, by decide, "java/lang/IndexOutOfBoundsException", rfl, mA 259 (by decide +kernel), mA 268 (by decide +kernel)⟩, ⟨⟨rfl, rfl, rfl, by decide, "java/lang/IllegalStateException", rfl, mA 196 (by decide +kernel), mA 213 (by decide +kernel)⟩, ⟨⟨rfl, rfl, rfl, by decide, "java/lang/UnsupportedOperationException", rfl, mA 289 (by decide +kernel), mA 297 (by decide +kernel)⟩, trivial⟩⟩⟩, kd_L_card, by decide⟩
theorem me_L_change : rMeth 22 := fun o rk hh nL ini h => by
  cases (show mI[22]? = some _ from rfl).symm.trans h
  exact ⟨yL_change, cL_change, _, _, rfl, rfl, by decide +kernel, ⟨by decide +kernel, by decide +kernel⟩, mA 420 (by decide +kernel), mA 31 (by decide +kernel), rfl, fun h => (by first | rfl | cases h), ⟨⟨rfl, rfl, rfl, by decide, "java/lang/IndexOutOfBoundsException", rfl, mA 259 (by decide +kernel), mA 268 (by decide +kernel)⟩, ⟨⟨rfl, rfl, rfl, by decide, "java/lang/IllegalStateException", rfl, mA 196 (by decide +kernel), mA 213 (by decide +kernel)⟩, ⟨⟨rfl, rfl, rfl, by decide, "java/lang/UnsupportedOperationException", rfl, mA 289 (by decide +kernel), mA 297 (by decide +kernel)⟩, trivial⟩⟩⟩, kd_L_change, by decide⟩
theorem me_L_clubAt : rMeth 23 := fun o rk hh nL ini h => by
  cases (show mI[23]? = some _ from rfl).symm.trans h
  exact ⟨yL_clubAt, cL_clubAt, _, _, rfl, rfl, by decide +kernel, ⟨by decide +kernel, by decide +kernel⟩, mA 501 (by decide +kernel), mA 31 (by decide +kernel), rfl, fun h => (by first | rfl | cases h), ⟨⟨rfl, rfl, rfl, by decide, "java/lang/IllegalArgumentException", rfl, mA 195 (by decide +kernel), mA 208 (by decide +kernel)⟩, ⟨⟨rfl, rfl, rfl, by decide, "java/lang/IndexOutOfBoundsException", rfl, mA 259 (by decide +kernel), mA 268 (by decide +kernel)⟩, trivial⟩⟩, kd_L_clubAt, by decide⟩
theorem me_L_divisionOf : rMeth 24 := fun o rk hh nL ini h => by
  cases (show mI[24]? = some _ from rfl).symm.trans h
  exact ⟨yL_divisionOf, cL_divisionOf, _, _, rfl, rfl, by decide +kernel, ⟨by decide +kernel, by decide +kernel⟩, mA 533 (by decide +kernel), mA 31 (by decide +kernel), rfl, fun h => (by first | rfl | cases h), ⟨⟨rfl, rfl, rfl, by decide, "java/lang/IndexOutOfBoundsException", rfl, mA 259 (by decide +kernel), mA 268 (by decide +kernel)⟩, trivial⟩, kd_L_divisionOf, by decide⟩
theorem me_L_end : rMeth 25 := fun o rk hh nL ini h => by
  cases (show mI[25]? = some _ from rfl).symm.trans h
  exact ⟨yL_end, cL_end, _, _, rfl, rfl, by decide +kernel, ⟨by decide +kernel, by decide +kernel⟩, mA 427 (by decide +kernel), mA 31 (by decide +kernel), rfl, fun h => (by first | rfl | cases h), ⟨⟨rfl, rfl, rfl, by decide, "java/lang/IllegalStateException", rfl, mA 196 (by decide +kernel), mA 213 (by decide +kernel)⟩, trivial⟩, kd_L_end, by decide⟩
theorem me_L_endSeason : rMeth 26 := fun o rk hh nL ini h => by
  cases (show mI[26]? = some _ from rfl).symm.trans h
  exact ⟨yL_endSeason, cL_endSeason, _, _, rfl, rfl, by decide +kernel, ⟨by decide +kernel, by decide +kernel⟩, mA 547 (by decide +kernel), mA 31 (by decide +kernel), rfl, fun h => (by first | rfl | cases h), ⟨⟨rfl, rfl, rfl, by decide, "java/lang/IllegalStateException", rfl, mA 196 (by decide +kernel), mA 213 (by decide +kernel)⟩, trivial⟩, kd_L_endSeason, by decide⟩
theorem me_L_fixture : rMeth 27 := fun o rk hh nL ini h => by
  cases (show mI[27]? = some _ from rfl).symm.trans h
  exact ⟨yL_fixture, cL_fixture, _, _, rfl, rfl, by decide +kernel, ⟨by decide +kernel, by decide +kernel⟩, mA 346 (by decide +kernel), mA 31 (by decide +kernel), rfl, fun h => (by first | rfl | cases h), ⟨⟨rfl, rfl, rfl, by decide, "java/lang/IndexOutOfBoundsException", rfl, mA 259 (by decide +kernel), mA 268 (by decide +kernel)⟩, ⟨⟨rfl, rfl, rfl, by decide, "java/lang/IllegalArgumentException", rfl, mA 195 (by decide +kernel), mA 208 (by decide +kernel)⟩, trivial⟩⟩, kd_L_fixture, by decide⟩
theorem me_L_goOn : rMeth 28 := fun o rk hh nL ini h => by
  cases (show mI[28]? = some _ from rfl).symm.trans h
  exact ⟨yL_goOn, cL_goOn, _, _, rfl, rfl, by decide +kernel, ⟨by decide +kernel, by decide +kernel⟩, mA 281 (by decide +kernel), mA 31 (by decide +kernel), rfl, fun h => (by first | rfl | cases h), ⟨⟨rfl, rfl, rfl, by decide, "java/lang/IllegalArgumentException", rfl, mA 195 (by decide +kernel), mA 208 (by decide +kernel)⟩, ⟨⟨rfl, rfl, rfl, by decide, "java/lang/IllegalStateException", rfl, mA 196 (by decide +kernel), mA 213 (by decide +kernel)⟩, trivial⟩⟩, kd_L_goOn, by decide⟩
theorem me_L_goal : rMeth 29 := fun o rk hh nL ini h => by
  cases (show mI[29]? = some _ from rfl).symm.trans h
  exact ⟨yL_goal, cL_goal, _, _, rfl, rfl, by decide +kernel, ⟨by decide +kernel, by decide +kernel⟩, mA 403 (by decide +kernel), mA 31 (by decide +kernel), rfl, fun h => (by first | rfl | cases h), ⟨⟨rfl, rfl, rfl, by decide, "java/lang/IndexOutOfBoundsException", rfl, mA 259 (by decide +kernel), mA 268 (by decide +kernel)⟩, ⟨⟨rfl, rfl, rfl, by decide, "java/lang/IllegalStateException", rfl, mA 196 (by decide +kernel), mA 213 (by decide +kernel)⟩, ⟨⟨rfl, rfl, rfl, by decide, "java/lang/UnsupportedOperationException", rfl, mA 289 (by decide +kernel), mA 297 (by decide +kernel)⟩, trivial⟩⟩⟩, kd_L_goal, by decide⟩
theorem me_L_isGuilty : rMeth 30 := fun o rk hh nL ini h => by
  cases (show mI[30]? = some _ from rfl).symm.trans h
  exact ⟨yL_isGuilty, cL_isGuilty, _, _, rfl, rfl, by decide +kernel, ⟨by decide +kernel, by decide +kernel⟩, mA 473 (by decide +kernel), mA 31 (by decide +kernel), rfl, fun h => (by first | rfl | cases h), ⟨⟨rfl, rfl, rfl, by decide, "java/lang/IndexOutOfBoundsException", rfl, mA 259 (by decide +kernel), mA 268 (by decide +kernel)⟩, ⟨⟨rfl, rfl, rfl, by decide, "java/lang/UnsupportedOperationException", rfl, mA 289 (by decide +kernel), mA 297 (by decide +kernel)⟩, trivial⟩⟩, kd_L_isGuilty, by decide⟩
theorem me_L_kickOff : rMeth 31 := fun o rk hh nL ini h => by
  cases (show mI[31]? = some _ from rfl).symm.trans h
  exact ⟨yL_kickOff, cL_kickOff, _, _, rfl, rfl, by decide +kernel, ⟨by decide +kernel, by decide +kernel⟩, mA 370 (by decide +kernel), mA 31 (by decide +kernel), rfl, fun h => (by first | rfl | cases h), ⟨⟨rfl, rfl, rfl, by decide, "java/lang/IndexOutOfBoundsException", rfl, mA 259 (by decide +kernel), mA 268 (by decide +kernel)⟩, ⟨⟨rfl, rfl, rfl, by decide, "java/lang/UnsupportedOperationException", rfl, mA 289 (by decide +kernel), mA 297 (by decide +kernel)⟩, ⟨⟨rfl, rfl, rfl, by decide, "java/lang/IllegalStateException", rfl, mA 196 (by decide +kernel), mA 213 (by decide +kernel)⟩, trivial⟩⟩⟩, kd_L_kickOff, by decide⟩
theorem me_L_lend : rMeth 32 := fun o rk hh nL ini h => by
  cases (show mI[32]? = some _ from rfl).symm.trans h
  exact ⟨yL_lend, cL_lend, _, _, rfl, rfl, by decide +kernel, ⟨by decide +kernel, by decide +kernel⟩, mA 300 (by decide +kernel), mA 31 (by decide +kernel), rfl, fun h => (by first | rfl | cases h), ⟨⟨rfl, rfl, rfl, by decide, "java/lang/IndexOutOfBoundsException", rfl, mA 259 (by decide +kernel), mA 268 (by decide +kernel)⟩, ⟨⟨rfl, rfl, rfl, by decide, "java/lang/IllegalArgumentException", rfl, mA 195 (by decide +kernel), mA 208 (by decide +kernel)⟩, ⟨⟨rfl, rfl, rfl, by decide, "java/lang/UnsupportedOperationException", rfl, mA 289 (by decide +kernel), mA 297 (by decide +kernel)⟩, trivial⟩⟩⟩, kd_L_lend, by decide⟩
theorem me_L_meanGoals : rMeth 33 := fun o rk hh nL ini h => by
  cases (show mI[33]? = some _ from rfl).symm.trans h
  exact ⟨yL_meanGoals, cL_meanGoals, _, _, rfl, rfl, by decide +kernel, ⟨by decide +kernel, by decide +kernel⟩, mA 580 (by decide +kernel), mA 31 (by decide +kernel), rfl, fun h => (by first | rfl | cases h), ⟨⟨rfl, rfl, rfl, by decide, "java/lang/ArithmeticException", rfl, mA 568 (by decide +kernel), mA 569 (by decide +kernel)⟩, trivial⟩, kd_L_meanGoals, by decide⟩
theorem me_L_name : rMeth 34 := fun o rk hh nL ini h => by
  cases (show mI[34]? = some _ from rfl).symm.trans h
  exact ⟨yL_name, cL_name, _, _, rfl, rfl, by decide +kernel, ⟨by decide +kernel, by decide +kernel⟩, mA 360 (by decide +kernel), mA 31 (by decide +kernel), rfl, fun h => (by first | rfl | cases h), ⟨⟨rfl, rfl, rfl, by decide, "java/lang/IndexOutOfBoundsException", rfl, mA 259 (by decide +kernel), mA 268 (by decide +kernel)⟩, ⟨⟨rfl, rfl, rfl, by decide, "java/lang/UnsupportedOperationException", rfl, mA 289 (by decide +kernel), mA 297 (by decide +kernel)⟩, ⟨⟨rfl, rfl, rfl, by decide, "java/lang/IllegalArgumentException", rfl, mA 195 (by decide +kernel), mA 208 (by decide +kernel)⟩, ⟨⟨rfl, rfl, rfl, by decide, "java/lang/IllegalStateException", rfl, mA 196 (by decide +kernel), mA 213 (by decide +kernel)⟩, trivial⟩⟩⟩⟩, kd_L_name, by decide⟩
theorem me_L_overShare : rMeth 35 := fun o rk hh nL ini h => by
  cases (show mI[35]? = some _ from rfl).symm.trans h
  exact ⟨yL_overShare, cL_overShare, _, _, rfl, rfl, by decide +kernel, ⟨by decide +kernel, by decide +kernel⟩, mA 567 (by decide +kernel), mA 31 (by decide +kernel), rfl, fun h => (by first | rfl | cases h), ⟨⟨rfl, rfl, rfl, by decide, "java/lang/ArithmeticException", rfl, mA 568 (by decide +kernel), mA 569 (by decide +kernel)⟩, trivial⟩, kd_L_overShare, by decide⟩
theorem me_L_plan : rMeth 36 := fun o rk hh nL ini h => by
  cases (show mI[36]? = some _ from rfl).symm.trans h
  exact ⟨yL_plan, cL_plan, _, _, rfl, rfl, by decide +kernel, ⟨by decide +kernel, by decide +kernel⟩, mA 321 (by decide +kernel), mA 31 (by decide +kernel), rfl, fun h => (by first | rfl | cases h), ⟨⟨rfl, rfl, rfl, by decide, "java/lang/IllegalArgumentException", rfl, mA 195 (by decide +kernel), mA 208 (by decide +kernel)⟩, ⟨⟨rfl, rfl, rfl, by decide, "java/lang/IllegalStateException", rfl, mA 196 (by decide +kernel), mA 213 (by decide +kernel)⟩, ⟨⟨rfl, rfl, rfl, by decide, "java/util/NoSuchElementException", rfl, mA 322 (by decide +kernel), mA 333 (by decide +kernel)⟩, trivial⟩⟩⟩, kd_L_plan, by decide⟩
theorem me_L_points : rMeth 37 := fun o rk hh nL ini h => by
  cases (show mI[37]? = some _ from rfl).symm.trans h
  exact ⟨yL_points, cL_points, _, _, rfl, rfl, by decide +kernel, ⟨by decide +kernel, by decide +kernel⟩, mA 526 (by decide +kernel), mA 31 (by decide +kernel), rfl, fun h => (by first | rfl | cases h), ⟨⟨rfl, rfl, rfl, by decide, "java/lang/IndexOutOfBoundsException", rfl, mA 259 (by decide +kernel), mA 268 (by decide +kernel)⟩, trivial⟩, kd_L_points, by decide⟩
theorem me_L_putOff : rMeth 38 := fun o rk hh nL ini h => by
  cases (show mI[38]? = some _ from rfl).symm.trans h
  exact ⟨yL_putOff, cL_putOff, _, _, rfl, rfl, by decide +kernel, ⟨by decide +kernel, by decide +kernel⟩, mA 336 (by decide +kernel), mA 31 (by decide +kernel), rfl, fun h => (by first | rfl | cases h), ⟨⟨rfl, rfl, rfl, by decide, "java/lang/IndexOutOfBoundsException", rfl, mA 259 (by decide +kernel), mA 268 (by decide +kernel)⟩, ⟨⟨rfl, rfl, rfl, by decide, "java/lang/IllegalArgumentException", rfl, mA 195 (by decide +kernel), mA 208 (by decide +kernel)⟩, ⟨⟨rfl, rfl, rfl, by decide, "java/lang/UnsupportedOperationException", rfl, mA 289 (by decide +kernel), mA 297 (by decide +kernel)⟩, trivial⟩⟩⟩, kd_L_putOff, by decide⟩
theorem me_L_registered : rMeth 39 := fun o rk hh nL ini h => by
  cases (show mI[39]? = some _ from rfl).symm.trans h
  exact ⟨yL_registered, cL_registered, _, _, rfl, rfl, by decide +kernel, ⟨by decide +kernel, by decide +kernel⟩, mA 540 (by decide +kernel), mA 31 (by decide +kernel), rfl, fun h => (by first | rfl | cases h), ⟨⟨rfl, rfl, rfl, by decide, "java/lang/IndexOutOfBoundsException", rfl, mA 259 (by decide +kernel), mA 268 (by decide +kernel)⟩, trivial⟩, kd_L_registered, by decide⟩
theorem me_L_resultOf : rMeth 40 := fun o rk hh nL ini h => by
  cases (show mI[40]? = some _ from rfl).symm.trans h
  exact ⟨yL_resultOf, cL_resultOf, _, _, rfl, rfl, by decide +kernel, ⟨by decide +kernel, by decide +kernel⟩, mA 480 (by decide +kernel), mA 31 (by decide +kernel), rfl, fun h => (by first | rfl | cases h), ⟨⟨rfl, rfl, rfl, by decide, "java/lang/IndexOutOfBoundsException", rfl, mA 259 (by decide +kernel), mA 268 (by decide +kernel)⟩, ⟨⟨rfl, rfl, rfl, by decide, "java/lang/UnsupportedOperationException", rfl, mA 289 (by decide +kernel), mA 297 (by decide +kernel)⟩, trivial⟩⟩, kd_L_resultOf, by decide⟩
theorem me_L_sell : rMeth 41 := fun o rk hh nL ini h => by
  cases (show mI[41]? = some _ from rfl).symm.trans h
  exact ⟨yL_sell, cL_sell, _, _, rfl, rfl, by decide +kernel, ⟨by decide +kernel, by decide +kernel⟩, mA 288 (by decide +kernel), mA 31 (by decide +kernel), rfl, fun h => (by first | rfl | cases h), ⟨⟨rfl, rfl, rfl, by decide, "java/lang/IndexOutOfBoundsException", rfl, mA 259 (by decide +kernel), mA 268 (by decide +kernel)⟩, ⟨⟨rfl, rfl, rfl, by decide, "java/lang/IllegalArgumentException", rfl, mA 195 (by decide +kernel), mA 208 (by decide +kernel)⟩, ⟨⟨rfl, rfl, rfl, by decide, "java/lang/UnsupportedOperationException", rfl, mA 289 (by decide +kernel), mA 297 (by decide +kernel)⟩, trivial⟩⟩⟩, kd_L_sell, by decide⟩
theorem me_L_setDerby : rMeth 42 := fun o rk hh nL ini h => by
  cases (show mI[42]? = some _ from rfl).symm.trans h
  exact ⟨yL_setDerby, cL_setDerby, _, _, rfl, rfl, by decide +kernel, ⟨by decide +kernel, by decide +kernel⟩, mA 314 (by decide +kernel), mA 31 (by decide +kernel), rfl, fun h => (by first | rfl | cases h), ⟨⟨rfl, rfl, rfl, by decide, "java/lang/IndexOutOfBoundsException", rfl, mA 259 (by decide +kernel), mA 268 (by decide +kernel)⟩, ⟨⟨rfl, rfl, rfl, by decide, "java/lang/IllegalArgumentException", rfl, mA 195 (by decide +kernel), mA 208 (by decide +kernel)⟩, trivial⟩⟩, kd_L_setDerby, by decide⟩
theorem me_L_setWindow : rMeth 43 := fun o rk hh nL ini h => by
  cases (show mI[43]? = some _ from rfl).symm.trans h
  exact ⟨yL_setWindow, cL_setWindow, _, _, rfl, rfl, by decide +kernel, ⟨by decide +kernel, by decide +kernel⟩, mA 271 (by decide +kernel), mA 31 (by decide +kernel), rfl, fun h => (by first | rfl | cases h), ⟨⟨rfl, rfl, rfl, by decide, "java/lang/IllegalArgumentException", rfl, mA 195 (by decide +kernel), mA 208 (by decide +kernel)⟩, trivial⟩, kd_L_setWindow, by decide⟩
theorem me_L_stateOf : rMeth 44 := fun o rk hh nL ini h => by
  cases (show mI[44]? = some _ from rfl).symm.trans h
  exact ⟨yL_stateOf, cL_stateOf, _, _, rfl, rfl, by decide +kernel, ⟨by decide +kernel, by decide +kernel⟩, mA 353 (by decide +kernel), mA 31 (by decide +kernel), rfl, fun h => (by first | rfl | cases h), ⟨⟨rfl, rfl, rfl, by decide, "java/lang/IndexOutOfBoundsException", rfl, mA 259 (by decide +kernel), mA 268 (by decide +kernel)⟩, trivial⟩, kd_L_stateOf, by decide⟩
theorem me_L_strike : rMeth 45 := fun o rk hh nL ini h => by
  cases (show mI[45]? = some _ from rfl).symm.trans h
  exact ⟨yL_strike, cL_strike, _, _, rfl, rfl, by decide +kernel, ⟨by decide +kernel, by decide +kernel⟩, mA 494 (by decide +kernel), mA 31 (by decide +kernel), rfl, fun h => (by first | rfl | cases h), ⟨⟨rfl, rfl, rfl, by decide, "java/lang/IndexOutOfBoundsException", rfl, mA 259 (by decide +kernel), mA 268 (by decide +kernel)⟩, ⟨⟨rfl, rfl, rfl, by decide, "java/lang/IllegalStateException", rfl, mA 196 (by decide +kernel), mA 213 (by decide +kernel)⟩, trivial⟩⟩, kd_L_strike, by decide⟩
theorem me_L_takePoints : rMeth 46 := fun o rk hh nL ini h => by
  cases (show mI[46]? = some _ from rfl).symm.trans h
  exact ⟨yL_takePoints, cL_takePoints, _, _, rfl, rfl, by decide +kernel, ⟨by decide +kernel, by decide +kernel⟩, mA 487 (by decide +kernel), mA 31 (by decide +kernel), rfl, fun h => (by first | rfl | cases h), ⟨⟨rfl, rfl, rfl, by decide, "java/lang/IndexOutOfBoundsException", rfl, mA 259 (by decide +kernel), mA 268 (by decide +kernel)⟩, ⟨⟨rfl, rfl, rfl, by decide, "java/lang/IllegalArgumentException", rfl, mA 195 (by decide +kernel), mA 208 (by decide +kernel)⟩, trivial⟩⟩, kd_L_takePoints, by decide⟩
theorem me_L_wipe : rMeth 47 := fun o rk hh nL ini h => by
  cases (show mI[47]? = some _ from rfl).symm.trans h
  exact ⟨yL_wipe, cL_wipe, _, _, rfl, rfl, by decide +kernel, ⟨by decide +kernel, by decide +kernel⟩, mA 448 (by decide +kernel), mA 31 (by decide +kernel), rfl, fun h => (by first | rfl | cases h), ⟨⟨rfl, rfl, rfl, by decide, "java/lang/IllegalStateException", rfl, mA 196 (by decide +kernel), mA 213 (by decide +kernel)⟩, trivial⟩, kd_L_wipe, by decide⟩
theorem me_L_yellows : rMeth 48 := fun o rk hh nL ini h => by
  cases (show mI[48]? = some _ from rfl).symm.trans h
  exact ⟨yL_yellows, cL_yellows, _, _, rfl, rfl, by decide +kernel, ⟨by decide +kernel, by decide +kernel⟩, mA 466 (by decide +kernel), mA 31 (by decide +kernel), rfl, fun h => (by first | rfl | cases h), ⟨⟨rfl, rfl, rfl, by decide, "java/lang/IndexOutOfBoundsException", rfl, mA 259 (by decide +kernel), mA 268 (by decide +kernel)⟩, trivial⟩, kd_L_yellows, by decide⟩
theorem me_X0_count : rMeth 49 := fun o rk hh nL ini h => by
  cases (show mI[49]? = some _ from rfl).symm.trans h
  exact ⟨yX0_count, cX0_count, _, _, rfl, rfl, by decide +kernel, ⟨by decide +kernel, by decide +kernel⟩, mA 187 (by decide +kernel), mA 36 (by decide +kernel), rfl, fun h => (by first | rfl | cases h), trivial, kd_X0_count, by decide⟩
theorem me_X0_countAnew : rMeth 50 := fun o rk hh nL ini h => by
  cases (show mI[50]? = some _ from rfl).symm.trans h
  exact ⟨yX0_countAnew, cX0_countAnew, _, _, rfl, rfl, by decide +kernel, ⟨by decide +kernel, by decide +kernel⟩, mA 180 (by decide +kernel), mA 36 (by decide +kernel), rfl, fun h => (by first | rfl | cases h), trivial, kd_X0_countAnew, by decide⟩
theorem me_X0_init : rMeth 51 := fun o rk hh nL ini h => by
  cases (show mI[51]? = some _ from rfl).symm.trans h
  exact ⟨yX0_init, cX0_init, _, _, rfl, rfl, by decide +kernel, ⟨by decide +kernel, by decide +kernel⟩, mA 87 (by decide +kernel), mA 36 (by decide +kernel), rfl, fun h => (by first | rfl | cases h), trivial, kd_X0_init, by decide⟩
theorem me_X0_isFull : rMeth 52 := fun o rk hh nL ini h => by
  cases (show mI[52]? = some _ from rfl).symm.trans h
  exact ⟨yX0_isFull, cX0_isFull, _, _, rfl, rfl, by decide +kernel, ⟨by decide +kernel, by decide +kernel⟩, mA 378 (by decide +kernel), mA 36 (by decide +kernel), rfl, fun h => (by first | rfl | cases h), trivial, kd_X0_isFull, by decide⟩
theorem me_X0_isSameAnew : rMeth 53 := fun o rk hh nL ini h => by
  cases (show mI[53]? = some _ from rfl).symm.trans h
  exact ⟨yX0_isSameAnew, cX0_isSameAnew, _, _, rfl, rfl, by decide +kernel, ⟨by decide +kernel, by decide +kernel⟩, mA 173 (by decide +kernel), mA 36 (by decide +kernel), rfl, fun h => (by first | rfl | cases h), trivial, kd_X0_isSameAnew, by decide⟩
theorem me_X0_playersWithYellows : rMeth 54 := fun o rk hh nL ini h => by
  cases (show mI[54]? = some _ from rfl).symm.trans h
  exact ⟨yX0_playersWithYellows, cX0_playersWithYellows, _, _, rfl, rfl, by decide +kernel, ⟨by decide +kernel, by decide +kernel⟩, mA 456 (by decide +kernel), mA 36 (by decide +kernel), rfl, fun h => (by first | rfl | cases h), trivial, kd_X0_playersWithYellows, by decide⟩
theorem me_X0_write : rMeth 55 := fun o rk hh nL ini h => by
  cases (show mI[55]? = some _ from rfl).symm.trans h
  exact ⟨yX0_write, cX0_write, _, _, rfl, rfl, by decide +kernel, ⟨by decide +kernel, by decide +kernel⟩, mA 399 (by decide +kernel), mA 36 (by decide +kernel), rfl, fun h => (by first | rfl | cases h), trivial, kd_X0_write, by decide⟩
theorem me_X11_init : rMeth 56 := fun o rk hh nL ini h => by
  cases (show mI[56]? = some _ from rfl).symm.trans h
  exact ⟨yX11_init, cX11_init, _, _, rfl, rfl, by decide +kernel, ⟨by decide +kernel, by decide +kernel⟩, mA 680 (by decide +kernel), mA 47 (by decide +kernel), rfl, fun h => (by first | rfl | cases h), trivial, kd_X11_init, by decide⟩
theorem me_X12_init : rMeth 57 := fun o rk hh nL ini h => by
  cases (show mI[57]? = some _ from rfl).symm.trans h
  exact ⟨yX12_init, cX12_init, _, _, rfl, rfl, by decide +kernel, ⟨by decide +kernel, by decide +kernel⟩, mA 776 (by decide +kernel), mA 50 (by decide +kernel), rfl, fun h => (by first | rfl | cases h), trivial, kd_X12_init, by decide⟩
theorem me_X15_abandon : rMeth 58 := fun o rk hh nL ini h => by
  cases (show mI[58]? = some _ from rfl).symm.trans h
  exact ⟨yX15_abandon, cX15_abandon, _, _, rfl, rfl, by decide +kernel, ⟨by decide +kernel, by decide +kernel⟩, mA 812 (by decide +kernel), mA 39 (by decide +kernel), rfl, fun h => (by first | rfl | cases h), trivial, kd_X15_abandon, by decide⟩
theorem me_X15_addClub : rMeth 59 := fun o rk hh nL ini h => by
  cases (show mI[59]? = some _ from rfl).symm.trans h
  exact ⟨yX15_addClub, cX15_addClub, _, _, rfl, rfl, by decide +kernel, ⟨by decide +kernel, by decide +kernel⟩, mA 626 (by decide +kernel), mA 39 (by decide +kernel), rfl, fun h => (by first | rfl | cases h), trivial, kd_X15_addClub, by decide⟩
theorem me_X15_addPlayer : rMeth 60 := fun o rk hh nL ini h => by
  cases (show mI[60]? = some _ from rfl).symm.trans h
  exact ⟨yX15_addPlayer, cX15_addPlayer, _, _, rfl, rfl, by decide +kernel, ⟨by decide +kernel, by decide +kernel⟩, mA 703 (by decide +kernel), mA 39 (by decide +kernel), rfl, fun h => (by first | rfl | cases h), trivial, kd_X15_addPlayer, by decide⟩
theorem me_X15_appeal : rMeth 61 := fun o rk hh nL ini h => by
  cases (show mI[61]? = some _ from rfl).symm.trans h
  exact ⟨yX15_appeal, cX15_appeal, _, _, rfl, rfl, by decide +kernel, ⟨by decide +kernel, by decide +kernel⟩, mA 816 (by decide +kernel), mA 39 (by decide +kernel), rfl, fun h => (by first | rfl | cases h), trivial, kd_X15_appeal, by decide⟩
theorem me_X15_ban : rMeth 62 := fun o rk hh nL ini h => by
  cases (show mI[62]? = some _ from rfl).symm.trans h
  exact ⟨yX15_ban, cX15_ban, _, _, rfl, rfl, by decide +kernel, ⟨by decide +kernel, by decide +kernel⟩, mA 824 (by decide +kernel), mA 39 (by decide +kernel), rfl, fun h => (by first | rfl | cases h), trivial, kd_X15_ban, by decide⟩
theorem me_X15_callBack : rMeth 63 := fun o rk hh nL ini h => by
  cases (show mI[63]? = some _ from rfl).symm.trans h
  exact ⟨yX15_callBack, cX15_callBack, _, _, rfl, rfl, by decide +kernel, ⟨by decide +kernel, by decide +kernel⟩, mA 734 (by decide +kernel), mA 39 (by decide +kernel), rfl, fun h => (by first | rfl | cases h), trivial, kd_X15_callBack, by decide⟩
theorem me_X15_card : rMeth 64 := fun o rk hh nL ini h => by
  cases (show mI[64]? = some _ from rfl).symm.trans h
  exact ⟨yX15_card, cX15_card, _, _, rfl, rfl, by decide +kernel, ⟨by decide +kernel, by decide +kernel⟩, mA 800 (by decide +kernel), mA 39 (by decide +kernel), rfl, fun h => (by first | rfl | cases h), trivial, kd_X15_card, by decide⟩
theorem me_X15_change : rMeth 65 := fun o rk hh nL ini h => by
  cases (show mI[65]? = some _ from rfl).symm.trans h
  exact ⟨yX15_change, cX15_change, _, _, rfl, rfl, by decide +kernel, ⟨by decide +kernel, by decide +kernel⟩, mA 804 (by decide +kernel), mA 39 (by decide +kernel), rfl, fun h => (by first | rfl | cases h), trivial, kd_X15_change, by decide⟩
theorem me_X15_clubAt : rMeth 66 := fun o rk hh nL ini h => by
  cases (show mI[66]? = some _ from rfl).symm.trans h
  exact ⟨yX15_clubAt, cX15_clubAt, _, _, rfl, rfl, by decide +kernel, ⟨by decide +kernel, by decide +kernel⟩, mA 848 (by decide +kernel), mA 39 (by decide +kernel), rfl, fun h => (by first | rfl | cases h), trivial, kd_X15_clubAt, by decide⟩
theorem me_X15_clubsIn : rMeth 67 := fun o rk hh nL ini h => by
  cases (show mI[67]? = some _ from rfl).symm.trans h
  exact ⟨yX15_clubsIn, cX15_clubsIn, _, _, rfl, rfl, by decide +kernel, ⟨by decide +kernel, by decide +kernel⟩, mA 637 (by decide +kernel), mA 39 (by decide +kernel), rfl, fun h => (by first | rfl | cases h), trivial, kd_X15_clubsIn, by decide⟩
theorem me_X15_counting : rMeth 68 := fun o rk hh nL ini h => by
  cases (show mI[68]? = some _ from rfl).symm.trans h
  exact ⟨yX15_counting, cX15_counting, _, _, rfl, rfl, by decide +kernel, ⟨by decide +kernel, by decide +kernel⟩, mA 854 (by decide +kernel), mA 39 (by decide +kernel), ⟨_, rfl, (by first | exact Or.inl ⟨_, rfl⟩ | exact Or.inr ⟨_, rfl⟩)⟩, fun h => (by first | rfl | cases h), trivial, kd_X15_counting, by decide⟩
theorem me_X15_divisionOf : rMeth 69 := fun o rk hh nL ini h => by
  cases (show mI[69]? = some _ from rfl).symm.trans h
  exact ⟨yX15_divisionOf, cX15_divisionOf, _, _, rfl, rfl, by decide +kernel, ⟨by decide +kernel, by decide +kernel⟩, mA 868 (by decide +kernel), mA 39 (by decide +kernel), rfl, fun h => (by first | rfl | cases h), trivial, kd_X15_divisionOf, by decide⟩
theorem me_X15_end : rMeth 70 := fun o rk hh nL ini h => by
  cases (show mI[70]? = some _ from rfl).symm.trans h
  exact ⟨yX15_end, cX15_end, _, _, rfl, rfl, by decide +kernel, ⟨by decide +kernel, by decide +kernel⟩, mA 808 (by decide +kernel), mA 39 (by decide +kernel), rfl, fun h => (by first | rfl | cases h), trivial, kd_X15_end, by decide⟩
theorem me_X15_endSeason : rMeth 71 := fun o rk hh nL ini h => by
  cases (show mI[71]? = some _ from rfl).symm.trans h
  exact ⟨yX15_endSeason, cX15_endSeason, _, _, rfl, rfl, by decide +kernel, ⟨by decide +kernel, by decide +kernel⟩, mA 876 (by decide +kernel), mA 39 (by decide +kernel), rfl, fun h => (by first | rfl | cases h), trivial, kd_X15_endSeason, by decide⟩
theorem me_X15_fixture : rMeth 72 := fun o rk hh nL ini h => by
  cases (show mI[72]? = some _ from rfl).symm.trans h
  exact ⟨yX15_fixture, cX15_fixture, _, _, rfl, rfl, by decide +kernel, ⟨by decide +kernel, by decide +kernel⟩, mA 756 (by decide +kernel), mA 39 (by decide +kernel), rfl, fun h => (by first | rfl | cases h), trivial, kd_X15_fixture, by decide⟩
theorem me_X15_goOn : rMeth 73 := fun o rk hh nL ini h => by
  cases (show mI[73]? = some _ from rfl).symm.trans h
  exact ⟨yX15_goOn, cX15_goOn, _, _, rfl, rfl, by decide +kernel, ⟨by decide +kernel, by decide +kernel⟩, mA 718 (by decide +kernel), mA 39 (by decide +kernel), rfl, fun h => (by first | rfl | cases h), trivial, kd_X15_goOn, by decide⟩
theorem me_X15_goal : rMeth 74 := fun o rk hh nL ini h => by
  cases (show mI[74]? = some _ from rfl).symm.trans h
  exact ⟨yX15_goal, cX15_goal, _, _, rfl, rfl, by decide +kernel, ⟨by decide +kernel, by decide +kernel⟩, mA 793 (by decide +kernel), mA 39 (by decide +kernel), rfl, fun h => (by first | rfl | cases h), trivial, kd_X15_goal, by decide⟩
theorem me_X15_goesThrough : rMeth 75 := fun o rk hh nL ini h => by
  cases (show mI[75]? = some _ from rfl).symm.trans h
  exact ⟨yX15_goesThrough, cX15_goesThrough, _, _, rfl, rfl, by decide +kernel, ⟨by decide +kernel, by decide +kernel⟩, mA 771 (by decide +kernel), mA 39 (by decide +kernel), rfl, fun h => (by first | rfl | cases h), trivial, kd_X15_goesThrough, by decide⟩
theorem me_X15_hasFixtures : rMeth 76 := fun o rk hh nL ini h => by
  cases (show mI[76]? = some _ from rfl).symm.trans h
  exact ⟨yX15_hasFixtures, cX15_hasFixtures, _, _, rfl, rfl, by decide +kernel, ⟨by decide +kernel, by decide +kernel⟩, mA 745 (by decide +kernel), mA 39 (by decide +kernel), rfl, fun h => (by first | rfl | cases h), trivial, kd_X15_hasFixtures, by decide⟩
theorem me_X15_init : rMeth 77 := fun o rk hh nL ini h => by
  cases (show mI[77]? = some _ from rfl).symm.trans h
  exact ⟨yX15_init, cX15_init, _, _, rfl, rfl, by decide +kernel, ⟨by decide +kernel, by decide +kernel⟩, mA 589 (by decide +kernel), mA 39 (by decide +kernel), rfl, fun h => (by first | rfl | cases h), trivial, kd_X15_init, by decide⟩
theorem me_X15_isClub : rMeth 78 := fun o rk hh nL ini h => by
  cases (show mI[78]? = some _ from rfl).symm.trans h
  exact ⟨yX15_isClub, cX15_isClub, _, _, rfl, rfl, by decide +kernel, ⟨by decide +kernel, by decide +kernel⟩, mA 706 (by decide +kernel), mA 39 (by decide +kernel), rfl, fun h => (by first | rfl | cases h), trivial, kd_X15_isClub, by decide⟩
theorem me_X15_isGuilty : rMeth 79 := fun o rk hh nL ini h => by
  cases (show mI[79]? = some _ from rfl).symm.trans h
  exact ⟨yX15_isGuilty, cX15_isGuilty, _, _, rfl, rfl, by decide +kernel, ⟨by decide +kernel, by decide +kernel⟩, mA 832 (by decide +kernel), mA 39 (by decide +kernel), rfl, fun h => (by first | rfl | cases h), trivial, kd_X15_isGuilty, by decide⟩
theorem me_X15_isIn : rMeth 80 := fun o rk hh nL ini h => by
  cases (show mI[80]? = some _ from rfl).symm.trans h
  exact ⟨yX15_isIn, cX15_isIn, _, _, rfl, rfl, by decide +kernel, ⟨by decide +kernel, by decide +kernel⟩, mA 629 (by decide +kernel), mA 39 (by decide +kernel), rfl, fun h => (by first | rfl | cases h), trivial, kd_X15_isIn, by decide⟩
theorem me_X15_isOpen : rMeth 81 := fun o rk hh nL ini h => by
  cases (show mI[81]? = some _ from rfl).symm.trans h
  exact ⟨yX15_isOpen, cX15_isOpen, _, _, rfl, rfl, by decide +kernel, ⟨by decide +kernel, by decide +kernel⟩, mA 714 (by decide +kernel), mA 39 (by decide +kernel), rfl, fun h => (by first | rfl | cases h), trivial, kd_X15_isOpen, by decide⟩
theorem me_X15_isPlayer : rMeth 82 := fun o rk hh nL ini h => by
  cases (show mI[82]? = some _ from rfl).symm.trans h
  exact ⟨yX15_isPlayer, cX15_isPlayer, _, _, rfl, rfl, by decide +kernel, ⟨by decide +kernel, by decide +kernel⟩, mA 726 (by decide +kernel), mA 39 (by decide +kernel), rfl, fun h => (by first | rfl | cases h), trivial, kd_X15_isPlayer, by decide⟩
theorem me_X15_isSound : rMeth 83 := fun o rk hh nL ini h => by
  cases (show mI[83]? = some _ from rfl).symm.trans h
  exact ⟨yX15_isSound, cX15_isSound, _, _, rfl, rfl, by decide +kernel, ⟨by decide +kernel, by decide +kernel⟩, mA 901 (by decide +kernel), mA 39 (by decide +kernel), rfl, fun h => (by first | rfl | cases h), trivial, kd_X15_isSound, by decide⟩
theorem me_X15_kickOff : rMeth 84 := fun o rk hh nL ini h => by
  cases (show mI[84]? = some _ from rfl).symm.trans h
  exact ⟨yX15_kickOff, cX15_kickOff, _, _, rfl, rfl, by decide +kernel, ⟨by decide +kernel, by decide +kernel⟩, mA 768 (by decide +kernel), mA 39 (by decide +kernel), rfl, fun h => (by first | rfl | cases h), trivial, kd_X15_kickOff, by decide⟩
theorem me_X15_lend : rMeth 85 := fun o rk hh nL ini h => by
  cases (show mI[85]? = some _ from rfl).symm.trans h
  exact ⟨yX15_lend, cX15_lend, _, _, rfl, rfl, by decide +kernel, ⟨by decide +kernel, by decide +kernel⟩, mA 730 (by decide +kernel), mA 39 (by decide +kernel), rfl, fun h => (by first | rfl | cases h), trivial, kd_X15_lend, by decide⟩
theorem me_X15_meanGoals : rMeth 86 := fun o rk hh nL ini h => by
  cases (show mI[86]? = some _ from rfl).symm.trans h
  exact ⟨yX15_meanGoals, cX15_meanGoals, _, _, rfl, rfl, by decide +kernel, ⟨by decide +kernel, by decide +kernel⟩, mA 897 (by decide +kernel), mA 39 (by decide +kernel), rfl, fun h => (by first | rfl | cases h), trivial, kd_X15_meanGoals, by decide⟩
theorem me_X15_money : rMeth 87 := fun o rk hh nL ini h => by
  cases (show mI[87]? = some _ from rfl).symm.trans h
  exact ⟨yX15_money, cX15_money, _, _, rfl, rfl, by decide +kernel, ⟨by decide +kernel, by decide +kernel⟩, mA 886 (by decide +kernel), mA 39 (by decide +kernel), rfl, fun h => (by first | rfl | cases h), trivial, kd_X15_money, by decide⟩
theorem me_X15_name : rMeth 88 := fun o rk hh nL ini h => by
  cases (show mI[88]? = some _ from rfl).symm.trans h
  exact ⟨yX15_name, cX15_name, _, _, rfl, rfl, by decide +kernel, ⟨by decide +kernel, by decide +kernel⟩, mA 764 (by decide +kernel), mA 39 (by decide +kernel), rfl, fun h => (by first | rfl | cases h), trivial, kd_X15_name, by decide⟩
theorem me_X15_no : rMeth 89 := fun o rk hh nL ini h => by
  cases (show mI[89]? = some _ from rfl).symm.trans h
  exact ⟨yX15_no, cX15_no, _, _, rfl, rfl, by decide +kernel, ⟨by decide +kernel, by decide +kernel⟩, mA 634 (by decide +kernel), mA 39 (by decide +kernel), rfl, fun h => (by first | rfl | cases h), trivial, kd_X15_no, by decide⟩
theorem me_X15_noMatch : rMeth 90 := fun o rk hh nL ini h => by
  cases (show mI[90]? = some _ from rfl).symm.trans h
  exact ⟨yX15_noMatch, cX15_noMatch, _, _, rfl, rfl, by decide +kernel, ⟨by decide +kernel, by decide +kernel⟩, mA 752 (by decide +kernel), mA 39 (by decide +kernel), rfl, fun h => (by first | rfl | cases h), trivial, kd_X15_noMatch, by decide⟩
theorem me_X15_noOn : rMeth 91 := fun o rk hh nL ini h => by
  cases (show mI[91]? = some _ from rfl).symm.trans h
  exact ⟨yX15_noOn, cX15_noOn, _, _, rfl, rfl, by decide +kernel, ⟨by decide +kernel, by decide +kernel⟩, mA 796 (by decide +kernel), mA 39 (by decide +kernel), rfl, fun h => (by first | rfl | cases h), trivial, kd_X15_noOn, by decide⟩
theorem me_X15_over : rMeth 92 := fun o rk hh nL ini h => by
  cases (show mI[92]? = some _ from rfl).symm.trans h
  exact ⟨yX15_over, cX15_over, _, _, rfl, rfl, by decide +kernel, ⟨by decide +kernel, by decide +kernel⟩, mA 893 (by decide +kernel), mA 39 (by decide +kernel), rfl, fun h => (by first | rfl | cases h), trivial, kd_X15_over, by decide⟩
theorem me_X15_overShare : rMeth 93 := fun o rk hh nL ini h => by
  cases (show mI[93]? = some _ from rfl).symm.trans h
  exact ⟨yX15_overShare, cX15_overShare, _, _, rfl, rfl, by decide +kernel, ⟨by decide +kernel, by decide +kernel⟩, mA 890 (by decide +kernel), mA 39 (by decide +kernel), rfl, fun h => (by first | rfl | cases h), trivial, kd_X15_overShare, by decide⟩
theorem me_X15_plan : rMeth 94 := fun o rk hh nL ini h => by
  cases (show mI[94]? = some _ from rfl).symm.trans h
  exact ⟨yX15_plan, cX15_plan, _, _, rfl, rfl, by decide +kernel, ⟨by decide +kernel, by decide +kernel⟩, mA 742 (by decide +kernel), mA 39 (by decide +kernel), rfl, fun h => (by first | rfl | cases h), trivial, kd_X15_plan, by decide⟩
theorem me_X15_points : rMeth 95 := fun o rk hh nL ini h => by
  cases (show mI[95]? = some _ from rfl).symm.trans h
  exact ⟨yX15_points, cX15_points, _, _, rfl, rfl, by decide +kernel, ⟨by decide +kernel, by decide +kernel⟩, mA 864 (by decide +kernel), mA 39 (by decide +kernel), rfl, fun h => (by first | rfl | cases h), trivial, kd_X15_points, by decide⟩
theorem me_X15_putOff : rMeth 96 := fun o rk hh nL ini h => by
  cases (show mI[96]? = some _ from rfl).symm.trans h
  exact ⟨yX15_putOff, cX15_putOff, _, _, rfl, rfl, by decide +kernel, ⟨by decide +kernel, by decide +kernel⟩, mA 749 (by decide +kernel), mA 39 (by decide +kernel), rfl, fun h => (by first | rfl | cases h), trivial, kd_X15_putOff, by decide⟩
theorem me_X15_registered : rMeth 97 := fun o rk hh nL ini h => by
  cases (show mI[97]? = some _ from rfl).symm.trans h
  exact ⟨yX15_registered, cX15_registered, _, _, rfl, rfl, by decide +kernel, ⟨by decide +kernel, by decide +kernel⟩, mA 872 (by decide +kernel), mA 39 (by decide +kernel), rfl, fun h => (by first | rfl | cases h), trivial, kd_X15_registered, by decide⟩
theorem me_X15_resultOf : rMeth 98 := fun o rk hh nL ini h => by
  cases (show mI[98]? = some _ from rfl).symm.trans h
  exact ⟨yX15_resultOf, cX15_resultOf, _, _, rfl, rfl, by decide +kernel, ⟨by decide +kernel, by decide +kernel⟩, mA 836 (by decide +kernel), mA 39 (by decide +kernel), rfl, fun h => (by first | rfl | cases h), trivial, kd_X15_resultOf, by decide⟩
theorem me_X15_sell : rMeth 99 := fun o rk hh nL ini h => by
  cases (show mI[99]? = some _ from rfl).symm.trans h
  exact ⟨yX15_sell, cX15_sell, _, _, rfl, rfl, by decide +kernel, ⟨by decide +kernel, by decide +kernel⟩, mA 723 (by decide +kernel), mA 39 (by decide +kernel), rfl, fun h => (by first | rfl | cases h), trivial, kd_X15_sell, by decide⟩
theorem me_X15_setDerby : rMeth 100 := fun o rk hh nL ini h => by
  cases (show mI[100]? = some _ from rfl).symm.trans h
  exact ⟨yX15_setDerby, cX15_setDerby, _, _, rfl, rfl, by decide +kernel, ⟨by decide +kernel, by decide +kernel⟩, mA 738 (by decide +kernel), mA 39 (by decide +kernel), rfl, fun h => (by first | rfl | cases h), trivial, kd_X15_setDerby, by decide⟩
theorem me_X15_setWindow : rMeth 101 := fun o rk hh nL ini h => by
  cases (show mI[101]? = some _ from rfl).symm.trans h
  exact ⟨yX15_setWindow, cX15_setWindow, _, _, rfl, rfl, by decide +kernel, ⟨by decide +kernel, by decide +kernel⟩, mA 710 (by decide +kernel), mA 39 (by decide +kernel), rfl, fun h => (by first | rfl | cases h), trivial, kd_X15_setWindow, by decide⟩
theorem me_X15_stateOf : rMeth 102 := fun o rk hh nL ini h => by
  cases (show mI[102]? = some _ from rfl).symm.trans h
  exact ⟨yX15_stateOf, cX15_stateOf, _, _, rfl, rfl, by decide +kernel, ⟨by decide +kernel, by decide +kernel⟩, mA 760 (by decide +kernel), mA 39 (by decide +kernel), rfl, fun h => (by first | rfl | cases h), trivial, kd_X15_stateOf, by decide⟩
theorem me_X15_strike : rMeth 103 := fun o rk hh nL ini h => by
  cases (show mI[103]? = some _ from rfl).symm.trans h
  exact ⟨yX15_strike, cX15_strike, _, _, rfl, rfl, by decide +kernel, ⟨by decide +kernel, by decide +kernel⟩, mA 844 (by decide +kernel), mA 39 (by decide +kernel), rfl, fun h => (by first | rfl | cases h), trivial, kd_X15_strike, by decide⟩
theorem me_X15_table : rMeth 104 := fun o rk hh nL ini h => by
  cases (show mI[104]? = some _ from rfl).symm.trans h
  exact ⟨yX15_table, cX15_table, _, _, rfl, rfl, by decide +kernel, ⟨by decide +kernel, by decide +kernel⟩, mA 851 (by decide +kernel), mA 39 (by decide +kernel), ⟨_, rfl, (by first | exact Or.inl ⟨_, rfl⟩ | exact Or.inr ⟨_, rfl⟩)⟩, fun h => (by first | rfl | cases h), trivial, kd_X15_table, by decide⟩
theorem me_X15_takePoints : rMeth 105 := fun o rk hh nL ini h => by
  cases (show mI[105]? = some _ from rfl).symm.trans h
  exact ⟨yX15_takePoints, cX15_takePoints, _, _, rfl, rfl, by decide +kernel, ⟨by decide +kernel, by decide +kernel⟩, mA 840 (by decide +kernel), mA 39 (by decide +kernel), rfl, fun h => (by first | rfl | cases h), trivial, kd_X15_takePoints, by decide⟩
theorem me_X15_thrown : rMeth 106 := fun o rk hh nL ini h => by
  cases (show mI[106]? = some _ from rfl).symm.trans h
  exact ⟨yX15_thrown, cX15_thrown, _, _, rfl, rfl, by decide +kernel, ⟨by decide +kernel, by decide +kernel⟩, mA 622 (by decide +kernel), mA 39 (by decide +kernel), rfl, fun h => (by first | rfl | cases h), trivial, kd_X15_thrown, by decide⟩
theorem me_X15_wipe : rMeth 107 := fun o rk hh nL ini h => by
  cases (show mI[107]? = some _ from rfl).symm.trans h
  exact ⟨yX15_wipe, cX15_wipe, _, _, rfl, rfl, by decide +kernel, ⟨by decide +kernel, by decide +kernel⟩, mA 820 (by decide +kernel), mA 39 (by decide +kernel), rfl, fun h => (by first | rfl | cases h), trivial, kd_X15_wipe, by decide⟩
theorem me_X15_yellows : rMeth 108 := fun o rk hh nL ini h => by
  cases (show mI[108]? = some _ from rfl).symm.trans h
  exact ⟨yX15_yellows, cX15_yellows, _, _, rfl, rfl, by decide +kernel, ⟨by decide +kernel, by decide +kernel⟩, mA 828 (by decide +kernel), mA 39 (by decide +kernel), rfl, fun h => (by first | rfl | cases h), trivial, kd_X15_yellows, by decide⟩
theorem me_X2_init : rMeth 109 := fun o rk hh nL ini h => by
  cases (show mI[109]? = some _ from rfl).symm.trans h
  exact ⟨yX2_init, cX2_init, _, _, rfl, rfl, by decide +kernel, ⟨by decide +kernel, by decide +kernel⟩, mA 217 (by decide +kernel), mA 42 (by decide +kernel), rfl, fun h => (by first | rfl | cases h), trivial, kd_X2_init, by decide⟩
theorem me_X3_init : rMeth 110 := fun o rk hh nL ini h => by
  cases (show mI[110]? = some _ from rfl).symm.trans h
  exact ⟨yX3_init, cX3_init, _, _, rfl, rfl, by decide +kernel, ⟨by decide +kernel, by decide +kernel⟩, mA 383 (by decide +kernel), mA 49 (by decide +kernel), rfl, fun h => (by first | rfl | cases h), trivial, kd_X3_init, by decide⟩
theorem me_X5_init : rMeth 111 := fun o rk hh nL ini h => by
  cases (show mI[111]? = some _ from rfl).symm.trans h
  exact ⟨yX5_init, cX5_init, _, _, rfl, rfl, by decide +kernel, ⟨by decide +kernel, by decide +kernel⟩, mA 109 (by decide +kernel), mA 37 (by decide +kernel), rfl, fun h => (by first | rfl | cases h), trivial, kd_X5_init, by decide⟩
theorem me_X8_addRows : rMeth 112 := fun o rk hh nL ini h => by
  cases (show mI[112]? = some _ from rfl).symm.trans h
  exact ⟨yX8_addRows, cX8_addRows, _, _, rfl, rfl, by decide +kernel, ⟨by decide +kernel, by decide +kernel⟩, mA 514 (by decide +kernel), mA 38 (by decide +kernel), rfl, fun h => (by first | rfl | cases h), trivial, kd_X8_addRows, by decide⟩
theorem me_X8_countAmong : rMeth 113 := fun o rk hh nL ini h => by
  cases (show mI[113]? = some _ from rfl).symm.trans h
  exact ⟨yX8_countAmong, cX8_countAmong, _, _, rfl, rfl, by decide +kernel, ⟨by decide +kernel, by decide +kernel⟩, mA 517 (by decide +kernel), mA 38 (by decide +kernel), rfl, fun h => (by first | rfl | cases h), trivial, kd_X8_countAmong, by decide⟩
theorem me_X8_draw : rMeth 114 := fun o rk hh nL ini h => by
  cases (show mI[114]? = some _ from rfl).symm.trans h
  exact ⟨yX8_draw, cX8_draw, _, _, rfl, rfl, by decide +kernel, ⟨by decide +kernel, by decide +kernel⟩, mA 509 (by decide +kernel), mA 38 (by decide +kernel), rfl, fun h => (by first | rfl | cases h), trivial, kd_X8_draw, by decide⟩
theorem me_X8_firstToRise : rMeth 115 := fun o rk hh nL ini h => by
  cases (show mI[115]? = some _ from rfl).symm.trans h
  exact ⟨yX8_firstToRise, cX8_firstToRise, _, _, rfl, rfl, by decide +kernel, ⟨by decide +kernel, by decide +kernel⟩, mA 558 (by decide +kernel), mA 38 (by decide +kernel), ⟨_, rfl, (by first | exact Or.inl ⟨_, rfl⟩ | exact Or.inr ⟨_, rfl⟩)⟩, fun h => (by first | rfl | cases h), trivial, kd_X8_firstToRise, by decide⟩
theorem me_X8_init : rMeth 116 := fun o rk hh nL ini h => by
  cases (show mI[116]? = some _ from rfl).symm.trans h
  exact ⟨yX8_init, cX8_init, _, _, rfl, rfl, by decide +kernel, ⟨by decide +kernel, by decide +kernel⟩, mA 131 (by decide +kernel), mA 38 (by decide +kernel), rfl, fun h => (by first | rfl | cases h), trivial, kd_X8_init, by decide⟩
theorem me_X8_partTies : rMeth 117 := fun o rk hh nL ini h => by
  cases (show mI[117]? = some _ from rfl).symm.trans h
  exact ⟨yX8_partTies, cX8_partTies, _, _, rfl, rfl, by decide +kernel, ⟨by decide +kernel, by decide +kernel⟩, mA 523 (by decide +kernel), mA 38 (by decide +kernel), rfl, fun h => (by first | rfl | cases h), trivial, kd_X8_partTies, by decide⟩
theorem me_X8_sort : rMeth 118 := fun o rk hh nL ini h => by
  cases (show mI[118]? = some _ from rfl).symm.trans h
  exact ⟨yX8_sort, cX8_sort, _, _, rfl, rfl, by decide +kernel, ⟨by decide +kernel, by decide +kernel⟩, mA 520 (by decide +kernel), mA 38 (by decide +kernel), rfl, fun h => (by first | rfl | cases h), trivial, kd_X8_sort, by decide⟩
theorem me_X9_abandon : rMeth 119 := fun o rk hh nL ini h => by
  cases (show mI[119]? = some _ from rfl).symm.trans h
  exact ⟨yX9_abandon, cX9_abandon, _, _, rfl, rfl, by decide +kernel, ⟨by decide +kernel, by decide +kernel⟩, mA 438 (by decide +kernel), mA 32 (by decide +kernel), rfl, fun h => (by first | rfl | cases h), trivial, kd_X9_abandon, by decide⟩
theorem me_X9_addClub : rMeth 120 := fun o rk hh nL ini h => by
  cases (show mI[120]? = some _ from rfl).symm.trans h
  exact ⟨yX9_addClub, cX9_addClub, _, _, rfl, rfl, by decide +kernel, ⟨by decide +kernel, by decide +kernel⟩, mA 200 (by decide +kernel), mA 32 (by decide +kernel), rfl, fun h => (by first | rfl | cases h), trivial, kd_X9_addClub, by decide⟩
theorem me_X9_addPlayer : rMeth 121 := fun o rk hh nL ini h => by
  cases (show mI[121]? = some _ from rfl).symm.trans h
  exact ⟨yX9_addPlayer, cX9_addPlayer, _, _, rfl, rfl, by decide +kernel, ⟨by decide +kernel, by decide +kernel⟩, mA 263 (by decide +kernel), mA 32 (by decide +kernel), rfl, fun h => (by first | rfl | cases h), trivial, kd_X9_addPlayer, by decide⟩
theorem me_X9_appeal : rMeth 122 := fun o rk hh nL ini h => by
  cases (show mI[122]? = some _ from rfl).symm.trans h
  exact ⟨yX9_appeal, cX9_appeal, _, _, rfl, rfl, by decide +kernel, ⟨by decide +kernel, by decide +kernel⟩, mA 445 (by decide +kernel), mA 32 (by decide +kernel), rfl, fun h => (by first | rfl | cases h), trivial, kd_X9_appeal, by decide⟩
theorem me_X9_ban : rMeth 123 := fun o rk hh nL ini h => by
  cases (show mI[123]? = some _ from rfl).symm.trans h
  exact ⟨yX9_ban, cX9_ban, _, _, rfl, rfl, by decide +kernel, ⟨by decide +kernel, by decide +kernel⟩, mA 463 (by decide +kernel), mA 32 (by decide +kernel), rfl, fun h => (by first | rfl | cases h), trivial, kd_X9_ban, by decide⟩
theorem me_X9_callBack : rMeth 124 := fun o rk hh nL ini h => by
  cases (show mI[124]? = some _ from rfl).symm.trans h
  exact ⟨yX9_callBack, cX9_callBack, _, _, rfl, rfl, by decide +kernel, ⟨by decide +kernel, by decide +kernel⟩, mA 311 (by decide +kernel), mA 32 (by decide +kernel), rfl, fun h => (by first | rfl | cases h), trivial, kd_X9_callBack, by decide⟩
theorem me_X9_card : rMeth 125 := fun o rk hh nL ini h => by
  cases (show mI[125]? = some _ from rfl).symm.trans h
  exact ⟨yX9_card, cX9_card, _, _, rfl, rfl, by decide +kernel, ⟨by decide +kernel, by decide +kernel⟩, mA 417 (by decide +kernel), mA 32 (by decide +kernel), rfl, fun h => (by first | rfl | cases h), trivial, kd_X9_card, by decide⟩
theorem me_X9_change : rMeth 126 := fun o rk hh nL ini h => by
  cases (show mI[126]? = some _ from rfl).symm.trans h
  exact ⟨yX9_change, cX9_change, _, _, rfl, rfl, by decide +kernel, ⟨by decide +kernel, by decide +kernel⟩, mA 424 (by decide +kernel), mA 32 (by decide +kernel), rfl, fun h => (by first | rfl | cases h), trivial, kd_X9_change, by decide⟩
theorem me_X9_clearSeason : rMeth 127 := fun o rk hh nL ini h => by
  cases (show mI[127]? = some _ from rfl).symm.trans h
  exact ⟨yX9_clearSeason, cX9_clearSeason, _, _, rfl, rfl, by decide +kernel, ⟨by decide +kernel, by decide +kernel⟩, mA 563 (by decide +kernel), mA 32 (by decide +kernel), rfl, fun h => (by first | rfl | cases h), trivial, kd_X9_clearSeason, by decide⟩
theorem me_X9_clubAt : rMeth 128 := fun o rk hh nL ini h => by
  cases (show mI[128]? = some _ from rfl).symm.trans h
  exact ⟨yX9_clubAt, cX9_clubAt, _, _, rfl, rfl, by decide +kernel, ⟨by decide +kernel, by decide +kernel⟩, mA 505 (by decide +kernel), mA 32 (by decide +kernel), rfl, fun h => (by first | rfl | cases h), trivial, kd_X9_clubAt, by decide⟩
theorem me_X9_clubsIn : rMeth 129 := fun o rk hh nL ini h => by
  cases (show mI[129]? = some _ from rfl).symm.trans h
  exact ⟨yX9_clubsIn, cX9_clubsIn, _, _, rfl, rfl, by decide +kernel, ⟨by decide +kernel, by decide +kernel⟩, mA 211 (by decide +kernel), mA 32 (by decide +kernel), rfl, fun h => (by first | rfl | cases h), trivial, kd_X9_clubsIn, by decide⟩
theorem me_X9_divisionOf : rMeth 130 := fun o rk hh nL ini h => by
  cases (show mI[130]? = some _ from rfl).symm.trans h
  exact ⟨yX9_divisionOf, cX9_divisionOf, _, _, rfl, rfl, by decide +kernel, ⟨by decide +kernel, by decide +kernel⟩, mA 537 (by decide +kernel), mA 32 (by decide +kernel), rfl, fun h => (by first | rfl | cases h), trivial, kd_X9_divisionOf, by decide⟩
theorem me_X9_end : rMeth 131 := fun o rk hh nL ini h => by
  cases (show mI[131]? = some _ from rfl).symm.trans h
  exact ⟨yX9_end, cX9_end, _, _, rfl, rfl, by decide +kernel, ⟨by decide +kernel, by decide +kernel⟩, mA 431 (by decide +kernel), mA 32 (by decide +kernel), rfl, fun h => (by first | rfl | cases h), trivial, kd_X9_end, by decide⟩
theorem me_X9_endSeason : rMeth 132 := fun o rk hh nL ini h => by
  cases (show mI[132]? = some _ from rfl).symm.trans h
  exact ⟨yX9_endSeason, cX9_endSeason, _, _, rfl, rfl, by decide +kernel, ⟨by decide +kernel, by decide +kernel⟩, mA 551 (by decide +kernel), mA 32 (by decide +kernel), rfl, fun h => (by first | rfl | cases h), trivial, kd_X9_endSeason, by decide⟩
theorem me_X9_fixture : rMeth 133 := fun o rk hh nL ini h => by
  cases (show mI[133]? = some _ from rfl).symm.trans h
  exact ⟨yX9_fixture, cX9_fixture, _, _, rfl, rfl, by decide +kernel, ⟨by decide +kernel, by decide +kernel⟩, mA 350 (by decide +kernel), mA 32 (by decide +kernel), rfl, fun h => (by first | rfl | cases h), trivial, kd_X9_fixture, by decide⟩
theorem me_X9_fixturesOver : rMeth 134 := fun o rk hh nL ini h => by
  cases (show mI[134]? = some _ from rfl).symm.trans h
  exact ⟨yX9_fixturesOver, cX9_fixturesOver, _, _, rfl, rfl, by decide +kernel, ⟨by decide +kernel, by decide +kernel⟩, mA 577 (by decide +kernel), mA 32 (by decide +kernel), rfl, fun h => (by first | rfl | cases h), trivial, kd_X9_fixturesOver, by decide⟩
theorem me_X9_goOn : rMeth 135 := fun o rk hh nL ini h => by
  cases (show mI[135]? = some _ from rfl).symm.trans h
  exact ⟨yX9_goOn, cX9_goOn, _, _, rfl, rfl, by decide +kernel, ⟨by decide +kernel, by decide +kernel⟩, mA 285 (by decide +kernel), mA 32 (by decide +kernel), rfl, fun h => (by first | rfl | cases h), trivial, kd_X9_goOn, by decide⟩
theorem me_X9_goal : rMeth 136 := fun o rk hh nL ini h => by
  cases (show mI[136]? = some _ from rfl).symm.trans h
  exact ⟨yX9_goal, cX9_goal, _, _, rfl, rfl, by decide +kernel, ⟨by decide +kernel, by decide +kernel⟩, mA 407 (by decide +kernel), mA 32 (by decide +kernel), rfl, fun h => (by first | rfl | cases h), trivial, kd_X9_goal, by decide⟩
theorem me_X9_hasFixtures : rMeth 137 := fun o rk hh nL ini h => by
  cases (show mI[137]? = some _ from rfl).symm.trans h
  exact ⟨yX9_hasFixtures, cX9_hasFixtures, _, _, rfl, rfl, by decide +kernel, ⟨by decide +kernel, by decide +kernel⟩, mA 329 (by decide +kernel), mA 32 (by decide +kernel), rfl, fun h => (by first | rfl | cases h), trivial, kd_X9_hasFixtures, by decide⟩
theorem me_X9_init : rMeth 138 := fun o rk hh nL ini h => by
  cases (show mI[138]? = some _ from rfl).symm.trans h
  exact ⟨yX9_init, cX9_init, _, _, rfl, rfl, by decide +kernel, ⟨by decide +kernel, by decide +kernel⟩, mA 56 (by decide +kernel), mA 32 (by decide +kernel), rfl, fun h => (by first | rfl | cases h), trivial, kd_X9_init, by decide⟩
theorem me_X9_isDivision : rMeth 139 := fun o rk hh nL ini h => by
  cases (show mI[139]? = some _ from rfl).symm.trans h
  exact ⟨yX9_isDivision, cX9_isDivision, _, _, rfl, rfl, by decide +kernel, ⟨by decide +kernel, by decide +kernel⟩, mA 203 (by decide +kernel), mA 32 (by decide +kernel), rfl, fun h => (by first | rfl | cases h), trivial, kd_X9_isDivision, by decide⟩
theorem me_X9_isFixtureLeft : rMeth 140 := fun o rk hh nL ini h => by
  cases (show mI[140]? = some _ from rfl).symm.trans h
  exact ⟨yX9_isFixtureLeft, cX9_isFixtureLeft, _, _, rfl, rfl, by decide +kernel, ⟨by decide +kernel, by decide +kernel⟩, mA 554 (by decide +kernel), mA 32 (by decide +kernel), rfl, fun h => (by first | rfl | cases h), trivial, kd_X9_isFixtureLeft, by decide⟩
theorem me_X9_isGuilty : rMeth 141 := fun o rk hh nL ini h => by
  cases (show mI[141]? = some _ from rfl).symm.trans h
  exact ⟨yX9_isGuilty, cX9_isGuilty, _, _, rfl, rfl, by decide +kernel, ⟨by decide +kernel, by decide +kernel⟩, mA 477 (by decide +kernel), mA 32 (by decide +kernel), rfl, fun h => (by first | rfl | cases h), trivial, kd_X9_isGuilty, by decide⟩
theorem me_X9_isSound : rMeth 142 := fun o rk hh nL ini h => by
  cases (show mI[142]? = some _ from rfl).symm.trans h
  exact ⟨yX9_isSound, cX9_isSound, _, _, rfl, rfl, by decide +kernel, ⟨by decide +kernel, by decide +kernel⟩, mA 169 (by decide +kernel), mA 32 (by decide +kernel), rfl, fun h => (by first | rfl | cases h), trivial, kd_X9_isSound, by decide⟩
theorem me_X9_isWindowOpen : rMeth 143 := fun o rk hh nL ini h => by
  cases (show mI[143]? = some _ from rfl).symm.trans h
  exact ⟨yX9_isWindowOpen, cX9_isWindowOpen, _, _, rfl, rfl, by decide +kernel, ⟨by decide +kernel, by decide +kernel⟩, mA 278 (by decide +kernel), mA 32 (by decide +kernel), rfl, fun h => (by first | rfl | cases h), trivial, kd_X9_isWindowOpen, by decide⟩
theorem me_X9_isWithin : rMeth 144 := fun o rk hh nL ini h => by
  cases (show mI[144]? = some _ from rfl).symm.trans h
  exact ⟨yX9_isWithin, cX9_isWithin, _, _, rfl, rfl, by decide +kernel, ⟨by decide +kernel, by decide +kernel⟩, mA 206 (by decide +kernel), mA 32 (by decide +kernel), rfl, fun h => (by first | rfl | cases h), trivial, kd_X9_isWithin, by decide⟩
theorem me_X9_kickOff : rMeth 145 := fun o rk hh nL ini h => by
  cases (show mI[145]? = some _ from rfl).symm.trans h
  exact ⟨yX9_kickOff, cX9_kickOff, _, _, rfl, rfl, by decide +kernel, ⟨by decide +kernel, by decide +kernel⟩, mA 374 (by decide +kernel), mA 32 (by decide +kernel), rfl, fun h => (by first | rfl | cases h), trivial, kd_X9_kickOff, by decide⟩
theorem me_X9_knownBit : rMeth 146 := fun o rk hh nL ini h => by
  cases (show mI[146]? = some _ from rfl).symm.trans h
  exact ⟨yX9_knownBit, cX9_knownBit, _, _, rfl, rfl, by decide +kernel, ⟨by decide +kernel, by decide +kernel⟩, mA 367 (by decide +kernel), mA 32 (by decide +kernel), rfl, fun h => (by first | rfl | cases h), trivial, kd_X9_knownBit, by decide⟩
theorem me_X9_knownClub : rMeth 147 := fun o rk hh nL ini h => by
  cases (show mI[147]? = some _ from rfl).symm.trans h
  exact ⟨yX9_knownClub, cX9_knownClub, _, _, rfl, rfl, by decide +kernel, ⟨by decide +kernel, by decide +kernel⟩, mA 266 (by decide +kernel), mA 32 (by decide +kernel), ⟨_, rfl, (by first | exact Or.inl ⟨_, rfl⟩ | exact Or.inr ⟨_, rfl⟩)⟩, fun h => (by first | rfl | cases h), trivial, kd_X9_knownClub, by decide⟩
theorem me_X9_knownFixture : rMeth 148 := fun o rk hh nL ini h => by
  cases (show mI[148]? = some _ from rfl).symm.trans h
  exact ⟨yX9_knownFixture, cX9_knownFixture, _, _, rfl, rfl, by decide +kernel, ⟨by decide +kernel, by decide +kernel⟩, mA 343 (by decide +kernel), mA 32 (by decide +kernel), ⟨_, rfl, (by first | exact Or.inl ⟨_, rfl⟩ | exact Or.inr ⟨_, rfl⟩)⟩, fun h => (by first | rfl | cases h), trivial, kd_X9_knownFixture, by decide⟩
theorem me_X9_knownMatch : rMeth 149 := fun o rk hh nL ini h => by
  cases (show mI[149]? = some _ from rfl).symm.trans h
  exact ⟨yX9_knownMatch, cX9_knownMatch, _, _, rfl, rfl, by decide +kernel, ⟨by decide +kernel, by decide +kernel⟩, mA 410 (by decide +kernel), mA 32 (by decide +kernel), ⟨_, rfl, (by first | exact Or.inl ⟨_, rfl⟩ | exact Or.inr ⟨_, rfl⟩)⟩, fun h => (by first | rfl | cases h), trivial, kd_X9_knownMatch, by decide⟩
theorem me_X9_knownPlayer : rMeth 150 := fun o rk hh nL ini h => by
  cases (show mI[150]? = some _ from rfl).symm.trans h
  exact ⟨yX9_knownPlayer, cX9_knownPlayer, _, _, rfl, rfl, by decide +kernel, ⟨by decide +kernel, by decide +kernel⟩, mA 296 (by decide +kernel), mA 32 (by decide +kernel), ⟨_, rfl, (by first | exact Or.inl ⟨_, rfl⟩ | exact Or.inr ⟨_, rfl⟩)⟩, fun h => (by first | rfl | cases h), trivial, kd_X9_knownPlayer, by decide⟩
theorem me_X9_lend : rMeth 151 := fun o rk hh nL ini h => by
  cases (show mI[151]? = some _ from rfl).symm.trans h
  exact ⟨yX9_lend, cX9_lend, _, _, rfl, rfl, by decide +kernel, ⟨by decide +kernel, by decide +kernel⟩, mA 304 (by decide +kernel), mA 32 (by decide +kernel), rfl, fun h => (by first | rfl | cases h), trivial, kd_X9_lend, by decide⟩
theorem me_X9_meanGoals : rMeth 152 := fun o rk hh nL ini h => by
  cases (show mI[152]? = some _ from rfl).symm.trans h
  exact ⟨yX9_meanGoals, cX9_meanGoals, _, _, rfl, rfl, by decide +kernel, ⟨by decide +kernel, by decide +kernel⟩, mA 584 (by decide +kernel), mA 32 (by decide +kernel), rfl, fun h => (by first | rfl | cases h), trivial, kd_X9_meanGoals, by decide⟩
theorem me_X9_money : rMeth 153 := fun o rk hh nL ini h => by
  cases (show mI[153]? = some _ from rfl).symm.trans h
  exact ⟨yX9_money, cX9_money, _, _, rfl, rfl, by decide +kernel, ⟨by decide +kernel, by decide +kernel⟩, mA 160 (by decide +kernel), mA 32 (by decide +kernel), rfl, fun h => (by first | rfl | cases h), trivial, kd_X9_money, by decide⟩
theorem me_X9_name : rMeth 154 := fun o rk hh nL ini h => by
  cases (show mI[154]? = some _ from rfl).symm.trans h
  exact ⟨yX9_name, cX9_name, _, _, rfl, rfl, by decide +kernel, ⟨by decide +kernel, by decide +kernel⟩, mA 364 (by decide +kernel), mA 32 (by decide +kernel), rfl, fun h => (by first | rfl | cases h), trivial, kd_X9_name, by decide⟩
theorem me_X9_overShare : rMeth 155 := fun o rk hh nL ini h => by
  cases (show mI[155]? = some _ from rfl).symm.trans h
  exact ⟨yX9_overShare, cX9_overShare, _, _, rfl, rfl, by decide +kernel, ⟨by decide +kernel, by decide +kernel⟩, mA 573 (by decide +kernel), mA 32 (by decide +kernel), rfl, fun h => (by first | rfl | cases h), trivial, kd_X9_overShare, by decide⟩
theorem me_X9_plan : rMeth 156 := fun o rk hh nL ini h => by
  cases (show mI[156]? = some _ from rfl).symm.trans h
  exact ⟨yX9_plan, cX9_plan, _, _, rfl, rfl, by decide +kernel, ⟨by decide +kernel, by decide +kernel⟩, mA 326 (by decide +kernel), mA 32 (by decide +kernel), rfl, fun h => (by first | rfl | cases h), trivial, kd_X9_plan, by decide⟩
theorem me_X9_points : rMeth 157 := fun o rk hh nL ini h => by
  cases (show mI[157]? = some _ from rfl).symm.trans h
  exact ⟨yX9_points, cX9_points, _, _, rfl, rfl, by decide +kernel, ⟨by decide +kernel, by decide +kernel⟩, mA 530 (by decide +kernel), mA 32 (by decide +kernel), rfl, fun h => (by first | rfl | cases h), trivial, kd_X9_points, by decide⟩
theorem me_X9_putOff : rMeth 158 := fun o rk hh nL ini h => by
  cases (show mI[158]? = some _ from rfl).symm.trans h
  exact ⟨yX9_putOff, cX9_putOff, _, _, rfl, rfl, by decide +kernel, ⟨by decide +kernel, by decide +kernel⟩, mA 340 (by decide +kernel), mA 32 (by decide +kernel), rfl, fun h => (by first | rfl | cases h), trivial, kd_X9_putOff, by decide⟩
theorem me_X9_registered : rMeth 159 := fun o rk hh nL ini h => by
  cases (show mI[159]? = some _ from rfl).symm.trans h
  exact ⟨yX9_registered, cX9_registered, _, _, rfl, rfl, by decide +kernel, ⟨by decide +kernel, by decide +kernel⟩, mA 544 (by decide +kernel), mA 32 (by decide +kernel), rfl, fun h => (by first | rfl | cases h), trivial, kd_X9_registered, by decide⟩
theorem me_X9_resultOf : rMeth 160 := fun o rk hh nL ini h => by
  cases (show mI[160]? = some _ from rfl).symm.trans h
  exact ⟨yX9_resultOf, cX9_resultOf, _, _, rfl, rfl, by decide +kernel, ⟨by decide +kernel, by decide +kernel⟩, mA 484 (by decide +kernel), mA 32 (by decide +kernel), rfl, fun h => (by first | rfl | cases h), trivial, kd_X9_resultOf, by decide⟩
theorem me_X9_sell : rMeth 161 := fun o rk hh nL ini h => by
  cases (show mI[161]? = some _ from rfl).symm.trans h
  exact ⟨yX9_sell, cX9_sell, _, _, rfl, rfl, by decide +kernel, ⟨by decide +kernel, by decide +kernel⟩, mA 293 (by decide +kernel), mA 32 (by decide +kernel), rfl, fun h => (by first | rfl | cases h), trivial, kd_X9_sell, by decide⟩
theorem me_X9_setDerby : rMeth 162 := fun o rk hh nL ini h => by
  cases (show mI[162]? = some _ from rfl).symm.trans h
  exact ⟨yX9_setDerby, cX9_setDerby, _, _, rfl, rfl, by decide +kernel, ⟨by decide +kernel, by decide +kernel⟩, mA 318 (by decide +kernel), mA 32 (by decide +kernel), rfl, fun h => (by first | rfl | cases h), trivial, kd_X9_setDerby, by decide⟩
theorem me_X9_setWindow : rMeth 163 := fun o rk hh nL ini h => by
  cases (show mI[163]? = some _ from rfl).symm.trans h
  exact ⟨yX9_setWindow, cX9_setWindow, _, _, rfl, rfl, by decide +kernel, ⟨by decide +kernel, by decide +kernel⟩, mA 275 (by decide +kernel), mA 32 (by decide +kernel), rfl, fun h => (by first | rfl | cases h), trivial, kd_X9_setWindow, by decide⟩
theorem me_X9_stateOf : rMeth 164 := fun o rk hh nL ini h => by
  cases (show mI[164]? = some _ from rfl).symm.trans h
  exact ⟨yX9_stateOf, cX9_stateOf, _, _, rfl, rfl, by decide +kernel, ⟨by decide +kernel, by decide +kernel⟩, mA 357 (by decide +kernel), mA 32 (by decide +kernel), rfl, fun h => (by first | rfl | cases h), trivial, kd_X9_stateOf, by decide⟩
theorem me_X9_strike : rMeth 165 := fun o rk hh nL ini h => by
  cases (show mI[165]? = some _ from rfl).symm.trans h
  exact ⟨yX9_strike, cX9_strike, _, _, rfl, rfl, by decide +kernel, ⟨by decide +kernel, by decide +kernel⟩, mA 498 (by decide +kernel), mA 32 (by decide +kernel), rfl, fun h => (by first | rfl | cases h), trivial, kd_X9_strike, by decide⟩
theorem me_X9_takePoints : rMeth 166 := fun o rk hh nL ini h => by
  cases (show mI[166]? = some _ from rfl).symm.trans h
  exact ⟨yX9_takePoints, cX9_takePoints, _, _, rfl, rfl, by decide +kernel, ⟨by decide +kernel, by decide +kernel⟩, mA 491 (by decide +kernel), mA 32 (by decide +kernel), rfl, fun h => (by first | rfl | cases h), trivial, kd_X9_takePoints, by decide⟩
theorem me_X9_wipe : rMeth 167 := fun o rk hh nL ini h => by
  cases (show mI[167]? = some _ from rfl).symm.trans h
  exact ⟨yX9_wipe, cX9_wipe, _, _, rfl, rfl, by decide +kernel, ⟨by decide +kernel, by decide +kernel⟩, mA 452 (by decide +kernel), mA 32 (by decide +kernel), rfl, fun h => (by first | rfl | cases h), trivial, kd_X9_wipe, by decide⟩
theorem me_X9_yellows : rMeth 168 := fun o rk hh nL ini h => by
  cases (show mI[168]? = some _ from rfl).symm.trans h
  exact ⟨yX9_yellows, cX9_yellows, _, _, rfl, rfl, by decide +kernel, ⟨by decide +kernel, by decide +kernel⟩, mA 470 (by decide +kernel), mA 32 (by decide +kernel), rfl, fun h => (by first | rfl | cases h), trivial, kd_X9_yellows, by decide⟩
theorem me_all : ∀ i ∈ ([1, 2, 3, 4, 5, 6, 7, 8, 9, 10, 11, 12, 13, 14, 15, 16, 17, 18, 19, 20, 21, 22, 23, 24, 25, 26, 27, 28, 29, 30, 31, 32, 33, 34, 35, 36, 37, 38, 39, 40, 41, 42, 43, 44, 45, 46, 47, 48, 49, 50, 51, 52, 53, 54, 55, 56, 57, 58, 59, 60, 61, 62, 63, 64, 65, 66, 67, 68, 69, 70, 71, 72, 73, 74, 75, 76, 77, 78, 79, 80, 81, 82, 83, 84, 85, 86, 87, 88, 89, 90, 91, 92, 93, 94, 95, 96, 97, 98, 99, 100, 101, 102, 103, 104, 105, 106, 107, 108, 109, 110, 111, 112, 113, 114, 115, 116, 117, 118, 119, 120, 121, 122, 123, 124, 125, 126, 127, 128, 129, 130, 131, 132, 133, 134, 135, 136, 137, 138, 139, 140, 141, 142, 143, 144, 145, 146, 147, 148, 149, 150, 151, 152, 153, 154, 155, 156, 157, 158, 159, 160, 161, 162, 163, 164, 165, 166, 167, 168] : List Nat), rMeth i := List.forall_mem_cons.mpr ⟨me_J7_fill_53178, List.forall_mem_cons.mpr ⟨me_Jx35411_hasNext_aae02, List.forall_mem_cons.mpr ⟨me_Jx35411_init_45d68, List.forall_mem_cons.mpr ⟨me_Jx4a65c_add_72be8, List.forall_mem_cons.mpr ⟨me_Jx4a65c_add_9ea2d, List.forall_mem_cons.mpr ⟨me_Jx4a65c_clear_da8c8, List.forall_mem_cons.mpr ⟨me_Jx4a65c_grow_92f84, List.forall_mem_cons.mpr ⟨me_Jx4a65c_grow_d5877, List.forall_mem_cons.mpr ⟨me_Jx4a65c_init_da8c8, List.forall_mem_cons.mpr ⟨me_Jx4a65c_isEmpty_aae02, List.forall_mem_cons.mpr ⟨me_Jx4a65c_iterator_32c93, List.forall_mem_cons.mpr ⟨me_Jx4a65c_size_8abf5, List.forall_mem_cons.mpr ⟨me_Jxa1e45_init_da8c8, List.forall_mem_cons.mpr ⟨me_Jxc12de_init_da8c8, List.forall_mem_cons.mpr ⟨me_L_abandon, List.forall_mem_cons.mpr ⟨me_L_addClub, List.forall_mem_cons.mpr ⟨me_L_addPlayer, List.forall_mem_cons.mpr ⟨me_L_appeal, List.forall_mem_cons.mpr ⟨me_L_ban, List.forall_mem_cons.mpr ⟨me_L_callBack, List.forall_mem_cons.mpr ⟨me_L_card, List.forall_mem_cons.mpr ⟨me_L_change, List.forall_mem_cons.mpr ⟨me_L_clubAt, List.forall_mem_cons.mpr ⟨me_L_divisionOf, List.forall_mem_cons.mpr ⟨me_L_end, List.forall_mem_cons.mpr ⟨me_L_endSeason, List.forall_mem_cons.mpr ⟨me_L_fixture, List.forall_mem_cons.mpr ⟨me_L_goOn, List.forall_mem_cons.mpr ⟨me_L_goal, List.forall_mem_cons.mpr ⟨me_L_isGuilty, List.forall_mem_cons.mpr ⟨me_L_kickOff, List.forall_mem_cons.mpr ⟨me_L_lend, List.forall_mem_cons.mpr ⟨me_L_meanGoals, List.forall_mem_cons.mpr ⟨me_L_name, List.forall_mem_cons.mpr ⟨me_L_overShare, List.forall_mem_cons.mpr ⟨me_L_plan, List.forall_mem_cons.mpr ⟨me_L_points, List.forall_mem_cons.mpr ⟨me_L_putOff, List.forall_mem_cons.mpr ⟨me_L_registered, List.forall_mem_cons.mpr ⟨me_L_resultOf, List.forall_mem_cons.mpr ⟨me_L_sell, List.forall_mem_cons.mpr ⟨me_L_setDerby, List.forall_mem_cons.mpr ⟨me_L_setWindow, List.forall_mem_cons.mpr ⟨me_L_stateOf, List.forall_mem_cons.mpr ⟨me_L_strike, List.forall_mem_cons.mpr ⟨me_L_takePoints, List.forall_mem_cons.mpr ⟨me_L_wipe, List.forall_mem_cons.mpr ⟨me_L_yellows, List.forall_mem_cons.mpr ⟨me_X0_count, List.forall_mem_cons.mpr ⟨me_X0_countAnew, List.forall_mem_cons.mpr ⟨me_X0_init, List.forall_mem_cons.mpr ⟨me_X0_isFull, List.forall_mem_cons.mpr ⟨me_X0_isSameAnew, List.forall_mem_cons.mpr ⟨me_X0_playersWithYellows, List.forall_mem_cons.mpr ⟨me_X0_write, List.forall_mem_cons.mpr ⟨me_X11_init, List.forall_mem_cons.mpr ⟨me_X12_init, List.forall_mem_cons.mpr ⟨me_X15_abandon, List.forall_mem_cons.mpr ⟨me_X15_addClub, List.forall_mem_cons.mpr ⟨me_X15_addPlayer, List.forall_mem_cons.mpr ⟨me_X15_appeal, List.forall_mem_cons.mpr ⟨me_X15_ban, List.forall_mem_cons.mpr ⟨me_X15_callBack, List.forall_mem_cons.mpr ⟨me_X15_card, List.forall_mem_cons.mpr ⟨me_X15_change, List.forall_mem_cons.mpr ⟨me_X15_clubAt, List.forall_mem_cons.mpr ⟨me_X15_clubsIn, List.forall_mem_cons.mpr ⟨me_X15_counting, List.forall_mem_cons.mpr ⟨me_X15_divisionOf, List.forall_mem_cons.mpr ⟨me_X15_end, List.forall_mem_cons.mpr ⟨me_X15_endSeason, List.forall_mem_cons.mpr ⟨me_X15_fixture, List.forall_mem_cons.mpr ⟨me_X15_goOn, List.forall_mem_cons.mpr ⟨me_X15_goal, List.forall_mem_cons.mpr ⟨me_X15_goesThrough, List.forall_mem_cons.mpr ⟨me_X15_hasFixtures, List.forall_mem_cons.mpr ⟨me_X15_init, List.forall_mem_cons.mpr ⟨me_X15_isClub, List.forall_mem_cons.mpr ⟨me_X15_isGuilty, List.forall_mem_cons.mpr ⟨me_X15_isIn, List.forall_mem_cons.mpr ⟨me_X15_isOpen, List.forall_mem_cons.mpr ⟨me_X15_isPlayer, List.forall_mem_cons.mpr ⟨me_X15_isSound, List.forall_mem_cons.mpr ⟨me_X15_kickOff, List.forall_mem_cons.mpr ⟨me_X15_lend, List.forall_mem_cons.mpr ⟨me_X15_meanGoals, List.forall_mem_cons.mpr ⟨me_X15_money, List.forall_mem_cons.mpr ⟨me_X15_name, List.forall_mem_cons.mpr ⟨me_X15_no, List.forall_mem_cons.mpr ⟨me_X15_noMatch, List.forall_mem_cons.mpr ⟨me_X15_noOn, List.forall_mem_cons.mpr ⟨me_X15_over, List.forall_mem_cons.mpr ⟨me_X15_overShare, List.forall_mem_cons.mpr ⟨me_X15_plan, List.forall_mem_cons.mpr ⟨me_X15_points, List.forall_mem_cons.mpr ⟨me_X15_putOff, List.forall_mem_cons.mpr ⟨me_X15_registered, List.forall_mem_cons.mpr ⟨me_X15_resultOf, List.forall_mem_cons.mpr ⟨me_X15_sell, List.forall_mem_cons.mpr ⟨me_X15_setDerby, List.forall_mem_cons.mpr ⟨me_X15_setWindow, List.forall_mem_cons.mpr ⟨me_X15_stateOf, List.forall_mem_cons.mpr ⟨me_X15_strike, List.forall_mem_cons.mpr ⟨me_X15_table, List.forall_mem_cons.mpr ⟨me_X15_takePoints, List.forall_mem_cons.mpr ⟨me_X15_thrown, List.forall_mem_cons.mpr ⟨me_X15_wipe, List.forall_mem_cons.mpr ⟨me_X15_yellows, List.forall_mem_cons.mpr ⟨me_X2_init, List.forall_mem_cons.mpr ⟨me_X3_init, List.forall_mem_cons.mpr ⟨me_X5_init, List.forall_mem_cons.mpr ⟨me_X8_addRows, List.forall_mem_cons.mpr ⟨me_X8_countAmong, List.forall_mem_cons.mpr ⟨me_X8_draw, List.forall_mem_cons.mpr ⟨me_X8_firstToRise, List.forall_mem_cons.mpr ⟨me_X8_init, List.forall_mem_cons.mpr ⟨me_X8_partTies, List.forall_mem_cons.mpr ⟨me_X8_sort, List.forall_mem_cons.mpr ⟨me_X9_abandon, List.forall_mem_cons.mpr ⟨me_X9_addClub, List.forall_mem_cons.mpr ⟨me_X9_addPlayer, List.forall_mem_cons.mpr ⟨me_X9_appeal, List.forall_mem_cons.mpr ⟨me_X9_ban, List.forall_mem_cons.mpr ⟨me_X9_callBack, List.forall_mem_cons.mpr ⟨me_X9_card, List.forall_mem_cons.mpr ⟨me_X9_change, List.forall_mem_cons.mpr ⟨me_X9_clearSeason, List.forall_mem_cons.mpr ⟨me_X9_clubAt, List.forall_mem_cons.mpr ⟨me_X9_clubsIn, List.forall_mem_cons.mpr ⟨me_X9_divisionOf, List.forall_mem_cons.mpr ⟨me_X9_end, List.forall_mem_cons.mpr ⟨me_X9_endSeason, List.forall_mem_cons.mpr ⟨me_X9_fixture, List.forall_mem_cons.mpr ⟨me_X9_fixturesOver, List.forall_mem_cons.mpr ⟨me_X9_goOn, List.forall_mem_cons.mpr ⟨me_X9_goal, List.forall_mem_cons.mpr ⟨me_X9_hasFixtures, List.forall_mem_cons.mpr ⟨me_X9_init, List.forall_mem_cons.mpr ⟨me_X9_isDivision, List.forall_mem_cons.mpr ⟨me_X9_isFixtureLeft, List.forall_mem_cons.mpr ⟨me_X9_isGuilty, List.forall_mem_cons.mpr ⟨me_X9_isSound, List.forall_mem_cons.mpr ⟨me_X9_isWindowOpen, List.forall_mem_cons.mpr ⟨me_X9_isWithin, List.forall_mem_cons.mpr ⟨me_X9_kickOff, List.forall_mem_cons.mpr ⟨me_X9_knownBit, List.forall_mem_cons.mpr ⟨me_X9_knownClub, List.forall_mem_cons.mpr ⟨me_X9_knownFixture, List.forall_mem_cons.mpr ⟨me_X9_knownMatch, List.forall_mem_cons.mpr ⟨me_X9_knownPlayer, List.forall_mem_cons.mpr ⟨me_X9_lend, List.forall_mem_cons.mpr ⟨me_X9_meanGoals, List.forall_mem_cons.mpr ⟨me_X9_money, List.forall_mem_cons.mpr ⟨me_X9_name, List.forall_mem_cons.mpr ⟨me_X9_overShare, List.forall_mem_cons.mpr ⟨me_X9_plan, List.forall_mem_cons.mpr ⟨me_X9_points, List.forall_mem_cons.mpr ⟨me_X9_putOff, List.forall_mem_cons.mpr ⟨me_X9_registered, List.forall_mem_cons.mpr ⟨me_X9_resultOf, List.forall_mem_cons.mpr ⟨me_X9_sell, List.forall_mem_cons.mpr ⟨me_X9_setDerby, List.forall_mem_cons.mpr ⟨me_X9_setWindow, List.forall_mem_cons.mpr ⟨me_X9_stateOf, List.forall_mem_cons.mpr ⟨me_X9_strike, List.forall_mem_cons.mpr ⟨me_X9_takePoints, List.forall_mem_cons.mpr ⟨me_X9_wipe, List.forall_mem_cons.mpr ⟨me_X9_yellows, fun _ h => absurd h List.not_mem_nil⟩⟩⟩⟩⟩⟩⟩⟩⟩⟩⟩⟩⟩⟩⟩⟩⟩⟩⟩⟩⟩⟩⟩⟩⟩⟩⟩⟩⟩⟩⟩⟩⟩⟩⟩⟩⟩⟩⟩⟩⟩⟩⟩⟩⟩⟩⟩⟩⟩⟩⟩⟩⟩⟩⟩⟩⟩⟩⟩⟩⟩⟩⟩⟩⟩⟩⟩⟩⟩⟩⟩⟩⟩⟩⟩⟩⟩⟩⟩⟩⟩⟩⟩⟩⟩⟩⟩⟩⟩⟩⟩⟩⟩⟩⟩⟩⟩⟩⟩⟩⟩⟩⟩⟩⟩⟩⟩⟩⟩⟩⟩⟩⟩⟩⟩⟩⟩⟩⟩⟩⟩⟩⟩⟩⟩⟩⟩⟩⟩⟩⟩⟩⟩⟩⟩⟩⟩⟩⟩⟩⟩⟩⟩⟩⟩⟩⟩⟩⟩⟩⟩⟩⟩⟩⟩⟩⟩⟩⟩⟩⟩⟩⟩⟩⟩⟩⟩⟩
theorem meth_ok (i : Nat) (h0 : i ≠ 0) : rMeth i := by
  by_cases h : i < 169
  · have hm : ∀ i, i < 169 → i ≠ 0 → i ∈ ([1, 2, 3, 4, 5, 6, 7, 8, 9, 10, 11, 12, 13, 14, 15, 16, 17, 18, 19, 20, 21, 22, 23, 24, 25, 26, 27, 28, 29, 30, 31, 32, 33, 34, 35, 36, 37, 38, 39, 40, 41, 42, 43, 44, 45, 46, 47, 48, 49, 50, 51, 52, 53, 54, 55, 56, 57, 58, 59, 60, 61, 62, 63, 64, 65, 66, 67, 68, 69, 70, 71, 72, 73, 74, 75, 76, 77, 78, 79, 80, 81, 82, 83, 84, 85, 86, 87, 88, 89, 90, 91, 92, 93, 94, 95, 96, 97, 98, 99, 100, 101, 102, 103, 104, 105, 106, 107, 108, 109, 110, 111, 112, 113, 114, 115, 116, 117, 118, 119, 120, 121, 122, 123, 124, 125, 126, 127, 128, 129, 130, 131, 132, 133, 134, 135, 136, 137, 138, 139, 140, 141, 142, 143, 144, 145, 146, 147, 148, 149, 150, 151, 152, 153, 154, 155, 156, 157, 158, 159, 160, 161, 162, 163, 164, 165, 166, 167, 168] : List Nat) := by decide +kernel
    exact me_all i (hm i h h0)
  · intro o rk hh nL ini h2
    rw [List.getElem?_eq_none (by show mI.length ≤ i; have : mI.length = 169 := rfl; omega)] at h2
    cases h2
end
section
theorem cT_0 : rCall (1, 5, 137, 138, 1, 0, 0) := ⟨RL, yX9_init, cX9_init, _, _, rfl, rfl, by decide, rfl, rfl, rfl, mA 54 (by decide +kernel), mA 55 (by decide +kernel), by decide, (by unfold arOk; decide +kernel)⟩
theorem cT_1 : rCall (1, 5, 140, 77, 1, 0, 0) := ⟨RL, yX15_init, cX15_init, _, _, rfl, rfl, by decide, rfl, rfl, rfl, mA 587 (by decide +kernel), mA 588 (by decide +kernel), by decide, (by unfold arOk; decide +kernel)⟩
theorem cT_2 : rCall (5, 5, 141, 16, 5, 0, 0) := ⟨RL, yL_addClub, cL_addClub, _, _, rfl, rfl, by decide, by decide, mA 192 (by decide +kernel), mA 193 (by decide +kernel), (by unfold arOk; decide +kernel)⟩
theorem cT_3 : rCall (0, 5, 146, 59, 4, 10, 0) := ⟨RL, yX15_addClub, cX15_addClub, _, _, rfl, rfl, by decide, rfl, ⟨TX15, 13, rfl⟩, mA 623 (by decide +kernel), mA 624 (by decide +kernel), mA 625 (by decide +kernel), by decide, (by unfold arOk; decide +kernel)⟩
theorem cT_4 : rCall (0, 5, 147, 106, 1, 10, 0) := ⟨RL, yX15_thrown, cX15_thrown, _, _, rfl, rfl, by decide, rfl, ⟨TX15, 13, rfl⟩, mA 619 (by decide +kernel), mA 620 (by decide +kernel), mA 621 (by decide +kernel), by decide, (by unfold arOk; decide +kernel)⟩
theorem cT_5 : rCall (5, 5, 150, 17, 3, 0, 0) := ⟨RL, yL_addPlayer, cL_addPlayer, _, _, rfl, rfl, by decide, by decide, mA 256 (by decide +kernel), mA 257 (by decide +kernel), (by unfold arOk; decide +kernel)⟩
theorem cT_6 : rCall (0, 5, 153, 60, 2, 10, 0) := ⟨RL, yX15_addPlayer, cX15_addPlayer, _, _, rfl, rfl, by decide, rfl, ⟨TX15, 13, rfl⟩, mA 700 (by decide +kernel), mA 701 (by decide +kernel), mA 702 (by decide +kernel), by decide, (by unfold arOk; decide +kernel)⟩
theorem cT_7 : rCall (5, 5, 154, 43, 4, 0, 0) := ⟨RL, yL_setWindow, cL_setWindow, _, _, rfl, rfl, by decide, by decide, mA 269 (by decide +kernel), mA 270 (by decide +kernel), (by unfold arOk; decide +kernel)⟩
theorem cT_8 : rCall (0, 5, 157, 101, 3, 10, 0) := ⟨RL, yX15_setWindow, cX15_setWindow, _, _, rfl, rfl, by decide, rfl, ⟨TX15, 13, rfl⟩, mA 707 (by decide +kernel), mA 708 (by decide +kernel), mA 709 (by decide +kernel), by decide, (by unfold arOk; decide +kernel)⟩
theorem cT_9 : rCall (5, 5, 158, 28, 3, 0, 0) := ⟨RL, yL_goOn, cL_goOn, _, _, rfl, rfl, by decide, by decide, mA 279 (by decide +kernel), mA 280 (by decide +kernel), (by unfold arOk; decide +kernel)⟩
theorem cT_10 : rCall (0, 5, 160, 73, 2, 10, 0) := ⟨RL, yX15_goOn, cX15_goOn, _, _, rfl, rfl, by decide, rfl, ⟨TX15, 13, rfl⟩, mA 715 (by decide +kernel), mA 716 (by decide +kernel), mA 717 (by decide +kernel), by decide, (by unfold arOk; decide +kernel)⟩
theorem cT_11 : rCall (5, 5, 161, 41, 5, 0, 0) := ⟨RL, yL_sell, cL_sell, _, _, rfl, rfl, by decide, by decide, mA 286 (by decide +kernel), mA 287 (by decide +kernel), (by unfold arOk; decide +kernel)⟩
theorem cT_12 : rCall (0, 5, 163, 99, 4, 10, 0) := ⟨RL, yX15_sell, cX15_sell, _, _, rfl, rfl, by decide, rfl, ⟨TX15, 13, rfl⟩, mA 720 (by decide +kernel), mA 721 (by decide +kernel), mA 722 (by decide +kernel), by decide, (by unfold arOk; decide +kernel)⟩
theorem cT_13 : rCall (5, 5, 164, 32, 4, 0, 0) := ⟨RL, yL_lend, cL_lend, _, _, rfl, rfl, by decide, by decide, mA 298 (by decide +kernel), mA 299 (by decide +kernel), (by unfold arOk; decide +kernel)⟩
theorem cT_14 : rCall (0, 5, 166, 85, 3, 10, 0) := ⟨RL, yX15_lend, cX15_lend, _, _, rfl, rfl, by decide, rfl, ⟨TX15, 13, rfl⟩, mA 727 (by decide +kernel), mA 728 (by decide +kernel), mA 729 (by decide +kernel), by decide, (by unfold arOk; decide +kernel)⟩
theorem cT_15 : rCall (5, 5, 167, 20, 3, 0, 0) := ⟨RL, yL_callBack, cL_callBack, _, _, rfl, rfl, by decide, by decide, mA 305 (by decide +kernel), mA 306 (by decide +kernel), (by unfold arOk; decide +kernel)⟩
theorem cT_16 : rCall (0, 5, 169, 63, 2, 10, 0) := ⟨RL, yX15_callBack, cX15_callBack, _, _, rfl, rfl, by decide, rfl, ⟨TX15, 13, rfl⟩, mA 731 (by decide +kernel), mA 732 (by decide +kernel), mA 733 (by decide +kernel), by decide, (by unfold arOk; decide +kernel)⟩
theorem cT_17 : rCall (5, 5, 170, 42, 5, 0, 0) := ⟨RL, yL_setDerby, cL_setDerby, _, _, rfl, rfl, by decide, by decide, mA 312 (by decide +kernel), mA 313 (by decide +kernel), (by unfold arOk; decide +kernel)⟩
theorem cT_18 : rCall (0, 5, 173, 100, 4, 10, 0) := ⟨RL, yX15_setDerby, cX15_setDerby, _, _, rfl, rfl, by decide, rfl, ⟨TX15, 13, rfl⟩, mA 735 (by decide +kernel), mA 736 (by decide +kernel), mA 737 (by decide +kernel), by decide, (by unfold arOk; decide +kernel)⟩
theorem cT_19 : rCall (5, 5, 174, 36, 3, 0, 0) := ⟨RL, yL_plan, cL_plan, _, _, rfl, rfl, by decide, by decide, mA 319 (by decide +kernel), mA 320 (by decide +kernel), (by unfold arOk; decide +kernel)⟩
theorem cT_20 : rCall (0, 5, 176, 94, 2, 10, 0) := ⟨RL, yX15_plan, cX15_plan, _, _, rfl, rfl, by decide, rfl, ⟨TX15, 13, rfl⟩, mA 739 (by decide +kernel), mA 740 (by decide +kernel), mA 741 (by decide +kernel), by decide, (by unfold arOk; decide +kernel)⟩
theorem cT_21 : rCall (5, 5, 177, 38, 4, 0, 0) := ⟨RL, yL_putOff, cL_putOff, _, _, rfl, rfl, by decide, by decide, mA 334 (by decide +kernel), mA 335 (by decide +kernel), (by unfold arOk; decide +kernel)⟩
theorem cT_22 : rCall (0, 5, 179, 96, 3, 10, 0) := ⟨RL, yX15_putOff, cX15_putOff, _, _, rfl, rfl, by decide, rfl, ⟨TX15, 13, rfl⟩, mA 746 (by decide +kernel), mA 747 (by decide +kernel), mA 748 (by decide +kernel), by decide, (by unfold arOk; decide +kernel)⟩
theorem cT_23 : rCall (5, 5, 180, 27, 4, 0, 0) := ⟨RL, yL_fixture, cL_fixture, _, _, rfl, rfl, by decide, by decide, mA 344 (by decide +kernel), mA 345 (by decide +kernel), (by unfold arOk; decide +kernel)⟩
theorem cT_24 : rCall (0, 5, 183, 72, 3, 10, 0) := ⟨RL, yX15_fixture, cX15_fixture, _, _, rfl, rfl, by decide, rfl, ⟨TX15, 13, rfl⟩, mA 753 (by decide +kernel), mA 754 (by decide +kernel), mA 755 (by decide +kernel), by decide, (by unfold arOk; decide +kernel)⟩
theorem cT_25 : rCall (5, 5, 184, 44, 3, 0, 0) := ⟨RL, yL_stateOf, cL_stateOf, _, _, rfl, rfl, by decide, by decide, mA 351 (by decide +kernel), mA 352 (by decide +kernel), (by unfold arOk; decide +kernel)⟩
theorem cT_26 : rCall (0, 5, 186, 102, 2, 10, 0) := ⟨RL, yX15_stateOf, cX15_stateOf, _, _, rfl, rfl, by decide, rfl, ⟨TX15, 13, rfl⟩, mA 757 (by decide +kernel), mA 758 (by decide +kernel), mA 759 (by decide +kernel), by decide, (by unfold arOk; decide +kernel)⟩
theorem cT_27 : rCall (5, 5, 187, 34, 5, 0, 0) := ⟨RL, yL_name, cL_name, _, _, rfl, rfl, by decide, by decide, mA 358 (by decide +kernel), mA 359 (by decide +kernel), (by unfold arOk; decide +kernel)⟩
theorem cT_28 : rCall (0, 5, 190, 88, 4, 10, 0) := ⟨RL, yX15_name, cX15_name, _, _, rfl, rfl, by decide, rfl, ⟨TX15, 13, rfl⟩, mA 761 (by decide +kernel), mA 762 (by decide +kernel), mA 763 (by decide +kernel), by decide, (by unfold arOk; decide +kernel)⟩
theorem cT_29 : rCall (5, 5, 191, 31, 3, 0, 0) := ⟨RL, yL_kickOff, cL_kickOff, _, _, rfl, rfl, by decide, by decide, mA 368 (by decide +kernel), mA 369 (by decide +kernel), (by unfold arOk; decide +kernel)⟩
theorem cT_30 : rCall (0, 5, 193, 84, 2, 10, 0) := ⟨RL, yX15_kickOff, cX15_kickOff, _, _, rfl, rfl, by decide, rfl, ⟨TX15, 13, rfl⟩, mA 765 (by decide +kernel), mA 766 (by decide +kernel), mA 767 (by decide +kernel), by decide, (by unfold arOk; decide +kernel)⟩
theorem cT_31 : rCall (5, 5, 194, 29, 3, 0, 0) := ⟨RL, yL_goal, cL_goal, _, _, rfl, rfl, by decide, by decide, mA 401 (by decide +kernel), mA 402 (by decide +kernel), (by unfold arOk; decide +kernel)⟩
theorem cT_32 : rCall (0, 5, 196, 74, 2, 10, 0) := ⟨RL, yX15_goal, cX15_goal, _, _, rfl, rfl, by decide, rfl, ⟨TX15, 13, rfl⟩, mA 790 (by decide +kernel), mA 791 (by decide +kernel), mA 792 (by decide +kernel), by decide, (by unfold arOk; decide +kernel)⟩
theorem cT_33 : rCall (5, 5, 197, 21, 4, 0, 0) := ⟨RL, yL_card, cL_card, _, _, rfl, rfl, by decide, by decide, mA 411 (by decide +kernel), mA 412 (by decide +kernel), (by unfold arOk; decide +kernel)⟩
theorem cT_34 : rCall (0, 5, 200, 64, 3, 10, 0) := ⟨RL, yX15_card, cX15_card, _, _, rfl, rfl, by decide, rfl, ⟨TX15, 13, rfl⟩, mA 797 (by decide +kernel), mA 798 (by decide +kernel), mA 799 (by decide +kernel), by decide, (by unfold arOk; decide +kernel)⟩
theorem cT_35 : rCall (5, 5, 201, 22, 4, 0, 0) := ⟨RL, yL_change, cL_change, _, _, rfl, rfl, by decide, by decide, mA 418 (by decide +kernel), mA 419 (by decide +kernel), (by unfold arOk; decide +kernel)⟩
theorem cT_36 : rCall (0, 5, 203, 65, 3, 10, 0) := ⟨RL, yX15_change, cX15_change, _, _, rfl, rfl, by decide, rfl, ⟨TX15, 13, rfl⟩, mA 801 (by decide +kernel), mA 802 (by decide +kernel), mA 803 (by decide +kernel), by decide, (by unfold arOk; decide +kernel)⟩
theorem cT_37 : rCall (5, 5, 204, 25, 2, 0, 0) := ⟨RL, yL_end, cL_end, _, _, rfl, rfl, by decide, by decide, mA 425 (by decide +kernel), mA 426 (by decide +kernel), (by unfold arOk; decide +kernel)⟩
theorem cT_38 : rCall (0, 5, 207, 70, 1, 10, 0) := ⟨RL, yX15_end, cX15_end, _, _, rfl, rfl, by decide, rfl, ⟨TX15, 13, rfl⟩, mA 805 (by decide +kernel), mA 806 (by decide +kernel), mA 807 (by decide +kernel), by decide, (by unfold arOk; decide +kernel)⟩
theorem cT_39 : rCall (5, 5, 208, 15, 3, 0, 0) := ⟨RL, yL_abandon, cL_abandon, _, _, rfl, rfl, by decide, by decide, mA 432 (by decide +kernel), mA 433 (by decide +kernel), (by unfold arOk; decide +kernel)⟩
theorem cT_40 : rCall (0, 5, 211, 58, 2, 10, 0) := ⟨RL, yX15_abandon, cX15_abandon, _, _, rfl, rfl, by decide, rfl, ⟨TX15, 13, rfl⟩, mA 809 (by decide +kernel), mA 810 (by decide +kernel), mA 811 (by decide +kernel), by decide, (by unfold arOk; decide +kernel)⟩
theorem cT_41 : rCall (5, 5, 212, 18, 4, 0, 0) := ⟨RL, yL_appeal, cL_appeal, _, _, rfl, rfl, by decide, by decide, mA 439 (by decide +kernel), mA 440 (by decide +kernel), (by unfold arOk; decide +kernel)⟩
theorem cT_42 : rCall (0, 5, 214, 61, 3, 10, 0) := ⟨RL, yX15_appeal, cX15_appeal, _, _, rfl, rfl, by decide, rfl, ⟨TX15, 13, rfl⟩, mA 813 (by decide +kernel), mA 814 (by decide +kernel), mA 815 (by decide +kernel), by decide, (by unfold arOk; decide +kernel)⟩
theorem cT_43 : rCall (5, 5, 215, 47, 2, 0, 0) := ⟨RL, yL_wipe, cL_wipe, _, _, rfl, rfl, by decide, by decide, mA 446 (by decide +kernel), mA 447 (by decide +kernel), (by unfold arOk; decide +kernel)⟩
theorem cT_44 : rCall (0, 5, 217, 107, 1, 10, 0) := ⟨RL, yX15_wipe, cX15_wipe, _, _, rfl, rfl, by decide, rfl, ⟨TX15, 13, rfl⟩, mA 817 (by decide +kernel), mA 818 (by decide +kernel), mA 819 (by decide +kernel), by decide, (by unfold arOk; decide +kernel)⟩
theorem cT_45 : rCall (5, 5, 218, 19, 3, 0, 0) := ⟨RL, yL_ban, cL_ban, _, _, rfl, rfl, by decide, by decide, mA 457 (by decide +kernel), mA 458 (by decide +kernel), (by unfold arOk; decide +kernel)⟩
theorem cT_46 : rCall (0, 5, 220, 62, 2, 10, 0) := ⟨RL, yX15_ban, cX15_ban, _, _, rfl, rfl, by decide, rfl, ⟨TX15, 13, rfl⟩, mA 821 (by decide +kernel), mA 822 (by decide +kernel), mA 823 (by decide +kernel), by decide, (by unfold arOk; decide +kernel)⟩
theorem cT_47 : rCall (5, 5, 221, 48, 3, 0, 0) := ⟨RL, yL_yellows, cL_yellows, _, _, rfl, rfl, by decide, by decide, mA 464 (by decide +kernel), mA 465 (by decide +kernel), (by unfold arOk; decide +kernel)⟩
theorem cT_48 : rCall (0, 5, 223, 108, 2, 10, 0) := ⟨RL, yX15_yellows, cX15_yellows, _, _, rfl, rfl, by decide, rfl, ⟨TX15, 13, rfl⟩, mA 825 (by decide +kernel), mA 826 (by decide +kernel), mA 827 (by decide +kernel), by decide, (by unfold arOk; decide +kernel)⟩
theorem cT_49 : rCall (5, 5, 224, 30, 4, 0, 0) := ⟨RL, yL_isGuilty, cL_isGuilty, _, _, rfl, rfl, by decide, by decide, mA 471 (by decide +kernel), mA 472 (by decide +kernel), (by unfold arOk; decide +kernel)⟩
theorem cT_50 : rCall (0, 5, 226, 79, 3, 10, 0) := ⟨RL, yX15_isGuilty, cX15_isGuilty, _, _, rfl, rfl, by decide, rfl, ⟨TX15, 13, rfl⟩, mA 829 (by decide +kernel), mA 830 (by decide +kernel), mA 831 (by decide +kernel), by decide, (by unfold arOk; decide +kernel)⟩
theorem cT_51 : rCall (5, 5, 227, 40, 3, 0, 0) := ⟨RL, yL_resultOf, cL_resultOf, _, _, rfl, rfl, by decide, by decide, mA 478 (by decide +kernel), mA 479 (by decide +kernel), (by unfold arOk; decide +kernel)⟩
theorem cT_52 : rCall (0, 5, 229, 98, 2, 10, 0) := ⟨RL, yX15_resultOf, cX15_resultOf, _, _, rfl, rfl, by decide, rfl, ⟨TX15, 13, rfl⟩, mA 833 (by decide +kernel), mA 834 (by decide +kernel), mA 835 (by decide +kernel), by decide, (by unfold arOk; decide +kernel)⟩
theorem cT_53 : rCall (5, 5, 230, 46, 4, 0, 0) := ⟨RL, yL_takePoints, cL_takePoints, _, _, rfl, rfl, by decide, by decide, mA 485 (by decide +kernel), mA 486 (by decide +kernel), (by unfold arOk; decide +kernel)⟩
theorem cT_54 : rCall (0, 5, 232, 105, 3, 10, 0) := ⟨RL, yX15_takePoints, cX15_takePoints, _, _, rfl, rfl, by decide, rfl, ⟨TX15, 13, rfl⟩, mA 837 (by decide +kernel), mA 838 (by decide +kernel), mA 839 (by decide +kernel), by decide, (by unfold arOk; decide +kernel)⟩
theorem cT_55 : rCall (5, 5, 233, 45, 4, 0, 0) := ⟨RL, yL_strike, cL_strike, _, _, rfl, rfl, by decide, by decide, mA 492 (by decide +kernel), mA 493 (by decide +kernel), (by unfold arOk; decide +kernel)⟩
theorem cT_56 : rCall (0, 5, 235, 103, 3, 10, 0) := ⟨RL, yX15_strike, cX15_strike, _, _, rfl, rfl, by decide, rfl, ⟨TX15, 13, rfl⟩, mA 841 (by decide +kernel), mA 842 (by decide +kernel), mA 843 (by decide +kernel), by decide, (by unfold arOk; decide +kernel)⟩
theorem cT_57 : rCall (5, 5, 236, 23, 4, 0, 0) := ⟨RL, yL_clubAt, cL_clubAt, _, _, rfl, rfl, by decide, by decide, mA 499 (by decide +kernel), mA 500 (by decide +kernel), (by unfold arOk; decide +kernel)⟩
theorem cT_58 : rCall (0, 5, 238, 66, 3, 10, 0) := ⟨RL, yX15_clubAt, cX15_clubAt, _, _, rfl, rfl, by decide, rfl, ⟨TX15, 13, rfl⟩, mA 845 (by decide +kernel), mA 846 (by decide +kernel), mA 847 (by decide +kernel), by decide, (by unfold arOk; decide +kernel)⟩
theorem cT_59 : rCall (5, 5, 239, 37, 3, 0, 0) := ⟨RL, yL_points, cL_points, _, _, rfl, rfl, by decide, by decide, mA 524 (by decide +kernel), mA 525 (by decide +kernel), (by unfold arOk; decide +kernel)⟩
theorem cT_60 : rCall (0, 5, 241, 95, 2, 10, 0) := ⟨RL, yX15_points, cX15_points, _, _, rfl, rfl, by decide, rfl, ⟨TX15, 13, rfl⟩, mA 861 (by decide +kernel), mA 862 (by decide +kernel), mA 863 (by decide +kernel), by decide, (by unfold arOk; decide +kernel)⟩
theorem cT_61 : rCall (5, 5, 242, 24, 3, 0, 0) := ⟨RL, yL_divisionOf, cL_divisionOf, _, _, rfl, rfl, by decide, by decide, mA 531 (by decide +kernel), mA 532 (by decide +kernel), (by unfold arOk; decide +kernel)⟩
theorem cT_62 : rCall (0, 5, 244, 69, 2, 10, 0) := ⟨RL, yX15_divisionOf, cX15_divisionOf, _, _, rfl, rfl, by decide, rfl, ⟨TX15, 13, rfl⟩, mA 865 (by decide +kernel), mA 866 (by decide +kernel), mA 867 (by decide +kernel), by decide, (by unfold arOk; decide +kernel)⟩
theorem cT_63 : rCall (5, 5, 245, 39, 3, 0, 0) := ⟨RL, yL_registered, cL_registered, _, _, rfl, rfl, by decide, by decide, mA 538 (by decide +kernel), mA 539 (by decide +kernel), (by unfold arOk; decide +kernel)⟩
theorem cT_64 : rCall (0, 5, 247, 97, 2, 10, 0) := ⟨RL, yX15_registered, cX15_registered, _, _, rfl, rfl, by decide, rfl, ⟨TX15, 13, rfl⟩, mA 869 (by decide +kernel), mA 870 (by decide +kernel), mA 871 (by decide +kernel), by decide, (by unfold arOk; decide +kernel)⟩
theorem cT_65 : rCall (5, 5, 248, 26, 2, 0, 0) := ⟨RL, yL_endSeason, cL_endSeason, _, _, rfl, rfl, by decide, by decide, mA 545 (by decide +kernel), mA 546 (by decide +kernel), (by unfold arOk; decide +kernel)⟩
theorem cT_66 : rCall (0, 5, 250, 71, 1, 10, 0) := ⟨RL, yX15_endSeason, cX15_endSeason, _, _, rfl, rfl, by decide, rfl, ⟨TX15, 13, rfl⟩, mA 873 (by decide +kernel), mA 874 (by decide +kernel), mA 875 (by decide +kernel), by decide, (by unfold arOk; decide +kernel)⟩
theorem cT_67 : rCall (0, 5, 251, 153, 1, 7, 0) := ⟨RL, yX9_money, cX9_money, _, _, rfl, rfl, by decide, rfl, ⟨TX9, 10, rfl⟩, mA 157 (by decide +kernel), mA 158 (by decide +kernel), mA 159 (by decide +kernel), by decide, (by unfold arOk; decide +kernel)⟩
theorem cT_68 : rCall (0, 5, 255, 87, 1, 10, 0) := ⟨RL, yX15_money, cX15_money, _, _, rfl, rfl, by decide, rfl, ⟨TX15, 13, rfl⟩, mA 883 (by decide +kernel), mA 884 (by decide +kernel), mA 885 (by decide +kernel), by decide, (by unfold arOk; decide +kernel)⟩
theorem cT_69 : rCall (5, 5, 256, 35, 2, 0, 0) := ⟨RL, yL_overShare, cL_overShare, _, _, rfl, rfl, by decide, by decide, mA 565 (by decide +kernel), mA 566 (by decide +kernel), (by unfold arOk; decide +kernel)⟩
theorem cT_70 : rCall (0, 5, 259, 93, 1, 10, 0) := ⟨RL, yX15_overShare, cX15_overShare, _, _, rfl, rfl, by decide, rfl, ⟨TX15, 13, rfl⟩, mA 887 (by decide +kernel), mA 888 (by decide +kernel), mA 889 (by decide +kernel), by decide, (by unfold arOk; decide +kernel)⟩
theorem cT_71 : rCall (5, 5, 260, 33, 2, 0, 0) := ⟨RL, yL_meanGoals, cL_meanGoals, _, _, rfl, rfl, by decide, by decide, mA 578 (by decide +kernel), mA 579 (by decide +kernel), (by unfold arOk; decide +kernel)⟩
theorem cT_72 : rCall (0, 5, 262, 86, 1, 10, 0) := ⟨RL, yX15_meanGoals, cX15_meanGoals, _, _, rfl, rfl, by decide, rfl, ⟨TX15, 13, rfl⟩, mA 894 (by decide +kernel), mA 895 (by decide +kernel), mA 896 (by decide +kernel), by decide, (by unfold arOk; decide +kernel)⟩
theorem cT_73 : rCall (0, 5, 263, 142, 1, 7, 0) := ⟨RL, yX9_isSound, cX9_isSound, _, _, rfl, rfl, by decide, rfl, ⟨TX9, 10, rfl⟩, mA 166 (by decide +kernel), mA 167 (by decide +kernel), mA 168 (by decide +kernel), by decide, (by unfold arOk; decide +kernel)⟩
theorem cT_74 : rCall (0, 5, 267, 83, 1, 10, 0) := ⟨RL, yX15_isSound, cX15_isSound, _, _, rfl, rfl, by decide, rfl, ⟨TX15, 13, rfl⟩, mA 898 (by decide +kernel), mA 899 (by decide +kernel), mA 900 (by decide +kernel), by decide, (by unfold arOk; decide +kernel)⟩
theorem cT_75 : rCall (0, 2, 129, 8, 1, 1, 0) := ⟨RJx4a65c, yJx4a65c_grow_d5877, cJx4a65c_grow_d5877, _, _, rfl, rfl, by decide, rfl, ⟨TJx4a65c, 3, rfl⟩, mA 247 (by decide +kernel), mA 248 (by decide +kernel), mA 3 (by decide +kernel), by decide, (by unfold arOk; decide +kernel)⟩
theorem cT_76 : rCall (0, 2, 131, 4, 4, 1, 0) := ⟨RJx4a65c, yJx4a65c_add_72be8, cJx4a65c_add_72be8, _, _, rfl, rfl, by decide, rfl, ⟨TJx4a65c, 3, rfl⟩, mA 244 (by decide +kernel), mA 245 (by decide +kernel), mA 2 (by decide +kernel), by decide, (by unfold arOk; decide +kernel)⟩
theorem cT_77 : rCall (0, 2, 69, 7, 2, 1, 0) := ⟨RJx4a65c, yJx4a65c_grow_92f84, cJx4a65c_grow_92f84, _, _, rfl, rfl, by decide, rfl, ⟨TJx4a65c, 3, rfl⟩, mA 250 (by decide +kernel), mA 251 (by decide +kernel), mA 4 (by decide +kernel), by decide, (by unfold arOk; decide +kernel)⟩
theorem cT_78 : rCall (1, 2, 1, 14, 1, 0, 0) := ⟨RJx4a65c, yJxc12de_init_da8c8, cJxc12de_init_da8c8, _, _, rfl, rfl, by decide, rfl, rfl, rfl, mA 65 (by decide +kernel), mA 66 (by decide +kernel), by decide, (by unfold arOk; decide +kernel)⟩
theorem cT_79 : rCall (1, 2, 269, 3, 2, 0, 0) := ⟨RJx4a65c, yJx35411_init_45d68, cJx35411_init_45d68, _, _, rfl, rfl, by decide, rfl, rfl, rfl, mA 649 (by decide +kernel), mA 650 (by decide +kernel), by decide, (by unfold arOk; decide +kernel)⟩
theorem cT_80 : rCall (1, 4, 1, 13, 1, 0, 0) := ⟨RJxc12de, yJxa1e45_init_da8c8, cJxa1e45_init_da8c8, _, _, rfl, rfl, by decide, rfl, rfl, rfl, mA 68 (by decide +kernel), mA 69 (by decide +kernel), by decide, (by unfold arOk; decide +kernel)⟩
theorem cT_81 : rCall (0, 5, 83, 119, 2, 7, 0) := ⟨RL, yX9_abandon, cX9_abandon, _, _, rfl, rfl, by decide, rfl, ⟨TX9, 10, rfl⟩, mA 435 (by decide +kernel), mA 436 (by decide +kernel), mA 437 (by decide +kernel), by decide, (by unfold arOk; decide +kernel)⟩
theorem cT_82 : rCall (0, 5, 7, 120, 4, 7, 0) := ⟨RL, yX9_addClub, cX9_addClub, _, _, rfl, rfl, by decide, rfl, ⟨TX9, 10, rfl⟩, mA 197 (by decide +kernel), mA 198 (by decide +kernel), mA 199 (by decide +kernel), by decide, (by unfold arOk; decide +kernel)⟩
theorem cT_83 : rCall (0, 5, 17, 121, 2, 7, 0) := ⟨RL, yX9_addPlayer, cX9_addPlayer, _, _, rfl, rfl, by decide, rfl, ⟨TX9, 10, rfl⟩, mA 260 (by decide +kernel), mA 261 (by decide +kernel), mA 262 (by decide +kernel), by decide, (by unfold arOk; decide +kernel)⟩
theorem cT_84 : rCall (0, 5, 87, 122, 3, 7, 0) := ⟨RL, yX9_appeal, cX9_appeal, _, _, rfl, rfl, by decide, rfl, ⟨TX9, 10, rfl⟩, mA 442 (by decide +kernel), mA 443 (by decide +kernel), mA 444 (by decide +kernel), by decide, (by unfold arOk; decide +kernel)⟩
theorem cT_85 : rCall (0, 5, 94, 123, 2, 7, 0) := ⟨RL, yX9_ban, cX9_ban, _, _, rfl, rfl, by decide, rfl, ⟨TX9, 10, rfl⟩, mA 460 (by decide +kernel), mA 461 (by decide +kernel), mA 462 (by decide +kernel), by decide, (by unfold arOk; decide +kernel)⟩
theorem cT_86 : rCall (0, 5, 39, 124, 2, 7, 0) := ⟨RL, yX9_callBack, cX9_callBack, _, _, rfl, rfl, by decide, rfl, ⟨TX9, 10, rfl⟩, mA 308 (by decide +kernel), mA 309 (by decide +kernel), mA 310 (by decide +kernel), by decide, (by unfold arOk; decide +kernel)⟩
theorem cT_87 : rCall (0, 5, 72, 125, 3, 7, 0) := ⟨RL, yX9_card, cX9_card, _, _, rfl, rfl, by decide, rfl, ⟨TX9, 10, rfl⟩, mA 414 (by decide +kernel), mA 415 (by decide +kernel), mA 416 (by decide +kernel), by decide, (by unfold arOk; decide +kernel)⟩
theorem cT_88 : rCall (0, 5, 76, 126, 3, 7, 0) := ⟨RL, yX9_change, cX9_change, _, _, rfl, rfl, by decide, rfl, ⟨TX9, 10, rfl⟩, mA 421 (by decide +kernel), mA 422 (by decide +kernel), mA 423 (by decide +kernel), by decide, (by unfold arOk; decide +kernel)⟩
theorem cT_89 : rCall (0, 5, 112, 128, 3, 7, 0) := ⟨RL, yX9_clubAt, cX9_clubAt, _, _, rfl, rfl, by decide, rfl, ⟨TX9, 10, rfl⟩, mA 502 (by decide +kernel), mA 503 (by decide +kernel), mA 504 (by decide +kernel), by decide, (by unfold arOk; decide +kernel)⟩
theorem cT_90 : rCall (0, 5, 118, 130, 2, 7, 0) := ⟨RL, yX9_divisionOf, cX9_divisionOf, _, _, rfl, rfl, by decide, rfl, ⟨TX9, 10, rfl⟩, mA 534 (by decide +kernel), mA 535 (by decide +kernel), mA 536 (by decide +kernel), by decide, (by unfold arOk; decide +kernel)⟩
theorem cT_91 : rCall (0, 5, 79, 131, 1, 7, 0) := ⟨RL, yX9_end, cX9_end, _, _, rfl, rfl, by decide, rfl, ⟨TX9, 10, rfl⟩, mA 428 (by decide +kernel), mA 429 (by decide +kernel), mA 430 (by decide +kernel), by decide, (by unfold arOk; decide +kernel)⟩
theorem cT_92 : rCall (0, 5, 124, 132, 1, 7, 0) := ⟨RL, yX9_endSeason, cX9_endSeason, _, _, rfl, rfl, by decide, rfl, ⟨TX9, 10, rfl⟩, mA 548 (by decide +kernel), mA 549 (by decide +kernel), mA 550 (by decide +kernel), by decide, (by unfold arOk; decide +kernel)⟩
theorem cT_93 : rCall (0, 5, 54, 133, 3, 7, 0) := ⟨RL, yX9_fixture, cX9_fixture, _, _, rfl, rfl, by decide, rfl, ⟨TX9, 10, rfl⟩, mA 347 (by decide +kernel), mA 348 (by decide +kernel), mA 349 (by decide +kernel), by decide, (by unfold arOk; decide +kernel)⟩
theorem cT_94 : rCall (0, 5, 27, 135, 2, 7, 0) := ⟨RL, yX9_goOn, cX9_goOn, _, _, rfl, rfl, by decide, rfl, ⟨TX9, 10, rfl⟩, mA 282 (by decide +kernel), mA 283 (by decide +kernel), mA 284 (by decide +kernel), by decide, (by unfold arOk; decide +kernel)⟩
theorem cT_95 : rCall (0, 5, 69, 136, 2, 7, 0) := ⟨RL, yX9_goal, cX9_goal, _, _, rfl, rfl, by decide, rfl, ⟨TX9, 10, rfl⟩, mA 404 (by decide +kernel), mA 405 (by decide +kernel), mA 406 (by decide +kernel), by decide, (by unfold arOk; decide +kernel)⟩
theorem cT_96 : rCall (0, 5, 100, 141, 3, 7, 0) := ⟨RL, yX9_isGuilty, cX9_isGuilty, _, _, rfl, rfl, by decide, rfl, ⟨TX9, 10, rfl⟩, mA 474 (by decide +kernel), mA 475 (by decide +kernel), mA 476 (by decide +kernel), by decide, (by unfold arOk; decide +kernel)⟩
theorem cT_97 : rCall (0, 5, 66, 145, 2, 7, 0) := ⟨RL, yX9_kickOff, cX9_kickOff, _, _, rfl, rfl, by decide, rfl, ⟨TX9, 10, rfl⟩, mA 371 (by decide +kernel), mA 372 (by decide +kernel), mA 373 (by decide +kernel), by decide, (by unfold arOk; decide +kernel)⟩
theorem cT_98 : rCall (0, 5, 35, 151, 3, 7, 0) := ⟨RL, yX9_lend, cX9_lend, _, _, rfl, rfl, by decide, rfl, ⟨TX9, 10, rfl⟩, mA 301 (by decide +kernel), mA 302 (by decide +kernel), mA 303 (by decide +kernel), by decide, (by unfold arOk; decide +kernel)⟩
theorem cT_99 : rCall (0, 5, 133, 152, 1, 7, 0) := ⟨RL, yX9_meanGoals, cX9_meanGoals, _, _, rfl, rfl, by decide, rfl, ⟨TX9, 10, rfl⟩, mA 581 (by decide +kernel), mA 582 (by decide +kernel), mA 583 (by decide +kernel), by decide, (by unfold arOk; decide +kernel)⟩
theorem cT_100 : rCall (0, 5, 62, 154, 4, 7, 0) := ⟨RL, yX9_name, cX9_name, _, _, rfl, rfl, by decide, rfl, ⟨TX9, 10, rfl⟩, mA 361 (by decide +kernel), mA 362 (by decide +kernel), mA 363 (by decide +kernel), by decide, (by unfold arOk; decide +kernel)⟩
theorem cT_101 : rCall (0, 5, 127, 155, 1, 7, 0) := ⟨RL, yX9_overShare, cX9_overShare, _, _, rfl, rfl, by decide, rfl, ⟨TX9, 10, rfl⟩, mA 570 (by decide +kernel), mA 571 (by decide +kernel), mA 572 (by decide +kernel), by decide, (by unfold arOk; decide +kernel)⟩
theorem cT_102 : rCall (0, 5, 46, 156, 2, 7, 0) := ⟨RL, yX9_plan, cX9_plan, _, _, rfl, rfl, by decide, rfl, ⟨TX9, 10, rfl⟩, mA 323 (by decide +kernel), mA 324 (by decide +kernel), mA 325 (by decide +kernel), by decide, (by unfold arOk; decide +kernel)⟩
theorem cT_103 : rCall (0, 5, 115, 157, 2, 7, 0) := ⟨RL, yX9_points, cX9_points, _, _, rfl, rfl, by decide, rfl, ⟨TX9, 10, rfl⟩, mA 527 (by decide +kernel), mA 528 (by decide +kernel), mA 529 (by decide +kernel), by decide, (by unfold arOk; decide +kernel)⟩
theorem cT_104 : rCall (0, 5, 51, 158, 3, 7, 0) := ⟨RL, yX9_putOff, cX9_putOff, _, _, rfl, rfl, by decide, rfl, ⟨TX9, 10, rfl⟩, mA 337 (by decide +kernel), mA 338 (by decide +kernel), mA 339 (by decide +kernel), by decide, (by unfold arOk; decide +kernel)⟩
theorem cT_105 : rCall (0, 5, 121, 159, 2, 7, 0) := ⟨RL, yX9_registered, cX9_registered, _, _, rfl, rfl, by decide, rfl, ⟨TX9, 10, rfl⟩, mA 541 (by decide +kernel), mA 542 (by decide +kernel), mA 543 (by decide +kernel), by decide, (by unfold arOk; decide +kernel)⟩
theorem cT_106 : rCall (0, 5, 103, 160, 2, 7, 0) := ⟨RL, yX9_resultOf, cX9_resultOf, _, _, rfl, rfl, by decide, rfl, ⟨TX9, 10, rfl⟩, mA 481 (by decide +kernel), mA 482 (by decide +kernel), mA 483 (by decide +kernel), by decide, (by unfold arOk; decide +kernel)⟩
theorem cT_107 : rCall (0, 5, 30, 161, 4, 7, 0) := ⟨RL, yX9_sell, cX9_sell, _, _, rfl, rfl, by decide, rfl, ⟨TX9, 10, rfl⟩, mA 290 (by decide +kernel), mA 291 (by decide +kernel), mA 292 (by decide +kernel), by decide, (by unfold arOk; decide +kernel)⟩
theorem cT_108 : rCall (0, 5, 42, 162, 4, 7, 0) := ⟨RL, yX9_setDerby, cX9_setDerby, _, _, rfl, rfl, by decide, rfl, ⟨TX9, 10, rfl⟩, mA 315 (by decide +kernel), mA 316 (by decide +kernel), mA 317 (by decide +kernel), by decide, (by unfold arOk; decide +kernel)⟩
theorem cT_109 : rCall (0, 5, 23, 163, 3, 7, 0) := ⟨RL, yX9_setWindow, cX9_setWindow, _, _, rfl, rfl, by decide, rfl, ⟨TX9, 10, rfl⟩, mA 272 (by decide +kernel), mA 273 (by decide +kernel), mA 274 (by decide +kernel), by decide, (by unfold arOk; decide +kernel)⟩
theorem cT_110 : rCall (0, 5, 58, 164, 2, 7, 0) := ⟨RL, yX9_stateOf, cX9_stateOf, _, _, rfl, rfl, by decide, rfl, ⟨TX9, 10, rfl⟩, mA 354 (by decide +kernel), mA 355 (by decide +kernel), mA 356 (by decide +kernel), by decide, (by unfold arOk; decide +kernel)⟩
theorem cT_111 : rCall (0, 5, 109, 165, 3, 7, 0) := ⟨RL, yX9_strike, cX9_strike, _, _, rfl, rfl, by decide, rfl, ⟨TX9, 10, rfl⟩, mA 495 (by decide +kernel), mA 496 (by decide +kernel), mA 497 (by decide +kernel), by decide, (by unfold arOk; decide +kernel)⟩
theorem cT_112 : rCall (0, 5, 106, 166, 3, 7, 0) := ⟨RL, yX9_takePoints, cX9_takePoints, _, _, rfl, rfl, by decide, rfl, ⟨TX9, 10, rfl⟩, mA 488 (by decide +kernel), mA 489 (by decide +kernel), mA 490 (by decide +kernel), by decide, (by unfold arOk; decide +kernel)⟩
theorem cT_113 : rCall (0, 5, 91, 167, 1, 7, 0) := ⟨RL, yX9_wipe, cX9_wipe, _, _, rfl, rfl, by decide, rfl, ⟨TX9, 10, rfl⟩, mA 449 (by decide +kernel), mA 450 (by decide +kernel), mA 451 (by decide +kernel), by decide, (by unfold arOk; decide +kernel)⟩
theorem cT_114 : rCall (0, 5, 97, 168, 2, 7, 0) := ⟨RL, yX9_yellows, cX9_yellows, _, _, rfl, rfl, by decide, rfl, ⟨TX9, 10, rfl⟩, mA 467 (by decide +kernel), mA 468 (by decide +kernel), mA 469 (by decide +kernel), by decide, (by unfold arOk; decide +kernel)⟩
theorem cT_115 : rCall (2, 6, 46, 1, 2, 0, 0) := ⟨RX0, yJ7_fill_53178, cJ7_fill_53178, _, _, rfl, rfl, by decide, rfl, mA 181 (by decide +kernel), mA 182 (by decide +kernel), (by unfold arOk; decide +kernel)⟩
theorem cT_116 : rCall (0, 6, 34, 12, 1, 1, 0) := ⟨RX0, yJx4a65c_size_8abf5, cJx4a65c_size_8abf5, _, _, rfl, rfl, by decide, rfl, ⟨TJx4a65c, 3, rfl⟩, mA 184 (by decide +kernel), mA 162 (by decide +kernel), mA 163 (by decide +kernel), by decide, (by unfold arOk; decide +kernel)⟩
theorem cT_117 : rCall (1, 6, 11, 9, 1, 0, 0) := ⟨RX0, yJx4a65c_init_da8c8, cJx4a65c_init_da8c8, _, _, rfl, rfl, by decide, rfl, rfl, rfl, mA 90 (by decide +kernel), mA 63 (by decide +kernel), by decide, (by unfold arOk; decide +kernel)⟩
theorem cT_118 : rCall (0, 6, 74, 50, 1, 2, 0) := ⟨RX0, yX0_countAnew, cX0_countAnew, _, _, rfl, rfl, by decide, rfl, ⟨TX0, 6, rfl⟩, mA 177 (by decide +kernel), mA 178 (by decide +kernel), mA 179 (by decide +kernel), by decide, (by unfold arOk; decide +kernel)⟩
theorem cT_119 : rCall (0, 6, 38, 5, 2, 1, 0) := ⟨RX0, yJx4a65c_add_9ea2d, cJx4a65c_add_9ea2d, _, _, rfl, rfl, by decide, rfl, ⟨TJx4a65c, 3, rfl⟩, mA 400 (by decide +kernel), mA 241 (by decide +kernel), mA 242 (by decide +kernel), by decide, (by unfold arOk; decide +kernel)⟩
theorem cT_120 : rCall (0, 6, 42, 49, 2, 2, 0) := ⟨RX0, yX0_count, cX0_count, _, _, rfl, rfl, by decide, rfl, ⟨TX0, 6, rfl⟩, mA 185 (by decide +kernel), mA 186 (by decide +kernel), mA 0 (by decide +kernel), by decide, (by unfold arOk; decide +kernel)⟩
theorem cT_121 : rCall (1, 8, 9, 9, 1, 0, 0) := ⟨RX12, yJx4a65c_init_da8c8, cJx4a65c_init_da8c8, _, _, rfl, rfl, by decide, rfl, rfl, rfl, mA 779 (by decide +kernel), mA 63 (by decide +kernel), by decide, (by unfold arOk; decide +kernel)⟩
theorem cT_122 : rCall (0, 9, 63, 89, 3, 10, 0) := ⟨RX15, yX15_no, cX15_no, _, _, rfl, rfl, by decide, rfl, ⟨TX15, 13, rfl⟩, mA 632 (by decide +kernel), mA 633 (by decide +kernel), mA 19 (by decide +kernel), by decide, (by unfold arOk; decide +kernel)⟩
theorem cT_123 : rCall (2, 9, 59, 80, 3, 0, 0) := ⟨RX15, yX15_isIn, cX15_isIn, _, _, rfl, rfl, by decide, rfl, mA 627 (by decide +kernel), mA 628 (by decide +kernel), (by unfold arOk; decide +kernel)⟩
theorem cT_124 : rCall (0, 9, 155, 67, 2, 10, 0) := ⟨RX15, yX15_clubsIn, cX15_clubsIn, _, _, rfl, rfl, by decide, rfl, ⟨TX15, 13, rfl⟩, mA 635 (by decide +kernel), mA 636 (by decide +kernel), mA 20 (by decide +kernel), by decide, (by unfold arOk; decide +kernel)⟩
theorem cT_125 : rCall (4, 9, 53, 12, 1, 1, 1) := ⟨RX15, yJx4a65c_size_8abf5, cJx4a65c_size_8abf5, _, _, rfl, rfl, by decide, rfl, ⟨yF0, RJx4a65c, TJx4a65c, 3, rfl, mA 671 (by decide +kernel), mA 673 (by decide +kernel), mA 672 (by decide +kernel), mA 674 (by decide +kernel), mA 162 (by decide +kernel), mA 676 (by decide +kernel), mA 675 (by decide +kernel), mA 641 (by decide +kernel), (by unfold arOk; decide +kernel), ⟨by decide +kernel, by decide +kernel⟩⟩, by decide⟩
theorem cT_126 : rCall (1, 9, 158, 56, 4, 0, 0) := ⟨RX15, yX11_init, cX11_init, _, _, rfl, rfl, by decide, rfl, rfl, rfl, mA 678 (by decide +kernel), mA 679 (by decide +kernel), by decide, (by unfold arOk; decide +kernel)⟩
theorem cT_127 : rCall (4, 9, 161, 5, 2, 1, 2) := ⟨RX15, yJx4a65c_add_9ea2d, cJx4a65c_add_9ea2d, _, _, rfl, rfl, by decide, rfl, ⟨yF1, RJx4a65c, TJx4a65c, 3, rfl, mA 694 (by decide +kernel), mA 696 (by decide +kernel), mA 695 (by decide +kernel), mA 697 (by decide +kernel), mA 241 (by decide +kernel), mA 699 (by decide +kernel), mA 698 (by decide +kernel), mA 641 (by decide +kernel), (by unfold arOk; decide +kernel), ⟨by decide +kernel, by decide +kernel⟩⟩, by decide⟩
theorem cT_128 : rCall (0, 9, 165, 78, 2, 10, 0) := ⟨RX15, yX15_isClub, cX15_isClub, _, _, rfl, rfl, by decide, rfl, ⟨TX15, 13, rfl⟩, mA 704 (by decide +kernel), mA 705 (by decide +kernel), mA 21 (by decide +kernel), by decide, (by unfold arOk; decide +kernel)⟩
theorem cT_129 : rCall (0, 9, 184, 82, 2, 10, 0) := ⟨RX15, yX15_isPlayer, cX15_isPlayer, _, _, rfl, rfl, by decide, rfl, ⟨TX15, 13, rfl⟩, mA 724 (by decide +kernel), mA 725 (by decide +kernel), mA 23 (by decide +kernel), by decide, (by unfold arOk; decide +kernel)⟩
theorem cT_130 : rCall (0, 9, 265, 91, 2, 10, 0) := ⟨RX15, yX15_noOn, cX15_noOn, _, _, rfl, rfl, by decide, rfl, ⟨TX15, 13, rfl⟩, mA 794 (by decide +kernel), mA 795 (by decide +kernel), mA 27 (by decide +kernel), by decide, (by unfold arOk; decide +kernel)⟩
theorem cT_131 : rCall (4, 9, 67, 11, 1, 1, 1) := ⟨RX15, yJx4a65c_iterator_32c93, cJx4a65c_iterator_32c93, _, _, rfl, rfl, by decide, rfl, ⟨yF2, RJx4a65c, TJx4a65c, 3, rfl, mA 638 (by decide +kernel), mA 640 (by decide +kernel), mA 639 (by decide +kernel), mA 642 (by decide +kernel), mA 644 (by decide +kernel), mA 645 (by decide +kernel), mA 643 (by decide +kernel), mA 641 (by decide +kernel), (by unfold arOk; decide +kernel), ⟨by decide +kernel, by decide +kernel⟩⟩, by decide⟩
theorem cT_132 : rCall (4, 9, 71, 2, 1, 0, 1) := ⟨RX15, yJx35411_hasNext_aae02, cJx35411_hasNext_aae02, _, _, rfl, rfl, by decide, rfl, ⟨yF3, RJx35411, TJx35411, 4, rfl, mA 661 (by decide +kernel), mA 663 (by decide +kernel), mA 662 (by decide +kernel), mA 665 (by decide +kernel), mA 667 (by decide +kernel), mA 668 (by decide +kernel), mA 666 (by decide +kernel), mA 664 (by decide +kernel), (by unfold arOk; decide +kernel), ⟨by decide +kernel, by decide +kernel⟩⟩, by decide⟩
theorem cT_133 : rCall (1, 9, 9, 9, 1, 0, 0) := ⟨RX15, yJx4a65c_init_da8c8, cJx4a65c_init_da8c8, _, _, rfl, rfl, by decide, rfl, rfl, rfl, mA 592 (by decide +kernel), mA 63 (by decide +kernel), by decide, (by unfold arOk; decide +kernel)⟩
theorem cT_134 : rCall (0, 9, 253, 75, 1, 10, 0) := ⟨RX15, yX15_goesThrough, cX15_goesThrough, _, _, rfl, rfl, by decide, rfl, ⟨TX15, 13, rfl⟩, mA 769 (by decide +kernel), mA 770 (by decide +kernel), mA 26 (by decide +kernel), by decide, (by unfold arOk; decide +kernel)⟩
theorem cT_135 : rCall (0, 9, 344, 104, 2, 10, 0) := ⟨RX15, yX15_table, cX15_table, _, _, rfl, rfl, by decide, rfl, ⟨TX15, 13, rfl⟩, mA 849 (by decide +kernel), mA 850 (by decide +kernel), mA 28 (by decide +kernel), by decide, (by unfold arOk; decide +kernel)⟩
theorem cT_136 : rCall (4, 9, 350, 6, 1, 1, 1) := ⟨RX15, yJx4a65c_clear_da8c8, cJx4a65c_clear_da8c8, _, _, rfl, rfl, by decide, rfl, ⟨yF4, RJx4a65c, TJx4a65c, 3, rfl, mA 877 (by decide +kernel), mA 879 (by decide +kernel), mA 878 (by decide +kernel), mA 880 (by decide +kernel), mA 330 (by decide +kernel), mA 882 (by decide +kernel), mA 881 (by decide +kernel), mA 641 (by decide +kernel), (by unfold arOk; decide +kernel), ⟨by decide +kernel, by decide +kernel⟩⟩, by decide⟩
theorem cT_137 : rCall (1, 9, 256, 57, 5, 0, 0) := ⟨RX15, yX12_init, cX12_init, _, _, rfl, rfl, by decide, rfl, rfl, rfl, mA 774 (by decide +kernel), mA 775 (by decide +kernel), by decide, (by unfold arOk; decide +kernel)⟩
theorem cT_138 : rCall (0, 9, 237, 90, 2, 10, 0) := ⟨RX15, yX15_noMatch, cX15_noMatch, _, _, rfl, rfl, by decide, rfl, ⟨TX15, 13, rfl⟩, mA 750 (by decide +kernel), mA 751 (by decide +kernel), mA 25 (by decide +kernel), by decide, (by unfold arOk; decide +kernel)⟩
theorem cT_139 : rCall (0, 9, 353, 92, 1, 10, 0) := ⟨RX15, yX15_over, cX15_over, _, _, rfl, rfl, by decide, rfl, ⟨TX15, 13, rfl⟩, mA 891 (by decide +kernel), mA 892 (by decide +kernel), mA 30 (by decide +kernel), by decide, (by unfold arOk; decide +kernel)⟩
theorem cT_140 : rCall (4, 9, 313, 10, 1, 1, 1) := ⟨RX15, yJx4a65c_isEmpty_aae02, cJx4a65c_isEmpty_aae02, _, _, rfl, rfl, by decide, rfl, ⟨yF5, RJx4a65c, TJx4a65c, 3, rfl, mA 855 (by decide +kernel), mA 857 (by decide +kernel), mA 856 (by decide +kernel), mA 858 (by decide +kernel), mA 559 (by decide +kernel), mA 860 (by decide +kernel), mA 859 (by decide +kernel), mA 641 (by decide +kernel), (by unfold arOk; decide +kernel), ⟨by decide +kernel, by decide +kernel⟩⟩, by decide⟩
theorem cT_141 : rCall (0, 9, 224, 76, 2, 10, 0) := ⟨RX15, yX15_hasFixtures, cX15_hasFixtures, _, _, rfl, rfl, by decide, rfl, ⟨TX15, 13, rfl⟩, mA 743 (by decide +kernel), mA 744 (by decide +kernel), mA 24 (by decide +kernel), by decide, (by unfold arOk; decide +kernel)⟩
theorem cT_142 : rCall (0, 9, 179, 81, 1, 10, 0) := ⟨RX15, yX15_isOpen, cX15_isOpen, _, _, rfl, rfl, by decide, rfl, ⟨TX15, 13, rfl⟩, mA 712 (by decide +kernel), mA 713 (by decide +kernel), mA 22 (by decide +kernel), by decide, (by unfold arOk; decide +kernel)⟩
theorem cT_143 : rCall (0, 9, 305, 68, 2, 10, 0) := ⟨RX15, yX15_counting, cX15_counting, _, _, rfl, rfl, by decide, rfl, ⟨TX15, 13, rfl⟩, mA 852 (by decide +kernel), mA 853 (by decide +kernel), mA 29 (by decide +kernel), by decide, (by unfold arOk; decide +kernel)⟩
theorem cT_144 : rCall (1, 12, 11, 9, 1, 0, 0) := ⟨RX5, yJx4a65c_init_da8c8, cJx4a65c_init_da8c8, _, _, rfl, rfl, by decide, rfl, rfl, rfl, mA 112 (by decide +kernel), mA 63 (by decide +kernel), by decide, (by unfold arOk; decide +kernel)⟩
theorem cT_145 : rCall (0, 13, 21, 12, 1, 1, 0) := ⟨RX8, yJx4a65c_size_8abf5, cJx4a65c_size_8abf5, _, _, rfl, rfl, by decide, rfl, ⟨TJx4a65c, 3, rfl⟩, mA 511 (by decide +kernel), mA 162 (by decide +kernel), mA 163 (by decide +kernel), by decide, (by unfold arOk; decide +kernel)⟩
theorem cT_146 : rCall (0, 13, 18, 6, 1, 1, 0) := ⟨RX8, yJx4a65c_clear_da8c8, cJx4a65c_clear_da8c8, _, _, rfl, rfl, by decide, rfl, ⟨TJx4a65c, 3, rfl⟩, mA 510 (by decide +kernel), mA 330 (by decide +kernel), mA 331 (by decide +kernel), by decide, (by unfold arOk; decide +kernel)⟩
theorem cT_147 : rCall (0, 13, 35, 112, 4, 6, 0) := ⟨RX8, yX8_addRows, cX8_addRows, _, _, rfl, rfl, by decide, rfl, ⟨TX8, 1, rfl⟩, mA 512 (by decide +kernel), mA 513 (by decide +kernel), mA 12 (by decide +kernel), by decide, (by unfold arOk; decide +kernel)⟩
theorem cT_148 : rCall (0, 13, 39, 113, 4, 6, 0) := ⟨RX8, yX8_countAmong, cX8_countAmong, _, _, rfl, rfl, by decide, rfl, ⟨TX8, 1, rfl⟩, mA 515 (by decide +kernel), mA 516 (by decide +kernel), mA 13 (by decide +kernel), by decide, (by unfold arOk; decide +kernel)⟩
theorem cT_149 : rCall (0, 13, 65, 118, 3, 6, 0) := ⟨RX8, yX8_sort, cX8_sort, _, _, rfl, rfl, by decide, rfl, ⟨TX8, 1, rfl⟩, mA 518 (by decide +kernel), mA 519 (by decide +kernel), mA 14 (by decide +kernel), by decide, (by unfold arOk; decide +kernel)⟩
theorem cT_150 : rCall (0, 13, 69, 117, 5, 6, 0) := ⟨RX8, yX8_partTies, cX8_partTies, _, _, rfl, rfl, by decide, rfl, ⟨TX8, 1, rfl⟩, mA 521 (by decide +kernel), mA 522 (by decide +kernel), mA 15 (by decide +kernel), by decide, (by unfold arOk; decide +kernel)⟩
theorem cT_151 : rCall (1, 13, 11, 9, 1, 0, 0) := ⟨RX8, yJx4a65c_init_da8c8, cJx4a65c_init_da8c8, _, _, rfl, rfl, by decide, rfl, rfl, rfl, mA 134 (by decide +kernel), mA 63 (by decide +kernel), by decide, (by unfold arOk; decide +kernel)⟩
theorem cT_152 : rCall (0, 14, 297, 149, 1, 7, 0) := ⟨RX9, yX9_knownMatch, cX9_knownMatch, _, _, rfl, rfl, by decide, rfl, ⟨TX9, 10, rfl⟩, mA 408 (by decide +kernel), mA 409 (by decide +kernel), mA 11 (by decide +kernel), by decide, (by unfold arOk; decide +kernel)⟩
theorem cT_153 : rCall (2, 14, 57, 139, 1, 0, 0) := ⟨RX9, yX9_isDivision, cX9_isDivision, _, _, rfl, rfl, by decide, rfl, mA 201 (by decide +kernel), mA 202 (by decide +kernel), (by unfold arOk; decide +kernel)⟩
theorem cT_154 : rCall (2, 14, 61, 144, 3, 0, 0) := ⟨RX9, yX9_isWithin, cX9_isWithin, _, _, rfl, rfl, by decide, rfl, mA 204 (by decide +kernel), mA 205 (by decide +kernel), (by unfold arOk; decide +kernel)⟩
theorem cT_155 : rCall (0, 14, 72, 129, 2, 7, 0) := ⟨RX9, yX9_clubsIn, cX9_clubsIn, _, _, rfl, rfl, by decide, rfl, ⟨TX9, 10, rfl⟩, mA 209 (by decide +kernel), mA 210 (by decide +kernel), mA 1 (by decide +kernel), by decide, (by unfold arOk; decide +kernel)⟩
theorem cT_156 : rCall (0, 14, 83, 12, 1, 1, 0) := ⟨RX9, yJx4a65c_size_8abf5, cJx4a65c_size_8abf5, _, _, rfl, rfl, by decide, rfl, ⟨TJx4a65c, 3, rfl⟩, mA 161 (by decide +kernel), mA 162 (by decide +kernel), mA 163 (by decide +kernel), by decide, (by unfold arOk; decide +kernel)⟩
theorem cT_157 : rCall (1, 14, 87, 109, 5, 0, 0) := ⟨RX9, yX2_init, cX2_init, _, _, rfl, rfl, by decide, rfl, rfl, rfl, mA 215 (by decide +kernel), mA 216 (by decide +kernel), by decide, (by unfold arOk; decide +kernel)⟩
theorem cT_158 : rCall (0, 14, 90, 5, 2, 1, 0) := ⟨RX9, yJx4a65c_add_9ea2d, cJx4a65c_add_9ea2d, _, _, rfl, rfl, by decide, rfl, ⟨TJx4a65c, 3, rfl⟩, mA 240 (by decide +kernel), mA 241 (by decide +kernel), mA 242 (by decide +kernel), by decide, (by unfold arOk; decide +kernel)⟩
theorem cT_159 : rCall (0, 14, 97, 147, 2, 7, 0) := ⟨RX9, yX9_knownClub, cX9_knownClub, _, _, rfl, rfl, by decide, rfl, ⟨TX9, 10, rfl⟩, mA 264 (by decide +kernel), mA 265 (by decide +kernel), mA 5 (by decide +kernel), by decide, (by unfold arOk; decide +kernel)⟩
theorem cT_160 : rCall (0, 14, 118, 150, 2, 7, 0) := ⟨RX9, yX9_knownPlayer, cX9_knownPlayer, _, _, rfl, rfl, by decide, rfl, ⟨TX9, 10, rfl⟩, mA 294 (by decide +kernel), mA 295 (by decide +kernel), mA 7 (by decide +kernel), by decide, (by unfold arOk; decide +kernel)⟩
theorem cT_161 : rCall (0, 14, 237, 146, 2, 7, 0) := ⟨RX9, yX9_knownBit, cX9_knownBit, _, _, rfl, rfl, by decide, rfl, ⟨TX9, 10, rfl⟩, mA 365 (by decide +kernel), mA 366 (by decide +kernel), mA 10 (by decide +kernel), by decide, (by unfold arOk; decide +kernel)⟩
theorem cT_162 : rCall (0, 14, 428, 6, 1, 1, 0) := ⟨RX9, yJx4a65c_clear_da8c8, cJx4a65c_clear_da8c8, _, _, rfl, rfl, by decide, rfl, ⟨TJx4a65c, 3, rfl⟩, mA 564 (by decide +kernel), mA 330 (by decide +kernel), mA 331 (by decide +kernel), by decide, (by unfold arOk; decide +kernel)⟩
theorem cT_163 : rCall (1, 14, 290, 110, 5, 0, 0) := ⟨RX9, yX3_init, cX3_init, _, _, rfl, rfl, by decide, rfl, rfl, rfl, mA 381 (by decide +kernel), mA 382 (by decide +kernel), by decide, (by unfold arOk; decide +kernel)⟩
theorem cT_164 : rCall (0, 14, 293, 55, 2, 2, 0) := ⟨RX9, yX0_write, cX0_write, _, _, rfl, rfl, by decide, rfl, ⟨TX0, 6, rfl⟩, mA 396 (by decide +kernel), mA 397 (by decide +kernel), mA 398 (by decide +kernel), by decide, (by unfold arOk; decide +kernel)⟩
theorem cT_165 : rCall (0, 14, 410, 140, 1, 7, 0) := ⟨RX9, yX9_isFixtureLeft, cX9_isFixtureLeft, _, _, rfl, rfl, by decide, rfl, ⟨TX9, 10, rfl⟩, mA 552 (by decide +kernel), mA 553 (by decide +kernel), mA 16 (by decide +kernel), by decide, (by unfold arOk; decide +kernel)⟩
theorem cT_166 : rCall (0, 14, 263, 52, 1, 2, 0) := ⟨RX9, yX0_isFull, cX0_isFull, _, _, rfl, rfl, by decide, rfl, ⟨TX0, 6, rfl⟩, mA 375 (by decide +kernel), mA 376 (by decide +kernel), mA 377 (by decide +kernel), by decide, (by unfold arOk; decide +kernel)⟩
theorem cT_167 : rCall (0, 14, 397, 114, 4, 6, 0) := ⟨RX9, yX8_draw, cX8_draw, _, _, rfl, rfl, by decide, rfl, ⟨TX8, 1, rfl⟩, mA 506 (by decide +kernel), mA 507 (by decide +kernel), mA 508 (by decide +kernel), by decide, (by unfold arOk; decide +kernel)⟩
theorem cT_168 : rCall (0, 14, 415, 115, 1, 6, 0) := ⟨RX9, yX8_firstToRise, cX8_firstToRise, _, _, rfl, rfl, by decide, rfl, ⟨TX8, 1, rfl⟩, mA 555 (by decide +kernel), mA 556 (by decide +kernel), mA 557 (by decide +kernel), by decide, (by unfold arOk; decide +kernel)⟩
theorem cT_169 : rCall (0, 14, 422, 127, 1, 7, 0) := ⟨RX9, yX9_clearSeason, cX9_clearSeason, _, _, rfl, rfl, by decide, rfl, ⟨TX9, 10, rfl⟩, mA 561 (by decide +kernel), mA 562 (by decide +kernel), mA 17 (by decide +kernel), by decide, (by unfold arOk; decide +kernel)⟩
theorem cT_170 : rCall (0, 14, 191, 148, 2, 7, 0) := ⟨RX9, yX9_knownFixture, cX9_knownFixture, _, _, rfl, rfl, by decide, rfl, ⟨TX9, 10, rfl⟩, mA 341 (by decide +kernel), mA 342 (by decide +kernel), mA 9 (by decide +kernel), by decide, (by unfold arOk; decide +kernel)⟩
theorem cT_171 : rCall (1, 14, 9, 9, 1, 0, 0) := ⟨RX9, yJx4a65c_init_da8c8, cJx4a65c_init_da8c8, _, _, rfl, rfl, by decide, rfl, rfl, rfl, mA 62 (by decide +kernel), mA 63 (by decide +kernel), by decide, (by unfold arOk; decide +kernel)⟩
theorem cT_172 : rCall (3, 14, 24, 51, 1, 0, 0) := ⟨RX9, yX0_init, cX0_init, _, _, rfl, rfl, by decide, rfl, rfl, rfl, ⟨"Goalmouth", mA 85 (by decide +kernel)⟩, mA 86 (by decide +kernel), by decide, (by unfold arOk; decide +kernel)⟩
theorem cT_173 : rCall (3, 14, 31, 111, 1, 0, 0) := ⟨RX9, yX5_init, cX5_init, _, _, rfl, rfl, by decide, rfl, rfl, rfl, ⟨"Goalmouth", mA 107 (by decide +kernel)⟩, mA 108 (by decide +kernel), by decide, (by unfold arOk; decide +kernel)⟩
theorem cT_174 : rCall (3, 14, 38, 116, 1, 0, 0) := ⟨RX9, yX8_init, cX8_init, _, _, rfl, rfl, by decide, rfl, rfl, rfl, ⟨"Goalmouth", mA 129 (by decide +kernel)⟩, mA 130 (by decide +kernel), by decide, (by unfold arOk; decide +kernel)⟩
theorem cT_175 : rCall (0, 14, 448, 53, 1, 2, 0) := ⟨RX9, yX0_isSameAnew, cX0_isSameAnew, _, _, rfl, rfl, by decide, rfl, ⟨TX0, 6, rfl⟩, mA 170 (by decide +kernel), mA 171 (by decide +kernel), mA 172 (by decide +kernel), by decide, (by unfold arOk; decide +kernel)⟩
theorem cT_176 : rCall (0, 14, 456, 153, 1, 7, 0) := ⟨RX9, yX9_money, cX9_money, _, _, rfl, rfl, by decide, rfl, ⟨TX9, 10, rfl⟩, mA 191 (by decide +kernel), mA 158 (by decide +kernel), mA 159 (by decide +kernel), by decide, (by unfold arOk; decide +kernel)⟩
theorem cT_177 : rCall (0, 14, 436, 134, 1, 7, 0) := ⟨RX9, yX9_fixturesOver, cX9_fixturesOver, _, _, rfl, rfl, by decide, rfl, ⟨TX9, 10, rfl⟩, mA 575 (by decide +kernel), mA 576 (by decide +kernel), mA 18 (by decide +kernel), by decide, (by unfold arOk; decide +kernel)⟩
theorem cT_178 : rCall (0, 14, 167, 137, 2, 7, 0) := ⟨RX9, yX9_hasFixtures, cX9_hasFixtures, _, _, rfl, rfl, by decide, rfl, ⟨TX9, 10, rfl⟩, mA 327 (by decide +kernel), mA 328 (by decide +kernel), mA 8 (by decide +kernel), by decide, (by unfold arOk; decide +kernel)⟩
theorem cT_179 : rCall (0, 14, 110, 143, 1, 7, 0) := ⟨RX9, yX9_isWindowOpen, cX9_isWindowOpen, _, _, rfl, rfl, by decide, rfl, ⟨TX9, 10, rfl⟩, mA 276 (by decide +kernel), mA 277 (by decide +kernel), mA 6 (by decide +kernel), by decide, (by unfold arOk; decide +kernel)⟩
theorem cT_180 : rCall (0, 14, 367, 54, 1, 2, 0) := ⟨RX9, yX0_playersWithYellows, cX0_playersWithYellows, _, _, rfl, rfl, by decide, rfl, ⟨TX0, 6, rfl⟩, mA 453 (by decide +kernel), mA 454 (by decide +kernel), mA 455 (by decide +kernel), by decide, (by unfold arOk; decide +kernel)⟩
set_option maxRecDepth 10000 in
theorem cT_ok : ∀ q ∈ cT, rCall q := List.forall_mem_cons.mpr ⟨cT_0, List.forall_mem_cons.mpr ⟨cT_1, List.forall_mem_cons.mpr ⟨cT_2, List.forall_mem_cons.mpr ⟨cT_3, List.forall_mem_cons.mpr ⟨cT_4, List.forall_mem_cons.mpr ⟨cT_5, List.forall_mem_cons.mpr ⟨cT_6, List.forall_mem_cons.mpr ⟨cT_7, List.forall_mem_cons.mpr ⟨cT_8, List.forall_mem_cons.mpr ⟨cT_9, List.forall_mem_cons.mpr ⟨cT_10, List.forall_mem_cons.mpr ⟨cT_11, List.forall_mem_cons.mpr ⟨cT_12, List.forall_mem_cons.mpr ⟨cT_13, List.forall_mem_cons.mpr ⟨cT_14, List.forall_mem_cons.mpr ⟨cT_15, List.forall_mem_cons.mpr ⟨cT_16, List.forall_mem_cons.mpr ⟨cT_17, List.forall_mem_cons.mpr ⟨cT_18, List.forall_mem_cons.mpr ⟨cT_19, List.forall_mem_cons.mpr ⟨cT_20, List.forall_mem_cons.mpr ⟨cT_21, List.forall_mem_cons.mpr ⟨cT_22, List.forall_mem_cons.mpr ⟨cT_23, List.forall_mem_cons.mpr ⟨cT_24, List.forall_mem_cons.mpr ⟨cT_25, List.forall_mem_cons.mpr ⟨cT_26, List.forall_mem_cons.mpr ⟨cT_27, List.forall_mem_cons.mpr ⟨cT_28, List.forall_mem_cons.mpr ⟨cT_29, List.forall_mem_cons.mpr ⟨cT_30, List.forall_mem_cons.mpr ⟨cT_31, List.forall_mem_cons.mpr ⟨cT_32, List.forall_mem_cons.mpr ⟨cT_33, List.forall_mem_cons.mpr ⟨cT_34, List.forall_mem_cons.mpr ⟨cT_35, List.forall_mem_cons.mpr ⟨cT_36, List.forall_mem_cons.mpr ⟨cT_37, List.forall_mem_cons.mpr ⟨cT_38, List.forall_mem_cons.mpr ⟨cT_39, List.forall_mem_cons.mpr ⟨cT_40, List.forall_mem_cons.mpr ⟨cT_41, List.forall_mem_cons.mpr ⟨cT_42, List.forall_mem_cons.mpr ⟨cT_43, List.forall_mem_cons.mpr ⟨cT_44, List.forall_mem_cons.mpr ⟨cT_45, List.forall_mem_cons.mpr ⟨cT_46, List.forall_mem_cons.mpr ⟨cT_47, List.forall_mem_cons.mpr ⟨cT_48, List.forall_mem_cons.mpr ⟨cT_49, List.forall_mem_cons.mpr ⟨cT_50, List.forall_mem_cons.mpr ⟨cT_51, List.forall_mem_cons.mpr ⟨cT_52, List.forall_mem_cons.mpr ⟨cT_53, List.forall_mem_cons.mpr ⟨cT_54, List.forall_mem_cons.mpr ⟨cT_55, List.forall_mem_cons.mpr ⟨cT_56, List.forall_mem_cons.mpr ⟨cT_57, List.forall_mem_cons.mpr ⟨cT_58, List.forall_mem_cons.mpr ⟨cT_59, List.forall_mem_cons.mpr ⟨cT_60, List.forall_mem_cons.mpr ⟨cT_61, List.forall_mem_cons.mpr ⟨cT_62, List.forall_mem_cons.mpr ⟨cT_63, List.forall_mem_cons.mpr ⟨cT_64, List.forall_mem_cons.mpr ⟨cT_65, List.forall_mem_cons.mpr ⟨cT_66, List.forall_mem_cons.mpr ⟨cT_67, List.forall_mem_cons.mpr ⟨cT_68, List.forall_mem_cons.mpr ⟨cT_69, List.forall_mem_cons.mpr ⟨cT_70, List.forall_mem_cons.mpr ⟨cT_71, List.forall_mem_cons.mpr ⟨cT_72, List.forall_mem_cons.mpr ⟨cT_73, List.forall_mem_cons.mpr ⟨cT_74, List.forall_mem_cons.mpr ⟨cT_75, List.forall_mem_cons.mpr ⟨cT_76, List.forall_mem_cons.mpr ⟨cT_77, List.forall_mem_cons.mpr ⟨cT_78, List.forall_mem_cons.mpr ⟨cT_79, List.forall_mem_cons.mpr ⟨cT_80, List.forall_mem_cons.mpr ⟨cT_81, List.forall_mem_cons.mpr ⟨cT_82, List.forall_mem_cons.mpr ⟨cT_83, List.forall_mem_cons.mpr ⟨cT_84, List.forall_mem_cons.mpr ⟨cT_85, List.forall_mem_cons.mpr ⟨cT_86, List.forall_mem_cons.mpr ⟨cT_87, List.forall_mem_cons.mpr ⟨cT_88, List.forall_mem_cons.mpr ⟨cT_89, List.forall_mem_cons.mpr ⟨cT_90, List.forall_mem_cons.mpr ⟨cT_91, List.forall_mem_cons.mpr ⟨cT_92, List.forall_mem_cons.mpr ⟨cT_93, List.forall_mem_cons.mpr ⟨cT_94, List.forall_mem_cons.mpr ⟨cT_95, List.forall_mem_cons.mpr ⟨cT_96, List.forall_mem_cons.mpr ⟨cT_97, List.forall_mem_cons.mpr ⟨cT_98, List.forall_mem_cons.mpr ⟨cT_99, List.forall_mem_cons.mpr ⟨cT_100, List.forall_mem_cons.mpr ⟨cT_101, List.forall_mem_cons.mpr ⟨cT_102, List.forall_mem_cons.mpr ⟨cT_103, List.forall_mem_cons.mpr ⟨cT_104, List.forall_mem_cons.mpr ⟨cT_105, List.forall_mem_cons.mpr ⟨cT_106, List.forall_mem_cons.mpr ⟨cT_107, List.forall_mem_cons.mpr ⟨cT_108, List.forall_mem_cons.mpr ⟨cT_109, List.forall_mem_cons.mpr ⟨cT_110, List.forall_mem_cons.mpr ⟨cT_111, List.forall_mem_cons.mpr ⟨cT_112, List.forall_mem_cons.mpr ⟨cT_113, List.forall_mem_cons.mpr ⟨cT_114, List.forall_mem_cons.mpr ⟨cT_115, List.forall_mem_cons.mpr ⟨cT_116, List.forall_mem_cons.mpr ⟨cT_117, List.forall_mem_cons.mpr ⟨cT_118, List.forall_mem_cons.mpr ⟨cT_119, List.forall_mem_cons.mpr ⟨cT_120, List.forall_mem_cons.mpr ⟨cT_121, List.forall_mem_cons.mpr ⟨cT_122, List.forall_mem_cons.mpr ⟨cT_123, List.forall_mem_cons.mpr ⟨cT_124, List.forall_mem_cons.mpr ⟨cT_125, List.forall_mem_cons.mpr ⟨cT_126, List.forall_mem_cons.mpr ⟨cT_127, List.forall_mem_cons.mpr ⟨cT_128, List.forall_mem_cons.mpr ⟨cT_129, List.forall_mem_cons.mpr ⟨cT_130, List.forall_mem_cons.mpr ⟨cT_131, List.forall_mem_cons.mpr ⟨cT_132, List.forall_mem_cons.mpr ⟨cT_133, List.forall_mem_cons.mpr ⟨cT_134, List.forall_mem_cons.mpr ⟨cT_135, List.forall_mem_cons.mpr ⟨cT_136, List.forall_mem_cons.mpr ⟨cT_137, List.forall_mem_cons.mpr ⟨cT_138, List.forall_mem_cons.mpr ⟨cT_139, List.forall_mem_cons.mpr ⟨cT_140, List.forall_mem_cons.mpr ⟨cT_141, List.forall_mem_cons.mpr ⟨cT_142, List.forall_mem_cons.mpr ⟨cT_143, List.forall_mem_cons.mpr ⟨cT_144, List.forall_mem_cons.mpr ⟨cT_145, List.forall_mem_cons.mpr ⟨cT_146, List.forall_mem_cons.mpr ⟨cT_147, List.forall_mem_cons.mpr ⟨cT_148, List.forall_mem_cons.mpr ⟨cT_149, List.forall_mem_cons.mpr ⟨cT_150, List.forall_mem_cons.mpr ⟨cT_151, List.forall_mem_cons.mpr ⟨cT_152, List.forall_mem_cons.mpr ⟨cT_153, List.forall_mem_cons.mpr ⟨cT_154, List.forall_mem_cons.mpr ⟨cT_155, List.forall_mem_cons.mpr ⟨cT_156, List.forall_mem_cons.mpr ⟨cT_157, List.forall_mem_cons.mpr ⟨cT_158, List.forall_mem_cons.mpr ⟨cT_159, List.forall_mem_cons.mpr ⟨cT_160, List.forall_mem_cons.mpr ⟨cT_161, List.forall_mem_cons.mpr ⟨cT_162, List.forall_mem_cons.mpr ⟨cT_163, List.forall_mem_cons.mpr ⟨cT_164, List.forall_mem_cons.mpr ⟨cT_165, List.forall_mem_cons.mpr ⟨cT_166, List.forall_mem_cons.mpr ⟨cT_167, List.forall_mem_cons.mpr ⟨cT_168, List.forall_mem_cons.mpr ⟨cT_169, List.forall_mem_cons.mpr ⟨cT_170, List.forall_mem_cons.mpr ⟨cT_171, List.forall_mem_cons.mpr ⟨cT_172, List.forall_mem_cons.mpr ⟨cT_173, List.forall_mem_cons.mpr ⟨cT_174, List.forall_mem_cons.mpr ⟨cT_175, List.forall_mem_cons.mpr ⟨cT_176, List.forall_mem_cons.mpr ⟨cT_177, List.forall_mem_cons.mpr ⟨cT_178, List.forall_mem_cons.mpr ⟨cT_179, List.forall_mem_cons.mpr ⟨cT_180, fun _ h => absurd h List.not_mem_nil⟩⟩⟩⟩⟩⟩⟩⟩⟩⟩⟩⟩⟩⟩⟩⟩⟩⟩⟩⟩⟩⟩⟩⟩⟩⟩⟩⟩⟩⟩⟩⟩⟩⟩⟩⟩⟩⟩⟩⟩⟩⟩⟩⟩⟩⟩⟩⟩⟩⟩⟩⟩⟩⟩⟩⟩⟩⟩⟩⟩⟩⟩⟩⟩⟩⟩⟩⟩⟩⟩⟩⟩⟩⟩⟩⟩⟩⟩⟩⟩⟩⟩⟩⟩⟩⟩⟩⟩⟩⟩⟩⟩⟩⟩⟩⟩⟩⟩⟩⟩⟩⟩⟩⟩⟩⟩⟩⟩⟩⟩⟩⟩⟩⟩⟩⟩⟩⟩⟩⟩⟩⟩⟩⟩⟩⟩⟩⟩⟩⟩⟩⟩⟩⟩⟩⟩⟩⟩⟩⟩⟩⟩⟩⟩⟩⟩⟩⟩⟩⟩⟩⟩⟩⟩⟩⟩⟩⟩⟩⟩⟩⟩⟩⟩⟩⟩⟩⟩⟩⟩⟩⟩⟩⟩⟩⟩⟩⟩⟩⟩⟩
end
section
def lwF : rF := ([(0, .inl (.ref 1001))], [], 0, [], 0, 0)
def isOne (r : Option (rR × List rC × Nat × Nat)) : Bool := match r with
  | some (.inl (some (.inl (.int x))), _, kc, ks) => decide (x = 1) && (Nat.ble kc 624780 && Nat.ble ks 7227733)
  | _ => false
theorem segL0 : isOne (ex ([], 64) 0 1400 true 100000 0 lwF) = true := by decide +kernel
theorem segL1 : isOne (ex ([], 64) 1 1400 true 100000 0 lwF) = true := by decide +kernel
theorem segL2 : isOne (ex ([], 64) 2 1400 true 100000 0 lwF) = true := by decide +kernel
theorem segL3 : isOne (ex ([], 64) 3 1400 true 100000 0 lwF) = true := by decide +kernel
end
section
def lf_O0 : rO := ([((false, .inr (false, 1), .inl (.int 0)), true)], 0)
theorem lf_c0 : isOne (ex lf_O0 4 1400 true 100000 0 lwF) = true := by decide +kernel
theorem lf_o0 {σ : Nat → Int32} (hc : ((σ 2).toUInt32 % 65536).toInt32 = σ 4) (h : σ 0 &&& 63 = 0) (h0 : σ 1 < 0) : rOr lf_O0 σ := ⟨List.forall_mem_cons.mpr ⟨iff_of_true h0 rfl, fun _ h => absurd h List.not_mem_nil⟩, Or.inr h, hc⟩
def lf_O1 : rO := ([((false, .inr (false, 1), .inl (.int 0)), false), ((false, .inl (.int 1), .inr (false, 1)), true)], 0)
theorem lf_c1 : isOne (ex lf_O1 4 1400 true 100000 0 lwF) = true := by decide +kernel
theorem lf_o1 {σ : Nat → Int32} (hc : ((σ 2).toUInt32 % 65536).toInt32 = σ 4) (h : σ 0 &&& 63 = 0) (h0 : ¬ σ 1 < 0) (h1 : 1 < σ 1) : rOr lf_O1 σ := ⟨List.forall_mem_cons.mpr ⟨iff_of_false h0 (by decide), List.forall_mem_cons.mpr ⟨iff_of_true h1 rfl, fun _ h => absurd h List.not_mem_nil⟩⟩, Or.inr h, hc⟩
def lf_O2 : rO := ([((false, .inr (false, 1), .inl (.int 0)), false), ((false, .inl (.int 1), .inr (false, 1)), false), ((false, .inr (false, 2), .inl (.int 0)), true)], 0)
theorem lf_c2 : isOne (ex lf_O2 4 1400 true 100000 0 lwF) = true := by decide +kernel
theorem lf_o2 {σ : Nat → Int32} (hc : ((σ 2).toUInt32 % 65536).toInt32 = σ 4) (h : σ 0 &&& 63 = 0) (h0 : ¬ σ 1 < 0) (h1 : ¬ 1 < σ 1) (h2 : σ 2 < 0) : rOr lf_O2 σ := ⟨List.forall_mem_cons.mpr ⟨iff_of_false h0 (by decide), List.forall_mem_cons.mpr ⟨iff_of_false h1 (by decide), List.forall_mem_cons.mpr ⟨iff_of_true h2 rfl, fun _ h => absurd h List.not_mem_nil⟩⟩⟩, Or.inr h, hc⟩
def lf_O3 : rO := ([((false, .inr (false, 1), .inl (.int 0)), false), ((false, .inl (.int 1), .inr (false, 1)), false), ((false, .inr (false, 2), .inl (.int 0)), false), ((false, .inl (.int 7), .inr (false, 2)), true)], 0)
theorem lf_c3 : isOne (ex lf_O3 4 1400 true 100000 0 lwF) = true := by decide +kernel
theorem lf_o3 {σ : Nat → Int32} (hc : ((σ 2).toUInt32 % 65536).toInt32 = σ 4) (h : σ 0 &&& 63 = 0) (h0 : ¬ σ 1 < 0) (h1 : ¬ 1 < σ 1) (h2 : ¬ σ 2 < 0) (h3 : 7 < σ 2) : rOr lf_O3 σ := ⟨List.forall_mem_cons.mpr ⟨iff_of_false h0 (by decide), List.forall_mem_cons.mpr ⟨iff_of_false h1 (by decide), List.forall_mem_cons.mpr ⟨iff_of_false h2 (by decide), List.forall_mem_cons.mpr ⟨iff_of_true h3 rfl, fun _ h => absurd h List.not_mem_nil⟩⟩⟩⟩, Or.inr h, hc⟩
def lf_O4 : rO := ([((false, .inr (false, 1), .inl (.int 0)), false), ((false, .inl (.int 1), .inr (false, 1)), false), ((false, .inr (false, 2), .inl (.int 0)), false), ((false, .inl (.int 7), .inr (false, 2)), false), ((false, .inr (false, 3), .inl (.int 0)), true)], 0)
theorem lf_c4 : isOne (ex lf_O4 4 1400 true 100000 0 lwF) = true := by decide +kernel
theorem lf_o4 {σ : Nat → Int32} (hc : ((σ 2).toUInt32 % 65536).toInt32 = σ 4) (h : σ 0 &&& 63 = 0) (h0 : ¬ σ 1 < 0) (h1 : ¬ 1 < σ 1) (h2 : ¬ σ 2 < 0) (h3 : ¬ 7 < σ 2) (h4 : σ 3 < 0) : rOr lf_O4 σ := ⟨List.forall_mem_cons.mpr ⟨iff_of_false h0 (by decide), List.forall_mem_cons.mpr ⟨iff_of_false h1 (by decide), List.forall_mem_cons.mpr ⟨iff_of_false h2 (by decide), List.forall_mem_cons.mpr ⟨iff_of_false h3 (by decide), List.forall_mem_cons.mpr ⟨iff_of_true h4 rfl, fun _ h => absurd h List.not_mem_nil⟩⟩⟩⟩⟩, Or.inr h, hc⟩
def lf_O5 : rO := ([((false, .inr (false, 1), .inl (.int 0)), false), ((false, .inl (.int 1), .inr (false, 1)), false), ((false, .inr (false, 2), .inl (.int 0)), false), ((false, .inl (.int 7), .inr (false, 2)), false), ((false, .inr (false, 3), .inl (.int 0)), false), ((false, .inl (.int 3), .inr (false, 3)), true)], 0)
theorem lf_c5 : isOne (ex lf_O5 4 1400 true 100000 0 lwF) = true := by decide +kernel
theorem lf_o5 {σ : Nat → Int32} (hc : ((σ 2).toUInt32 % 65536).toInt32 = σ 4) (h : σ 0 &&& 63 = 0) (h0 : ¬ σ 1 < 0) (h1 : ¬ 1 < σ 1) (h2 : ¬ σ 2 < 0) (h3 : ¬ 7 < σ 2) (h4 : ¬ σ 3 < 0) (h5 : 3 < σ 3) : rOr lf_O5 σ := ⟨List.forall_mem_cons.mpr ⟨iff_of_false h0 (by decide), List.forall_mem_cons.mpr ⟨iff_of_false h1 (by decide), List.forall_mem_cons.mpr ⟨iff_of_false h2 (by decide), List.forall_mem_cons.mpr ⟨iff_of_false h3 (by decide), List.forall_mem_cons.mpr ⟨iff_of_false h4 (by decide), List.forall_mem_cons.mpr ⟨iff_of_true h5 rfl, fun _ h => absurd h List.not_mem_nil⟩⟩⟩⟩⟩⟩, Or.inr h, hc⟩
def lf_O6 : rO := ([((false, .inr (false, 1), .inl (.int 0)), false), ((false, .inl (.int 1), .inr (false, 1)), false), ((false, .inr (false, 2), .inl (.int 0)), false), ((false, .inl (.int 7), .inr (false, 2)), false), ((false, .inr (false, 3), .inl (.int 0)), false), ((false, .inl (.int 3), .inr (false, 3)), false)], 0)
theorem lf_c6 : isOne (ex lf_O6 4 1400 true 100000 0 lwF) = true := by decide +kernel
theorem lf_o6 {σ : Nat → Int32} (hc : ((σ 2).toUInt32 % 65536).toInt32 = σ 4) (h : σ 0 &&& 63 = 0) (h0 : ¬ σ 1 < 0) (h1 : ¬ 1 < σ 1) (h2 : ¬ σ 2 < 0) (h3 : ¬ 7 < σ 2) (h4 : ¬ σ 3 < 0) (h5 : ¬ 3 < σ 3) : rOr lf_O6 σ := ⟨List.forall_mem_cons.mpr ⟨iff_of_false h0 (by decide), List.forall_mem_cons.mpr ⟨iff_of_false h1 (by decide), List.forall_mem_cons.mpr ⟨iff_of_false h2 (by decide), List.forall_mem_cons.mpr ⟨iff_of_false h3 (by decide), List.forall_mem_cons.mpr ⟨iff_of_false h4 (by decide), List.forall_mem_cons.mpr ⟨iff_of_false h5 (by decide), fun _ h => absurd h List.not_mem_nil⟩⟩⟩⟩⟩⟩, Or.inr h, hc⟩
def lf_O7 : rO := ([((false, .inr (false, 1), .inl (.int 0)), true)], 1)
theorem lf_c7 : isOne (ex lf_O7 4 1400 true 100000 0 lwF) = true := by decide +kernel
theorem lf_o7 {σ : Nat → Int32} (hc : ((σ 2).toUInt32 % 65536).toInt32 = σ 4) (h : σ 0 &&& 63 = 1) (h0 : σ 1 < 0) : rOr lf_O7 σ := ⟨List.forall_mem_cons.mpr ⟨iff_of_true h0 rfl, fun _ h => absurd h List.not_mem_nil⟩, Or.inr h, hc⟩
def lf_O8 : rO := ([((false, .inr (false, 1), .inl (.int 0)), false), ((false, .inl (.int (-1)), .inr (false, 1)), true)], 1)
theorem lf_c8 : isOne (ex lf_O8 4 1400 true 100000 0 lwF) = true := by decide +kernel
theorem lf_o8 {σ : Nat → Int32} (hc : ((σ 2).toUInt32 % 65536).toInt32 = σ 4) (h : σ 0 &&& 63 = 1) (h0 : ¬ σ 1 < 0) : rOr lf_O8 σ := ⟨List.forall_mem_cons.mpr ⟨iff_of_false h0 (by decide), List.forall_mem_cons.mpr ⟨iff_of_true (show (-1) < σ 1 by
    simp only [Int32.lt_iff_toInt_lt, ← Int32.toInt_inj] at *
    have e0 : ((-1) : Int32).toInt = -1 := rfl
    have e1 : (0 : Int32).toInt = 0 := rfl
    omega) rfl, fun _ h => absurd h List.not_mem_nil⟩⟩, Or.inr h, hc⟩
def lf_O9 : rO := ([((false, .inr (false, 1), .inl (.int 0)), true)], 2)
theorem lf_c9 : isOne (ex lf_O9 4 1400 true 100000 0 lwF) = true := by decide +kernel
theorem lf_o9 {σ : Nat → Int32} (hc : ((σ 2).toUInt32 % 65536).toInt32 = σ 4) (h : σ 0 &&& 63 = 2) (h0 : σ 1 < 0) : rOr lf_O9 σ := ⟨List.forall_mem_cons.mpr ⟨iff_of_true h0 rfl, fun _ h => absurd h List.not_mem_nil⟩, Or.inr h, hc⟩
def lf_O10 : rO := ([((false, .inr (false, 1), .inl (.int 0)), false), ((false, .inl (.int 9999), .inr (false, 1)), true)], 2)
theorem lf_c10 : isOne (ex lf_O10 4 1400 true 100000 0 lwF) = true := by decide +kernel
theorem lf_o10 {σ : Nat → Int32} (hc : ((σ 2).toUInt32 % 65536).toInt32 = σ 4) (h : σ 0 &&& 63 = 2) (h0 : ¬ σ 1 < 0) (h1 : 9999 < σ 1) : rOr lf_O10 σ := ⟨List.forall_mem_cons.mpr ⟨iff_of_false h0 (by decide), List.forall_mem_cons.mpr ⟨iff_of_true h1 rfl, fun _ h => absurd h List.not_mem_nil⟩⟩, Or.inr h, hc⟩
def lf_O11 : rO := ([((false, .inr (false, 1), .inl (.int 0)), false), ((false, .inl (.int 9999), .inr (false, 1)), false), ((false, .inr (false, 2), .inl (.int 0)), true)], 2)
theorem lf_c11 : isOne (ex lf_O11 4 1400 true 100000 0 lwF) = true := by decide +kernel
theorem lf_o11 {σ : Nat → Int32} (hc : ((σ 2).toUInt32 % 65536).toInt32 = σ 4) (h : σ 0 &&& 63 = 2) (h0 : ¬ σ 1 < 0) (h1 : ¬ 9999 < σ 1) (h2 : σ 2 < 0) : rOr lf_O11 σ := ⟨List.forall_mem_cons.mpr ⟨iff_of_false h0 (by decide), List.forall_mem_cons.mpr ⟨iff_of_false h1 (by decide), List.forall_mem_cons.mpr ⟨iff_of_true h2 rfl, fun _ h => absurd h List.not_mem_nil⟩⟩⟩, Or.inr h, hc⟩
def lf_O12 : rO := ([((false, .inr (false, 1), .inl (.int 0)), false), ((false, .inl (.int 9999), .inr (false, 1)), false), ((false, .inr (false, 2), .inl (.int 0)), false), ((false, .inl (.int 9999), .inr (false, 2)), true)], 2)
theorem lf_c12 : isOne (ex lf_O12 4 1400 true 100000 0 lwF) = true := by decide +kernel
theorem lf_o12 {σ : Nat → Int32} (hc : ((σ 2).toUInt32 % 65536).toInt32 = σ 4) (h : σ 0 &&& 63 = 2) (h0 : ¬ σ 1 < 0) (h1 : ¬ 9999 < σ 1) (h2 : ¬ σ 2 < 0) (h3 : 9999 < σ 2) : rOr lf_O12 σ := ⟨List.forall_mem_cons.mpr ⟨iff_of_false h0 (by decide), List.forall_mem_cons.mpr ⟨iff_of_false h1 (by decide), List.forall_mem_cons.mpr ⟨iff_of_false h2 (by decide), List.forall_mem_cons.mpr ⟨iff_of_true h3 rfl, fun _ h => absurd h List.not_mem_nil⟩⟩⟩⟩, Or.inr h, hc⟩
def lf_O13 : rO := ([((false, .inr (false, 1), .inl (.int 0)), false), ((false, .inl (.int 9999), .inr (false, 1)), false), ((false, .inr (false, 2), .inl (.int 0)), false), ((false, .inl (.int 9999), .inr (false, 2)), false), ((false, .inl (.int 0), .inr (false, 1)), true)], 2)
theorem lf_c13 : isOne (ex lf_O13 4 1400 true 100000 0 lwF) = true := by decide +kernel
theorem lf_o13 {σ : Nat → Int32} (hc : ((σ 2).toUInt32 % 65536).toInt32 = σ 4) (h : σ 0 &&& 63 = 2) (h0 : ¬ σ 1 < 0) (h1 : ¬ 9999 < σ 1) (h2 : ¬ σ 2 < 0) (h3 : ¬ 9999 < σ 2) (h4 : 0 < σ 1) : rOr lf_O13 σ := ⟨List.forall_mem_cons.mpr ⟨iff_of_false h0 (by decide), List.forall_mem_cons.mpr ⟨iff_of_false h1 (by decide), List.forall_mem_cons.mpr ⟨iff_of_false h2 (by decide), List.forall_mem_cons.mpr ⟨iff_of_false h3 (by decide), List.forall_mem_cons.mpr ⟨iff_of_true h4 rfl, fun _ h => absurd h List.not_mem_nil⟩⟩⟩⟩⟩, Or.inr h, hc⟩
def lf_O14 : rO := ([((false, .inr (false, 1), .inl (.int 0)), false), ((false, .inl (.int 9999), .inr (false, 1)), false), ((false, .inr (false, 2), .inl (.int 0)), false), ((false, .inl (.int 9999), .inr (false, 2)), false), ((false, .inl (.int 0), .inr (false, 1)), false)], 2)
theorem lf_c14 : isOne (ex lf_O14 4 1400 true 100000 0 lwF) = true := by decide +kernel
theorem lf_o14 {σ : Nat → Int32} (hc : ((σ 2).toUInt32 % 65536).toInt32 = σ 4) (h : σ 0 &&& 63 = 2) (h0 : ¬ σ 1 < 0) (h1 : ¬ 9999 < σ 1) (h2 : ¬ σ 2 < 0) (h3 : ¬ 9999 < σ 2) (h4 : ¬ 0 < σ 1) : rOr lf_O14 σ := ⟨List.forall_mem_cons.mpr ⟨iff_of_false h0 (by decide), List.forall_mem_cons.mpr ⟨iff_of_false h1 (by decide), List.forall_mem_cons.mpr ⟨iff_of_false h2 (by decide), List.forall_mem_cons.mpr ⟨iff_of_false h3 (by decide), List.forall_mem_cons.mpr ⟨iff_of_false h4 (by decide), fun _ h => absurd h List.not_mem_nil⟩⟩⟩⟩⟩, Or.inr h, hc⟩
def lf_O15 : rO := ([((false, .inr (false, 1), .inl (.int 1)), true)], 3)
theorem lf_c15 : isOne (ex lf_O15 4 1400 true 100000 0 lwF) = true := by decide +kernel
theorem lf_o15 {σ : Nat → Int32} (hc : ((σ 2).toUInt32 % 65536).toInt32 = σ 4) (h : σ 0 &&& 63 = 3) (h0 : σ 1 < 1) : rOr lf_O15 σ := ⟨List.forall_mem_cons.mpr ⟨iff_of_true h0 rfl, fun _ h => absurd h List.not_mem_nil⟩, Or.inr h, hc⟩
def lf_O16 : rO := ([((false, .inr (false, 1), .inl (.int 1)), false), ((false, .inl (.int 99), .inr (false, 1)), true)], 3)
theorem lf_c16 : isOne (ex lf_O16 4 1400 true 100000 0 lwF) = true := by decide +kernel
theorem lf_o16 {σ : Nat → Int32} (hc : ((σ 2).toUInt32 % 65536).toInt32 = σ 4) (h : σ 0 &&& 63 = 3) (h0 : ¬ σ 1 < 1) (h1 : 99 < σ 1) : rOr lf_O16 σ := ⟨List.forall_mem_cons.mpr ⟨iff_of_false h0 (by decide), List.forall_mem_cons.mpr ⟨iff_of_true h1 rfl, fun _ h => absurd h List.not_mem_nil⟩⟩, Or.inr h, hc⟩
def lf_O17 : rO := ([((false, .inr (false, 1), .inl (.int 1)), false), ((false, .inl (.int 99), .inr (false, 1)), false)], 3)
theorem lf_c17 : isOne (ex lf_O17 4 1400 true 100000 0 lwF) = true := by decide +kernel
theorem lf_o17 {σ : Nat → Int32} (hc : ((σ 2).toUInt32 % 65536).toInt32 = σ 4) (h : σ 0 &&& 63 = 3) (h0 : ¬ σ 1 < 1) (h1 : ¬ 99 < σ 1) : rOr lf_O17 σ := ⟨List.forall_mem_cons.mpr ⟨iff_of_false h0 (by decide), List.forall_mem_cons.mpr ⟨iff_of_false h1 (by decide), fun _ h => absurd h List.not_mem_nil⟩⟩, Or.inr h, hc⟩
def lf_O18 : rO := ([((false, .inr (false, 1), .inl (.int 0)), true)], 4)
theorem lf_c18 : isOne (ex lf_O18 4 1400 true 100000 0 lwF) = true := by decide +kernel
theorem lf_o18 {σ : Nat → Int32} (hc : ((σ 2).toUInt32 % 65536).toInt32 = σ 4) (h : σ 0 &&& 63 = 4) (h0 : σ 1 < 0) : rOr lf_O18 σ := ⟨List.forall_mem_cons.mpr ⟨iff_of_true h0 rfl, fun _ h => absurd h List.not_mem_nil⟩, Or.inr h, hc⟩
def lf_O19 : rO := ([((false, .inr (false, 1), .inl (.int 0)), false), ((false, .inl (.int (-1)), .inr (false, 1)), true)], 4)
theorem lf_c19 : isOne (ex lf_O19 4 1400 true 100000 0 lwF) = true := by decide +kernel
theorem lf_o19 {σ : Nat → Int32} (hc : ((σ 2).toUInt32 % 65536).toInt32 = σ 4) (h : σ 0 &&& 63 = 4) (h0 : ¬ σ 1 < 0) : rOr lf_O19 σ := ⟨List.forall_mem_cons.mpr ⟨iff_of_false h0 (by decide), List.forall_mem_cons.mpr ⟨iff_of_true (show (-1) < σ 1 by
    simp only [Int32.lt_iff_toInt_lt, ← Int32.toInt_inj] at *
    have e0 : ((-1) : Int32).toInt = -1 := rfl
    have e1 : (0 : Int32).toInt = 0 := rfl
    omega) rfl, fun _ h => absurd h List.not_mem_nil⟩⟩, Or.inr h, hc⟩
def lf_O20 : rO := ([((false, .inr (false, 1), .inl (.int 0)), true)], 5)
theorem lf_c20 : isOne (ex lf_O20 4 1400 true 100000 0 lwF) = true := by decide +kernel
theorem lf_o20 {σ : Nat → Int32} (hc : ((σ 2).toUInt32 % 65536).toInt32 = σ 4) (h : σ 0 &&& 63 = 5) (h0 : σ 1 < 0) : rOr lf_O20 σ := ⟨List.forall_mem_cons.mpr ⟨iff_of_true h0 rfl, fun _ h => absurd h List.not_mem_nil⟩, Or.inr h, hc⟩
def lf_O21 : rO := ([((false, .inr (false, 1), .inl (.int 0)), false), ((false, .inl (.int (-1)), .inr (false, 1)), true)], 5)
theorem lf_c21 : isOne (ex lf_O21 4 1400 true 100000 0 lwF) = true := by decide +kernel
theorem lf_o21 {σ : Nat → Int32} (hc : ((σ 2).toUInt32 % 65536).toInt32 = σ 4) (h : σ 0 &&& 63 = 5) (h0 : ¬ σ 1 < 0) : rOr lf_O21 σ := ⟨List.forall_mem_cons.mpr ⟨iff_of_false h0 (by decide), List.forall_mem_cons.mpr ⟨iff_of_true (show (-1) < σ 1 by
    simp only [Int32.lt_iff_toInt_lt, ← Int32.toInt_inj] at *
    have e0 : ((-1) : Int32).toInt = -1 := rfl
    have e1 : (0 : Int32).toInt = 0 := rfl
    omega) rfl, fun _ h => absurd h List.not_mem_nil⟩⟩, Or.inr h, hc⟩
def lf_O22 : rO := ([((false, .inr (false, 1), .inl (.int 0)), true)], 6)
theorem lf_c22 : isOne (ex lf_O22 4 1400 true 100000 0 lwF) = true := by decide +kernel
theorem lf_o22 {σ : Nat → Int32} (hc : ((σ 2).toUInt32 % 65536).toInt32 = σ 4) (h : σ 0 &&& 63 = 6) (h0 : σ 1 < 0) : rOr lf_O22 σ := ⟨List.forall_mem_cons.mpr ⟨iff_of_true h0 rfl, fun _ h => absurd h List.not_mem_nil⟩, Or.inr h, hc⟩
def lf_O23 : rO := ([((false, .inr (false, 1), .inl (.int 0)), false), ((false, .inl (.int (-1)), .inr (false, 1)), true)], 6)
theorem lf_c23 : isOne (ex lf_O23 4 1400 true 100000 0 lwF) = true := by decide +kernel
theorem lf_o23 {σ : Nat → Int32} (hc : ((σ 2).toUInt32 % 65536).toInt32 = σ 4) (h : σ 0 &&& 63 = 6) (h0 : ¬ σ 1 < 0) : rOr lf_O23 σ := ⟨List.forall_mem_cons.mpr ⟨iff_of_false h0 (by decide), List.forall_mem_cons.mpr ⟨iff_of_true (show (-1) < σ 1 by
    simp only [Int32.lt_iff_toInt_lt, ← Int32.toInt_inj] at *
    have e0 : ((-1) : Int32).toInt = -1 := rfl
    have e1 : (0 : Int32).toInt = 0 := rfl
    omega) rfl, fun _ h => absurd h List.not_mem_nil⟩⟩, Or.inr h, hc⟩
def lf_O24 : rO := ([((true, .inr (false, 3), .inl (.int 0)), true), ((false, .inr (false, 1), .inl (.int 0)), true)], 7)
theorem lf_c24 : isOne (ex lf_O24 4 1400 true 100000 0 lwF) = true := by decide +kernel
theorem lf_o24 {σ : Nat → Int32} (hc : ((σ 2).toUInt32 % 65536).toInt32 = σ 4) (h : σ 0 &&& 63 = 7) (h0 : σ 3 = 0) (h1 : σ 1 < 0) : rOr lf_O24 σ := ⟨List.forall_mem_cons.mpr ⟨iff_of_true h0 rfl, List.forall_mem_cons.mpr ⟨iff_of_true h1 rfl, fun _ h => absurd h List.not_mem_nil⟩⟩, Or.inr h, hc⟩
def lf_O25 : rO := ([((true, .inr (false, 3), .inl (.int 0)), true), ((false, .inr (false, 1), .inl (.int 0)), false), ((false, .inl (.int (-1)), .inr (false, 1)), true)], 7)
theorem lf_c25 : isOne (ex lf_O25 4 1400 true 100000 0 lwF) = true := by decide +kernel
theorem lf_o25 {σ : Nat → Int32} (hc : ((σ 2).toUInt32 % 65536).toInt32 = σ 4) (h : σ 0 &&& 63 = 7) (h0 : σ 3 = 0) (h1 : ¬ σ 1 < 0) : rOr lf_O25 σ := ⟨List.forall_mem_cons.mpr ⟨iff_of_true h0 rfl, List.forall_mem_cons.mpr ⟨iff_of_false h1 (by decide), List.forall_mem_cons.mpr ⟨iff_of_true (show (-1) < σ 1 by
    simp only [Int32.lt_iff_toInt_lt, ← Int32.toInt_inj] at *
    have e0 : ((-1) : Int32).toInt = -1 := rfl
    have e1 : (0 : Int32).toInt = 0 := rfl
    omega) rfl, fun _ h => absurd h List.not_mem_nil⟩⟩⟩, Or.inr h, hc⟩
def lf_O26 : rO := ([((true, .inr (false, 3), .inl (.int 0)), false), ((false, .inr (false, 1), .inl (.int 0)), true)], 7)
theorem lf_c26 : isOne (ex lf_O26 4 1400 true 100000 0 lwF) = true := by decide +kernel
theorem lf_o26 {σ : Nat → Int32} (hc : ((σ 2).toUInt32 % 65536).toInt32 = σ 4) (h : σ 0 &&& 63 = 7) (h0 : ¬ σ 3 = 0) (h1 : σ 1 < 0) : rOr lf_O26 σ := ⟨List.forall_mem_cons.mpr ⟨iff_of_false h0 (by decide), List.forall_mem_cons.mpr ⟨iff_of_true h1 rfl, fun _ h => absurd h List.not_mem_nil⟩⟩, Or.inr h, hc⟩
def lf_O27 : rO := ([((true, .inr (false, 3), .inl (.int 0)), false), ((false, .inr (false, 1), .inl (.int 0)), false), ((false, .inl (.int (-1)), .inr (false, 1)), true)], 7)
theorem lf_c27 : isOne (ex lf_O27 4 1400 true 100000 0 lwF) = true := by decide +kernel
theorem lf_o27 {σ : Nat → Int32} (hc : ((σ 2).toUInt32 % 65536).toInt32 = σ 4) (h : σ 0 &&& 63 = 7) (h0 : ¬ σ 3 = 0) (h1 : ¬ σ 1 < 0) : rOr lf_O27 σ := ⟨List.forall_mem_cons.mpr ⟨iff_of_false h0 (by decide), List.forall_mem_cons.mpr ⟨iff_of_false h1 (by decide), List.forall_mem_cons.mpr ⟨iff_of_true (show (-1) < σ 1 by
    simp only [Int32.lt_iff_toInt_lt, ← Int32.toInt_inj] at *
    have e0 : ((-1) : Int32).toInt = -1 := rfl
    have e1 : (0 : Int32).toInt = 0 := rfl
    omega) rfl, fun _ h => absurd h List.not_mem_nil⟩⟩⟩, Or.inr h, hc⟩
def lf_O28 : rO := ([((false, .inr (false, 1), .inl (.int 0)), true)], 8)
theorem lf_c28 : isOne (ex lf_O28 4 1400 true 100000 0 lwF) = true := by decide +kernel
theorem lf_o28 {σ : Nat → Int32} (hc : ((σ 2).toUInt32 % 65536).toInt32 = σ 4) (h : σ 0 &&& 63 = 8) (h0 : σ 1 < 0) : rOr lf_O28 σ := ⟨List.forall_mem_cons.mpr ⟨iff_of_true h0 rfl, fun _ h => absurd h List.not_mem_nil⟩, Or.inr h, hc⟩
def lf_O29 : rO := ([((false, .inr (false, 1), .inl (.int 0)), false), ((false, .inl (.int 1), .inr (false, 1)), true)], 8)
theorem lf_c29 : isOne (ex lf_O29 4 1400 true 100000 0 lwF) = true := by decide +kernel
theorem lf_o29 {σ : Nat → Int32} (hc : ((σ 2).toUInt32 % 65536).toInt32 = σ 4) (h : σ 0 &&& 63 = 8) (h0 : ¬ σ 1 < 0) (h1 : 1 < σ 1) : rOr lf_O29 σ := ⟨List.forall_mem_cons.mpr ⟨iff_of_false h0 (by decide), List.forall_mem_cons.mpr ⟨iff_of_true h1 rfl, fun _ h => absurd h List.not_mem_nil⟩⟩, Or.inr h, hc⟩
end
