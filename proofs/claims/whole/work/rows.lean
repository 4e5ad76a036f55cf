section
-- ===== PART A: goes FIRST, ahead of the names: the tables' words, and 'selects' of the private methods out of them =====
/-- a private method of a class that the tables say can be made, by its rows of tables_1 -/
def lw_okq (q : MethodName × Nat) : Prop := (q.1.cls ≠ "java/lang/invoke/MethodHandle" ∧ q.1.cls ≠ "java/lang/invoke/VarHandle") ∧ Cond.instantiable q.1.cls q.2 ∈ tables_1 ∧ Cond.privateMethod q.1 ∈ tables_1 ∧ Cond.instanceMethod q.1 ∈ tables_1
theorem lw_p0 : lw_okq (⟨"CarTangos", "save", "()V"⟩, 7) := ⟨⟨by decide +kernel, by decide +kernel⟩, List.mem_of_getElem? (i := 17) (by decide +kernel), List.mem_of_getElem? (i := 164) (by decide +kernel), List.mem_of_getElem? (i := 165) (by decide +kernel)⟩
theorem lw_p1 : lw_okq (⟨"CarTangos", "dropOldestSaved", "()V"⟩, 7) := ⟨⟨by decide +kernel, by decide +kernel⟩, List.mem_of_getElem? (i := 17) (by decide +kernel), List.mem_of_getElem? (i := 168) (by decide +kernel), List.mem_of_getElem? (i := 169) (by decide +kernel)⟩
theorem lw_p2 : lw_okq (⟨"CarTangos", "exploreNow", "()V"⟩, 7) := ⟨⟨by decide +kernel, by decide +kernel⟩, List.mem_of_getElem? (i := 17) (by decide +kernel), List.mem_of_getElem? (i := 318) (by decide +kernel), List.mem_of_getElem? (i := 319) (by decide +kernel)⟩
theorem lw_p3 : lw_okq (⟨"CarTangos", "hashOfPark", "(J)J"⟩, 7) := ⟨⟨by decide +kernel, by decide +kernel⟩, List.mem_of_getElem? (i := 17) (by decide +kernel), List.mem_of_getElem? (i := 485) (by decide +kernel), List.mem_of_getElem? (i := 486) (by decide +kernel)⟩
theorem lw_p4 : lw_okq (⟨"CarTangos", "hashOfPlans", "(J)J"⟩, 7) := ⟨⟨by decide +kernel, by decide +kernel⟩, List.mem_of_getElem? (i := 17) (by decide +kernel), List.mem_of_getElem? (i := 497) (by decide +kernel), List.mem_of_getElem? (i := 498) (by decide +kernel)⟩
theorem lw_p5 : lw_okq (⟨"CarTangos", "hashOfArrangements", "(J)J"⟩, 7) := ⟨⟨by decide +kernel, by decide +kernel⟩, List.mem_of_getElem? (i := 17) (by decide +kernel), List.mem_of_getElem? (i := 501) (by decide +kernel), List.mem_of_getElem? (i := 502) (by decide +kernel)⟩
theorem lw_p6 : lw_okq (⟨"CarTangos", "hashOfCells", "(J)J"⟩, 7) := ⟨⟨by decide +kernel, by decide +kernel⟩, List.mem_of_getElem? (i := 17) (by decide +kernel), List.mem_of_getElem? (i := 505) (by decide +kernel), List.mem_of_getElem? (i := 506) (by decide +kernel)⟩
theorem lw_p7 : lw_okq (⟨"CarTangos", "hashOfCars", "(J)J"⟩, 7) := ⟨⟨by decide +kernel, by decide +kernel⟩, List.mem_of_getElem? (i := 17) (by decide +kernel), List.mem_of_getElem? (i := 517) (by decide +kernel), List.mem_of_getElem? (i := 518) (by decide +kernel)⟩
theorem lw_p8 : lw_okq (⟨"CarTangos", "hashOfLog", "(J)J"⟩, 7) := ⟨⟨by decide +kernel, by decide +kernel⟩, List.mem_of_getElem? (i := 17) (by decide +kernel), List.mem_of_getElem? (i := 522) (by decide +kernel), List.mem_of_getElem? (i := 523) (by decide +kernel)⟩
theorem lw_p9 : lw_okq (⟨"CarTangos", "hashOfText", "(J)J"⟩, 7) := ⟨⟨by decide +kernel, by decide +kernel⟩, List.mem_of_getElem? (i := 17) (by decide +kernel), List.mem_of_getElem? (i := 532) (by decide +kernel), List.mem_of_getElem? (i := 533) (by decide +kernel)⟩
theorem lw_p10 : lw_okq (⟨"java/lang/Throwable", "fillInStackTrace", "(I)Ljava/lang/Throwable;"⟩, 6) := ⟨⟨by decide +kernel, by decide +kernel⟩, List.mem_of_getElem? (i := 592) (by decide +kernel), List.mem_of_getElem? (i := 590) (by decide +kernel), List.mem_of_getElem? (i := 591) (by decide +kernel)⟩
theorem lw_p11 : lw_okq (⟨"CarTangos", "slidesToDriveOut", "()I"⟩, 7) := ⟨⟨by decide +kernel, by decide +kernel⟩, List.mem_of_getElem? (i := 17) (by decide +kernel), List.mem_of_getElem? (i := 723) (by decide +kernel), List.mem_of_getElem? (i := 724) (by decide +kernel)⟩
theorem lw_p12 : lw_okq (⟨"CarTangos", "makePlan", "(I)Z"⟩, 7) := ⟨⟨by decide +kernel, by decide +kernel⟩, List.mem_of_getElem? (i := 17) (by decide +kernel), List.mem_of_getElem? (i := 728) (by decide +kernel), List.mem_of_getElem? (i := 729) (by decide +kernel)⟩
theorem lw_p13 : lw_okq (⟨"CarTangos", "tryPart", "(I)Z"⟩, 7) := ⟨⟨by decide +kernel, by decide +kernel⟩, List.mem_of_getElem? (i := 17) (by decide +kernel), List.mem_of_getElem? (i := 767) (by decide +kernel), List.mem_of_getElem? (i := 768) (by decide +kernel)⟩
theorem lw_p14 : lw_okq (⟨"CarTangos", "tryEntering", "(III)Z"⟩, 7) := ⟨⟨by decide +kernel, by decide +kernel⟩, List.mem_of_getElem? (i := 17) (by decide +kernel), List.mem_of_getElem? (i := 775) (by decide +kernel), List.mem_of_getElem? (i := 776) (by decide +kernel)⟩
theorem lw_p15 : lw_okq (⟨"CarTangos", "tryWall", "(I)Z"⟩, 7) := ⟨⟨by decide +kernel, by decide +kernel⟩, List.mem_of_getElem? (i := 17) (by decide +kernel), List.mem_of_getElem? (i := 784) (by decide +kernel), List.mem_of_getElem? (i := 785) (by decide +kernel)⟩
def lw_privs_1 : List (MethodName × Nat) := [(⟨"CarTangos", "save", "()V"⟩, 7), (⟨"CarTangos", "dropOldestSaved", "()V"⟩, 7), (⟨"CarTangos", "exploreNow", "()V"⟩, 7), (⟨"CarTangos", "hashOfPark", "(J)J"⟩, 7), (⟨"CarTangos", "hashOfPlans", "(J)J"⟩, 7), (⟨"CarTangos", "hashOfArrangements", "(J)J"⟩, 7), (⟨"CarTangos", "hashOfCells", "(J)J"⟩, 7), (⟨"CarTangos", "hashOfCars", "(J)J"⟩, 7), (⟨"CarTangos", "hashOfLog", "(J)J"⟩, 7), (⟨"CarTangos", "hashOfText", "(J)J"⟩, 7), (⟨"java/lang/Throwable", "fillInStackTrace", "(I)Ljava/lang/Throwable;"⟩, 6), (⟨"CarTangos", "slidesToDriveOut", "()I"⟩, 7), (⟨"CarTangos", "makePlan", "(I)Z"⟩, 7), (⟨"CarTangos", "tryPart", "(I)Z"⟩, 7), (⟨"CarTangos", "tryEntering", "(III)Z"⟩, 7), (⟨"CarTangos", "tryWall", "(I)Z"⟩, 7)]
theorem lw_r1 : ∀ q ∈ lw_privs_1, lw_okq q := List.forall_mem_cons.mpr ⟨lw_p0, List.forall_mem_cons.mpr ⟨lw_p1, List.forall_mem_cons.mpr ⟨lw_p2, List.forall_mem_cons.mpr ⟨lw_p3, List.forall_mem_cons.mpr ⟨lw_p4, List.forall_mem_cons.mpr ⟨lw_p5, List.forall_mem_cons.mpr ⟨lw_p6, List.forall_mem_cons.mpr ⟨lw_p7, List.forall_mem_cons.mpr ⟨lw_p8, List.forall_mem_cons.mpr ⟨lw_p9, List.forall_mem_cons.mpr ⟨lw_p10, List.forall_mem_cons.mpr ⟨lw_p11, List.forall_mem_cons.mpr ⟨lw_p12, List.forall_mem_cons.mpr ⟨lw_p13, List.forall_mem_cons.mpr ⟨lw_p14, List.forall_mem_cons.mpr ⟨lw_p15, fun _ h => absurd h List.not_mem_nil⟩⟩⟩⟩⟩⟩⟩⟩⟩⟩⟩⟩⟩⟩⟩⟩
theorem lw_p16 : lw_okq (⟨"CarTangos", "tryTakingBack", "()Z"⟩, 7) := ⟨⟨by decide +kernel, by decide +kernel⟩, List.mem_of_getElem? (i := 17) (by decide +kernel), List.mem_of_getElem? (i := 788) (by decide +kernel), List.mem_of_getElem? (i := 789) (by decide +kernel)⟩
theorem lw_p17 : lw_okq (⟨"CarTangos", "trySliding", "(II)Z"⟩, 7) := ⟨⟨by decide +kernel, by decide +kernel⟩, List.mem_of_getElem? (i := 17) (by decide +kernel), List.mem_of_getElem? (i := 796) (by decide +kernel), List.mem_of_getElem? (i := 797) (by decide +kernel)⟩
theorem lw_p18 : lw_okq (⟨"CarTangos", "hasNextSlide", "()Z"⟩, 7) := ⟨⟨by decide +kernel, by decide +kernel⟩, List.mem_of_getElem? (i := 17) (by decide +kernel), List.mem_of_getElem? (i := 904) (by decide +kernel), List.mem_of_getElem? (i := 905) (by decide +kernel)⟩
theorem lw_p19 : lw_okq (⟨"CarTangosModel", "wrongCar", "(III)I"⟩, 22) := ⟨⟨by decide +kernel, by decide +kernel⟩, List.mem_of_getElem? (i := 939) (by decide +kernel), List.mem_of_getElem? (i := 1021) (by decide +kernel), List.mem_of_getElem? (i := 1022) (by decide +kernel)⟩
theorem lw_p20 : lw_okq (⟨"CarTangosModel", "occupied", "()I"⟩, 22) := ⟨⟨by decide +kernel, by decide +kernel⟩, List.mem_of_getElem? (i := 939) (by decide +kernel), List.mem_of_getElem? (i := 1034) (by decide +kernel), List.mem_of_getElem? (i := 1035) (by decide +kernel)⟩
theorem lw_p21 : lw_okq (⟨"CarTangosModel", "cellsOf", "(I)I"⟩, 22) := ⟨⟨by decide +kernel, by decide +kernel⟩, List.mem_of_getElem? (i := 939) (by decide +kernel), List.mem_of_getElem? (i := 1038) (by decide +kernel), List.mem_of_getElem? (i := 1039) (by decide +kernel)⟩
theorem lw_p22 : lw_okq (⟨"CarTangosModel", "refused", "(I)Z"⟩, 22) := ⟨⟨by decide +kernel, by decide +kernel⟩, List.mem_of_getElem? (i := 939) (by decide +kernel), List.mem_of_getElem? (i := 1042) (by decide +kernel), List.mem_of_getElem? (i := 1043) (by decide +kernel)⟩
theorem lw_p23 : lw_okq (⟨"CarTangosModel", "saves", "()V"⟩, 22) := ⟨⟨by decide +kernel, by decide +kernel⟩, List.mem_of_getElem? (i := 939) (by decide +kernel), List.mem_of_getElem? (i := 1046) (by decide +kernel), List.mem_of_getElem? (i := 1047) (by decide +kernel)⟩
theorem lw_p24 : lw_okq (⟨"CarTangosModel", "addOn", "(III)I"⟩, 22) := ⟨⟨by decide +kernel, by decide +kernel⟩, List.mem_of_getElem? (i := 939) (by decide +kernel), List.mem_of_getElem? (i := 1053) (by decide +kernel), List.mem_of_getElem? (i := 1054) (by decide +kernel)⟩
theorem lw_p25 : lw_okq (⟨"CarTangosModel", "canTurn", "(I)Z"⟩, 22) := ⟨⟨by decide +kernel, by decide +kernel⟩, List.mem_of_getElem? (i := 939) (by decide +kernel), List.mem_of_getElem? (i := 1069) (by decide +kernel), List.mem_of_getElem? (i := 1070) (by decide +kernel)⟩
theorem lw_p26 : lw_okq (⟨"CarTangosModel", "hasWall", "(I)Z"⟩, 22) := ⟨⟨by decide +kernel, by decide +kernel⟩, List.mem_of_getElem? (i := 939) (by decide +kernel), List.mem_of_getElem? (i := 1073) (by decide +kernel), List.mem_of_getElem? (i := 1074) (by decide +kernel)⟩
theorem lw_p27 : lw_okq (⟨"CarTangosModel", "turnOn", "(I)Z"⟩, 22) := ⟨⟨by decide +kernel, by decide +kernel⟩, List.mem_of_getElem? (i := 939) (by decide +kernel), List.mem_of_getElem? (i := 1080) (by decide +kernel), List.mem_of_getElem? (i := 1081) (by decide +kernel)⟩
theorem lw_p28 : lw_okq (⟨"CarTangosModel", "isCar", "(I)Z"⟩, 22) := ⟨⟨by decide +kernel, by decide +kernel⟩, List.mem_of_getElem? (i := 939) (by decide +kernel), List.mem_of_getElem? (i := 1088) (by decide +kernel), List.mem_of_getElem? (i := 1089) (by decide +kernel)⟩
theorem lw_p29 : lw_okq (⟨"CarTangosModel", "canSlide", "(II)Z"⟩, 22) := ⟨⟨by decide +kernel, by decide +kernel⟩, List.mem_of_getElem? (i := 939) (by decide +kernel), List.mem_of_getElem? (i := 1096) (by decide +kernel), List.mem_of_getElem? (i := 1097) (by decide +kernel)⟩
theorem lw_p30 : lw_okq (⟨"CarTangosModel", "space", "(II)I"⟩, 22) := ⟨⟨by decide +kernel, by decide +kernel⟩, List.mem_of_getElem? (i := 939) (by decide +kernel), List.mem_of_getElem? (i := 1100) (by decide +kernel), List.mem_of_getElem? (i := 1101) (by decide +kernel)⟩
theorem lw_p31 : lw_okq (⟨"CarTangosModel", "slideOn", "(II)I"⟩, 22) := ⟨⟨by decide +kernel, by decide +kernel⟩, List.mem_of_getElem? (i := 939) (by decide +kernel), List.mem_of_getElem? (i := 1104) (by decide +kernel), List.mem_of_getElem? (i := 1105) (by decide +kernel)⟩
def lw_privs_2 : List (MethodName × Nat) := [(⟨"CarTangos", "tryTakingBack", "()Z"⟩, 7), (⟨"CarTangos", "trySliding", "(II)Z"⟩, 7), (⟨"CarTangos", "hasNextSlide", "()Z"⟩, 7), (⟨"CarTangosModel", "wrongCar", "(III)I"⟩, 22), (⟨"CarTangosModel", "occupied", "()I"⟩, 22), (⟨"CarTangosModel", "cellsOf", "(I)I"⟩, 22), (⟨"CarTangosModel", "refused", "(I)Z"⟩, 22), (⟨"CarTangosModel", "saves", "()V"⟩, 22), (⟨"CarTangosModel", "addOn", "(III)I"⟩, 22), (⟨"CarTangosModel", "canTurn", "(I)Z"⟩, 22), (⟨"CarTangosModel", "hasWall", "(I)Z"⟩, 22), (⟨"CarTangosModel", "turnOn", "(I)Z"⟩, 22), (⟨"CarTangosModel", "isCar", "(I)Z"⟩, 22), (⟨"CarTangosModel", "canSlide", "(II)Z"⟩, 22), (⟨"CarTangosModel", "space", "(II)I"⟩, 22), (⟨"CarTangosModel", "slideOn", "(II)I"⟩, 22)]
theorem lw_r2 : ∀ q ∈ lw_privs_2, lw_okq q := List.forall_mem_cons.mpr ⟨lw_p16, List.forall_mem_cons.mpr ⟨lw_p17, List.forall_mem_cons.mpr ⟨lw_p18, List.forall_mem_cons.mpr ⟨lw_p19, List.forall_mem_cons.mpr ⟨lw_p20, List.forall_mem_cons.mpr ⟨lw_p21, List.forall_mem_cons.mpr ⟨lw_p22, List.forall_mem_cons.mpr ⟨lw_p23, List.forall_mem_cons.mpr ⟨lw_p24, List.forall_mem_cons.mpr ⟨lw_p25, List.forall_mem_cons.mpr ⟨lw_p26, List.forall_mem_cons.mpr ⟨lw_p27, List.forall_mem_cons.mpr ⟨lw_p28, List.forall_mem_cons.mpr ⟨lw_p29, List.forall_mem_cons.mpr ⟨lw_p30, List.forall_mem_cons.mpr ⟨lw_p31, fun _ h => absurd h List.not_mem_nil⟩⟩⟩⟩⟩⟩⟩⟩⟩⟩⟩⟩⟩⟩⟩⟩
theorem lw_p32 : lw_okq (⟨"CarTangosModel", "backOn", "()I"⟩, 22) := ⟨⟨by decide +kernel, by decide +kernel⟩, List.mem_of_getElem? (i := 939) (by decide +kernel), List.mem_of_getElem? (i := 1112) (by decide +kernel), List.mem_of_getElem? (i := 1113) (by decide +kernel)⟩
theorem lw_p33 : lw_okq (⟨"CarTangosModel", "logCar", "(I)I"⟩, 22) := ⟨⟨by decide +kernel, by decide +kernel⟩, List.mem_of_getElem? (i := 939) (by decide +kernel), List.mem_of_getElem? (i := 1116) (by decide +kernel), List.mem_of_getElem? (i := 1117) (by decide +kernel)⟩
theorem lw_p34 : lw_okq (⟨"CarTangosModel", "logBy", "(I)I"⟩, 22) := ⟨⟨by decide +kernel, by decide +kernel⟩, List.mem_of_getElem? (i := 939) (by decide +kernel), List.mem_of_getElem? (i := 1120) (by decide +kernel), List.mem_of_getElem? (i := 1121) (by decide +kernel)⟩
theorem lw_p35 : lw_okq (⟨"CarTangosModel", "canDrive", "()Z"⟩, 22) := ⟨⟨by decide +kernel, by decide +kernel⟩, List.mem_of_getElem? (i := 939) (by decide +kernel), List.mem_of_getElem? (i := 1132) (by decide +kernel), List.mem_of_getElem? (i := 1133) (by decide +kernel)⟩
theorem lw_p36 : lw_okq (⟨"CarTangosModel", "planned", "()I"⟩, 22) := ⟨⟨by decide +kernel, by decide +kernel⟩, List.mem_of_getElem? (i := 939) (by decide +kernel), List.mem_of_getElem? (i := 1136) (by decide +kernel), List.mem_of_getElem? (i := 1137) (by decide +kernel)⟩
theorem lw_p37 : lw_okq (⟨"CarTangosModel", "prepares", "(II)V"⟩, 22) := ⟨⟨by decide +kernel, by decide +kernel⟩, List.mem_of_getElem? (i := 939) (by decide +kernel), List.mem_of_getElem? (i := 1140) (by decide +kernel), List.mem_of_getElem? (i := 1141) (by decide +kernel)⟩
theorem lw_p38 : lw_okq (⟨"CarTangosModel", "fromEnds", "()V"⟩, 22) := ⟨⟨by decide +kernel, by decide +kernel⟩, List.mem_of_getElem? (i := 939) (by decide +kernel), List.mem_of_getElem? (i := 1144) (by decide +kernel), List.mem_of_getElem? (i := 1145) (by decide +kernel)⟩
theorem lw_p39 : lw_okq (⟨"CarTangosModel", "forgets", "()V"⟩, 22) := ⟨⟨by decide +kernel, by decide +kernel⟩, List.mem_of_getElem? (i := 939) (by decide +kernel), List.mem_of_getElem? (i := 1148) (by decide +kernel), List.mem_of_getElem? (i := 1149) (by decide +kernel)⟩
theorem lw_p40 : lw_okq (⟨"CarTangosModel", "isEnd", "(I)Z"⟩, 22) := ⟨⟨by decide +kernel, by decide +kernel⟩, List.mem_of_getElem? (i := 939) (by decide +kernel), List.mem_of_getElem? (i := 1152) (by decide +kernel), List.mem_of_getElem? (i := 1153) (by decide +kernel)⟩
theorem lw_p41 : lw_okq (⟨"CarTangosModel", "isWhole", "(I)Z"⟩, 22) := ⟨⟨by decide +kernel, by decide +kernel⟩, List.mem_of_getElem? (i := 939) (by decide +kernel), List.mem_of_getElem? (i := 1156) (by decide +kernel), List.mem_of_getElem? (i := 1157) (by decide +kernel)⟩
theorem lw_p42 : lw_okq (⟨"CarTangosModel", "reaches", "(II)V"⟩, 22) := ⟨⟨by decide +kernel, by decide +kernel⟩, List.mem_of_getElem? (i := 939) (by decide +kernel), List.mem_of_getElem? (i := 1160) (by decide +kernel), List.mem_of_getElem? (i := 1161) (by decide +kernel)⟩
theorem lw_p43 : lw_okq (⟨"CarTangosModel", "spreads", "(I)V"⟩, 22) := ⟨⟨by decide +kernel, by decide +kernel⟩, List.mem_of_getElem? (i := 939) (by decide +kernel), List.mem_of_getElem? (i := 1164) (by decide +kernel), List.mem_of_getElem? (i := 1165) (by decide +kernel)⟩
theorem lw_p44 : lw_okq (⟨"CarTangosModel", "goes", "(IIII)V"⟩, 22) := ⟨⟨by decide +kernel, by decide +kernel⟩, List.mem_of_getElem? (i := 939) (by decide +kernel), List.mem_of_getElem? (i := 1168) (by decide +kernel), List.mem_of_getElem? (i := 1169) (by decide +kernel)⟩
theorem lw_p45 : lw_okq (⟨"CarTangosModel", "setOf", "(I)I"⟩, 22) := ⟨⟨by decide +kernel, by decide +kernel⟩, List.mem_of_getElem? (i := 939) (by decide +kernel), List.mem_of_getElem? (i := 1172) (by decide +kernel), List.mem_of_getElem? (i := 1173) (by decide +kernel)⟩
theorem lw_p46 : lw_okq (⟨"CarTangosModel", "codeNow", "()I"⟩, 22) := ⟨⟨by decide +kernel, by decide +kernel⟩, List.mem_of_getElem? (i := 939) (by decide +kernel), List.mem_of_getElem? (i := 1176) (by decide +kernel), List.mem_of_getElem? (i := 1177) (by decide +kernel)⟩
theorem lw_p47 : lw_okq (⟨"CarTangosModel", "driveOn", "()I"⟩, 22) := ⟨⟨by decide +kernel, by decide +kernel⟩, List.mem_of_getElem? (i := 939) (by decide +kernel), List.mem_of_getElem? (i := 1180) (by decide +kernel), List.mem_of_getElem? (i := 1181) (by decide +kernel)⟩
def lw_privs_3 : List (MethodName × Nat) := [(⟨"CarTangosModel", "backOn", "()I"⟩, 22), (⟨"CarTangosModel", "logCar", "(I)I"⟩, 22), (⟨"CarTangosModel", "logBy", "(I)I"⟩, 22), (⟨"CarTangosModel", "canDrive", "()Z"⟩, 22), (⟨"CarTangosModel", "planned", "()I"⟩, 22), (⟨"CarTangosModel", "prepares", "(II)V"⟩, 22), (⟨"CarTangosModel", "fromEnds", "()V"⟩, 22), (⟨"CarTangosModel", "forgets", "()V"⟩, 22), (⟨"CarTangosModel", "isEnd", "(I)Z"⟩, 22), (⟨"CarTangosModel", "isWhole", "(I)Z"⟩, 22), (⟨"CarTangosModel", "reaches", "(II)V"⟩, 22), (⟨"CarTangosModel", "spreads", "(I)V"⟩, 22), (⟨"CarTangosModel", "goes", "(IIII)V"⟩, 22), (⟨"CarTangosModel", "setOf", "(I)I"⟩, 22), (⟨"CarTangosModel", "codeNow", "()I"⟩, 22), (⟨"CarTangosModel", "driveOn", "()I"⟩, 22)]
theorem lw_r3 : ∀ q ∈ lw_privs_3, lw_okq q := List.forall_mem_cons.mpr ⟨lw_p32, List.forall_mem_cons.mpr ⟨lw_p33, List.forall_mem_cons.mpr ⟨lw_p34, List.forall_mem_cons.mpr ⟨lw_p35, List.forall_mem_cons.mpr ⟨lw_p36, List.forall_mem_cons.mpr ⟨lw_p37, List.forall_mem_cons.mpr ⟨lw_p38, List.forall_mem_cons.mpr ⟨lw_p39, List.forall_mem_cons.mpr ⟨lw_p40, List.forall_mem_cons.mpr ⟨lw_p41, List.forall_mem_cons.mpr ⟨lw_p42, List.forall_mem_cons.mpr ⟨lw_p43, List.forall_mem_cons.mpr ⟨lw_p44, List.forall_mem_cons.mpr ⟨lw_p45, List.forall_mem_cons.mpr ⟨lw_p46, List.forall_mem_cons.mpr ⟨lw_p47, fun _ h => absurd h List.not_mem_nil⟩⟩⟩⟩⟩⟩⟩⟩⟩⟩⟩⟩⟩⟩⟩⟩
theorem lw_p48 : lw_okq (⟨"CarTangosModel", "next", "()I"⟩, 22) := ⟨⟨by decide +kernel, by decide +kernel⟩, List.mem_of_getElem? (i := 939) (by decide +kernel), List.mem_of_getElem? (i := 1184) (by decide +kernel), List.mem_of_getElem? (i := 1185) (by decide +kernel)⟩
theorem lw_p49 : lw_okq (⟨"CarTangosModel", "reads", "(Z)I"⟩, 22) := ⟨⟨by decide +kernel, by decide +kernel⟩, List.mem_of_getElem? (i := 939) (by decide +kernel), List.mem_of_getElem? (i := 1202) (by decide +kernel), List.mem_of_getElem? (i := 1203) (by decide +kernel)⟩
theorem lw_p50 : lw_okq (⟨"CarTangosModel", "part", "(I)Z"⟩, 22) := ⟨⟨by decide +kernel, by decide +kernel⟩, List.mem_of_getElem? (i := 939) (by decide +kernel), List.mem_of_getElem? (i := 1211) (by decide +kernel), List.mem_of_getElem? (i := 1212) (by decide +kernel)⟩
theorem lw_p51 : lw_okq (⟨"CarTangosModel", "car", "(I)Z"⟩, 22) := ⟨⟨by decide +kernel, by decide +kernel⟩, List.mem_of_getElem? (i := 939) (by decide +kernel), List.mem_of_getElem? (i := 1215) (by decide +kernel), List.mem_of_getElem? (i := 1216) (by decide +kernel)⟩
theorem lw_p52 : lw_okq (⟨"CarTangosModel", "digit", "(II)Z"⟩, 22) := ⟨⟨by decide +kernel, by decide +kernel⟩, List.mem_of_getElem? (i := 939) (by decide +kernel), List.mem_of_getElem? (i := 1219) (by decide +kernel), List.mem_of_getElem? (i := 1220) (by decide +kernel)⟩
theorem lw_p53 : lw_okq (⟨"CarTangosModel", "goesOn", "(I)Z"⟩, 22) := ⟨⟨by decide +kernel, by decide +kernel⟩, List.mem_of_getElem? (i := 939) (by decide +kernel), List.mem_of_getElem? (i := 1223) (by decide +kernel), List.mem_of_getElem? (i := 1224) (by decide +kernel)⟩
theorem lw_p54 : lw_okq (⟨"CarTangosModel", "cell", "()Z"⟩, 22) := ⟨⟨by decide +kernel, by decide +kernel⟩, List.mem_of_getElem? (i := 939) (by decide +kernel), List.mem_of_getElem? (i := 1227) (by decide +kernel), List.mem_of_getElem? (i := 1228) (by decide +kernel)⟩
theorem lw_p55 : lw_okq (⟨"CarTangosModel", "change", "()Z"⟩, 22) := ⟨⟨by decide +kernel, by decide +kernel⟩, List.mem_of_getElem? (i := 939) (by decide +kernel), List.mem_of_getElem? (i := 1231) (by decide +kernel), List.mem_of_getElem? (i := 1232) (by decide +kernel)⟩
theorem lw_p56 : lw_okq (⟨"CarTangosModel", "does", "(I)Z"⟩, 22) := ⟨⟨by decide +kernel, by decide +kernel⟩, List.mem_of_getElem? (i := 939) (by decide +kernel), List.mem_of_getElem? (i := 1235) (by decide +kernel), List.mem_of_getElem? (i := 1236) (by decide +kernel)⟩
theorem lw_p57 : lw_okq (⟨"CarTangosModel", "told", "(I)I"⟩, 22) := ⟨⟨by decide +kernel, by decide +kernel⟩, List.mem_of_getElem? (i := 939) (by decide +kernel), List.mem_of_getElem? (i := 1271) (by decide +kernel), List.mem_of_getElem? (i := 1272) (by decide +kernel)⟩
theorem lw_p58 : lw_okq (⟨"CarTangosModel", "noCar", "(I)Z"⟩, 22) := ⟨⟨by decide +kernel, by decide +kernel⟩, List.mem_of_getElem? (i := 939) (by decide +kernel), List.mem_of_getElem? (i := 1283) (by decide +kernel), List.mem_of_getElem? (i := 1284) (by decide +kernel)⟩
theorem lw_p59 : lw_okq (⟨"CarTangosModel", "carAt", "(I)I"⟩, 22) := ⟨⟨by decide +kernel, by decide +kernel⟩, List.mem_of_getElem? (i := 939) (by decide +kernel), List.mem_of_getElem? (i := 1299) (by decide +kernel), List.mem_of_getElem? (i := 1300) (by decide +kernel)⟩
theorem lw_p60 : lw_okq (⟨"CarTangosModel", "isFree", "()Z"⟩, 22) := ⟨⟨by decide +kernel, by decide +kernel⟩, List.mem_of_getElem? (i := 939) (by decide +kernel), List.mem_of_getElem? (i := 1315) (by decide +kernel), List.mem_of_getElem? (i := 1316) (by decide +kernel)⟩
theorem lw_p61 : lw_okq (⟨"CarTangosModel", "slides", "()I"⟩, 22) := ⟨⟨by decide +kernel, by decide +kernel⟩, List.mem_of_getElem? (i := 939) (by decide +kernel), List.mem_of_getElem? (i := 1327) (by decide +kernel), List.mem_of_getElem? (i := 1328) (by decide +kernel)⟩
theorem lw_p62 : lw_okq (⟨"CarTangosModel", "noSlide", "(I)Z"⟩, 22) := ⟨⟨by decide +kernel, by decide +kernel⟩, List.mem_of_getElem? (i := 939) (by decide +kernel), List.mem_of_getElem? (i := 1339) (by decide +kernel), List.mem_of_getElem? (i := 1340) (by decide +kernel)⟩
theorem lw_p63 : lw_okq (⟨"CarTangosModel", "stepsBy", "(I)I"⟩, 22) := ⟨⟨by decide +kernel, by decide +kernel⟩, List.mem_of_getElem? (i := 939) (by decide +kernel), List.mem_of_getElem? (i := 1351) (by decide +kernel), List.mem_of_getElem? (i := 1352) (by decide +kernel)⟩
def lw_privs_4 : List (MethodName × Nat) := [(⟨"CarTangosModel", "next", "()I"⟩, 22), (⟨"CarTangosModel", "reads", "(Z)I"⟩, 22), (⟨"CarTangosModel", "part", "(I)Z"⟩, 22), (⟨"CarTangosModel", "car", "(I)Z"⟩, 22), (⟨"CarTangosModel", "digit", "(II)Z"⟩, 22), (⟨"CarTangosModel", "goesOn", "(I)Z"⟩, 22), (⟨"CarTangosModel", "cell", "()Z"⟩, 22), (⟨"CarTangosModel", "change", "()Z"⟩, 22), (⟨"CarTangosModel", "does", "(I)Z"⟩, 22), (⟨"CarTangosModel", "told", "(I)I"⟩, 22), (⟨"CarTangosModel", "noCar", "(I)Z"⟩, 22), (⟨"CarTangosModel", "carAt", "(I)I"⟩, 22), (⟨"CarTangosModel", "isFree", "()Z"⟩, 22), (⟨"CarTangosModel", "slides", "()I"⟩, 22), (⟨"CarTangosModel", "noSlide", "(I)Z"⟩, 22), (⟨"CarTangosModel", "stepsBy", "(I)I"⟩, 22)]
theorem lw_r4 : ∀ q ∈ lw_privs_4, lw_okq q := List.forall_mem_cons.mpr ⟨lw_p48, List.forall_mem_cons.mpr ⟨lw_p49, List.forall_mem_cons.mpr ⟨lw_p50, List.forall_mem_cons.mpr ⟨lw_p51, List.forall_mem_cons.mpr ⟨lw_p52, List.forall_mem_cons.mpr ⟨lw_p53, List.forall_mem_cons.mpr ⟨lw_p54, List.forall_mem_cons.mpr ⟨lw_p55, List.forall_mem_cons.mpr ⟨lw_p56, List.forall_mem_cons.mpr ⟨lw_p57, List.forall_mem_cons.mpr ⟨lw_p58, List.forall_mem_cons.mpr ⟨lw_p59, List.forall_mem_cons.mpr ⟨lw_p60, List.forall_mem_cons.mpr ⟨lw_p61, List.forall_mem_cons.mpr ⟨lw_p62, List.forall_mem_cons.mpr ⟨lw_p63, fun _ h => absurd h List.not_mem_nil⟩⟩⟩⟩⟩⟩⟩⟩⟩⟩⟩⟩⟩⟩⟩⟩
theorem lw_p64 : lw_okq (⟨"CarTangosModel", "burnt", "()I"⟩, 22) := ⟨⟨by decide +kernel, by decide +kernel⟩, List.mem_of_getElem? (i := 939) (by decide +kernel), List.mem_of_getElem? (i := 1359) (by decide +kernel), List.mem_of_getElem? (i := 1360) (by decide +kernel)⟩
theorem lw_p65 : lw_okq (⟨"CarTangosModel", "fewest", "(I)I"⟩, 22) := ⟨⟨by decide +kernel, by decide +kernel⟩, List.mem_of_getElem? (i := 939) (by decide +kernel), List.mem_of_getElem? (i := 1371) (by decide +kernel), List.mem_of_getElem? (i := 1372) (by decide +kernel)⟩
theorem lw_p66 : lw_okq (⟨"CarTangosModel", "from", "(II)V"⟩, 22) := ⟨⟨by decide +kernel, by decide +kernel⟩, List.mem_of_getElem? (i := 939) (by decide +kernel), List.mem_of_getElem? (i := 1375) (by decide +kernel), List.mem_of_getElem? (i := 1376) (by decide +kernel)⟩
theorem lw_p67 : lw_okq (⟨"CarTangosModel", "leastEnd", "()I"⟩, 22) := ⟨⟨by decide +kernel, by decide +kernel⟩, List.mem_of_getElem? (i := 939) (by decide +kernel), List.mem_of_getElem? (i := 1379) (by decide +kernel), List.mem_of_getElem? (i := 1380) (by decide +kernel)⟩
theorem lw_p68 : lw_okq (⟨"CarTangosModel", "fewestEnds", "()I"⟩, 22) := ⟨⟨by decide +kernel, by decide +kernel⟩, List.mem_of_getElem? (i := 939) (by decide +kernel), List.mem_of_getElem? (i := 1387) (by decide +kernel), List.mem_of_getElem? (i := 1388) (by decide +kernel)⟩
theorem lw_p69 : lw_okq (⟨"CarTangosModel", "cheapest", "()I"⟩, 22) := ⟨⟨by decide +kernel, by decide +kernel⟩, List.mem_of_getElem? (i := 939) (by decide +kernel), List.mem_of_getElem? (i := 1399) (by decide +kernel), List.mem_of_getElem? (i := 1400) (by decide +kernel)⟩
theorem lw_p70 : lw_okq (⟨"CarTangosModel", "cheapens", "(II)V"⟩, 22) := ⟨⟨by decide +kernel, by decide +kernel⟩, List.mem_of_getElem? (i := 939) (by decide +kernel), List.mem_of_getElem? (i := 1403) (by decide +kernel), List.mem_of_getElem? (i := 1404) (by decide +kernel)⟩
theorem lw_p71 : lw_okq (⟨"CarTangosModel", "cheaper", "(III)V"⟩, 22) := ⟨⟨by decide +kernel, by decide +kernel⟩, List.mem_of_getElem? (i := 939) (by decide +kernel), List.mem_of_getElem? (i := 1407) (by decide +kernel), List.mem_of_getElem? (i := 1408) (by decide +kernel)⟩
theorem lw_p72 : lw_okq (⟨"CarTangosModel", "nextSlide", "()I"⟩, 22) := ⟨⟨by decide +kernel, by decide +kernel⟩, List.mem_of_getElem? (i := 939) (by decide +kernel), List.mem_of_getElem? (i := 1419) (by decide +kernel), List.mem_of_getElem? (i := 1420) (by decide +kernel)⟩
theorem lw_p73 : lw_okq (⟨"CarTangosModel", "reached", "(I)I"⟩, 22) := ⟨⟨by decide +kernel, by decide +kernel⟩, List.mem_of_getElem? (i := 939) (by decide +kernel), List.mem_of_getElem? (i := 1431) (by decide +kernel), List.mem_of_getElem? (i := 1432) (by decide +kernel)⟩
theorem lw_p74 : lw_okq (⟨"CarTangosModel", "all", "()I"⟩, 22) := ⟨⟨by decide +kernel, by decide +kernel⟩, List.mem_of_getElem? (i := 939) (by decide +kernel), List.mem_of_getElem? (i := 1447) (by decide +kernel), List.mem_of_getElem? (i := 1448) (by decide +kernel)⟩
theorem lw_p75 : lw_okq (⟨"CarTangosModel", "share", "()D"⟩, 22) := ⟨⟨by decide +kernel, by decide +kernel⟩, List.mem_of_getElem? (i := 939) (by decide +kernel), List.mem_of_getElem? (i := 1467) (by decide +kernel), List.mem_of_getElem? (i := 1468) (by decide +kernel)⟩
theorem lw_p76 : lw_okq (⟨"CarTangosModel", "adds", "(J)V"⟩, 22) := ⟨⟨by decide +kernel, by decide +kernel⟩, List.mem_of_getElem? (i := 939) (by decide +kernel), List.mem_of_getElem? (i := 1476) (by decide +kernel), List.mem_of_getElem? (i := 1477) (by decide +kernel)⟩
theorem lw_p77 : lw_okq (⟨"CarTangosModel", "addsPlans", "()V"⟩, 22) := ⟨⟨by decide +kernel, by decide +kernel⟩, List.mem_of_getElem? (i := 939) (by decide +kernel), List.mem_of_getElem? (i := 1481) (by decide +kernel), List.mem_of_getElem? (i := 1482) (by decide +kernel)⟩
theorem lw_p78 : lw_okq (⟨"CarTangosModel", "addsCar", "(I)V"⟩, 22) := ⟨⟨by decide +kernel, by decide +kernel⟩, List.mem_of_getElem? (i := 939) (by decide +kernel), List.mem_of_getElem? (i := 1485) (by decide +kernel), List.mem_of_getElem? (i := 1486) (by decide +kernel)⟩
def lw_privs_5 : List (MethodName × Nat) := [(⟨"CarTangosModel", "burnt", "()I"⟩, 22), (⟨"CarTangosModel", "fewest", "(I)I"⟩, 22), (⟨"CarTangosModel", "from", "(II)V"⟩, 22), (⟨"CarTangosModel", "leastEnd", "()I"⟩, 22), (⟨"CarTangosModel", "fewestEnds", "()I"⟩, 22), (⟨"CarTangosModel", "cheapest", "()I"⟩, 22), (⟨"CarTangosModel", "cheapens", "(II)V"⟩, 22), (⟨"CarTangosModel", "cheaper", "(III)V"⟩, 22), (⟨"CarTangosModel", "nextSlide", "()I"⟩, 22), (⟨"CarTangosModel", "reached", "(I)I"⟩, 22), (⟨"CarTangosModel", "all", "()I"⟩, 22), (⟨"CarTangosModel", "share", "()D"⟩, 22), (⟨"CarTangosModel", "adds", "(J)V"⟩, 22), (⟨"CarTangosModel", "addsPlans", "()V"⟩, 22), (⟨"CarTangosModel", "addsCar", "(I)V"⟩, 22)]
theorem lw_r5 : ∀ q ∈ lw_privs_5, lw_okq q := List.forall_mem_cons.mpr ⟨lw_p64, List.forall_mem_cons.mpr ⟨lw_p65, List.forall_mem_cons.mpr ⟨lw_p66, List.forall_mem_cons.mpr ⟨lw_p67, List.forall_mem_cons.mpr ⟨lw_p68, List.forall_mem_cons.mpr ⟨lw_p69, List.forall_mem_cons.mpr ⟨lw_p70, List.forall_mem_cons.mpr ⟨lw_p71, List.forall_mem_cons.mpr ⟨lw_p72, List.forall_mem_cons.mpr ⟨lw_p73, List.forall_mem_cons.mpr ⟨lw_p74, List.forall_mem_cons.mpr ⟨lw_p75, List.forall_mem_cons.mpr ⟨lw_p76, List.forall_mem_cons.mpr ⟨lw_p77, List.forall_mem_cons.mpr ⟨lw_p78, fun _ h => absurd h List.not_mem_nil⟩⟩⟩⟩⟩⟩⟩⟩⟩⟩⟩⟩⟩⟩⟩
def lw_privs : List (MethodName × Nat) := lw_privs_1 ++ (lw_privs_2 ++ (lw_privs_3 ++ (lw_privs_4 ++ (lw_privs_5))))
def lw_tbl : List Cond := k2_sels lw_privs ++ tables_1
theorem lw_privs_ok : ∀ q ∈ lw_privs, lw_okq q := by
  show ∀ q ∈ lw_privs_1 ++ (lw_privs_2 ++ (lw_privs_3 ++ (lw_privs_4 ++ (lw_privs_5)))), lw_okq q
  exact List.forall_mem_append.mpr ⟨lw_r1, List.forall_mem_append.mpr ⟨lw_r2, List.forall_mem_append.mpr ⟨lw_r3, List.forall_mem_append.mpr ⟨lw_r4, lw_r5⟩⟩⟩⟩
/-- the streams that the claim lets the run draw from -/
abbrev lw_cs : List Choice := [Jvm.Choice.named "NaN.bits"]
theorem lw_bits : nanBits ∈ lw_cs := by first | decide | exact List.mem_cons_self | simp [lw_cs, nanBits]
end
section
/-! ===== BEGIN words of one list among another's, by their places ===== -/
theorem goodIn_r {big : List Cond} (ws : List Cond) (ps : List Nat) (hp : ws = ps.filterMap (fun i => big[i]?)) (h : ws.all goodWord = true) : GoodIn big ws := by
  intro w hw
  have h1 := List.all_eq_true.mp h w hw
  rw [hp] at hw
  obtain ⟨i, -, hi⟩ := List.mem_filterMap.mp hw
  have hm : w ∈ big := by first | exact List.mem_of_getElem? hi | exact List.getElem?_mem hi
  exact ⟨hm, good_of_word h1⟩
theorem goodIn_app {big a b : List Cond} (ha : GoodIn big a) (hb : GoodIn big b) : GoodIn big (a ++ b) := fun w h => (List.mem_append.mp h).elim (ha w) (hb w)
theorem goodIn_ca {big a b : List Cond} {c : Cond} (ha : GoodIn big (c :: a)) (hb : GoodIn big b) : GoodIn big (c :: (a ++ b)) := fun w h => (List.mem_cons.mp h).elim (fun e => ha w (List.mem_cons.mpr (Or.inl e))) (fun h => (List.mem_append.mp h).elim (fun h => ha w (List.mem_cons.mpr (Or.inr h))) (hb w))
theorem goodIn_sub {big ws : List Cond} (hm : ∀ w ∈ ws, w ∈ big) (h : ws.all goodWord = true) : GoodIn big ws := fun w hw => ⟨hm w hw, good_of_word (List.all_eq_true.mp h w hw)⟩
/-! ===== END ===== -/

/-! ===== BEGIN exceptions that leave a method, and their catching by the caller (launches without stack traces) ===== -/
section VXA
/-! The laws vx_back, vx_callV, vx_callS, vx_callSW, vx_throw0, vx_throwS follow proofs of the library, with one case more: JvmDerived/Free/Laws.lean (Back.of_free), Shelf42/LK1.lean (callV, callS), Shelf/KitTraced.lean (throwNew0V, throwNewS). -/
/-- where a method has thrown q: the class by its name, the cell, what was written, the world -/
def vx_T (XC : String → State → State → Prop) (st : State) (q : Addr) (t : State) (mc ms : Nat) (free : Addr → Prop) : Prop :=
  ∃ (E : String) (ce : Cell) (L : List Loc), XC E st t ∧ t.heap[q]? = some ce ∧ ce.vm = .none ∧ st.vm.findClass E = some ce.cls ∧ st.WarmedH t.vm ∧ st.sameButNew ({ t with vm := st.vm } : State) L mc ms ∧ ∀ z ∈ L, free z.base
def vx_Q (Qc : Array Value → State → Outcome → State → Prop) (XC : String → State → State → Prop) (mc ms : Nat) (free : Addr → Prop) : Array Value → State → Outcome → State → Prop := fun a st o t =>
  (Qc a st o t ∧ ∃ L, FrameEnd st o t L mc ms ∧ ∀ q ∈ L, free q.base) ∨ ∃ q, o = .threw q ∧ vx_T XC st q t mc ms free
/-- a callee that returns or throws -/
def vx_Met (l : Launch) (y : MethodName) (ws : List Cond) (rm : Room) (Pc : Array Value → State → Prop) (Qc : Array Value → State → Outcome → State → Prop) (XC : String → State → State → Prop) (mc ms : Nat) (free : Addr → Prop) : Prop :=
  MetFree l y (headSpec ws rm) Pc (fun _ _ _ _ _ => True) (vx_Q Qc XC mc ms free)
def vx_Post (XC : String → State → State → Prop) (mc ms : Nat) (free : Addr → Prop) : Pt → Array Value → Addr → Pt → Prop := fun A a q B =>
  ∃ (g : JFrame) (mk : MethodId) (t : State) (L : List Loc) (E : String) (ce : Cell), B.U.heap = t.heap ∧ B.U.vm = t.vm ∧ XC E (A.U.calling g mk a) t ∧ t.heap[q]? = some ce ∧ ce.vm = .none ∧ A.U.vm.findClass E = some ce.cls ∧ B.locs = A.locs ++ L ∧ (∀ z ∈ L, free z.base) ∧ B.cells = A.cells + mc ∧ B.slots = A.slots + ms
def vx_Back (l : Launch) (R : Room) (p : Program) (e : Env) (below : List Frame) (s : State) (sargs : Array Value) (y : MethodName) (len W9 : Nat)
    (Pre : Pt → Array Value → Prop) (Post : Pt → Array Value → Option Value → Pt → Prop) (PostX : Pt → Array Value → Addr → Pt → Prop) : Prop :=
  ∀ (m : MethodId) (meth : Method) (c : Code) (A : Pt) (g : JFrame) (ig : Instr) (mk : MethodId) (a : Array Value),
    Stand p l e R s m sargs below meth c A.U A.locs A.cells A.slots → g.method = m → g.locals.size = c.maxLocals → decode c.code g.pc = .ok (ig, len) →
    2 * g.monitorRoom + (g.stack.map fun v => v.category).sum ≤ W9 → A.U.methodNamed? y = some mk → Pre A a →
    (∃ (v : Option Value) (B : Pt), Stand p l e R s m sargs below meth c B.U B.locs B.cells B.slots ∧ Post A a v B ∧
      Steps p.tables e below (doInvoke e (A.U.setTop g) [] mk a).1 (B.U.setTop { g with pc := g.pc + len, stack := v.toList ++ g.stack })) ∨
    (∃ (q : Addr) (B : Pt), Stand p l e R s m sargs below meth c B.U B.locs B.cells B.slots ∧ PostX A a q B ∧
      Steps p.tables e below (doInvoke e (A.U.setTop g) [] mk a).1 ((B.U.setTop g).pushFrame (.throwing q)))
section Payer
variable {l : Launch} {R : Room} {p : Program} {e : Env} {below : List Frame} {s : State} {sargs : Array Value} {y : MethodName} {len W9 : Nat}
theorem vx_back {ws : List Cond} {rm : Room} {Pc : Array Value → State → Prop} {Qc : Array Value → State → Outcome → State → Prop} {XC : String → State → State → Prop} {mc ms : Nat} {free : Addr → Prop} {bytes : ByteArray} {maxL : Nat} {ret : Option FieldType}
    (hM : vx_Met l y ws rm Pc Qc XC mc ms free) (hblind : FrameBlind Pc) (hrc : rm.cells = mc) (hrs : rm.slots = ms)
    (hframes : rm.frames + 1 ≤ R.frames) (hlocals : W9 + (maxL + 11) + rm.locals ≤ R.locals)
    (hws : ∀ w ∈ ws, ∀ a' U, s.WarmedH U.vm → w.before a' U = true) (hcode : Cond.code y bytes maxL ret ∈ ws) (hinit : ∀ a' U, s.WarmedH U.vm → (Cond.initialized y.cls).before a' U = true) :
    vx_Back l R p e below s sargs y len W9 (PreOf R mc ms Pc) (PostOf Qc mc ms free) (vx_Post XC mc ms free) := by
  intro m meth c A g ig mk a X hg hsize hdg hW hn hp
  have h1 : (headSpec ws rm).pre.before a A.U = true := atoms_intro fun w hw => hws w hw _ _ X.warmed
  have h2 : (Cond.code y bytes maxL ret).before a A.U = true := hws _ hcode _ _ X.warmed
  have h3 : (Cond.initialized y.cls).before a A.U = true := hinit _ _ X.warmed
  have h4 : A.cells + (headSpec ws rm).room.cells ≤ R.cells := by rw [show (headSpec ws rm).room.cells = mc from hrc]; exact hp.1
  have h5 : A.slots + (headSpec ws rm).room.slots ≤ R.slots := by rw [show (headSpec ws rm).room.slots = ms from hrs]; exact hp.2.1
  have hPc : Pc a (A.U.calling g mk a) := hblind _ _ _ _ hp.2.2
  obtain ⟨U, Ls, c0, s0⟩ := A
  dsimp only [Pt.U, Pt.locs, Pt.cells, Pt.slots] at h1 h2 h3 h4 h5 X hn hPc ⊢
  obtain ⟨methY, cY, hmY, hcY, -, hlY, -, -, -, -⟩ := Cond.code_spec hn h2
  obtain ⟨kY, hkY, -⟩ := className_of_methodNamed hn
  have hinitY : kY.init = .initialized := Cond.initialized_spec (findClass_of_methodNamed hn) hkY h3
  have h : At U g.method c below := by rw [hg]; exact X.here
  have hlocals9 : W9 + (maxL + 11) + (headSpec ws rm).room.locals ≤ R.locals := hlocals
  have happ : (headSpec ws rm).appliesLoose y e.platform (U.calling g mk a) = true :=
    Spec.appliesLoose_calling (g := g) h hdg hn hkY hinitY
      (X.room_calling (g := g) (R' := (headSpec ws rm).room) hsize hmY hcY hframes (by rw [hlY]; omega) h4 h5) h1
  obtain ⟨mid, hmid⟩ := h.above
  have hfr : (U.setTop g).frames = (.java g :: mid) ++ below := by rw [State.frames_setTop' g h.top, hmid]; rfl
  obtain ⟨o, s₂, hsteps, -, hend, hq⟩ := Steps.callFree hM p X.admits X.cas X.clock (acts := []) hfr happ hPc trivial
  have hq' : vx_Q Qc XC mc ms free a (U.calling g mk a) o s₂ := hq
  rw [State.frames_setTop' g h.top] at hend
  obtain ⟨g₀, hg0⟩ := Option.isSome_iff_exists.mp h.top
  obtain ⟨r, hr⟩ := State.topJava?_eq_some.mp hg0
  have hr' : (({ U with heap := s₂.heap, slotsUsed := s₂.slotsUsed } : State).setVm s₂.vm).frames = .java g₀ :: r := hr
  rcases hq' with ⟨hqc, L, hfe, hL⟩ | ⟨q, rfl, E, ce, L, hx, hce, hcv, hcl, hW₂, hsm, hL⟩
  · obtain ⟨⟨v, rfl⟩, hW₂, e2, q2, q3, q4, q5, q6⟩ := id hfe
    have e3 : s₂ = ({ (U.calling g mk a).setFrames s₂.frames with heap := s₂.heap, slotsUsed := s₂.slotsUsed } : State).setVm s₂.vm := by
      have : s₂ = ({ s₂ with vm := (U.calling g mk a).vm } : State).setVm s₂.vm := rfl
      rw [e2] at this
      exact this
    obtain ⟨c₂, i₂, len₂, hc₂, hd₂, hf₂⟩ := hend
    have hW' : U.WarmedH s₂.vm := hW₂
    have hcc : c₂ = c := by
      have h1 : s₂.code? g.method = U.code? g.method := by
        rw [State.code?_eq, State.code?_eq, hW'.alike.method?]
      exact Option.some.inj (hc₂.symm.trans (h1.trans h.code))
    subst hcc
    have hlen : len₂ = len := by rw [hdg] at hd₂; cases hd₂; rfl
    subst hlen
    have hs₂ : s₂ = (({ U with heap := s₂.heap, slotsUsed := s₂.slotsUsed } : State).setVm s₂.vm).setTop { g with pc := g.pc + len₂, stack := v.toList ++ g.stack } := by
      refine e3.trans ?_
      rw [hf₂, State.calling_eq h.top, State.setFrames_setFrames, State.setTop_of_frames _ hr', hr]
      rfl
    have hsame : U.sameButNew ({ U with heap := s₂.heap, slotsUsed := s₂.slotsUsed } : State) L mc ms := by
      refine ⟨?_, q2, q3, q4, q5, q6⟩
      obtain ⟨t, ht, -⟩ := State.frames_cons hr
      show ({ U with heap := s₂.heap, slotsUsed := s₂.slotsUsed } : State) = { U.setFrames U.frames with heap := s₂.heap, slotsUsed := s₂.slotsUsed }
      rw [State.setFrames_self ht]
    subst hg
    refine Or.inl ⟨v, ⟨(({ U with heap := s₂.heap, slotsUsed := s₂.slotsUsed } : State).setVm s₂.vm), Ls ++ L, c0 + mc, s0 + ms⟩,
      ⟨X.admits, X.cas, X.clock, X.frames, X.room, X.hears, X.method, X.code, (X.here.setHeapUsed s₂.heap s₂.slotsUsed).setVm hW'.alike, X.tail, State.WarmedH.trans X.warmed hW', X.limits, X.bytes, X.same.trans (hsame.setVm s.vm)⟩,
      ⟨g, mk, s₂, L, rfl, rfl, hqc, rfl, hL, rfl, rfl⟩, ?_⟩
    show Steps p.tables e below _ ((({ U with heap := s₂.heap, slotsUsed := s₂.slotsUsed } : State).setVm s₂.vm).setTop { g with pc := g.pc + len₂, stack := v.toList ++ g.stack })
    rw [← hs₂]
    exact hsteps
  · obtain ⟨e2, q2, q3, q4, q5, q6⟩ := id hsm
    have e3 : s₂ = ({ (U.calling g mk a).setFrames s₂.frames with heap := s₂.heap, slotsUsed := s₂.slotsUsed } : State).setVm s₂.vm := by
      have : s₂ = ({ s₂ with vm := (U.calling g mk a).vm } : State).setVm s₂.vm := rfl
      rw [e2] at this
      exact this
    have hf₂ : s₂.frames = .throwing q :: .java g :: U.frames.tail := hend
    have hW' : U.WarmedH s₂.vm := hW₂
    have hs₂ : s₂ = ((({ U with heap := s₂.heap, slotsUsed := s₂.slotsUsed } : State).setVm s₂.vm).setTop g).pushFrame (.throwing q) := by
      refine e3.trans ?_
      rw [hf₂, State.calling_eq h.top, State.setFrames_setFrames, State.pushFrame, State.frames_setTop _ hr', State.setTop_of_frames _ hr', State.setFrames_setFrames, hr]
      rfl
    have hsame : U.sameButNew ({ U with heap := s₂.heap, slotsUsed := s₂.slotsUsed } : State) L mc ms := by
      refine ⟨?_, q2, q3, q4, q5, q6⟩
      obtain ⟨t, ht, -⟩ := State.frames_cons hr
      show ({ U with heap := s₂.heap, slotsUsed := s₂.slotsUsed } : State) = { U.setFrames U.frames with heap := s₂.heap, slotsUsed := s₂.slotsUsed }
      rw [State.setFrames_self ht]
    subst hg
    refine Or.inr ⟨q, ⟨(({ U with heap := s₂.heap, slotsUsed := s₂.slotsUsed } : State).setVm s₂.vm), Ls ++ L, c0 + mc, s0 + ms⟩,
      ⟨X.admits, X.cas, X.clock, X.frames, X.room, X.hears, X.method, X.code, (X.here.setHeapUsed s₂.heap s₂.slotsUsed).setVm hW'.alike, X.tail, State.WarmedH.trans X.warmed hW', X.limits, X.bytes, X.same.trans (hsame.setVm s.vm)⟩,
      ⟨g, mk, s₂, L, E, ce, rfl, rfl, hx, hce, hcv, hcl, rfl, hL, rfl, rfl⟩, ?_⟩
    show Steps p.tables e below _ (((({ U with heap := s₂.heap, slotsUsed := s₂.slotsUsed } : State).setVm s₂.vm).setTop g).pushFrame (.throwing q))
    rw [← hs₂]
    exact hsteps
end Payer
section Calls
variable {p : Program} {l : Launch} {e : Env} {R : Room} {s : State} {m : MethodId} {args : Array Value} {below : List Frame} {meth : Method} {c : Code} {T : State} {locs : List Loc} {cells slots : Nat}
theorem vx_callV (X : Stand p l e R s m args below meth c T locs cells slots) (hexec : p.tables.exec = Jvm.exec) {own C : String} {index : Nat} {y : MethodName} {bytes : ByteArray} {maxL : Nat} {ret : Option FieldType}
    (hown : s.vm.findClass own = some m.cls) (hlink : (Cond.methodLink own index y).before args s = true) (hinst : (Cond.instanceMethod y).before args s = true) (hsel : (Cond.selects C y y).before args s = true)
    (hcode : (Cond.code y bytes maxL ret).before args s = true) (hy : y.cls ≠ "java/lang/invoke/MethodHandle" ∧ y.cls ≠ "java/lang/invoke/VarHandle")
    {W9 : Nat} {Pre : Pt → Array Value → Prop} {Post : Pt → Array Value → Option Value → Pt → Prop} {PostX : Pt → Array Value → Addr → Pt → Prop} (hK : vx_Back l R p e below s args y 3 W9 Pre Post PostX)
    {b : Addr} {cellB : Cell} (hcell : T.heap[b]? = some cellB) (hobj : cellB.vm.isStatics = false) (hcls : s.vm.findClass C = some cellB.cls)
    {g : JFrame} (hg : g.method = m) (hsize : g.locals.size = c.maxLocals) {argsL rest : List Value} (hlen : ∀ sig, parseMethodDescriptor y.desc = some sig → argsL.length = sig.parameters.length)
    (hstack : g.stack = argsL.reverse ++ .ref b :: rest) (hW : 2 * g.monitorRoom + (rest.map fun v => v.category).sum ≤ W9) (hdg : decode c.code g.pc = .ok (.invokevirtual index, 3))
    (hpre : ∀ vm₁, s.WarmedH vm₁ → Pre ⟨T.setVm vm₁, locs, cells, slots⟩ (Value.ref b :: argsL).toArray) :
    (∃ (v : Option Value) (vm₁ : Vm) (B : Pt), s.WarmedH vm₁ ∧ Stand p l e R s m args below meth c B.U B.locs B.cells B.slots ∧ Post ⟨T.setVm vm₁, locs, cells, slots⟩ (Value.ref b :: argsL).toArray v B ∧
      ∀ target, Steps p.tables e below (B.U.setTop { g with pc := g.pc + 3, stack := v.toList ++ rest }) target → Steps p.tables e below (T.setTop g) target) ∨
    (∃ (q : Addr) (vm₁ : Vm) (B : Pt), s.WarmedH vm₁ ∧ Stand p l e R s m args below meth c B.U B.locs B.cells B.slots ∧ PostX ⟨T.setVm vm₁, locs, cells, slots⟩ (Value.ref b :: argsL).toArray q B ∧
      Steps p.tables e below (T.setTop g) ((B.U.setTop { g with stack := rest }).pushFrame (.throwing q))) := by
  obtain ⟨mk, methM, hnamed, hmethM, hstM, habM⟩ := Cond.instanceMethod_spec hinst
  obtain ⟨methM', cM, hmethM', -, -, -, -, -, -, hsigM⟩ := Cond.code_spec hnamed hcode
  cases hmethM.symm.trans hmethM'
  obtain ⟨c2, r2, m2, q1, q2, q3, q4, kP, hkP, hkPi⟩ := Cond.selects_spec hsel
  cases hcls.symm.trans q1
  cases (State.methodFound?_of_named hnamed hy).symm.trans q2
  cases hnamed.symm.trans q3
  have hselP : selectMethod e.platform s.vm cellB.cls mk = .method mk := by rw [Launch.admits_selectMethod X.admits]; exact q4
  obtain ⟨vm₁, X₁, hstep₁⟩ := X.invokevirtual hexec hown hlink hnamed hmethM hstM hkP hkPi hy (a := b) (cell := cellB) hcell
    (fun z h => by rw [h] at hobj; cases hobj) hselP hmethM habM hkP hkPi (g := g) hg (argsL := argsL) (rest := rest) (hlen _ hsigM) hstack hdg
  rcases hK m meth c ⟨T.setVm vm₁, locs, cells, slots⟩ { g with stack := rest } (.invokevirtual index) mk (Value.ref b :: argsL).toArray X₁ hg hsize hdg hW (X₁.named hnamed) (hpre vm₁ X₁.warmed) with ⟨v, B, X', hpost, hsteps⟩ | ⟨q, B, X', hpost, hsteps⟩
  · exact Or.inl ⟨v, vm₁, B, X₁.warmed, X', hpost, fun target h => hstep₁ _ fun acts => by rw [doInvoke_state]; exact hsteps.trans h⟩
  · exact Or.inr ⟨q, vm₁, B, X₁.warmed, X', hpost, hstep₁ _ fun acts => by rw [doInvoke_state]; exact hsteps⟩
theorem vx_callS (X : Stand p l e R s m args below meth c T locs cells slots) (hexec : p.tables.exec = Jvm.exec) {own : String} {index : Nat} {y : MethodName} {bytes : ByteArray} {maxL : Nat} {ret : Option FieldType}
    (hown : s.vm.findClass own = some m.cls) (hlink : (Cond.methodLink own index y).before args s = true) (hstat : (Cond.static y).before args s = true) (hinit : (Cond.initialized y.cls).before args s = true)
    (hcode : (Cond.code y bytes maxL ret).before args s = true) (hy : y.cls ≠ "java/lang/invoke/MethodHandle" ∧ y.cls ≠ "java/lang/invoke/VarHandle")
    {W9 : Nat} {Pre : Pt → Array Value → Prop} {Post : Pt → Array Value → Option Value → Pt → Prop} {PostX : Pt → Array Value → Addr → Pt → Prop} (hK : vx_Back l R p e below s args y 3 W9 Pre Post PostX)
    {g : JFrame} (hg : g.method = m) (hsize : g.locals.size = c.maxLocals) {argsL rest : List Value} (hlen : ∀ sig, parseMethodDescriptor y.desc = some sig → argsL.length = sig.parameters.length)
    (hstack : g.stack = argsL.reverse ++ rest) (hW : 2 * g.monitorRoom + (rest.map fun v => v.category).sum ≤ W9) (hdg : decode c.code g.pc = .ok (.invokestatic index, 3))
    (hpre : ∀ vm₁, s.WarmedH vm₁ → Pre ⟨T.setVm vm₁, locs, cells, slots⟩ argsL.toArray) :
    (∃ (v : Option Value) (vm₁ : Vm) (B : Pt), s.WarmedH vm₁ ∧ Stand p l e R s m args below meth c B.U B.locs B.cells B.slots ∧ Post ⟨T.setVm vm₁, locs, cells, slots⟩ argsL.toArray v B ∧
      ∀ target, Steps p.tables e below (B.U.setTop { g with pc := g.pc + 3, stack := v.toList ++ rest }) target → Steps p.tables e below (T.setTop g) target) ∨
    (∃ (q : Addr) (vm₁ : Vm) (B : Pt), s.WarmedH vm₁ ∧ Stand p l e R s m args below meth c B.U B.locs B.cells B.slots ∧ PostX ⟨T.setVm vm₁, locs, cells, slots⟩ argsL.toArray q B ∧
      Steps p.tables e below (T.setTop g) ((B.U.setTop { g with stack := rest }).pushFrame (.throwing q))) := by
  obtain ⟨mk, hnamed⟩ := Cond.code_named hcode
  obtain ⟨methM, cM, hmethM, -, -, -, -, -, -, hsigM⟩ := Cond.code_spec hnamed hcode
  have hstatic : methM.isStatic = true := Cond.static_spec hnamed hmethM hstat
  obtain ⟨kP, hkP, -⟩ := className_of_methodNamed hnamed
  have hinitP : kP.init = .initialized := Cond.initialized_spec (findClass_of_methodNamed hnamed) hkP hinit
  obtain ⟨vm₁, X₁, hstep₁⟩ := X.invokestatic hexec hown hlink hnamed hmethM hstatic hkP hinitP hy (g := g) hg (argsL := argsL) (rest := rest) (hlen _ hsigM) hstack hdg
  rcases hK m meth c ⟨T.setVm vm₁, locs, cells, slots⟩ { g with stack := rest } (.invokestatic index) mk argsL.toArray X₁ hg hsize hdg hW (X₁.named hnamed) (hpre vm₁ X₁.warmed) with ⟨v, B, X', hpost, hsteps⟩ | ⟨q, B, X', hpost, hsteps⟩
  · exact Or.inl ⟨v, vm₁, B, X₁.warmed, X', hpost, fun target h => hstep₁ _ fun acts => by rw [doInvoke_state]; exact hsteps.trans h⟩
  · exact Or.inr ⟨q, vm₁, B, X₁.warmed, X', hpost, hstep₁ _ fun acts => by rw [doInvoke_state]; exact hsteps⟩
end Calls
theorem vx_cls {s : State} {T : State} {vm₁ : Vm} {E : String} {k : ClassId} (hW : s.WarmedH vm₁) (h : (T.setVm vm₁).vm.findClass E = some k) : s.vm.findClass E = some k := by
  have h1 : vm₁.findClass E = some k := h
  rw [hW.alike.findClass] at h1
  exact h1
/-- the method's frame g, with q thrown over it -/
def vx_W (p : Program) (l : Launch) (e : Env) (R : Room) (s : State) (m : MethodId) (args : Array Value) (below : List Frame) (meth : Method) (c : Code) (H : Heap) (locs : List Loc) (cells slots : Nat) (Q : State → Prop) (g : JFrame) (q : Addr) : Prop :=
  ∀ T : State, T.heap = H → Stand p l e R s m args below meth c T locs cells slots → ∃ t, Steps p.tables e below ((T.setTop g).pushFrame (.throwing q)) t ∧ Q t
def vx_Run (p : Program) (l : Launch) (e : Env) (R : Room) (s : State) (m : MethodId) (args : Array Value) (below : List Frame) (meth : Method) (c : Code) (H : Heap) (locs : List Loc) (cells slots mc ms : Nat) (g : JFrame) (rest : List Value) (Qa : State → Outcome → State → Prop) (XC : String → State → State → Prop) (free : Addr → Prop) : Prop :=
  ∀ T : State, T.heap = H → Stand p l e R s m args below meth c T locs cells slots →
    (∃ (v : Option Value) (st₀ t T' : State) (L : List Loc), st₀.heap = H ∧ Stand p l e R s m args below meth c T' (locs ++ L) (cells + mc) (slots + ms) ∧ (∀ q ∈ L, free q.base) ∧ T'.heap = t.heap ∧ T'.vm = t.vm ∧ Qa st₀ (.returned v) t ∧
      Goes p e below T g T' { g with pc := g.pc + 3, stack := v.toList ++ rest }) ∨
    (∃ (q : Addr) (st₀ t T' : State) (L : List Loc) (E : String) (ce : Cell), st₀.heap = H ∧ Stand p l e R s m args below meth c T' (locs ++ L) (cells + mc) (slots + ms) ∧ (∀ z ∈ L, free z.base) ∧ T'.heap = t.heap ∧ T'.vm = t.vm ∧ XC E st₀ t ∧ t.heap[q]? = some ce ∧ ce.vm = .none ∧ s.vm.findClass E = some ce.cls ∧
      Steps p.tables e below (T.setTop g) ((T'.setTop { g with stack := rest }).pushFrame (.throwing q)))
def vx_X {S : Type} (px : S → Prop) (B : String → S → State → Prop) (A : Nat → Prop) : String → State → State → Prop := fun E st t => ∃ u : S, px u ∧ B E u t ∧ va_F A st t
section Runs
variable {p : Program} {l : Launch} {e : Env} {R : Room} {s : State} {m : MethodId} {args : Array Value} {below : List Frame} {meth : Method} {c : Code} {H : Heap} {locs : List Loc} {cells slots : Nat}
variable {y : MethodName} {bytes cc : ByteArray} {maxL nL mc ms n index : Nat} {ret : Option FieldType} {ws : List Cond} {rm : Room} {Pc : Array Value → State → Prop} {Qc : Array Value → State → Outcome → State → Prop} {XC : String → State → State → Prop} {free : Addr → Prop} {Ts : List Cond} {own C : String} {b : Addr} {As rest : List Value} {g : JFrame}
theorem vx_callBack (cb : CallB R s args own index y bytes maxL ret ws rm mc ms n) (hM : vx_Met l y ws rm Pc Qc XC mc ms free) (hbl : FrameBlind Pc) : vx_Back l R p e below s args y 3 8 (PreOf R mc ms Pc) (PostOf Qc mc ms free) (vx_Post XC mc ms free) := by
  obtain ⟨hrc, hrs, hfr, hlo, hws, hcw, -, hini, -⟩ := cb
  exact vx_back (bytes := bytes) (maxL := maxL) (ret := ret) hM hbl hrc hrs hfr hlo hws hcw (fun a' U hW => word_at hW (Or.inl (by first | rfl | simp [Cond.onTables, Cond.keeps, Cond.steady])) hini)
theorem vx_runV (S : CallFix p m c cc nL s args Ts own) (hM : vx_Met l y ws rm Pc Qc XC mc ms free) (cw : CallW R s args own C index y bytes maxL ret ws rm mc ms n) (hp : PreV s H C b Pc As)
    (hg : g.method = m) (hn : As.length = n) (hsize : g.locals.size = nL) (hstack : g.stack = As.reverse ++ .ref b :: rest) (hW : 2 * g.monitorRoom + (rest.map fun v => v.category).sum ≤ 8) (hdg : decode cc g.pc = .ok (.invokevirtual index, 3)) (hf : cells + mc ≤ R.cells ∧ slots + ms ≤ R.slots) :
    vx_Run p l e R s m args below meth c H locs cells slots mc ms g rest (Qc (Value.ref b :: As).toArray) XC free := by
  have hK : vx_Back l R p e below s args y 3 8 (PreOf R mc ms Pc) (PostOf Qc mc ms free) (vx_Post XC mc ms free) := vx_callBack cw.1 hM hp.1
  obtain ⟨⟨-, -, -, -, -, -, hcode, -, hy, hlen, hl⟩, hin, hse⟩ := cw
  obtain ⟨hx, hb, hml, ho, -⟩ := S
  obtain ⟨-, ⟨cellB, hcB, hoB, hclB⟩, hPc⟩ := hp
  intro T hT X
  rcases vx_callV X hx (C := C) (bytes := bytes) (maxL := maxL) (ret := ret) ho hl hin hse hcode hy hK (by rw [hT]; exact hcB) hoB hclB hg (hsize.trans hml.symm) (argsL := As) (rest := rest) (fun sig h => hn.trans (hlen sig h)) hstack hW (by rw [hb]; exact hdg)
    (fun vm₁ hW₁ => ⟨hf.1, hf.2, hPc (T.setVm vm₁) hT hW₁⟩) with ⟨v, vm₁, ⟨U', l2, c2, s2⟩, hW₁, X', ⟨g', mk, t, L, e1, e2, hq, h1, hL, h2, h3⟩, st⟩ | ⟨q, vm₁, ⟨U', l2, c2, s2⟩, hW₁, X', ⟨g', mk, t, L, E, ce, e1, e2, hq, hce, hcv, hcl, h1, hL, h2, h3⟩, st⟩
  · dsimp only [Pt.U, Pt.locs, Pt.cells, Pt.slots] at X' e1 e2 h1 h2 h3 st
    subst h1; subst h2; subst h3
    exact Or.inl ⟨v, (T.setVm vm₁).calling g' mk (Value.ref b :: As).toArray, t, U', L, hT, X', hL, e1, e2, hq, st⟩
  · dsimp only [Pt.U, Pt.locs, Pt.cells, Pt.slots] at X' e1 e2 h1 h2 h3 st hcl
    subst h1; subst h2; subst h3
    exact Or.inr ⟨q, (T.setVm vm₁).calling g' mk (Value.ref b :: As).toArray, t, U', L, E, ce, hT, X', hL, e1, e2, hq, hce, hcv, vx_cls hW₁ hcl, st⟩
theorem vx_runS (S : CallFix p m c cc nL s args Ts own) (hM : vx_Met l y ws rm Pc Qc XC mc ms free) (cw : CallB R s args own index y bytes maxL ret ws rm mc ms n ∧ (Cond.static y).before args s = true) (hp : PreS s H Pc As)
    (hg : g.method = m) (hn : As.length = n) (hsize : g.locals.size = nL) (hstack : g.stack = As.reverse ++ rest) (hW : 2 * g.monitorRoom + (rest.map fun v => v.category).sum ≤ 8) (hdg : decode cc g.pc = .ok (.invokestatic index, 3)) (hf : cells + mc ≤ R.cells ∧ slots + ms ≤ R.slots) :
    vx_Run p l e R s m args below meth c H locs cells slots mc ms g rest (Qc As.toArray) XC free := by
  have hK : vx_Back l R p e below s args y 3 8 (PreOf R mc ms Pc) (PostOf Qc mc ms free) (vx_Post XC mc ms free) := vx_callBack cw.1 hM hp.1
  obtain ⟨⟨-, -, -, -, -, -, hcode, hini, hy, hlen, hl⟩, hstt⟩ := cw
  obtain ⟨hx, hb, hml, ho, -⟩ := S
  intro T hT X
  rcases vx_callS X hx (bytes := bytes) (maxL := maxL) (ret := ret) ho hl hstt hini hcode hy hK hg (hsize.trans hml.symm) (argsL := As) (rest := rest) (fun sig h => hn.trans (hlen sig h)) hstack hW (by rw [hb]; exact hdg)
    (fun vm₁ hW₁ => ⟨hf.1, hf.2, hp.2 (T.setVm vm₁) hT hW₁⟩) with ⟨v, vm₁, ⟨U', l2, c2, s2⟩, hW₁, X', ⟨g', mk, t, L, e1, e2, hq, h1, hL, h2, h3⟩, st⟩ | ⟨q, vm₁, ⟨U', l2, c2, s2⟩, hW₁, X', ⟨g', mk, t, L, E, ce, e1, e2, hq, hce, hcv, hcl, h1, hL, h2, h3⟩, st⟩
  · dsimp only [Pt.U, Pt.locs, Pt.cells, Pt.slots] at X' e1 e2 h1 h2 h3 st
    subst h1; subst h2; subst h3
    exact Or.inl ⟨v, (T.setVm vm₁).calling g' mk As.toArray, t, U', L, hT, X', hL, e1, e2, hq, st⟩
  · dsimp only [Pt.U, Pt.locs, Pt.cells, Pt.slots] at X' e1 e2 h1 h2 h3 st hcl
    subst h1; subst h2; subst h3
    exact Or.inr ⟨q, (T.setVm vm₁).calling g' mk As.toArray, t, U', L, E, ce, hT, X', hL, e1, e2, hq, hce, hcv, vx_cls hW₁ hcl, st⟩
end Runs
section Rows
variable {p : Program} {l : Launch} {e : Env} {R : Room} {s : State} {m : MethodId} {args : Array Value} {below : List Frame} {meth : Method} {c : Code} {H : Heap} {locs : List Loc} {cells slots : Nat} {Q : State → Prop}
variable {mc ms : Nat} {free : Addr → Prop} {A0 A1 : Nat → Prop} {H0 : Heap} {a : Array Value} {pc : Nat} {ls : Array Slot} {st0 rest : List Value}
theorem vx_keep {st₀ t T' : State} {L : List Loc} (h0 : st₀.heap = H) (e1 : T'.heap = t.heap) (hS : va_S A0 H0 H locs) (hA : ∀ q, q < H.size → A1 q → A0 q) (hf : ∀ q, free q → A0 q) (hL : ∀ q ∈ L, free q.base) (hF : va_F A1 st₀ t) :
    H.size ≤ T'.heap.size ∧ (∀ q : Nat, q < H.size → ¬ A1 q → T'.heap[q]? = H[q]?) ∧ va_S A0 H0 T'.heap (locs ++ L) := by
  obtain ⟨hz, hk⟩ := hF
  rw [h0] at hz hk
  exact ⟨by rw [e1]; exact hz, fun q h1 h2 => by rw [e1]; exact hk q h1 h2,
    ⟨Nat.le_trans hS.1 (by rw [e1]; exact hz), fun q h1 h2 => by rw [e1, hk q (Nat.lt_of_lt_of_le h1 hS.1) (fun z => h2 (hA q (Nat.lt_of_lt_of_le h1 hS.1) z))]; exact hS.2.1 q h1 h2, fun q hq => by
      rcases List.mem_append.mp hq with h | h
      · exact hS.2.2 q h
      · exact hf _ (hL q h)⟩⟩
theorem vx_calli {S SX : Type} {post : Int32 → S → Prop} {px : SX → Prop} {B : S → State → Prop} {BX : String → SX → State → Prop} {AX : Nat → Prop} (hr : vx_Run p l e R s m args below meth c H locs cells slots mc ms (F0 m pc ls st0) rest (va_Qi post B A1 a) (vx_X px BX AX) free) (hS : va_S A0 H0 H locs) (hA : ∀ q, q < H.size → A1 q → A0 q) (hf : ∀ q, free q → A0 q) (hAX : ∀ q, q < H.size → AX q → A0 q)
    (kx : ∀ (E : String) (ce : Cell) (q9 : Addr) (u : SX) (t : State) (H1 : Heap) (locs1 : List Loc), t.heap = H1 → s.vm.Alike t.vm → px u → BX E u t → H.size ≤ H1.size → (∀ q : Nat, q < H.size → ¬ AX q → H1[q]? = H[q]?) → va_S A0 H0 H1 locs1 → H1[q9]? = some ce → ce.vm = .none → s.vm.findClass E = some ce.cls → vx_W p l e R s m args below meth c H1 locs1 (cells + mc) (slots + ms) Q (F0 m pc ls rest) q9)
    (kk : ∀ (r : Int32) (u : S) (t : State) (H1 : Heap) (locs1 : List Loc), t.heap = H1 → s.vm.Alike t.vm → post r u → B u t → H.size ≤ H1.size → (∀ q : Nat, q < H.size → ¬ A1 q → H1[q]? = H[q]?) → va_S A0 H0 H1 locs1 → W p l e R s m args below meth c H1 locs1 (cells + mc) (slots + ms) Q (F0 m (pc + 3) ls (.int r :: rest))) : W p l e R s m args below meth c H locs cells slots Q (F0 m pc ls st0) := by
  intro T hT X
  rcases hr T hT X with ⟨v, st₀, t, T', L, h0, X', hL, e1, e2, ⟨⟨r, u, hv, hp, hb⟩, hF⟩, st⟩ | ⟨q, st₀, t, T', L, E, ce, h0, X', hL, e1, e2, ⟨u, hp, hb, hF⟩, hce, hcv, hcl, st⟩
  · cases hv
    obtain ⟨k1, k2, k3⟩ := vx_keep h0 e1 hS hA hf hL hF
    obtain ⟨t2, a1, b1⟩ := kk r u t T'.heap (locs ++ L) e1.symm (by rw [← e2]; exact X'.warmed.alike) hp hb k1 k2 k3 T' rfl X'
    exact ⟨t2, st t2 a1, b1⟩
  · obtain ⟨k1, k2, k3⟩ := vx_keep h0 e1 hS hAX hf hL hF
    obtain ⟨t2, a1, b1⟩ := kx E ce q u t T'.heap (locs ++ L) e1.symm (by rw [← e2]; exact X'.warmed.alike) hp hb k1 k2 k3 (by rw [e1]; exact hce) hcv hcl T' rfl X'
    exact ⟨t2, st.trans a1, b1⟩
theorem vx_calll {S SX : Type} {post : Int64 → S → Prop} {px : SX → Prop} {B : S → State → Prop} {BX : String → SX → State → Prop} {AX : Nat → Prop} (hr : vx_Run p l e R s m args below meth c H locs cells slots mc ms (F0 m pc ls st0) rest (va_Ql post B A1 a) (vx_X px BX AX) free) (hS : va_S A0 H0 H locs) (hA : ∀ q, q < H.size → A1 q → A0 q) (hf : ∀ q, free q → A0 q) (hAX : ∀ q, q < H.size → AX q → A0 q)
    (kx : ∀ (E : String) (ce : Cell) (q9 : Addr) (u : SX) (t : State) (H1 : Heap) (locs1 : List Loc), t.heap = H1 → s.vm.Alike t.vm → px u → BX E u t → H.size ≤ H1.size → (∀ q : Nat, q < H.size → ¬ AX q → H1[q]? = H[q]?) → va_S A0 H0 H1 locs1 → H1[q9]? = some ce → ce.vm = .none → s.vm.findClass E = some ce.cls → vx_W p l e R s m args below meth c H1 locs1 (cells + mc) (slots + ms) Q (F0 m pc ls rest) q9)
    (kk : ∀ (r : Int64) (u : S) (t : State) (H1 : Heap) (locs1 : List Loc), t.heap = H1 → s.vm.Alike t.vm → post r u → B u t → H.size ≤ H1.size → (∀ q : Nat, q < H.size → ¬ A1 q → H1[q]? = H[q]?) → va_S A0 H0 H1 locs1 → W p l e R s m args below meth c H1 locs1 (cells + mc) (slots + ms) Q (F0 m (pc + 3) ls (.long r :: rest))) : W p l e R s m args below meth c H locs cells slots Q (F0 m pc ls st0) := by
  intro T hT X
  rcases hr T hT X with ⟨v, st₀, t, T', L, h0, X', hL, e1, e2, ⟨⟨r, u, hv, hp, hb⟩, hF⟩, st⟩ | ⟨q, st₀, t, T', L, E, ce, h0, X', hL, e1, e2, ⟨u, hp, hb, hF⟩, hce, hcv, hcl, st⟩
  · cases hv
    obtain ⟨k1, k2, k3⟩ := vx_keep h0 e1 hS hA hf hL hF
    obtain ⟨t2, a1, b1⟩ := kk r u t T'.heap (locs ++ L) e1.symm (by rw [← e2]; exact X'.warmed.alike) hp hb k1 k2 k3 T' rfl X'
    exact ⟨t2, st t2 a1, b1⟩
  · obtain ⟨k1, k2, k3⟩ := vx_keep h0 e1 hS hAX hf hL hF
    obtain ⟨t2, a1, b1⟩ := kx E ce q u t T'.heap (locs ++ L) e1.symm (by rw [← e2]; exact X'.warmed.alike) hp hb k1 k2 k3 (by rw [e1]; exact hce) hcv hcl T' rfl X'
    exact ⟨t2, st.trans a1, b1⟩
theorem vx_callf {S SX : Type} {post : UInt32 → S → Prop} {px : SX → Prop} {B : S → State → Prop} {BX : String → SX → State → Prop} {AX : Nat → Prop} (hr : vx_Run p l e R s m args below meth c H locs cells slots mc ms (F0 m pc ls st0) rest (va_Qf post B A1 a) (vx_X px BX AX) free) (hS : va_S A0 H0 H locs) (hA : ∀ q, q < H.size → A1 q → A0 q) (hf : ∀ q, free q → A0 q) (hAX : ∀ q, q < H.size → AX q → A0 q)
    (kx : ∀ (E : String) (ce : Cell) (q9 : Addr) (u : SX) (t : State) (H1 : Heap) (locs1 : List Loc), t.heap = H1 → s.vm.Alike t.vm → px u → BX E u t → H.size ≤ H1.size → (∀ q : Nat, q < H.size → ¬ AX q → H1[q]? = H[q]?) → va_S A0 H0 H1 locs1 → H1[q9]? = some ce → ce.vm = .none → s.vm.findClass E = some ce.cls → vx_W p l e R s m args below meth c H1 locs1 (cells + mc) (slots + ms) Q (F0 m pc ls rest) q9)
    (kk : ∀ (r : UInt32) (u : S) (t : State) (H1 : Heap) (locs1 : List Loc), t.heap = H1 → s.vm.Alike t.vm → post r u → B u t → H.size ≤ H1.size → (∀ q : Nat, q < H.size → ¬ A1 q → H1[q]? = H[q]?) → va_S A0 H0 H1 locs1 → W p l e R s m args below meth c H1 locs1 (cells + mc) (slots + ms) Q (F0 m (pc + 3) ls (.float r :: rest))) : W p l e R s m args below meth c H locs cells slots Q (F0 m pc ls st0) := by
  intro T hT X
  rcases hr T hT X with ⟨v, st₀, t, T', L, h0, X', hL, e1, e2, ⟨⟨r, u, hv, hp, hb⟩, hF⟩, st⟩ | ⟨q, st₀, t, T', L, E, ce, h0, X', hL, e1, e2, ⟨u, hp, hb, hF⟩, hce, hcv, hcl, st⟩
  · cases hv
    obtain ⟨k1, k2, k3⟩ := vx_keep h0 e1 hS hA hf hL hF
    obtain ⟨t2, a1, b1⟩ := kk r u t T'.heap (locs ++ L) e1.symm (by rw [← e2]; exact X'.warmed.alike) hp hb k1 k2 k3 T' rfl X'
    exact ⟨t2, st t2 a1, b1⟩
  · obtain ⟨k1, k2, k3⟩ := vx_keep h0 e1 hS hAX hf hL hF
    obtain ⟨t2, a1, b1⟩ := kx E ce q u t T'.heap (locs ++ L) e1.symm (by rw [← e2]; exact X'.warmed.alike) hp hb k1 k2 k3 (by rw [e1]; exact hce) hcv hcl T' rfl X'
    exact ⟨t2, st.trans a1, b1⟩
theorem vx_calld {S SX : Type} {post : UInt64 → S → Prop} {px : SX → Prop} {B : S → State → Prop} {BX : String → SX → State → Prop} {AX : Nat → Prop} (hr : vx_Run p l e R s m args below meth c H locs cells slots mc ms (F0 m pc ls st0) rest (va_Qd post B A1 a) (vx_X px BX AX) free) (hS : va_S A0 H0 H locs) (hA : ∀ q, q < H.size → A1 q → A0 q) (hf : ∀ q, free q → A0 q) (hAX : ∀ q, q < H.size → AX q → A0 q)
    (kx : ∀ (E : String) (ce : Cell) (q9 : Addr) (u : SX) (t : State) (H1 : Heap) (locs1 : List Loc), t.heap = H1 → s.vm.Alike t.vm → px u → BX E u t → H.size ≤ H1.size → (∀ q : Nat, q < H.size → ¬ AX q → H1[q]? = H[q]?) → va_S A0 H0 H1 locs1 → H1[q9]? = some ce → ce.vm = .none → s.vm.findClass E = some ce.cls → vx_W p l e R s m args below meth c H1 locs1 (cells + mc) (slots + ms) Q (F0 m pc ls rest) q9)
    (kk : ∀ (r : UInt64) (u : S) (t : State) (H1 : Heap) (locs1 : List Loc), t.heap = H1 → s.vm.Alike t.vm → post r u → B u t → H.size ≤ H1.size → (∀ q : Nat, q < H.size → ¬ A1 q → H1[q]? = H[q]?) → va_S A0 H0 H1 locs1 → W p l e R s m args below meth c H1 locs1 (cells + mc) (slots + ms) Q (F0 m (pc + 3) ls (.double r :: rest))) : W p l e R s m args below meth c H locs cells slots Q (F0 m pc ls st0) := by
  intro T hT X
  rcases hr T hT X with ⟨v, st₀, t, T', L, h0, X', hL, e1, e2, ⟨⟨r, u, hv, hp, hb⟩, hF⟩, st⟩ | ⟨q, st₀, t, T', L, E, ce, h0, X', hL, e1, e2, ⟨u, hp, hb, hF⟩, hce, hcv, hcl, st⟩
  · cases hv
    obtain ⟨k1, k2, k3⟩ := vx_keep h0 e1 hS hA hf hL hF
    obtain ⟨t2, a1, b1⟩ := kk r u t T'.heap (locs ++ L) e1.symm (by rw [← e2]; exact X'.warmed.alike) hp hb k1 k2 k3 T' rfl X'
    exact ⟨t2, st t2 a1, b1⟩
  · obtain ⟨k1, k2, k3⟩ := vx_keep h0 e1 hS hAX hf hL hF
    obtain ⟨t2, a1, b1⟩ := kx E ce q u t T'.heap (locs ++ L) e1.symm (by rw [← e2]; exact X'.warmed.alike) hp hb k1 k2 k3 (by rw [e1]; exact hce) hcv hcl T' rfl X'
    exact ⟨t2, st.trans a1, b1⟩
theorem vx_callv {S SX : Type} {post : S → Prop} {px : SX → Prop} {B : S → State → Prop} {BX : String → SX → State → Prop} {AX : Nat → Prop} (hr : vx_Run p l e R s m args below meth c H locs cells slots mc ms (F0 m pc ls st0) rest (va_Qv post B A1 a) (vx_X px BX AX) free) (hS : va_S A0 H0 H locs) (hA : ∀ q, q < H.size → A1 q → A0 q) (hf : ∀ q, free q → A0 q) (hAX : ∀ q, q < H.size → AX q → A0 q)
    (kx : ∀ (E : String) (ce : Cell) (q9 : Addr) (u : SX) (t : State) (H1 : Heap) (locs1 : List Loc), t.heap = H1 → s.vm.Alike t.vm → px u → BX E u t → H.size ≤ H1.size → (∀ q : Nat, q < H.size → ¬ AX q → H1[q]? = H[q]?) → va_S A0 H0 H1 locs1 → H1[q9]? = some ce → ce.vm = .none → s.vm.findClass E = some ce.cls → vx_W p l e R s m args below meth c H1 locs1 (cells + mc) (slots + ms) Q (F0 m pc ls rest) q9)
    (kk : ∀ (u : S) (t : State) (H1 : Heap) (locs1 : List Loc), t.heap = H1 → s.vm.Alike t.vm → post u → B u t → H.size ≤ H1.size → (∀ q : Nat, q < H.size → ¬ A1 q → H1[q]? = H[q]?) → va_S A0 H0 H1 locs1 → W p l e R s m args below meth c H1 locs1 (cells + mc) (slots + ms) Q (F0 m (pc + 3) ls (rest))) : W p l e R s m args below meth c H locs cells slots Q (F0 m pc ls st0) := by
  intro T hT X
  rcases hr T hT X with ⟨v, st₀, t, T', L, h0, X', hL, e1, e2, ⟨⟨u, hv, hp, hb⟩, hF⟩, st⟩ | ⟨q, st₀, t, T', L, E, ce, h0, X', hL, e1, e2, ⟨u, hp, hb, hF⟩, hce, hcv, hcl, st⟩
  · cases hv
    obtain ⟨k1, k2, k3⟩ := vx_keep h0 e1 hS hA hf hL hF
    obtain ⟨t2, a1, b1⟩ := kk u t T'.heap (locs ++ L) e1.symm (by rw [← e2]; exact X'.warmed.alike) hp hb k1 k2 k3 T' rfl X'
    exact ⟨t2, st t2 a1, b1⟩
  · obtain ⟨k1, k2, k3⟩ := vx_keep h0 e1 hS hAX hf hL hF
    obtain ⟨t2, a1, b1⟩ := kx E ce q u t T'.heap (locs ++ L) e1.symm (by rw [← e2]; exact X'.warmed.alike) hp hb k1 k2 k3 (by rw [e1]; exact hce) hcv hcl T' rfl X'
    exact ⟨t2, st.trans a1, b1⟩
/-- caught by the row x of this method's table; the rows ahead don't take it -/
theorem vx_catch {own name : String} {E : String} {ce : Cell} {q : Addr} (hown : s.vm.findClass own = some m.cls) (pre : List ExceptionTableEntry) (x : ExceptionTableEntry) (suf : List ExceptionTableEntry) (hsplit : c.exceptionTable.toList = pre ++ x :: suf)
    (hpass : ∀ z ∈ pre, covers z pc = false ∨ (z.catchType ≠ 0 ∧ ∃ nm : String, (Cond.classLink own z.catchType nm).before args s = true ∧ va_Nc E nm s)) (hx : covers x pc = true) (h0 : x.catchType ≠ 0)
    (hlink : (Cond.classLink own x.catchType name).before args s = true) (hcast : (Cond.castable E name).before args s = true) (hcell : H[q]? = some ce) (hv : ce.vm = .none) (hcl : s.vm.findClass E = some ce.cls)
    (kk : W p l e R s m args below meth c H locs cells slots Q (F0 m x.handlerPc ls [.ref q])) : vx_W p l e R s m args below meth c H locs cells slots Q (F0 m pc ls rest) q := by
  intro T hT X
  have hpl : e.platform.magicAccessors = ({} : Platform).magicAccessors := by rw [X.admits.platform]
  obtain ⟨c3, c4, hc3, hc4, hasg⟩ := Cond.castable_spec hcast
  cases Option.some.inj (hc3.symm.trans hcl)
  obtain ⟨c5, hc5, hcl5⟩ := Cond.classLink_spec hown hlink e.platform hpl
  cases Option.some.inj (hc4.symm.trans hc5)
  obtain ⟨vm', X', st⟩ := X.thenCaughtThrough q (g := F0 m pc ls rest) rfl (Steps.refl _) (by rw [hT]; exact hcell) (by rw [hv]; rfl) (by obtain ⟨k9, h9, -⟩ := Vm.findClass_spec hcl; exact ⟨k9, h9⟩) pre x suf hsplit
    (fun z hz => by
      rcases hpass z hz with h | ⟨hz0, nm, hl1, hn1⟩
      · exact Or.inl h
      · obtain ⟨c6, hc6, hcl6⟩ := Cond.classLink_spec hown hl1 e.platform hpl
        obtain ⟨a8, b8, h1, h2, h3⟩ := hn1
        cases Option.some.inj (h1.symm.trans hcl)
        cases Option.some.inj (h2.symm.trans hc6)
        exact Or.inr ⟨hz0, _, hcl6, h3⟩) hx (Or.inr ⟨h0, c4, hcl5, hasg⟩)
  obtain ⟨t, a1, b1⟩ := kk (T.setVm vm') hT X'
  exact ⟨t, st.trans a1, b1⟩
end Rows
section Ends
variable {p : Program} {l : Launch} {e : Env} {R : Room} {s : State} {m : MethodId} {args : Array Value} {below : List Frame} {meth : Method} {c : Code} {H : Heap} {locs : List Loc} {cells slots : Nat} {Q : State → Prop}
variable {mc ms : Nat} {free : Addr → Prop} {A0 A1 : Nat → Prop} {H0 : Heap} {a : Array Value} {ls : Array Slot} {st0 rest : List Value}
variable {Qc : Array Value → State → Outcome → State → Prop} {XC : String → State → State → Prop}
/-- what a body that may throw owes at its end -/
def vx_MQ (below : List Frame) (Qc : Array Value → State → Outcome → State → Prop) (XC : String → State → State → Prop) (a : Array Value) (s : State) (mc ms : Nat) (free : Addr → Prop) : State → Prop := fun t =>
  ∃ o, t.status = .running ∧ Ended t below o ∧ vx_Q Qc XC mc ms free a s o t
theorem vx_ret {g : JFrame} {mc ms : Nat} (k : W p l e R s m args below meth c H locs cells slots (MQ below Qc args s mc ms free) g) : W p l e R s m args below meth c H locs cells slots (vx_MQ below Qc XC args s mc ms free) g := by
  intro T hT X
  obtain ⟨t, a1, o, b1, b2, b3, b4⟩ := k T hT X
  exact ⟨t, a1, o, b1, b2, Or.inl ⟨b3, b4⟩⟩
/-- not caught here: it goes on to the caller -/
theorem vx_widen {g : JFrame} {q : Addr} {k n : Nat} (h1 : cells ≤ k) (h2 : slots ≤ n) (kk : vx_W p l e R s m args below meth c H locs k n Q g q) : vx_W p l e R s m args below meth c H locs cells slots Q g q := fun T hT X => kk T hT (stand_widen X h1 h2)
theorem vx_out {pc : Nat} {E : String} {ce : Cell} {q : Addr} {mc ms : Nat} (hout : ∀ x ∈ c.exceptionTable.toList, covers x pc = false) (hlocks : meth.locks = false) (hcell : H[q]? = some ce) (hv : ce.vm = .none) (hcl : s.vm.findClass E = some ce.cls)
    (hx : ∀ t : State, t.heap = H → s.vm.Alike t.vm → XC E s t) (hf : ∀ z ∈ locs, free z.base) (hc : cells ≤ mc) (hs : slots ≤ ms) :
    vx_W p l e R s m args below meth c H locs cells slots (vx_MQ below Qc XC args s mc ms free) (F0 m pc ls rest) q := by
  intro T hT X
  obtain ⟨st1, hrun, hend, hW, hsm⟩ := X.leaveThrown q (g := F0 m pc ls rest) rfl rfl rfl hout hlocks
  have hcell9 : (T.setFrames (.throwing q :: below)).heap[q]? = some ce := by
    show T.heap[q]? = some ce
    rw [hT]; exact hcell
  exact ⟨_, st1, .threw q, hrun, hend, Or.inr ⟨q, rfl, E, ce, locs, hx _ hT hW.alike, hcell9, hv, hcl, hW, hsm.mono hc hs, hf⟩⟩
theorem vx_frame {U : State} {k n : Nat} (h : s.sameButNew ({ U with vm := s.vm } : State) locs k n) : s.heap.size ≤ U.heap.size ∧ ∀ q : Nat, q < s.heap.size → (∀ z ∈ locs, z.base ≠ q) → U.heap[q]? = s.heap[q]? := by
  obtain ⟨-, h2, -, -, -, h6⟩ := h
  refine ⟨h2, fun q hq hz => ?_⟩
  obtain ⟨c9, e1, e2, e3, e4⟩ := h6 q _ (Array.getElem?_eq_getElem hq)
  have hs : c9.slots = (s.heap[q]).slots := Array.ext_getElem? fun i => e4 i fun hm => hz _ hm rfl
  have h9 : c9 = s.heap[q] := by
    rw [hs] at e2
    exact e2
  have e5 : U.heap[q]? = some c9 := e1
  rw [e5, h9, Array.getElem?_eq_getElem hq]
/-- the words of a throw but the four that speak of the heap -/
def vx_no (w : Cond) : Bool := decide (w ≠ .isRef (.static Bundle.tN "UNASSIGNED_STACK" Bundle.steD)) && decide (w ≠ .isRef (.static Bundle.tN "SUPPRESSED_SENTINEL" Bundle.listD)) && decide (w ≠ .laysStatic Bundle.tN "UNASSIGNED_STACK" Bundle.steD) && decide (w ≠ .laysStatic Bundle.tN "SUPPRESSED_SENTINEL" Bundle.listD)
def vx_at0 (own : String) (ic : Nat) (X : String) (names : List String) : List Cond := (Bundle.ownAtoms0 own ic X names).filter vx_no
def vx_atS (own : String) (ic : Nat) (X : String) (names : List String) : List Cond := (Bundle.ownAtoms own ic X names).filter vx_no
/-- a word that the tables alone decide, or a good one -/
def vx_ot (w : Cond) : Bool := w.onTables || goodWord w
theorem vx_ot_at {args a' : Array Value} {s U : State} {w : Cond} (hW : s.WarmedH U.vm) (hvm : s.vm = U.vm) (hg : vx_ot w = true) (h : w.before args s = true) : w.before a' U = true := by
  simp only [vx_ot, Bool.or_eq_true] at hg
  rcases hg with hg | hg
  · exact va_tabs hg hvm h
  · exact word_at hW (good_of_word hg) h
/-- a list's words: the good ones out of the method's own list, the others by premises of their own -/
theorem vx_hat {args : Array Value} {s : State} {L B : List Cond} (h1 : ∀ w ∈ L.filter goodWord, w.before args s = true) (h2 : ∀ w ∈ L.filter (fun w => !goodWord w), w ∈ B) (h3 : ∀ w ∈ B, w.before args s = true) : ∀ w ∈ L, w.before args s = true := by
  intro w hw
  by_cases g : goodWord w = true
  · exact h1 w (List.mem_filter.mpr ⟨hw, g⟩)
  · refine h3 w (h2 w (List.mem_filter.mpr ⟨hw, ?_⟩))
    show (!goodWord w) = true
    cases hgw : goodWord w
    · rfl
    · exact absurd hgw g
theorem vx_c {args : Array Value} {s : State} {w : Cond} {B : List Cond} (h : w.before args s = true) (t : ∀ w ∈ B, w.before args s = true) : ∀ w' ∈ w :: B, w'.before args s = true := fun w' h' => (List.mem_cons.mp h').elim (fun e => by rw [e]; exact h) (t w')
theorem vx_n {args : Array Value} {s : State} : ∀ w ∈ ([] : List Cond), w.before args s = true := fun _ h => nomatch h
theorem vx_own {args : Array Value} {s : State} {L : List Cond} (h1 : ∀ w ∈ L.filter vx_no, w.before args s = true)
    (hU : (Cond.isRef (.static Bundle.tN "UNASSIGNED_STACK" Bundle.steD)).before args s = true) (hN : (Cond.isRef (.static Bundle.tN "SUPPRESSED_SENTINEL" Bundle.listD)).before args s = true)
    (lU : (Cond.laysStatic Bundle.tN "UNASSIGNED_STACK" Bundle.steD).before args s = true) (lN : (Cond.laysStatic Bundle.tN "SUPPRESSED_SENTINEL" Bundle.listD).before args s = true) : ∀ w ∈ L, w.before args s = true := by
  intro w hw
  by_cases e1 : w = .isRef (.static Bundle.tN "UNASSIGNED_STACK" Bundle.steD)
  · rw [e1]; exact hU
  · by_cases e2 : w = .isRef (.static Bundle.tN "SUPPRESSED_SENTINEL" Bundle.listD)
    · rw [e2]; exact hN
    · by_cases e3 : w = .laysStatic Bundle.tN "UNASSIGNED_STACK" Bundle.steD
      · rw [e3]; exact lU
      · by_cases e4 : w = .laysStatic Bundle.tN "SUPPRESSED_SENTINEL" Bundle.listD
        · rw [e4]; exact lN
        · exact h1 w (List.mem_filter.mpr ⟨hw, by unfold vx_no; rw [decide_eq_true e1, decide_eq_true e2, decide_eq_true e3, decide_eq_true e4]; rfl⟩)
/-- where a static field lies, its class's statics cell in H -/
def vx_L (C n d : String) (A : Nat → Prop) (U : State) (H : Heap) : Prop := ∃ (c : ClassId) (k : Class) (i : Nat) (f : Field) (a : Nat) (cell : Cell), U.vm.findClass C = some c ∧ U.fieldFound? C n d = some (c, k, i, f) ∧ f.isStatic = true ∧ k.statics = some a ∧ H[a]? = some cell ∧ cell.vm.isStatics = true ∧ cell.cls = c ∧ f.slot < cell.slots.size ∧ k.staticTypes[f.slot]? = some f.type ∧ ¬ A a
theorem vx_L.moved {C n d : String} {A : Nat → Prop} {u U : State} {H : Heap} (hvm : u.vm.Alike U.vm) (h : vx_L C n d A u H) : vx_L C n d A U H := by
  obtain ⟨c, k, i, f, a, cell, h1, h2, h3, h4, h5, h6, h7, h8, h9, h10⟩ := h
  obtain ⟨k', hi', he⟩ := State.fieldFound?_setVm hvm h2
  exact ⟨c, k', i, f, a, cell, by rw [hvm.findClass]; exact h1, hi', h3, by rw [he]; exact h4, h5, h6, h7, h8, by rw [he]; exact h9, h10⟩
theorem vx_L.kept {C n d : String} {A : Nat → Prop} {U : State} {H H1 : Heap} (h : vx_L C n d A U H) (hq : ∀ a : Nat, a < H.size → ¬ A a → H1[a]? = H[a]?) : vx_L C n d A U H1 := by
  obtain ⟨c, k, i, f, a, cell, h1, h2, h3, h4, h5, h6, h7, h8, h9, h10⟩ := h
  exact ⟨c, k, i, f, a, cell, h1, h2, h3, h4, by rw [hq a (Array.getElem?_eq_some_iff.mp h5).1 h10]; exact h5, h6, h7, h8, h9, h10⟩
theorem vx_L.narrow {C n d : String} {A B : Nat → Prop} {U : State} {H : Heap} (h : vx_L C n d A U H) (hAB : ∀ q, B q → A q) : vx_L C n d B U H := by
  obtain ⟨c, k, i, f, a, cell, h1, h2, h3, h4, h5, h6, h7, h8, h9, h10⟩ := h
  exact ⟨c, k, i, f, a, cell, h1, h2, h3, h4, h5, h6, h7, h8, h9, fun z => h10 (hAB _ z)⟩
theorem vx_L.word {C n d : String} {A : Nat → Prop} {s : State} {args : Array Value} (h : vx_L C n d A s s.heap) : (Cond.laysStatic C n d).before args s = true := by
  obtain ⟨c, k, i, f, a, cell, h1, h2, h3, h4, h5, h6, h7, h8, h9, -⟩ := h
  show (Cond.laysStatic C n d).holds args s none s [] = true
  exact Cond.laysStatic_of h1 h2 h3 h4 h5 h6 h7 h8 h9
/-- .. and what it holds: null or some reference -/
def vx_Zq (C n d : String) (A : Nat → Prop) (U : State) (H : Heap) : Prop := va_Zq C n d A U H ∧ vx_L C n d A U H
theorem vx_Zq.moved {C n d : String} {A : Nat → Prop} {u U : State} {H : Heap} (hvm : u.vm.Alike U.vm) (h : vx_Zq C n d A u H) : vx_Zq C n d A U H := ⟨va_Zq.moved hvm h.1, vx_L.moved hvm h.2⟩
theorem vx_Zq.kept {C n d : String} {A : Nat → Prop} {U : State} {H H1 : Heap} (h : vx_Zq C n d A U H) (hq : ∀ a : Nat, a < H.size → ¬ A a → H1[a]? = H[a]?) : vx_Zq C n d A U H1 := ⟨va_Zq.kept h.1 hq, vx_L.kept h.2 hq⟩
theorem vx_Zq.narrow {C n d : String} {A B : Nat → Prop} {U : State} {H : Heap} (h : vx_Zq C n d A U H) (hAB : ∀ q, B q → A q) : vx_Zq C n d B U H := ⟨va_Zq.narrow h.1 hAB, vx_L.narrow h.2 hAB⟩
theorem vx_Zqof {args : Array Value} {s : State} {C n d : String} {A : Nat → Prop} (hl : (Cond.laysStatic C n d).before args s = true) (hini : (Cond.initialized C).before args s = true) (h : (Cond.isRef (.static C n d)).before args s = true) (hA : ∀ a : Nat, a < s.heap.size → ¬ A a) : vx_Zq C n d A s s.heap := by
  refine ⟨va_Zqof hl hini h hA, ?_⟩
  obtain ⟨c, k, i, f, a, cell, h1, h2, h3, h4, h5, h6, h7, h8, h9⟩ := Cond.laysStatic_spec hl
  exact ⟨c, k, i, f, a, cell, h1, h2, h3, h4, h5, h6, h7, h8, h9, hA a (Array.getElem?_eq_some_iff.mp h5).1⟩
theorem vx_isRef {C n d : String} {v : Value} {A : Nat → Prop} {s : State} {args : Array Value} (h : va_Z C n d v A s s.heap) (hv : v.isRef = true) : (Cond.isRef (.static C n d)).before args s = true := by
  obtain ⟨cf, kf, fi, f, a, cell, h1, h2, h3, h4, h5, h6, h7, -⟩ := h
  have he : (Term.static C n d).eval args s none [] s = some v := by
    simp [Term.eval, State.fieldNamed?, h1, h2, h4, h5, h6, h7]
  simp only [Cond.before, Cond.holds, Cond.value, he]
  cases v <;> simp_all [Value.isRef]
theorem vx_isRefq {C n d : String} {A : Nat → Prop} {s : State} {args : Array Value} (h : va_Zq C n d A s s.heap) : (Cond.isRef (.static C n d)).before args s = true := by
  rcases h with h | ⟨t, h⟩
  · exact vx_isRef h rfl
  · exact vx_isRef h rfl
/-- the same frame, seen from here: as if the method were called anew in this heap -/
theorem vx_rebase {T : State} (X : Stand p l e R s m args below meth c T locs cells slots) {R' : Room} (hf : R'.frames ≤ R.frames) (hl : R'.locals ≤ R.locals) (hc : cells + R'.cells ≤ R.cells) (hs : slots + R'.slots ≤ R.slots) :
    Stand p l e R' ((T.setVm s.vm).setFrames (.invoking m args :: below)) m args below meth c T [] 0 0 := by
  have htop : (T.setVm s.vm).topJava?.isSome := X.here.top
  have hF : ((T.setVm s.vm).setFrames (.invoking m args :: below)).frames = .invoking m args :: below := State.frames_setFrames _ (State.cur_lt_of_top htop)
  obtain ⟨g₀, hg0⟩ := Option.isSome_iff_exists.mp htop
  obtain ⟨r, hr⟩ := State.topJava?_eq_some.mp hg0
  have hl9 : e.platform.stackLimits (T.setVm s.vm).me = e.platform.stackLimits s.me := X.limits
  have hb9 : (T.setVm s.vm).me.stackBytes = s.me.stackBytes := X.bytes
  refine ⟨X.admits, X.cas, X.clock, hF, ?_, X.hears, X.method, X.code, X.here, X.tail, X.warmed, ?_, ?_, ?_⟩
  · have h := X.room
    have hU : ((T.setVm s.vm).setFrames (.invoking m args :: below)).localsInUse = s.localsInUse := by
      rw [State.localsInUse_invoking hF (meth := meth) (c := c) X.method X.code, State.localsInUse_invoking X.frames X.method X.code]
    simp only [State.hasRoom, Bool.and_eq_true, decide_eq_true_eq] at h ⊢
    obtain ⟨⟨⟨⟨h1, h2, h3, h4, h5, h6⟩, h7⟩, h8⟩, h9⟩ := h
    rw [X.frames, List.length_cons] at h2 h3
    have q1 := X.heapSize
    have q2 := X.used
    simp only [hF, hU, List.length_cons, State.stackLimits_setFrames, State.stackBytes_setFrames, hl9, hb9]
    refine ⟨⟨⟨⟨by omega, by omega, by omega, by omega, by omega, h6⟩, ?_⟩, ?_⟩, X.book⟩
    · show T.heap.size + R'.cells ≤ e.platform.maxCells
      omega
    · show T.slotsUsed + R'.slots ≤ e.platform.maxSlots
      omega
  · rw [State.stackLimits_setFrames]; rfl
  · rw [State.stackBytes_setFrames]; rfl
  · refine ⟨?_, Nat.le_refl _, Nat.le_refl _, ?_, ?_, fun a c9 h9 => ⟨c9, h9, rfl, rfl, fun _ _ => rfl⟩⟩
    · obtain ⟨t, ht, -⟩ := State.frames_cons hr
      show T.setVm s.vm = { ((T.setVm s.vm).setFrames (.invoking m args :: below)).setFrames (T.setVm s.vm).frames with heap := T.heap, slotsUsed := T.slotsUsed }
      rw [State.setFrames_setFrames, State.setFrames_self ht]
      rfl
    · show T.slotsUsed = T.slotsUsed + ((T.heap.toList.drop T.heap.size).map (·.slots.size)).sum
      rw [List.drop_eq_nil_of_le (Nat.le_of_eq Array.length_toList)]
      rfl
    · show ((T.heap.toList.drop T.heap.size).map (·.slots.size)).sum ≤ 0
      rw [List.drop_eq_nil_of_le (Nat.le_of_eq Array.length_toList)]
      exact Nat.le_refl _
/-- 'throw new E()': new; dup; invokespecial; athrow -/
theorem vx_throw0 {cc : ByteArray} {pc : Nat} (hexec : p.tables.exec = Jvm.exec) (hb : c.code = cc) (hl : l.stackTraces = false) {own cls : String} {names : List String} {ik ic mc ms : Nat} {A : Nat → Prop}
    (hown : s.vm.findClass own = some m.cls) (hcls : Bundle.fit cls = true) (hnames : ∀ n ∈ names, Bundle.fit n = true)
    (hk : (Cond.classLink own ik cls).before args s = true) (hini : (Cond.initialized cls).before args s = true) (hat : ∀ w ∈ vx_at0 own ic cls names, w.before args s = true)
    (hgood : ∀ w ∈ Cond.classLink own ik cls :: Cond.initialized cls :: vx_at0 own ic cls names, vx_ot w = true)
    (hU : vx_Zq Bundle.tN "UNASSIGNED_STACK" Bundle.steD A s s.heap) (hN : vx_Zq Bundle.tN "SUPPRESSED_SENTINEL" Bundle.listD A s s.heap) (hS : va_S A s.heap H locs) (hsize : ls.size = c.maxLocals)
    (d0 : decode cc pc = .ok (.new ik, 3)) (d3 : decode cc (pc + 3) = .ok (.dup, 1)) (d4 : decode cc (pc + 4) = .ok (.invokespecial ic, 3)) (d7 : decode cc (pc + 7) = .ok (.athrow, 1))
    (hout : ∀ x ∈ c.exceptionTable.toList, covers x (pc + 7) = false)
    (hRframes : names.length + 3 < R.frames) (hRlocals : (rest.map fun v => v.category).sum + (13 * (names.length + 1) + 42) ≤ R.locals) (hRcells : cells + 1 ≤ R.cells) (hRslots : slots + 6 ≤ R.slots) (hlocks : meth.locks = false)
    (hx : ∀ t : State, s.vm.Alike t.vm → H.size ≤ t.heap.size → (∀ q : Nat, q < H.size → t.heap[q]? = H[q]?) → XC cls s t)
    (hf : ∀ z ∈ locs, free z.base) (hc : cells + 1 ≤ mc) (hs : slots + 6 ≤ ms) :
    W p l e R s m args below meth c H locs cells slots (vx_MQ below Qc XC args s mc ms free) (F0 m pc ls rest) := by
  intro T hT X
  have htr : e.platform.stackTraces = false := (show e.platform.stackTraces = l.stackTraces by rw [X.admits.platform]).trans hl
  have Y := vx_rebase X (R' := { frames := R.frames, locals := R.locals, cells := 1, slots := 6 }) (Nat.le_refl _) (Nat.le_refl _) hRcells hRslots
  obtain ⟨s', hA⟩ : ∃ z, z = (T.setVm s.vm).setFrames (.invoking m args :: below) := ⟨_, rfl⟩
  rw [← hA] at Y
  have hvm : s'.vm = s.vm := by rw [hA]; rfl
  have hhp : s'.heap = H := by rw [hA]; exact hT
  have hW0 : s.WarmedH s'.vm := by rw [hvm]; exact State.WarmedH.refl s
  have hat' : ∀ w ∈ vx_at0 own ic cls names, w.before args s' = true := fun w hw => vx_ot_at hW0 hvm.symm (hgood w (List.mem_cons_of_mem _ (List.mem_cons_of_mem _ hw))) (hat w hw)
  have hk' : (Cond.classLink own ik cls).before args s' = true := vx_ot_at hW0 hvm.symm (hgood _ List.mem_cons_self) hk
  have hini' : (Cond.initialized cls).before args s' = true := vx_ot_at hW0 hvm.symm (hgood _ (List.mem_cons_of_mem _ List.mem_cons_self)) hini
  have hU' : vx_Zq Bundle.tN "UNASSIGNED_STACK" Bundle.steD A s' s'.heap := by rw [hhp]; exact vx_Zq.moved hW0.alike (hU.kept hS.2.1)
  have hN' : vx_Zq Bundle.tN "SUPPRESSED_SENTINEL" Bundle.listD A s' s'.heap := by rw [hhp]; exact vx_Zq.moved hW0.alike (hN.kept hS.2.1)
  have h : ∀ w ∈ Bundle.ownAtoms0 own ic cls names, w.before args s' = true := vx_own hat' (vx_isRefq hU'.1) (vx_isRefq hN'.1) hU'.2.word hN'.2.word
  have hown' : s'.vm.findClass own = some m.cls := by rw [hvm]; exact hown
  have hins : (Cond.instantiable cls 6).before args s' = true := h _ (by simp [Bundle.ownAtoms0])
  obtain ⟨vm₁, cX, kX, hfX, hkX, -, -, X₁, st1⟩ := Y.newCold hexec (own := own) (C := cls) (index := ik) (n := 6) hown' hk' hins hini'
    (g := F0 m pc ls rest) rfl (by rw [hb]; exact d0) (Nat.le_refl _) (Nat.le_refl _)
  generalize hT1 : (T.setVm vm₁).pushCell { cls := cX, slots := kX.instanceTypes.map defaultValue, vm := .none } = T1 at X₁ st1
  have hcat : (Value.ref T.heap.size).category = 1 := rfl
  have hcellA : T1.heap[T.heap.size]? = some (freshCell cX kX) := by rw [← hT1]; exact State.heap_pushCell_size _ _
  have d3' : decode c.code (pc + 3) = .ok (.dup, 1) := by rw [hb]; exact d3
  obtain ⟨U, hsteps, hrun, hend, hW, hsame, ce, hce, hO⟩ := X₁.ctorThrow0 hexec htr (own := own) (cls := cls) (names := names) (ic := ic) hown' hcls hnames h (fun x hx => nomatch hx) hfX hkX hcellA (by rw [hhp, hT]; exact Nat.le_refl _)
    (g := { method := m, pc := pc + 4, locals := ls, stack := .ref T.heap.size :: .ref T.heap.size :: rest, locked := none }) rfl hsize rfl rfl (rest := rest) rfl
    (by rw [hb]; exact d4) (by rw [hb]; exact d7) hout hRframes (by simp only [List.map_cons, List.sum_cons, hcat]; omega) hlocks
  obtain ⟨f1, f2⟩ := vx_frame hsame
  rw [hhp] at f1 f2
  have hWs : s.WarmedH U.vm := State.WarmedH.trans hW0 hW
  have hcl : s.vm.findClass cls = some ce.cls := by
    have h9 := hO.cls
    rw [hvm] at h9
    exact h9
  have hall : s.sameButNew ({ U with vm := s.vm } : State) locs mc ms := by
    subst hA
    obtain ⟨e1, e2⟩ := hsame
    rw [State.setFrames_setFrames] at e1
    have h2 : (T.setVm s.vm).sameButNew ({ U with vm := s.vm } : State) [] (0 + 1) (0 + 6) := ⟨e1, e2⟩
    have h3 := X.same.trans h2
    rw [List.append_nil] at h3
    exact h3.mono hc hs
  refine ⟨U, ?_, .threw T.heap.size, hrun, hend, Or.inr ⟨T.heap.size, rfl, cls, ce, locs, hx U hWs.alike f1 (fun q hq => f2 q hq (fun z hz => nomatch hz)), hce, hO.vm, hcl, hWs, hall, hf⟩⟩
  refine st1 _ ?_
  show Steps p.tables e below (T1.setTop { method := m, pc := pc + 3, locals := ls, stack := .ref T.heap.size :: rest, locked := none }) _
  jvm_step X₁.here [X₁.here.top, hexec, d3', Value.category]
  exact hsteps
/-- 'throw new E("text")': new; dup; ldc; invokespecial; athrow -/
theorem vx_throwS {cc : ByteArray} {pc : Nat} (hexec : p.tables.exec = Jvm.exec) (hb : c.code = cc) (hl : l.stackTraces = false) {own cls text : String} {names : List String} {ik is ic mc ms sa : Nat} {A : Nat → Prop}
    (hown : s.vm.findClass own = some m.cls) (hcls : Bundle.fit cls = true) (hnames : ∀ n ∈ names, Bundle.fit n = true)
    (hk : (Cond.classLink own ik cls).before args s = true) (hini : (Cond.initialized cls).before args s = true) (hstr : vk_R own is text sa s) (hat : ∀ w ∈ vx_atS own ic cls names, w.before args s = true)
    (hgood : ∀ w ∈ Cond.classLink own ik cls :: Cond.initialized cls :: vx_atS own ic cls names, vx_ot w = true)
    (hU : vx_Zq Bundle.tN "UNASSIGNED_STACK" Bundle.steD A s s.heap) (hN : vx_Zq Bundle.tN "SUPPRESSED_SENTINEL" Bundle.listD A s s.heap) (hS : va_S A s.heap H locs) (hsize : ls.size = c.maxLocals)
    (d0 : decode cc pc = .ok (.new ik, 3)) (d3 : decode cc (pc + 3) = .ok (.dup, 1)) (d4 : decode cc (pc + 4) = .ok (.ldc is, 2)) (d6 : decode cc (pc + 6) = .ok (.invokespecial ic, 3)) (d9 : decode cc (pc + 9) = .ok (.athrow, 1))
    (hout : ∀ x ∈ c.exceptionTable.toList, covers x (pc + 9) = false)
    (hRframes : names.length + 3 < R.frames) (hRlocals : (rest.map fun v => v.category).sum + (13 * (names.length + 1) + 43) ≤ R.locals) (hRcells : cells + 1 ≤ R.cells) (hRslots : slots + 6 ≤ R.slots) (hlocks : meth.locks = false)
    (hx : ∀ t : State, s.vm.Alike t.vm → H.size ≤ t.heap.size → (∀ q : Nat, q < H.size → t.heap[q]? = H[q]?) → XC cls s t)
    (hf : ∀ z ∈ locs, free z.base) (hc : cells + 1 ≤ mc) (hs : slots + 6 ≤ ms) :
    W p l e R s m args below meth c H locs cells slots (vx_MQ below Qc XC args s mc ms free) (F0 m pc ls rest) := by
  intro T hT X
  have htr : e.platform.stackTraces = false := (show e.platform.stackTraces = l.stackTraces by rw [X.admits.platform]).trans hl
  have Y := vx_rebase X (R' := { frames := R.frames, locals := R.locals, cells := 1, slots := 6 }) (Nat.le_refl _) (Nat.le_refl _) hRcells hRslots
  obtain ⟨s', hA⟩ : ∃ z, z = (T.setVm s.vm).setFrames (.invoking m args :: below) := ⟨_, rfl⟩
  rw [← hA] at Y
  have hvm : s'.vm = s.vm := by rw [hA]; rfl
  have hhp : s'.heap = H := by rw [hA]; exact hT
  have hW0 : s.WarmedH s'.vm := by rw [hvm]; exact State.WarmedH.refl s
  have hat' : ∀ w ∈ vx_atS own ic cls names, w.before args s' = true := fun w hw => vx_ot_at hW0 hvm.symm (hgood w (List.mem_cons_of_mem _ (List.mem_cons_of_mem _ hw))) (hat w hw)
  have hk' : (Cond.classLink own ik cls).before args s' = true := vx_ot_at hW0 hvm.symm (hgood _ List.mem_cons_self) hk
  have hini' : (Cond.initialized cls).before args s' = true := vx_ot_at hW0 hvm.symm (hgood _ (List.mem_cons_of_mem _ List.mem_cons_self)) hini
  have hU' : vx_Zq Bundle.tN "UNASSIGNED_STACK" Bundle.steD A s' s'.heap := by rw [hhp]; exact vx_Zq.moved hW0.alike (hU.kept hS.2.1)
  have hN' : vx_Zq Bundle.tN "SUPPRESSED_SENTINEL" Bundle.listD A s' s'.heap := by rw [hhp]; exact vx_Zq.moved hW0.alike (hN.kept hS.2.1)
  have h : ∀ w ∈ Bundle.ownAtoms own ic cls names, w.before args s' = true := vx_own hat' (vx_isRefq hU'.1) (vx_isRefq hN'.1) hU'.2.word hN'.2.word
  have hown' : s'.vm.findClass own = some m.cls := by rw [hvm]; exact hown
  have hins : (Cond.instantiable cls 6).before args s' = true := h _ (by simp [Bundle.ownAtoms])
  obtain ⟨vm₁, cX, kX, hfX, hkX, -, -, X₁, st1⟩ := Y.newCold hexec (own := own) (C := cls) (index := ik) (n := 6) hown' hk' hins hini'
    (g := F0 m pc ls rest) rfl (by rw [hb]; exact d0) (Nat.le_refl _) (Nat.le_refl _)
  generalize hT1 : (T.setVm vm₁).pushCell { cls := cX, slots := kX.instanceTypes.map defaultValue, vm := .none } = T1 at X₁ st1
  have hcat : (Value.ref T.heap.size).category = 1 := rfl
  have hcellA : T1.heap[T.heap.size]? = some (freshCell cX kX) := by rw [← hT1]; exact State.heap_pushCell_size _ _
  have d3' : decode c.code (pc + 3) = .ok (.dup, 1) := by rw [hb]; exact d3
  have d4' : decode c.code (pc + 4) = .ok (.ldc is, 2) := by rw [hb]; exact d4
  have hstr' : vk_R own is text sa s' := vk_R.warm hW0 hstr
  obtain ⟨U, hsteps, hrun, hend, hW, hsame, ce, hce, hO⟩ := X₁.ctorThrowS hexec htr (own := own) (cls := cls) (names := names) (ic := ic) hown' hcls hnames h (fun x hx => nomatch hx) hfX hkX hcellA (by rw [hhp, hT]; exact Nat.le_refl _) (msg := .ref sa) rfl
    (g := { method := m, pc := pc + 6, locals := ls, stack := .ref sa :: .ref T.heap.size :: .ref T.heap.size :: rest, locked := none }) rfl hsize rfl rfl (rest := rest) rfl
    (by rw [hb]; exact d6) (by rw [hb]; exact d9) hout hRframes (by simp only [List.map_cons, List.sum_cons, hcat]; omega) hlocks
  obtain ⟨f1, f2⟩ := vx_frame hsame
  rw [hhp] at f1 f2
  have hWs : s.WarmedH U.vm := State.WarmedH.trans hW0 hW
  have hcl : s.vm.findClass cls = some ce.cls := by
    have h9 := hO.cls
    rw [hvm] at h9
    exact h9
  have hall : s.sameButNew ({ U with vm := s.vm } : State) locs mc ms := by
    subst hA
    obtain ⟨e1, e2⟩ := hsame
    rw [State.setFrames_setFrames] at e1
    have h2 : (T.setVm s.vm).sameButNew ({ U with vm := s.vm } : State) [] (0 + 1) (0 + 6) := ⟨e1, e2⟩
    have h3 := X.same.trans h2
    rw [List.append_nil] at h3
    exact h3.mono hc hs
  refine ⟨U, ?_, .threw T.heap.size, hrun, hend, Or.inr ⟨T.heap.size, rfl, cls, ce, locs, hx U hWs.alike f1 (fun q hq => f2 q hq (fun z hz => nomatch hz)), hce, hO.vm, hcl, hWs, hall, hf⟩⟩
  refine st1 _ ?_
  show Steps p.tables e below (T1.setTop { method := m, pc := pc + 3, locals := ls, stack := .ref T.heap.size :: rest, locked := none }) _
  jvm_step X₁.here [X₁.here.top, hexec, d3', Value.category]
  exact X₁.ldcString hexec (own := own) (text := text) (index := is) (a := sa) hown' hstr'.1 hstr'.2
    (g := { method := m, pc := pc + 4, locals := ls, stack := .ref T.heap.size :: .ref T.heap.size :: rest, locked := none }) rfl d4' _ hsteps
/-- 'throw new E("text")', the text by a wide index -/
theorem vx_throwSW {cc : ByteArray} {pc : Nat} (hexec : p.tables.exec = Jvm.exec) (hb : c.code = cc) (hl : l.stackTraces = false) {own cls text : String} {names : List String} {ik is ic mc ms sa : Nat} {A : Nat → Prop}
    (hown : s.vm.findClass own = some m.cls) (hcls : Bundle.fit cls = true) (hnames : ∀ n ∈ names, Bundle.fit n = true)
    (hk : (Cond.classLink own ik cls).before args s = true) (hini : (Cond.initialized cls).before args s = true) (hstr : vk_R own is text sa s) (hat : ∀ w ∈ vx_atS own ic cls names, w.before args s = true)
    (hgood : ∀ w ∈ Cond.classLink own ik cls :: Cond.initialized cls :: vx_atS own ic cls names, vx_ot w = true)
    (hU : vx_Zq Bundle.tN "UNASSIGNED_STACK" Bundle.steD A s s.heap) (hN : vx_Zq Bundle.tN "SUPPRESSED_SENTINEL" Bundle.listD A s s.heap) (hS : va_S A s.heap H locs) (hsize : ls.size = c.maxLocals)
    (d0 : decode cc pc = .ok (.new ik, 3)) (d3 : decode cc (pc + 3) = .ok (.dup, 1)) (d4 : decode cc (pc + 4) = .ok (.ldc_w is, 3)) (d7 : decode cc (pc + 7) = .ok (.invokespecial ic, 3)) (d10 : decode cc (pc + 10) = .ok (.athrow, 1))
    (hout : ∀ x ∈ c.exceptionTable.toList, covers x (pc + 10) = false)
    (hRframes : names.length + 3 < R.frames) (hRlocals : (rest.map fun v => v.category).sum + (13 * (names.length + 1) + 43) ≤ R.locals) (hRcells : cells + 1 ≤ R.cells) (hRslots : slots + 6 ≤ R.slots) (hlocks : meth.locks = false)
    (hx : ∀ t : State, s.vm.Alike t.vm → H.size ≤ t.heap.size → (∀ q : Nat, q < H.size → t.heap[q]? = H[q]?) → XC cls s t)
    (hf : ∀ z ∈ locs, free z.base) (hc : cells + 1 ≤ mc) (hs : slots + 6 ≤ ms) :
    W p l e R s m args below meth c H locs cells slots (vx_MQ below Qc XC args s mc ms free) (F0 m pc ls rest) := by
  intro T hT X
  have htr : e.platform.stackTraces = false := (show e.platform.stackTraces = l.stackTraces by rw [X.admits.platform]).trans hl
  have Y := vx_rebase X (R' := { frames := R.frames, locals := R.locals, cells := 1, slots := 6 }) (Nat.le_refl _) (Nat.le_refl _) hRcells hRslots
  obtain ⟨s', hA⟩ : ∃ z, z = (T.setVm s.vm).setFrames (.invoking m args :: below) := ⟨_, rfl⟩
  rw [← hA] at Y
  have hvm : s'.vm = s.vm := by rw [hA]; rfl
  have hhp : s'.heap = H := by rw [hA]; exact hT
  have hW0 : s.WarmedH s'.vm := by rw [hvm]; exact State.WarmedH.refl s
  have hat' : ∀ w ∈ vx_atS own ic cls names, w.before args s' = true := fun w hw => vx_ot_at hW0 hvm.symm (hgood w (List.mem_cons_of_mem _ (List.mem_cons_of_mem _ hw))) (hat w hw)
  have hk' : (Cond.classLink own ik cls).before args s' = true := vx_ot_at hW0 hvm.symm (hgood _ List.mem_cons_self) hk
  have hini' : (Cond.initialized cls).before args s' = true := vx_ot_at hW0 hvm.symm (hgood _ (List.mem_cons_of_mem _ List.mem_cons_self)) hini
  have hU' : vx_Zq Bundle.tN "UNASSIGNED_STACK" Bundle.steD A s' s'.heap := by rw [hhp]; exact vx_Zq.moved hW0.alike (hU.kept hS.2.1)
  have hN' : vx_Zq Bundle.tN "SUPPRESSED_SENTINEL" Bundle.listD A s' s'.heap := by rw [hhp]; exact vx_Zq.moved hW0.alike (hN.kept hS.2.1)
  have h : ∀ w ∈ Bundle.ownAtoms own ic cls names, w.before args s' = true := vx_own hat' (vx_isRefq hU'.1) (vx_isRefq hN'.1) hU'.2.word hN'.2.word
  have hown' : s'.vm.findClass own = some m.cls := by rw [hvm]; exact hown
  have hins : (Cond.instantiable cls 6).before args s' = true := h _ (by simp [Bundle.ownAtoms])
  obtain ⟨vm₁, cX, kX, hfX, hkX, -, -, X₁, st1⟩ := Y.newCold hexec (own := own) (C := cls) (index := ik) (n := 6) hown' hk' hins hini'
    (g := F0 m pc ls rest) rfl (by rw [hb]; exact d0) (Nat.le_refl _) (Nat.le_refl _)
  generalize hT1 : (T.setVm vm₁).pushCell { cls := cX, slots := kX.instanceTypes.map defaultValue, vm := .none } = T1 at X₁ st1
  have hcat : (Value.ref T.heap.size).category = 1 := rfl
  have hcellA : T1.heap[T.heap.size]? = some (freshCell cX kX) := by rw [← hT1]; exact State.heap_pushCell_size _ _
  have d3' : decode c.code (pc + 3) = .ok (.dup, 1) := by rw [hb]; exact d3
  have d4' : decode c.code (pc + 4) = .ok (.ldc_w is, 3) := by rw [hb]; exact d4
  have hstr' : vk_R own is text sa s' := vk_R.warm hW0 hstr
  obtain ⟨U, hsteps, hrun, hend, hW, hsame, ce, hce, hO⟩ := X₁.ctorThrowS hexec htr (own := own) (cls := cls) (names := names) (ic := ic) hown' hcls hnames h (fun x hx => nomatch hx) hfX hkX hcellA (by rw [hhp, hT]; exact Nat.le_refl _) (msg := .ref sa) rfl
    (g := { method := m, pc := pc + 7, locals := ls, stack := .ref sa :: .ref T.heap.size :: .ref T.heap.size :: rest, locked := none }) rfl hsize rfl rfl (rest := rest) rfl
    (by rw [hb]; exact d7) (by rw [hb]; exact d10) hout hRframes (by simp only [List.map_cons, List.sum_cons, hcat]; omega) hlocks
  obtain ⟨f1, f2⟩ := vx_frame hsame
  rw [hhp] at f1 f2
  have hWs : s.WarmedH U.vm := State.WarmedH.trans hW0 hW
  have hcl : s.vm.findClass cls = some ce.cls := by
    have h9 := hO.cls
    rw [hvm] at h9
    exact h9
  have hall : s.sameButNew ({ U with vm := s.vm } : State) locs mc ms := by
    subst hA
    obtain ⟨e1, e2⟩ := hsame
    rw [State.setFrames_setFrames] at e1
    have h2 : (T.setVm s.vm).sameButNew ({ U with vm := s.vm } : State) [] (0 + 1) (0 + 6) := ⟨e1, e2⟩
    have h3 := X.same.trans h2
    rw [List.append_nil] at h3
    exact h3.mono hc hs
  refine ⟨U, ?_, .threw T.heap.size, hrun, hend, Or.inr ⟨T.heap.size, rfl, cls, ce, locs, hx U hWs.alike f1 (fun q hq => f2 q hq (fun z hz => nomatch hz)), hce, hO.vm, hcl, hWs, hall, hf⟩⟩
  refine st1 _ ?_
  show Steps p.tables e below (T1.setTop { method := m, pc := pc + 3, locals := ls, stack := .ref T.heap.size :: rest, locked := none }) _
  jvm_step X₁.here [X₁.here.top, hexec, d3', Value.category]
  exact X₁.ldcStringW hexec (own := own) (text := text) (index := is) (a := sa) hown' hstr'.1 hstr'.2
    (g := { method := m, pc := pc + 4, locals := ls, stack := .ref T.heap.size :: .ref T.heap.size :: rest, locked := none }) rfl d4' _ hsteps
end Ends
section Bodies
variable {l : Launch}
theorem vx_ofW {y : MethodName} {ws ws' : List Cond} {rm : Room} {Pc : Array Value → State → Prop} {Qc : Array Value → State → Outcome → State → Prop} {XC : String → State → State → Prop} {mc ms : Nat} {free : Addr → Prop} {cc : ByteArray} {maxL : Nat} {ret : Option FieldType}
    (hy : plainName y.cls = true) (hw : ws = Cond.code y cc maxL ret :: ws')
    (body : ∀ p e s m args below meth c s₁, BodyLoose p l y (headSpec ws rm) cc maxL ret e s m args below meth c s₁ → c.maxLocals = maxL → (∀ x ∈ c.exceptionTable.toList, False) → Pc args s →
      W p l e (headSpec ws rm).room s m args below meth c s.heap [] 0 0 (vx_MQ below Qc XC args s mc ms free) (entryFrame m args maxL)) : vx_Met l y ws rm Pc Qc XC mc ms free := by
  refine MetFree.of_bodyS (code := cc) (maxLocals := maxL) (ret := ret) hy ?_ ?_
  · intro args s m h hn
    obtain ⟨meth, c, h1, h2, h3, h4, h5, h6, -, -⟩ := Cond.code_spec hn (atoms_spec (ws := ws) h _ (by rw [hw]; exact List.mem_cons_self))
    exact ⟨meth, c, h1, h2, h3, h4, h5, h6⟩
  · intro p e s m args below meth c s₁ B hml hP _
    have hh0 : s₁.heap = s.heap := by rw [B.state]; rfl
    have ht : ∀ x ∈ c.exceptionTable.toList, False := by
      obtain ⟨meth9, c9, h1, h2, -, -, -, -, h7, -⟩ := Cond.code_spec B.named (atoms_spec (ws := ws) B.pre _ (by rw [hw]; exact List.mem_cons_self))
      cases Option.some.inj (h1.symm.trans B.method)
      cases Option.some.inj (h2.symm.trans (Stand.of_body B).code)
      intro x hx
      rw [Array.isEmpty_iff.mp h7] at hx
      cases hx
    obtain ⟨t, a1, o, b1, b2, b3⟩ := body p e s m args below meth c s₁ B hml ht hP s₁ hh0 (Stand.of_body B)
    exact ⟨t, o, a1, b1, b2, b3⟩
/-- the table of a body with handlers -/
theorem vx_table {p : Program} {x y : MethodName} {S : Spec} {cc bytes : ByteArray} {maxL maxL' : Nat} {ret ret' : Option FieldType} {e : Env} {s s₁ : State} {m : MethodId} {args : Array Value} {below : List Frame} {meth : Method} {c : Code} {hh : List (Nat × Nat × Nat × Nat)}
    (B : BodyLoose p l y S cc maxL ret e s m args below meth c s₁) (h : (Cond.codeWith y bytes maxL' ret' hh).before args s = true) : c.exceptionTable.toList = tableOf hh := by
  obtain ⟨m9, meth9, c9, hn9, h1, h2, -, -, h6, -⟩ := Cond.codeWith_spec h
  cases Option.some.inj (hn9.symm.trans B.named)
  cases Option.some.inj (h1.symm.trans B.method)
  cases Option.some.inj (h2.symm.trans (Stand.of_body B).code)
  rw [← h6, table_eq]
end Bodies
end VXA
/-! ===== END ===== -/
/-! ===== BEGIN a static call of a method with an exception table ===== -/
section VXS
variable {p : Program} {l : Launch} {e : Env} {R : Room} {s : State} {m : MethodId} {args : Array Value} {below : List Frame} {meth : Method} {c : Code} {T : State} {H : Heap} {locs : List Loc} {cells slots : Nat}
abbrev vx_CSW (R : Room) (s : State) (args : Array Value) (own : String) (index : Nat) (y : MethodName) (bytes : ByteArray) (maxL : Nat) (ret : Option FieldType) (hh : List (Nat × Nat × Nat × Nat)) (ws : List Cond) (rm : Room) (mc ms n : Nat) : Prop :=
  (rm.cells = mc ∧ rm.slots = ms ∧ rm.frames + 1 ≤ R.frames ∧ 8 + (maxL + 11) + rm.locals ≤ R.locals ∧ (∀ w ∈ ws, ∀ (a' : Array Value) (U : State), s.WarmedH U.vm → w.before a' U = true) ∧ Cond.codeWith y bytes maxL ret hh ∈ ws) ∧
  (Cond.codeWith y bytes maxL ret hh).before args s = true ∧ (Cond.initialized y.cls).before args s = true ∧ (y.cls ≠ "java/lang/invoke/MethodHandle" ∧ y.cls ≠ "java/lang/invoke/VarHandle") ∧
  (∀ sig, parseMethodDescriptor y.desc = some sig → n = sig.parameters.length) ∧ (Cond.methodLink own index y).before args s = true ∧ (Cond.static y).before args s = true
theorem vx_cwSW {own : String} {index maxL mc ms : Nat} {y : MethodName} {bytes : ByteArray} {ret : Option FieldType} {hh : List (Nat × Nat × Nat × Nat)} {Ts ws ws' : List Cond} {rm : Room} (n : Nat) (ht : ∀ w ∈ Ts, w.before args s = true) (hT : GoodIn Ts (va_wsS own index y ws)) (hw : ws = Cond.codeWith y bytes maxL ret hh :: ws') (hrc : rm.cells = mc) (hrs : rm.slots = ms)
    (hd : y.cls ≠ "java/lang/invoke/MethodHandle" ∧ y.cls ≠ "java/lang/invoke/VarHandle" ∧ (parseMethodDescriptor y.desc).map (fun d => d.parameters.length) = some n) (hR : rm.frames + 1 ≤ R.frames ∧ 8 + (maxL + 11) + rm.locals ≤ R.locals) :
    vx_CSW R s args own index y bytes maxL ret hh ws rm mc ms n := by
  have ok : ∀ w ∈ va_wsS own index y ws, w.before args s = true := fun w h => ht w (hT w h).1
  have hG : GoodIn Ts ws := fun w h => hT w (by unfold va_wsS; exact List.mem_append_right _ h)
  have hc : Cond.codeWith y bytes maxL ret hh ∈ ws := by rw [hw]; exact List.mem_cons_self
  refine ⟨⟨hrc, hrs, hR.1, hR.2, pay_in ht hG, hc⟩, ht _ (hG _ hc).1, ok _ (by simp [va_wsS]), ⟨hd.1, hd.2.1⟩, fun sig h => ?_, ok _ (by simp [va_wsS]), ok _ (by simp [va_wsS])⟩
  have h2 := hd.2.2
  rw [h] at h2
  exact (Option.some.inj h2).symm
theorem vx_callSW (X : Stand p l e R s m args below meth c T locs cells slots) (hexec : p.tables.exec = Jvm.exec) {own : String} {index : Nat} {y : MethodName} {bytes : ByteArray} {maxL : Nat} {ret : Option FieldType} {hh : List (Nat × Nat × Nat × Nat)}
    (hown : s.vm.findClass own = some m.cls) (hlink : (Cond.methodLink own index y).before args s = true) (hstat : (Cond.static y).before args s = true) (hinit : (Cond.initialized y.cls).before args s = true)
    (hcode : (Cond.codeWith y bytes maxL ret hh).before args s = true) (hy : y.cls ≠ "java/lang/invoke/MethodHandle" ∧ y.cls ≠ "java/lang/invoke/VarHandle")
    {W9 : Nat} {Pre : Pt → Array Value → Prop} {Post : Pt → Array Value → Option Value → Pt → Prop} (hK : Back l R p e below s args y 3 W9 Pre Post)
    {g : JFrame} (hg : g.method = m) (hsize : g.locals.size = c.maxLocals) {argsL rest : List Value} (hlen : ∀ sig, parseMethodDescriptor y.desc = some sig → argsL.length = sig.parameters.length)
    (hstack : g.stack = argsL.reverse ++ rest) (hW : 2 * g.monitorRoom + (rest.map fun v => v.category).sum ≤ W9) (hdg : decode c.code g.pc = .ok (.invokestatic index, 3))
    (hpre : ∀ vm₁, s.WarmedH vm₁ → Pre ⟨T.setVm vm₁, locs, cells, slots⟩ argsL.toArray) :
    ∃ (v : Option Value) (vm₁ : Vm) (B : Pt), s.WarmedH vm₁ ∧ Stand p l e R s m args below meth c B.U B.locs B.cells B.slots ∧ Post ⟨T.setVm vm₁, locs, cells, slots⟩ argsL.toArray v B ∧
      ∀ target, Steps p.tables e below (B.U.setTop { g with pc := g.pc + 3, stack := v.toList ++ rest }) target → Steps p.tables e below (T.setTop g) target := by
  obtain ⟨mk, methM, cM, hnamed, hmethM, -, -, -, -, -, -, hsigM⟩ := Cond.codeWith_spec hcode
  have hstatic : methM.isStatic = true := Cond.static_spec hnamed hmethM hstat
  obtain ⟨kP, hkP, -⟩ := className_of_methodNamed hnamed
  have hinitP : kP.init = .initialized := Cond.initialized_spec (findClass_of_methodNamed hnamed) hkP hinit
  obtain ⟨vm₁, X₁, hstep₁⟩ := X.invokestatic hexec hown hlink hnamed hmethM hstatic hkP hinitP hy (g := g) hg (argsL := argsL) (rest := rest) (hlen _ hsigM) hstack hdg
  obtain ⟨v, B, X', hpost, hsteps⟩ := hK m meth c ⟨T.setVm vm₁, locs, cells, slots⟩ { g with stack := rest } (.invokestatic index) mk argsL.toArray X₁ hg hsize hdg hW (X₁.named hnamed) (hpre vm₁ X₁.warmed)
  exact ⟨v, vm₁, B, X₁.warmed, X', hpost, fun target h => hstep₁ _ fun acts => by rw [doInvoke_state]; exact hsteps.trans h⟩
theorem vx_runSW {y : MethodName} {bytes cc : ByteArray} {maxL nL mc ms n index : Nat} {ret : Option FieldType} {hh : List (Nat × Nat × Nat × Nat)} {ws : List Cond} {rm : Room} {Pc : Array Value → State → Prop} {Qc : Array Value → State → Outcome → State → Prop} {free : Addr → Prop} {Ts : List Cond} {own : String} {As rest : List Value} {g : JFrame}
    (S : CallFix p m c cc nL s args Ts own) (hM : Met l y ws rm Pc Qc mc ms free) (cw : vx_CSW R s args own index y bytes maxL ret hh ws rm mc ms n) (hp : PreS s H Pc As)
    (hg : g.method = m) (hn : As.length = n) (hsize : g.locals.size = nL) (hstack : g.stack = As.reverse ++ rest) (hW : 2 * g.monitorRoom + (rest.map fun v => v.category).sum ≤ 8) (hdg : decode cc g.pc = .ok (.invokestatic index, 3)) (hf : cells + mc ≤ R.cells ∧ slots + ms ≤ R.slots) :
    va_Run p l e R s m args below meth c H locs cells slots mc ms g rest (Qc As.toArray) (free) := by
  obtain ⟨⟨hrc, hrs, hfr, hlo, hws, hcw⟩, hcode, hini, hy, hlen, hl, hstt⟩ := cw
  have hK : Back l R p e below s args y 3 8 (PreOf R mc ms Pc) (PostOf Qc mc ms free) := va_backW (hh := hh) (bytes := bytes) (maxL := maxL) (ret := ret) hM hp.1 hrc hrs hfr hlo hws hcw (fun a' U hW => word_at hW (Or.inl (by first | rfl | simp [Cond.onTables, Cond.keeps, Cond.steady])) hini)
  obtain ⟨hx, hb, hml, ho, -⟩ := S
  intro T hT X
  obtain ⟨v, vm₁, ⟨U', l2, c2, s2⟩, hW₁, X', ⟨g', mk, t, L, e1, e2, hq, h1, hL, h2, h3⟩, st⟩ := vx_callSW X hx (hh := hh) (bytes := bytes) (maxL := maxL) (ret := ret) ho hl hstt hini hcode hy hK hg (hsize.trans hml.symm) (argsL := As) (rest := rest) (fun sig h => hn.trans (hlen sig h)) hstack hW (by rw [hb]; exact hdg)
    (fun vm₁ hW₁ => ⟨hf.1, hf.2, hp.2 (T.setVm vm₁) hT hW₁⟩)
  dsimp only [Pt.U, Pt.locs, Pt.cells, Pt.slots] at X' e1 e2 h1 h2 h3 st
  subst h1; subst h2; subst h3
  exact ⟨v, (T.setVm vm₁).calling g' mk As.toArray, t, U', L, hT, X', hL, e1, e2, hq, st⟩
/-- not caught here, past rows that name other classes: it goes on to the caller -/
theorem vx_outP {p : Program} {l : Launch} {e : Env} {R : Room} {s : State} {m : MethodId} {args : Array Value} {below : List Frame} {meth : Method} {c : Code} {H : Heap} {locs : List Loc} {cells slots : Nat} {free : Addr → Prop} {ls : Array Slot} {rest : List Value} {Qc : Array Value → State → Outcome → State → Prop} {XC : String → State → State → Prop}
    {pc : Nat} {own E : String} {ce : Cell} {q : Addr} {mc ms : Nat} (hown : s.vm.findClass own = some m.cls) (hlocks : meth.locks = false)
    (hpass : ∀ z ∈ c.exceptionTable.toList, covers z pc = false ∨ (z.catchType ≠ 0 ∧ ∃ nm : String, (Cond.classLink own z.catchType nm).before args s = true ∧ va_Nc E nm s)) (hcell : H[q]? = some ce) (hv : ce.vm = .none) (hcl : s.vm.findClass E = some ce.cls)
    (hx : ∀ t : State, t.heap = H → s.vm.Alike t.vm → XC E s t) (hf : ∀ z ∈ locs, free z.base) (hc : cells ≤ mc) (hs : slots ≤ ms) :
    vx_W p l e R s m args below meth c H locs cells slots (vx_MQ below Qc XC args s mc ms free) (F0 m pc ls rest) q := by
  intro T hT X
  have hpl : e.platform.magicAccessors = ({} : Platform).magicAccessors := by rw [X.admits.platform]
  obtain ⟨vm', hW', X', st⟩ := X.outThrough hlocks q (g := F0 m pc ls rest) rfl rfl rfl (cell := ce) (by rw [hT]; exact hcell) (by rw [hv]; rfl)
    (by obtain ⟨k9, h9, -⟩ := Vm.findClass_spec hcl; exact ⟨k9, h9⟩) (fun z hz => by
      rcases hpass z hz with h | ⟨hz0, nm, hl1, hn1⟩
      · exact Or.inl h
      · obtain ⟨c6, hc6, hcl6⟩ := Cond.classLink_spec hown hl1 e.platform hpl
        obtain ⟨a8, b8, h1, h2, h3⟩ := hn1
        cases Option.some.inj (h1.symm.trans hcl)
        cases Option.some.inj (h2.symm.trans hc6)
        exact Or.inr ⟨hz0, _, hcl6, h3⟩)
  obtain ⟨g₀, hfr⟩ := X'.frames_eq
  have hcell9 : ((T.setVm vm').setFrames (.throwing q :: below)).heap[q]? = some ce := by
    show T.heap[q]? = some ce
    rw [hT]; exact hcell
  have hend : Ended ((T.setVm vm').setFrames (.throwing q :: below)) below (.threw q) := State.frames_setFrames _ (State.cur_lt_of_frames hfr)
  refine ⟨(T.setVm vm').setFrames (.throwing q :: below), ?_, .threw q, X'.here.running, hend, Or.inr ⟨q, rfl, E, ce, locs, hx _ hT (X'.ends _).1.alike, hcell9, hv, hcl, (X'.ends _).1, (X'.ends _).2.mono hc hs, hf⟩⟩
  rw [X.pushThrowing_eq]
  exact st
/-- a thing of a world lies in the heap -/
theorem vx_lt {D : va_G} {cl : List vw_C} {ws : va_W} {H1 : Heap} (h : va_P D cl ws H1) {k : Nat} {q : Nat × va_E} (hk : ws[k]? = some q) : q.1 < H1.size := (h k q hk).lt
end VXS
/-! ===== END ===== -/
/-! ===== BEGIN methods with a table of their own: called by a name, returning or throwing ===== -/
section VXH
/-! vx_backW, vx_callVX, vx_callSX, vx_callVW, vx_runVW, vx_runVX, vx_runSX, vx_ofWH follow the same proofs as their sisters above (Free/Laws.lean, Shelf42/LK1.lean); vx_outP calls Shelf42/NT130.lean (outThrough). -/
section
variable {l : Launch} {R : Room} {p : Program} {e : Env} {below : List Frame} {s : State} {sargs : Array Value} {y : MethodName} {len W9 : Nat}
theorem vx_backW {ws : List Cond} {rm : Room} {Pc : Array Value → State → Prop} {Qc : Array Value → State → Outcome → State → Prop} {XC : String → State → State → Prop} {mc ms : Nat} {free : Addr → Prop} {bytes : ByteArray} {maxL : Nat} {ret : Option FieldType} {hh : List (Nat × Nat × Nat × Nat)}
    (hM : vx_Met l y ws rm Pc Qc XC mc ms free) (hblind : FrameBlind Pc) (hrc : rm.cells = mc) (hrs : rm.slots = ms)
    (hframes : rm.frames + 1 ≤ R.frames) (hlocals : W9 + (maxL + 11) + rm.locals ≤ R.locals)
    (hws : ∀ w ∈ ws, ∀ a' U, s.WarmedH U.vm → w.before a' U = true) (hcode : Cond.codeWith y bytes maxL ret hh ∈ ws) (hinit : ∀ a' U, s.WarmedH U.vm → (Cond.initialized y.cls).before a' U = true) :
    vx_Back l R p e below s sargs y len W9 (PreOf R mc ms Pc) (PostOf Qc mc ms free) (vx_Post XC mc ms free) := by
  intro m meth c A g ig mk a X hg hsize hdg hW hn hp
  have h1 : (headSpec ws rm).pre.before a A.U = true := atoms_intro fun w hw => hws w hw _ _ X.warmed
  have h2 : (Cond.codeWith y bytes maxL ret hh).before a A.U = true := hws _ hcode _ _ X.warmed
  have h3 : (Cond.initialized y.cls).before a A.U = true := hinit _ _ X.warmed
  have h4 : A.cells + (headSpec ws rm).room.cells ≤ R.cells := by rw [show (headSpec ws rm).room.cells = mc from hrc]; exact hp.1
  have h5 : A.slots + (headSpec ws rm).room.slots ≤ R.slots := by rw [show (headSpec ws rm).room.slots = ms from hrs]; exact hp.2.1
  have hPc : Pc a (A.U.calling g mk a) := hblind _ _ _ _ hp.2.2
  obtain ⟨U, Ls, c0, s0⟩ := A
  dsimp only [Pt.U, Pt.locs, Pt.cells, Pt.slots] at h1 h2 h3 h4 h5 X hn hPc ⊢
  obtain ⟨m9, methY, cY, hn9, hmY, hcY, -, hlY, -⟩ := Cond.codeWith_spec h2
  cases Option.some.inj (hn9.symm.trans hn)
  obtain ⟨kY, hkY, -⟩ := className_of_methodNamed hn
  have hinitY : kY.init = .initialized := Cond.initialized_spec (findClass_of_methodNamed hn) hkY h3
  have h : At U g.method c below := by rw [hg]; exact X.here
  have hlocals9 : W9 + (maxL + 11) + (headSpec ws rm).room.locals ≤ R.locals := hlocals
  have happ : (headSpec ws rm).appliesLoose y e.platform (U.calling g mk a) = true :=
    Spec.appliesLoose_calling (g := g) h hdg hn hkY hinitY
      (X.room_calling (g := g) (R' := (headSpec ws rm).room) hsize hmY hcY hframes (by rw [hlY]; omega) h4 h5) h1
  obtain ⟨mid, hmid⟩ := h.above
  have hfr : (U.setTop g).frames = (.java g :: mid) ++ below := by rw [State.frames_setTop' g h.top, hmid]; rfl
  obtain ⟨o, s₂, hsteps, -, hend, hq⟩ := Steps.callFree hM p X.admits X.cas X.clock (acts := []) hfr happ hPc trivial
  have hq' : vx_Q Qc XC mc ms free a (U.calling g mk a) o s₂ := hq
  rw [State.frames_setTop' g h.top] at hend
  obtain ⟨g₀, hg0⟩ := Option.isSome_iff_exists.mp h.top
  obtain ⟨r, hr⟩ := State.topJava?_eq_some.mp hg0
  have hr' : (({ U with heap := s₂.heap, slotsUsed := s₂.slotsUsed } : State).setVm s₂.vm).frames = .java g₀ :: r := hr
  rcases hq' with ⟨hqc, L, hfe, hL⟩ | ⟨q, rfl, E, ce, L, hx, hce, hcv, hcl, hW₂, hsm, hL⟩
  · obtain ⟨⟨v, rfl⟩, hW₂, e2, q2, q3, q4, q5, q6⟩ := id hfe
    have e3 : s₂ = ({ (U.calling g mk a).setFrames s₂.frames with heap := s₂.heap, slotsUsed := s₂.slotsUsed } : State).setVm s₂.vm := by
      have : s₂ = ({ s₂ with vm := (U.calling g mk a).vm } : State).setVm s₂.vm := rfl
      rw [e2] at this
      exact this
    obtain ⟨c₂, i₂, len₂, hc₂, hd₂, hf₂⟩ := hend
    have hW' : U.WarmedH s₂.vm := hW₂
    have hcc : c₂ = c := by
      have h1 : s₂.code? g.method = U.code? g.method := by
        rw [State.code?_eq, State.code?_eq, hW'.alike.method?]
      exact Option.some.inj (hc₂.symm.trans (h1.trans h.code))
    subst hcc
    have hlen : len₂ = len := by rw [hdg] at hd₂; cases hd₂; rfl
    subst hlen
    have hs₂ : s₂ = (({ U with heap := s₂.heap, slotsUsed := s₂.slotsUsed } : State).setVm s₂.vm).setTop { g with pc := g.pc + len₂, stack := v.toList ++ g.stack } := by
      refine e3.trans ?_
      rw [hf₂, State.calling_eq h.top, State.setFrames_setFrames, State.setTop_of_frames _ hr', hr]
      rfl
    have hsame : U.sameButNew ({ U with heap := s₂.heap, slotsUsed := s₂.slotsUsed } : State) L mc ms := by
      refine ⟨?_, q2, q3, q4, q5, q6⟩
      obtain ⟨t, ht, -⟩ := State.frames_cons hr
      show ({ U with heap := s₂.heap, slotsUsed := s₂.slotsUsed } : State) = { U.setFrames U.frames with heap := s₂.heap, slotsUsed := s₂.slotsUsed }
      rw [State.setFrames_self ht]
    subst hg
    refine Or.inl ⟨v, ⟨(({ U with heap := s₂.heap, slotsUsed := s₂.slotsUsed } : State).setVm s₂.vm), Ls ++ L, c0 + mc, s0 + ms⟩,
      ⟨X.admits, X.cas, X.clock, X.frames, X.room, X.hears, X.method, X.code, (X.here.setHeapUsed s₂.heap s₂.slotsUsed).setVm hW'.alike, X.tail, State.WarmedH.trans X.warmed hW', X.limits, X.bytes, X.same.trans (hsame.setVm s.vm)⟩,
      ⟨g, mk, s₂, L, rfl, rfl, hqc, rfl, hL, rfl, rfl⟩, ?_⟩
    show Steps p.tables e below _ ((({ U with heap := s₂.heap, slotsUsed := s₂.slotsUsed } : State).setVm s₂.vm).setTop { g with pc := g.pc + len₂, stack := v.toList ++ g.stack })
    rw [← hs₂]
    exact hsteps
  · obtain ⟨e2, q2, q3, q4, q5, q6⟩ := id hsm
    have e3 : s₂ = ({ (U.calling g mk a).setFrames s₂.frames with heap := s₂.heap, slotsUsed := s₂.slotsUsed } : State).setVm s₂.vm := by
      have : s₂ = ({ s₂ with vm := (U.calling g mk a).vm } : State).setVm s₂.vm := rfl
      rw [e2] at this
      exact this
    have hf₂ : s₂.frames = .throwing q :: .java g :: U.frames.tail := hend
    have hW' : U.WarmedH s₂.vm := hW₂
    have hs₂ : s₂ = ((({ U with heap := s₂.heap, slotsUsed := s₂.slotsUsed } : State).setVm s₂.vm).setTop g).pushFrame (.throwing q) := by
      refine e3.trans ?_
      rw [hf₂, State.calling_eq h.top, State.setFrames_setFrames, State.pushFrame, State.frames_setTop _ hr', State.setTop_of_frames _ hr', State.setFrames_setFrames, hr]
      rfl
    have hsame : U.sameButNew ({ U with heap := s₂.heap, slotsUsed := s₂.slotsUsed } : State) L mc ms := by
      refine ⟨?_, q2, q3, q4, q5, q6⟩
      obtain ⟨t, ht, -⟩ := State.frames_cons hr
      show ({ U with heap := s₂.heap, slotsUsed := s₂.slotsUsed } : State) = { U.setFrames U.frames with heap := s₂.heap, slotsUsed := s₂.slotsUsed }
      rw [State.setFrames_self ht]
    subst hg
    refine Or.inr ⟨q, ⟨(({ U with heap := s₂.heap, slotsUsed := s₂.slotsUsed } : State).setVm s₂.vm), Ls ++ L, c0 + mc, s0 + ms⟩,
      ⟨X.admits, X.cas, X.clock, X.frames, X.room, X.hears, X.method, X.code, (X.here.setHeapUsed s₂.heap s₂.slotsUsed).setVm hW'.alike, X.tail, State.WarmedH.trans X.warmed hW', X.limits, X.bytes, X.same.trans (hsame.setVm s.vm)⟩,
      ⟨g, mk, s₂, L, E, ce, rfl, rfl, hx, hce, hcv, hcl, rfl, hL, rfl, rfl⟩, ?_⟩
    show Steps p.tables e below _ (((({ U with heap := s₂.heap, slotsUsed := s₂.slotsUsed } : State).setVm s₂.vm).setTop g).pushFrame (.throwing q))
    rw [← hs₂]
    exact hsteps
end
variable {p : Program} {l : Launch} {e : Env} {R : Room} {s : State} {m : MethodId} {args : Array Value} {below : List Frame} {meth : Method} {c : Code} {T : State} {H : Heap} {locs : List Loc} {cells slots : Nat}
theorem vx_callVX (X : Stand p l e R s m args below meth c T locs cells slots) (hexec : p.tables.exec = Jvm.exec) {own C : String} {index : Nat} {y : MethodName} {bytes : ByteArray} {maxL : Nat} {ret : Option FieldType} {hh : List (Nat × Nat × Nat × Nat)}
    (hown : s.vm.findClass own = some m.cls) (hlink : (Cond.methodLink own index y).before args s = true) (hinst : (Cond.instanceMethod y).before args s = true) (hsel : (Cond.selects C y y).before args s = true)
    (hcode : (Cond.codeWith y bytes maxL ret hh).before args s = true) (hy : y.cls ≠ "java/lang/invoke/MethodHandle" ∧ y.cls ≠ "java/lang/invoke/VarHandle")
    {W9 : Nat} {Pre : Pt → Array Value → Prop} {Post : Pt → Array Value → Option Value → Pt → Prop} {PostX : Pt → Array Value → Addr → Pt → Prop} (hK : vx_Back l R p e below s args y 3 W9 Pre Post PostX)
    {b : Addr} {cellB : Cell} (hcell : T.heap[b]? = some cellB) (hobj : cellB.vm.isStatics = false) (hcls : s.vm.findClass C = some cellB.cls)
    {g : JFrame} (hg : g.method = m) (hsize : g.locals.size = c.maxLocals) {argsL rest : List Value} (hlen : ∀ sig, parseMethodDescriptor y.desc = some sig → argsL.length = sig.parameters.length)
    (hstack : g.stack = argsL.reverse ++ .ref b :: rest) (hW : 2 * g.monitorRoom + (rest.map fun v => v.category).sum ≤ W9) (hdg : decode c.code g.pc = .ok (.invokevirtual index, 3))
    (hpre : ∀ vm₁, s.WarmedH vm₁ → Pre ⟨T.setVm vm₁, locs, cells, slots⟩ (Value.ref b :: argsL).toArray) :
    (∃ (v : Option Value) (vm₁ : Vm) (B : Pt), s.WarmedH vm₁ ∧ Stand p l e R s m args below meth c B.U B.locs B.cells B.slots ∧ Post ⟨T.setVm vm₁, locs, cells, slots⟩ (Value.ref b :: argsL).toArray v B ∧
      ∀ target, Steps p.tables e below (B.U.setTop { g with pc := g.pc + 3, stack := v.toList ++ rest }) target → Steps p.tables e below (T.setTop g) target) ∨
    (∃ (q : Addr) (vm₁ : Vm) (B : Pt), s.WarmedH vm₁ ∧ Stand p l e R s m args below meth c B.U B.locs B.cells B.slots ∧ PostX ⟨T.setVm vm₁, locs, cells, slots⟩ (Value.ref b :: argsL).toArray q B ∧
      Steps p.tables e below (T.setTop g) ((B.U.setTop { g with stack := rest }).pushFrame (.throwing q))) := by
  obtain ⟨mk, methM, hnamed, hmethM, hstM, habM⟩ := Cond.instanceMethod_spec hinst
  obtain ⟨m8, methM', cM, hn8, hmethM', -, -, -, -, -, -, hsigM⟩ := Cond.codeWith_spec hcode
  cases Option.some.inj (hn8.symm.trans hnamed)
  cases hmethM.symm.trans hmethM'
  obtain ⟨c2, r2, m2, q1, q2, q3, q4, kP, hkP, hkPi⟩ := Cond.selects_spec hsel
  cases hcls.symm.trans q1
  cases (State.methodFound?_of_named hnamed hy).symm.trans q2
  cases hnamed.symm.trans q3
  have hselP : selectMethod e.platform s.vm cellB.cls mk = .method mk := by rw [Launch.admits_selectMethod X.admits]; exact q4
  obtain ⟨vm₁, X₁, hstep₁⟩ := X.invokevirtual hexec hown hlink hnamed hmethM hstM hkP hkPi hy (a := b) (cell := cellB) hcell
    (fun z h => by rw [h] at hobj; cases hobj) hselP hmethM habM hkP hkPi (g := g) hg (argsL := argsL) (rest := rest) (hlen _ hsigM) hstack hdg
  rcases hK m meth c ⟨T.setVm vm₁, locs, cells, slots⟩ { g with stack := rest } (.invokevirtual index) mk (Value.ref b :: argsL).toArray X₁ hg hsize hdg hW (X₁.named hnamed) (hpre vm₁ X₁.warmed) with ⟨v, B, X', hpost, hsteps⟩ | ⟨q, B, X', hpost, hsteps⟩
  · exact Or.inl ⟨v, vm₁, B, X₁.warmed, X', hpost, fun target h => hstep₁ _ fun acts => by rw [doInvoke_state]; exact hsteps.trans h⟩
  · exact Or.inr ⟨q, vm₁, B, X₁.warmed, X', hpost, hstep₁ _ fun acts => by rw [doInvoke_state]; exact hsteps⟩
theorem vx_callSX (X : Stand p l e R s m args below meth c T locs cells slots) (hexec : p.tables.exec = Jvm.exec) {own : String} {index : Nat} {y : MethodName} {bytes : ByteArray} {maxL : Nat} {ret : Option FieldType} {hh : List (Nat × Nat × Nat × Nat)}
    (hown : s.vm.findClass own = some m.cls) (hlink : (Cond.methodLink own index y).before args s = true) (hstat : (Cond.static y).before args s = true) (hinit : (Cond.initialized y.cls).before args s = true)
    (hcode : (Cond.codeWith y bytes maxL ret hh).before args s = true) (hy : y.cls ≠ "java/lang/invoke/MethodHandle" ∧ y.cls ≠ "java/lang/invoke/VarHandle")
    {W9 : Nat} {Pre : Pt → Array Value → Prop} {Post : Pt → Array Value → Option Value → Pt → Prop} {PostX : Pt → Array Value → Addr → Pt → Prop} (hK : vx_Back l R p e below s args y 3 W9 Pre Post PostX)
    {g : JFrame} (hg : g.method = m) (hsize : g.locals.size = c.maxLocals) {argsL rest : List Value} (hlen : ∀ sig, parseMethodDescriptor y.desc = some sig → argsL.length = sig.parameters.length)
    (hstack : g.stack = argsL.reverse ++ rest) (hW : 2 * g.monitorRoom + (rest.map fun v => v.category).sum ≤ W9) (hdg : decode c.code g.pc = .ok (.invokestatic index, 3))
    (hpre : ∀ vm₁, s.WarmedH vm₁ → Pre ⟨T.setVm vm₁, locs, cells, slots⟩ argsL.toArray) :
    (∃ (v : Option Value) (vm₁ : Vm) (B : Pt), s.WarmedH vm₁ ∧ Stand p l e R s m args below meth c B.U B.locs B.cells B.slots ∧ Post ⟨T.setVm vm₁, locs, cells, slots⟩ argsL.toArray v B ∧
      ∀ target, Steps p.tables e below (B.U.setTop { g with pc := g.pc + 3, stack := v.toList ++ rest }) target → Steps p.tables e below (T.setTop g) target) ∨
    (∃ (q : Addr) (vm₁ : Vm) (B : Pt), s.WarmedH vm₁ ∧ Stand p l e R s m args below meth c B.U B.locs B.cells B.slots ∧ PostX ⟨T.setVm vm₁, locs, cells, slots⟩ argsL.toArray q B ∧
      Steps p.tables e below (T.setTop g) ((B.U.setTop { g with stack := rest }).pushFrame (.throwing q))) := by
  obtain ⟨mk, methM, cM, hnamed, hmethM, -, -, -, -, -, -, hsigM⟩ := Cond.codeWith_spec hcode
  have hstatic : methM.isStatic = true := Cond.static_spec hnamed hmethM hstat
  obtain ⟨kP, hkP, -⟩ := className_of_methodNamed hnamed
  have hinitP : kP.init = .initialized := Cond.initialized_spec (findClass_of_methodNamed hnamed) hkP hinit
  obtain ⟨vm₁, X₁, hstep₁⟩ := X.invokestatic hexec hown hlink hnamed hmethM hstatic hkP hinitP hy (g := g) hg (argsL := argsL) (rest := rest) (hlen _ hsigM) hstack hdg
  rcases hK m meth c ⟨T.setVm vm₁, locs, cells, slots⟩ { g with stack := rest } (.invokestatic index) mk argsL.toArray X₁ hg hsize hdg hW (X₁.named hnamed) (hpre vm₁ X₁.warmed) with ⟨v, B, X', hpost, hsteps⟩ | ⟨q, B, X', hpost, hsteps⟩
  · exact Or.inl ⟨v, vm₁, B, X₁.warmed, X', hpost, fun target h => hstep₁ _ fun acts => by rw [doInvoke_state]; exact hsteps.trans h⟩
  · exact Or.inr ⟨q, vm₁, B, X₁.warmed, X', hpost, hstep₁ _ fun acts => by rw [doInvoke_state]; exact hsteps⟩
theorem vx_callVW (X : Stand p l e R s m args below meth c T locs cells slots) (hexec : p.tables.exec = Jvm.exec) {own C : String} {index : Nat} {y : MethodName} {bytes : ByteArray} {maxL : Nat} {ret : Option FieldType} {hh : List (Nat × Nat × Nat × Nat)}
    (hown : s.vm.findClass own = some m.cls) (hlink : (Cond.methodLink own index y).before args s = true) (hinst : (Cond.instanceMethod y).before args s = true) (hsel : (Cond.selects C y y).before args s = true)
    (hcode : (Cond.codeWith y bytes maxL ret hh).before args s = true) (hy : y.cls ≠ "java/lang/invoke/MethodHandle" ∧ y.cls ≠ "java/lang/invoke/VarHandle")
    {W9 : Nat} {Pre : Pt → Array Value → Prop} {Post : Pt → Array Value → Option Value → Pt → Prop} (hK : Back l R p e below s args y 3 W9 Pre Post)
    {b : Addr} {cellB : Cell} (hcell : T.heap[b]? = some cellB) (hobj : cellB.vm.isStatics = false) (hcls : s.vm.findClass C = some cellB.cls)
    {g : JFrame} (hg : g.method = m) (hsize : g.locals.size = c.maxLocals) {argsL rest : List Value} (hlen : ∀ sig, parseMethodDescriptor y.desc = some sig → argsL.length = sig.parameters.length)
    (hstack : g.stack = argsL.reverse ++ .ref b :: rest) (hW : 2 * g.monitorRoom + (rest.map fun v => v.category).sum ≤ W9) (hdg : decode c.code g.pc = .ok (.invokevirtual index, 3))
    (hpre : ∀ vm₁, s.WarmedH vm₁ → Pre ⟨T.setVm vm₁, locs, cells, slots⟩ (Value.ref b :: argsL).toArray) :
    ∃ (v : Option Value) (vm₁ : Vm) (B : Pt), s.WarmedH vm₁ ∧ Stand p l e R s m args below meth c B.U B.locs B.cells B.slots ∧ Post ⟨T.setVm vm₁, locs, cells, slots⟩ (Value.ref b :: argsL).toArray v B ∧
      ∀ target, Steps p.tables e below (B.U.setTop { g with pc := g.pc + 3, stack := v.toList ++ rest }) target → Steps p.tables e below (T.setTop g) target := by
  obtain ⟨mk, methM, hnamed, hmethM, hstM, habM⟩ := Cond.instanceMethod_spec hinst
  obtain ⟨m8, methM', cM, hn8, hmethM', -, -, -, -, -, -, hsigM⟩ := Cond.codeWith_spec hcode
  cases Option.some.inj (hn8.symm.trans hnamed)
  cases hmethM.symm.trans hmethM'
  obtain ⟨c2, r2, m2, q1, q2, q3, q4, kP, hkP, hkPi⟩ := Cond.selects_spec hsel
  cases hcls.symm.trans q1
  cases (State.methodFound?_of_named hnamed hy).symm.trans q2
  cases hnamed.symm.trans q3
  have hselP : selectMethod e.platform s.vm cellB.cls mk = .method mk := by rw [Launch.admits_selectMethod X.admits]; exact q4
  obtain ⟨vm₁, X₁, hstep₁⟩ := X.invokevirtual hexec hown hlink hnamed hmethM hstM hkP hkPi hy (a := b) (cell := cellB) hcell
    (fun z h => by rw [h] at hobj; cases hobj) hselP hmethM habM hkP hkPi (g := g) hg (argsL := argsL) (rest := rest) (hlen _ hsigM) hstack hdg
  obtain ⟨v, B, X', hpost, hsteps⟩ := hK m meth c ⟨T.setVm vm₁, locs, cells, slots⟩ { g with stack := rest } (.invokevirtual index) mk (Value.ref b :: argsL).toArray X₁ hg hsize hdg hW (X₁.named hnamed) (hpre vm₁ X₁.warmed)
  exact ⟨v, vm₁, B, X₁.warmed, X', hpost, fun target h => hstep₁ _ fun acts => by rw [doInvoke_state]; exact hsteps.trans h⟩
abbrev vx_CVW (R : Room) (s : State) (args : Array Value) (own C : String) (index : Nat) (y : MethodName) (bytes : ByteArray) (maxL : Nat) (ret : Option FieldType) (hh : List (Nat × Nat × Nat × Nat)) (ws : List Cond) (rm : Room) (mc ms n : Nat) : Prop :=
  (rm.cells = mc ∧ rm.slots = ms ∧ rm.frames + 1 ≤ R.frames ∧ 8 + (maxL + 11) + rm.locals ≤ R.locals ∧ (∀ w ∈ ws, ∀ (a' : Array Value) (U : State), s.WarmedH U.vm → w.before a' U = true) ∧ Cond.codeWith y bytes maxL ret hh ∈ ws) ∧
  (Cond.codeWith y bytes maxL ret hh).before args s = true ∧ (Cond.initialized y.cls).before args s = true ∧ (y.cls ≠ "java/lang/invoke/MethodHandle" ∧ y.cls ≠ "java/lang/invoke/VarHandle") ∧
  (∀ sig, parseMethodDescriptor y.desc = some sig → n = sig.parameters.length) ∧ (Cond.methodLink own index y).before args s = true ∧ (Cond.instanceMethod y).before args s = true ∧ (Cond.selects C y y).before args s = true
theorem vx_cwVW {own C : String} {index maxL mc ms : Nat} {y : MethodName} {bytes : ByteArray} {ret : Option FieldType} {hh : List (Nat × Nat × Nat × Nat)} {Ts ws ws' : List Cond} {rm : Room} (n : Nat) (ht : ∀ w ∈ Ts, w.before args s = true) (hT : GoodIn Ts (wsV own index C y ws)) (hw : ws = Cond.codeWith y bytes maxL ret hh :: ws') (hrc : rm.cells = mc) (hrs : rm.slots = ms)
    (hd : y.cls = C ∧ y.cls ≠ "java/lang/invoke/MethodHandle" ∧ y.cls ≠ "java/lang/invoke/VarHandle" ∧ (parseMethodDescriptor y.desc).map (fun d => d.parameters.length) = some n) (hR : rm.frames + 1 ≤ R.frames ∧ 8 + (maxL + 11) + rm.locals ≤ R.locals) :
    vx_CVW R s args own C index y bytes maxL ret hh ws rm mc ms n := by
  obtain ⟨hC, hd⟩ := hd
  subst hC
  have ok : ∀ w ∈ wsV own index y.cls y ws, w.before args s = true := fun w h => ht w (hT w h).1
  have hG : GoodIn Ts ws := fun w h => hT w (by unfold wsV; exact List.mem_append_right _ h)
  have hc : Cond.codeWith y bytes maxL ret hh ∈ ws := by rw [hw]; exact List.mem_cons_self
  refine ⟨⟨hrc, hrs, hR.1, hR.2, pay_in ht hG, hc⟩, ht _ (hG _ hc).1, ok _ (by simp [wsV]), ⟨hd.1, hd.2.1⟩, fun sig h => ?_, ok _ (by simp [wsV]), ok _ (by simp [wsV]), ok _ (by simp [wsV])⟩
  have h2 := hd.2.2
  rw [h] at h2
  exact (Option.some.inj h2).symm
theorem vx_runVW {y : MethodName} {bytes cc : ByteArray} {maxL nL mc ms n index : Nat} {ret : Option FieldType} {hh : List (Nat × Nat × Nat × Nat)} {ws : List Cond} {rm : Room} {Pc : Array Value → State → Prop} {Qc : Array Value → State → Outcome → State → Prop} {free : Addr → Prop} {Ts : List Cond} {own C : String} {b : Addr} {As rest : List Value} {g : JFrame}
    (S : CallFix p m c cc nL s args Ts own) (hM : Met l y ws rm Pc Qc mc ms free) (cw : vx_CVW R s args own C index y bytes maxL ret hh ws rm mc ms n) (hp : PreV s H C b Pc As)
    (hg : g.method = m) (hn : As.length = n) (hsize : g.locals.size = nL) (hstack : g.stack = As.reverse ++ .ref b :: rest) (hW : 2 * g.monitorRoom + (rest.map fun v => v.category).sum ≤ 8) (hdg : decode cc g.pc = .ok (.invokevirtual index, 3)) (hf : cells + mc ≤ R.cells ∧ slots + ms ≤ R.slots) :
    va_Run p l e R s m args below meth c H locs cells slots mc ms g rest (Qc (Value.ref b :: As).toArray) free := by
  obtain ⟨⟨hrc, hrs, hfr, hlo, hws, hcw⟩, hcode, hini, hy, hlen, hl, hin, hse⟩ := cw
  have hK : Back l R p e below s args y 3 8 (PreOf R mc ms Pc) (PostOf Qc mc ms free) := va_backW (hh := hh) (bytes := bytes) (maxL := maxL) (ret := ret) hM hp.1 hrc hrs hfr hlo hws hcw (fun a' U hW => word_at hW (Or.inl (by first | rfl | simp [Cond.onTables, Cond.keeps, Cond.steady])) hini)
  obtain ⟨hx, hb, hml, ho, -⟩ := S
  obtain ⟨-, ⟨cellB, hcB, hoB, hclB⟩, hPc⟩ := hp
  intro T hT X
  obtain ⟨v, vm₁, ⟨U', l2, c2, s2⟩, hW₁, X', ⟨g', mk, t, L, e1, e2, hq, h1, hL, h2, h3⟩, st⟩ := vx_callVW X hx (C := C) (hh := hh) (bytes := bytes) (maxL := maxL) (ret := ret) ho hl hin hse hcode hy hK (by rw [hT]; exact hcB) hoB hclB hg (hsize.trans hml.symm) (argsL := As) (rest := rest) (fun sig h => hn.trans (hlen sig h)) hstack hW (by rw [hb]; exact hdg)
    (fun vm₁ hW₁ => ⟨hf.1, hf.2, hPc (T.setVm vm₁) hT hW₁⟩)
  dsimp only [Pt.U, Pt.locs, Pt.cells, Pt.slots] at X' e1 e2 h1 h2 h3 st
  subst h1; subst h2; subst h3
  exact ⟨v, (T.setVm vm₁).calling g' mk (Value.ref b :: As).toArray, t, U', L, hT, X', hL, e1, e2, hq, st⟩
section
variable {y : MethodName} {bytes cc : ByteArray} {maxL nL mc ms n index : Nat} {ret : Option FieldType} {ws : List Cond} {rm : Room} {Pc : Array Value → State → Prop} {Qc : Array Value → State → Outcome → State → Prop} {XC : String → State → State → Prop} {free : Addr → Prop} {Ts : List Cond} {own C : String} {b : Addr} {As rest : List Value} {g : JFrame}
theorem vx_runVX {hh : List (Nat × Nat × Nat × Nat)} (S : CallFix p m c cc nL s args Ts own) (hM : vx_Met l y ws rm Pc Qc XC mc ms free) (cw : vx_CVW R s args own C index y bytes maxL ret hh ws rm mc ms n) (hp : PreV s H C b Pc As)
    (hg : g.method = m) (hn : As.length = n) (hsize : g.locals.size = nL) (hstack : g.stack = As.reverse ++ .ref b :: rest) (hW : 2 * g.monitorRoom + (rest.map fun v => v.category).sum ≤ 8) (hdg : decode cc g.pc = .ok (.invokevirtual index, 3)) (hf : cells + mc ≤ R.cells ∧ slots + ms ≤ R.slots) :
    vx_Run p l e R s m args below meth c H locs cells slots mc ms g rest (Qc (Value.ref b :: As).toArray) XC free := by
  obtain ⟨⟨hrc, hrs, hfr, hlo, hws, hcw⟩, hcode, hini, hy, hlen, hl, hin, hse⟩ := cw
  have hK : vx_Back l R p e below s args y 3 8 (PreOf R mc ms Pc) (PostOf Qc mc ms free) (vx_Post XC mc ms free) := vx_backW (hh := hh) (bytes := bytes) (maxL := maxL) (ret := ret) hM hp.1 hrc hrs hfr hlo hws hcw (fun a' U hW => word_at hW (Or.inl (by first | rfl | simp [Cond.onTables, Cond.keeps, Cond.steady])) hini)
  obtain ⟨hx, hb, hml, ho, -⟩ := S
  obtain ⟨-, ⟨cellB, hcB, hoB, hclB⟩, hPc⟩ := hp
  intro T hT X
  rcases vx_callVX X hx (C := C) (hh := hh) (bytes := bytes) (maxL := maxL) (ret := ret) ho hl hin hse hcode hy hK (by rw [hT]; exact hcB) hoB hclB hg (hsize.trans hml.symm) (argsL := As) (rest := rest) (fun sig h => hn.trans (hlen sig h)) hstack hW (by rw [hb]; exact hdg)
    (fun vm₁ hW₁ => ⟨hf.1, hf.2, hPc (T.setVm vm₁) hT hW₁⟩) with ⟨v, vm₁, ⟨U', l2, c2, s2⟩, hW₁, X', ⟨g', mk, t, L, e1, e2, hq, h1, hL, h2, h3⟩, st⟩ | ⟨q, vm₁, ⟨U', l2, c2, s2⟩, hW₁, X', ⟨g', mk, t, L, E, ce, e1, e2, hq, hce, hcv, hcl, h1, hL, h2, h3⟩, st⟩
  · dsimp only [Pt.U, Pt.locs, Pt.cells, Pt.slots] at X' e1 e2 h1 h2 h3 st
    subst h1; subst h2; subst h3
    exact Or.inl ⟨v, (T.setVm vm₁).calling g' mk (Value.ref b :: As).toArray, t, U', L, hT, X', hL, e1, e2, hq, st⟩
  · dsimp only [Pt.U, Pt.locs, Pt.cells, Pt.slots] at X' e1 e2 h1 h2 h3 st hcl
    subst h1; subst h2; subst h3
    exact Or.inr ⟨q, (T.setVm vm₁).calling g' mk (Value.ref b :: As).toArray, t, U', L, E, ce, hT, X', hL, e1, e2, hq, hce, hcv, vx_cls hW₁ hcl, st⟩
theorem vx_runSX {hh : List (Nat × Nat × Nat × Nat)} (S : CallFix p m c cc nL s args Ts own) (hM : vx_Met l y ws rm Pc Qc XC mc ms free) (cw : vx_CSW R s args own index y bytes maxL ret hh ws rm mc ms n) (hp : PreS s H Pc As)
    (hg : g.method = m) (hn : As.length = n) (hsize : g.locals.size = nL) (hstack : g.stack = As.reverse ++ rest) (hW : 2 * g.monitorRoom + (rest.map fun v => v.category).sum ≤ 8) (hdg : decode cc g.pc = .ok (.invokestatic index, 3)) (hf : cells + mc ≤ R.cells ∧ slots + ms ≤ R.slots) :
    vx_Run p l e R s m args below meth c H locs cells slots mc ms g rest (Qc As.toArray) XC free := by
  obtain ⟨⟨hrc, hrs, hfr, hlo, hws, hcw⟩, hcode, hini, hy, hlen, hl, hstt⟩ := cw
  have hK : vx_Back l R p e below s args y 3 8 (PreOf R mc ms Pc) (PostOf Qc mc ms free) (vx_Post XC mc ms free) := vx_backW (hh := hh) (bytes := bytes) (maxL := maxL) (ret := ret) hM hp.1 hrc hrs hfr hlo hws hcw (fun a' U hW => word_at hW (Or.inl (by first | rfl | simp [Cond.onTables, Cond.keeps, Cond.steady])) hini)
  obtain ⟨hx, hb, hml, ho, -⟩ := S
  intro T hT X
  rcases vx_callSX X hx (hh := hh) (bytes := bytes) (maxL := maxL) (ret := ret) ho hl hstt hini hcode hy hK hg (hsize.trans hml.symm) (argsL := As) (rest := rest) (fun sig h => hn.trans (hlen sig h)) hstack hW (by rw [hb]; exact hdg)
    (fun vm₁ hW₁ => ⟨hf.1, hf.2, hp.2 (T.setVm vm₁) hT hW₁⟩) with ⟨v, vm₁, ⟨U', l2, c2, s2⟩, hW₁, X', ⟨g', mk, t, L, e1, e2, hq, h1, hL, h2, h3⟩, st⟩ | ⟨q, vm₁, ⟨U', l2, c2, s2⟩, hW₁, X', ⟨g', mk, t, L, E, ce, e1, e2, hq, hce, hcv, hcl, h1, hL, h2, h3⟩, st⟩
  · dsimp only [Pt.U, Pt.locs, Pt.cells, Pt.slots] at X' e1 e2 h1 h2 h3 st
    subst h1; subst h2; subst h3
    exact Or.inl ⟨v, (T.setVm vm₁).calling g' mk As.toArray, t, U', L, hT, X', hL, e1, e2, hq, st⟩
  · dsimp only [Pt.U, Pt.locs, Pt.cells, Pt.slots] at X' e1 e2 h1 h2 h3 st hcl
    subst h1; subst h2; subst h3
    exact Or.inr ⟨q, (T.setVm vm₁).calling g' mk As.toArray, t, U', L, E, ce, hT, X', hL, e1, e2, hq, hce, hcv, vx_cls hW₁ hcl, st⟩
end
end VXH
theorem vx_ofWH {l : Launch} {y : MethodName} {ws ws' : List Cond} {rm : Room} {Pc : Array Value → State → Prop} {Qc : Array Value → State → Outcome → State → Prop} {XC : String → State → State → Prop} {mc ms : Nat} {free : Addr → Prop} {cc : ByteArray} {maxL : Nat} {ret : Option FieldType} {hh : List (Nat × Nat × Nat × Nat)}
    (hy : plainName y.cls = true) (hw : ws = Cond.codeWith y cc maxL ret hh :: ws')
    (body : ∀ p e s m args below meth c s₁, BodyLoose p l y (headSpec ws rm) cc maxL ret e s m args below meth c s₁ → c.maxLocals = maxL → Pc args s →
      W p l e (headSpec ws rm).room s m args below meth c s.heap [] 0 0 (vx_MQ below Qc XC args s mc ms free) (entryFrame m args maxL)) : vx_Met l y ws rm Pc Qc XC mc ms free := by
  refine MetFree.of_bodyS (code := cc) (maxLocals := maxL) (ret := ret) hy ?_ ?_
  · intro args s m h hn
    obtain ⟨m9, meth, c, hn9, h1, h2, h3, h4, -, h5, h6, -⟩ := Cond.codeWith_spec (atoms_spec (ws := ws) h _ (by rw [hw]; exact List.mem_cons_self))
    cases hn.symm.trans hn9
    exact ⟨meth, c, h1, h2, h3, h4, h5, h6⟩
  · intro p e s m args below meth c s₁ B hml hP _
    have hh0 : s₁.heap = s.heap := by rw [B.state]; rfl
    obtain ⟨t, a1, o, b1, b2, b3⟩ := body p e s m args below meth c s₁ B hml hP s₁ hh0 (Stand.of_body B)
    exact ⟨t, o, a1, b1, b2, b3⟩
/-! ===== END ===== -/
end
section
/-! ===== BEGIN printed: names, fields, word lists, decode rows ===== -/
def RX0 : String := "CarTangos$Explorer"
def TX0 : u_T := fun k => match k with
  | 0 => ("CarTangos$Explorer", "lengths", "[I", true)
  | 1 => ("CarTangos$Explorer", "taken", "[I", true)
  | 2 => ("CarTangos$Explorer", "costs", "[I", true)
  | 3 => ("CarTangos$Explorer", "found", "[I", true)
  | 4 => ("CarTangos$Explorer", "buckets", "[I", true)
  | 5 => ("CarTangos$Explorer", "filled", "[I", true)
  | 6 => ("CarTangos$Explorer", "cars", "I", false)
  | 7 => ("CarTangos$Explorer", "size", "I", false)
  | 8 => ("CarTangos$Explorer", "start", "I", false)
  | 9 => ("CarTangos$Explorer", "foundCount", "I", false)
  | 10 => ("CarTangos$Explorer", "nextCarOfPlan", "I", false)
  | _ => ("CarTangos$Explorer", "nextChangeOfPlan", "I", false)
def tyX0 : Nat → FieldType := fun k => match k with
  | 0 => .array .int
  | 1 => .array .int
  | 2 => .array .int
  | 3 => .array .int
  | 4 => .array .int
  | 5 => .array .int
  | 6 => .int
  | 7 => .int
  | 8 => .int
  | 9 => .int
  | 10 => .int
  | _ => .int
abbrev wsX00 : List Cond := u_ws RX0 TX0 12
theorem nmX0 : ∀ a, a < 12 → ∀ b, b < 12 → a ≠ b → (TX0 a).2.1 ≠ (TX0 b).2.1 := by decide +kernel
theorem tyX0_ok : ∀ k, k < 12 → parseFieldDescriptor (TX0 k).2.2.1 = some (tyX0 k) := by decide +kernel
abbrev cX0_init : ByteArray := prog_2_method_1_code
def yX0_init : MethodName := ⟨RX0, "<init>", "()V"⟩
abbrev cX0_load : ByteArray := prog_2_method_2_code
def yX0_load : MethodName := ⟨RX0, "load", "(LCarTangos$Park;II)V"⟩
abbrev cX0_addToTable : ByteArray := prog_2_method_3_code
def yX0_addToTable : MethodName := ⟨RX0, "addToTable", "(II)V"⟩
abbrev cX0_together : ByteArray := prog_2_method_4_code
def yX0_together : MethodName := ⟨RX0, "together", "(II)I"⟩
abbrev cX0_exists : ByteArray := prog_2_method_5_code
def yX0_exists : MethodName := ⟨RX0, "exists", "(I)Z"⟩
abbrev cX0_isOutIn : ByteArray := prog_2_method_6_code
def yX0_isOutIn : MethodName := ⟨RX0, "isOutIn", "(I)Z"⟩
abbrev cX0_allArrangements : ByteArray := prog_2_method_7_code
def yX0_allArrangements : MethodName := ⟨RX0, "allArrangements", "()I"⟩
abbrev cX0_behindStep : ByteArray := prog_2_method_8_code
def yX0_behindStep : MethodName := ⟨RX0, "behindStep", "(III)I"⟩
abbrev cX0_behindSlide : ByteArray := prog_2_method_9_code
def yX0_behindSlide : MethodName := ⟨RX0, "behindSlide", "(III)I"⟩
abbrev cX0_costOf : ByteArray := prog_2_method_10_code
def yX0_costOf : MethodName := ⟨RX0, "costOf", "(I)I"⟩
abbrev cX0_forget : ByteArray := prog_2_method_11_code
def yX0_forget : MethodName := ⟨RX0, "forget", "()V"⟩
abbrev cX0_find : ByteArray := prog_2_method_12_code
def yX0_find : MethodName := ⟨RX0, "find", "(II)V"⟩
abbrev cX0_spread : ByteArray := prog_2_method_13_code
def yX0_spread : MethodName := ⟨RX0, "spread", "(I)V"⟩
abbrev cX0_spreadAlong : ByteArray := prog_2_method_14_code
def yX0_spreadAlong : MethodName := ⟨RX0, "spreadAlong", "(IIIII)V"⟩
abbrev cX0_spreadFromStart : ByteArray := prog_2_method_15_code
def yX0_spreadFromStart : MethodName := ⟨RX0, "spreadFromStart", "(I)V"⟩
abbrev cX0_slidesFromStart : ByteArray := prog_2_method_16_code
def yX0_slidesFromStart : MethodName := ⟨RX0, "slidesFromStart", "()I"⟩
abbrev cX0_stepsFromStart : ByteArray := prog_2_method_17_code
def yX0_stepsFromStart : MethodName := ⟨RX0, "stepsFromStart", "()I"⟩
abbrev cX0_slidesFromEnds : ByteArray := prog_2_method_18_code
def yX0_slidesFromEnds : MethodName := ⟨RX0, "slidesFromEnds", "()I"⟩
abbrev cX0_leastCostOut : ByteArray := prog_2_method_19_code
def yX0_leastCostOut : MethodName := ⟨RX0, "leastCostOut", "()I"⟩
abbrev cX0_foundOut : ByteArray := prog_2_method_20_code
def yX0_foundOut : MethodName := ⟨RX0, "foundOut", "()I"⟩
abbrev cX0_farthestFound : ByteArray := prog_2_method_21_code
def yX0_farthestFound : MethodName := ⟨RX0, "farthestFound", "()I"⟩
abbrev cX0_findNextSlide : ByteArray := prog_2_method_22_code
def yX0_findNextSlide : MethodName := ⟨RX0, "findNextSlide", "(I)Z"⟩
abbrev cX0_fuelByBuckets : ByteArray := prog_2_method_23_code
def yX0_fuelByBuckets : MethodName := ⟨RX0, "fuelByBuckets", "()I"⟩
abbrev cX0_isAnyFilled : ByteArray := prog_2_method_24_code
def yX0_isAnyFilled : MethodName := ⟨RX0, "isAnyFilled", "()Z"⟩
abbrev cX0_inBucket : ByteArray := prog_2_method_25_code
def yX0_inBucket : MethodName := ⟨RX0, "inBucket", "(II)I"⟩
abbrev cX0_hasOutFor : ByteArray := prog_2_method_26_code
def yX0_hasOutFor : MethodName := ⟨RX0, "hasOutFor", "(I)Z"⟩
abbrev cX0_emptyBucket : ByteArray := prog_2_method_27_code
def yX0_emptyBucket : MethodName := ⟨RX0, "emptyBucket", "(I)V"⟩
abbrev cX0_cheapen : ByteArray := prog_2_method_28_code
def yX0_cheapen : MethodName := ⟨RX0, "cheapen", "(II)V"⟩
abbrev cX0_isCheaper : ByteArray := prog_2_method_29_code
def yX0_isCheaper : MethodName := ⟨RX0, "isCheaper", "(II)Z"⟩
abbrev cX0_fuelByRounds : ByteArray := prog_2_method_30_code
def yX0_fuelByRounds : MethodName := ⟨RX0, "fuelByRounds", "()I"⟩
abbrev cX0_hasCheapenedAround : ByteArray := prog_2_method_31_code
def yX0_hasCheapenedAround : MethodName := ⟨RX0, "hasCheapenedAround", "(I)Z"⟩
def RX1 : String := "CarTangos$Park"
def TX1 : u_T := fun k => match k with
  | 0 => ("CarTangos$Park", "lanes", "[I", true)
  | 1 => ("CarTangos$Park", "places", "[I", true)
  | 2 => ("CarTangos$Park", "lengths", "[I", true)
  | 3 => ("CarTangos$Park", "loggedCars", "[I", true)
  | 4 => ("CarTangos$Park", "loggedChanges", "[I", true)
  | 5 => ("CarTangos$Park", "cars", "I", false)
  | 6 => ("CarTangos$Park", "walls", "I", false)
  | 7 => ("CarTangos$Park", "logged", "I", false)
  | 8 => ("CarTangos$Park", "hasStop", "Z", false)
  | _ => ("CarTangos$Park", "stop", "I", false)
def tyX1 : Nat → FieldType := fun k => match k with
  | 0 => .array .int
  | 1 => .array .int
  | 2 => .array .int
  | 3 => .array .int
  | 4 => .array .int
  | 5 => .int
  | 6 => .int
  | 7 => .int
  | 8 => .boolean
  | _ => .int
abbrev wsX10 : List Cond := u_ws RX1 TX1 10
theorem nmX1 : ∀ a, a < 10 → ∀ b, b < 10 → a ≠ b → (TX1 a).2.1 ≠ (TX1 b).2.1 := by decide +kernel
theorem tyX1_ok : ∀ k, k < 10 → parseFieldDescriptor (TX1 k).2.2.1 = some (tyX1 k) := by decide +kernel
abbrev cX1_init : ByteArray := prog_3_method_1_code
def yX1_init : MethodName := ⟨RX1, "<init>", "()V"⟩
abbrev cX1_become : ByteArray := prog_3_method_2_code
def yX1_become : MethodName := ⟨RX1, "become", "(LCarTangos$Park;)V"⟩
abbrev cX1_hasCar : ByteArray := prog_3_method_3_code
def yX1_hasCar : MethodName := ⟨RX1, "hasCar", "(I)Z"⟩
abbrev cX1_hasSlide : ByteArray := prog_3_method_4_code
def yX1_hasSlide : MethodName := ⟨RX1, "hasSlide", "(I)Z"⟩
abbrev cX1_hasWallAt : ByteArray := prog_3_method_5_code
def yX1_hasWallAt : MethodName := ⟨RX1, "hasWallAt", "(I)Z"⟩
abbrev cX1_carAt : ByteArray := prog_3_method_6_code
def yX1_carAt : MethodName := ⟨RX1, "carAt", "(I)I"⟩
abbrev cX1_takenCells : ByteArray := prog_3_method_7_code
def yX1_takenCells : MethodName := ⟨RX1, "takenCells", "()I"⟩
abbrev cX1_isRedOut : ByteArray := prog_3_method_8_code
def yX1_isRedOut : MethodName := ⟨RX1, "isRedOut", "()Z"⟩
abbrev cX1_roomOf : ByteArray := prog_3_method_9_code
def yX1_roomOf : MethodName := ⟨RX1, "roomOf", "(II)I"⟩
abbrev cX1_troubleOfEntering : ByteArray := prog_3_method_10_code
def yX1_troubleOfEntering : MethodName := ⟨RX1, "troubleOfEntering", "(III)I"⟩
abbrev cX1_enter : ByteArray := prog_3_method_11_code
def yX1_enter : MethodName := ⟨RX1, "enter", "(III)I"⟩
abbrev cX1_leave : ByteArray := prog_3_method_12_code
def yX1_leave : MethodName := ⟨RX1, "leave", "()I"⟩
abbrev cX1_troubleOfWall : ByteArray := prog_3_method_13_code
def yX1_troubleOfWall : MethodName := ⟨RX1, "troubleOfWall", "(I)I"⟩
abbrev cX1_turnWall : ByteArray := prog_3_method_14_code
def yX1_turnWall : MethodName := ⟨RX1, "turnWall", "(I)Z"⟩
abbrev cX1_troubleOfSliding : ByteArray := prog_3_method_15_code
def yX1_troubleOfSliding : MethodName := ⟨RX1, "troubleOfSliding", "(II)I"⟩
abbrev cX1_makeSlide : ByteArray := prog_3_method_16_code
def yX1_makeSlide : MethodName := ⟨RX1, "makeSlide", "(II)I"⟩
abbrev cX1_unmakeSlide : ByteArray := prog_3_method_17_code
def yX1_unmakeSlide : MethodName := ⟨RX1, "unmakeSlide", "()I"⟩
abbrev cX1_loggedSteps : ByteArray := prog_3_method_18_code
def yX1_loggedSteps : MethodName := ⟨RX1, "loggedSteps", "(I)I"⟩
abbrev cX1_fuelSlideBySlide : ByteArray := prog_3_method_19_code
def yX1_fuelSlideBySlide : MethodName := ⟨RX1, "fuelSlideBySlide", "()I"⟩
abbrev cX1_fuelCarByCar : ByteArray := prog_3_method_20_code
def yX1_fuelCarByCar : MethodName := ⟨RX1, "fuelCarByCar", "()I"⟩
def RX2 : String := "CarTangos$WorksText"
def TX2 : u_T := fun k => match k with
  | 0 => ("CarTangos$WorksText", "codes", "[I", true)
  | _ => ("CarTangos$WorksText", "length", "I", false)
def tyX2 : Nat → FieldType := fun k => match k with
  | 0 => .array .int
  | _ => .int
abbrev wsX20 : List Cond := u_ws RX2 TX2 2
theorem nmX2 : ∀ a, a < 2 → ∀ b, b < 2 → a ≠ b → (TX2 a).2.1 ≠ (TX2 b).2.1 := by decide +kernel
theorem tyX2_ok : ∀ k, k < 2 → parseFieldDescriptor (TX2 k).2.2.1 = some (tyX2 k) := by decide +kernel
abbrev cX2_init : ByteArray := prog_4_method_1_code
def yX2_init : MethodName := ⟨RX2, "<init>", "()V"⟩
abbrev cX2_add : ByteArray := prog_4_method_2_code
def yX2_add : MethodName := ⟨RX2, "add", "(I)I"⟩
abbrev cX2_clear : ByteArray := prog_4_method_3_code
def yX2_clear : MethodName := ⟨RX2, "clear", "()I"⟩
abbrev cX2_codeAt : ByteArray := prog_4_method_4_code
def yX2_codeAt : MethodName := ⟨RX2, "codeAt", "(I)I"⟩
abbrev cX2_digitAt : ByteArray := prog_4_method_5_code
def yX2_digitAt : MethodName := ⟨RX2, "digitAt", "(I)I"⟩
abbrev cX2_signAt : ByteArray := prog_4_method_6_code
def yX2_signAt : MethodName := ⟨RX2, "signAt", "(I)I"⟩
abbrev cX2_cellAt : ByteArray := prog_4_method_7_code
def yX2_cellAt : MethodName := ⟨RX2, "cellAt", "(I)I"⟩
abbrev cX2_nextPart : ByteArray := prog_4_method_8_code
def yX2_nextPart : MethodName := ⟨RX2, "nextPart", "(I)I"⟩
abbrev cX2_errorAt : ByteArray := prog_4_method_9_code
def yX2_errorAt : MethodName := ⟨RX2, "errorAt", "()I"⟩
abbrev cX2_isComplete : ByteArray := prog_4_method_10_code
def yX2_isComplete : MethodName := ⟨RX2, "isComplete", "()Z"⟩
abbrev cX2_isAmong : ByteArray := prog_4_method_11_code
def yX2_isAmong : MethodName := ⟨RX2, "isAmong", "(III)Z"⟩
abbrev cX2_behind : ByteArray := prog_4_method_12_code
def yX2_behind : MethodName := ⟨RX2, "behind", "(II)I"⟩
abbrev cX2_behindBegin : ByteArray := prog_4_method_13_code
def yX2_behindBegin : MethodName := ⟨RX2, "behindBegin", "(I)I"⟩
abbrev cX2_behindWall : ByteArray := prog_4_method_14_code
def yX2_behindWall : MethodName := ⟨RX2, "behindWall", "(I)I"⟩
abbrev cX2_behindEnd : ByteArray := prog_4_method_15_code
def yX2_behindEnd : MethodName := ⟨RX2, "behindEnd", "(I)I"⟩
def RX3 : String := "CarTangos"
def TX3 : u_T := fun k => match k with
  | 0 => ("CarTangos", "now", "LCarTangos$Park;", true)
  | 1 => ("CarTangos", "kept", "LCarTangos$Park;", true)
  | 2 => ("CarTangos", "saved", "[LCarTangos$Park;", true)
  | 3 => ("CarTangos", "explorer", "LCarTangos$Explorer;", true)
  | 4 => ("CarTangos", "text", "LCarTangos$WorksText;", true)
  | 5 => ("CarTangos", "savedCount", "I", false)
  | _ => ("CarTangos", "hasKept", "Z", false)
def tyX3 : Nat → FieldType := fun k => match k with
  | 0 => .object "CarTangos$Park"
  | 1 => .object "CarTangos$Park"
  | 2 => .array (.object "CarTangos$Park")
  | 3 => .object "CarTangos$Explorer"
  | 4 => .object "CarTangos$WorksText"
  | 5 => .int
  | _ => .boolean
abbrev wsX30 : List Cond := u_ws RX3 TX3 7
theorem nmX3 : ∀ a, a < 7 → ∀ b, b < 7 → a ≠ b → (TX3 a).2.1 ≠ (TX3 b).2.1 := by decide +kernel
theorem tyX3_ok : ∀ k, k < 7 → parseFieldDescriptor (TX3 k).2.2.1 = some (tyX3 k) := by decide +kernel
abbrev cX3_init : ByteArray := prog_1_method_1_code
def yX3_init : MethodName := ⟨RX3, "<init>", "()V"⟩
abbrev cX3_addCar : ByteArray := prog_1_method_2_code
def yX3_addCar : MethodName := ⟨RX3, "addCar", "(III)I"⟩
abbrev cX3_dropLast : ByteArray := prog_1_method_3_code
def yX3_dropLast : MethodName := ⟨RX3, "dropLast", "()I"⟩
abbrev cX3_toggleWall : ByteArray := prog_1_method_4_code
def yX3_toggleWall : MethodName := ⟨RX3, "toggleWall", "(I)Z"⟩
abbrev cX3_slide : ByteArray := prog_1_method_5_code
def yX3_slide : MethodName := ⟨RX3, "slide", "(II)I"⟩
abbrev cX3_takeBack : ByteArray := prog_1_method_6_code
def yX3_takeBack : MethodName := ⟨RX3, "takeBack", "()I"⟩
abbrev cX3_rewind : ByteArray := prog_1_method_7_code
def yX3_rewind : MethodName := ⟨RX3, "rewind", "()I"⟩
abbrev cX3_driveOut : ByteArray := prog_1_method_8_code
def yX3_driveOut : MethodName := ⟨RX3, "driveOut", "()I"⟩
abbrev cX3_append : ByteArray := prog_1_method_9_code
def yX3_append : MethodName := ⟨RX3, "append", "(I)I"⟩
abbrev cX3_clearBuffer : ByteArray := prog_1_method_10_code
def yX3_clearBuffer : MethodName := ⟨RX3, "clearBuffer", "()I"⟩
abbrev cX3_firstError : ByteArray := prog_1_method_11_code
def yX3_firstError : MethodName := ⟨RX3, "firstError", "()I"⟩
abbrev cX3_work : ByteArray := prog_1_method_12_code
def yX3_work : MethodName := ⟨RX3, "work", "()I"⟩
abbrev cX3_hasStopped : ByteArray := prog_1_method_13_code
def yX3_hasStopped : MethodName := ⟨RX3, "hasStopped", "()Z"⟩
abbrev cX3_stoppedPart : ByteArray := prog_1_method_14_code
def yX3_stoppedPart : MethodName := ⟨RX3, "stoppedPart", "()I"⟩
abbrev cX3_undo : ByteArray := prog_1_method_15_code
def yX3_undo : MethodName := ⟨RX3, "undo", "()I"⟩
abbrev cX3_keep : ByteArray := prog_1_method_16_code
def yX3_keep : MethodName := ⟨RX3, "keep", "()I"⟩
abbrev cX3_restore : ByteArray := prog_1_method_17_code
def yX3_restore : MethodName := ⟨RX3, "restore", "()I"⟩
abbrev cX3_savedStates : ByteArray := prog_1_method_18_code
def yX3_savedStates : MethodName := ⟨RX3, "savedStates", "()I"⟩
abbrev cX3_cars : ByteArray := prog_1_method_19_code
def yX3_cars : MethodName := ⟨RX3, "cars", "()I"⟩
abbrev cX3_walls : ByteArray := prog_1_method_20_code
def yX3_walls : MethodName := ⟨RX3, "walls", "()I"⟩
abbrev cX3_laneOf : ByteArray := prog_1_method_21_code
def yX3_laneOf : MethodName := ⟨RX3, "laneOf", "(I)I"⟩
abbrev cX3_placeOf : ByteArray := prog_1_method_22_code
def yX3_placeOf : MethodName := ⟨RX3, "placeOf", "(I)I"⟩
abbrev cX3_lengthOf : ByteArray := prog_1_method_23_code
def yX3_lengthOf : MethodName := ⟨RX3, "lengthOf", "(I)I"⟩
abbrev cX3_carOn : ByteArray := prog_1_method_24_code
def yX3_carOn : MethodName := ⟨RX3, "carOn", "(I)I"⟩
abbrev cX3_isWall : ByteArray := prog_1_method_25_code
def yX3_isWall : MethodName := ⟨RX3, "isWall", "(I)Z"⟩
abbrev cX3_freeCells : ByteArray := prog_1_method_26_code
def yX3_freeCells : MethodName := ⟨RX3, "freeCells", "()I"⟩
abbrev cX3_isOut : ByteArray := prog_1_method_27_code
def yX3_isOut : MethodName := ⟨RX3, "isOut", "()Z"⟩
abbrev cX3_room : ByteArray := prog_1_method_28_code
def yX3_room : MethodName := ⟨RX3, "room", "(IZ)I"⟩
abbrev cX3_possibleSlides : ByteArray := prog_1_method_29_code
def yX3_possibleSlides : MethodName := ⟨RX3, "possibleSlides", "()I"⟩
abbrev cX3_logged : ByteArray := prog_1_method_30_code
def yX3_logged : MethodName := ⟨RX3, "logged", "()I"⟩
abbrev cX3_carOfSlide : ByteArray := prog_1_method_31_code
def yX3_carOfSlide : MethodName := ⟨RX3, "carOfSlide", "(I)I"⟩
abbrev cX3_changeBySlide : ByteArray := prog_1_method_32_code
def yX3_changeBySlide : MethodName := ⟨RX3, "changeBySlide", "(I)I"⟩
abbrev cX3_stepsOf : ByteArray := prog_1_method_33_code
def yX3_stepsOf : MethodName := ⟨RX3, "stepsOf", "(I)I"⟩
abbrev cX3_fuel : ByteArray := prog_1_method_34_code
def yX3_fuel : MethodName := ⟨RX3, "fuel", "()I"⟩
abbrev cX3_fuelByCars : ByteArray := prog_1_method_35_code
def yX3_fuelByCars : MethodName := ⟨RX3, "fuelByCars", "()I"⟩
abbrev cX3_fewestSlides : ByteArray := prog_1_method_36_code
def yX3_fewestSlides : MethodName := ⟨RX3, "fewestSlides", "()I"⟩
abbrev cX3_fewestSlidesFromEnds : ByteArray := prog_1_method_37_code
def yX3_fewestSlidesFromEnds : MethodName := ⟨RX3, "fewestSlidesFromEnds", "()I"⟩
abbrev cX3_fewestSteps : ByteArray := prog_1_method_38_code
def yX3_fewestSteps : MethodName := ⟨RX3, "fewestSteps", "()I"⟩
abbrev cX3_leastFuel : ByteArray := prog_1_method_39_code
def yX3_leastFuel : MethodName := ⟨RX3, "leastFuel", "()I"⟩
abbrev cX3_leastFuelByRounds : ByteArray := prog_1_method_40_code
def yX3_leastFuelByRounds : MethodName := ⟨RX3, "leastFuelByRounds", "()I"⟩
abbrev cX3_nextCar : ByteArray := prog_1_method_41_code
def yX3_nextCar : MethodName := ⟨RX3, "nextCar", "()I"⟩
abbrev cX3_nextChange : ByteArray := prog_1_method_42_code
def yX3_nextChange : MethodName := ⟨RX3, "nextChange", "()I"⟩
abbrev cX3_reachable : ByteArray := prog_1_method_43_code
def yX3_reachable : MethodName := ⟨RX3, "reachable", "()I"⟩
abbrev cX3_reachableOut : ByteArray := prog_1_method_44_code
def yX3_reachableOut : MethodName := ⟨RX3, "reachableOut", "()I"⟩
abbrev cX3_farthest : ByteArray := prog_1_method_45_code
def yX3_farthest : MethodName := ⟨RX3, "farthest", "()I"⟩
abbrev cX3_arrangements : ByteArray := prog_1_method_46_code
def yX3_arrangements : MethodName := ⟨RX3, "arrangements", "()I"⟩
abbrev cX3_fewestBehind : ByteArray := prog_1_method_47_code
def yX3_fewestBehind : MethodName := ⟨RX3, "fewestBehind", "(II)I"⟩
abbrev cX3_fewestWithoutLast : ByteArray := prog_1_method_48_code
def yX3_fewestWithoutLast : MethodName := ⟨RX3, "fewestWithoutLast", "()I"⟩
abbrev cX3_fewestWithWall : ByteArray := prog_1_method_49_code
def yX3_fewestWithWall : MethodName := ⟨RX3, "fewestWithWall", "(I)I"⟩
abbrev cX3_reachedShare : ByteArray := prog_1_method_50_code
def yX3_reachedShare : MethodName := ⟨RX3, "reachedShare", "()D"⟩
abbrev cX3_digest : ByteArray := prog_1_method_51_code
def yX3_digest : MethodName := ⟨RX3, "digest", "()J"⟩
abbrev cX3_refuse : ByteArray := prog_1_method_52_code
def yX3_refuse : MethodName := ⟨RX3, "refuse", "(I)V"⟩
abbrev cX3_copy : ByteArray := prog_1_method_53_code
def yX3_copy : MethodName := ⟨RX3, "copy", "(LCarTangos$Park;LCarTangos$Park;)V"⟩
abbrev cX3_save : ByteArray := prog_1_method_54_code
def yX3_save : MethodName := ⟨RX3, "save", "()V"⟩
abbrev cX3_dropOldestSaved : ByteArray := prog_1_method_55_code
def yX3_dropOldestSaved : MethodName := ⟨RX3, "dropOldestSaved", "()V"⟩
abbrev cX3_exploreNow : ByteArray := prog_1_method_56_code
def yX3_exploreNow : MethodName := ⟨RX3, "exploreNow", "()V"⟩
abbrev cX3_hasNextSlide : ByteArray := prog_1_method_57_code
def yX3_hasNextSlide : MethodName := ⟨RX3, "hasNextSlide", "()Z"⟩
abbrev cX3_slidesToDriveOut : ByteArray := prog_1_method_58_code
def yX3_slidesToDriveOut : MethodName := ⟨RX3, "slidesToDriveOut", "()I"⟩
abbrev cX3_makePlan : ByteArray := prog_1_method_59_code
def yX3_makePlan : MethodName := ⟨RX3, "makePlan", "(I)Z"⟩
abbrev cX3_tryPart : ByteArray := prog_1_method_60_code
def yX3_tryPart : MethodName := ⟨RX3, "tryPart", "(I)Z"⟩
abbrev cX3_tryEntering : ByteArray := prog_1_method_61_code
def yX3_tryEntering : MethodName := ⟨RX3, "tryEntering", "(III)Z"⟩
abbrev cX3_tryWall : ByteArray := prog_1_method_62_code
def yX3_tryWall : MethodName := ⟨RX3, "tryWall", "(I)Z"⟩
abbrev cX3_trySliding : ByteArray := prog_1_method_63_code
def yX3_trySliding : MethodName := ⟨RX3, "trySliding", "(II)Z"⟩
abbrev cX3_tryTakingBack : ByteArray := prog_1_method_64_code
def yX3_tryTakingBack : MethodName := ⟨RX3, "tryTakingBack", "()Z"⟩
abbrev cX3_isCell : ByteArray := prog_1_method_65_code
def yX3_isCell : MethodName := ⟨RX3, "isCell", "(I)Z"⟩
abbrev cX3_bitOf : ByteArray := prog_1_method_66_code
def yX3_bitOf : MethodName := ⟨RX3, "bitOf", "(II)I"⟩
abbrev cX3_cellsOf : ByteArray := prog_1_method_67_code
def yX3_cellsOf : MethodName := ⟨RX3, "cellsOf", "(III)I"⟩
abbrev cX3_share : ByteArray := prog_1_method_68_code
def yX3_share : MethodName := ⟨RX3, "share", "(II)D"⟩
abbrev cX3_mix : ByteArray := prog_1_method_69_code
def yX3_mix : MethodName := ⟨RX3, "mix", "(JJ)J"⟩
abbrev cX3_bitsOf : ByteArray := prog_1_method_70_code
def yX3_bitsOf : MethodName := ⟨RX3, "bitsOf", "(D)J"⟩
abbrev cX3_hashOfPark : ByteArray := prog_1_method_71_code
def yX3_hashOfPark : MethodName := ⟨RX3, "hashOfPark", "(J)J"⟩
abbrev cX3_hashOfPlans : ByteArray := prog_1_method_72_code
def yX3_hashOfPlans : MethodName := ⟨RX3, "hashOfPlans", "(J)J"⟩
abbrev cX3_hashOfArrangements : ByteArray := prog_1_method_73_code
def yX3_hashOfArrangements : MethodName := ⟨RX3, "hashOfArrangements", "(J)J"⟩
abbrev cX3_hashOfCells : ByteArray := prog_1_method_74_code
def yX3_hashOfCells : MethodName := ⟨RX3, "hashOfCells", "(J)J"⟩
abbrev cX3_hashOfCars : ByteArray := prog_1_method_75_code
def yX3_hashOfCars : MethodName := ⟨RX3, "hashOfCars", "(J)J"⟩
abbrev cX3_hashOfLog : ByteArray := prog_1_method_76_code
def yX3_hashOfLog : MethodName := ⟨RX3, "hashOfLog", "(J)J"⟩
abbrev cX3_hashOfText : ByteArray := prog_1_method_77_code
def yX3_hashOfText : MethodName := ⟨RX3, "hashOfText", "(J)J"⟩
def RX4 : String := "CarTangosModel"
def TX4 : u_T := fun k => match k with
  | 0 => ("CarTangosModel", "refusal", "I", false)
  | 1 => ("CarTangosModel", "buffer", "[I", true)
  | 2 => ("CarTangosModel", "size", "I", false)
  | 3 => ("CarTangosModel", "now", "[I", true)
  | 4 => ("CarTangosModel", "saved", "[I", true)
  | 5 => ("CarTangosModel", "states", "I", false)
  | 6 => ("CarTangosModel", "kept", "[I", true)
  | 7 => ("CarTangosModel", "isKept", "Z", false)
  | 8 => ("CarTangosModel", "mask", "[I", true)
  | 9 => ("CarTangosModel", "many", "I", false)
  | 10 => ("CarTangosModel", "stones", "I", false)
  | 11 => ("CarTangosModel", "far", "[I", true)
  | 12 => ("CarTangosModel", "queue", "[I", true)
  | 13 => ("CarTangosModel", "isQueued", "[Z", true)
  | 14 => ("CarTangosModel", "tail", "I", false)
  | 15 => ("CarTangosModel", "spot", "I", false)
  | 16 => ("CarTangosModel", "one", "I", false)
  | 17 => ("CarTangosModel", "two", "I", false)
  | 18 => ("CarTangosModel", "three", "I", false)
  | 19 => ("CarTangosModel", "isAll", "Z", false)
  | 20 => ("CarTangosModel", "done", "I", false)
  | _ => ("CarTangosModel", "hash", "J", false)
def tyX4 : Nat → FieldType := fun k => match k with
  | 0 => .int
  | 1 => .array .int
  | 2 => .int
  | 3 => .array .int
  | 4 => .array .int
  | 5 => .int
  | 6 => .array .int
  | 7 => .boolean
  | 8 => .array .int
  | 9 => .int
  | 10 => .int
  | 11 => .array .int
  | 12 => .array .int
  | 13 => .array .boolean
  | 14 => .int
  | 15 => .int
  | 16 => .int
  | 17 => .int
  | 18 => .int
  | 19 => .boolean
  | 20 => .int
  | _ => .long
abbrev wsX40 : List Cond := u_ws RX4 TX4 22
theorem nmX4 : ∀ a, a < 22 → ∀ b, b < 22 → a ≠ b → (TX4 a).2.1 ≠ (TX4 b).2.1 := by decide +kernel
theorem tyX4_ok : ∀ k, k < 22 → parseFieldDescriptor (TX4 k).2.2.1 = some (tyX4 k) := by decide +kernel
abbrev cX4_init : ByteArray := prog_6_method_1_code
def yX4_init : MethodName := ⟨RX4, "<init>", "()V"⟩
abbrev cX4_thrown : ByteArray := prog_6_method_2_code
def yX4_thrown : MethodName := ⟨RX4, "thrown", "()I"⟩
abbrev cX4_refused : ByteArray := prog_6_method_3_code
def yX4_refused : MethodName := ⟨RX4, "refused", "(I)Z"⟩
abbrev cX4_in : ByteArray := prog_6_method_4_code
def yX4_in : MethodName := ⟨RX4, "in", "(JJJ)Z"⟩
abbrev cX4_copyState : ByteArray := prog_6_method_5_code
def yX4_copyState : MethodName := ⟨RX4, "copyState", "([II[II)V"⟩
abbrev cX4_bits : ByteArray := prog_6_method_6_code
def yX4_bits : MethodName := ⟨RX4, "bits", "(I)I"⟩
abbrev cX4_cells : ByteArray := prog_6_method_7_code
def yX4_cells : MethodName := ⟨RX4, "cells", "(III)I"⟩
abbrev cX4_cellsOf : ByteArray := prog_6_method_8_code
def yX4_cellsOf : MethodName := ⟨RX4, "cellsOf", "(I)I"⟩
abbrev cX4_occupied : ByteArray := prog_6_method_9_code
def yX4_occupied : MethodName := ⟨RX4, "occupied", "()I"⟩
abbrev cX4_isCar : ByteArray := prog_6_method_10_code
def yX4_isCar : MethodName := ⟨RX4, "isCar", "(I)Z"⟩
abbrev cX4_isCell : ByteArray := prog_6_method_11_code
def yX4_isCell : MethodName := ⟨RX4, "isCell", "(I)Z"⟩
abbrev cX4_space : ByteArray := prog_6_method_12_code
def yX4_space : MethodName := ⟨RX4, "space", "(II)I"⟩
abbrev cX4_canSlide : ByteArray := prog_6_method_13_code
def yX4_canSlide : MethodName := ⟨RX4, "canSlide", "(II)Z"⟩
abbrev cX4_isFree : ByteArray := prog_6_method_14_code
def yX4_isFree : MethodName := ⟨RX4, "isFree", "()Z"⟩
abbrev cX4_prepares : ByteArray := prog_6_method_15_code
def yX4_prepares : MethodName := ⟨RX4, "prepares", "(II)V"⟩
abbrev cX4_codeNow : ByteArray := prog_6_method_16_code
def yX4_codeNow : MethodName := ⟨RX4, "codeNow", "()I"⟩
abbrev cX4_setOf : ByteArray := prog_6_method_17_code
def yX4_setOf : MethodName := ⟨RX4, "setOf", "(I)I"⟩
abbrev cX4_isWhole : ByteArray := prog_6_method_18_code
def yX4_isWhole : MethodName := ⟨RX4, "isWhole", "(I)Z"⟩
abbrev cX4_isEnd : ByteArray := prog_6_method_19_code
def yX4_isEnd : MethodName := ⟨RX4, "isEnd", "(I)Z"⟩
abbrev cX4_reaches : ByteArray := prog_6_method_20_code
def yX4_reaches : MethodName := ⟨RX4, "reaches", "(II)V"⟩
abbrev cX4_goes : ByteArray := prog_6_method_21_code
def yX4_goes : MethodName := ⟨RX4, "goes", "(IIII)V"⟩
abbrev cX4_spreads : ByteArray := prog_6_method_22_code
def yX4_spreads : MethodName := ⟨RX4, "spreads", "(I)V"⟩
abbrev cX4_forgets : ByteArray := prog_6_method_23_code
def yX4_forgets : MethodName := ⟨RX4, "forgets", "()V"⟩
abbrev cX4_from : ByteArray := prog_6_method_24_code
def yX4_from : MethodName := ⟨RX4, "from", "(II)V"⟩
abbrev cX4_fromEnds : ByteArray := prog_6_method_25_code
def yX4_fromEnds : MethodName := ⟨RX4, "fromEnds", "()V"⟩
abbrev cX4_leastEnd : ByteArray := prog_6_method_26_code
def yX4_leastEnd : MethodName := ⟨RX4, "leastEnd", "()I"⟩
abbrev cX4_fewest : ByteArray := prog_6_method_27_code
def yX4_fewest : MethodName := ⟨RX4, "fewest", "(I)I"⟩
abbrev cX4_fewestEnds : ByteArray := prog_6_method_28_code
def yX4_fewestEnds : MethodName := ⟨RX4, "fewestEnds", "()I"⟩
abbrev cX4_cheapens : ByteArray := prog_6_method_29_code
def yX4_cheapens : MethodName := ⟨RX4, "cheapens", "(II)V"⟩
abbrev cX4_cheaper : ByteArray := prog_6_method_30_code
def yX4_cheaper : MethodName := ⟨RX4, "cheaper", "(III)V"⟩
abbrev cX4_cheapest : ByteArray := prog_6_method_31_code
def yX4_cheapest : MethodName := ⟨RX4, "cheapest", "()I"⟩
abbrev cX4_next : ByteArray := prog_6_method_32_code
def yX4_next : MethodName := ⟨RX4, "next", "()I"⟩
abbrev cX4_planned : ByteArray := prog_6_method_33_code
def yX4_planned : MethodName := ⟨RX4, "planned", "()I"⟩
abbrev cX4_saves : ByteArray := prog_6_method_34_code
def yX4_saves : MethodName := ⟨RX4, "saves", "()V"⟩
abbrev cX4_wrongCar : ByteArray := prog_6_method_35_code
def yX4_wrongCar : MethodName := ⟨RX4, "wrongCar", "(III)I"⟩
abbrev cX4_addOn : ByteArray := prog_6_method_36_code
def yX4_addOn : MethodName := ⟨RX4, "addOn", "(III)I"⟩
abbrev cX4_hasWall : ByteArray := prog_6_method_37_code
def yX4_hasWall : MethodName := ⟨RX4, "hasWall", "(I)Z"⟩
abbrev cX4_canTurn : ByteArray := prog_6_method_38_code
def yX4_canTurn : MethodName := ⟨RX4, "canTurn", "(I)Z"⟩
abbrev cX4_turnOn : ByteArray := prog_6_method_39_code
def yX4_turnOn : MethodName := ⟨RX4, "turnOn", "(I)Z"⟩
abbrev cX4_slideOn : ByteArray := prog_6_method_40_code
def yX4_slideOn : MethodName := ⟨RX4, "slideOn", "(II)I"⟩
abbrev cX4_logCar : ByteArray := prog_6_method_41_code
def yX4_logCar : MethodName := ⟨RX4, "logCar", "(I)I"⟩
abbrev cX4_logBy : ByteArray := prog_6_method_42_code
def yX4_logBy : MethodName := ⟨RX4, "logBy", "(I)I"⟩
abbrev cX4_backOn : ByteArray := prog_6_method_43_code
def yX4_backOn : MethodName := ⟨RX4, "backOn", "()I"⟩
abbrev cX4_canDrive : ByteArray := prog_6_method_44_code
def yX4_canDrive : MethodName := ⟨RX4, "canDrive", "()Z"⟩
abbrev cX4_driveOn : ByteArray := prog_6_method_45_code
def yX4_driveOn : MethodName := ⟨RX4, "driveOn", "()I"⟩
abbrev cX4_addCar : ByteArray := prog_6_method_46_code
def yX4_addCar : MethodName := ⟨RX4, "addCar", "(III)I"⟩
abbrev cX4_dropLast : ByteArray := prog_6_method_47_code
def yX4_dropLast : MethodName := ⟨RX4, "dropLast", "()I"⟩
abbrev cX4_toggleWall : ByteArray := prog_6_method_48_code
def yX4_toggleWall : MethodName := ⟨RX4, "toggleWall", "(I)Z"⟩
abbrev cX4_isChange : ByteArray := prog_6_method_49_code
def yX4_isChange : MethodName := ⟨RX4, "isChange", "(I)Z"⟩
abbrev cX4_slide : ByteArray := prog_6_method_50_code
def yX4_slide : MethodName := ⟨RX4, "slide", "(II)I"⟩
abbrev cX4_takeBack : ByteArray := prog_6_method_51_code
def yX4_takeBack : MethodName := ⟨RX4, "takeBack", "()I"⟩
abbrev cX4_rewind : ByteArray := prog_6_method_52_code
def yX4_rewind : MethodName := ⟨RX4, "rewind", "()I"⟩
abbrev cX4_driveOut : ByteArray := prog_6_method_53_code
def yX4_driveOut : MethodName := ⟨RX4, "driveOut", "()I"⟩
abbrev cX4_append : ByteArray := prog_6_method_54_code
def yX4_append : MethodName := ⟨RX4, "append", "(I)I"⟩
abbrev cX4_clearBuffer : ByteArray := prog_6_method_55_code
def yX4_clearBuffer : MethodName := ⟨RX4, "clearBuffer", "()I"⟩
abbrev cX4_goesOn : ByteArray := prog_6_method_56_code
def yX4_goesOn : MethodName := ⟨RX4, "goesOn", "(I)Z"⟩
abbrev cX4_digit : ByteArray := prog_6_method_57_code
def yX4_digit : MethodName := ⟨RX4, "digit", "(II)Z"⟩
abbrev cX4_car : ByteArray := prog_6_method_58_code
def yX4_car : MethodName := ⟨RX4, "car", "(I)Z"⟩
abbrev cX4_cell : ByteArray := prog_6_method_59_code
def yX4_cell : MethodName := ⟨RX4, "cell", "()Z"⟩
abbrev cX4_change : ByteArray := prog_6_method_60_code
def yX4_change : MethodName := ⟨RX4, "change", "()Z"⟩
abbrev cX4_part : ByteArray := prog_6_method_61_code
def yX4_part : MethodName := ⟨RX4, "part", "(I)Z"⟩
abbrev cX4_isSign : ByteArray := prog_6_method_62_code
def yX4_isSign : MethodName := ⟨RX4, "isSign", "(I)Z"⟩
abbrev cX4_does : ByteArray := prog_6_method_63_code
def yX4_does : MethodName := ⟨RX4, "does", "(I)Z"⟩
abbrev cX4_reads : ByteArray := prog_6_method_64_code
def yX4_reads : MethodName := ⟨RX4, "reads", "(Z)I"⟩
abbrev cX4_firstError : ByteArray := prog_6_method_65_code
def yX4_firstError : MethodName := ⟨RX4, "firstError", "()I"⟩
abbrev cX4_work : ByteArray := prog_6_method_66_code
def yX4_work : MethodName := ⟨RX4, "work", "()I"⟩
abbrev cX4_hasStopped : ByteArray := prog_6_method_67_code
def yX4_hasStopped : MethodName := ⟨RX4, "hasStopped", "()Z"⟩
abbrev cX4_stoppedPart : ByteArray := prog_6_method_68_code
def yX4_stoppedPart : MethodName := ⟨RX4, "stoppedPart", "()I"⟩
abbrev cX4_undo : ByteArray := prog_6_method_69_code
def yX4_undo : MethodName := ⟨RX4, "undo", "()I"⟩
abbrev cX4_keep : ByteArray := prog_6_method_70_code
def yX4_keep : MethodName := ⟨RX4, "keep", "()I"⟩
abbrev cX4_restore : ByteArray := prog_6_method_71_code
def yX4_restore : MethodName := ⟨RX4, "restore", "()I"⟩
abbrev cX4_savedStates : ByteArray := prog_6_method_72_code
def yX4_savedStates : MethodName := ⟨RX4, "savedStates", "()I"⟩
abbrev cX4_told : ByteArray := prog_6_method_73_code
def yX4_told : MethodName := ⟨RX4, "told", "(I)I"⟩
abbrev cX4_cars : ByteArray := prog_6_method_74_code
def yX4_cars : MethodName := ⟨RX4, "cars", "()I"⟩
abbrev cX4_walls : ByteArray := prog_6_method_75_code
def yX4_walls : MethodName := ⟨RX4, "walls", "()I"⟩
abbrev cX4_noCar : ByteArray := prog_6_method_76_code
def yX4_noCar : MethodName := ⟨RX4, "noCar", "(I)Z"⟩
abbrev cX4_laneOf : ByteArray := prog_6_method_77_code
def yX4_laneOf : MethodName := ⟨RX4, "laneOf", "(I)I"⟩
abbrev cX4_placeOf : ByteArray := prog_6_method_78_code
def yX4_placeOf : MethodName := ⟨RX4, "placeOf", "(I)I"⟩
abbrev cX4_lengthOf : ByteArray := prog_6_method_79_code
def yX4_lengthOf : MethodName := ⟨RX4, "lengthOf", "(I)I"⟩
abbrev cX4_carAt : ByteArray := prog_6_method_80_code
def yX4_carAt : MethodName := ⟨RX4, "carAt", "(I)I"⟩
abbrev cX4_carOn : ByteArray := prog_6_method_81_code
def yX4_carOn : MethodName := ⟨RX4, "carOn", "(I)I"⟩
abbrev cX4_isWall : ByteArray := prog_6_method_82_code
def yX4_isWall : MethodName := ⟨RX4, "isWall", "(I)Z"⟩
abbrev cX4_freeCells : ByteArray := prog_6_method_83_code
def yX4_freeCells : MethodName := ⟨RX4, "freeCells", "()I"⟩
abbrev cX4_isOut : ByteArray := prog_6_method_84_code
def yX4_isOut : MethodName := ⟨RX4, "isOut", "()Z"⟩
abbrev cX4_room : ByteArray := prog_6_method_85_code
def yX4_room : MethodName := ⟨RX4, "room", "(IZ)I"⟩
abbrev cX4_slides : ByteArray := prog_6_method_86_code
def yX4_slides : MethodName := ⟨RX4, "slides", "()I"⟩
abbrev cX4_possibleSlides : ByteArray := prog_6_method_87_code
def yX4_possibleSlides : MethodName := ⟨RX4, "possibleSlides", "()I"⟩
abbrev cX4_logged : ByteArray := prog_6_method_88_code
def yX4_logged : MethodName := ⟨RX4, "logged", "()I"⟩
abbrev cX4_noSlide : ByteArray := prog_6_method_89_code
def yX4_noSlide : MethodName := ⟨RX4, "noSlide", "(I)Z"⟩
abbrev cX4_carOfSlide : ByteArray := prog_6_method_90_code
def yX4_carOfSlide : MethodName := ⟨RX4, "carOfSlide", "(I)I"⟩
abbrev cX4_changeBySlide : ByteArray := prog_6_method_91_code
def yX4_changeBySlide : MethodName := ⟨RX4, "changeBySlide", "(I)I"⟩
abbrev cX4_stepsBy : ByteArray := prog_6_method_92_code
def yX4_stepsBy : MethodName := ⟨RX4, "stepsBy", "(I)I"⟩
abbrev cX4_stepsOf : ByteArray := prog_6_method_93_code
def yX4_stepsOf : MethodName := ⟨RX4, "stepsOf", "(I)I"⟩
abbrev cX4_burnt : ByteArray := prog_6_method_94_code
def yX4_burnt : MethodName := ⟨RX4, "burnt", "()I"⟩
abbrev cX4_fuel : ByteArray := prog_6_method_95_code
def yX4_fuel : MethodName := ⟨RX4, "fuel", "()I"⟩
abbrev cX4_fuelByCars : ByteArray := prog_6_method_96_code
def yX4_fuelByCars : MethodName := ⟨RX4, "fuelByCars", "()I"⟩
abbrev cX4_fewestSlides : ByteArray := prog_6_method_97_code
def yX4_fewestSlides : MethodName := ⟨RX4, "fewestSlides", "()I"⟩
abbrev cX4_fewestSlidesFromEnds : ByteArray := prog_6_method_98_code
def yX4_fewestSlidesFromEnds : MethodName := ⟨RX4, "fewestSlidesFromEnds", "()I"⟩
abbrev cX4_fewestSteps : ByteArray := prog_6_method_99_code
def yX4_fewestSteps : MethodName := ⟨RX4, "fewestSteps", "()I"⟩
abbrev cX4_leastFuel : ByteArray := prog_6_method_100_code
def yX4_leastFuel : MethodName := ⟨RX4, "leastFuel", "()I"⟩
abbrev cX4_leastFuelByRounds : ByteArray := prog_6_method_101_code
def yX4_leastFuelByRounds : MethodName := ⟨RX4, "leastFuelByRounds", "()I"⟩
abbrev cX4_nextSlide : ByteArray := prog_6_method_102_code
def yX4_nextSlide : MethodName := ⟨RX4, "nextSlide", "()I"⟩
abbrev cX4_nextCar : ByteArray := prog_6_method_103_code
def yX4_nextCar : MethodName := ⟨RX4, "nextCar", "()I"⟩
abbrev cX4_nextChange : ByteArray := prog_6_method_104_code
def yX4_nextChange : MethodName := ⟨RX4, "nextChange", "()I"⟩
abbrev cX4_reached : ByteArray := prog_6_method_105_code
def yX4_reached : MethodName := ⟨RX4, "reached", "(I)I"⟩
abbrev cX4_reachable : ByteArray := prog_6_method_106_code
def yX4_reachable : MethodName := ⟨RX4, "reachable", "()I"⟩
abbrev cX4_reachableOut : ByteArray := prog_6_method_107_code
def yX4_reachableOut : MethodName := ⟨RX4, "reachableOut", "()I"⟩
abbrev cX4_farthest : ByteArray := prog_6_method_108_code
def yX4_farthest : MethodName := ⟨RX4, "farthest", "()I"⟩
abbrev cX4_all : ByteArray := prog_6_method_109_code
def yX4_all : MethodName := ⟨RX4, "all", "()I"⟩
abbrev cX4_arrangements : ByteArray := prog_6_method_110_code
def yX4_arrangements : MethodName := ⟨RX4, "arrangements", "()I"⟩
abbrev cX4_fewestBehind : ByteArray := prog_6_method_111_code
def yX4_fewestBehind : MethodName := ⟨RX4, "fewestBehind", "(II)I"⟩
abbrev cX4_fewestWithoutLast : ByteArray := prog_6_method_112_code
def yX4_fewestWithoutLast : MethodName := ⟨RX4, "fewestWithoutLast", "()I"⟩
abbrev cX4_fewestWithWall : ByteArray := prog_6_method_113_code
def yX4_fewestWithWall : MethodName := ⟨RX4, "fewestWithWall", "(I)I"⟩
abbrev cX4_share : ByteArray := prog_6_method_114_code
def yX4_share : MethodName := ⟨RX4, "share", "()D"⟩
abbrev cX4_reachedShare : ByteArray := prog_6_method_115_code
def yX4_reachedShare : MethodName := ⟨RX4, "reachedShare", "()D"⟩
abbrev cX4_adds : ByteArray := prog_6_method_116_code
def yX4_adds : MethodName := ⟨RX4, "adds", "(J)V"⟩
abbrev cX4_addsCar : ByteArray := prog_6_method_117_code
def yX4_addsCar : MethodName := ⟨RX4, "addsCar", "(I)V"⟩
abbrev cX4_addsPlans : ByteArray := prog_6_method_118_code
def yX4_addsPlans : MethodName := ⟨RX4, "addsPlans", "()V"⟩
abbrev cX4_digest : ByteArray := prog_6_method_119_code
def yX4_digest : MethodName := ⟨RX4, "digest", "()J"⟩
def RJxe99ae : String := "java/lang/Double"
def TJxe99ae : u_T := fun k => match k with
  | _ => ("", "", "", false)
def tyJxe99ae : Nat → FieldType := fun k => match k with
  | _ => .int
abbrev wsJxe99ae0 : List Cond := u_ws RJxe99ae TJxe99ae 0
theorem nmJxe99ae : ∀ a, a < 0 → ∀ b, b < 0 → a ≠ b → (TJxe99ae a).2.1 ≠ (TJxe99ae b).2.1 := by decide +kernel
theorem tyJxe99ae_ok : ∀ k, k < 0 → parseFieldDescriptor (TJxe99ae k).2.2.1 = some (tyJxe99ae k) := by decide +kernel
abbrev cJxe99ae_isNaN_b9ae7 : ByteArray := prog_7_method_6_code
def yJxe99ae_isNaN_b9ae7 : MethodName := ⟨RJxe99ae, "isNaN", "(D)Z"⟩
abbrev cJxe99ae_doubleToLongBits_ccdee : ByteArray := prog_7_method_23_code
def yJxe99ae_doubleToLongBits_ccdee : MethodName := ⟨RJxe99ae, "doubleToLongBits", "(D)J"⟩
def RJ6 : String := "java/lang/Integer"
def TJ6 : u_T := fun k => match k with
  | _ => ("", "", "", false)
def tyJ6 : Nat → FieldType := fun k => match k with
  | _ => .int
abbrev wsJ60 : List Cond := u_ws RJ6 TJ6 0
theorem nmJ6 : ∀ a, a < 0 → ∀ b, b < 0 → a ≠ b → (TJ6 a).2.1 ≠ (TJ6 b).2.1 := by decide +kernel
theorem tyJ6_ok : ∀ k, k < 0 → parseFieldDescriptor (TJ6 k).2.2.1 = some (tyJ6 k) := by decide +kernel
abbrev cJ6_bitCount_0f7a4 : ByteArray := prog_12_method_49_code
def yJ6_bitCount_0f7a4 : MethodName := ⟨RJ6, "bitCount", "(I)I"⟩
def RJ9 : String := "java/lang/Math"
def TJ9 : u_T := fun k => match k with
  | _ => ("", "", "", false)
def tyJ9 : Nat → FieldType := fun k => match k with
  | _ => .int
abbrev wsJ90 : List Cond := u_ws RJ9 TJ9 0
theorem nmJ9 : ∀ a, a < 0 → ∀ b, b < 0 → a ≠ b → (TJ9 a).2.1 ≠ (TJ9 b).2.1 := by decide +kernel
theorem tyJ9_ok : ∀ k, k < 0 → parseFieldDescriptor (TJ9 k).2.2.1 = some (tyJ9 k) := by decide +kernel
abbrev cJ9_abs_0f7a4 : ByteArray := prog_13_method_59_code
def yJ9_abs_0f7a4 : MethodName := ⟨RJ9, "abs", "(I)I"⟩
abbrev cJ9_max_7cf53 : ByteArray := prog_13_method_65_code
def yJ9_max_7cf53 : MethodName := ⟨RJ9, "max", "(II)I"⟩
abbrev cJ9_min_7cf53 : ByteArray := prog_13_method_69_code
def yJ9_min_7cf53 : MethodName := ⟨RJ9, "min", "(II)I"⟩
def RJ0 : String := "java/lang/String"
def TJ0 : u_T := fun k => match k with
  | _ => ("", "", "", false)
def tyJ0 : Nat → FieldType := fun k => match k with
  | _ => .int
abbrev wsJ00 : List Cond := u_ws RJ0 TJ0 0
theorem nmJ0 : ∀ a, a < 0 → ∀ b, b < 0 → a ≠ b → (TJ0 a).2.1 ≠ (TJ0 b).2.1 := by decide +kernel
theorem tyJ0_ok : ∀ k, k < 0 → parseFieldDescriptor (TJ0 k).2.2.1 = some (tyJ0 k) := by decide +kernel
def RJ10 : String := "java/lang/System"
def TJ10 : u_T := fun k => match k with
  | _ => ("", "", "", false)
def tyJ10 : Nat → FieldType := fun k => match k with
  | _ => .int
abbrev wsJ100 : List Cond := u_ws RJ10 TJ10 0
theorem nmJ10 : ∀ a, a < 0 → ∀ b, b < 0 → a ≠ b → (TJ10 a).2.1 ≠ (TJ10 b).2.1 := by decide +kernel
theorem tyJ10_ok : ∀ k, k < 0 → parseFieldDescriptor (TJ10 k).2.2.1 = some (tyJ10 k) := by decide +kernel
def RL : String := "CarTangosLaw"
abbrev cL_addCar : ByteArray := method_3_code
def yL_addCar : MethodName := ⟨RL, "addCar", "(LCarTangos;III[J)I"⟩
abbrev cL_dropLast : ByteArray := method_4_code
def yL_dropLast : MethodName := ⟨RL, "dropLast", "(LCarTangos;[J)I"⟩
abbrev cL_toggleWall : ByteArray := method_5_code
def yL_toggleWall : MethodName := ⟨RL, "toggleWall", "(LCarTangos;I[J)I"⟩
abbrev cL_slide : ByteArray := method_6_code
def yL_slide : MethodName := ⟨RL, "slide", "(LCarTangos;II[J)I"⟩
abbrev cL_takeBack : ByteArray := method_7_code
def yL_takeBack : MethodName := ⟨RL, "takeBack", "(LCarTangos;[J)I"⟩
abbrev cL_driveOut : ByteArray := method_8_code
def yL_driveOut : MethodName := ⟨RL, "driveOut", "(LCarTangos;[J)I"⟩
abbrev cL_append : ByteArray := method_9_code
def yL_append : MethodName := ⟨RL, "append", "(LCarTangos;I[J)I"⟩
abbrev cL_work : ByteArray := method_10_code
def yL_work : MethodName := ⟨RL, "work", "(LCarTangos;[J)I"⟩
abbrev cL_stoppedPart : ByteArray := method_11_code
def yL_stoppedPart : MethodName := ⟨RL, "stoppedPart", "(LCarTangos;[J)I"⟩
abbrev cL_undo : ByteArray := method_12_code
def yL_undo : MethodName := ⟨RL, "undo", "(LCarTangos;[J)I"⟩
abbrev cL_restore : ByteArray := method_13_code
def yL_restore : MethodName := ⟨RL, "restore", "(LCarTangos;[J)I"⟩
abbrev cL_laneOf : ByteArray := method_14_code
def yL_laneOf : MethodName := ⟨RL, "laneOf", "(LCarTangos;I[J)I"⟩
abbrev cL_placeOf : ByteArray := method_15_code
def yL_placeOf : MethodName := ⟨RL, "placeOf", "(LCarTangos;I[J)I"⟩
abbrev cL_lengthOf : ByteArray := method_16_code
def yL_lengthOf : MethodName := ⟨RL, "lengthOf", "(LCarTangos;I[J)I"⟩
abbrev cL_carOn : ByteArray := method_17_code
def yL_carOn : MethodName := ⟨RL, "carOn", "(LCarTangos;I[J)I"⟩
abbrev cL_isWall : ByteArray := method_18_code
def yL_isWall : MethodName := ⟨RL, "isWall", "(LCarTangos;I[J)I"⟩
abbrev cL_room : ByteArray := method_19_code
def yL_room : MethodName := ⟨RL, "room", "(LCarTangos;IZ[J)I"⟩
abbrev cL_carOfSlide : ByteArray := method_20_code
def yL_carOfSlide : MethodName := ⟨RL, "carOfSlide", "(LCarTangos;I[J)I"⟩
abbrev cL_changeBySlide : ByteArray := method_21_code
def yL_changeBySlide : MethodName := ⟨RL, "changeBySlide", "(LCarTangos;I[J)I"⟩
abbrev cL_stepsOf : ByteArray := method_22_code
def yL_stepsOf : MethodName := ⟨RL, "stepsOf", "(LCarTangos;I[J)I"⟩
abbrev cL_nextCar : ByteArray := method_23_code
def yL_nextCar : MethodName := ⟨RL, "nextCar", "(LCarTangos;[J)I"⟩
abbrev cL_nextChange : ByteArray := method_24_code
def yL_nextChange : MethodName := ⟨RL, "nextChange", "(LCarTangos;[J)I"⟩
abbrev cL_fewestBehind : ByteArray := method_25_code
def yL_fewestBehind : MethodName := ⟨RL, "fewestBehind", "(LCarTangos;II[J)I"⟩
abbrev cL_fewestWithoutLast : ByteArray := method_26_code
def yL_fewestWithoutLast : MethodName := ⟨RL, "fewestWithoutLast", "(LCarTangos;[J)I"⟩
abbrev cL_fewestWithWall : ByteArray := method_27_code
def yL_fewestWithWall : MethodName := ⟨RL, "fewestWithWall", "(LCarTangos;I[J)I"⟩
abbrev cL_law : ByteArray := code
def yL_law : MethodName := ⟨RL, "law", "([I)Z"⟩
abbrev vwCl : List vw_C := [(RX0, TX0, 12), (RX1, TX1, 10), (RX2, TX2, 2), (RX3, TX3, 7), (RX4, TX4, 22)]
end
section
theorem dX0_init_0 : decode cX0_init 0 = .ok (.aload_n 0, 1) := by decide +kernel
theorem dX0_init_1 : decode cX0_init 1 = .ok (.invokespecial 5, 3) := by decide +kernel
theorem dX0_init_4 : decode cX0_init 4 = .ok (.aload_n 0, 1) := by decide +kernel
theorem dX0_init_5 : decode cX0_init 5 = .ok (.bipush 6, 2) := by decide +kernel
theorem dX0_init_7 : decode cX0_init 7 = .ok (.newarray .int, 2) := by decide +kernel
theorem dX0_init_9 : decode cX0_init 9 = .ok (.putfield 11, 3) := by decide +kernel
theorem dX0_init_12 : decode cX0_init 12 = .ok (.aload_n 0, 1) := by decide +kernel
theorem dX0_init_13 : decode cX0_init 13 = .ok (.sipush 4096, 3) := by decide +kernel
theorem dX0_init_16 : decode cX0_init 16 = .ok (.newarray .int, 2) := by decide +kernel
theorem dX0_init_18 : decode cX0_init 18 = .ok (.putfield 15, 3) := by decide +kernel
theorem dX0_init_21 : decode cX0_init 21 = .ok (.aload_n 0, 1) := by decide +kernel
theorem dX0_init_22 : decode cX0_init 22 = .ok (.sipush 4096, 3) := by decide +kernel
theorem dX0_init_25 : decode cX0_init 25 = .ok (.newarray .int, 2) := by decide +kernel
theorem dX0_init_27 : decode cX0_init 27 = .ok (.putfield 18, 3) := by decide +kernel
theorem dX0_init_30 : decode cX0_init 30 = .ok (.aload_n 0, 1) := by decide +kernel
theorem dX0_init_31 : decode cX0_init 31 = .ok (.sipush 4096, 3) := by decide +kernel
theorem dX0_init_34 : decode cX0_init 34 = .ok (.newarray .int, 2) := by decide +kernel
theorem dX0_init_36 : decode cX0_init 36 = .ok (.putfield 21, 3) := by decide +kernel
theorem dX0_init_39 : decode cX0_init 39 = .ok (.aload_n 0, 1) := by decide +kernel
theorem dX0_init_40 : decode cX0_init 40 = .ok (.sipush 16384, 3) := by decide +kernel
theorem dX0_init_43 : decode cX0_init 43 = .ok (.newarray .int, 2) := by decide +kernel
theorem dX0_init_45 : decode cX0_init 45 = .ok (.putfield 24, 3) := by decide +kernel
theorem dX0_init_48 : decode cX0_init 48 = .ok (.aload_n 0, 1) := by decide +kernel
theorem dX0_init_49 : decode cX0_init 49 = .ok (.iconst 4, 1) := by decide +kernel
theorem dX0_init_50 : decode cX0_init 50 = .ok (.newarray .int, 2) := by decide +kernel
theorem dX0_init_52 : decode cX0_init 52 = .ok (.putfield 27, 3) := by decide +kernel
theorem dX0_init_55 : decode cX0_init 55 = .ok (.return_, 1) := by decide +kernel
theorem dX0_load_0 : decode cX0_load 0 = .ok (.aload_n 0, 1) := by decide +kernel
theorem dX0_load_1 : decode cX0_load 1 = .ok (.iconst 0, 1) := by decide +kernel
theorem dX0_load_2 : decode cX0_load 2 = .ok (.iload_n 2, 1) := by decide +kernel
theorem dX0_load_3 : decode cX0_load 3 = .ok (.bipush 6, 2) := by decide +kernel
theorem dX0_load_5 : decode cX0_load 5 = .ok (.invokestatic 30, 3) := by decide +kernel
theorem dX0_load_8 : decode cX0_load 8 = .ok (.invokestatic 36, 3) := by decide +kernel
theorem dX0_load_11 : decode cX0_load 11 = .ok (.putfield 39, 3) := by decide +kernel
theorem dX0_load_14 : decode cX0_load 14 = .ok (.aload_n 0, 1) := by decide +kernel
theorem dX0_load_15 : decode cX0_load 15 = .ok (.iconst 1, 1) := by decide +kernel
theorem dX0_load_16 : decode cX0_load 16 = .ok (.putfield 43, 3) := by decide +kernel
theorem dX0_load_19 : decode cX0_load 19 = .ok (.aload_n 0, 1) := by decide +kernel
theorem dX0_load_20 : decode cX0_load 20 = .ok (.iconst 0, 1) := by decide +kernel
theorem dX0_load_21 : decode cX0_load 21 = .ok (.putfield 46, 3) := by decide +kernel
theorem dX0_load_24 : decode cX0_load 24 = .ok (.aload_n 0, 1) := by decide +kernel
theorem dX0_load_25 : decode cX0_load 25 = .ok (.getfield 15, 3) := by decide +kernel
theorem dX0_load_28 : decode cX0_load 28 = .ok (.iconst 0, 1) := by decide +kernel
theorem dX0_load_29 : decode cX0_load 29 = .ok (.iload_n 3, 1) := by decide +kernel
theorem dX0_load_30 : decode cX0_load 30 = .ok (.iastore, 1) := by decide +kernel
theorem dX0_load_31 : decode cX0_load 31 = .ok (.iconst 0, 1) := by decide +kernel
theorem dX0_load_32 : decode cX0_load 32 = .ok (.istore 4, 2) := by decide +kernel
theorem dX0_load_34 : decode cX0_load 34 = .ok (.iload 4, 2) := by decide +kernel
theorem dX0_load_36 : decode cX0_load 36 = .ok (.aload_n 0, 1) := by decide +kernel
theorem dX0_load_37 : decode cX0_load 37 = .ok (.getfield 39, 3) := by decide +kernel
theorem dX0_load_40 : decode cX0_load 40 = .ok (.if_icmp .ge 69, 3) := by decide +kernel
theorem dX0_load_43 : decode cX0_load 43 = .ok (.iload 4, 2) := by decide +kernel
theorem dX0_load_45 : decode cX0_load 45 = .ok (.bipush 6, 2) := by decide +kernel
theorem dX0_load_47 : decode cX0_load 47 = .ok (.if_icmp .ge 62, 3) := by decide +kernel
theorem dX0_load_50 : decode cX0_load 50 = .ok (.aload_n 0, 1) := by decide +kernel
theorem dX0_load_51 : decode cX0_load 51 = .ok (.getfield 11, 3) := by decide +kernel
theorem dX0_load_54 : decode cX0_load 54 = .ok (.iload 4, 2) := by decide +kernel
theorem dX0_load_56 : decode cX0_load 56 = .ok (.aload_n 1, 1) := by decide +kernel
theorem dX0_load_57 : decode cX0_load 57 = .ok (.getfield 49, 3) := by decide +kernel
theorem dX0_load_60 : decode cX0_load 60 = .ok (.iload 4, 2) := by decide +kernel
theorem dX0_load_62 : decode cX0_load 62 = .ok (.iaload, 1) := by decide +kernel
theorem dX0_load_63 : decode cX0_load 63 = .ok (.iastore, 1) := by decide +kernel
theorem dX0_load_64 : decode cX0_load 64 = .ok (.aload_n 0, 1) := by decide +kernel
theorem dX0_load_65 : decode cX0_load 65 = .ok (.dup, 1) := by decide +kernel
theorem dX0_load_66 : decode cX0_load 66 = .ok (.getfield 46, 3) := by decide +kernel
theorem dX0_load_69 : decode cX0_load 69 = .ok (.aload_n 1, 1) := by decide +kernel
theorem dX0_load_70 : decode cX0_load 70 = .ok (.getfield 52, 3) := by decide +kernel
theorem dX0_load_73 : decode cX0_load 73 = .ok (.iload 4, 2) := by decide +kernel
theorem dX0_load_75 : decode cX0_load 75 = .ok (.iaload, 1) := by decide +kernel
theorem dX0_load_76 : decode cX0_load 76 = .ok (.iconst 2, 1) := by decide +kernel
theorem dX0_load_77 : decode cX0_load 77 = .ok (.iload 4, 2) := by decide +kernel
theorem dX0_load_79 : decode cX0_load 79 = .ok (.imul, 1) := by decide +kernel
theorem dX0_load_80 : decode cX0_load 80 = .ok (.ishl, 1) := by decide +kernel
theorem dX0_load_81 : decode cX0_load 81 = .ok (.iadd, 1) := by decide +kernel
theorem dX0_load_82 : decode cX0_load 82 = .ok (.putfield 46, 3) := by decide +kernel
theorem dX0_load_85 : decode cX0_load 85 = .ok (.aload_n 0, 1) := by decide +kernel
theorem dX0_load_86 : decode cX0_load 86 = .ok (.aload_n 1, 1) := by decide +kernel
theorem dX0_load_87 : decode cX0_load 87 = .ok (.getfield 55, 3) := by decide +kernel
theorem dX0_load_90 : decode cX0_load 90 = .ok (.iload 4, 2) := by decide +kernel
theorem dX0_load_92 : decode cX0_load 92 = .ok (.iaload, 1) := by decide +kernel
theorem dX0_load_93 : decode cX0_load 93 = .ok (.aload_n 1, 1) := by decide +kernel
theorem dX0_load_94 : decode cX0_load 94 = .ok (.getfield 49, 3) := by decide +kernel
theorem dX0_load_97 : decode cX0_load 97 = .ok (.iload 4, 2) := by decide +kernel
theorem dX0_load_99 : decode cX0_load 99 = .ok (.iaload, 1) := by decide +kernel
theorem dX0_load_100 : decode cX0_load 100 = .ok (.invokevirtual 58, 3) := by decide +kernel
theorem dX0_load_103 : decode cX0_load 103 = .ok (.iinc 4 1, 3) := by decide +kernel
theorem dX0_load_106 : decode cX0_load 106 = .ok (.goto (-72), 3) := by decide +kernel
theorem dX0_load_109 : decode cX0_load 109 = .ok (.return_, 1) := by decide +kernel
theorem dX0_addToTable_0 : decode cX0_addToTable 0 = .ok (.aload_n 0, 1) := by decide +kernel
theorem dX0_addToTable_1 : decode cX0_addToTable 1 = .ok (.getfield 43, 3) := by decide +kernel
theorem dX0_addToTable_4 : decode cX0_addToTable 4 = .ok (.istore_n 3, 1) := by decide +kernel
theorem dX0_addToTable_5 : decode cX0_addToTable 5 = .ok (.iconst 3, 1) := by decide +kernel
theorem dX0_addToTable_6 : decode cX0_addToTable 6 = .ok (.istore 4, 2) := by decide +kernel
theorem dX0_addToTable_8 : decode cX0_addToTable 8 = .ok (.iload 4, 2) := by decide +kernel
theorem dX0_addToTable_10 : decode cX0_addToTable 10 = .ok (.ifCond .lt 82, 3) := by decide +kernel
theorem dX0_addToTable_13 : decode cX0_addToTable 13 = .ok (.iload 4, 2) := by decide +kernel
theorem dX0_addToTable_15 : decode cX0_addToTable 15 = .ok (.iload_n 2, 1) := by decide +kernel
theorem dX0_addToTable_16 : decode cX0_addToTable 16 = .ok (.iadd, 1) := by decide +kernel
theorem dX0_addToTable_17 : decode cX0_addToTable 17 = .ok (.iconst 5, 1) := by decide +kernel
theorem dX0_addToTable_18 : decode cX0_addToTable 18 = .ok (.if_icmp .gt 13, 3) := by decide +kernel
theorem dX0_addToTable_21 : decode cX0_addToTable 21 = .ok (.iload_n 1, 1) := by decide +kernel
theorem dX0_addToTable_22 : decode cX0_addToTable 22 = .ok (.iload 4, 2) := by decide +kernel
theorem dX0_addToTable_24 : decode cX0_addToTable 24 = .ok (.iload_n 2, 1) := by decide +kernel
theorem dX0_addToTable_25 : decode cX0_addToTable 25 = .ok (.invokestatic 62, 3) := by decide +kernel
theorem dX0_addToTable_28 : decode cX0_addToTable 28 = .ok (.goto 4, 3) := by decide +kernel
theorem dX0_addToTable_31 : decode cX0_addToTable 31 = .ok (.iconst (-1), 1) := by decide +kernel
theorem dX0_addToTable_32 : decode cX0_addToTable 32 = .ok (.istore 5, 2) := by decide +kernel
theorem dX0_addToTable_34 : decode cX0_addToTable 34 = .ok (.iconst 0, 1) := by decide +kernel
theorem dX0_addToTable_35 : decode cX0_addToTable 35 = .ok (.istore 6, 2) := by decide +kernel
theorem dX0_addToTable_37 : decode cX0_addToTable 37 = .ok (.iload 6, 2) := by decide +kernel
theorem dX0_addToTable_39 : decode cX0_addToTable 39 = .ok (.iload_n 3, 1) := by decide +kernel
theorem dX0_addToTable_40 : decode cX0_addToTable 40 = .ok (.if_icmp .ge 46, 3) := by decide +kernel
theorem dX0_addToTable_43 : decode cX0_addToTable 43 = .ok (.iload_n 3, 1) := by decide +kernel
theorem dX0_addToTable_44 : decode cX0_addToTable 44 = .ok (.iload 4, 2) := by decide +kernel
theorem dX0_addToTable_46 : decode cX0_addToTable 46 = .ok (.imul, 1) := by decide +kernel
theorem dX0_addToTable_47 : decode cX0_addToTable 47 = .ok (.iload 6, 2) := by decide +kernel
theorem dX0_addToTable_49 : decode cX0_addToTable 49 = .ok (.iadd, 1) := by decide +kernel
theorem dX0_addToTable_50 : decode cX0_addToTable 50 = .ok (.sipush 4096, 3) := by decide +kernel
theorem dX0_addToTable_53 : decode cX0_addToTable 53 = .ok (.if_icmp .ge 33, 3) := by decide +kernel
theorem dX0_addToTable_56 : decode cX0_addToTable 56 = .ok (.aload_n 0, 1) := by decide +kernel
theorem dX0_addToTable_57 : decode cX0_addToTable 57 = .ok (.getfield 15, 3) := by decide +kernel
theorem dX0_addToTable_60 : decode cX0_addToTable 60 = .ok (.iload_n 3, 1) := by decide +kernel
theorem dX0_addToTable_61 : decode cX0_addToTable 61 = .ok (.iload 4, 2) := by decide +kernel
theorem dX0_addToTable_63 : decode cX0_addToTable 63 = .ok (.imul, 1) := by decide +kernel
theorem dX0_addToTable_64 : decode cX0_addToTable 64 = .ok (.iload 6, 2) := by decide +kernel
theorem dX0_addToTable_66 : decode cX0_addToTable 66 = .ok (.iadd, 1) := by decide +kernel
theorem dX0_addToTable_67 : decode cX0_addToTable 67 = .ok (.aload_n 0, 1) := by decide +kernel
theorem dX0_addToTable_68 : decode cX0_addToTable 68 = .ok (.getfield 15, 3) := by decide +kernel
theorem dX0_addToTable_71 : decode cX0_addToTable 71 = .ok (.iload 6, 2) := by decide +kernel
theorem dX0_addToTable_73 : decode cX0_addToTable 73 = .ok (.iaload, 1) := by decide +kernel
theorem dX0_addToTable_74 : decode cX0_addToTable 74 = .ok (.iload 5, 2) := by decide +kernel
theorem dX0_addToTable_76 : decode cX0_addToTable 76 = .ok (.invokestatic 66, 3) := by decide +kernel
theorem dX0_addToTable_79 : decode cX0_addToTable 79 = .ok (.iastore, 1) := by decide +kernel
theorem dX0_addToTable_80 : decode cX0_addToTable 80 = .ok (.iinc 6 1, 3) := by decide +kernel
theorem dX0_addToTable_83 : decode cX0_addToTable 83 = .ok (.goto (-46), 3) := by decide +kernel
theorem dX0_addToTable_86 : decode cX0_addToTable 86 = .ok (.iinc 4 (-1), 3) := by decide +kernel
theorem dX0_addToTable_89 : decode cX0_addToTable 89 = .ok (.goto (-81), 3) := by decide +kernel
theorem dX0_addToTable_92 : decode cX0_addToTable 92 = .ok (.aload_n 0, 1) := by decide +kernel
theorem dX0_addToTable_93 : decode cX0_addToTable 93 = .ok (.iload_n 3, 1) := by decide +kernel
theorem dX0_addToTable_94 : decode cX0_addToTable 94 = .ok (.iconst 4, 1) := by decide +kernel
theorem dX0_addToTable_95 : decode cX0_addToTable 95 = .ok (.imul, 1) := by decide +kernel
theorem dX0_addToTable_96 : decode cX0_addToTable 96 = .ok (.sipush 4096, 3) := by decide +kernel
theorem dX0_addToTable_99 : decode cX0_addToTable 99 = .ok (.invokestatic 30, 3) := by decide +kernel
theorem dX0_addToTable_102 : decode cX0_addToTable 102 = .ok (.putfield 43, 3) := by decide +kernel
theorem dX0_addToTable_105 : decode cX0_addToTable 105 = .ok (.return_, 1) := by decide +kernel
theorem dX0_together_0 : decode cX0_together 0 = .ok (.iload_n 0, 1) := by decide +kernel
theorem dX0_together_1 : decode cX0_together 1 = .ok (.iconst (-1), 1) := by decide +kernel
theorem dX0_together_2 : decode cX0_together 2 = .ok (.if_icmp .eq 18, 3) := by decide +kernel
theorem dX0_together_5 : decode cX0_together 5 = .ok (.iload_n 1, 1) := by decide +kernel
theorem dX0_together_6 : decode cX0_together 6 = .ok (.iconst (-1), 1) := by decide +kernel
theorem dX0_together_7 : decode cX0_together 7 = .ok (.if_icmp .eq 13, 3) := by decide +kernel
theorem dX0_together_10 : decode cX0_together 10 = .ok (.iload_n 0, 1) := by decide +kernel
theorem dX0_together_11 : decode cX0_together 11 = .ok (.iload_n 1, 1) := by decide +kernel
theorem dX0_together_12 : decode cX0_together 12 = .ok (.iand, 1) := by decide +kernel
theorem dX0_together_13 : decode cX0_together 13 = .ok (.ifCond .ne 7, 3) := by decide +kernel
theorem dX0_together_16 : decode cX0_together 16 = .ok (.iconst 1, 1) := by decide +kernel
theorem dX0_together_17 : decode cX0_together 17 = .ok (.goto 4, 3) := by decide +kernel
theorem dX0_together_20 : decode cX0_together 20 = .ok (.iconst 0, 1) := by decide +kernel
theorem dX0_together_21 : decode cX0_together 21 = .ok (.istore_n 2, 1) := by decide +kernel
theorem dX0_together_22 : decode cX0_together 22 = .ok (.iload_n 2, 1) := by decide +kernel
theorem dX0_together_23 : decode cX0_together 23 = .ok (.ifCond .eq 9, 3) := by decide +kernel
theorem dX0_together_26 : decode cX0_together 26 = .ok (.iload_n 0, 1) := by decide +kernel
theorem dX0_together_27 : decode cX0_together 27 = .ok (.iload_n 1, 1) := by decide +kernel
theorem dX0_together_28 : decode cX0_together 28 = .ok (.ior, 1) := by decide +kernel
theorem dX0_together_29 : decode cX0_together 29 = .ok (.goto 4, 3) := by decide +kernel
theorem dX0_together_32 : decode cX0_together 32 = .ok (.iconst (-1), 1) := by decide +kernel
theorem dX0_together_33 : decode cX0_together 33 = .ok (.ireturn, 1) := by decide +kernel
theorem dX0_exists_0 : decode cX0_exists 0 = .ok (.iload_n 1, 1) := by decide +kernel
theorem dX0_exists_1 : decode cX0_exists 1 = .ok (.ifCond .lt 25, 3) := by decide +kernel
theorem dX0_exists_4 : decode cX0_exists 4 = .ok (.iload_n 1, 1) := by decide +kernel
theorem dX0_exists_5 : decode cX0_exists 5 = .ok (.aload_n 0, 1) := by decide +kernel
theorem dX0_exists_6 : decode cX0_exists 6 = .ok (.getfield 43, 3) := by decide +kernel
theorem dX0_exists_9 : decode cX0_exists 9 = .ok (.if_icmp .ge 17, 3) := by decide +kernel
theorem dX0_exists_12 : decode cX0_exists 12 = .ok (.aload_n 0, 1) := by decide +kernel
theorem dX0_exists_13 : decode cX0_exists 13 = .ok (.getfield 15, 3) := by decide +kernel
theorem dX0_exists_16 : decode cX0_exists 16 = .ok (.iload_n 1, 1) := by decide +kernel
theorem dX0_exists_17 : decode cX0_exists 17 = .ok (.iaload, 1) := by decide +kernel
theorem dX0_exists_18 : decode cX0_exists 18 = .ok (.iconst (-1), 1) := by decide +kernel
theorem dX0_exists_19 : decode cX0_exists 19 = .ok (.if_icmp .eq 7, 3) := by decide +kernel
theorem dX0_exists_22 : decode cX0_exists 22 = .ok (.iconst 1, 1) := by decide +kernel
theorem dX0_exists_23 : decode cX0_exists 23 = .ok (.goto 4, 3) := by decide +kernel
theorem dX0_exists_26 : decode cX0_exists 26 = .ok (.iconst 0, 1) := by decide +kernel
theorem dX0_exists_27 : decode cX0_exists 27 = .ok (.ireturn, 1) := by decide +kernel
theorem dX0_isOutIn_0 : decode cX0_isOutIn 0 = .ok (.aload_n 0, 1) := by decide +kernel
theorem dX0_isOutIn_1 : decode cX0_isOutIn 1 = .ok (.getfield 39, 3) := by decide +kernel
theorem dX0_isOutIn_4 : decode cX0_isOutIn 4 = .ok (.ifCond .le 21, 3) := by decide +kernel
theorem dX0_isOutIn_7 : decode cX0_isOutIn 7 = .ok (.iload_n 1, 1) := by decide +kernel
theorem dX0_isOutIn_8 : decode cX0_isOutIn 8 = .ok (.iconst 4, 1) := by decide +kernel
theorem dX0_isOutIn_9 : decode cX0_isOutIn 9 = .ok (.irem, 1) := by decide +kernel
theorem dX0_isOutIn_10 : decode cX0_isOutIn 10 = .ok (.aload_n 0, 1) := by decide +kernel
theorem dX0_isOutIn_11 : decode cX0_isOutIn 11 = .ok (.getfield 11, 3) := by decide +kernel
theorem dX0_isOutIn_14 : decode cX0_isOutIn 14 = .ok (.iconst 0, 1) := by decide +kernel
theorem dX0_isOutIn_15 : decode cX0_isOutIn 15 = .ok (.iaload, 1) := by decide +kernel
theorem dX0_isOutIn_16 : decode cX0_isOutIn 16 = .ok (.iadd, 1) := by decide +kernel
theorem dX0_isOutIn_17 : decode cX0_isOutIn 17 = .ok (.iconst 5, 1) := by decide +kernel
theorem dX0_isOutIn_18 : decode cX0_isOutIn 18 = .ok (.if_icmp .ne 7, 3) := by decide +kernel
theorem dX0_isOutIn_21 : decode cX0_isOutIn 21 = .ok (.iconst 1, 1) := by decide +kernel
theorem dX0_isOutIn_22 : decode cX0_isOutIn 22 = .ok (.goto 4, 3) := by decide +kernel
theorem dX0_isOutIn_25 : decode cX0_isOutIn 25 = .ok (.iconst 0, 1) := by decide +kernel
theorem dX0_isOutIn_26 : decode cX0_isOutIn 26 = .ok (.ireturn, 1) := by decide +kernel
theorem dX0_allArrangements_0 : decode cX0_allArrangements 0 = .ok (.iconst 0, 1) := by decide +kernel
theorem dX0_allArrangements_1 : decode cX0_allArrangements 1 = .ok (.istore_n 1, 1) := by decide +kernel
theorem dX0_allArrangements_2 : decode cX0_allArrangements 2 = .ok (.iconst 0, 1) := by decide +kernel
theorem dX0_allArrangements_3 : decode cX0_allArrangements 3 = .ok (.istore_n 2, 1) := by decide +kernel
theorem dX0_allArrangements_4 : decode cX0_allArrangements 4 = .ok (.iload_n 2, 1) := by decide +kernel
theorem dX0_allArrangements_5 : decode cX0_allArrangements 5 = .ok (.aload_n 0, 1) := by decide +kernel
theorem dX0_allArrangements_6 : decode cX0_allArrangements 6 = .ok (.getfield 43, 3) := by decide +kernel
theorem dX0_allArrangements_9 : decode cX0_allArrangements 9 = .ok (.if_icmp .ge 20, 3) := by decide +kernel
theorem dX0_allArrangements_12 : decode cX0_allArrangements 12 = .ok (.aload_n 0, 1) := by decide +kernel
theorem dX0_allArrangements_13 : decode cX0_allArrangements 13 = .ok (.iload_n 2, 1) := by decide +kernel
theorem dX0_allArrangements_14 : decode cX0_allArrangements 14 = .ok (.invokevirtual 69, 3) := by decide +kernel
theorem dX0_allArrangements_17 : decode cX0_allArrangements 17 = .ok (.ifCond .eq 6, 3) := by decide +kernel
theorem dX0_allArrangements_20 : decode cX0_allArrangements 20 = .ok (.iinc 1 1, 3) := by decide +kernel
theorem dX0_allArrangements_23 : decode cX0_allArrangements 23 = .ok (.iinc 2 1, 3) := by decide +kernel
theorem dX0_allArrangements_26 : decode cX0_allArrangements 26 = .ok (.goto (-22), 3) := by decide +kernel
theorem dX0_allArrangements_29 : decode cX0_allArrangements 29 = .ok (.iload_n 1, 1) := by decide +kernel
theorem dX0_allArrangements_30 : decode cX0_allArrangements 30 = .ok (.ireturn, 1) := by decide +kernel
theorem dX0_behindStep_0 : decode cX0_behindStep 0 = .ok (.iload_n 1, 1) := by decide +kernel
theorem dX0_behindStep_1 : decode cX0_behindStep 1 = .ok (.iconst 2, 1) := by decide +kernel
theorem dX0_behindStep_2 : decode cX0_behindStep 2 = .ok (.iload_n 2, 1) := by decide +kernel
theorem dX0_behindStep_3 : decode cX0_behindStep 3 = .ok (.imul, 1) := by decide +kernel
theorem dX0_behindStep_4 : decode cX0_behindStep 4 = .ok (.ishr, 1) := by decide +kernel
theorem dX0_behindStep_5 : decode cX0_behindStep 5 = .ok (.iconst 3, 1) := by decide +kernel
theorem dX0_behindStep_6 : decode cX0_behindStep 6 = .ok (.iand, 1) := by decide +kernel
theorem dX0_behindStep_7 : decode cX0_behindStep 7 = .ok (.iload_n 3, 1) := by decide +kernel
theorem dX0_behindStep_8 : decode cX0_behindStep 8 = .ok (.iadd, 1) := by decide +kernel
theorem dX0_behindStep_9 : decode cX0_behindStep 9 = .ok (.istore 4, 2) := by decide +kernel
theorem dX0_behindStep_11 : decode cX0_behindStep 11 = .ok (.iload_n 1, 1) := by decide +kernel
theorem dX0_behindStep_12 : decode cX0_behindStep 12 = .ok (.iload_n 3, 1) := by decide +kernel
theorem dX0_behindStep_13 : decode cX0_behindStep 13 = .ok (.iconst 1, 1) := by decide +kernel
theorem dX0_behindStep_14 : decode cX0_behindStep 14 = .ok (.iconst 2, 1) := by decide +kernel
theorem dX0_behindStep_15 : decode cX0_behindStep 15 = .ok (.iload_n 2, 1) := by decide +kernel
theorem dX0_behindStep_16 : decode cX0_behindStep 16 = .ok (.imul, 1) := by decide +kernel
theorem dX0_behindStep_17 : decode cX0_behindStep 17 = .ok (.ishl, 1) := by decide +kernel
theorem dX0_behindStep_18 : decode cX0_behindStep 18 = .ok (.imul, 1) := by decide +kernel
theorem dX0_behindStep_19 : decode cX0_behindStep 19 = .ok (.iadd, 1) := by decide +kernel
theorem dX0_behindStep_20 : decode cX0_behindStep 20 = .ok (.istore 5, 2) := by decide +kernel
theorem dX0_behindStep_22 : decode cX0_behindStep 22 = .ok (.iload 4, 2) := by decide +kernel
theorem dX0_behindStep_24 : decode cX0_behindStep 24 = .ok (.ifCond .lt 23, 3) := by decide +kernel
theorem dX0_behindStep_27 : decode cX0_behindStep 27 = .ok (.iload 4, 2) := by decide +kernel
theorem dX0_behindStep_29 : decode cX0_behindStep 29 = .ok (.iconst 4, 1) := by decide +kernel
theorem dX0_behindStep_30 : decode cX0_behindStep 30 = .ok (.if_icmp .ge 17, 3) := by decide +kernel
theorem dX0_behindStep_33 : decode cX0_behindStep 33 = .ok (.iload 5, 2) := by decide +kernel
theorem dX0_behindStep_35 : decode cX0_behindStep 35 = .ok (.ifCond .lt 12, 3) := by decide +kernel
theorem dX0_behindStep_38 : decode cX0_behindStep 38 = .ok (.iload 5, 2) := by decide +kernel
theorem dX0_behindStep_40 : decode cX0_behindStep 40 = .ok (.aload_n 0, 1) := by decide +kernel
theorem dX0_behindStep_41 : decode cX0_behindStep 41 = .ok (.getfield 43, 3) := by decide +kernel
theorem dX0_behindStep_44 : decode cX0_behindStep 44 = .ok (.if_icmp .lt 5, 3) := by decide +kernel
theorem dX0_behindStep_47 : decode cX0_behindStep 47 = .ok (.iconst (-1), 1) := by decide +kernel
theorem dX0_behindStep_48 : decode cX0_behindStep 48 = .ok (.ireturn, 1) := by decide +kernel
theorem dX0_behindStep_49 : decode cX0_behindStep 49 = .ok (.aload_n 0, 1) := by decide +kernel
theorem dX0_behindStep_50 : decode cX0_behindStep 50 = .ok (.getfield 15, 3) := by decide +kernel
theorem dX0_behindStep_53 : decode cX0_behindStep 53 = .ok (.iload 5, 2) := by decide +kernel
theorem dX0_behindStep_55 : decode cX0_behindStep 55 = .ok (.iaload, 1) := by decide +kernel
theorem dX0_behindStep_56 : decode cX0_behindStep 56 = .ok (.iconst (-1), 1) := by decide +kernel
theorem dX0_behindStep_57 : decode cX0_behindStep 57 = .ok (.if_icmp .ne 7, 3) := by decide +kernel
theorem dX0_behindStep_60 : decode cX0_behindStep 60 = .ok (.iconst (-1), 1) := by decide +kernel
theorem dX0_behindStep_61 : decode cX0_behindStep 61 = .ok (.goto 5, 3) := by decide +kernel
theorem dX0_behindStep_64 : decode cX0_behindStep 64 = .ok (.iload 5, 2) := by decide +kernel
theorem dX0_behindStep_66 : decode cX0_behindStep 66 = .ok (.ireturn, 1) := by decide +kernel
theorem dX0_behindSlide_0 : decode cX0_behindSlide 0 = .ok (.iload_n 3, 1) := by decide +kernel
theorem dX0_behindSlide_1 : decode cX0_behindSlide 1 = .ok (.ifCond .le 7, 3) := by decide +kernel
theorem dX0_behindSlide_4 : decode cX0_behindSlide 4 = .ok (.iconst 1, 1) := by decide +kernel
theorem dX0_behindSlide_5 : decode cX0_behindSlide 5 = .ok (.goto 4, 3) := by decide +kernel
theorem dX0_behindSlide_8 : decode cX0_behindSlide 8 = .ok (.iconst (-1), 1) := by decide +kernel
theorem dX0_behindSlide_9 : decode cX0_behindSlide 9 = .ok (.istore 4, 2) := by decide +kernel
theorem dX0_behindSlide_11 : decode cX0_behindSlide 11 = .ok (.iload_n 1, 1) := by decide +kernel
theorem dX0_behindSlide_12 : decode cX0_behindSlide 12 = .ok (.istore 5, 2) := by decide +kernel
theorem dX0_behindSlide_14 : decode cX0_behindSlide 14 = .ok (.iload_n 3, 1) := by decide +kernel
theorem dX0_behindSlide_15 : decode cX0_behindSlide 15 = .ok (.invokestatic 73, 3) := by decide +kernel
theorem dX0_behindSlide_18 : decode cX0_behindSlide 18 = .ok (.istore 6, 2) := by decide +kernel
theorem dX0_behindSlide_20 : decode cX0_behindSlide 20 = .ok (.iload 6, 2) := by decide +kernel
theorem dX0_behindSlide_22 : decode cX0_behindSlide 22 = .ok (.ifCond .le 26, 3) := by decide +kernel
theorem dX0_behindSlide_25 : decode cX0_behindSlide 25 = .ok (.iload 5, 2) := by decide +kernel
theorem dX0_behindSlide_27 : decode cX0_behindSlide 27 = .ok (.iconst (-1), 1) := by decide +kernel
theorem dX0_behindSlide_28 : decode cX0_behindSlide 28 = .ok (.if_icmp .eq 20, 3) := by decide +kernel
theorem dX0_behindSlide_31 : decode cX0_behindSlide 31 = .ok (.aload_n 0, 1) := by decide +kernel
theorem dX0_behindSlide_32 : decode cX0_behindSlide 32 = .ok (.iload 5, 2) := by decide +kernel
theorem dX0_behindSlide_34 : decode cX0_behindSlide 34 = .ok (.iload_n 2, 1) := by decide +kernel
theorem dX0_behindSlide_35 : decode cX0_behindSlide 35 = .ok (.iload 4, 2) := by decide +kernel
theorem dX0_behindSlide_37 : decode cX0_behindSlide 37 = .ok (.invokevirtual 77, 3) := by decide +kernel
theorem dX0_behindSlide_40 : decode cX0_behindSlide 40 = .ok (.istore 5, 2) := by decide +kernel
theorem dX0_behindSlide_42 : decode cX0_behindSlide 42 = .ok (.iinc 6 (-1), 3) := by decide +kernel
theorem dX0_behindSlide_45 : decode cX0_behindSlide 45 = .ok (.goto (-25), 3) := by decide +kernel
theorem dX0_behindSlide_48 : decode cX0_behindSlide 48 = .ok (.iload 5, 2) := by decide +kernel
theorem dX0_behindSlide_50 : decode cX0_behindSlide 50 = .ok (.ireturn, 1) := by decide +kernel
theorem dX0_costOf_0 : decode cX0_costOf 0 = .ok (.aload_n 0, 1) := by decide +kernel
theorem dX0_costOf_1 : decode cX0_costOf 1 = .ok (.iload_n 1, 1) := by decide +kernel
theorem dX0_costOf_2 : decode cX0_costOf 2 = .ok (.invokevirtual 69, 3) := by decide +kernel
theorem dX0_costOf_5 : decode cX0_costOf 5 = .ok (.ifCond .eq 12, 3) := by decide +kernel
theorem dX0_costOf_8 : decode cX0_costOf 8 = .ok (.aload_n 0, 1) := by decide +kernel
theorem dX0_costOf_9 : decode cX0_costOf 9 = .ok (.getfield 18, 3) := by decide +kernel
theorem dX0_costOf_12 : decode cX0_costOf 12 = .ok (.iload_n 1, 1) := by decide +kernel
theorem dX0_costOf_13 : decode cX0_costOf 13 = .ok (.iaload, 1) := by decide +kernel
theorem dX0_costOf_14 : decode cX0_costOf 14 = .ok (.goto 4, 3) := by decide +kernel
theorem dX0_costOf_17 : decode cX0_costOf 17 = .ok (.iconst (-1), 1) := by decide +kernel
theorem dX0_costOf_18 : decode cX0_costOf 18 = .ok (.ireturn, 1) := by decide +kernel
theorem dX0_forget_0 : decode cX0_forget 0 = .ok (.iconst 0, 1) := by decide +kernel
theorem dX0_forget_1 : decode cX0_forget 1 = .ok (.istore_n 1, 1) := by decide +kernel
theorem dX0_forget_2 : decode cX0_forget 2 = .ok (.iload_n 1, 1) := by decide +kernel
theorem dX0_forget_3 : decode cX0_forget 3 = .ok (.aload_n 0, 1) := by decide +kernel
theorem dX0_forget_4 : decode cX0_forget 4 = .ok (.getfield 43, 3) := by decide +kernel
theorem dX0_forget_7 : decode cX0_forget 7 = .ok (.if_icmp .ge 23, 3) := by decide +kernel
theorem dX0_forget_10 : decode cX0_forget 10 = .ok (.iload_n 1, 1) := by decide +kernel
theorem dX0_forget_11 : decode cX0_forget 11 = .ok (.sipush 4096, 3) := by decide +kernel
theorem dX0_forget_14 : decode cX0_forget 14 = .ok (.if_icmp .ge 16, 3) := by decide +kernel
theorem dX0_forget_17 : decode cX0_forget 17 = .ok (.aload_n 0, 1) := by decide +kernel
theorem dX0_forget_18 : decode cX0_forget 18 = .ok (.getfield 18, 3) := by decide +kernel
theorem dX0_forget_21 : decode cX0_forget 21 = .ok (.iload_n 1, 1) := by decide +kernel
theorem dX0_forget_22 : decode cX0_forget 22 = .ok (.iconst (-1), 1) := by decide +kernel
theorem dX0_forget_23 : decode cX0_forget 23 = .ok (.iastore, 1) := by decide +kernel
theorem dX0_forget_24 : decode cX0_forget 24 = .ok (.iinc 1 1, 3) := by decide +kernel
theorem dX0_forget_27 : decode cX0_forget 27 = .ok (.goto (-25), 3) := by decide +kernel
theorem dX0_forget_30 : decode cX0_forget 30 = .ok (.aload_n 0, 1) := by decide +kernel
theorem dX0_forget_31 : decode cX0_forget 31 = .ok (.iconst 0, 1) := by decide +kernel
theorem dX0_forget_32 : decode cX0_forget 32 = .ok (.putfield 80, 3) := by decide +kernel
theorem dX0_forget_35 : decode cX0_forget 35 = .ok (.return_, 1) := by decide +kernel
theorem dX0_find_0 : decode cX0_find 0 = .ok (.iload_n 1, 1) := by decide +kernel
theorem dX0_find_1 : decode cX0_find 1 = .ok (.ifCond .lt 21, 3) := by decide +kernel
theorem dX0_find_4 : decode cX0_find 4 = .ok (.iload_n 1, 1) := by decide +kernel
theorem dX0_find_5 : decode cX0_find 5 = .ok (.aload_n 0, 1) := by decide +kernel
theorem dX0_find_6 : decode cX0_find 6 = .ok (.getfield 43, 3) := by decide +kernel
theorem dX0_find_9 : decode cX0_find 9 = .ok (.if_icmp .ge 13, 3) := by decide +kernel
theorem dX0_find_12 : decode cX0_find 12 = .ok (.aload_n 0, 1) := by decide +kernel
theorem dX0_find_13 : decode cX0_find 13 = .ok (.getfield 15, 3) := by decide +kernel
theorem dX0_find_16 : decode cX0_find 16 = .ok (.iload_n 1, 1) := by decide +kernel
theorem dX0_find_17 : decode cX0_find 17 = .ok (.iaload, 1) := by decide +kernel
theorem dX0_find_18 : decode cX0_find 18 = .ok (.iconst (-1), 1) := by decide +kernel
theorem dX0_find_19 : decode cX0_find 19 = .ok (.if_icmp .ne 4, 3) := by decide +kernel
theorem dX0_find_22 : decode cX0_find 22 = .ok (.return_, 1) := by decide +kernel
theorem dX0_find_23 : decode cX0_find 23 = .ok (.aload_n 0, 1) := by decide +kernel
theorem dX0_find_24 : decode cX0_find 24 = .ok (.getfield 18, 3) := by decide +kernel
theorem dX0_find_27 : decode cX0_find 27 = .ok (.iload_n 1, 1) := by decide +kernel
theorem dX0_find_28 : decode cX0_find 28 = .ok (.iaload, 1) := by decide +kernel
theorem dX0_find_29 : decode cX0_find 29 = .ok (.iconst (-1), 1) := by decide +kernel
theorem dX0_find_30 : decode cX0_find 30 = .ok (.if_icmp .ne 47, 3) := by decide +kernel
theorem dX0_find_33 : decode cX0_find 33 = .ok (.aload_n 0, 1) := by decide +kernel
theorem dX0_find_34 : decode cX0_find 34 = .ok (.getfield 80, 3) := by decide +kernel
theorem dX0_find_37 : decode cX0_find 37 = .ok (.ifCond .lt 40, 3) := by decide +kernel
theorem dX0_find_40 : decode cX0_find 40 = .ok (.aload_n 0, 1) := by decide +kernel
theorem dX0_find_41 : decode cX0_find 41 = .ok (.getfield 80, 3) := by decide +kernel
theorem dX0_find_44 : decode cX0_find 44 = .ok (.sipush 4096, 3) := by decide +kernel
theorem dX0_find_47 : decode cX0_find 47 = .ok (.if_icmp .ge 30, 3) := by decide +kernel
theorem dX0_find_50 : decode cX0_find 50 = .ok (.aload_n 0, 1) := by decide +kernel
theorem dX0_find_51 : decode cX0_find 51 = .ok (.getfield 18, 3) := by decide +kernel
theorem dX0_find_54 : decode cX0_find 54 = .ok (.iload_n 1, 1) := by decide +kernel
theorem dX0_find_55 : decode cX0_find 55 = .ok (.iload_n 2, 1) := by decide +kernel
theorem dX0_find_56 : decode cX0_find 56 = .ok (.iastore, 1) := by decide +kernel
theorem dX0_find_57 : decode cX0_find 57 = .ok (.aload_n 0, 1) := by decide +kernel
theorem dX0_find_58 : decode cX0_find 58 = .ok (.getfield 21, 3) := by decide +kernel
theorem dX0_find_61 : decode cX0_find 61 = .ok (.aload_n 0, 1) := by decide +kernel
theorem dX0_find_62 : decode cX0_find 62 = .ok (.getfield 80, 3) := by decide +kernel
theorem dX0_find_65 : decode cX0_find 65 = .ok (.iload_n 1, 1) := by decide +kernel
theorem dX0_find_66 : decode cX0_find 66 = .ok (.iastore, 1) := by decide +kernel
theorem dX0_find_67 : decode cX0_find 67 = .ok (.aload_n 0, 1) := by decide +kernel
theorem dX0_find_68 : decode cX0_find 68 = .ok (.dup, 1) := by decide +kernel
theorem dX0_find_69 : decode cX0_find 69 = .ok (.getfield 80, 3) := by decide +kernel
theorem dX0_find_72 : decode cX0_find 72 = .ok (.iconst 1, 1) := by decide +kernel
theorem dX0_find_73 : decode cX0_find 73 = .ok (.iadd, 1) := by decide +kernel
theorem dX0_find_74 : decode cX0_find 74 = .ok (.putfield 80, 3) := by decide +kernel
theorem dX0_find_77 : decode cX0_find 77 = .ok (.return_, 1) := by decide +kernel
theorem dX0_spread_0 : decode cX0_spread 0 = .ok (.iconst 0, 1) := by decide +kernel
theorem dX0_spread_1 : decode cX0_spread 1 = .ok (.istore_n 2, 1) := by decide +kernel
theorem dX0_spread_2 : decode cX0_spread 2 = .ok (.iload_n 2, 1) := by decide +kernel
theorem dX0_spread_3 : decode cX0_spread 3 = .ok (.aload_n 0, 1) := by decide +kernel
theorem dX0_spread_4 : decode cX0_spread 4 = .ok (.getfield 80, 3) := by decide +kernel
theorem dX0_spread_7 : decode cX0_spread 7 = .ok (.if_icmp .ge 77, 3) := by decide +kernel
theorem dX0_spread_10 : decode cX0_spread 10 = .ok (.iload_n 2, 1) := by decide +kernel
theorem dX0_spread_11 : decode cX0_spread 11 = .ok (.sipush 4096, 3) := by decide +kernel
theorem dX0_spread_14 : decode cX0_spread 14 = .ok (.if_icmp .ge 70, 3) := by decide +kernel
theorem dX0_spread_17 : decode cX0_spread 17 = .ok (.aload_n 0, 1) := by decide +kernel
theorem dX0_spread_18 : decode cX0_spread 18 = .ok (.aload_n 0, 1) := by decide +kernel
theorem dX0_spread_19 : decode cX0_spread 19 = .ok (.getfield 21, 3) := by decide +kernel
theorem dX0_spread_22 : decode cX0_spread 22 = .ok (.iload_n 2, 1) := by decide +kernel
theorem dX0_spread_23 : decode cX0_spread 23 = .ok (.iaload, 1) := by decide +kernel
theorem dX0_spread_24 : decode cX0_spread 24 = .ok (.invokevirtual 83, 3) := by decide +kernel
theorem dX0_spread_27 : decode cX0_spread 27 = .ok (.iconst 1, 1) := by decide +kernel
theorem dX0_spread_28 : decode cX0_spread 28 = .ok (.iadd, 1) := by decide +kernel
theorem dX0_spread_29 : decode cX0_spread 29 = .ok (.istore_n 3, 1) := by decide +kernel
theorem dX0_spread_30 : decode cX0_spread 30 = .ok (.iconst 0, 1) := by decide +kernel
theorem dX0_spread_31 : decode cX0_spread 31 = .ok (.istore 4, 2) := by decide +kernel
theorem dX0_spread_33 : decode cX0_spread 33 = .ok (.iload 4, 2) := by decide +kernel
theorem dX0_spread_35 : decode cX0_spread 35 = .ok (.aload_n 0, 1) := by decide +kernel
theorem dX0_spread_36 : decode cX0_spread 36 = .ok (.getfield 39, 3) := by decide +kernel
theorem dX0_spread_39 : decode cX0_spread 39 = .ok (.if_icmp .ge 39, 3) := by decide +kernel
theorem dX0_spread_42 : decode cX0_spread 42 = .ok (.aload_n 0, 1) := by decide +kernel
theorem dX0_spread_43 : decode cX0_spread 43 = .ok (.aload_n 0, 1) := by decide +kernel
theorem dX0_spread_44 : decode cX0_spread 44 = .ok (.getfield 21, 3) := by decide +kernel
theorem dX0_spread_47 : decode cX0_spread 47 = .ok (.iload_n 2, 1) := by decide +kernel
theorem dX0_spread_48 : decode cX0_spread 48 = .ok (.iaload, 1) := by decide +kernel
theorem dX0_spread_49 : decode cX0_spread 49 = .ok (.iload 4, 2) := by decide +kernel
theorem dX0_spread_51 : decode cX0_spread 51 = .ok (.iconst 1, 1) := by decide +kernel
theorem dX0_spread_52 : decode cX0_spread 52 = .ok (.iload_n 1, 1) := by decide +kernel
theorem dX0_spread_53 : decode cX0_spread 53 = .ok (.iload_n 3, 1) := by decide +kernel
theorem dX0_spread_54 : decode cX0_spread 54 = .ok (.invokevirtual 86, 3) := by decide +kernel
theorem dX0_spread_57 : decode cX0_spread 57 = .ok (.aload_n 0, 1) := by decide +kernel
theorem dX0_spread_58 : decode cX0_spread 58 = .ok (.aload_n 0, 1) := by decide +kernel
theorem dX0_spread_59 : decode cX0_spread 59 = .ok (.getfield 21, 3) := by decide +kernel
theorem dX0_spread_62 : decode cX0_spread 62 = .ok (.iload_n 2, 1) := by decide +kernel
theorem dX0_spread_63 : decode cX0_spread 63 = .ok (.iaload, 1) := by decide +kernel
theorem dX0_spread_64 : decode cX0_spread 64 = .ok (.iload 4, 2) := by decide +kernel
theorem dX0_spread_66 : decode cX0_spread 66 = .ok (.iconst (-1), 1) := by decide +kernel
theorem dX0_spread_67 : decode cX0_spread 67 = .ok (.iload_n 1, 1) := by decide +kernel
theorem dX0_spread_68 : decode cX0_spread 68 = .ok (.iload_n 3, 1) := by decide +kernel
theorem dX0_spread_69 : decode cX0_spread 69 = .ok (.invokevirtual 86, 3) := by decide +kernel
theorem dX0_spread_72 : decode cX0_spread 72 = .ok (.iinc 4 1, 3) := by decide +kernel
theorem dX0_spread_75 : decode cX0_spread 75 = .ok (.goto (-42), 3) := by decide +kernel
theorem dX0_spread_78 : decode cX0_spread 78 = .ok (.iinc 2 1, 3) := by decide +kernel
theorem dX0_spread_81 : decode cX0_spread 81 = .ok (.goto (-79), 3) := by decide +kernel
theorem dX0_spread_84 : decode cX0_spread 84 = .ok (.return_, 1) := by decide +kernel
theorem dX0_spreadAlong_0 : decode cX0_spreadAlong 0 = .ok (.aload_n 0, 1) := by decide +kernel
theorem dX0_spreadAlong_1 : decode cX0_spreadAlong 1 = .ok (.iload_n 1, 1) := by decide +kernel
theorem dX0_spreadAlong_2 : decode cX0_spreadAlong 2 = .ok (.iload_n 2, 1) := by decide +kernel
theorem dX0_spreadAlong_3 : decode cX0_spreadAlong 3 = .ok (.iload_n 3, 1) := by decide +kernel
theorem dX0_spreadAlong_4 : decode cX0_spreadAlong 4 = .ok (.invokevirtual 77, 3) := by decide +kernel
theorem dX0_spreadAlong_7 : decode cX0_spreadAlong 7 = .ok (.istore 6, 2) := by decide +kernel
theorem dX0_spreadAlong_9 : decode cX0_spreadAlong 9 = .ok (.iconst 1, 1) := by decide +kernel
theorem dX0_spreadAlong_10 : decode cX0_spreadAlong 10 = .ok (.istore 7, 2) := by decide +kernel
theorem dX0_spreadAlong_12 : decode cX0_spreadAlong 12 = .ok (.iload 7, 2) := by decide +kernel
theorem dX0_spreadAlong_14 : decode cX0_spreadAlong 14 = .ok (.iload 4, 2) := by decide +kernel
theorem dX0_spreadAlong_16 : decode cX0_spreadAlong 16 = .ok (.if_icmp .gt 33, 3) := by decide +kernel
theorem dX0_spreadAlong_19 : decode cX0_spreadAlong 19 = .ok (.iload 6, 2) := by decide +kernel
theorem dX0_spreadAlong_21 : decode cX0_spreadAlong 21 = .ok (.iconst (-1), 1) := by decide +kernel
theorem dX0_spreadAlong_22 : decode cX0_spreadAlong 22 = .ok (.if_icmp .eq 27, 3) := by decide +kernel
theorem dX0_spreadAlong_25 : decode cX0_spreadAlong 25 = .ok (.aload_n 0, 1) := by decide +kernel
theorem dX0_spreadAlong_26 : decode cX0_spreadAlong 26 = .ok (.iload 6, 2) := by decide +kernel
theorem dX0_spreadAlong_28 : decode cX0_spreadAlong 28 = .ok (.iload 5, 2) := by decide +kernel
theorem dX0_spreadAlong_30 : decode cX0_spreadAlong 30 = .ok (.invokevirtual 90, 3) := by decide +kernel
theorem dX0_spreadAlong_33 : decode cX0_spreadAlong 33 = .ok (.aload_n 0, 1) := by decide +kernel
theorem dX0_spreadAlong_34 : decode cX0_spreadAlong 34 = .ok (.iload 6, 2) := by decide +kernel
theorem dX0_spreadAlong_36 : decode cX0_spreadAlong 36 = .ok (.iload_n 2, 1) := by decide +kernel
theorem dX0_spreadAlong_37 : decode cX0_spreadAlong 37 = .ok (.iload_n 3, 1) := by decide +kernel
theorem dX0_spreadAlong_38 : decode cX0_spreadAlong 38 = .ok (.invokevirtual 77, 3) := by decide +kernel
theorem dX0_spreadAlong_41 : decode cX0_spreadAlong 41 = .ok (.istore 6, 2) := by decide +kernel
theorem dX0_spreadAlong_43 : decode cX0_spreadAlong 43 = .ok (.iinc 7 1, 3) := by decide +kernel
theorem dX0_spreadAlong_46 : decode cX0_spreadAlong 46 = .ok (.goto (-34), 3) := by decide +kernel
theorem dX0_spreadAlong_49 : decode cX0_spreadAlong 49 = .ok (.return_, 1) := by decide +kernel
theorem dX0_spreadFromStart_0 : decode cX0_spreadFromStart 0 = .ok (.aload_n 0, 1) := by decide +kernel
theorem dX0_spreadFromStart_1 : decode cX0_spreadFromStart 1 = .ok (.invokevirtual 93, 3) := by decide +kernel
theorem dX0_spreadFromStart_4 : decode cX0_spreadFromStart 4 = .ok (.aload_n 0, 1) := by decide +kernel
theorem dX0_spreadFromStart_5 : decode cX0_spreadFromStart 5 = .ok (.aload_n 0, 1) := by decide +kernel
theorem dX0_spreadFromStart_6 : decode cX0_spreadFromStart 6 = .ok (.getfield 46, 3) := by decide +kernel
theorem dX0_spreadFromStart_9 : decode cX0_spreadFromStart 9 = .ok (.iconst 0, 1) := by decide +kernel
theorem dX0_spreadFromStart_10 : decode cX0_spreadFromStart 10 = .ok (.invokevirtual 90, 3) := by decide +kernel
theorem dX0_spreadFromStart_13 : decode cX0_spreadFromStart 13 = .ok (.aload_n 0, 1) := by decide +kernel
theorem dX0_spreadFromStart_14 : decode cX0_spreadFromStart 14 = .ok (.iload_n 1, 1) := by decide +kernel
theorem dX0_spreadFromStart_15 : decode cX0_spreadFromStart 15 = .ok (.invokevirtual 96, 3) := by decide +kernel
theorem dX0_spreadFromStart_18 : decode cX0_spreadFromStart 18 = .ok (.return_, 1) := by decide +kernel
theorem dX0_slidesFromStart_0 : decode cX0_slidesFromStart 0 = .ok (.aload_n 0, 1) := by decide +kernel
theorem dX0_slidesFromStart_1 : decode cX0_slidesFromStart 1 = .ok (.iconst 3, 1) := by decide +kernel
theorem dX0_slidesFromStart_2 : decode cX0_slidesFromStart 2 = .ok (.invokevirtual 100, 3) := by decide +kernel
theorem dX0_slidesFromStart_5 : decode cX0_slidesFromStart 5 = .ok (.aload_n 0, 1) := by decide +kernel
theorem dX0_slidesFromStart_6 : decode cX0_slidesFromStart 6 = .ok (.invokevirtual 103, 3) := by decide +kernel
theorem dX0_slidesFromStart_9 : decode cX0_slidesFromStart 9 = .ok (.ireturn, 1) := by decide +kernel
theorem dX0_stepsFromStart_0 : decode cX0_stepsFromStart 0 = .ok (.aload_n 0, 1) := by decide +kernel
theorem dX0_stepsFromStart_1 : decode cX0_stepsFromStart 1 = .ok (.iconst 1, 1) := by decide +kernel
theorem dX0_stepsFromStart_2 : decode cX0_stepsFromStart 2 = .ok (.invokevirtual 100, 3) := by decide +kernel
theorem dX0_stepsFromStart_5 : decode cX0_stepsFromStart 5 = .ok (.aload_n 0, 1) := by decide +kernel
theorem dX0_stepsFromStart_6 : decode cX0_stepsFromStart 6 = .ok (.invokevirtual 103, 3) := by decide +kernel
theorem dX0_stepsFromStart_9 : decode cX0_stepsFromStart 9 = .ok (.ireturn, 1) := by decide +kernel
theorem dX0_slidesFromEnds_0 : decode cX0_slidesFromEnds 0 = .ok (.aload_n 0, 1) := by decide +kernel
theorem dX0_slidesFromEnds_1 : decode cX0_slidesFromEnds 1 = .ok (.invokevirtual 93, 3) := by decide +kernel
theorem dX0_slidesFromEnds_4 : decode cX0_slidesFromEnds 4 = .ok (.iconst 0, 1) := by decide +kernel
theorem dX0_slidesFromEnds_5 : decode cX0_slidesFromEnds 5 = .ok (.istore_n 1, 1) := by decide +kernel
theorem dX0_slidesFromEnds_6 : decode cX0_slidesFromEnds 6 = .ok (.iload_n 1, 1) := by decide +kernel
theorem dX0_slidesFromEnds_7 : decode cX0_slidesFromEnds 7 = .ok (.aload_n 0, 1) := by decide +kernel
theorem dX0_slidesFromEnds_8 : decode cX0_slidesFromEnds 8 = .ok (.getfield 43, 3) := by decide +kernel
theorem dX0_slidesFromEnds_11 : decode cX0_slidesFromEnds 11 = .ok (.if_icmp .ge 23, 3) := by decide +kernel
theorem dX0_slidesFromEnds_14 : decode cX0_slidesFromEnds 14 = .ok (.aload_n 0, 1) := by decide +kernel
theorem dX0_slidesFromEnds_15 : decode cX0_slidesFromEnds 15 = .ok (.iload_n 1, 1) := by decide +kernel
theorem dX0_slidesFromEnds_16 : decode cX0_slidesFromEnds 16 = .ok (.invokevirtual 107, 3) := by decide +kernel
theorem dX0_slidesFromEnds_19 : decode cX0_slidesFromEnds 19 = .ok (.ifCond .eq 9, 3) := by decide +kernel
theorem dX0_slidesFromEnds_22 : decode cX0_slidesFromEnds 22 = .ok (.aload_n 0, 1) := by decide +kernel
theorem dX0_slidesFromEnds_23 : decode cX0_slidesFromEnds 23 = .ok (.iload_n 1, 1) := by decide +kernel
theorem dX0_slidesFromEnds_24 : decode cX0_slidesFromEnds 24 = .ok (.iconst 0, 1) := by decide +kernel
theorem dX0_slidesFromEnds_25 : decode cX0_slidesFromEnds 25 = .ok (.invokevirtual 90, 3) := by decide +kernel
theorem dX0_slidesFromEnds_28 : decode cX0_slidesFromEnds 28 = .ok (.iinc 1 1, 3) := by decide +kernel
theorem dX0_slidesFromEnds_31 : decode cX0_slidesFromEnds 31 = .ok (.goto (-25), 3) := by decide +kernel
theorem dX0_slidesFromEnds_34 : decode cX0_slidesFromEnds 34 = .ok (.aload_n 0, 1) := by decide +kernel
theorem dX0_slidesFromEnds_35 : decode cX0_slidesFromEnds 35 = .ok (.iconst 3, 1) := by decide +kernel
theorem dX0_slidesFromEnds_36 : decode cX0_slidesFromEnds 36 = .ok (.invokevirtual 96, 3) := by decide +kernel
theorem dX0_slidesFromEnds_39 : decode cX0_slidesFromEnds 39 = .ok (.aload_n 0, 1) := by decide +kernel
theorem dX0_slidesFromEnds_40 : decode cX0_slidesFromEnds 40 = .ok (.aload_n 0, 1) := by decide +kernel
theorem dX0_slidesFromEnds_41 : decode cX0_slidesFromEnds 41 = .ok (.getfield 46, 3) := by decide +kernel
theorem dX0_slidesFromEnds_44 : decode cX0_slidesFromEnds 44 = .ok (.invokevirtual 83, 3) := by decide +kernel
theorem dX0_slidesFromEnds_47 : decode cX0_slidesFromEnds 47 = .ok (.ireturn, 1) := by decide +kernel
theorem dX0_leastCostOut_0 : decode cX0_leastCostOut 0 = .ok (.iconst (-1), 1) := by decide +kernel
theorem dX0_leastCostOut_1 : decode cX0_leastCostOut 1 = .ok (.istore_n 1, 1) := by decide +kernel
theorem dX0_leastCostOut_2 : decode cX0_leastCostOut 2 = .ok (.iconst 0, 1) := by decide +kernel
theorem dX0_leastCostOut_3 : decode cX0_leastCostOut 3 = .ok (.istore_n 2, 1) := by decide +kernel
theorem dX0_leastCostOut_4 : decode cX0_leastCostOut 4 = .ok (.iload_n 2, 1) := by decide +kernel
theorem dX0_leastCostOut_5 : decode cX0_leastCostOut 5 = .ok (.aload_n 0, 1) := by decide +kernel
theorem dX0_leastCostOut_6 : decode cX0_leastCostOut 6 = .ok (.getfield 43, 3) := by decide +kernel
theorem dX0_leastCostOut_9 : decode cX0_leastCostOut 9 = .ok (.if_icmp .ge 44, 3) := by decide +kernel
theorem dX0_leastCostOut_12 : decode cX0_leastCostOut 12 = .ok (.aload_n 0, 1) := by decide +kernel
theorem dX0_leastCostOut_13 : decode cX0_leastCostOut 13 = .ok (.iload_n 2, 1) := by decide +kernel
theorem dX0_leastCostOut_14 : decode cX0_leastCostOut 14 = .ok (.invokevirtual 107, 3) := by decide +kernel
theorem dX0_leastCostOut_17 : decode cX0_leastCostOut 17 = .ok (.ifCond .eq 11, 3) := by decide +kernel
theorem dX0_leastCostOut_20 : decode cX0_leastCostOut 20 = .ok (.aload_n 0, 1) := by decide +kernel
theorem dX0_leastCostOut_21 : decode cX0_leastCostOut 21 = .ok (.iload_n 2, 1) := by decide +kernel
theorem dX0_leastCostOut_22 : decode cX0_leastCostOut 22 = .ok (.invokevirtual 83, 3) := by decide +kernel
theorem dX0_leastCostOut_25 : decode cX0_leastCostOut 25 = .ok (.goto 4, 3) := by decide +kernel
theorem dX0_leastCostOut_28 : decode cX0_leastCostOut 28 = .ok (.iconst (-1), 1) := by decide +kernel
theorem dX0_leastCostOut_29 : decode cX0_leastCostOut 29 = .ok (.istore_n 3, 1) := by decide +kernel
theorem dX0_leastCostOut_30 : decode cX0_leastCostOut 30 = .ok (.iload_n 3, 1) := by decide +kernel
theorem dX0_leastCostOut_31 : decode cX0_leastCostOut 31 = .ok (.iconst (-1), 1) := by decide +kernel
theorem dX0_leastCostOut_32 : decode cX0_leastCostOut 32 = .ok (.if_icmp .eq 15, 3) := by decide +kernel
theorem dX0_leastCostOut_35 : decode cX0_leastCostOut 35 = .ok (.iload_n 1, 1) := by decide +kernel
theorem dX0_leastCostOut_36 : decode cX0_leastCostOut 36 = .ok (.iconst (-1), 1) := by decide +kernel
theorem dX0_leastCostOut_37 : decode cX0_leastCostOut 37 = .ok (.if_icmp .eq 8, 3) := by decide +kernel
theorem dX0_leastCostOut_40 : decode cX0_leastCostOut 40 = .ok (.iload_n 3, 1) := by decide +kernel
theorem dX0_leastCostOut_41 : decode cX0_leastCostOut 41 = .ok (.iload_n 1, 1) := by decide +kernel
theorem dX0_leastCostOut_42 : decode cX0_leastCostOut 42 = .ok (.if_icmp .ge 5, 3) := by decide +kernel
theorem dX0_leastCostOut_45 : decode cX0_leastCostOut 45 = .ok (.iload_n 3, 1) := by decide +kernel
theorem dX0_leastCostOut_46 : decode cX0_leastCostOut 46 = .ok (.istore_n 1, 1) := by decide +kernel
theorem dX0_leastCostOut_47 : decode cX0_leastCostOut 47 = .ok (.iinc 2 1, 3) := by decide +kernel
theorem dX0_leastCostOut_50 : decode cX0_leastCostOut 50 = .ok (.goto (-46), 3) := by decide +kernel
theorem dX0_leastCostOut_53 : decode cX0_leastCostOut 53 = .ok (.iload_n 1, 1) := by decide +kernel
theorem dX0_leastCostOut_54 : decode cX0_leastCostOut 54 = .ok (.ireturn, 1) := by decide +kernel
theorem dX0_foundOut_0 : decode cX0_foundOut 0 = .ok (.iconst 0, 1) := by decide +kernel
theorem dX0_foundOut_1 : decode cX0_foundOut 1 = .ok (.istore_n 1, 1) := by decide +kernel
theorem dX0_foundOut_2 : decode cX0_foundOut 2 = .ok (.iconst 0, 1) := by decide +kernel
theorem dX0_foundOut_3 : decode cX0_foundOut 3 = .ok (.istore_n 2, 1) := by decide +kernel
theorem dX0_foundOut_4 : decode cX0_foundOut 4 = .ok (.iload_n 2, 1) := by decide +kernel
theorem dX0_foundOut_5 : decode cX0_foundOut 5 = .ok (.aload_n 0, 1) := by decide +kernel
theorem dX0_foundOut_6 : decode cX0_foundOut 6 = .ok (.getfield 80, 3) := by decide +kernel
theorem dX0_foundOut_9 : decode cX0_foundOut 9 = .ok (.if_icmp .ge 32, 3) := by decide +kernel
theorem dX0_foundOut_12 : decode cX0_foundOut 12 = .ok (.iload_n 2, 1) := by decide +kernel
theorem dX0_foundOut_13 : decode cX0_foundOut 13 = .ok (.sipush 4096, 3) := by decide +kernel
theorem dX0_foundOut_16 : decode cX0_foundOut 16 = .ok (.if_icmp .ge 25, 3) := by decide +kernel
theorem dX0_foundOut_19 : decode cX0_foundOut 19 = .ok (.aload_n 0, 1) := by decide +kernel
theorem dX0_foundOut_20 : decode cX0_foundOut 20 = .ok (.aload_n 0, 1) := by decide +kernel
theorem dX0_foundOut_21 : decode cX0_foundOut 21 = .ok (.getfield 21, 3) := by decide +kernel
theorem dX0_foundOut_24 : decode cX0_foundOut 24 = .ok (.iload_n 2, 1) := by decide +kernel
theorem dX0_foundOut_25 : decode cX0_foundOut 25 = .ok (.iaload, 1) := by decide +kernel
theorem dX0_foundOut_26 : decode cX0_foundOut 26 = .ok (.invokevirtual 107, 3) := by decide +kernel
theorem dX0_foundOut_29 : decode cX0_foundOut 29 = .ok (.ifCond .eq 6, 3) := by decide +kernel
theorem dX0_foundOut_32 : decode cX0_foundOut 32 = .ok (.iinc 1 1, 3) := by decide +kernel
theorem dX0_foundOut_35 : decode cX0_foundOut 35 = .ok (.iinc 2 1, 3) := by decide +kernel
theorem dX0_foundOut_38 : decode cX0_foundOut 38 = .ok (.goto (-34), 3) := by decide +kernel
theorem dX0_foundOut_41 : decode cX0_foundOut 41 = .ok (.iload_n 1, 1) := by decide +kernel
theorem dX0_foundOut_42 : decode cX0_foundOut 42 = .ok (.ireturn, 1) := by decide +kernel
theorem dX0_farthestFound_0 : decode cX0_farthestFound 0 = .ok (.aload_n 0, 1) := by decide +kernel
theorem dX0_farthestFound_1 : decode cX0_farthestFound 1 = .ok (.getfield 80, 3) := by decide +kernel
theorem dX0_farthestFound_4 : decode cX0_farthestFound 4 = .ok (.iconst 1, 1) := by decide +kernel
theorem dX0_farthestFound_5 : decode cX0_farthestFound 5 = .ok (.isub, 1) := by decide +kernel
theorem dX0_farthestFound_6 : decode cX0_farthestFound 6 = .ok (.istore_n 1, 1) := by decide +kernel
theorem dX0_farthestFound_7 : decode cX0_farthestFound 7 = .ok (.iload_n 1, 1) := by decide +kernel
theorem dX0_farthestFound_8 : decode cX0_farthestFound 8 = .ok (.ifCond .lt 23, 3) := by decide +kernel
theorem dX0_farthestFound_11 : decode cX0_farthestFound 11 = .ok (.iload_n 1, 1) := by decide +kernel
theorem dX0_farthestFound_12 : decode cX0_farthestFound 12 = .ok (.sipush 4096, 3) := by decide +kernel
theorem dX0_farthestFound_15 : decode cX0_farthestFound 15 = .ok (.if_icmp .ge 16, 3) := by decide +kernel
theorem dX0_farthestFound_18 : decode cX0_farthestFound 18 = .ok (.aload_n 0, 1) := by decide +kernel
theorem dX0_farthestFound_19 : decode cX0_farthestFound 19 = .ok (.aload_n 0, 1) := by decide +kernel
theorem dX0_farthestFound_20 : decode cX0_farthestFound 20 = .ok (.getfield 21, 3) := by decide +kernel
theorem dX0_farthestFound_23 : decode cX0_farthestFound 23 = .ok (.iload_n 1, 1) := by decide +kernel
theorem dX0_farthestFound_24 : decode cX0_farthestFound 24 = .ok (.iaload, 1) := by decide +kernel
theorem dX0_farthestFound_25 : decode cX0_farthestFound 25 = .ok (.invokevirtual 83, 3) := by decide +kernel
theorem dX0_farthestFound_28 : decode cX0_farthestFound 28 = .ok (.goto 4, 3) := by decide +kernel
theorem dX0_farthestFound_31 : decode cX0_farthestFound 31 = .ok (.iconst 0, 1) := by decide +kernel
theorem dX0_farthestFound_32 : decode cX0_farthestFound 32 = .ok (.ireturn, 1) := by decide +kernel
theorem dX0_findNextSlide_0 : decode cX0_findNextSlide 0 = .ok (.aload_n 0, 1) := by decide +kernel
theorem dX0_findNextSlide_1 : decode cX0_findNextSlide 1 = .ok (.iload_n 1, 1) := by decide +kernel
theorem dX0_findNextSlide_2 : decode cX0_findNextSlide 2 = .ok (.invokevirtual 83, 3) := by decide +kernel
theorem dX0_findNextSlide_5 : decode cX0_findNextSlide 5 = .ok (.istore_n 2, 1) := by decide +kernel
theorem dX0_findNextSlide_6 : decode cX0_findNextSlide 6 = .ok (.iconst 0, 1) := by decide +kernel
theorem dX0_findNextSlide_7 : decode cX0_findNextSlide 7 = .ok (.istore_n 3, 1) := by decide +kernel
theorem dX0_findNextSlide_8 : decode cX0_findNextSlide 8 = .ok (.iload_n 3, 1) := by decide +kernel
theorem dX0_findNextSlide_9 : decode cX0_findNextSlide 9 = .ok (.aload_n 0, 1) := by decide +kernel
theorem dX0_findNextSlide_10 : decode cX0_findNextSlide 10 = .ok (.getfield 39, 3) := by decide +kernel
theorem dX0_findNextSlide_13 : decode cX0_findNextSlide 13 = .ok (.if_icmp .ge 65, 3) := by decide +kernel
theorem dX0_findNextSlide_16 : decode cX0_findNextSlide 16 = .ok (.iload_n 2, 1) := by decide +kernel
theorem dX0_findNextSlide_17 : decode cX0_findNextSlide 17 = .ok (.ifCond .le 61, 3) := by decide +kernel
theorem dX0_findNextSlide_20 : decode cX0_findNextSlide 20 = .ok (.bipush (-3), 2) := by decide +kernel
theorem dX0_findNextSlide_22 : decode cX0_findNextSlide 22 = .ok (.istore 4, 2) := by decide +kernel
theorem dX0_findNextSlide_24 : decode cX0_findNextSlide 24 = .ok (.iload 4, 2) := by decide +kernel
theorem dX0_findNextSlide_26 : decode cX0_findNextSlide 26 = .ok (.iconst 3, 1) := by decide +kernel
theorem dX0_findNextSlide_27 : decode cX0_findNextSlide 27 = .ok (.if_icmp .gt 45, 3) := by decide +kernel
theorem dX0_findNextSlide_30 : decode cX0_findNextSlide 30 = .ok (.iload 4, 2) := by decide +kernel
theorem dX0_findNextSlide_32 : decode cX0_findNextSlide 32 = .ok (.ifCond .eq 34, 3) := by decide +kernel
theorem dX0_findNextSlide_35 : decode cX0_findNextSlide 35 = .ok (.aload_n 0, 1) := by decide +kernel
theorem dX0_findNextSlide_36 : decode cX0_findNextSlide 36 = .ok (.aload_n 0, 1) := by decide +kernel
theorem dX0_findNextSlide_37 : decode cX0_findNextSlide 37 = .ok (.iload_n 1, 1) := by decide +kernel
theorem dX0_findNextSlide_38 : decode cX0_findNextSlide 38 = .ok (.iload_n 3, 1) := by decide +kernel
theorem dX0_findNextSlide_39 : decode cX0_findNextSlide 39 = .ok (.iload 4, 2) := by decide +kernel
theorem dX0_findNextSlide_41 : decode cX0_findNextSlide 41 = .ok (.invokevirtual 110, 3) := by decide +kernel
theorem dX0_findNextSlide_44 : decode cX0_findNextSlide 44 = .ok (.invokevirtual 83, 3) := by decide +kernel
theorem dX0_findNextSlide_47 : decode cX0_findNextSlide 47 = .ok (.iload_n 2, 1) := by decide +kernel
theorem dX0_findNextSlide_48 : decode cX0_findNextSlide 48 = .ok (.iconst 1, 1) := by decide +kernel
theorem dX0_findNextSlide_49 : decode cX0_findNextSlide 49 = .ok (.isub, 1) := by decide +kernel
theorem dX0_findNextSlide_50 : decode cX0_findNextSlide 50 = .ok (.if_icmp .ne 16, 3) := by decide +kernel
theorem dX0_findNextSlide_53 : decode cX0_findNextSlide 53 = .ok (.aload_n 0, 1) := by decide +kernel
theorem dX0_findNextSlide_54 : decode cX0_findNextSlide 54 = .ok (.iload_n 3, 1) := by decide +kernel
theorem dX0_findNextSlide_55 : decode cX0_findNextSlide 55 = .ok (.putfield 113, 3) := by decide +kernel
theorem dX0_findNextSlide_58 : decode cX0_findNextSlide 58 = .ok (.aload_n 0, 1) := by decide +kernel
theorem dX0_findNextSlide_59 : decode cX0_findNextSlide 59 = .ok (.iload 4, 2) := by decide +kernel
theorem dX0_findNextSlide_61 : decode cX0_findNextSlide 61 = .ok (.putfield 116, 3) := by decide +kernel
theorem dX0_findNextSlide_64 : decode cX0_findNextSlide 64 = .ok (.iconst 1, 1) := by decide +kernel
theorem dX0_findNextSlide_65 : decode cX0_findNextSlide 65 = .ok (.ireturn, 1) := by decide +kernel
theorem dX0_findNextSlide_66 : decode cX0_findNextSlide 66 = .ok (.iinc 4 1, 3) := by decide +kernel
theorem dX0_findNextSlide_69 : decode cX0_findNextSlide 69 = .ok (.goto (-45), 3) := by decide +kernel
theorem dX0_findNextSlide_72 : decode cX0_findNextSlide 72 = .ok (.iinc 3 1, 3) := by decide +kernel
theorem dX0_findNextSlide_75 : decode cX0_findNextSlide 75 = .ok (.goto (-67), 3) := by decide +kernel
theorem dX0_findNextSlide_78 : decode cX0_findNextSlide 78 = .ok (.iconst 0, 1) := by decide +kernel
theorem dX0_findNextSlide_79 : decode cX0_findNextSlide 79 = .ok (.ireturn, 1) := by decide +kernel
theorem dX0_fuelByBuckets_0 : decode cX0_fuelByBuckets 0 = .ok (.aload_n 0, 1) := by decide +kernel
theorem dX0_fuelByBuckets_1 : decode cX0_fuelByBuckets 1 = .ok (.invokevirtual 93, 3) := by decide +kernel
theorem dX0_fuelByBuckets_4 : decode cX0_fuelByBuckets 4 = .ok (.iconst 0, 1) := by decide +kernel
theorem dX0_fuelByBuckets_5 : decode cX0_fuelByBuckets 5 = .ok (.istore_n 1, 1) := by decide +kernel
theorem dX0_fuelByBuckets_6 : decode cX0_fuelByBuckets 6 = .ok (.iload_n 1, 1) := by decide +kernel
theorem dX0_fuelByBuckets_7 : decode cX0_fuelByBuckets 7 = .ok (.iconst 4, 1) := by decide +kernel
theorem dX0_fuelByBuckets_8 : decode cX0_fuelByBuckets 8 = .ok (.if_icmp .ge 16, 3) := by decide +kernel
theorem dX0_fuelByBuckets_11 : decode cX0_fuelByBuckets 11 = .ok (.aload_n 0, 1) := by decide +kernel
theorem dX0_fuelByBuckets_12 : decode cX0_fuelByBuckets 12 = .ok (.getfield 27, 3) := by decide +kernel
theorem dX0_fuelByBuckets_15 : decode cX0_fuelByBuckets 15 = .ok (.iload_n 1, 1) := by decide +kernel
theorem dX0_fuelByBuckets_16 : decode cX0_fuelByBuckets 16 = .ok (.iconst 0, 1) := by decide +kernel
theorem dX0_fuelByBuckets_17 : decode cX0_fuelByBuckets 17 = .ok (.iastore, 1) := by decide +kernel
theorem dX0_fuelByBuckets_18 : decode cX0_fuelByBuckets 18 = .ok (.iinc 1 1, 3) := by decide +kernel
theorem dX0_fuelByBuckets_21 : decode cX0_fuelByBuckets 21 = .ok (.goto (-15), 3) := by decide +kernel
theorem dX0_fuelByBuckets_24 : decode cX0_fuelByBuckets 24 = .ok (.aload_n 0, 1) := by decide +kernel
theorem dX0_fuelByBuckets_25 : decode cX0_fuelByBuckets 25 = .ok (.aload_n 0, 1) := by decide +kernel
theorem dX0_fuelByBuckets_26 : decode cX0_fuelByBuckets 26 = .ok (.getfield 46, 3) := by decide +kernel
theorem dX0_fuelByBuckets_29 : decode cX0_fuelByBuckets 29 = .ok (.iconst 0, 1) := by decide +kernel
theorem dX0_fuelByBuckets_30 : decode cX0_fuelByBuckets 30 = .ok (.invokevirtual 119, 3) := by decide +kernel
theorem dX0_fuelByBuckets_33 : decode cX0_fuelByBuckets 33 = .ok (.iconst 0, 1) := by decide +kernel
theorem dX0_fuelByBuckets_34 : decode cX0_fuelByBuckets 34 = .ok (.istore_n 1, 1) := by decide +kernel
theorem dX0_fuelByBuckets_35 : decode cX0_fuelByBuckets 35 = .ok (.iload_n 1, 1) := by decide +kernel
theorem dX0_fuelByBuckets_36 : decode cX0_fuelByBuckets 36 = .ok (.sipush 12288, 3) := by decide +kernel
theorem dX0_fuelByBuckets_39 : decode cX0_fuelByBuckets 39 = .ok (.if_icmp .gt 31, 3) := by decide +kernel
theorem dX0_fuelByBuckets_42 : decode cX0_fuelByBuckets 42 = .ok (.aload_n 0, 1) := by decide +kernel
theorem dX0_fuelByBuckets_43 : decode cX0_fuelByBuckets 43 = .ok (.invokevirtual 122, 3) := by decide +kernel
theorem dX0_fuelByBuckets_46 : decode cX0_fuelByBuckets 46 = .ok (.ifCond .eq 24, 3) := by decide +kernel
theorem dX0_fuelByBuckets_49 : decode cX0_fuelByBuckets 49 = .ok (.aload_n 0, 1) := by decide +kernel
theorem dX0_fuelByBuckets_50 : decode cX0_fuelByBuckets 50 = .ok (.iload_n 1, 1) := by decide +kernel
theorem dX0_fuelByBuckets_51 : decode cX0_fuelByBuckets 51 = .ok (.invokevirtual 126, 3) := by decide +kernel
theorem dX0_fuelByBuckets_54 : decode cX0_fuelByBuckets 54 = .ok (.ifCond .eq 5, 3) := by decide +kernel
theorem dX0_fuelByBuckets_57 : decode cX0_fuelByBuckets 57 = .ok (.iload_n 1, 1) := by decide +kernel
theorem dX0_fuelByBuckets_58 : decode cX0_fuelByBuckets 58 = .ok (.ireturn, 1) := by decide +kernel
theorem dX0_fuelByBuckets_59 : decode cX0_fuelByBuckets 59 = .ok (.aload_n 0, 1) := by decide +kernel
theorem dX0_fuelByBuckets_60 : decode cX0_fuelByBuckets 60 = .ok (.iload_n 1, 1) := by decide +kernel
theorem dX0_fuelByBuckets_61 : decode cX0_fuelByBuckets 61 = .ok (.invokevirtual 129, 3) := by decide +kernel
theorem dX0_fuelByBuckets_64 : decode cX0_fuelByBuckets 64 = .ok (.iinc 1 1, 3) := by decide +kernel
theorem dX0_fuelByBuckets_67 : decode cX0_fuelByBuckets 67 = .ok (.goto (-32), 3) := by decide +kernel
theorem dX0_fuelByBuckets_70 : decode cX0_fuelByBuckets 70 = .ok (.iconst (-1), 1) := by decide +kernel
theorem dX0_fuelByBuckets_71 : decode cX0_fuelByBuckets 71 = .ok (.ireturn, 1) := by decide +kernel
theorem dX0_isAnyFilled_0 : decode cX0_isAnyFilled 0 = .ok (.aload_n 0, 1) := by decide +kernel
theorem dX0_isAnyFilled_1 : decode cX0_isAnyFilled 1 = .ok (.getfield 27, 3) := by decide +kernel
theorem dX0_isAnyFilled_4 : decode cX0_isAnyFilled 4 = .ok (.iconst 0, 1) := by decide +kernel
theorem dX0_isAnyFilled_5 : decode cX0_isAnyFilled 5 = .ok (.iaload, 1) := by decide +kernel
theorem dX0_isAnyFilled_6 : decode cX0_isAnyFilled 6 = .ok (.aload_n 0, 1) := by decide +kernel
theorem dX0_isAnyFilled_7 : decode cX0_isAnyFilled 7 = .ok (.getfield 27, 3) := by decide +kernel
theorem dX0_isAnyFilled_10 : decode cX0_isAnyFilled 10 = .ok (.iconst 1, 1) := by decide +kernel
theorem dX0_isAnyFilled_11 : decode cX0_isAnyFilled 11 = .ok (.iaload, 1) := by decide +kernel
theorem dX0_isAnyFilled_12 : decode cX0_isAnyFilled 12 = .ok (.iadd, 1) := by decide +kernel
theorem dX0_isAnyFilled_13 : decode cX0_isAnyFilled 13 = .ok (.aload_n 0, 1) := by decide +kernel
theorem dX0_isAnyFilled_14 : decode cX0_isAnyFilled 14 = .ok (.getfield 27, 3) := by decide +kernel
theorem dX0_isAnyFilled_17 : decode cX0_isAnyFilled 17 = .ok (.iconst 2, 1) := by decide +kernel
theorem dX0_isAnyFilled_18 : decode cX0_isAnyFilled 18 = .ok (.iaload, 1) := by decide +kernel
theorem dX0_isAnyFilled_19 : decode cX0_isAnyFilled 19 = .ok (.iadd, 1) := by decide +kernel
theorem dX0_isAnyFilled_20 : decode cX0_isAnyFilled 20 = .ok (.aload_n 0, 1) := by decide +kernel
theorem dX0_isAnyFilled_21 : decode cX0_isAnyFilled 21 = .ok (.getfield 27, 3) := by decide +kernel
theorem dX0_isAnyFilled_24 : decode cX0_isAnyFilled 24 = .ok (.iconst 3, 1) := by decide +kernel
theorem dX0_isAnyFilled_25 : decode cX0_isAnyFilled 25 = .ok (.iaload, 1) := by decide +kernel
theorem dX0_isAnyFilled_26 : decode cX0_isAnyFilled 26 = .ok (.iadd, 1) := by decide +kernel
theorem dX0_isAnyFilled_27 : decode cX0_isAnyFilled 27 = .ok (.ifCond .le 7, 3) := by decide +kernel
theorem dX0_isAnyFilled_30 : decode cX0_isAnyFilled 30 = .ok (.iconst 1, 1) := by decide +kernel
theorem dX0_isAnyFilled_31 : decode cX0_isAnyFilled 31 = .ok (.goto 4, 3) := by decide +kernel
theorem dX0_isAnyFilled_34 : decode cX0_isAnyFilled 34 = .ok (.iconst 0, 1) := by decide +kernel
theorem dX0_isAnyFilled_35 : decode cX0_isAnyFilled 35 = .ok (.ireturn, 1) := by decide +kernel
theorem dX0_inBucket_0 : decode cX0_inBucket 0 = .ok (.iload_n 1, 1) := by decide +kernel
theorem dX0_inBucket_1 : decode cX0_inBucket 1 = .ok (.iconst 3, 1) := by decide +kernel
theorem dX0_inBucket_2 : decode cX0_inBucket 2 = .ok (.iand, 1) := by decide +kernel
theorem dX0_inBucket_3 : decode cX0_inBucket 3 = .ok (.sipush 4096, 3) := by decide +kernel
theorem dX0_inBucket_6 : decode cX0_inBucket 6 = .ok (.imul, 1) := by decide +kernel
theorem dX0_inBucket_7 : decode cX0_inBucket 7 = .ok (.iload_n 2, 1) := by decide +kernel
theorem dX0_inBucket_8 : decode cX0_inBucket 8 = .ok (.iadd, 1) := by decide +kernel
theorem dX0_inBucket_9 : decode cX0_inBucket 9 = .ok (.istore_n 3, 1) := by decide +kernel
theorem dX0_inBucket_10 : decode cX0_inBucket 10 = .ok (.iload_n 3, 1) := by decide +kernel
theorem dX0_inBucket_11 : decode cX0_inBucket 11 = .ok (.ifCond .lt 19, 3) := by decide +kernel
theorem dX0_inBucket_14 : decode cX0_inBucket 14 = .ok (.iload_n 3, 1) := by decide +kernel
theorem dX0_inBucket_15 : decode cX0_inBucket 15 = .ok (.sipush 16384, 3) := by decide +kernel
theorem dX0_inBucket_18 : decode cX0_inBucket 18 = .ok (.if_icmp .ge 12, 3) := by decide +kernel
theorem dX0_inBucket_21 : decode cX0_inBucket 21 = .ok (.aload_n 0, 1) := by decide +kernel
theorem dX0_inBucket_22 : decode cX0_inBucket 22 = .ok (.getfield 24, 3) := by decide +kernel
theorem dX0_inBucket_25 : decode cX0_inBucket 25 = .ok (.iload_n 3, 1) := by decide +kernel
theorem dX0_inBucket_26 : decode cX0_inBucket 26 = .ok (.iaload, 1) := by decide +kernel
theorem dX0_inBucket_27 : decode cX0_inBucket 27 = .ok (.goto 4, 3) := by decide +kernel
theorem dX0_inBucket_30 : decode cX0_inBucket 30 = .ok (.iconst (-1), 1) := by decide +kernel
theorem dX0_inBucket_31 : decode cX0_inBucket 31 = .ok (.istore 4, 2) := by decide +kernel
theorem dX0_inBucket_33 : decode cX0_inBucket 33 = .ok (.aload_n 0, 1) := by decide +kernel
theorem dX0_inBucket_34 : decode cX0_inBucket 34 = .ok (.iload 4, 2) := by decide +kernel
theorem dX0_inBucket_36 : decode cX0_inBucket 36 = .ok (.invokevirtual 83, 3) := by decide +kernel
theorem dX0_inBucket_39 : decode cX0_inBucket 39 = .ok (.iload_n 1, 1) := by decide +kernel
theorem dX0_inBucket_40 : decode cX0_inBucket 40 = .ok (.if_icmp .ne 8, 3) := by decide +kernel
theorem dX0_inBucket_43 : decode cX0_inBucket 43 = .ok (.iload 4, 2) := by decide +kernel
theorem dX0_inBucket_45 : decode cX0_inBucket 45 = .ok (.goto 4, 3) := by decide +kernel
theorem dX0_inBucket_48 : decode cX0_inBucket 48 = .ok (.iconst (-1), 1) := by decide +kernel
theorem dX0_inBucket_49 : decode cX0_inBucket 49 = .ok (.ireturn, 1) := by decide +kernel
theorem dX0_hasOutFor_0 : decode cX0_hasOutFor 0 = .ok (.iconst 0, 1) := by decide +kernel
theorem dX0_hasOutFor_1 : decode cX0_hasOutFor 1 = .ok (.istore_n 2, 1) := by decide +kernel
theorem dX0_hasOutFor_2 : decode cX0_hasOutFor 2 = .ok (.iload_n 2, 1) := by decide +kernel
theorem dX0_hasOutFor_3 : decode cX0_hasOutFor 3 = .ok (.aload_n 0, 1) := by decide +kernel
theorem dX0_hasOutFor_4 : decode cX0_hasOutFor 4 = .ok (.getfield 27, 3) := by decide +kernel
theorem dX0_hasOutFor_7 : decode cX0_hasOutFor 7 = .ok (.iload_n 1, 1) := by decide +kernel
theorem dX0_hasOutFor_8 : decode cX0_hasOutFor 8 = .ok (.iconst 3, 1) := by decide +kernel
theorem dX0_hasOutFor_9 : decode cX0_hasOutFor 9 = .ok (.iand, 1) := by decide +kernel
theorem dX0_hasOutFor_10 : decode cX0_hasOutFor 10 = .ok (.iaload, 1) := by decide +kernel
theorem dX0_hasOutFor_11 : decode cX0_hasOutFor 11 = .ok (.if_icmp .ge 31, 3) := by decide +kernel
theorem dX0_hasOutFor_14 : decode cX0_hasOutFor 14 = .ok (.aload_n 0, 1) := by decide +kernel
theorem dX0_hasOutFor_15 : decode cX0_hasOutFor 15 = .ok (.iload_n 1, 1) := by decide +kernel
theorem dX0_hasOutFor_16 : decode cX0_hasOutFor 16 = .ok (.iload_n 2, 1) := by decide +kernel
theorem dX0_hasOutFor_17 : decode cX0_hasOutFor 17 = .ok (.invokevirtual 132, 3) := by decide +kernel
theorem dX0_hasOutFor_20 : decode cX0_hasOutFor 20 = .ok (.istore_n 3, 1) := by decide +kernel
theorem dX0_hasOutFor_21 : decode cX0_hasOutFor 21 = .ok (.iload_n 3, 1) := by decide +kernel
theorem dX0_hasOutFor_22 : decode cX0_hasOutFor 22 = .ok (.iconst (-1), 1) := by decide +kernel
theorem dX0_hasOutFor_23 : decode cX0_hasOutFor 23 = .ok (.if_icmp .eq 13, 3) := by decide +kernel
theorem dX0_hasOutFor_26 : decode cX0_hasOutFor 26 = .ok (.aload_n 0, 1) := by decide +kernel
theorem dX0_hasOutFor_27 : decode cX0_hasOutFor 27 = .ok (.iload_n 3, 1) := by decide +kernel
theorem dX0_hasOutFor_28 : decode cX0_hasOutFor 28 = .ok (.invokevirtual 107, 3) := by decide +kernel
theorem dX0_hasOutFor_31 : decode cX0_hasOutFor 31 = .ok (.ifCond .eq 5, 3) := by decide +kernel
theorem dX0_hasOutFor_34 : decode cX0_hasOutFor 34 = .ok (.iconst 1, 1) := by decide +kernel
theorem dX0_hasOutFor_35 : decode cX0_hasOutFor 35 = .ok (.ireturn, 1) := by decide +kernel
theorem dX0_hasOutFor_36 : decode cX0_hasOutFor 36 = .ok (.iinc 2 1, 3) := by decide +kernel
theorem dX0_hasOutFor_39 : decode cX0_hasOutFor 39 = .ok (.goto (-37), 3) := by decide +kernel
theorem dX0_hasOutFor_42 : decode cX0_hasOutFor 42 = .ok (.iconst 0, 1) := by decide +kernel
theorem dX0_hasOutFor_43 : decode cX0_hasOutFor 43 = .ok (.ireturn, 1) := by decide +kernel
theorem dX0_emptyBucket_0 : decode cX0_emptyBucket 0 = .ok (.aload_n 0, 1) := by decide +kernel
theorem dX0_emptyBucket_1 : decode cX0_emptyBucket 1 = .ok (.getfield 27, 3) := by decide +kernel
theorem dX0_emptyBucket_4 : decode cX0_emptyBucket 4 = .ok (.iload_n 1, 1) := by decide +kernel
theorem dX0_emptyBucket_5 : decode cX0_emptyBucket 5 = .ok (.iconst 3, 1) := by decide +kernel
theorem dX0_emptyBucket_6 : decode cX0_emptyBucket 6 = .ok (.iand, 1) := by decide +kernel
theorem dX0_emptyBucket_7 : decode cX0_emptyBucket 7 = .ok (.iaload, 1) := by decide +kernel
theorem dX0_emptyBucket_8 : decode cX0_emptyBucket 8 = .ok (.istore_n 2, 1) := by decide +kernel
theorem dX0_emptyBucket_9 : decode cX0_emptyBucket 9 = .ok (.iconst 0, 1) := by decide +kernel
theorem dX0_emptyBucket_10 : decode cX0_emptyBucket 10 = .ok (.istore_n 3, 1) := by decide +kernel
theorem dX0_emptyBucket_11 : decode cX0_emptyBucket 11 = .ok (.iload_n 3, 1) := by decide +kernel
theorem dX0_emptyBucket_12 : decode cX0_emptyBucket 12 = .ok (.iload_n 2, 1) := by decide +kernel
theorem dX0_emptyBucket_13 : decode cX0_emptyBucket 13 = .ok (.if_icmp .ge 92, 3) := by decide +kernel
theorem dX0_emptyBucket_16 : decode cX0_emptyBucket 16 = .ok (.aload_n 0, 1) := by decide +kernel
theorem dX0_emptyBucket_17 : decode cX0_emptyBucket 17 = .ok (.iload_n 1, 1) := by decide +kernel
theorem dX0_emptyBucket_18 : decode cX0_emptyBucket 18 = .ok (.iload_n 3, 1) := by decide +kernel
theorem dX0_emptyBucket_19 : decode cX0_emptyBucket 19 = .ok (.invokevirtual 132, 3) := by decide +kernel
theorem dX0_emptyBucket_22 : decode cX0_emptyBucket 22 = .ok (.istore 4, 2) := by decide +kernel
theorem dX0_emptyBucket_24 : decode cX0_emptyBucket 24 = .ok (.iconst 0, 1) := by decide +kernel
theorem dX0_emptyBucket_25 : decode cX0_emptyBucket 25 = .ok (.istore 5, 2) := by decide +kernel
theorem dX0_emptyBucket_27 : decode cX0_emptyBucket 27 = .ok (.iload 5, 2) := by decide +kernel
theorem dX0_emptyBucket_29 : decode cX0_emptyBucket 29 = .ok (.aload_n 0, 1) := by decide +kernel
theorem dX0_emptyBucket_30 : decode cX0_emptyBucket 30 = .ok (.getfield 39, 3) := by decide +kernel
theorem dX0_emptyBucket_33 : decode cX0_emptyBucket 33 = .ok (.if_icmp .ge 66, 3) := by decide +kernel
theorem dX0_emptyBucket_36 : decode cX0_emptyBucket 36 = .ok (.iload 5, 2) := by decide +kernel
theorem dX0_emptyBucket_38 : decode cX0_emptyBucket 38 = .ok (.bipush 6, 2) := by decide +kernel
theorem dX0_emptyBucket_40 : decode cX0_emptyBucket 40 = .ok (.if_icmp .ge 59, 3) := by decide +kernel
theorem dX0_emptyBucket_43 : decode cX0_emptyBucket 43 = .ok (.iload 4, 2) := by decide +kernel
theorem dX0_emptyBucket_45 : decode cX0_emptyBucket 45 = .ok (.iconst (-1), 1) := by decide +kernel
theorem dX0_emptyBucket_46 : decode cX0_emptyBucket 46 = .ok (.if_icmp .eq 53, 3) := by decide +kernel
theorem dX0_emptyBucket_49 : decode cX0_emptyBucket 49 = .ok (.aload_n 0, 1) := by decide +kernel
theorem dX0_emptyBucket_50 : decode cX0_emptyBucket 50 = .ok (.aload_n 0, 1) := by decide +kernel
theorem dX0_emptyBucket_51 : decode cX0_emptyBucket 51 = .ok (.iload 4, 2) := by decide +kernel
theorem dX0_emptyBucket_53 : decode cX0_emptyBucket 53 = .ok (.iload 5, 2) := by decide +kernel
theorem dX0_emptyBucket_55 : decode cX0_emptyBucket 55 = .ok (.iconst 1, 1) := by decide +kernel
theorem dX0_emptyBucket_56 : decode cX0_emptyBucket 56 = .ok (.invokevirtual 77, 3) := by decide +kernel
theorem dX0_emptyBucket_59 : decode cX0_emptyBucket 59 = .ok (.iload_n 1, 1) := by decide +kernel
theorem dX0_emptyBucket_60 : decode cX0_emptyBucket 60 = .ok (.aload_n 0, 1) := by decide +kernel
theorem dX0_emptyBucket_61 : decode cX0_emptyBucket 61 = .ok (.getfield 11, 3) := by decide +kernel
theorem dX0_emptyBucket_64 : decode cX0_emptyBucket 64 = .ok (.iload 5, 2) := by decide +kernel
theorem dX0_emptyBucket_66 : decode cX0_emptyBucket 66 = .ok (.iaload, 1) := by decide +kernel
theorem dX0_emptyBucket_67 : decode cX0_emptyBucket 67 = .ok (.iadd, 1) := by decide +kernel
theorem dX0_emptyBucket_68 : decode cX0_emptyBucket 68 = .ok (.invokevirtual 119, 3) := by decide +kernel
theorem dX0_emptyBucket_71 : decode cX0_emptyBucket 71 = .ok (.aload_n 0, 1) := by decide +kernel
theorem dX0_emptyBucket_72 : decode cX0_emptyBucket 72 = .ok (.aload_n 0, 1) := by decide +kernel
theorem dX0_emptyBucket_73 : decode cX0_emptyBucket 73 = .ok (.iload 4, 2) := by decide +kernel
theorem dX0_emptyBucket_75 : decode cX0_emptyBucket 75 = .ok (.iload 5, 2) := by decide +kernel
theorem dX0_emptyBucket_77 : decode cX0_emptyBucket 77 = .ok (.iconst (-1), 1) := by decide +kernel
theorem dX0_emptyBucket_78 : decode cX0_emptyBucket 78 = .ok (.invokevirtual 77, 3) := by decide +kernel
theorem dX0_emptyBucket_81 : decode cX0_emptyBucket 81 = .ok (.iload_n 1, 1) := by decide +kernel
theorem dX0_emptyBucket_82 : decode cX0_emptyBucket 82 = .ok (.aload_n 0, 1) := by decide +kernel
theorem dX0_emptyBucket_83 : decode cX0_emptyBucket 83 = .ok (.getfield 11, 3) := by decide +kernel
theorem dX0_emptyBucket_86 : decode cX0_emptyBucket 86 = .ok (.iload 5, 2) := by decide +kernel
theorem dX0_emptyBucket_88 : decode cX0_emptyBucket 88 = .ok (.iaload, 1) := by decide +kernel
theorem dX0_emptyBucket_89 : decode cX0_emptyBucket 89 = .ok (.iadd, 1) := by decide +kernel
theorem dX0_emptyBucket_90 : decode cX0_emptyBucket 90 = .ok (.invokevirtual 119, 3) := by decide +kernel
theorem dX0_emptyBucket_93 : decode cX0_emptyBucket 93 = .ok (.iinc 5 1, 3) := by decide +kernel
theorem dX0_emptyBucket_96 : decode cX0_emptyBucket 96 = .ok (.goto (-69), 3) := by decide +kernel
theorem dX0_emptyBucket_99 : decode cX0_emptyBucket 99 = .ok (.iinc 3 1, 3) := by decide +kernel
theorem dX0_emptyBucket_102 : decode cX0_emptyBucket 102 = .ok (.goto (-91), 3) := by decide +kernel
theorem dX0_emptyBucket_105 : decode cX0_emptyBucket 105 = .ok (.aload_n 0, 1) := by decide +kernel
theorem dX0_emptyBucket_106 : decode cX0_emptyBucket 106 = .ok (.getfield 27, 3) := by decide +kernel
theorem dX0_emptyBucket_109 : decode cX0_emptyBucket 109 = .ok (.iload_n 1, 1) := by decide +kernel
theorem dX0_emptyBucket_110 : decode cX0_emptyBucket 110 = .ok (.iconst 3, 1) := by decide +kernel
theorem dX0_emptyBucket_111 : decode cX0_emptyBucket 111 = .ok (.iand, 1) := by decide +kernel
theorem dX0_emptyBucket_112 : decode cX0_emptyBucket 112 = .ok (.iconst 0, 1) := by decide +kernel
theorem dX0_emptyBucket_113 : decode cX0_emptyBucket 113 = .ok (.iastore, 1) := by decide +kernel
theorem dX0_emptyBucket_114 : decode cX0_emptyBucket 114 = .ok (.return_, 1) := by decide +kernel
theorem dX0_cheapen_0 : decode cX0_cheapen 0 = .ok (.iload_n 2, 1) := by decide +kernel
theorem dX0_cheapen_1 : decode cX0_cheapen 1 = .ok (.iconst 3, 1) := by decide +kernel
theorem dX0_cheapen_2 : decode cX0_cheapen 2 = .ok (.iand, 1) := by decide +kernel
theorem dX0_cheapen_3 : decode cX0_cheapen 3 = .ok (.istore_n 3, 1) := by decide +kernel
theorem dX0_cheapen_4 : decode cX0_cheapen 4 = .ok (.aload_n 0, 1) := by decide +kernel
theorem dX0_cheapen_5 : decode cX0_cheapen 5 = .ok (.iload_n 1, 1) := by decide +kernel
theorem dX0_cheapen_6 : decode cX0_cheapen 6 = .ok (.iload_n 2, 1) := by decide +kernel
theorem dX0_cheapen_7 : decode cX0_cheapen 7 = .ok (.invokevirtual 135, 3) := by decide +kernel
theorem dX0_cheapen_10 : decode cX0_cheapen 10 = .ok (.ifCond .eq 50, 3) := by decide +kernel
theorem dX0_cheapen_13 : decode cX0_cheapen 13 = .ok (.aload_n 0, 1) := by decide +kernel
theorem dX0_cheapen_14 : decode cX0_cheapen 14 = .ok (.getfield 27, 3) := by decide +kernel
theorem dX0_cheapen_17 : decode cX0_cheapen 17 = .ok (.iload_n 3, 1) := by decide +kernel
theorem dX0_cheapen_18 : decode cX0_cheapen 18 = .ok (.iaload, 1) := by decide +kernel
theorem dX0_cheapen_19 : decode cX0_cheapen 19 = .ok (.sipush 4096, 3) := by decide +kernel
theorem dX0_cheapen_22 : decode cX0_cheapen 22 = .ok (.if_icmp .ge 38, 3) := by decide +kernel
theorem dX0_cheapen_25 : decode cX0_cheapen 25 = .ok (.aload_n 0, 1) := by decide +kernel
theorem dX0_cheapen_26 : decode cX0_cheapen 26 = .ok (.getfield 18, 3) := by decide +kernel
theorem dX0_cheapen_29 : decode cX0_cheapen 29 = .ok (.iload_n 1, 1) := by decide +kernel
theorem dX0_cheapen_30 : decode cX0_cheapen 30 = .ok (.iload_n 2, 1) := by decide +kernel
theorem dX0_cheapen_31 : decode cX0_cheapen 31 = .ok (.iastore, 1) := by decide +kernel
theorem dX0_cheapen_32 : decode cX0_cheapen 32 = .ok (.aload_n 0, 1) := by decide +kernel
theorem dX0_cheapen_33 : decode cX0_cheapen 33 = .ok (.getfield 24, 3) := by decide +kernel
theorem dX0_cheapen_36 : decode cX0_cheapen 36 = .ok (.iload_n 3, 1) := by decide +kernel
theorem dX0_cheapen_37 : decode cX0_cheapen 37 = .ok (.sipush 4096, 3) := by decide +kernel
theorem dX0_cheapen_40 : decode cX0_cheapen 40 = .ok (.imul, 1) := by decide +kernel
theorem dX0_cheapen_41 : decode cX0_cheapen 41 = .ok (.aload_n 0, 1) := by decide +kernel
theorem dX0_cheapen_42 : decode cX0_cheapen 42 = .ok (.getfield 27, 3) := by decide +kernel
theorem dX0_cheapen_45 : decode cX0_cheapen 45 = .ok (.iload_n 3, 1) := by decide +kernel
theorem dX0_cheapen_46 : decode cX0_cheapen 46 = .ok (.iaload, 1) := by decide +kernel
theorem dX0_cheapen_47 : decode cX0_cheapen 47 = .ok (.iadd, 1) := by decide +kernel
theorem dX0_cheapen_48 : decode cX0_cheapen 48 = .ok (.iload_n 1, 1) := by decide +kernel
theorem dX0_cheapen_49 : decode cX0_cheapen 49 = .ok (.iastore, 1) := by decide +kernel
theorem dX0_cheapen_50 : decode cX0_cheapen 50 = .ok (.aload_n 0, 1) := by decide +kernel
theorem dX0_cheapen_51 : decode cX0_cheapen 51 = .ok (.getfield 27, 3) := by decide +kernel
theorem dX0_cheapen_54 : decode cX0_cheapen 54 = .ok (.iload_n 3, 1) := by decide +kernel
theorem dX0_cheapen_55 : decode cX0_cheapen 55 = .ok (.dup2, 1) := by decide +kernel
theorem dX0_cheapen_56 : decode cX0_cheapen 56 = .ok (.iaload, 1) := by decide +kernel
theorem dX0_cheapen_57 : decode cX0_cheapen 57 = .ok (.iconst 1, 1) := by decide +kernel
theorem dX0_cheapen_58 : decode cX0_cheapen 58 = .ok (.iadd, 1) := by decide +kernel
theorem dX0_cheapen_59 : decode cX0_cheapen 59 = .ok (.iastore, 1) := by decide +kernel
theorem dX0_cheapen_60 : decode cX0_cheapen 60 = .ok (.return_, 1) := by decide +kernel
theorem dX0_isCheaper_0 : decode cX0_isCheaper 0 = .ok (.aload_n 0, 1) := by decide +kernel
theorem dX0_isCheaper_1 : decode cX0_isCheaper 1 = .ok (.iload_n 1, 1) := by decide +kernel
theorem dX0_isCheaper_2 : decode cX0_isCheaper 2 = .ok (.invokevirtual 69, 3) := by decide +kernel
theorem dX0_isCheaper_5 : decode cX0_isCheaper 5 = .ok (.ifCond .eq 27, 3) := by decide +kernel
theorem dX0_isCheaper_8 : decode cX0_isCheaper 8 = .ok (.aload_n 0, 1) := by decide +kernel
theorem dX0_isCheaper_9 : decode cX0_isCheaper 9 = .ok (.getfield 18, 3) := by decide +kernel
theorem dX0_isCheaper_12 : decode cX0_isCheaper 12 = .ok (.iload_n 1, 1) := by decide +kernel
theorem dX0_isCheaper_13 : decode cX0_isCheaper 13 = .ok (.iaload, 1) := by decide +kernel
theorem dX0_isCheaper_14 : decode cX0_isCheaper 14 = .ok (.iconst (-1), 1) := by decide +kernel
theorem dX0_isCheaper_15 : decode cX0_isCheaper 15 = .ok (.if_icmp .eq 13, 3) := by decide +kernel
theorem dX0_isCheaper_18 : decode cX0_isCheaper 18 = .ok (.iload_n 2, 1) := by decide +kernel
theorem dX0_isCheaper_19 : decode cX0_isCheaper 19 = .ok (.aload_n 0, 1) := by decide +kernel
theorem dX0_isCheaper_20 : decode cX0_isCheaper 20 = .ok (.getfield 18, 3) := by decide +kernel
theorem dX0_isCheaper_23 : decode cX0_isCheaper 23 = .ok (.iload_n 1, 1) := by decide +kernel
theorem dX0_isCheaper_24 : decode cX0_isCheaper 24 = .ok (.iaload, 1) := by decide +kernel
theorem dX0_isCheaper_25 : decode cX0_isCheaper 25 = .ok (.if_icmp .ge 7, 3) := by decide +kernel
theorem dX0_isCheaper_28 : decode cX0_isCheaper 28 = .ok (.iconst 1, 1) := by decide +kernel
theorem dX0_isCheaper_29 : decode cX0_isCheaper 29 = .ok (.goto 4, 3) := by decide +kernel
theorem dX0_isCheaper_32 : decode cX0_isCheaper 32 = .ok (.iconst 0, 1) := by decide +kernel
theorem dX0_isCheaper_33 : decode cX0_isCheaper 33 = .ok (.ireturn, 1) := by decide +kernel
theorem dX0_fuelByRounds_0 : decode cX0_fuelByRounds 0 = .ok (.aload_n 0, 1) := by decide +kernel
theorem dX0_fuelByRounds_1 : decode cX0_fuelByRounds 1 = .ok (.invokevirtual 93, 3) := by decide +kernel
theorem dX0_fuelByRounds_4 : decode cX0_fuelByRounds 4 = .ok (.aload_n 0, 1) := by decide +kernel
theorem dX0_fuelByRounds_5 : decode cX0_fuelByRounds 5 = .ok (.aload_n 0, 1) := by decide +kernel
theorem dX0_fuelByRounds_6 : decode cX0_fuelByRounds 6 = .ok (.getfield 46, 3) := by decide +kernel
theorem dX0_fuelByRounds_9 : decode cX0_fuelByRounds 9 = .ok (.iconst 0, 1) := by decide +kernel
theorem dX0_fuelByRounds_10 : decode cX0_fuelByRounds 10 = .ok (.invokevirtual 90, 3) := by decide +kernel
theorem dX0_fuelByRounds_13 : decode cX0_fuelByRounds 13 = .ok (.iconst 1, 1) := by decide +kernel
theorem dX0_fuelByRounds_14 : decode cX0_fuelByRounds 14 = .ok (.istore_n 1, 1) := by decide +kernel
theorem dX0_fuelByRounds_15 : decode cX0_fuelByRounds 15 = .ok (.iconst 0, 1) := by decide +kernel
theorem dX0_fuelByRounds_16 : decode cX0_fuelByRounds 16 = .ok (.istore_n 2, 1) := by decide +kernel
theorem dX0_fuelByRounds_17 : decode cX0_fuelByRounds 17 = .ok (.iload_n 2, 1) := by decide +kernel
theorem dX0_fuelByRounds_18 : decode cX0_fuelByRounds 18 = .ok (.sipush 4096, 3) := by decide +kernel
theorem dX0_fuelByRounds_21 : decode cX0_fuelByRounds 21 = .ok (.if_icmp .gt 50, 3) := by decide +kernel
theorem dX0_fuelByRounds_24 : decode cX0_fuelByRounds 24 = .ok (.iload_n 1, 1) := by decide +kernel
theorem dX0_fuelByRounds_25 : decode cX0_fuelByRounds 25 = .ok (.ifCond .eq 46, 3) := by decide +kernel
theorem dX0_fuelByRounds_28 : decode cX0_fuelByRounds 28 = .ok (.iconst 0, 1) := by decide +kernel
theorem dX0_fuelByRounds_29 : decode cX0_fuelByRounds 29 = .ok (.istore_n 1, 1) := by decide +kernel
theorem dX0_fuelByRounds_30 : decode cX0_fuelByRounds 30 = .ok (.iconst 0, 1) := by decide +kernel
theorem dX0_fuelByRounds_31 : decode cX0_fuelByRounds 31 = .ok (.istore_n 3, 1) := by decide +kernel
theorem dX0_fuelByRounds_32 : decode cX0_fuelByRounds 32 = .ok (.iload_n 3, 1) := by decide +kernel
theorem dX0_fuelByRounds_33 : decode cX0_fuelByRounds 33 = .ok (.aload_n 0, 1) := by decide +kernel
theorem dX0_fuelByRounds_34 : decode cX0_fuelByRounds 34 = .ok (.getfield 43, 3) := by decide +kernel
theorem dX0_fuelByRounds_37 : decode cX0_fuelByRounds 37 = .ok (.if_icmp .ge 28, 3) := by decide +kernel
theorem dX0_fuelByRounds_40 : decode cX0_fuelByRounds 40 = .ok (.aload_n 0, 1) := by decide +kernel
theorem dX0_fuelByRounds_41 : decode cX0_fuelByRounds 41 = .ok (.iload_n 3, 1) := by decide +kernel
theorem dX0_fuelByRounds_42 : decode cX0_fuelByRounds 42 = .ok (.invokevirtual 83, 3) := by decide +kernel
theorem dX0_fuelByRounds_45 : decode cX0_fuelByRounds 45 = .ok (.iconst (-1), 1) := by decide +kernel
theorem dX0_fuelByRounds_46 : decode cX0_fuelByRounds 46 = .ok (.if_icmp .eq 13, 3) := by decide +kernel
theorem dX0_fuelByRounds_49 : decode cX0_fuelByRounds 49 = .ok (.aload_n 0, 1) := by decide +kernel
theorem dX0_fuelByRounds_50 : decode cX0_fuelByRounds 50 = .ok (.iload_n 3, 1) := by decide +kernel
theorem dX0_fuelByRounds_51 : decode cX0_fuelByRounds 51 = .ok (.invokevirtual 139, 3) := by decide +kernel
theorem dX0_fuelByRounds_54 : decode cX0_fuelByRounds 54 = .ok (.ifCond .eq 5, 3) := by decide +kernel
theorem dX0_fuelByRounds_57 : decode cX0_fuelByRounds 57 = .ok (.iconst 1, 1) := by decide +kernel
theorem dX0_fuelByRounds_58 : decode cX0_fuelByRounds 58 = .ok (.istore_n 1, 1) := by decide +kernel
theorem dX0_fuelByRounds_59 : decode cX0_fuelByRounds 59 = .ok (.iinc 3 1, 3) := by decide +kernel
theorem dX0_fuelByRounds_62 : decode cX0_fuelByRounds 62 = .ok (.goto (-30), 3) := by decide +kernel
theorem dX0_fuelByRounds_65 : decode cX0_fuelByRounds 65 = .ok (.iinc 2 1, 3) := by decide +kernel
theorem dX0_fuelByRounds_68 : decode cX0_fuelByRounds 68 = .ok (.goto (-51), 3) := by decide +kernel
theorem dX0_fuelByRounds_71 : decode cX0_fuelByRounds 71 = .ok (.aload_n 0, 1) := by decide +kernel
theorem dX0_fuelByRounds_72 : decode cX0_fuelByRounds 72 = .ok (.invokevirtual 103, 3) := by decide +kernel
theorem dX0_fuelByRounds_75 : decode cX0_fuelByRounds 75 = .ok (.ireturn, 1) := by decide +kernel
theorem dX0_hasCheapenedAround_0 : decode cX0_hasCheapenedAround 0 = .ok (.iconst 0, 1) := by decide +kernel
theorem dX0_hasCheapenedAround_1 : decode cX0_hasCheapenedAround 1 = .ok (.istore_n 2, 1) := by decide +kernel
theorem dX0_hasCheapenedAround_2 : decode cX0_hasCheapenedAround 2 = .ok (.iconst 0, 1) := by decide +kernel
theorem dX0_hasCheapenedAround_3 : decode cX0_hasCheapenedAround 3 = .ok (.istore_n 3, 1) := by decide +kernel
theorem dX0_hasCheapenedAround_4 : decode cX0_hasCheapenedAround 4 = .ok (.iload_n 3, 1) := by decide +kernel
theorem dX0_hasCheapenedAround_5 : decode cX0_hasCheapenedAround 5 = .ok (.aload_n 0, 1) := by decide +kernel
theorem dX0_hasCheapenedAround_6 : decode cX0_hasCheapenedAround 6 = .ok (.getfield 39, 3) := by decide +kernel
theorem dX0_hasCheapenedAround_9 : decode cX0_hasCheapenedAround 9 = .ok (.if_icmp .ge 76, 3) := by decide +kernel
theorem dX0_hasCheapenedAround_12 : decode cX0_hasCheapenedAround 12 = .ok (.iload_n 3, 1) := by decide +kernel
theorem dX0_hasCheapenedAround_13 : decode cX0_hasCheapenedAround 13 = .ok (.bipush 6, 2) := by decide +kernel
theorem dX0_hasCheapenedAround_15 : decode cX0_hasCheapenedAround 15 = .ok (.if_icmp .ge 70, 3) := by decide +kernel
theorem dX0_hasCheapenedAround_18 : decode cX0_hasCheapenedAround 18 = .ok (.aload_n 0, 1) := by decide +kernel
theorem dX0_hasCheapenedAround_19 : decode cX0_hasCheapenedAround 19 = .ok (.iload_n 1, 1) := by decide +kernel
theorem dX0_hasCheapenedAround_20 : decode cX0_hasCheapenedAround 20 = .ok (.invokevirtual 83, 3) := by decide +kernel
theorem dX0_hasCheapenedAround_23 : decode cX0_hasCheapenedAround 23 = .ok (.aload_n 0, 1) := by decide +kernel
theorem dX0_hasCheapenedAround_24 : decode cX0_hasCheapenedAround 24 = .ok (.getfield 11, 3) := by decide +kernel
theorem dX0_hasCheapenedAround_27 : decode cX0_hasCheapenedAround 27 = .ok (.iload_n 3, 1) := by decide +kernel
theorem dX0_hasCheapenedAround_28 : decode cX0_hasCheapenedAround 28 = .ok (.iaload, 1) := by decide +kernel
theorem dX0_hasCheapenedAround_29 : decode cX0_hasCheapenedAround 29 = .ok (.iadd, 1) := by decide +kernel
theorem dX0_hasCheapenedAround_30 : decode cX0_hasCheapenedAround 30 = .ok (.istore 4, 2) := by decide +kernel
theorem dX0_hasCheapenedAround_32 : decode cX0_hasCheapenedAround 32 = .ok (.iconst (-1), 1) := by decide +kernel
theorem dX0_hasCheapenedAround_33 : decode cX0_hasCheapenedAround 33 = .ok (.istore 5, 2) := by decide +kernel
theorem dX0_hasCheapenedAround_35 : decode cX0_hasCheapenedAround 35 = .ok (.iload 5, 2) := by decide +kernel
theorem dX0_hasCheapenedAround_37 : decode cX0_hasCheapenedAround 37 = .ok (.iconst 1, 1) := by decide +kernel
theorem dX0_hasCheapenedAround_38 : decode cX0_hasCheapenedAround 38 = .ok (.if_icmp .gt 41, 3) := by decide +kernel
theorem dX0_hasCheapenedAround_41 : decode cX0_hasCheapenedAround 41 = .ok (.aload_n 0, 1) := by decide +kernel
theorem dX0_hasCheapenedAround_42 : decode cX0_hasCheapenedAround 42 = .ok (.iload_n 1, 1) := by decide +kernel
theorem dX0_hasCheapenedAround_43 : decode cX0_hasCheapenedAround 43 = .ok (.iload_n 3, 1) := by decide +kernel
theorem dX0_hasCheapenedAround_44 : decode cX0_hasCheapenedAround 44 = .ok (.iload 5, 2) := by decide +kernel
theorem dX0_hasCheapenedAround_46 : decode cX0_hasCheapenedAround 46 = .ok (.invokevirtual 77, 3) := by decide +kernel
theorem dX0_hasCheapenedAround_49 : decode cX0_hasCheapenedAround 49 = .ok (.istore 6, 2) := by decide +kernel
theorem dX0_hasCheapenedAround_51 : decode cX0_hasCheapenedAround 51 = .ok (.aload_n 0, 1) := by decide +kernel
theorem dX0_hasCheapenedAround_52 : decode cX0_hasCheapenedAround 52 = .ok (.iload 6, 2) := by decide +kernel
theorem dX0_hasCheapenedAround_54 : decode cX0_hasCheapenedAround 54 = .ok (.iload 4, 2) := by decide +kernel
theorem dX0_hasCheapenedAround_56 : decode cX0_hasCheapenedAround 56 = .ok (.invokevirtual 135, 3) := by decide +kernel
theorem dX0_hasCheapenedAround_59 : decode cX0_hasCheapenedAround 59 = .ok (.ifCond .eq 14, 3) := by decide +kernel
theorem dX0_hasCheapenedAround_62 : decode cX0_hasCheapenedAround 62 = .ok (.aload_n 0, 1) := by decide +kernel
theorem dX0_hasCheapenedAround_63 : decode cX0_hasCheapenedAround 63 = .ok (.getfield 18, 3) := by decide +kernel
theorem dX0_hasCheapenedAround_66 : decode cX0_hasCheapenedAround 66 = .ok (.iload 6, 2) := by decide +kernel
theorem dX0_hasCheapenedAround_68 : decode cX0_hasCheapenedAround 68 = .ok (.iload 4, 2) := by decide +kernel
theorem dX0_hasCheapenedAround_70 : decode cX0_hasCheapenedAround 70 = .ok (.iastore, 1) := by decide +kernel
theorem dX0_hasCheapenedAround_71 : decode cX0_hasCheapenedAround 71 = .ok (.iconst 1, 1) := by decide +kernel
theorem dX0_hasCheapenedAround_72 : decode cX0_hasCheapenedAround 72 = .ok (.istore_n 2, 1) := by decide +kernel
theorem dX0_hasCheapenedAround_73 : decode cX0_hasCheapenedAround 73 = .ok (.iinc 5 2, 3) := by decide +kernel
theorem dX0_hasCheapenedAround_76 : decode cX0_hasCheapenedAround 76 = .ok (.goto (-41), 3) := by decide +kernel
theorem dX0_hasCheapenedAround_79 : decode cX0_hasCheapenedAround 79 = .ok (.iinc 3 1, 3) := by decide +kernel
theorem dX0_hasCheapenedAround_82 : decode cX0_hasCheapenedAround 82 = .ok (.goto (-78), 3) := by decide +kernel
theorem dX0_hasCheapenedAround_85 : decode cX0_hasCheapenedAround 85 = .ok (.iload_n 2, 1) := by decide +kernel
theorem dX0_hasCheapenedAround_86 : decode cX0_hasCheapenedAround 86 = .ok (.ireturn, 1) := by decide +kernel
theorem dX1_init_0 : decode cX1_init 0 = .ok (.aload_n 0, 1) := by decide +kernel
theorem dX1_init_1 : decode cX1_init 1 = .ok (.invokespecial 3, 3) := by decide +kernel
theorem dX1_init_4 : decode cX1_init 4 = .ok (.aload_n 0, 1) := by decide +kernel
theorem dX1_init_5 : decode cX1_init 5 = .ok (.bipush 6, 2) := by decide +kernel
theorem dX1_init_7 : decode cX1_init 7 = .ok (.newarray .int, 2) := by decide +kernel
theorem dX1_init_9 : decode cX1_init 9 = .ok (.putfield 9, 3) := by decide +kernel
theorem dX1_init_12 : decode cX1_init 12 = .ok (.aload_n 0, 1) := by decide +kernel
theorem dX1_init_13 : decode cX1_init 13 = .ok (.bipush 6, 2) := by decide +kernel
theorem dX1_init_15 : decode cX1_init 15 = .ok (.newarray .int, 2) := by decide +kernel
theorem dX1_init_17 : decode cX1_init 17 = .ok (.putfield 15, 3) := by decide +kernel
theorem dX1_init_20 : decode cX1_init 20 = .ok (.aload_n 0, 1) := by decide +kernel
theorem dX1_init_21 : decode cX1_init 21 = .ok (.bipush 6, 2) := by decide +kernel
theorem dX1_init_23 : decode cX1_init 23 = .ok (.newarray .int, 2) := by decide +kernel
theorem dX1_init_25 : decode cX1_init 25 = .ok (.putfield 18, 3) := by decide +kernel
theorem dX1_init_28 : decode cX1_init 28 = .ok (.aload_n 0, 1) := by decide +kernel
theorem dX1_init_29 : decode cX1_init 29 = .ok (.bipush 60, 2) := by decide +kernel
theorem dX1_init_31 : decode cX1_init 31 = .ok (.newarray .int, 2) := by decide +kernel
theorem dX1_init_33 : decode cX1_init 33 = .ok (.putfield 21, 3) := by decide +kernel
theorem dX1_init_36 : decode cX1_init 36 = .ok (.aload_n 0, 1) := by decide +kernel
theorem dX1_init_37 : decode cX1_init 37 = .ok (.bipush 60, 2) := by decide +kernel
theorem dX1_init_39 : decode cX1_init 39 = .ok (.newarray .int, 2) := by decide +kernel
theorem dX1_init_41 : decode cX1_init 41 = .ok (.putfield 24, 3) := by decide +kernel
theorem dX1_init_44 : decode cX1_init 44 = .ok (.return_, 1) := by decide +kernel
theorem dX1_become_0 : decode cX1_become 0 = .ok (.aload_n 1, 1) := by decide +kernel
theorem dX1_become_1 : decode cX1_become 1 = .ok (.getfield 9, 3) := by decide +kernel
theorem dX1_become_4 : decode cX1_become 4 = .ok (.iconst 0, 1) := by decide +kernel
theorem dX1_become_5 : decode cX1_become 5 = .ok (.aload_n 0, 1) := by decide +kernel
theorem dX1_become_6 : decode cX1_become 6 = .ok (.getfield 9, 3) := by decide +kernel
theorem dX1_become_9 : decode cX1_become 9 = .ok (.iconst 0, 1) := by decide +kernel
theorem dX1_become_10 : decode cX1_become 10 = .ok (.bipush 6, 2) := by decide +kernel
theorem dX1_become_12 : decode cX1_become 12 = .ok (.invokestatic 27, 3) := by decide +kernel
theorem dX1_become_15 : decode cX1_become 15 = .ok (.aload_n 1, 1) := by decide +kernel
theorem dX1_become_16 : decode cX1_become 16 = .ok (.getfield 15, 3) := by decide +kernel
theorem dX1_become_19 : decode cX1_become 19 = .ok (.iconst 0, 1) := by decide +kernel
theorem dX1_become_20 : decode cX1_become 20 = .ok (.aload_n 0, 1) := by decide +kernel
theorem dX1_become_21 : decode cX1_become 21 = .ok (.getfield 15, 3) := by decide +kernel
theorem dX1_become_24 : decode cX1_become 24 = .ok (.iconst 0, 1) := by decide +kernel
theorem dX1_become_25 : decode cX1_become 25 = .ok (.bipush 6, 2) := by decide +kernel
theorem dX1_become_27 : decode cX1_become 27 = .ok (.invokestatic 27, 3) := by decide +kernel
theorem dX1_become_30 : decode cX1_become 30 = .ok (.aload_n 1, 1) := by decide +kernel
theorem dX1_become_31 : decode cX1_become 31 = .ok (.getfield 18, 3) := by decide +kernel
theorem dX1_become_34 : decode cX1_become 34 = .ok (.iconst 0, 1) := by decide +kernel
theorem dX1_become_35 : decode cX1_become 35 = .ok (.aload_n 0, 1) := by decide +kernel
theorem dX1_become_36 : decode cX1_become 36 = .ok (.getfield 18, 3) := by decide +kernel
theorem dX1_become_39 : decode cX1_become 39 = .ok (.iconst 0, 1) := by decide +kernel
theorem dX1_become_40 : decode cX1_become 40 = .ok (.bipush 6, 2) := by decide +kernel
theorem dX1_become_42 : decode cX1_become 42 = .ok (.invokestatic 27, 3) := by decide +kernel
theorem dX1_become_45 : decode cX1_become 45 = .ok (.aload_n 1, 1) := by decide +kernel
theorem dX1_become_46 : decode cX1_become 46 = .ok (.getfield 21, 3) := by decide +kernel
theorem dX1_become_49 : decode cX1_become 49 = .ok (.iconst 0, 1) := by decide +kernel
theorem dX1_become_50 : decode cX1_become 50 = .ok (.aload_n 0, 1) := by decide +kernel
theorem dX1_become_51 : decode cX1_become 51 = .ok (.getfield 21, 3) := by decide +kernel
theorem dX1_become_54 : decode cX1_become 54 = .ok (.iconst 0, 1) := by decide +kernel
theorem dX1_become_55 : decode cX1_become 55 = .ok (.bipush 60, 2) := by decide +kernel
theorem dX1_become_57 : decode cX1_become 57 = .ok (.invokestatic 27, 3) := by decide +kernel
theorem dX1_become_60 : decode cX1_become 60 = .ok (.aload_n 1, 1) := by decide +kernel
theorem dX1_become_61 : decode cX1_become 61 = .ok (.getfield 24, 3) := by decide +kernel
theorem dX1_become_64 : decode cX1_become 64 = .ok (.iconst 0, 1) := by decide +kernel
theorem dX1_become_65 : decode cX1_become 65 = .ok (.aload_n 0, 1) := by decide +kernel
theorem dX1_become_66 : decode cX1_become 66 = .ok (.getfield 24, 3) := by decide +kernel
theorem dX1_become_69 : decode cX1_become 69 = .ok (.iconst 0, 1) := by decide +kernel
theorem dX1_become_70 : decode cX1_become 70 = .ok (.bipush 60, 2) := by decide +kernel
theorem dX1_become_72 : decode cX1_become 72 = .ok (.invokestatic 27, 3) := by decide +kernel
theorem dX1_become_75 : decode cX1_become 75 = .ok (.aload_n 0, 1) := by decide +kernel
theorem dX1_become_76 : decode cX1_become 76 = .ok (.aload_n 1, 1) := by decide +kernel
theorem dX1_become_77 : decode cX1_become 77 = .ok (.getfield 33, 3) := by decide +kernel
theorem dX1_become_80 : decode cX1_become 80 = .ok (.putfield 33, 3) := by decide +kernel
theorem dX1_become_83 : decode cX1_become 83 = .ok (.aload_n 0, 1) := by decide +kernel
theorem dX1_become_84 : decode cX1_become 84 = .ok (.aload_n 1, 1) := by decide +kernel
theorem dX1_become_85 : decode cX1_become 85 = .ok (.getfield 37, 3) := by decide +kernel
theorem dX1_become_88 : decode cX1_become 88 = .ok (.putfield 37, 3) := by decide +kernel
theorem dX1_become_91 : decode cX1_become 91 = .ok (.aload_n 0, 1) := by decide +kernel
theorem dX1_become_92 : decode cX1_become 92 = .ok (.aload_n 1, 1) := by decide +kernel
theorem dX1_become_93 : decode cX1_become 93 = .ok (.getfield 40, 3) := by decide +kernel
theorem dX1_become_96 : decode cX1_become 96 = .ok (.putfield 40, 3) := by decide +kernel
theorem dX1_become_99 : decode cX1_become 99 = .ok (.aload_n 0, 1) := by decide +kernel
theorem dX1_become_100 : decode cX1_become 100 = .ok (.aload_n 1, 1) := by decide +kernel
theorem dX1_become_101 : decode cX1_become 101 = .ok (.getfield 43, 3) := by decide +kernel
theorem dX1_become_104 : decode cX1_become 104 = .ok (.putfield 43, 3) := by decide +kernel
theorem dX1_become_107 : decode cX1_become 107 = .ok (.aload_n 0, 1) := by decide +kernel
theorem dX1_become_108 : decode cX1_become 108 = .ok (.aload_n 1, 1) := by decide +kernel
theorem dX1_become_109 : decode cX1_become 109 = .ok (.getfield 47, 3) := by decide +kernel
theorem dX1_become_112 : decode cX1_become 112 = .ok (.putfield 47, 3) := by decide +kernel
theorem dX1_become_115 : decode cX1_become 115 = .ok (.return_, 1) := by decide +kernel
theorem dX1_hasCar_0 : decode cX1_hasCar 0 = .ok (.iload_n 1, 1) := by decide +kernel
theorem dX1_hasCar_1 : decode cX1_hasCar 1 = .ok (.ifCond .lt 21, 3) := by decide +kernel
theorem dX1_hasCar_4 : decode cX1_hasCar 4 = .ok (.iload_n 1, 1) := by decide +kernel
theorem dX1_hasCar_5 : decode cX1_hasCar 5 = .ok (.aload_n 0, 1) := by decide +kernel
theorem dX1_hasCar_6 : decode cX1_hasCar 6 = .ok (.getfield 33, 3) := by decide +kernel
theorem dX1_hasCar_9 : decode cX1_hasCar 9 = .ok (.if_icmp .ge 13, 3) := by decide +kernel
theorem dX1_hasCar_12 : decode cX1_hasCar 12 = .ok (.iload_n 1, 1) := by decide +kernel
theorem dX1_hasCar_13 : decode cX1_hasCar 13 = .ok (.bipush 6, 2) := by decide +kernel
theorem dX1_hasCar_15 : decode cX1_hasCar 15 = .ok (.if_icmp .ge 7, 3) := by decide +kernel
theorem dX1_hasCar_18 : decode cX1_hasCar 18 = .ok (.iconst 1, 1) := by decide +kernel
theorem dX1_hasCar_19 : decode cX1_hasCar 19 = .ok (.goto 4, 3) := by decide +kernel
theorem dX1_hasCar_22 : decode cX1_hasCar 22 = .ok (.iconst 0, 1) := by decide +kernel
theorem dX1_hasCar_23 : decode cX1_hasCar 23 = .ok (.ireturn, 1) := by decide +kernel
theorem dX1_hasSlide_0 : decode cX1_hasSlide 0 = .ok (.iload_n 1, 1) := by decide +kernel
theorem dX1_hasSlide_1 : decode cX1_hasSlide 1 = .ok (.ifCond .lt 21, 3) := by decide +kernel
theorem dX1_hasSlide_4 : decode cX1_hasSlide 4 = .ok (.iload_n 1, 1) := by decide +kernel
theorem dX1_hasSlide_5 : decode cX1_hasSlide 5 = .ok (.aload_n 0, 1) := by decide +kernel
theorem dX1_hasSlide_6 : decode cX1_hasSlide 6 = .ok (.getfield 40, 3) := by decide +kernel
theorem dX1_hasSlide_9 : decode cX1_hasSlide 9 = .ok (.if_icmp .ge 13, 3) := by decide +kernel
theorem dX1_hasSlide_12 : decode cX1_hasSlide 12 = .ok (.iload_n 1, 1) := by decide +kernel
theorem dX1_hasSlide_13 : decode cX1_hasSlide 13 = .ok (.bipush 60, 2) := by decide +kernel
theorem dX1_hasSlide_15 : decode cX1_hasSlide 15 = .ok (.if_icmp .ge 7, 3) := by decide +kernel
theorem dX1_hasSlide_18 : decode cX1_hasSlide 18 = .ok (.iconst 1, 1) := by decide +kernel
theorem dX1_hasSlide_19 : decode cX1_hasSlide 19 = .ok (.goto 4, 3) := by decide +kernel
theorem dX1_hasSlide_22 : decode cX1_hasSlide 22 = .ok (.iconst 0, 1) := by decide +kernel
theorem dX1_hasSlide_23 : decode cX1_hasSlide 23 = .ok (.ireturn, 1) := by decide +kernel
theorem dX1_hasWallAt_0 : decode cX1_hasWallAt 0 = .ok (.aload_n 0, 1) := by decide +kernel
theorem dX1_hasWallAt_1 : decode cX1_hasWallAt 1 = .ok (.getfield 37, 3) := by decide +kernel
theorem dX1_hasWallAt_4 : decode cX1_hasWallAt 4 = .ok (.iconst 1, 1) := by decide +kernel
theorem dX1_hasWallAt_5 : decode cX1_hasWallAt 5 = .ok (.iload_n 1, 1) := by decide +kernel
theorem dX1_hasWallAt_6 : decode cX1_hasWallAt 6 = .ok (.ishl, 1) := by decide +kernel
theorem dX1_hasWallAt_7 : decode cX1_hasWallAt 7 = .ok (.iand, 1) := by decide +kernel
theorem dX1_hasWallAt_8 : decode cX1_hasWallAt 8 = .ok (.ifCond .eq 7, 3) := by decide +kernel
theorem dX1_hasWallAt_11 : decode cX1_hasWallAt 11 = .ok (.iconst 1, 1) := by decide +kernel
theorem dX1_hasWallAt_12 : decode cX1_hasWallAt 12 = .ok (.goto 4, 3) := by decide +kernel
theorem dX1_hasWallAt_15 : decode cX1_hasWallAt 15 = .ok (.iconst 0, 1) := by decide +kernel
theorem dX1_hasWallAt_16 : decode cX1_hasWallAt 16 = .ok (.ireturn, 1) := by decide +kernel
theorem dX1_carAt_0 : decode cX1_carAt 0 = .ok (.iconst 0, 1) := by decide +kernel
theorem dX1_carAt_1 : decode cX1_carAt 1 = .ok (.istore_n 2, 1) := by decide +kernel
theorem dX1_carAt_2 : decode cX1_carAt 2 = .ok (.iload_n 2, 1) := by decide +kernel
theorem dX1_carAt_3 : decode cX1_carAt 3 = .ok (.aload_n 0, 1) := by decide +kernel
theorem dX1_carAt_4 : decode cX1_carAt 4 = .ok (.getfield 33, 3) := by decide +kernel
theorem dX1_carAt_7 : decode cX1_carAt 7 = .ok (.if_icmp .ge 45, 3) := by decide +kernel
theorem dX1_carAt_10 : decode cX1_carAt 10 = .ok (.iload_n 2, 1) := by decide +kernel
theorem dX1_carAt_11 : decode cX1_carAt 11 = .ok (.bipush 6, 2) := by decide +kernel
theorem dX1_carAt_13 : decode cX1_carAt 13 = .ok (.if_icmp .ge 39, 3) := by decide +kernel
theorem dX1_carAt_16 : decode cX1_carAt 16 = .ok (.aload_n 0, 1) := by decide +kernel
theorem dX1_carAt_17 : decode cX1_carAt 17 = .ok (.getfield 9, 3) := by decide +kernel
theorem dX1_carAt_20 : decode cX1_carAt 20 = .ok (.iload_n 2, 1) := by decide +kernel
theorem dX1_carAt_21 : decode cX1_carAt 21 = .ok (.iaload, 1) := by decide +kernel
theorem dX1_carAt_22 : decode cX1_carAt 22 = .ok (.aload_n 0, 1) := by decide +kernel
theorem dX1_carAt_23 : decode cX1_carAt 23 = .ok (.getfield 15, 3) := by decide +kernel
theorem dX1_carAt_26 : decode cX1_carAt 26 = .ok (.iload_n 2, 1) := by decide +kernel
theorem dX1_carAt_27 : decode cX1_carAt 27 = .ok (.iaload, 1) := by decide +kernel
theorem dX1_carAt_28 : decode cX1_carAt 28 = .ok (.aload_n 0, 1) := by decide +kernel
theorem dX1_carAt_29 : decode cX1_carAt 29 = .ok (.getfield 18, 3) := by decide +kernel
theorem dX1_carAt_32 : decode cX1_carAt 32 = .ok (.iload_n 2, 1) := by decide +kernel
theorem dX1_carAt_33 : decode cX1_carAt 33 = .ok (.iaload, 1) := by decide +kernel
theorem dX1_carAt_34 : decode cX1_carAt 34 = .ok (.invokestatic 50, 3) := by decide +kernel
theorem dX1_carAt_37 : decode cX1_carAt 37 = .ok (.iconst 1, 1) := by decide +kernel
theorem dX1_carAt_38 : decode cX1_carAt 38 = .ok (.iload_n 1, 1) := by decide +kernel
theorem dX1_carAt_39 : decode cX1_carAt 39 = .ok (.ishl, 1) := by decide +kernel
theorem dX1_carAt_40 : decode cX1_carAt 40 = .ok (.iand, 1) := by decide +kernel
theorem dX1_carAt_41 : decode cX1_carAt 41 = .ok (.ifCond .eq 5, 3) := by decide +kernel
theorem dX1_carAt_44 : decode cX1_carAt 44 = .ok (.iload_n 2, 1) := by decide +kernel
theorem dX1_carAt_45 : decode cX1_carAt 45 = .ok (.ireturn, 1) := by decide +kernel
theorem dX1_carAt_46 : decode cX1_carAt 46 = .ok (.iinc 2 1, 3) := by decide +kernel
theorem dX1_carAt_49 : decode cX1_carAt 49 = .ok (.goto (-47), 3) := by decide +kernel
theorem dX1_carAt_52 : decode cX1_carAt 52 = .ok (.iconst (-1), 1) := by decide +kernel
theorem dX1_carAt_53 : decode cX1_carAt 53 = .ok (.ireturn, 1) := by decide +kernel
theorem dX1_takenCells_0 : decode cX1_takenCells 0 = .ok (.aload_n 0, 1) := by decide +kernel
theorem dX1_takenCells_1 : decode cX1_takenCells 1 = .ok (.getfield 37, 3) := by decide +kernel
theorem dX1_takenCells_4 : decode cX1_takenCells 4 = .ok (.istore_n 1, 1) := by decide +kernel
theorem dX1_takenCells_5 : decode cX1_takenCells 5 = .ok (.iconst 0, 1) := by decide +kernel
theorem dX1_takenCells_6 : decode cX1_takenCells 6 = .ok (.istore_n 2, 1) := by decide +kernel
theorem dX1_takenCells_7 : decode cX1_takenCells 7 = .ok (.iload_n 2, 1) := by decide +kernel
theorem dX1_takenCells_8 : decode cX1_takenCells 8 = .ok (.aload_n 0, 1) := by decide +kernel
theorem dX1_takenCells_9 : decode cX1_takenCells 9 = .ok (.getfield 33, 3) := by decide +kernel
theorem dX1_takenCells_12 : decode cX1_takenCells 12 = .ok (.if_icmp .ge 39, 3) := by decide +kernel
theorem dX1_takenCells_15 : decode cX1_takenCells 15 = .ok (.iload_n 2, 1) := by decide +kernel
theorem dX1_takenCells_16 : decode cX1_takenCells 16 = .ok (.bipush 6, 2) := by decide +kernel
theorem dX1_takenCells_18 : decode cX1_takenCells 18 = .ok (.if_icmp .ge 33, 3) := by decide +kernel
theorem dX1_takenCells_21 : decode cX1_takenCells 21 = .ok (.iload_n 1, 1) := by decide +kernel
theorem dX1_takenCells_22 : decode cX1_takenCells 22 = .ok (.aload_n 0, 1) := by decide +kernel
theorem dX1_takenCells_23 : decode cX1_takenCells 23 = .ok (.getfield 9, 3) := by decide +kernel
theorem dX1_takenCells_26 : decode cX1_takenCells 26 = .ok (.iload_n 2, 1) := by decide +kernel
theorem dX1_takenCells_27 : decode cX1_takenCells 27 = .ok (.iaload, 1) := by decide +kernel
theorem dX1_takenCells_28 : decode cX1_takenCells 28 = .ok (.aload_n 0, 1) := by decide +kernel
theorem dX1_takenCells_29 : decode cX1_takenCells 29 = .ok (.getfield 15, 3) := by decide +kernel
theorem dX1_takenCells_32 : decode cX1_takenCells 32 = .ok (.iload_n 2, 1) := by decide +kernel
theorem dX1_takenCells_33 : decode cX1_takenCells 33 = .ok (.iaload, 1) := by decide +kernel
theorem dX1_takenCells_34 : decode cX1_takenCells 34 = .ok (.aload_n 0, 1) := by decide +kernel
theorem dX1_takenCells_35 : decode cX1_takenCells 35 = .ok (.getfield 18, 3) := by decide +kernel
theorem dX1_takenCells_38 : decode cX1_takenCells 38 = .ok (.iload_n 2, 1) := by decide +kernel
theorem dX1_takenCells_39 : decode cX1_takenCells 39 = .ok (.iaload, 1) := by decide +kernel
theorem dX1_takenCells_40 : decode cX1_takenCells 40 = .ok (.invokestatic 50, 3) := by decide +kernel
theorem dX1_takenCells_43 : decode cX1_takenCells 43 = .ok (.ior, 1) := by decide +kernel
theorem dX1_takenCells_44 : decode cX1_takenCells 44 = .ok (.istore_n 1, 1) := by decide +kernel
theorem dX1_takenCells_45 : decode cX1_takenCells 45 = .ok (.iinc 2 1, 3) := by decide +kernel
theorem dX1_takenCells_48 : decode cX1_takenCells 48 = .ok (.goto (-41), 3) := by decide +kernel
theorem dX1_takenCells_51 : decode cX1_takenCells 51 = .ok (.iload_n 1, 1) := by decide +kernel
theorem dX1_takenCells_52 : decode cX1_takenCells 52 = .ok (.ireturn, 1) := by decide +kernel
theorem dX1_isRedOut_0 : decode cX1_isRedOut 0 = .ok (.aload_n 0, 1) := by decide +kernel
theorem dX1_isRedOut_1 : decode cX1_isRedOut 1 = .ok (.getfield 33, 3) := by decide +kernel
theorem dX1_isRedOut_4 : decode cX1_isRedOut 4 = .ok (.ifCond .le 24, 3) := by decide +kernel
theorem dX1_isRedOut_7 : decode cX1_isRedOut 7 = .ok (.aload_n 0, 1) := by decide +kernel
theorem dX1_isRedOut_8 : decode cX1_isRedOut 8 = .ok (.getfield 15, 3) := by decide +kernel
theorem dX1_isRedOut_11 : decode cX1_isRedOut 11 = .ok (.iconst 0, 1) := by decide +kernel
theorem dX1_isRedOut_12 : decode cX1_isRedOut 12 = .ok (.iaload, 1) := by decide +kernel
theorem dX1_isRedOut_13 : decode cX1_isRedOut 13 = .ok (.aload_n 0, 1) := by decide +kernel
theorem dX1_isRedOut_14 : decode cX1_isRedOut 14 = .ok (.getfield 18, 3) := by decide +kernel
theorem dX1_isRedOut_17 : decode cX1_isRedOut 17 = .ok (.iconst 0, 1) := by decide +kernel
theorem dX1_isRedOut_18 : decode cX1_isRedOut 18 = .ok (.iaload, 1) := by decide +kernel
theorem dX1_isRedOut_19 : decode cX1_isRedOut 19 = .ok (.iadd, 1) := by decide +kernel
theorem dX1_isRedOut_20 : decode cX1_isRedOut 20 = .ok (.iconst 5, 1) := by decide +kernel
theorem dX1_isRedOut_21 : decode cX1_isRedOut 21 = .ok (.if_icmp .ne 7, 3) := by decide +kernel
theorem dX1_isRedOut_24 : decode cX1_isRedOut 24 = .ok (.iconst 1, 1) := by decide +kernel
theorem dX1_isRedOut_25 : decode cX1_isRedOut 25 = .ok (.goto 4, 3) := by decide +kernel
theorem dX1_isRedOut_28 : decode cX1_isRedOut 28 = .ok (.iconst 0, 1) := by decide +kernel
theorem dX1_isRedOut_29 : decode cX1_isRedOut 29 = .ok (.ireturn, 1) := by decide +kernel
theorem dX1_roomOf_0 : decode cX1_roomOf 0 = .ok (.aload_n 0, 1) := by decide +kernel
theorem dX1_roomOf_1 : decode cX1_roomOf 1 = .ok (.iload_n 1, 1) := by decide +kernel
theorem dX1_roomOf_2 : decode cX1_roomOf 2 = .ok (.invokevirtual 54, 3) := by decide +kernel
theorem dX1_roomOf_5 : decode cX1_roomOf 5 = .ok (.ifCond .ne 5, 3) := by decide +kernel
theorem dX1_roomOf_8 : decode cX1_roomOf 8 = .ok (.iconst 0, 1) := by decide +kernel
theorem dX1_roomOf_9 : decode cX1_roomOf 9 = .ok (.ireturn, 1) := by decide +kernel
theorem dX1_roomOf_10 : decode cX1_roomOf 10 = .ok (.aload_n 0, 1) := by decide +kernel
theorem dX1_roomOf_11 : decode cX1_roomOf 11 = .ok (.invokevirtual 58, 3) := by decide +kernel
theorem dX1_roomOf_14 : decode cX1_roomOf 14 = .ok (.istore_n 3, 1) := by decide +kernel
theorem dX1_roomOf_15 : decode cX1_roomOf 15 = .ok (.iload_n 2, 1) := by decide +kernel
theorem dX1_roomOf_16 : decode cX1_roomOf 16 = .ok (.ifCond .le 19, 3) := by decide +kernel
theorem dX1_roomOf_19 : decode cX1_roomOf 19 = .ok (.aload_n 0, 1) := by decide +kernel
theorem dX1_roomOf_20 : decode cX1_roomOf 20 = .ok (.getfield 15, 3) := by decide +kernel
theorem dX1_roomOf_23 : decode cX1_roomOf 23 = .ok (.iload_n 1, 1) := by decide +kernel
theorem dX1_roomOf_24 : decode cX1_roomOf 24 = .ok (.iaload, 1) := by decide +kernel
theorem dX1_roomOf_25 : decode cX1_roomOf 25 = .ok (.aload_n 0, 1) := by decide +kernel
theorem dX1_roomOf_26 : decode cX1_roomOf 26 = .ok (.getfield 18, 3) := by decide +kernel
theorem dX1_roomOf_29 : decode cX1_roomOf 29 = .ok (.iload_n 1, 1) := by decide +kernel
theorem dX1_roomOf_30 : decode cX1_roomOf 30 = .ok (.iaload, 1) := by decide +kernel
theorem dX1_roomOf_31 : decode cX1_roomOf 31 = .ok (.iadd, 1) := by decide +kernel
theorem dX1_roomOf_32 : decode cX1_roomOf 32 = .ok (.goto 11, 3) := by decide +kernel
theorem dX1_roomOf_35 : decode cX1_roomOf 35 = .ok (.aload_n 0, 1) := by decide +kernel
theorem dX1_roomOf_36 : decode cX1_roomOf 36 = .ok (.getfield 15, 3) := by decide +kernel
theorem dX1_roomOf_39 : decode cX1_roomOf 39 = .ok (.iload_n 1, 1) := by decide +kernel
theorem dX1_roomOf_40 : decode cX1_roomOf 40 = .ok (.iaload, 1) := by decide +kernel
theorem dX1_roomOf_41 : decode cX1_roomOf 41 = .ok (.iconst 1, 1) := by decide +kernel
theorem dX1_roomOf_42 : decode cX1_roomOf 42 = .ok (.isub, 1) := by decide +kernel
theorem dX1_roomOf_43 : decode cX1_roomOf 43 = .ok (.istore 4, 2) := by decide +kernel
theorem dX1_roomOf_45 : decode cX1_roomOf 45 = .ok (.iconst 0, 1) := by decide +kernel
theorem dX1_roomOf_46 : decode cX1_roomOf 46 = .ok (.istore 5, 2) := by decide +kernel
theorem dX1_roomOf_48 : decode cX1_roomOf 48 = .ok (.iload 5, 2) := by decide +kernel
theorem dX1_roomOf_50 : decode cX1_roomOf 50 = .ok (.iconst 3, 1) := by decide +kernel
theorem dX1_roomOf_51 : decode cX1_roomOf 51 = .ok (.if_icmp .ge 42, 3) := by decide +kernel
theorem dX1_roomOf_54 : decode cX1_roomOf 54 = .ok (.iload 4, 2) := by decide +kernel
theorem dX1_roomOf_56 : decode cX1_roomOf 56 = .ok (.ifCond .lt 37, 3) := by decide +kernel
theorem dX1_roomOf_59 : decode cX1_roomOf 59 = .ok (.iload 4, 2) := by decide +kernel
theorem dX1_roomOf_61 : decode cX1_roomOf 61 = .ok (.iconst 5, 1) := by decide +kernel
theorem dX1_roomOf_62 : decode cX1_roomOf 62 = .ok (.if_icmp .ge 31, 3) := by decide +kernel
theorem dX1_roomOf_65 : decode cX1_roomOf 65 = .ok (.iload_n 3, 1) := by decide +kernel
theorem dX1_roomOf_66 : decode cX1_roomOf 66 = .ok (.aload_n 0, 1) := by decide +kernel
theorem dX1_roomOf_67 : decode cX1_roomOf 67 = .ok (.getfield 9, 3) := by decide +kernel
theorem dX1_roomOf_70 : decode cX1_roomOf 70 = .ok (.iload_n 1, 1) := by decide +kernel
theorem dX1_roomOf_71 : decode cX1_roomOf 71 = .ok (.iaload, 1) := by decide +kernel
theorem dX1_roomOf_72 : decode cX1_roomOf 72 = .ok (.iload 4, 2) := by decide +kernel
theorem dX1_roomOf_74 : decode cX1_roomOf 74 = .ok (.invokestatic 62, 3) := by decide +kernel
theorem dX1_roomOf_77 : decode cX1_roomOf 77 = .ok (.iand, 1) := by decide +kernel
theorem dX1_roomOf_78 : decode cX1_roomOf 78 = .ok (.ifCond .ne 15, 3) := by decide +kernel
theorem dX1_roomOf_81 : decode cX1_roomOf 81 = .ok (.iinc 5 1, 3) := by decide +kernel
theorem dX1_roomOf_84 : decode cX1_roomOf 84 = .ok (.iload 4, 2) := by decide +kernel
theorem dX1_roomOf_86 : decode cX1_roomOf 86 = .ok (.iload_n 2, 1) := by decide +kernel
theorem dX1_roomOf_87 : decode cX1_roomOf 87 = .ok (.iadd, 1) := by decide +kernel
theorem dX1_roomOf_88 : decode cX1_roomOf 88 = .ok (.istore 4, 2) := by decide +kernel
theorem dX1_roomOf_90 : decode cX1_roomOf 90 = .ok (.goto (-42), 3) := by decide +kernel
theorem dX1_roomOf_93 : decode cX1_roomOf 93 = .ok (.iload 5, 2) := by decide +kernel
theorem dX1_roomOf_95 : decode cX1_roomOf 95 = .ok (.ireturn, 1) := by decide +kernel
theorem dX1_troubleOfEntering_0 : decode cX1_troubleOfEntering 0 = .ok (.iload_n 1, 1) := by decide +kernel
theorem dX1_troubleOfEntering_1 : decode cX1_troubleOfEntering 1 = .ok (.ifCond .lt 9, 3) := by decide +kernel
theorem dX1_troubleOfEntering_4 : decode cX1_troubleOfEntering 4 = .ok (.iload_n 1, 1) := by decide +kernel
theorem dX1_troubleOfEntering_5 : decode cX1_troubleOfEntering 5 = .ok (.bipush 10, 2) := by decide +kernel
theorem dX1_troubleOfEntering_7 : decode cX1_troubleOfEntering 7 = .ok (.if_icmp .lt 5, 3) := by decide +kernel
theorem dX1_troubleOfEntering_10 : decode cX1_troubleOfEntering 10 = .ok (.iconst 1, 1) := by decide +kernel
theorem dX1_troubleOfEntering_11 : decode cX1_troubleOfEntering 11 = .ok (.ireturn, 1) := by decide +kernel
theorem dX1_troubleOfEntering_12 : decode cX1_troubleOfEntering 12 = .ok (.iload_n 3, 1) := by decide +kernel
theorem dX1_troubleOfEntering_13 : decode cX1_troubleOfEntering 13 = .ok (.iconst 2, 1) := by decide +kernel
theorem dX1_troubleOfEntering_14 : decode cX1_troubleOfEntering 14 = .ok (.if_icmp .lt 19, 3) := by decide +kernel
theorem dX1_troubleOfEntering_17 : decode cX1_troubleOfEntering 17 = .ok (.iload_n 3, 1) := by decide +kernel
theorem dX1_troubleOfEntering_18 : decode cX1_troubleOfEntering 18 = .ok (.iconst 3, 1) := by decide +kernel
theorem dX1_troubleOfEntering_19 : decode cX1_troubleOfEntering 19 = .ok (.if_icmp .gt 14, 3) := by decide +kernel
theorem dX1_troubleOfEntering_22 : decode cX1_troubleOfEntering 22 = .ok (.iload_n 2, 1) := by decide +kernel
theorem dX1_troubleOfEntering_23 : decode cX1_troubleOfEntering 23 = .ok (.ifCond .lt 10, 3) := by decide +kernel
theorem dX1_troubleOfEntering_26 : decode cX1_troubleOfEntering 26 = .ok (.iload_n 2, 1) := by decide +kernel
theorem dX1_troubleOfEntering_27 : decode cX1_troubleOfEntering 27 = .ok (.iconst 5, 1) := by decide +kernel
theorem dX1_troubleOfEntering_28 : decode cX1_troubleOfEntering 28 = .ok (.iload_n 3, 1) := by decide +kernel
theorem dX1_troubleOfEntering_29 : decode cX1_troubleOfEntering 29 = .ok (.isub, 1) := by decide +kernel
theorem dX1_troubleOfEntering_30 : decode cX1_troubleOfEntering 30 = .ok (.if_icmp .le 5, 3) := by decide +kernel
theorem dX1_troubleOfEntering_33 : decode cX1_troubleOfEntering 33 = .ok (.iconst 2, 1) := by decide +kernel
theorem dX1_troubleOfEntering_34 : decode cX1_troubleOfEntering 34 = .ok (.ireturn, 1) := by decide +kernel
theorem dX1_troubleOfEntering_35 : decode cX1_troubleOfEntering 35 = .ok (.aload_n 0, 1) := by decide +kernel
theorem dX1_troubleOfEntering_36 : decode cX1_troubleOfEntering 36 = .ok (.getfield 33, 3) := by decide +kernel
theorem dX1_troubleOfEntering_39 : decode cX1_troubleOfEntering 39 = .ok (.ifCond .ne 12, 3) := by decide +kernel
theorem dX1_troubleOfEntering_42 : decode cX1_troubleOfEntering 42 = .ok (.iload_n 1, 1) := by decide +kernel
theorem dX1_troubleOfEntering_43 : decode cX1_troubleOfEntering 43 = .ok (.iconst 5, 1) := by decide +kernel
theorem dX1_troubleOfEntering_44 : decode cX1_troubleOfEntering 44 = .ok (.if_icmp .lt 7, 3) := by decide +kernel
theorem dX1_troubleOfEntering_47 : decode cX1_troubleOfEntering 47 = .ok (.iconst 1, 1) := by decide +kernel
theorem dX1_troubleOfEntering_48 : decode cX1_troubleOfEntering 48 = .ok (.goto 4, 3) := by decide +kernel
theorem dX1_troubleOfEntering_51 : decode cX1_troubleOfEntering 51 = .ok (.iconst 0, 1) := by decide +kernel
theorem dX1_troubleOfEntering_52 : decode cX1_troubleOfEntering 52 = .ok (.istore 4, 2) := by decide +kernel
theorem dX1_troubleOfEntering_54 : decode cX1_troubleOfEntering 54 = .ok (.aload_n 0, 1) := by decide +kernel
theorem dX1_troubleOfEntering_55 : decode cX1_troubleOfEntering 55 = .ok (.invokevirtual 58, 3) := by decide +kernel
theorem dX1_troubleOfEntering_58 : decode cX1_troubleOfEntering 58 = .ok (.iload_n 1, 1) := by decide +kernel
theorem dX1_troubleOfEntering_59 : decode cX1_troubleOfEntering 59 = .ok (.iload_n 2, 1) := by decide +kernel
theorem dX1_troubleOfEntering_60 : decode cX1_troubleOfEntering 60 = .ok (.iload_n 3, 1) := by decide +kernel
theorem dX1_troubleOfEntering_61 : decode cX1_troubleOfEntering 61 = .ok (.invokestatic 50, 3) := by decide +kernel
theorem dX1_troubleOfEntering_64 : decode cX1_troubleOfEntering 64 = .ok (.iand, 1) := by decide +kernel
theorem dX1_troubleOfEntering_65 : decode cX1_troubleOfEntering 65 = .ok (.ifCond .ne 7, 3) := by decide +kernel
theorem dX1_troubleOfEntering_68 : decode cX1_troubleOfEntering 68 = .ok (.iconst 1, 1) := by decide +kernel
theorem dX1_troubleOfEntering_69 : decode cX1_troubleOfEntering 69 = .ok (.goto 4, 3) := by decide +kernel
theorem dX1_troubleOfEntering_72 : decode cX1_troubleOfEntering 72 = .ok (.iconst 0, 1) := by decide +kernel
theorem dX1_troubleOfEntering_73 : decode cX1_troubleOfEntering 73 = .ok (.istore 5, 2) := by decide +kernel
theorem dX1_troubleOfEntering_75 : decode cX1_troubleOfEntering 75 = .ok (.aload_n 0, 1) := by decide +kernel
theorem dX1_troubleOfEntering_76 : decode cX1_troubleOfEntering 76 = .ok (.getfield 33, 3) := by decide +kernel
theorem dX1_troubleOfEntering_79 : decode cX1_troubleOfEntering 79 = .ok (.bipush 6, 2) := by decide +kernel
theorem dX1_troubleOfEntering_81 : decode cX1_troubleOfEntering 81 = .ok (.if_icmp .ge 13, 3) := by decide +kernel
theorem dX1_troubleOfEntering_84 : decode cX1_troubleOfEntering 84 = .ok (.iload 5, 2) := by decide +kernel
theorem dX1_troubleOfEntering_86 : decode cX1_troubleOfEntering 86 = .ok (.ifCond .eq 8, 3) := by decide +kernel
theorem dX1_troubleOfEntering_89 : decode cX1_troubleOfEntering 89 = .ok (.iload 4, 2) := by decide +kernel
theorem dX1_troubleOfEntering_91 : decode cX1_troubleOfEntering 91 = .ok (.ifCond .eq 7, 3) := by decide +kernel
theorem dX1_troubleOfEntering_94 : decode cX1_troubleOfEntering 94 = .ok (.iconst 3, 1) := by decide +kernel
theorem dX1_troubleOfEntering_95 : decode cX1_troubleOfEntering 95 = .ok (.goto 4, 3) := by decide +kernel
theorem dX1_troubleOfEntering_98 : decode cX1_troubleOfEntering 98 = .ok (.iconst 0, 1) := by decide +kernel
theorem dX1_troubleOfEntering_99 : decode cX1_troubleOfEntering 99 = .ok (.ireturn, 1) := by decide +kernel
theorem dX1_enter_0 : decode cX1_enter 0 = .ok (.aload_n 0, 1) := by decide +kernel
theorem dX1_enter_1 : decode cX1_enter 1 = .ok (.getfield 33, 3) := by decide +kernel
theorem dX1_enter_4 : decode cX1_enter 4 = .ok (.istore 4, 2) := by decide +kernel
theorem dX1_enter_6 : decode cX1_enter 6 = .ok (.iload 4, 2) := by decide +kernel
theorem dX1_enter_8 : decode cX1_enter 8 = .ok (.ifCond .lt 44, 3) := by decide +kernel
theorem dX1_enter_11 : decode cX1_enter 11 = .ok (.iload 4, 2) := by decide +kernel
theorem dX1_enter_13 : decode cX1_enter 13 = .ok (.bipush 6, 2) := by decide +kernel
theorem dX1_enter_15 : decode cX1_enter 15 = .ok (.if_icmp .ge 37, 3) := by decide +kernel
theorem dX1_enter_18 : decode cX1_enter 18 = .ok (.aload_n 0, 1) := by decide +kernel
theorem dX1_enter_19 : decode cX1_enter 19 = .ok (.getfield 9, 3) := by decide +kernel
theorem dX1_enter_22 : decode cX1_enter 22 = .ok (.iload 4, 2) := by decide +kernel
theorem dX1_enter_24 : decode cX1_enter 24 = .ok (.iload_n 1, 1) := by decide +kernel
theorem dX1_enter_25 : decode cX1_enter 25 = .ok (.iastore, 1) := by decide +kernel
theorem dX1_enter_26 : decode cX1_enter 26 = .ok (.aload_n 0, 1) := by decide +kernel
theorem dX1_enter_27 : decode cX1_enter 27 = .ok (.getfield 15, 3) := by decide +kernel
theorem dX1_enter_30 : decode cX1_enter 30 = .ok (.iload 4, 2) := by decide +kernel
theorem dX1_enter_32 : decode cX1_enter 32 = .ok (.iload_n 2, 1) := by decide +kernel
theorem dX1_enter_33 : decode cX1_enter 33 = .ok (.iastore, 1) := by decide +kernel
theorem dX1_enter_34 : decode cX1_enter 34 = .ok (.aload_n 0, 1) := by decide +kernel
theorem dX1_enter_35 : decode cX1_enter 35 = .ok (.getfield 18, 3) := by decide +kernel
theorem dX1_enter_38 : decode cX1_enter 38 = .ok (.iload 4, 2) := by decide +kernel
theorem dX1_enter_40 : decode cX1_enter 40 = .ok (.iload_n 3, 1) := by decide +kernel
theorem dX1_enter_41 : decode cX1_enter 41 = .ok (.iastore, 1) := by decide +kernel
theorem dX1_enter_42 : decode cX1_enter 42 = .ok (.aload_n 0, 1) := by decide +kernel
theorem dX1_enter_43 : decode cX1_enter 43 = .ok (.dup, 1) := by decide +kernel
theorem dX1_enter_44 : decode cX1_enter 44 = .ok (.getfield 33, 3) := by decide +kernel
theorem dX1_enter_47 : decode cX1_enter 47 = .ok (.iconst 1, 1) := by decide +kernel
theorem dX1_enter_48 : decode cX1_enter 48 = .ok (.iadd, 1) := by decide +kernel
theorem dX1_enter_49 : decode cX1_enter 49 = .ok (.putfield 33, 3) := by decide +kernel
theorem dX1_enter_52 : decode cX1_enter 52 = .ok (.aload_n 0, 1) := by decide +kernel
theorem dX1_enter_53 : decode cX1_enter 53 = .ok (.iconst 0, 1) := by decide +kernel
theorem dX1_enter_54 : decode cX1_enter 54 = .ok (.putfield 40, 3) := by decide +kernel
theorem dX1_enter_57 : decode cX1_enter 57 = .ok (.iload 4, 2) := by decide +kernel
theorem dX1_enter_59 : decode cX1_enter 59 = .ok (.ireturn, 1) := by decide +kernel
theorem dX1_leave_0 : decode cX1_leave 0 = .ok (.aload_n 0, 1) := by decide +kernel
theorem dX1_leave_1 : decode cX1_leave 1 = .ok (.dup, 1) := by decide +kernel
theorem dX1_leave_2 : decode cX1_leave 2 = .ok (.getfield 33, 3) := by decide +kernel
theorem dX1_leave_5 : decode cX1_leave 5 = .ok (.iconst 1, 1) := by decide +kernel
theorem dX1_leave_6 : decode cX1_leave 6 = .ok (.isub, 1) := by decide +kernel
theorem dX1_leave_7 : decode cX1_leave 7 = .ok (.putfield 33, 3) := by decide +kernel
theorem dX1_leave_10 : decode cX1_leave 10 = .ok (.aload_n 0, 1) := by decide +kernel
theorem dX1_leave_11 : decode cX1_leave 11 = .ok (.iconst 0, 1) := by decide +kernel
theorem dX1_leave_12 : decode cX1_leave 12 = .ok (.putfield 40, 3) := by decide +kernel
theorem dX1_leave_15 : decode cX1_leave 15 = .ok (.aload_n 0, 1) := by decide +kernel
theorem dX1_leave_16 : decode cX1_leave 16 = .ok (.getfield 33, 3) := by decide +kernel
theorem dX1_leave_19 : decode cX1_leave 19 = .ok (.ireturn, 1) := by decide +kernel
theorem dX1_troubleOfWall_0 : decode cX1_troubleOfWall 0 = .ok (.iload_n 1, 1) := by decide +kernel
theorem dX1_troubleOfWall_1 : decode cX1_troubleOfWall 1 = .ok (.invokestatic 66, 3) := by decide +kernel
theorem dX1_troubleOfWall_4 : decode cX1_troubleOfWall 4 = .ok (.ifCond .ne 5, 3) := by decide +kernel
theorem dX1_troubleOfWall_7 : decode cX1_troubleOfWall 7 = .ok (.iconst 1, 1) := by decide +kernel
theorem dX1_troubleOfWall_8 : decode cX1_troubleOfWall 8 = .ok (.ireturn, 1) := by decide +kernel
theorem dX1_troubleOfWall_9 : decode cX1_troubleOfWall 9 = .ok (.aload_n 0, 1) := by decide +kernel
theorem dX1_troubleOfWall_10 : decode cX1_troubleOfWall 10 = .ok (.iload_n 1, 1) := by decide +kernel
theorem dX1_troubleOfWall_11 : decode cX1_troubleOfWall 11 = .ok (.invokevirtual 69, 3) := by decide +kernel
theorem dX1_troubleOfWall_14 : decode cX1_troubleOfWall 14 = .ok (.ifCond .ne 18, 3) := by decide +kernel
theorem dX1_troubleOfWall_17 : decode cX1_troubleOfWall 17 = .ok (.aload_n 0, 1) := by decide +kernel
theorem dX1_troubleOfWall_18 : decode cX1_troubleOfWall 18 = .ok (.getfield 37, 3) := by decide +kernel
theorem dX1_troubleOfWall_21 : decode cX1_troubleOfWall 21 = .ok (.invokestatic 72, 3) := by decide +kernel
theorem dX1_troubleOfWall_24 : decode cX1_troubleOfWall 24 = .ok (.iconst 4, 1) := by decide +kernel
theorem dX1_troubleOfWall_25 : decode cX1_troubleOfWall 25 = .ok (.if_icmp .lt 7, 3) := by decide +kernel
theorem dX1_troubleOfWall_28 : decode cX1_troubleOfWall 28 = .ok (.iconst 1, 1) := by decide +kernel
theorem dX1_troubleOfWall_29 : decode cX1_troubleOfWall 29 = .ok (.goto 4, 3) := by decide +kernel
theorem dX1_troubleOfWall_32 : decode cX1_troubleOfWall 32 = .ok (.iconst 0, 1) := by decide +kernel
theorem dX1_troubleOfWall_33 : decode cX1_troubleOfWall 33 = .ok (.istore_n 2, 1) := by decide +kernel
theorem dX1_troubleOfWall_34 : decode cX1_troubleOfWall 34 = .ok (.aload_n 0, 1) := by decide +kernel
theorem dX1_troubleOfWall_35 : decode cX1_troubleOfWall 35 = .ok (.iload_n 1, 1) := by decide +kernel
theorem dX1_troubleOfWall_36 : decode cX1_troubleOfWall 36 = .ok (.invokevirtual 78, 3) := by decide +kernel
theorem dX1_troubleOfWall_39 : decode cX1_troubleOfWall 39 = .ok (.ifCond .ge 7, 3) := by decide +kernel
theorem dX1_troubleOfWall_42 : decode cX1_troubleOfWall 42 = .ok (.iload_n 2, 1) := by decide +kernel
theorem dX1_troubleOfWall_43 : decode cX1_troubleOfWall 43 = .ok (.ifCond .eq 7, 3) := by decide +kernel
theorem dX1_troubleOfWall_46 : decode cX1_troubleOfWall 46 = .ok (.iconst 3, 1) := by decide +kernel
theorem dX1_troubleOfWall_47 : decode cX1_troubleOfWall 47 = .ok (.goto 4, 3) := by decide +kernel
theorem dX1_troubleOfWall_50 : decode cX1_troubleOfWall 50 = .ok (.iconst 0, 1) := by decide +kernel
theorem dX1_troubleOfWall_51 : decode cX1_troubleOfWall 51 = .ok (.ireturn, 1) := by decide +kernel
theorem dX1_turnWall_0 : decode cX1_turnWall 0 = .ok (.aload_n 0, 1) := by decide +kernel
theorem dX1_turnWall_1 : decode cX1_turnWall 1 = .ok (.dup, 1) := by decide +kernel
theorem dX1_turnWall_2 : decode cX1_turnWall 2 = .ok (.getfield 37, 3) := by decide +kernel
theorem dX1_turnWall_5 : decode cX1_turnWall 5 = .ok (.iconst 1, 1) := by decide +kernel
theorem dX1_turnWall_6 : decode cX1_turnWall 6 = .ok (.iload_n 1, 1) := by decide +kernel
theorem dX1_turnWall_7 : decode cX1_turnWall 7 = .ok (.ishl, 1) := by decide +kernel
theorem dX1_turnWall_8 : decode cX1_turnWall 8 = .ok (.ixor, 1) := by decide +kernel
theorem dX1_turnWall_9 : decode cX1_turnWall 9 = .ok (.putfield 37, 3) := by decide +kernel
theorem dX1_turnWall_12 : decode cX1_turnWall 12 = .ok (.aload_n 0, 1) := by decide +kernel
theorem dX1_turnWall_13 : decode cX1_turnWall 13 = .ok (.iconst 0, 1) := by decide +kernel
theorem dX1_turnWall_14 : decode cX1_turnWall 14 = .ok (.putfield 40, 3) := by decide +kernel
theorem dX1_turnWall_17 : decode cX1_turnWall 17 = .ok (.aload_n 0, 1) := by decide +kernel
theorem dX1_turnWall_18 : decode cX1_turnWall 18 = .ok (.iload_n 1, 1) := by decide +kernel
theorem dX1_turnWall_19 : decode cX1_turnWall 19 = .ok (.invokevirtual 69, 3) := by decide +kernel
theorem dX1_turnWall_22 : decode cX1_turnWall 22 = .ok (.ireturn, 1) := by decide +kernel
theorem dX1_troubleOfSliding_0 : decode cX1_troubleOfSliding 0 = .ok (.aload_n 0, 1) := by decide +kernel
theorem dX1_troubleOfSliding_1 : decode cX1_troubleOfSliding 1 = .ok (.iload_n 1, 1) := by decide +kernel
theorem dX1_troubleOfSliding_2 : decode cX1_troubleOfSliding 2 = .ok (.invokevirtual 54, 3) := by decide +kernel
theorem dX1_troubleOfSliding_5 : decode cX1_troubleOfSliding 5 = .ok (.ifCond .ne 5, 3) := by decide +kernel
theorem dX1_troubleOfSliding_8 : decode cX1_troubleOfSliding 8 = .ok (.iconst 1, 1) := by decide +kernel
theorem dX1_troubleOfSliding_9 : decode cX1_troubleOfSliding 9 = .ok (.ireturn, 1) := by decide +kernel
theorem dX1_troubleOfSliding_10 : decode cX1_troubleOfSliding 10 = .ok (.iload_n 2, 1) := by decide +kernel
theorem dX1_troubleOfSliding_11 : decode cX1_troubleOfSliding 11 = .ok (.bipush (-3), 2) := by decide +kernel
theorem dX1_troubleOfSliding_13 : decode cX1_troubleOfSliding 13 = .ok (.if_icmp .lt 12, 3) := by decide +kernel
theorem dX1_troubleOfSliding_16 : decode cX1_troubleOfSliding 16 = .ok (.iload_n 2, 1) := by decide +kernel
theorem dX1_troubleOfSliding_17 : decode cX1_troubleOfSliding 17 = .ok (.iconst 3, 1) := by decide +kernel
theorem dX1_troubleOfSliding_18 : decode cX1_troubleOfSliding 18 = .ok (.if_icmp .gt 7, 3) := by decide +kernel
theorem dX1_troubleOfSliding_21 : decode cX1_troubleOfSliding 21 = .ok (.iload_n 2, 1) := by decide +kernel
theorem dX1_troubleOfSliding_22 : decode cX1_troubleOfSliding 22 = .ok (.ifCond .ne 5, 3) := by decide +kernel
theorem dX1_troubleOfSliding_25 : decode cX1_troubleOfSliding 25 = .ok (.iconst 2, 1) := by decide +kernel
theorem dX1_troubleOfSliding_26 : decode cX1_troubleOfSliding 26 = .ok (.ireturn, 1) := by decide +kernel
theorem dX1_troubleOfSliding_27 : decode cX1_troubleOfSliding 27 = .ok (.iload_n 2, 1) := by decide +kernel
theorem dX1_troubleOfSliding_28 : decode cX1_troubleOfSliding 28 = .ok (.ifCond .le 12, 3) := by decide +kernel
theorem dX1_troubleOfSliding_31 : decode cX1_troubleOfSliding 31 = .ok (.aload_n 0, 1) := by decide +kernel
theorem dX1_troubleOfSliding_32 : decode cX1_troubleOfSliding 32 = .ok (.iload_n 1, 1) := by decide +kernel
theorem dX1_troubleOfSliding_33 : decode cX1_troubleOfSliding 33 = .ok (.iconst 1, 1) := by decide +kernel
theorem dX1_troubleOfSliding_34 : decode cX1_troubleOfSliding 34 = .ok (.invokevirtual 81, 3) := by decide +kernel
theorem dX1_troubleOfSliding_37 : decode cX1_troubleOfSliding 37 = .ok (.goto 9, 3) := by decide +kernel
theorem dX1_troubleOfSliding_40 : decode cX1_troubleOfSliding 40 = .ok (.aload_n 0, 1) := by decide +kernel
theorem dX1_troubleOfSliding_41 : decode cX1_troubleOfSliding 41 = .ok (.iload_n 1, 1) := by decide +kernel
theorem dX1_troubleOfSliding_42 : decode cX1_troubleOfSliding 42 = .ok (.iconst (-1), 1) := by decide +kernel
theorem dX1_troubleOfSliding_43 : decode cX1_troubleOfSliding 43 = .ok (.invokevirtual 81, 3) := by decide +kernel
theorem dX1_troubleOfSliding_46 : decode cX1_troubleOfSliding 46 = .ok (.istore_n 3, 1) := by decide +kernel
theorem dX1_troubleOfSliding_47 : decode cX1_troubleOfSliding 47 = .ok (.iload_n 2, 1) := by decide +kernel
theorem dX1_troubleOfSliding_48 : decode cX1_troubleOfSliding 48 = .ok (.invokestatic 84, 3) := by decide +kernel
theorem dX1_troubleOfSliding_51 : decode cX1_troubleOfSliding 51 = .ok (.iload_n 3, 1) := by decide +kernel
theorem dX1_troubleOfSliding_52 : decode cX1_troubleOfSliding 52 = .ok (.if_icmp .le 7, 3) := by decide +kernel
theorem dX1_troubleOfSliding_55 : decode cX1_troubleOfSliding 55 = .ok (.iconst 3, 1) := by decide +kernel
theorem dX1_troubleOfSliding_56 : decode cX1_troubleOfSliding 56 = .ok (.goto 4, 3) := by decide +kernel
theorem dX1_troubleOfSliding_59 : decode cX1_troubleOfSliding 59 = .ok (.iconst 0, 1) := by decide +kernel
theorem dX1_troubleOfSliding_60 : decode cX1_troubleOfSliding 60 = .ok (.ireturn, 1) := by decide +kernel
theorem dX1_makeSlide_0 : decode cX1_makeSlide 0 = .ok (.aload_n 0, 1) := by decide +kernel
theorem dX1_makeSlide_1 : decode cX1_makeSlide 1 = .ok (.iload_n 1, 1) := by decide +kernel
theorem dX1_makeSlide_2 : decode cX1_makeSlide 2 = .ok (.invokevirtual 54, 3) := by decide +kernel
theorem dX1_makeSlide_5 : decode cX1_makeSlide 5 = .ok (.ifCond .eq 19, 3) := by decide +kernel
theorem dX1_makeSlide_8 : decode cX1_makeSlide 8 = .ok (.aload_n 0, 1) := by decide +kernel
theorem dX1_makeSlide_9 : decode cX1_makeSlide 9 = .ok (.getfield 40, 3) := by decide +kernel
theorem dX1_makeSlide_12 : decode cX1_makeSlide 12 = .ok (.ifCond .lt 12, 3) := by decide +kernel
theorem dX1_makeSlide_15 : decode cX1_makeSlide 15 = .ok (.aload_n 0, 1) := by decide +kernel
theorem dX1_makeSlide_16 : decode cX1_makeSlide 16 = .ok (.getfield 40, 3) := by decide +kernel
theorem dX1_makeSlide_19 : decode cX1_makeSlide 19 = .ok (.bipush 60, 2) := by decide +kernel
theorem dX1_makeSlide_21 : decode cX1_makeSlide 21 = .ok (.if_icmp .lt 5, 3) := by decide +kernel
theorem dX1_makeSlide_24 : decode cX1_makeSlide 24 = .ok (.iconst (-1), 1) := by decide +kernel
theorem dX1_makeSlide_25 : decode cX1_makeSlide 25 = .ok (.ireturn, 1) := by decide +kernel
theorem dX1_makeSlide_26 : decode cX1_makeSlide 26 = .ok (.aload_n 0, 1) := by decide +kernel
theorem dX1_makeSlide_27 : decode cX1_makeSlide 27 = .ok (.getfield 15, 3) := by decide +kernel
end
section
theorem dX1_makeSlide_30 : decode cX1_makeSlide 30 = .ok (.iload_n 1, 1) := by decide +kernel
theorem dX1_makeSlide_31 : decode cX1_makeSlide 31 = .ok (.dup2, 1) := by decide +kernel
theorem dX1_makeSlide_32 : decode cX1_makeSlide 32 = .ok (.iaload, 1) := by decide +kernel
theorem dX1_makeSlide_33 : decode cX1_makeSlide 33 = .ok (.iload_n 2, 1) := by decide +kernel
theorem dX1_makeSlide_34 : decode cX1_makeSlide 34 = .ok (.iadd, 1) := by decide +kernel
theorem dX1_makeSlide_35 : decode cX1_makeSlide 35 = .ok (.iastore, 1) := by decide +kernel
theorem dX1_makeSlide_36 : decode cX1_makeSlide 36 = .ok (.aload_n 0, 1) := by decide +kernel
theorem dX1_makeSlide_37 : decode cX1_makeSlide 37 = .ok (.getfield 21, 3) := by decide +kernel
theorem dX1_makeSlide_40 : decode cX1_makeSlide 40 = .ok (.aload_n 0, 1) := by decide +kernel
theorem dX1_makeSlide_41 : decode cX1_makeSlide 41 = .ok (.getfield 40, 3) := by decide +kernel
theorem dX1_makeSlide_44 : decode cX1_makeSlide 44 = .ok (.iload_n 1, 1) := by decide +kernel
theorem dX1_makeSlide_45 : decode cX1_makeSlide 45 = .ok (.iastore, 1) := by decide +kernel
theorem dX1_makeSlide_46 : decode cX1_makeSlide 46 = .ok (.aload_n 0, 1) := by decide +kernel
theorem dX1_makeSlide_47 : decode cX1_makeSlide 47 = .ok (.getfield 24, 3) := by decide +kernel
theorem dX1_makeSlide_50 : decode cX1_makeSlide 50 = .ok (.aload_n 0, 1) := by decide +kernel
theorem dX1_makeSlide_51 : decode cX1_makeSlide 51 = .ok (.getfield 40, 3) := by decide +kernel
theorem dX1_makeSlide_54 : decode cX1_makeSlide 54 = .ok (.iload_n 2, 1) := by decide +kernel
theorem dX1_makeSlide_55 : decode cX1_makeSlide 55 = .ok (.iastore, 1) := by decide +kernel
theorem dX1_makeSlide_56 : decode cX1_makeSlide 56 = .ok (.aload_n 0, 1) := by decide +kernel
theorem dX1_makeSlide_57 : decode cX1_makeSlide 57 = .ok (.dup, 1) := by decide +kernel
theorem dX1_makeSlide_58 : decode cX1_makeSlide 58 = .ok (.getfield 40, 3) := by decide +kernel
theorem dX1_makeSlide_61 : decode cX1_makeSlide 61 = .ok (.iconst 1, 1) := by decide +kernel
theorem dX1_makeSlide_62 : decode cX1_makeSlide 62 = .ok (.iadd, 1) := by decide +kernel
theorem dX1_makeSlide_63 : decode cX1_makeSlide 63 = .ok (.putfield 40, 3) := by decide +kernel
theorem dX1_makeSlide_66 : decode cX1_makeSlide 66 = .ok (.aload_n 0, 1) := by decide +kernel
theorem dX1_makeSlide_67 : decode cX1_makeSlide 67 = .ok (.getfield 15, 3) := by decide +kernel
theorem dX1_makeSlide_70 : decode cX1_makeSlide 70 = .ok (.iload_n 1, 1) := by decide +kernel
theorem dX1_makeSlide_71 : decode cX1_makeSlide 71 = .ok (.iaload, 1) := by decide +kernel
theorem dX1_makeSlide_72 : decode cX1_makeSlide 72 = .ok (.ireturn, 1) := by decide +kernel
theorem dX1_unmakeSlide_0 : decode cX1_unmakeSlide 0 = .ok (.aload_n 0, 1) := by decide +kernel
theorem dX1_unmakeSlide_1 : decode cX1_unmakeSlide 1 = .ok (.aload_n 0, 1) := by decide +kernel
theorem dX1_unmakeSlide_2 : decode cX1_unmakeSlide 2 = .ok (.getfield 40, 3) := by decide +kernel
theorem dX1_unmakeSlide_5 : decode cX1_unmakeSlide 5 = .ok (.iconst 1, 1) := by decide +kernel
theorem dX1_unmakeSlide_6 : decode cX1_unmakeSlide 6 = .ok (.isub, 1) := by decide +kernel
theorem dX1_unmakeSlide_7 : decode cX1_unmakeSlide 7 = .ok (.invokevirtual 89, 3) := by decide +kernel
theorem dX1_unmakeSlide_10 : decode cX1_unmakeSlide 10 = .ok (.ifCond .ne 5, 3) := by decide +kernel
theorem dX1_unmakeSlide_13 : decode cX1_unmakeSlide 13 = .ok (.iconst (-1), 1) := by decide +kernel
theorem dX1_unmakeSlide_14 : decode cX1_unmakeSlide 14 = .ok (.ireturn, 1) := by decide +kernel
theorem dX1_unmakeSlide_15 : decode cX1_unmakeSlide 15 = .ok (.aload_n 0, 1) := by decide +kernel
theorem dX1_unmakeSlide_16 : decode cX1_unmakeSlide 16 = .ok (.dup, 1) := by decide +kernel
theorem dX1_unmakeSlide_17 : decode cX1_unmakeSlide 17 = .ok (.getfield 40, 3) := by decide +kernel
theorem dX1_unmakeSlide_20 : decode cX1_unmakeSlide 20 = .ok (.iconst 1, 1) := by decide +kernel
theorem dX1_unmakeSlide_21 : decode cX1_unmakeSlide 21 = .ok (.isub, 1) := by decide +kernel
theorem dX1_unmakeSlide_22 : decode cX1_unmakeSlide 22 = .ok (.putfield 40, 3) := by decide +kernel
theorem dX1_unmakeSlide_25 : decode cX1_unmakeSlide 25 = .ok (.aload_n 0, 1) := by decide +kernel
theorem dX1_unmakeSlide_26 : decode cX1_unmakeSlide 26 = .ok (.getfield 21, 3) := by decide +kernel
theorem dX1_unmakeSlide_29 : decode cX1_unmakeSlide 29 = .ok (.aload_n 0, 1) := by decide +kernel
theorem dX1_unmakeSlide_30 : decode cX1_unmakeSlide 30 = .ok (.getfield 40, 3) := by decide +kernel
theorem dX1_unmakeSlide_33 : decode cX1_unmakeSlide 33 = .ok (.iaload, 1) := by decide +kernel
theorem dX1_unmakeSlide_34 : decode cX1_unmakeSlide 34 = .ok (.istore_n 1, 1) := by decide +kernel
theorem dX1_unmakeSlide_35 : decode cX1_unmakeSlide 35 = .ok (.aload_n 0, 1) := by decide +kernel
theorem dX1_unmakeSlide_36 : decode cX1_unmakeSlide 36 = .ok (.iload_n 1, 1) := by decide +kernel
theorem dX1_unmakeSlide_37 : decode cX1_unmakeSlide 37 = .ok (.invokevirtual 54, 3) := by decide +kernel
theorem dX1_unmakeSlide_40 : decode cX1_unmakeSlide 40 = .ok (.ifCond .eq 21, 3) := by decide +kernel
theorem dX1_unmakeSlide_43 : decode cX1_unmakeSlide 43 = .ok (.aload_n 0, 1) := by decide +kernel
theorem dX1_unmakeSlide_44 : decode cX1_unmakeSlide 44 = .ok (.getfield 15, 3) := by decide +kernel
theorem dX1_unmakeSlide_47 : decode cX1_unmakeSlide 47 = .ok (.iload_n 1, 1) := by decide +kernel
theorem dX1_unmakeSlide_48 : decode cX1_unmakeSlide 48 = .ok (.dup2, 1) := by decide +kernel
theorem dX1_unmakeSlide_49 : decode cX1_unmakeSlide 49 = .ok (.iaload, 1) := by decide +kernel
theorem dX1_unmakeSlide_50 : decode cX1_unmakeSlide 50 = .ok (.aload_n 0, 1) := by decide +kernel
theorem dX1_unmakeSlide_51 : decode cX1_unmakeSlide 51 = .ok (.getfield 24, 3) := by decide +kernel
theorem dX1_unmakeSlide_54 : decode cX1_unmakeSlide 54 = .ok (.aload_n 0, 1) := by decide +kernel
theorem dX1_unmakeSlide_55 : decode cX1_unmakeSlide 55 = .ok (.getfield 40, 3) := by decide +kernel
theorem dX1_unmakeSlide_58 : decode cX1_unmakeSlide 58 = .ok (.iaload, 1) := by decide +kernel
theorem dX1_unmakeSlide_59 : decode cX1_unmakeSlide 59 = .ok (.isub, 1) := by decide +kernel
theorem dX1_unmakeSlide_60 : decode cX1_unmakeSlide 60 = .ok (.iastore, 1) := by decide +kernel
theorem dX1_unmakeSlide_61 : decode cX1_unmakeSlide 61 = .ok (.iload_n 1, 1) := by decide +kernel
theorem dX1_unmakeSlide_62 : decode cX1_unmakeSlide 62 = .ok (.ireturn, 1) := by decide +kernel
theorem dX1_loggedSteps_0 : decode cX1_loggedSteps 0 = .ok (.iconst 0, 1) := by decide +kernel
theorem dX1_loggedSteps_1 : decode cX1_loggedSteps 1 = .ok (.istore_n 2, 1) := by decide +kernel
theorem dX1_loggedSteps_2 : decode cX1_loggedSteps 2 = .ok (.iconst 0, 1) := by decide +kernel
theorem dX1_loggedSteps_3 : decode cX1_loggedSteps 3 = .ok (.istore_n 3, 1) := by decide +kernel
theorem dX1_loggedSteps_4 : decode cX1_loggedSteps 4 = .ok (.iload_n 3, 1) := by decide +kernel
theorem dX1_loggedSteps_5 : decode cX1_loggedSteps 5 = .ok (.aload_n 0, 1) := by decide +kernel
theorem dX1_loggedSteps_6 : decode cX1_loggedSteps 6 = .ok (.getfield 40, 3) := by decide +kernel
theorem dX1_loggedSteps_9 : decode cX1_loggedSteps 9 = .ok (.if_icmp .ge 37, 3) := by decide +kernel
theorem dX1_loggedSteps_12 : decode cX1_loggedSteps 12 = .ok (.iload_n 3, 1) := by decide +kernel
theorem dX1_loggedSteps_13 : decode cX1_loggedSteps 13 = .ok (.bipush 60, 2) := by decide +kernel
theorem dX1_loggedSteps_15 : decode cX1_loggedSteps 15 = .ok (.if_icmp .ge 31, 3) := by decide +kernel
theorem dX1_loggedSteps_18 : decode cX1_loggedSteps 18 = .ok (.aload_n 0, 1) := by decide +kernel
theorem dX1_loggedSteps_19 : decode cX1_loggedSteps 19 = .ok (.getfield 21, 3) := by decide +kernel
theorem dX1_loggedSteps_22 : decode cX1_loggedSteps 22 = .ok (.iload_n 3, 1) := by decide +kernel
theorem dX1_loggedSteps_23 : decode cX1_loggedSteps 23 = .ok (.iaload, 1) := by decide +kernel
theorem dX1_loggedSteps_24 : decode cX1_loggedSteps 24 = .ok (.iload_n 1, 1) := by decide +kernel
theorem dX1_loggedSteps_25 : decode cX1_loggedSteps 25 = .ok (.if_icmp .ne 15, 3) := by decide +kernel
theorem dX1_loggedSteps_28 : decode cX1_loggedSteps 28 = .ok (.iload_n 2, 1) := by decide +kernel
theorem dX1_loggedSteps_29 : decode cX1_loggedSteps 29 = .ok (.aload_n 0, 1) := by decide +kernel
theorem dX1_loggedSteps_30 : decode cX1_loggedSteps 30 = .ok (.getfield 24, 3) := by decide +kernel
theorem dX1_loggedSteps_33 : decode cX1_loggedSteps 33 = .ok (.iload_n 3, 1) := by decide +kernel
theorem dX1_loggedSteps_34 : decode cX1_loggedSteps 34 = .ok (.iaload, 1) := by decide +kernel
theorem dX1_loggedSteps_35 : decode cX1_loggedSteps 35 = .ok (.invokestatic 84, 3) := by decide +kernel
theorem dX1_loggedSteps_38 : decode cX1_loggedSteps 38 = .ok (.iadd, 1) := by decide +kernel
theorem dX1_loggedSteps_39 : decode cX1_loggedSteps 39 = .ok (.istore_n 2, 1) := by decide +kernel
theorem dX1_loggedSteps_40 : decode cX1_loggedSteps 40 = .ok (.iinc 3 1, 3) := by decide +kernel
theorem dX1_loggedSteps_43 : decode cX1_loggedSteps 43 = .ok (.goto (-39), 3) := by decide +kernel
theorem dX1_loggedSteps_46 : decode cX1_loggedSteps 46 = .ok (.iload_n 2, 1) := by decide +kernel
theorem dX1_loggedSteps_47 : decode cX1_loggedSteps 47 = .ok (.ireturn, 1) := by decide +kernel
theorem dX1_fuelSlideBySlide_0 : decode cX1_fuelSlideBySlide 0 = .ok (.iconst 0, 1) := by decide +kernel
theorem dX1_fuelSlideBySlide_1 : decode cX1_fuelSlideBySlide 1 = .ok (.istore_n 1, 1) := by decide +kernel
theorem dX1_fuelSlideBySlide_2 : decode cX1_fuelSlideBySlide 2 = .ok (.iconst 0, 1) := by decide +kernel
theorem dX1_fuelSlideBySlide_3 : decode cX1_fuelSlideBySlide 3 = .ok (.istore_n 2, 1) := by decide +kernel
theorem dX1_fuelSlideBySlide_4 : decode cX1_fuelSlideBySlide 4 = .ok (.iload_n 2, 1) := by decide +kernel
theorem dX1_fuelSlideBySlide_5 : decode cX1_fuelSlideBySlide 5 = .ok (.aload_n 0, 1) := by decide +kernel
theorem dX1_fuelSlideBySlide_6 : decode cX1_fuelSlideBySlide 6 = .ok (.getfield 40, 3) := by decide +kernel
theorem dX1_fuelSlideBySlide_9 : decode cX1_fuelSlideBySlide 9 = .ok (.if_icmp .ge 53, 3) := by decide +kernel
theorem dX1_fuelSlideBySlide_12 : decode cX1_fuelSlideBySlide 12 = .ok (.iload_n 2, 1) := by decide +kernel
theorem dX1_fuelSlideBySlide_13 : decode cX1_fuelSlideBySlide 13 = .ok (.bipush 60, 2) := by decide +kernel
theorem dX1_fuelSlideBySlide_15 : decode cX1_fuelSlideBySlide 15 = .ok (.if_icmp .ge 47, 3) := by decide +kernel
theorem dX1_fuelSlideBySlide_18 : decode cX1_fuelSlideBySlide 18 = .ok (.aload_n 0, 1) := by decide +kernel
theorem dX1_fuelSlideBySlide_19 : decode cX1_fuelSlideBySlide 19 = .ok (.getfield 21, 3) := by decide +kernel
theorem dX1_fuelSlideBySlide_22 : decode cX1_fuelSlideBySlide 22 = .ok (.iload_n 2, 1) := by decide +kernel
theorem dX1_fuelSlideBySlide_23 : decode cX1_fuelSlideBySlide 23 = .ok (.iaload, 1) := by decide +kernel
theorem dX1_fuelSlideBySlide_24 : decode cX1_fuelSlideBySlide 24 = .ok (.istore_n 3, 1) := by decide +kernel
theorem dX1_fuelSlideBySlide_25 : decode cX1_fuelSlideBySlide 25 = .ok (.iload_n 1, 1) := by decide +kernel
theorem dX1_fuelSlideBySlide_26 : decode cX1_fuelSlideBySlide 26 = .ok (.aload_n 0, 1) := by decide +kernel
theorem dX1_fuelSlideBySlide_27 : decode cX1_fuelSlideBySlide 27 = .ok (.iload_n 3, 1) := by decide +kernel
theorem dX1_fuelSlideBySlide_28 : decode cX1_fuelSlideBySlide 28 = .ok (.invokevirtual 54, 3) := by decide +kernel
theorem dX1_fuelSlideBySlide_31 : decode cX1_fuelSlideBySlide 31 = .ok (.ifCond .eq 22, 3) := by decide +kernel
theorem dX1_fuelSlideBySlide_34 : decode cX1_fuelSlideBySlide 34 = .ok (.aload_n 0, 1) := by decide +kernel
theorem dX1_fuelSlideBySlide_35 : decode cX1_fuelSlideBySlide 35 = .ok (.getfield 24, 3) := by decide +kernel
theorem dX1_fuelSlideBySlide_38 : decode cX1_fuelSlideBySlide 38 = .ok (.iload_n 2, 1) := by decide +kernel
theorem dX1_fuelSlideBySlide_39 : decode cX1_fuelSlideBySlide 39 = .ok (.iaload, 1) := by decide +kernel
theorem dX1_fuelSlideBySlide_40 : decode cX1_fuelSlideBySlide 40 = .ok (.invokestatic 84, 3) := by decide +kernel
theorem dX1_fuelSlideBySlide_43 : decode cX1_fuelSlideBySlide 43 = .ok (.aload_n 0, 1) := by decide +kernel
theorem dX1_fuelSlideBySlide_44 : decode cX1_fuelSlideBySlide 44 = .ok (.getfield 18, 3) := by decide +kernel
theorem dX1_fuelSlideBySlide_47 : decode cX1_fuelSlideBySlide 47 = .ok (.iload_n 3, 1) := by decide +kernel
theorem dX1_fuelSlideBySlide_48 : decode cX1_fuelSlideBySlide 48 = .ok (.iaload, 1) := by decide +kernel
theorem dX1_fuelSlideBySlide_49 : decode cX1_fuelSlideBySlide 49 = .ok (.imul, 1) := by decide +kernel
theorem dX1_fuelSlideBySlide_50 : decode cX1_fuelSlideBySlide 50 = .ok (.goto 4, 3) := by decide +kernel
theorem dX1_fuelSlideBySlide_53 : decode cX1_fuelSlideBySlide 53 = .ok (.iconst 0, 1) := by decide +kernel
theorem dX1_fuelSlideBySlide_54 : decode cX1_fuelSlideBySlide 54 = .ok (.iadd, 1) := by decide +kernel
theorem dX1_fuelSlideBySlide_55 : decode cX1_fuelSlideBySlide 55 = .ok (.istore_n 1, 1) := by decide +kernel
theorem dX1_fuelSlideBySlide_56 : decode cX1_fuelSlideBySlide 56 = .ok (.iinc 2 1, 3) := by decide +kernel
theorem dX1_fuelSlideBySlide_59 : decode cX1_fuelSlideBySlide 59 = .ok (.goto (-55), 3) := by decide +kernel
theorem dX1_fuelSlideBySlide_62 : decode cX1_fuelSlideBySlide 62 = .ok (.iload_n 1, 1) := by decide +kernel
theorem dX1_fuelSlideBySlide_63 : decode cX1_fuelSlideBySlide 63 = .ok (.ireturn, 1) := by decide +kernel
theorem dX1_fuelCarByCar_0 : decode cX1_fuelCarByCar 0 = .ok (.iconst 0, 1) := by decide +kernel
theorem dX1_fuelCarByCar_1 : decode cX1_fuelCarByCar 1 = .ok (.istore_n 1, 1) := by decide +kernel
theorem dX1_fuelCarByCar_2 : decode cX1_fuelCarByCar 2 = .ok (.iconst 0, 1) := by decide +kernel
theorem dX1_fuelCarByCar_3 : decode cX1_fuelCarByCar 3 = .ok (.istore_n 2, 1) := by decide +kernel
theorem dX1_fuelCarByCar_4 : decode cX1_fuelCarByCar 4 = .ok (.iload_n 2, 1) := by decide +kernel
theorem dX1_fuelCarByCar_5 : decode cX1_fuelCarByCar 5 = .ok (.aload_n 0, 1) := by decide +kernel
theorem dX1_fuelCarByCar_6 : decode cX1_fuelCarByCar 6 = .ok (.getfield 33, 3) := by decide +kernel
theorem dX1_fuelCarByCar_9 : decode cX1_fuelCarByCar 9 = .ok (.if_icmp .ge 30, 3) := by decide +kernel
theorem dX1_fuelCarByCar_12 : decode cX1_fuelCarByCar 12 = .ok (.iload_n 2, 1) := by decide +kernel
theorem dX1_fuelCarByCar_13 : decode cX1_fuelCarByCar 13 = .ok (.bipush 6, 2) := by decide +kernel
theorem dX1_fuelCarByCar_15 : decode cX1_fuelCarByCar 15 = .ok (.if_icmp .ge 24, 3) := by decide +kernel
theorem dX1_fuelCarByCar_18 : decode cX1_fuelCarByCar 18 = .ok (.iload_n 1, 1) := by decide +kernel
theorem dX1_fuelCarByCar_19 : decode cX1_fuelCarByCar 19 = .ok (.aload_n 0, 1) := by decide +kernel
theorem dX1_fuelCarByCar_20 : decode cX1_fuelCarByCar 20 = .ok (.iload_n 2, 1) := by decide +kernel
theorem dX1_fuelCarByCar_21 : decode cX1_fuelCarByCar 21 = .ok (.invokevirtual 92, 3) := by decide +kernel
theorem dX1_fuelCarByCar_24 : decode cX1_fuelCarByCar 24 = .ok (.aload_n 0, 1) := by decide +kernel
theorem dX1_fuelCarByCar_25 : decode cX1_fuelCarByCar 25 = .ok (.getfield 18, 3) := by decide +kernel
theorem dX1_fuelCarByCar_28 : decode cX1_fuelCarByCar 28 = .ok (.iload_n 2, 1) := by decide +kernel
theorem dX1_fuelCarByCar_29 : decode cX1_fuelCarByCar 29 = .ok (.iaload, 1) := by decide +kernel
theorem dX1_fuelCarByCar_30 : decode cX1_fuelCarByCar 30 = .ok (.imul, 1) := by decide +kernel
theorem dX1_fuelCarByCar_31 : decode cX1_fuelCarByCar 31 = .ok (.iadd, 1) := by decide +kernel
theorem dX1_fuelCarByCar_32 : decode cX1_fuelCarByCar 32 = .ok (.istore_n 1, 1) := by decide +kernel
theorem dX1_fuelCarByCar_33 : decode cX1_fuelCarByCar 33 = .ok (.iinc 2 1, 3) := by decide +kernel
theorem dX1_fuelCarByCar_36 : decode cX1_fuelCarByCar 36 = .ok (.goto (-32), 3) := by decide +kernel
theorem dX1_fuelCarByCar_39 : decode cX1_fuelCarByCar 39 = .ok (.iload_n 1, 1) := by decide +kernel
theorem dX1_fuelCarByCar_40 : decode cX1_fuelCarByCar 40 = .ok (.ireturn, 1) := by decide +kernel
theorem dX2_init_0 : decode cX2_init 0 = .ok (.aload_n 0, 1) := by decide +kernel
theorem dX2_init_1 : decode cX2_init 1 = .ok (.invokespecial 3, 3) := by decide +kernel
theorem dX2_init_4 : decode cX2_init 4 = .ok (.aload_n 0, 1) := by decide +kernel
theorem dX2_init_5 : decode cX2_init 5 = .ok (.bipush 60, 2) := by decide +kernel
theorem dX2_init_7 : decode cX2_init 7 = .ok (.newarray .int, 2) := by decide +kernel
theorem dX2_init_9 : decode cX2_init 9 = .ok (.putfield 9, 3) := by decide +kernel
theorem dX2_init_12 : decode cX2_init 12 = .ok (.return_, 1) := by decide +kernel
theorem dX2_add_0 : decode cX2_add 0 = .ok (.aload_n 0, 1) := by decide +kernel
theorem dX2_add_1 : decode cX2_add 1 = .ok (.getfield 15, 3) := by decide +kernel
theorem dX2_add_4 : decode cX2_add 4 = .ok (.ifCond .lt 32, 3) := by decide +kernel
theorem dX2_add_7 : decode cX2_add 7 = .ok (.aload_n 0, 1) := by decide +kernel
theorem dX2_add_8 : decode cX2_add 8 = .ok (.getfield 15, 3) := by decide +kernel
theorem dX2_add_11 : decode cX2_add 11 = .ok (.bipush 60, 2) := by decide +kernel
theorem dX2_add_13 : decode cX2_add 13 = .ok (.if_icmp .ge 23, 3) := by decide +kernel
theorem dX2_add_16 : decode cX2_add 16 = .ok (.aload_n 0, 1) := by decide +kernel
theorem dX2_add_17 : decode cX2_add 17 = .ok (.getfield 9, 3) := by decide +kernel
theorem dX2_add_20 : decode cX2_add 20 = .ok (.aload_n 0, 1) := by decide +kernel
theorem dX2_add_21 : decode cX2_add 21 = .ok (.getfield 15, 3) := by decide +kernel
theorem dX2_add_24 : decode cX2_add 24 = .ok (.iload_n 1, 1) := by decide +kernel
theorem dX2_add_25 : decode cX2_add 25 = .ok (.iastore, 1) := by decide +kernel
theorem dX2_add_26 : decode cX2_add 26 = .ok (.aload_n 0, 1) := by decide +kernel
theorem dX2_add_27 : decode cX2_add 27 = .ok (.dup, 1) := by decide +kernel
theorem dX2_add_28 : decode cX2_add 28 = .ok (.getfield 15, 3) := by decide +kernel
theorem dX2_add_31 : decode cX2_add 31 = .ok (.iconst 1, 1) := by decide +kernel
theorem dX2_add_32 : decode cX2_add 32 = .ok (.iadd, 1) := by decide +kernel
theorem dX2_add_33 : decode cX2_add 33 = .ok (.putfield 15, 3) := by decide +kernel
theorem dX2_add_36 : decode cX2_add 36 = .ok (.aload_n 0, 1) := by decide +kernel
theorem dX2_add_37 : decode cX2_add 37 = .ok (.getfield 15, 3) := by decide +kernel
theorem dX2_add_40 : decode cX2_add 40 = .ok (.ireturn, 1) := by decide +kernel
theorem dX2_clear_0 : decode cX2_clear 0 = .ok (.aload_n 0, 1) := by decide +kernel
theorem dX2_clear_1 : decode cX2_clear 1 = .ok (.getfield 15, 3) := by decide +kernel
theorem dX2_clear_4 : decode cX2_clear 4 = .ok (.istore_n 1, 1) := by decide +kernel
theorem dX2_clear_5 : decode cX2_clear 5 = .ok (.aload_n 0, 1) := by decide +kernel
theorem dX2_clear_6 : decode cX2_clear 6 = .ok (.iconst 0, 1) := by decide +kernel
theorem dX2_clear_7 : decode cX2_clear 7 = .ok (.putfield 15, 3) := by decide +kernel
theorem dX2_clear_10 : decode cX2_clear 10 = .ok (.iload_n 1, 1) := by decide +kernel
theorem dX2_clear_11 : decode cX2_clear 11 = .ok (.ireturn, 1) := by decide +kernel
theorem dX2_codeAt_0 : decode cX2_codeAt 0 = .ok (.iload_n 1, 1) := by decide +kernel
theorem dX2_codeAt_1 : decode cX2_codeAt 1 = .ok (.ifCond .lt 26, 3) := by decide +kernel
theorem dX2_codeAt_4 : decode cX2_codeAt 4 = .ok (.iload_n 1, 1) := by decide +kernel
theorem dX2_codeAt_5 : decode cX2_codeAt 5 = .ok (.aload_n 0, 1) := by decide +kernel
theorem dX2_codeAt_6 : decode cX2_codeAt 6 = .ok (.getfield 15, 3) := by decide +kernel
theorem dX2_codeAt_9 : decode cX2_codeAt 9 = .ok (.if_icmp .ge 18, 3) := by decide +kernel
theorem dX2_codeAt_12 : decode cX2_codeAt 12 = .ok (.iload_n 1, 1) := by decide +kernel
theorem dX2_codeAt_13 : decode cX2_codeAt 13 = .ok (.bipush 60, 2) := by decide +kernel
theorem dX2_codeAt_15 : decode cX2_codeAt 15 = .ok (.if_icmp .ge 12, 3) := by decide +kernel
theorem dX2_codeAt_18 : decode cX2_codeAt 18 = .ok (.aload_n 0, 1) := by decide +kernel
theorem dX2_codeAt_19 : decode cX2_codeAt 19 = .ok (.getfield 9, 3) := by decide +kernel
theorem dX2_codeAt_22 : decode cX2_codeAt 22 = .ok (.iload_n 1, 1) := by decide +kernel
theorem dX2_codeAt_23 : decode cX2_codeAt 23 = .ok (.iaload, 1) := by decide +kernel
theorem dX2_codeAt_24 : decode cX2_codeAt 24 = .ok (.goto 4, 3) := by decide +kernel
theorem dX2_codeAt_27 : decode cX2_codeAt 27 = .ok (.iconst 0, 1) := by decide +kernel
theorem dX2_codeAt_28 : decode cX2_codeAt 28 = .ok (.ireturn, 1) := by decide +kernel
theorem dX2_digitAt_0 : decode cX2_digitAt 0 = .ok (.aload_n 0, 1) := by decide +kernel
theorem dX2_digitAt_1 : decode cX2_digitAt 1 = .ok (.iload_n 1, 1) := by decide +kernel
theorem dX2_digitAt_2 : decode cX2_digitAt 2 = .ok (.invokevirtual 19, 3) := by decide +kernel
theorem dX2_digitAt_5 : decode cX2_digitAt 5 = .ok (.bipush 48, 2) := by decide +kernel
theorem dX2_digitAt_7 : decode cX2_digitAt 7 = .ok (.isub, 1) := by decide +kernel
theorem dX2_digitAt_8 : decode cX2_digitAt 8 = .ok (.ireturn, 1) := by decide +kernel
theorem dX2_signAt_0 : decode cX2_signAt 0 = .ok (.aload_n 0, 1) := by decide +kernel
theorem dX2_signAt_1 : decode cX2_signAt 1 = .ok (.iload_n 1, 1) := by decide +kernel
theorem dX2_signAt_2 : decode cX2_signAt 2 = .ok (.invokevirtual 19, 3) := by decide +kernel
theorem dX2_signAt_5 : decode cX2_signAt 5 = .ok (.bipush 45, 2) := by decide +kernel
theorem dX2_signAt_7 : decode cX2_signAt 7 = .ok (.if_icmp .ne 7, 3) := by decide +kernel
theorem dX2_signAt_10 : decode cX2_signAt 10 = .ok (.iconst (-1), 1) := by decide +kernel
theorem dX2_signAt_11 : decode cX2_signAt 11 = .ok (.goto 4, 3) := by decide +kernel
theorem dX2_signAt_14 : decode cX2_signAt 14 = .ok (.iconst 1, 1) := by decide +kernel
theorem dX2_signAt_15 : decode cX2_signAt 15 = .ok (.ireturn, 1) := by decide +kernel
theorem dX2_cellAt_0 : decode cX2_cellAt 0 = .ok (.aload_n 0, 1) := by decide +kernel
theorem dX2_cellAt_1 : decode cX2_cellAt 1 = .ok (.iload_n 1, 1) := by decide +kernel
theorem dX2_cellAt_2 : decode cX2_cellAt 2 = .ok (.iconst 1, 1) := by decide +kernel
theorem dX2_cellAt_3 : decode cX2_cellAt 3 = .ok (.iadd, 1) := by decide +kernel
theorem dX2_cellAt_4 : decode cX2_cellAt 4 = .ok (.invokevirtual 19, 3) := by decide +kernel
theorem dX2_cellAt_7 : decode cX2_cellAt 7 = .ok (.bipush 48, 2) := by decide +kernel
theorem dX2_cellAt_9 : decode cX2_cellAt 9 = .ok (.bipush 57, 2) := by decide +kernel
theorem dX2_cellAt_11 : decode cX2_cellAt 11 = .ok (.invokestatic 23, 3) := by decide +kernel
theorem dX2_cellAt_14 : decode cX2_cellAt 14 = .ok (.istore_n 2, 1) := by decide +kernel
theorem dX2_cellAt_15 : decode cX2_cellAt 15 = .ok (.iload_n 2, 1) := by decide +kernel
theorem dX2_cellAt_16 : decode cX2_cellAt 16 = .ok (.ifCond .eq 22, 3) := by decide +kernel
theorem dX2_cellAt_19 : decode cX2_cellAt 19 = .ok (.bipush 10, 2) := by decide +kernel
theorem dX2_cellAt_21 : decode cX2_cellAt 21 = .ok (.aload_n 0, 1) := by decide +kernel
theorem dX2_cellAt_22 : decode cX2_cellAt 22 = .ok (.iload_n 1, 1) := by decide +kernel
theorem dX2_cellAt_23 : decode cX2_cellAt 23 = .ok (.invokevirtual 27, 3) := by decide +kernel
theorem dX2_cellAt_26 : decode cX2_cellAt 26 = .ok (.imul, 1) := by decide +kernel
theorem dX2_cellAt_27 : decode cX2_cellAt 27 = .ok (.aload_n 0, 1) := by decide +kernel
theorem dX2_cellAt_28 : decode cX2_cellAt 28 = .ok (.iload_n 1, 1) := by decide +kernel
theorem dX2_cellAt_29 : decode cX2_cellAt 29 = .ok (.iconst 1, 1) := by decide +kernel
theorem dX2_cellAt_30 : decode cX2_cellAt 30 = .ok (.iadd, 1) := by decide +kernel
theorem dX2_cellAt_31 : decode cX2_cellAt 31 = .ok (.invokevirtual 27, 3) := by decide +kernel
theorem dX2_cellAt_34 : decode cX2_cellAt 34 = .ok (.iadd, 1) := by decide +kernel
theorem dX2_cellAt_35 : decode cX2_cellAt 35 = .ok (.goto 8, 3) := by decide +kernel
theorem dX2_cellAt_38 : decode cX2_cellAt 38 = .ok (.aload_n 0, 1) := by decide +kernel
theorem dX2_cellAt_39 : decode cX2_cellAt 39 = .ok (.iload_n 1, 1) := by decide +kernel
theorem dX2_cellAt_40 : decode cX2_cellAt 40 = .ok (.invokevirtual 27, 3) := by decide +kernel
theorem dX2_cellAt_43 : decode cX2_cellAt 43 = .ok (.ireturn, 1) := by decide +kernel
theorem dX2_nextPart_0 : decode cX2_nextPart 0 = .ok (.iload_n 1, 1) := by decide +kernel
theorem dX2_nextPart_1 : decode cX2_nextPart 1 = .ok (.istore_n 2, 1) := by decide +kernel
theorem dX2_nextPart_2 : decode cX2_nextPart 2 = .ok (.iload_n 2, 1) := by decide +kernel
theorem dX2_nextPart_3 : decode cX2_nextPart 3 = .ok (.aload_n 0, 1) := by decide +kernel
theorem dX2_nextPart_4 : decode cX2_nextPart 4 = .ok (.getfield 15, 3) := by decide +kernel
theorem dX2_nextPart_7 : decode cX2_nextPart 7 = .ok (.if_icmp .ge 19, 3) := by decide +kernel
theorem dX2_nextPart_10 : decode cX2_nextPart 10 = .ok (.aload_n 0, 1) := by decide +kernel
theorem dX2_nextPart_11 : decode cX2_nextPart 11 = .ok (.iload_n 2, 1) := by decide +kernel
theorem dX2_nextPart_12 : decode cX2_nextPart 12 = .ok (.invokevirtual 19, 3) := by decide +kernel
theorem dX2_nextPart_15 : decode cX2_nextPart 15 = .ok (.bipush 59, 2) := by decide +kernel
theorem dX2_nextPart_17 : decode cX2_nextPart 17 = .ok (.if_icmp .eq 9, 3) := by decide +kernel
theorem dX2_nextPart_20 : decode cX2_nextPart 20 = .ok (.iinc 2 1, 3) := by decide +kernel
theorem dX2_nextPart_23 : decode cX2_nextPart 23 = .ok (.goto (-21), 3) := by decide +kernel
theorem dX2_nextPart_26 : decode cX2_nextPart 26 = .ok (.iload_n 2, 1) := by decide +kernel
theorem dX2_nextPart_27 : decode cX2_nextPart 27 = .ok (.iconst 1, 1) := by decide +kernel
theorem dX2_nextPart_28 : decode cX2_nextPart 28 = .ok (.iadd, 1) := by decide +kernel
theorem dX2_nextPart_29 : decode cX2_nextPart 29 = .ok (.ireturn, 1) := by decide +kernel
theorem dX2_errorAt_0 : decode cX2_errorAt 0 = .ok (.iconst 0, 1) := by decide +kernel
theorem dX2_errorAt_1 : decode cX2_errorAt 1 = .ok (.istore_n 1, 1) := by decide +kernel
theorem dX2_errorAt_2 : decode cX2_errorAt 2 = .ok (.iconst 0, 1) := by decide +kernel
theorem dX2_errorAt_3 : decode cX2_errorAt 3 = .ok (.istore_n 2, 1) := by decide +kernel
theorem dX2_errorAt_4 : decode cX2_errorAt 4 = .ok (.iload_n 2, 1) := by decide +kernel
theorem dX2_errorAt_5 : decode cX2_errorAt 5 = .ok (.aload_n 0, 1) := by decide +kernel
theorem dX2_errorAt_6 : decode cX2_errorAt 6 = .ok (.getfield 15, 3) := by decide +kernel
theorem dX2_errorAt_9 : decode cX2_errorAt 9 = .ok (.if_icmp .ge 27, 3) := by decide +kernel
theorem dX2_errorAt_12 : decode cX2_errorAt 12 = .ok (.iload_n 1, 1) := by decide +kernel
theorem dX2_errorAt_13 : decode cX2_errorAt 13 = .ok (.aload_n 0, 1) := by decide +kernel
theorem dX2_errorAt_14 : decode cX2_errorAt 14 = .ok (.iload_n 2, 1) := by decide +kernel
theorem dX2_errorAt_15 : decode cX2_errorAt 15 = .ok (.invokevirtual 19, 3) := by decide +kernel
theorem dX2_errorAt_18 : decode cX2_errorAt 18 = .ok (.invokestatic 30, 3) := by decide +kernel
theorem dX2_errorAt_21 : decode cX2_errorAt 21 = .ok (.istore_n 1, 1) := by decide +kernel
theorem dX2_errorAt_22 : decode cX2_errorAt 22 = .ok (.iload_n 1, 1) := by decide +kernel
theorem dX2_errorAt_23 : decode cX2_errorAt 23 = .ok (.bipush 12, 2) := by decide +kernel
theorem dX2_errorAt_25 : decode cX2_errorAt 25 = .ok (.if_icmp .ne 5, 3) := by decide +kernel
theorem dX2_errorAt_28 : decode cX2_errorAt 28 = .ok (.iload_n 2, 1) := by decide +kernel
theorem dX2_errorAt_29 : decode cX2_errorAt 29 = .ok (.ireturn, 1) := by decide +kernel
theorem dX2_errorAt_30 : decode cX2_errorAt 30 = .ok (.iinc 2 1, 3) := by decide +kernel
theorem dX2_errorAt_33 : decode cX2_errorAt 33 = .ok (.goto (-29), 3) := by decide +kernel
theorem dX2_errorAt_36 : decode cX2_errorAt 36 = .ok (.aload_n 0, 1) := by decide +kernel
theorem dX2_errorAt_37 : decode cX2_errorAt 37 = .ok (.getfield 15, 3) := by decide +kernel
theorem dX2_errorAt_40 : decode cX2_errorAt 40 = .ok (.ireturn, 1) := by decide +kernel
theorem dX2_isComplete_0 : decode cX2_isComplete 0 = .ok (.iconst 0, 1) := by decide +kernel
theorem dX2_isComplete_1 : decode cX2_isComplete 1 = .ok (.istore_n 1, 1) := by decide +kernel
theorem dX2_isComplete_2 : decode cX2_isComplete 2 = .ok (.iconst 0, 1) := by decide +kernel
theorem dX2_isComplete_3 : decode cX2_isComplete 3 = .ok (.istore_n 2, 1) := by decide +kernel
theorem dX2_isComplete_4 : decode cX2_isComplete 4 = .ok (.iload_n 2, 1) := by decide +kernel
theorem dX2_isComplete_5 : decode cX2_isComplete 5 = .ok (.aload_n 0, 1) := by decide +kernel
theorem dX2_isComplete_6 : decode cX2_isComplete 6 = .ok (.getfield 15, 3) := by decide +kernel
theorem dX2_isComplete_9 : decode cX2_isComplete 9 = .ok (.if_icmp .ge 19, 3) := by decide +kernel
theorem dX2_isComplete_12 : decode cX2_isComplete 12 = .ok (.iload_n 1, 1) := by decide +kernel
theorem dX2_isComplete_13 : decode cX2_isComplete 13 = .ok (.aload_n 0, 1) := by decide +kernel
theorem dX2_isComplete_14 : decode cX2_isComplete 14 = .ok (.iload_n 2, 1) := by decide +kernel
theorem dX2_isComplete_15 : decode cX2_isComplete 15 = .ok (.invokevirtual 19, 3) := by decide +kernel
theorem dX2_isComplete_18 : decode cX2_isComplete 18 = .ok (.invokestatic 30, 3) := by decide +kernel
theorem dX2_isComplete_21 : decode cX2_isComplete 21 = .ok (.istore_n 1, 1) := by decide +kernel
theorem dX2_isComplete_22 : decode cX2_isComplete 22 = .ok (.iinc 2 1, 3) := by decide +kernel
theorem dX2_isComplete_25 : decode cX2_isComplete 25 = .ok (.goto (-21), 3) := by decide +kernel
theorem dX2_isComplete_28 : decode cX2_isComplete 28 = .ok (.iload_n 1, 1) := by decide +kernel
theorem dX2_isComplete_29 : decode cX2_isComplete 29 = .ok (.bipush 11, 2) := by decide +kernel
theorem dX2_isComplete_31 : decode cX2_isComplete 31 = .ok (.if_icmp .eq 15, 3) := by decide +kernel
theorem dX2_isComplete_34 : decode cX2_isComplete 34 = .ok (.iload_n 1, 1) := by decide +kernel
theorem dX2_isComplete_35 : decode cX2_isComplete 35 = .ok (.bipush 9, 2) := by decide +kernel
theorem dX2_isComplete_37 : decode cX2_isComplete 37 = .ok (.if_icmp .eq 9, 3) := by decide +kernel
theorem dX2_isComplete_40 : decode cX2_isComplete 40 = .ok (.iload_n 1, 1) := by decide +kernel
theorem dX2_isComplete_41 : decode cX2_isComplete 41 = .ok (.bipush 10, 2) := by decide +kernel
theorem dX2_isComplete_43 : decode cX2_isComplete 43 = .ok (.if_icmp .ne 7, 3) := by decide +kernel
theorem dX2_isComplete_46 : decode cX2_isComplete 46 = .ok (.iconst 1, 1) := by decide +kernel
theorem dX2_isComplete_47 : decode cX2_isComplete 47 = .ok (.goto 4, 3) := by decide +kernel
theorem dX2_isComplete_50 : decode cX2_isComplete 50 = .ok (.iconst 0, 1) := by decide +kernel
theorem dX2_isComplete_51 : decode cX2_isComplete 51 = .ok (.ireturn, 1) := by decide +kernel
theorem dX2_isAmong_0 : decode cX2_isAmong 0 = .ok (.iload_n 0, 1) := by decide +kernel
theorem dX2_isAmong_1 : decode cX2_isAmong 1 = .ok (.iload_n 1, 1) := by decide +kernel
theorem dX2_isAmong_2 : decode cX2_isAmong 2 = .ok (.if_icmp .lt 12, 3) := by decide +kernel
theorem dX2_isAmong_5 : decode cX2_isAmong 5 = .ok (.iload_n 0, 1) := by decide +kernel
theorem dX2_isAmong_6 : decode cX2_isAmong 6 = .ok (.iload_n 2, 1) := by decide +kernel
theorem dX2_isAmong_7 : decode cX2_isAmong 7 = .ok (.if_icmp .gt 7, 3) := by decide +kernel
theorem dX2_isAmong_10 : decode cX2_isAmong 10 = .ok (.iconst 1, 1) := by decide +kernel
theorem dX2_isAmong_11 : decode cX2_isAmong 11 = .ok (.goto 4, 3) := by decide +kernel
theorem dX2_isAmong_14 : decode cX2_isAmong 14 = .ok (.iconst 0, 1) := by decide +kernel
theorem dX2_isAmong_15 : decode cX2_isAmong 15 = .ok (.ireturn, 1) := by decide +kernel
theorem dX2_behind_0 : decode cX2_behind 0 = .ok (.iload_n 0, 1) := by decide +kernel
theorem dX2_behind_1 : decode cX2_behind 1 = .ok (.tableswitch 240 0 11 #[63, 68, 86, 99, 117, 130, 149, 169, 188, 193, 214, 235], 63) := by decide +kernel
theorem dX2_behind_64 : decode cX2_behind 64 = .ok (.iload_n 1, 1) := by decide +kernel
theorem dX2_behind_65 : decode cX2_behind 65 = .ok (.invokestatic 34, 3) := by decide +kernel
theorem dX2_behind_68 : decode cX2_behind 68 = .ok (.ireturn, 1) := by decide +kernel
theorem dX2_behind_69 : decode cX2_behind 69 = .ok (.iload_n 1, 1) := by decide +kernel
theorem dX2_behind_70 : decode cX2_behind 70 = .ok (.bipush 48, 2) := by decide +kernel
theorem dX2_behind_72 : decode cX2_behind 72 = .ok (.bipush 52, 2) := by decide +kernel
theorem dX2_behind_74 : decode cX2_behind 74 = .ok (.invokestatic 23, 3) := by decide +kernel
theorem dX2_behind_77 : decode cX2_behind 77 = .ok (.ifCond .eq 7, 3) := by decide +kernel
theorem dX2_behind_80 : decode cX2_behind 80 = .ok (.iconst 2, 1) := by decide +kernel
theorem dX2_behind_81 : decode cX2_behind 81 = .ok (.goto 5, 3) := by decide +kernel
theorem dX2_behind_84 : decode cX2_behind 84 = .ok (.bipush 12, 2) := by decide +kernel
theorem dX2_behind_86 : decode cX2_behind 86 = .ok (.ireturn, 1) := by decide +kernel
theorem dX2_behind_87 : decode cX2_behind 87 = .ok (.iload_n 1, 1) := by decide +kernel
theorem dX2_behind_88 : decode cX2_behind 88 = .ok (.bipush 46, 2) := by decide +kernel
theorem dX2_behind_90 : decode cX2_behind 90 = .ok (.if_icmp .ne 7, 3) := by decide +kernel
theorem dX2_behind_93 : decode cX2_behind 93 = .ok (.iconst 3, 1) := by decide +kernel
theorem dX2_behind_94 : decode cX2_behind 94 = .ok (.goto 5, 3) := by decide +kernel
theorem dX2_behind_97 : decode cX2_behind 97 = .ok (.bipush 12, 2) := by decide +kernel
theorem dX2_behind_99 : decode cX2_behind 99 = .ok (.ireturn, 1) := by decide +kernel
theorem dX2_behind_100 : decode cX2_behind 100 = .ok (.iload_n 1, 1) := by decide +kernel
theorem dX2_behind_101 : decode cX2_behind 101 = .ok (.bipush 48, 2) := by decide +kernel
theorem dX2_behind_103 : decode cX2_behind 103 = .ok (.bipush 51, 2) := by decide +kernel
theorem dX2_behind_105 : decode cX2_behind 105 = .ok (.invokestatic 23, 3) := by decide +kernel
theorem dX2_behind_108 : decode cX2_behind 108 = .ok (.ifCond .eq 7, 3) := by decide +kernel
theorem dX2_behind_111 : decode cX2_behind 111 = .ok (.iconst 4, 1) := by decide +kernel
theorem dX2_behind_112 : decode cX2_behind 112 = .ok (.goto 5, 3) := by decide +kernel
theorem dX2_behind_115 : decode cX2_behind 115 = .ok (.bipush 12, 2) := by decide +kernel
theorem dX2_behind_117 : decode cX2_behind 117 = .ok (.ireturn, 1) := by decide +kernel
theorem dX2_behind_118 : decode cX2_behind 118 = .ok (.iload_n 1, 1) := by decide +kernel
theorem dX2_behind_119 : decode cX2_behind 119 = .ok (.bipush 42, 2) := by decide +kernel
theorem dX2_behind_121 : decode cX2_behind 121 = .ok (.if_icmp .ne 7, 3) := by decide +kernel
theorem dX2_behind_124 : decode cX2_behind 124 = .ok (.iconst 5, 1) := by decide +kernel
theorem dX2_behind_125 : decode cX2_behind 125 = .ok (.goto 5, 3) := by decide +kernel
theorem dX2_behind_128 : decode cX2_behind 128 = .ok (.bipush 12, 2) := by decide +kernel
theorem dX2_behind_130 : decode cX2_behind 130 = .ok (.ireturn, 1) := by decide +kernel
theorem dX2_behind_131 : decode cX2_behind 131 = .ok (.iload_n 1, 1) := by decide +kernel
theorem dX2_behind_132 : decode cX2_behind 132 = .ok (.bipush 50, 2) := by decide +kernel
theorem dX2_behind_134 : decode cX2_behind 134 = .ok (.bipush 51, 2) := by decide +kernel
theorem dX2_behind_136 : decode cX2_behind 136 = .ok (.invokestatic 23, 3) := by decide +kernel
theorem dX2_behind_139 : decode cX2_behind 139 = .ok (.ifCond .eq 8, 3) := by decide +kernel
theorem dX2_behind_142 : decode cX2_behind 142 = .ok (.bipush 11, 2) := by decide +kernel
theorem dX2_behind_144 : decode cX2_behind 144 = .ok (.goto 5, 3) := by decide +kernel
theorem dX2_behind_147 : decode cX2_behind 147 = .ok (.bipush 12, 2) := by decide +kernel
theorem dX2_behind_149 : decode cX2_behind 149 = .ok (.ireturn, 1) := by decide +kernel
theorem dX2_behind_150 : decode cX2_behind 150 = .ok (.iload_n 1, 1) := by decide +kernel
theorem dX2_behind_151 : decode cX2_behind 151 = .ok (.bipush 43, 2) := by decide +kernel
theorem dX2_behind_153 : decode cX2_behind 153 = .ok (.if_icmp .eq 9, 3) := by decide +kernel
theorem dX2_behind_156 : decode cX2_behind 156 = .ok (.iload_n 1, 1) := by decide +kernel
theorem dX2_behind_157 : decode cX2_behind 157 = .ok (.bipush 45, 2) := by decide +kernel
theorem dX2_behind_159 : decode cX2_behind 159 = .ok (.if_icmp .ne 8, 3) := by decide +kernel
theorem dX2_behind_162 : decode cX2_behind 162 = .ok (.bipush 7, 2) := by decide +kernel
theorem dX2_behind_164 : decode cX2_behind 164 = .ok (.goto 5, 3) := by decide +kernel
theorem dX2_behind_167 : decode cX2_behind 167 = .ok (.bipush 12, 2) := by decide +kernel
theorem dX2_behind_169 : decode cX2_behind 169 = .ok (.ireturn, 1) := by decide +kernel
theorem dX2_behind_170 : decode cX2_behind 170 = .ok (.iload_n 1, 1) := by decide +kernel
theorem dX2_behind_171 : decode cX2_behind 171 = .ok (.bipush 49, 2) := by decide +kernel
theorem dX2_behind_173 : decode cX2_behind 173 = .ok (.bipush 51, 2) := by decide +kernel
theorem dX2_behind_175 : decode cX2_behind 175 = .ok (.invokestatic 23, 3) := by decide +kernel
theorem dX2_behind_178 : decode cX2_behind 178 = .ok (.ifCond .eq 8, 3) := by decide +kernel
theorem dX2_behind_181 : decode cX2_behind 181 = .ok (.bipush 11, 2) := by decide +kernel
theorem dX2_behind_183 : decode cX2_behind 183 = .ok (.goto 5, 3) := by decide +kernel
theorem dX2_behind_186 : decode cX2_behind 186 = .ok (.bipush 12, 2) := by decide +kernel
theorem dX2_behind_188 : decode cX2_behind 188 = .ok (.ireturn, 1) := by decide +kernel
theorem dX2_behind_189 : decode cX2_behind 189 = .ok (.iload_n 1, 1) := by decide +kernel
theorem dX2_behind_190 : decode cX2_behind 190 = .ok (.invokestatic 37, 3) := by decide +kernel
theorem dX2_behind_193 : decode cX2_behind 193 = .ok (.ireturn, 1) := by decide +kernel
theorem dX2_behind_194 : decode cX2_behind 194 = .ok (.iload_n 1, 1) := by decide +kernel
theorem dX2_behind_195 : decode cX2_behind 195 = .ok (.bipush 48, 2) := by decide +kernel
theorem dX2_behind_197 : decode cX2_behind 197 = .ok (.bipush 57, 2) := by decide +kernel
theorem dX2_behind_199 : decode cX2_behind 199 = .ok (.invokestatic 23, 3) := by decide +kernel
theorem dX2_behind_202 : decode cX2_behind 202 = .ok (.ifCond .eq 8, 3) := by decide +kernel
theorem dX2_behind_205 : decode cX2_behind 205 = .ok (.bipush 11, 2) := by decide +kernel
theorem dX2_behind_207 : decode cX2_behind 207 = .ok (.goto 7, 3) := by decide +kernel
theorem dX2_behind_210 : decode cX2_behind 210 = .ok (.iload_n 1, 1) := by decide +kernel
theorem dX2_behind_211 : decode cX2_behind 211 = .ok (.invokestatic 40, 3) := by decide +kernel
theorem dX2_behind_214 : decode cX2_behind 214 = .ok (.ireturn, 1) := by decide +kernel
theorem dX2_behind_215 : decode cX2_behind 215 = .ok (.iload_n 1, 1) := by decide +kernel
theorem dX2_behind_216 : decode cX2_behind 216 = .ok (.bipush 48, 2) := by decide +kernel
theorem dX2_behind_218 : decode cX2_behind 218 = .ok (.bipush 52, 2) := by decide +kernel
theorem dX2_behind_220 : decode cX2_behind 220 = .ok (.invokestatic 23, 3) := by decide +kernel
theorem dX2_behind_223 : decode cX2_behind 223 = .ok (.ifCond .eq 8, 3) := by decide +kernel
theorem dX2_behind_226 : decode cX2_behind 226 = .ok (.bipush 11, 2) := by decide +kernel
theorem dX2_behind_228 : decode cX2_behind 228 = .ok (.goto 7, 3) := by decide +kernel
theorem dX2_behind_231 : decode cX2_behind 231 = .ok (.iload_n 1, 1) := by decide +kernel
theorem dX2_behind_232 : decode cX2_behind 232 = .ok (.invokestatic 40, 3) := by decide +kernel
theorem dX2_behind_235 : decode cX2_behind 235 = .ok (.ireturn, 1) := by decide +kernel
theorem dX2_behind_236 : decode cX2_behind 236 = .ok (.iload_n 1, 1) := by decide +kernel
theorem dX2_behind_237 : decode cX2_behind 237 = .ok (.invokestatic 40, 3) := by decide +kernel
theorem dX2_behind_240 : decode cX2_behind 240 = .ok (.ireturn, 1) := by decide +kernel
theorem dX2_behind_241 : decode cX2_behind 241 = .ok (.bipush 12, 2) := by decide +kernel
theorem dX2_behind_243 : decode cX2_behind 243 = .ok (.ireturn, 1) := by decide +kernel
theorem dX2_behindBegin_0 : decode cX2_behindBegin 0 = .ok (.iload_n 0, 1) := by decide +kernel
theorem dX2_behindBegin_1 : decode cX2_behindBegin 1 = .ok (.bipush 104, 2) := by decide +kernel
theorem dX2_behindBegin_3 : decode cX2_behindBegin 3 = .ok (.if_icmp .eq 9, 3) := by decide +kernel
theorem dX2_behindBegin_6 : decode cX2_behindBegin 6 = .ok (.iload_n 0, 1) := by decide +kernel
theorem dX2_behindBegin_7 : decode cX2_behindBegin 7 = .ok (.bipush 118, 2) := by decide +kernel
theorem dX2_behindBegin_9 : decode cX2_behindBegin 9 = .ok (.if_icmp .ne 5, 3) := by decide +kernel
theorem dX2_behindBegin_12 : decode cX2_behindBegin 12 = .ok (.iconst 1, 1) := by decide +kernel
theorem dX2_behindBegin_13 : decode cX2_behindBegin 13 = .ok (.ireturn, 1) := by decide +kernel
theorem dX2_behindBegin_14 : decode cX2_behindBegin 14 = .ok (.iload_n 0, 1) := by decide +kernel
theorem dX2_behindBegin_15 : decode cX2_behindBegin 15 = .ok (.bipush 119, 2) := by decide +kernel
theorem dX2_behindBegin_17 : decode cX2_behindBegin 17 = .ok (.if_icmp .ne 6, 3) := by decide +kernel
theorem dX2_behindBegin_20 : decode cX2_behindBegin 20 = .ok (.bipush 8, 2) := by decide +kernel
theorem dX2_behindBegin_22 : decode cX2_behindBegin 22 = .ok (.ireturn, 1) := by decide +kernel
theorem dX2_behindBegin_23 : decode cX2_behindBegin 23 = .ok (.iload_n 0, 1) := by decide +kernel
theorem dX2_behindBegin_24 : decode cX2_behindBegin 24 = .ok (.bipush 98, 2) := by decide +kernel
theorem dX2_behindBegin_26 : decode cX2_behindBegin 26 = .ok (.if_icmp .eq 9, 3) := by decide +kernel
theorem dX2_behindBegin_29 : decode cX2_behindBegin 29 = .ok (.iload_n 0, 1) := by decide +kernel
theorem dX2_behindBegin_30 : decode cX2_behindBegin 30 = .ok (.bipush 100, 2) := by decide +kernel
theorem dX2_behindBegin_32 : decode cX2_behindBegin 32 = .ok (.if_icmp .ne 6, 3) := by decide +kernel
theorem dX2_behindBegin_35 : decode cX2_behindBegin 35 = .ok (.bipush 11, 2) := by decide +kernel
theorem dX2_behindBegin_37 : decode cX2_behindBegin 37 = .ok (.ireturn, 1) := by decide +kernel
theorem dX2_behindBegin_38 : decode cX2_behindBegin 38 = .ok (.iload_n 0, 1) := by decide +kernel
theorem dX2_behindBegin_39 : decode cX2_behindBegin 39 = .ok (.bipush 48, 2) := by decide +kernel
theorem dX2_behindBegin_41 : decode cX2_behindBegin 41 = .ok (.bipush 53, 2) := by decide +kernel
theorem dX2_behindBegin_43 : decode cX2_behindBegin 43 = .ok (.invokestatic 23, 3) := by decide +kernel
theorem dX2_behindBegin_46 : decode cX2_behindBegin 46 = .ok (.ifCond .eq 8, 3) := by decide +kernel
theorem dX2_behindBegin_49 : decode cX2_behindBegin 49 = .ok (.bipush 6, 2) := by decide +kernel
theorem dX2_behindBegin_51 : decode cX2_behindBegin 51 = .ok (.goto 5, 3) := by decide +kernel
theorem dX2_behindBegin_54 : decode cX2_behindBegin 54 = .ok (.bipush 12, 2) := by decide +kernel
theorem dX2_behindBegin_56 : decode cX2_behindBegin 56 = .ok (.ireturn, 1) := by decide +kernel
theorem dX2_behindWall_0 : decode cX2_behindWall 0 = .ok (.iload_n 0, 1) := by decide +kernel
theorem dX2_behindWall_1 : decode cX2_behindWall 1 = .ok (.bipush 49, 2) := by decide +kernel
theorem dX2_behindWall_3 : decode cX2_behindWall 3 = .ok (.if_icmp .ne 6, 3) := by decide +kernel
theorem dX2_behindWall_6 : decode cX2_behindWall 6 = .ok (.bipush 9, 2) := by decide +kernel
theorem dX2_behindWall_8 : decode cX2_behindWall 8 = .ok (.ireturn, 1) := by decide +kernel
theorem dX2_behindWall_9 : decode cX2_behindWall 9 = .ok (.iload_n 0, 1) := by decide +kernel
theorem dX2_behindWall_10 : decode cX2_behindWall 10 = .ok (.bipush 50, 2) := by decide +kernel
theorem dX2_behindWall_12 : decode cX2_behindWall 12 = .ok (.if_icmp .ne 6, 3) := by decide +kernel
theorem dX2_behindWall_15 : decode cX2_behindWall 15 = .ok (.bipush 10, 2) := by decide +kernel
theorem dX2_behindWall_17 : decode cX2_behindWall 17 = .ok (.ireturn, 1) := by decide +kernel
theorem dX2_behindWall_18 : decode cX2_behindWall 18 = .ok (.iload_n 0, 1) := by decide +kernel
theorem dX2_behindWall_19 : decode cX2_behindWall 19 = .ok (.bipush 48, 2) := by decide +kernel
theorem dX2_behindWall_21 : decode cX2_behindWall 21 = .ok (.bipush 57, 2) := by decide +kernel
theorem dX2_behindWall_23 : decode cX2_behindWall 23 = .ok (.invokestatic 23, 3) := by decide +kernel
theorem dX2_behindWall_26 : decode cX2_behindWall 26 = .ok (.ifCond .eq 8, 3) := by decide +kernel
theorem dX2_behindWall_29 : decode cX2_behindWall 29 = .ok (.bipush 11, 2) := by decide +kernel
theorem dX2_behindWall_31 : decode cX2_behindWall 31 = .ok (.goto 5, 3) := by decide +kernel
theorem dX2_behindWall_34 : decode cX2_behindWall 34 = .ok (.bipush 12, 2) := by decide +kernel
theorem dX2_behindWall_36 : decode cX2_behindWall 36 = .ok (.ireturn, 1) := by decide +kernel
theorem dX2_behindEnd_0 : decode cX2_behindEnd 0 = .ok (.iload_n 0, 1) := by decide +kernel
theorem dX2_behindEnd_1 : decode cX2_behindEnd 1 = .ok (.bipush 59, 2) := by decide +kernel
theorem dX2_behindEnd_3 : decode cX2_behindEnd 3 = .ok (.if_icmp .ne 7, 3) := by decide +kernel
theorem dX2_behindEnd_6 : decode cX2_behindEnd 6 = .ok (.iconst 0, 1) := by decide +kernel
theorem dX2_behindEnd_7 : decode cX2_behindEnd 7 = .ok (.goto 5, 3) := by decide +kernel
theorem dX2_behindEnd_10 : decode cX2_behindEnd 10 = .ok (.bipush 12, 2) := by decide +kernel
theorem dX2_behindEnd_12 : decode cX2_behindEnd 12 = .ok (.ireturn, 1) := by decide +kernel
theorem dX3_init_0 : decode cX3_init 0 = .ok (.aload_n 0, 1) := by decide +kernel
theorem dX3_init_1 : decode cX3_init 1 = .ok (.invokespecial 1, 3) := by decide +kernel
theorem dX3_init_4 : decode cX3_init 4 = .ok (.aload_n 0, 1) := by decide +kernel
theorem dX3_init_5 : decode cX3_init 5 = .ok (.new 7, 3) := by decide +kernel
theorem dX3_init_8 : decode cX3_init 8 = .ok (.dup, 1) := by decide +kernel
theorem dX3_init_9 : decode cX3_init 9 = .ok (.invokespecial 9, 3) := by decide +kernel
theorem dX3_init_12 : decode cX3_init 12 = .ok (.putfield 10, 3) := by decide +kernel
theorem dX3_init_15 : decode cX3_init 15 = .ok (.aload_n 0, 1) := by decide +kernel
theorem dX3_init_16 : decode cX3_init 16 = .ok (.new 7, 3) := by decide +kernel
theorem dX3_init_19 : decode cX3_init 19 = .ok (.dup, 1) := by decide +kernel
theorem dX3_init_20 : decode cX3_init 20 = .ok (.invokespecial 9, 3) := by decide +kernel
theorem dX3_init_23 : decode cX3_init 23 = .ok (.putfield 16, 3) := by decide +kernel
theorem dX3_init_26 : decode cX3_init 26 = .ok (.aload_n 0, 1) := by decide +kernel
theorem dX3_init_27 : decode cX3_init 27 = .ok (.iconst 5, 1) := by decide +kernel
theorem dX3_init_28 : decode cX3_init 28 = .ok (.anewarray 7, 3) := by decide +kernel
theorem dX3_init_31 : decode cX3_init 31 = .ok (.putfield 19, 3) := by decide +kernel
theorem dX3_init_34 : decode cX3_init 34 = .ok (.iconst 0, 1) := by decide +kernel
theorem dX3_init_35 : decode cX3_init 35 = .ok (.istore_n 1, 1) := by decide +kernel
theorem dX3_init_36 : decode cX3_init 36 = .ok (.iload_n 1, 1) := by decide +kernel
theorem dX3_init_37 : decode cX3_init 37 = .ok (.iconst 5, 1) := by decide +kernel
theorem dX3_init_38 : decode cX3_init 38 = .ok (.if_icmp .ge 22, 3) := by decide +kernel
theorem dX3_init_41 : decode cX3_init 41 = .ok (.aload_n 0, 1) := by decide +kernel
theorem dX3_init_42 : decode cX3_init 42 = .ok (.getfield 19, 3) := by decide +kernel
theorem dX3_init_45 : decode cX3_init 45 = .ok (.iload_n 1, 1) := by decide +kernel
theorem dX3_init_46 : decode cX3_init 46 = .ok (.new 7, 3) := by decide +kernel
theorem dX3_init_49 : decode cX3_init 49 = .ok (.dup, 1) := by decide +kernel
theorem dX3_init_50 : decode cX3_init 50 = .ok (.invokespecial 9, 3) := by decide +kernel
theorem dX3_init_53 : decode cX3_init 53 = .ok (.aastore, 1) := by decide +kernel
theorem dX3_init_54 : decode cX3_init 54 = .ok (.iinc 1 1, 3) := by decide +kernel
theorem dX3_init_57 : decode cX3_init 57 = .ok (.goto (-21), 3) := by decide +kernel
theorem dX3_init_60 : decode cX3_init 60 = .ok (.aload_n 0, 1) := by decide +kernel
theorem dX3_init_61 : decode cX3_init 61 = .ok (.new 23, 3) := by decide +kernel
theorem dX3_init_64 : decode cX3_init 64 = .ok (.dup, 1) := by decide +kernel
theorem dX3_init_65 : decode cX3_init 65 = .ok (.invokespecial 25, 3) := by decide +kernel
theorem dX3_init_68 : decode cX3_init 68 = .ok (.putfield 26, 3) := by decide +kernel
theorem dX3_init_71 : decode cX3_init 71 = .ok (.aload_n 0, 1) := by decide +kernel
theorem dX3_init_72 : decode cX3_init 72 = .ok (.new 30, 3) := by decide +kernel
theorem dX3_init_75 : decode cX3_init 75 = .ok (.dup, 1) := by decide +kernel
theorem dX3_init_76 : decode cX3_init 76 = .ok (.invokespecial 32, 3) := by decide +kernel
theorem dX3_init_79 : decode cX3_init 79 = .ok (.putfield 33, 3) := by decide +kernel
theorem dX3_init_82 : decode cX3_init 82 = .ok (.aload_n 0, 1) := by decide +kernel
theorem dX3_init_83 : decode cX3_init 83 = .ok (.iconst 0, 1) := by decide +kernel
theorem dX3_init_84 : decode cX3_init 84 = .ok (.putfield 37, 3) := by decide +kernel
theorem dX3_init_87 : decode cX3_init 87 = .ok (.aload_n 0, 1) := by decide +kernel
theorem dX3_init_88 : decode cX3_init 88 = .ok (.iconst 0, 1) := by decide +kernel
theorem dX3_init_89 : decode cX3_init 89 = .ok (.putfield 41, 3) := by decide +kernel
theorem dX3_init_92 : decode cX3_init 92 = .ok (.return_, 1) := by decide +kernel
theorem dX3_addCar_0 : decode cX3_addCar 0 = .ok (.aload_n 0, 1) := by decide +kernel
theorem dX3_addCar_1 : decode cX3_addCar 1 = .ok (.getfield 10, 3) := by decide +kernel
theorem dX3_addCar_4 : decode cX3_addCar 4 = .ok (.iload_n 1, 1) := by decide +kernel
theorem dX3_addCar_5 : decode cX3_addCar 5 = .ok (.iload_n 2, 1) := by decide +kernel
theorem dX3_addCar_6 : decode cX3_addCar 6 = .ok (.iload_n 3, 1) := by decide +kernel
theorem dX3_addCar_7 : decode cX3_addCar 7 = .ok (.invokevirtual 45, 3) := by decide +kernel
theorem dX3_addCar_10 : decode cX3_addCar 10 = .ok (.invokestatic 49, 3) := by decide +kernel
theorem dX3_addCar_13 : decode cX3_addCar 13 = .ok (.aload_n 0, 1) := by decide +kernel
theorem dX3_addCar_14 : decode cX3_addCar 14 = .ok (.invokevirtual 53, 3) := by decide +kernel
theorem dX3_addCar_17 : decode cX3_addCar 17 = .ok (.aload_n 0, 1) := by decide +kernel
theorem dX3_addCar_18 : decode cX3_addCar 18 = .ok (.getfield 10, 3) := by decide +kernel
theorem dX3_addCar_21 : decode cX3_addCar 21 = .ok (.iload_n 1, 1) := by decide +kernel
theorem dX3_addCar_22 : decode cX3_addCar 22 = .ok (.iload_n 2, 1) := by decide +kernel
theorem dX3_addCar_23 : decode cX3_addCar 23 = .ok (.iload_n 3, 1) := by decide +kernel
theorem dX3_addCar_24 : decode cX3_addCar 24 = .ok (.invokevirtual 56, 3) := by decide +kernel
theorem dX3_addCar_27 : decode cX3_addCar 27 = .ok (.ireturn, 1) := by decide +kernel
theorem dX3_dropLast_0 : decode cX3_dropLast 0 = .ok (.aload_n 0, 1) := by decide +kernel
theorem dX3_dropLast_1 : decode cX3_dropLast 1 = .ok (.getfield 10, 3) := by decide +kernel
theorem dX3_dropLast_4 : decode cX3_dropLast 4 = .ok (.getfield 59, 3) := by decide +kernel
theorem dX3_dropLast_7 : decode cX3_dropLast 7 = .ok (.ifCond .ne 13, 3) := by decide +kernel
theorem dX3_dropLast_10 : decode cX3_dropLast 10 = .ok (.new 62, 3) := by decide +kernel
theorem dX3_dropLast_13 : decode cX3_dropLast 13 = .ok (.dup, 1) := by decide +kernel
theorem dX3_dropLast_14 : decode cX3_dropLast 14 = .ok (.ldc 64, 2) := by decide +kernel
theorem dX3_dropLast_16 : decode cX3_dropLast 16 = .ok (.invokespecial 66, 3) := by decide +kernel
theorem dX3_dropLast_19 : decode cX3_dropLast 19 = .ok (.athrow, 1) := by decide +kernel
theorem dX3_dropLast_20 : decode cX3_dropLast 20 = .ok (.aload_n 0, 1) := by decide +kernel
theorem dX3_dropLast_21 : decode cX3_dropLast 21 = .ok (.invokevirtual 53, 3) := by decide +kernel
theorem dX3_dropLast_24 : decode cX3_dropLast 24 = .ok (.aload_n 0, 1) := by decide +kernel
theorem dX3_dropLast_25 : decode cX3_dropLast 25 = .ok (.getfield 10, 3) := by decide +kernel
theorem dX3_dropLast_28 : decode cX3_dropLast 28 = .ok (.invokevirtual 69, 3) := by decide +kernel
theorem dX3_dropLast_31 : decode cX3_dropLast 31 = .ok (.ireturn, 1) := by decide +kernel
theorem dX3_toggleWall_0 : decode cX3_toggleWall 0 = .ok (.aload_n 0, 1) := by decide +kernel
theorem dX3_toggleWall_1 : decode cX3_toggleWall 1 = .ok (.getfield 10, 3) := by decide +kernel
theorem dX3_toggleWall_4 : decode cX3_toggleWall 4 = .ok (.iload_n 1, 1) := by decide +kernel
theorem dX3_toggleWall_5 : decode cX3_toggleWall 5 = .ok (.invokevirtual 73, 3) := by decide +kernel
theorem dX3_toggleWall_8 : decode cX3_toggleWall 8 = .ok (.invokestatic 49, 3) := by decide +kernel
theorem dX3_toggleWall_11 : decode cX3_toggleWall 11 = .ok (.aload_n 0, 1) := by decide +kernel
theorem dX3_toggleWall_12 : decode cX3_toggleWall 12 = .ok (.invokevirtual 53, 3) := by decide +kernel
theorem dX3_toggleWall_15 : decode cX3_toggleWall 15 = .ok (.aload_n 0, 1) := by decide +kernel
theorem dX3_toggleWall_16 : decode cX3_toggleWall 16 = .ok (.getfield 10, 3) := by decide +kernel
theorem dX3_toggleWall_19 : decode cX3_toggleWall 19 = .ok (.iload_n 1, 1) := by decide +kernel
theorem dX3_toggleWall_20 : decode cX3_toggleWall 20 = .ok (.invokevirtual 77, 3) := by decide +kernel
theorem dX3_toggleWall_23 : decode cX3_toggleWall 23 = .ok (.ireturn, 1) := by decide +kernel
theorem dX3_slide_0 : decode cX3_slide 0 = .ok (.aload_n 0, 1) := by decide +kernel
theorem dX3_slide_1 : decode cX3_slide 1 = .ok (.getfield 10, 3) := by decide +kernel
theorem dX3_slide_4 : decode cX3_slide 4 = .ok (.iload_n 1, 1) := by decide +kernel
theorem dX3_slide_5 : decode cX3_slide 5 = .ok (.iload_n 2, 1) := by decide +kernel
theorem dX3_slide_6 : decode cX3_slide 6 = .ok (.invokevirtual 81, 3) := by decide +kernel
theorem dX3_slide_9 : decode cX3_slide 9 = .ok (.invokestatic 49, 3) := by decide +kernel
theorem dX3_slide_12 : decode cX3_slide 12 = .ok (.aload_n 0, 1) := by decide +kernel
theorem dX3_slide_13 : decode cX3_slide 13 = .ok (.getfield 10, 3) := by decide +kernel
theorem dX3_slide_16 : decode cX3_slide 16 = .ok (.getfield 85, 3) := by decide +kernel
theorem dX3_slide_19 : decode cX3_slide 19 = .ok (.bipush 60, 2) := by decide +kernel
theorem dX3_slide_21 : decode cX3_slide 21 = .ok (.if_icmp .lt 13, 3) := by decide +kernel
theorem dX3_slide_24 : decode cX3_slide 24 = .ok (.new 62, 3) := by decide +kernel
theorem dX3_slide_27 : decode cX3_slide 27 = .ok (.dup, 1) := by decide +kernel
theorem dX3_slide_28 : decode cX3_slide 28 = .ok (.ldc 88, 2) := by decide +kernel
theorem dX3_slide_30 : decode cX3_slide 30 = .ok (.invokespecial 66, 3) := by decide +kernel
theorem dX3_slide_33 : decode cX3_slide 33 = .ok (.athrow, 1) := by decide +kernel
theorem dX3_slide_34 : decode cX3_slide 34 = .ok (.aload_n 0, 1) := by decide +kernel
theorem dX3_slide_35 : decode cX3_slide 35 = .ok (.invokevirtual 53, 3) := by decide +kernel
theorem dX3_slide_38 : decode cX3_slide 38 = .ok (.aload_n 0, 1) := by decide +kernel
theorem dX3_slide_39 : decode cX3_slide 39 = .ok (.getfield 10, 3) := by decide +kernel
theorem dX3_slide_42 : decode cX3_slide 42 = .ok (.iload_n 1, 1) := by decide +kernel
theorem dX3_slide_43 : decode cX3_slide 43 = .ok (.iload_n 2, 1) := by decide +kernel
theorem dX3_slide_44 : decode cX3_slide 44 = .ok (.invokevirtual 90, 3) := by decide +kernel
theorem dX3_slide_47 : decode cX3_slide 47 = .ok (.ireturn, 1) := by decide +kernel
theorem dX3_takeBack_0 : decode cX3_takeBack 0 = .ok (.aload_n 0, 1) := by decide +kernel
theorem dX3_takeBack_1 : decode cX3_takeBack 1 = .ok (.getfield 10, 3) := by decide +kernel
theorem dX3_takeBack_4 : decode cX3_takeBack 4 = .ok (.getfield 85, 3) := by decide +kernel
theorem dX3_takeBack_7 : decode cX3_takeBack 7 = .ok (.ifCond .ne 13, 3) := by decide +kernel
theorem dX3_takeBack_10 : decode cX3_takeBack 10 = .ok (.new 62, 3) := by decide +kernel
theorem dX3_takeBack_13 : decode cX3_takeBack 13 = .ok (.dup, 1) := by decide +kernel
theorem dX3_takeBack_14 : decode cX3_takeBack 14 = .ok (.ldc 93, 2) := by decide +kernel
theorem dX3_takeBack_16 : decode cX3_takeBack 16 = .ok (.invokespecial 66, 3) := by decide +kernel
theorem dX3_takeBack_19 : decode cX3_takeBack 19 = .ok (.athrow, 1) := by decide +kernel
theorem dX3_takeBack_20 : decode cX3_takeBack 20 = .ok (.aload_n 0, 1) := by decide +kernel
theorem dX3_takeBack_21 : decode cX3_takeBack 21 = .ok (.invokevirtual 53, 3) := by decide +kernel
theorem dX3_takeBack_24 : decode cX3_takeBack 24 = .ok (.aload_n 0, 1) := by decide +kernel
theorem dX3_takeBack_25 : decode cX3_takeBack 25 = .ok (.getfield 10, 3) := by decide +kernel
theorem dX3_takeBack_28 : decode cX3_takeBack 28 = .ok (.invokevirtual 95, 3) := by decide +kernel
theorem dX3_takeBack_31 : decode cX3_takeBack 31 = .ok (.ireturn, 1) := by decide +kernel
theorem dX3_rewind_0 : decode cX3_rewind 0 = .ok (.aload_n 0, 1) := by decide +kernel
theorem dX3_rewind_1 : decode cX3_rewind 1 = .ok (.invokevirtual 53, 3) := by decide +kernel
theorem dX3_rewind_4 : decode cX3_rewind 4 = .ok (.iconst 0, 1) := by decide +kernel
theorem dX3_rewind_5 : decode cX3_rewind 5 = .ok (.istore_n 1, 1) := by decide +kernel
theorem dX3_rewind_6 : decode cX3_rewind 6 = .ok (.iload_n 1, 1) := by decide +kernel
theorem dX3_rewind_7 : decode cX3_rewind 7 = .ok (.bipush 60, 2) := by decide +kernel
theorem dX3_rewind_9 : decode cX3_rewind 9 = .ok (.if_icmp .ge 27, 3) := by decide +kernel
theorem dX3_rewind_12 : decode cX3_rewind 12 = .ok (.aload_n 0, 1) := by decide +kernel
theorem dX3_rewind_13 : decode cX3_rewind 13 = .ok (.getfield 10, 3) := by decide +kernel
theorem dX3_rewind_16 : decode cX3_rewind 16 = .ok (.getfield 85, 3) := by decide +kernel
theorem dX3_rewind_19 : decode cX3_rewind 19 = .ok (.ifCond .le 17, 3) := by decide +kernel
theorem dX3_rewind_22 : decode cX3_rewind 22 = .ok (.aload_n 0, 1) := by decide +kernel
theorem dX3_rewind_23 : decode cX3_rewind 23 = .ok (.getfield 10, 3) := by decide +kernel
theorem dX3_rewind_26 : decode cX3_rewind 26 = .ok (.invokevirtual 95, 3) := by decide +kernel
theorem dX3_rewind_29 : decode cX3_rewind 29 = .ok (.pop, 1) := by decide +kernel
theorem dX3_rewind_30 : decode cX3_rewind 30 = .ok (.iinc 1 1, 3) := by decide +kernel
theorem dX3_rewind_33 : decode cX3_rewind 33 = .ok (.goto (-27), 3) := by decide +kernel
theorem dX3_rewind_36 : decode cX3_rewind 36 = .ok (.iload_n 1, 1) := by decide +kernel
theorem dX3_rewind_37 : decode cX3_rewind 37 = .ok (.ireturn, 1) := by decide +kernel
theorem dX3_driveOut_0 : decode cX3_driveOut 0 = .ok (.aload_n 0, 1) := by decide +kernel
theorem dX3_driveOut_1 : decode cX3_driveOut 1 = .ok (.invokevirtual 98, 3) := by decide +kernel
theorem dX3_driveOut_4 : decode cX3_driveOut 4 = .ok (.istore_n 1, 1) := by decide +kernel
theorem dX3_driveOut_5 : decode cX3_driveOut 5 = .ok (.iload_n 1, 1) := by decide +kernel
theorem dX3_driveOut_6 : decode cX3_driveOut 6 = .ok (.ifCond .ge 13, 3) := by decide +kernel
theorem dX3_driveOut_9 : decode cX3_driveOut 9 = .ok (.new 62, 3) := by decide +kernel
theorem dX3_driveOut_12 : decode cX3_driveOut 12 = .ok (.dup, 1) := by decide +kernel
theorem dX3_driveOut_13 : decode cX3_driveOut 13 = .ok (.ldc 101, 2) := by decide +kernel
theorem dX3_driveOut_15 : decode cX3_driveOut 15 = .ok (.invokespecial 66, 3) := by decide +kernel
theorem dX3_driveOut_18 : decode cX3_driveOut 18 = .ok (.athrow, 1) := by decide +kernel
theorem dX3_driveOut_19 : decode cX3_driveOut 19 = .ok (.aload_n 0, 1) := by decide +kernel
theorem dX3_driveOut_20 : decode cX3_driveOut 20 = .ok (.invokevirtual 53, 3) := by decide +kernel
theorem dX3_driveOut_23 : decode cX3_driveOut 23 = .ok (.aload_n 0, 1) := by decide +kernel
theorem dX3_driveOut_24 : decode cX3_driveOut 24 = .ok (.iload_n 1, 1) := by decide +kernel
theorem dX3_driveOut_25 : decode cX3_driveOut 25 = .ok (.invokevirtual 103, 3) := by decide +kernel
theorem dX3_driveOut_28 : decode cX3_driveOut 28 = .ok (.pop, 1) := by decide +kernel
theorem dX3_driveOut_29 : decode cX3_driveOut 29 = .ok (.iload_n 1, 1) := by decide +kernel
theorem dX3_driveOut_30 : decode cX3_driveOut 30 = .ok (.ireturn, 1) := by decide +kernel
theorem dX3_append_0 : decode cX3_append 0 = .ok (.iload_n 1, 1) := by decide +kernel
theorem dX3_append_1 : decode cX3_append 1 = .ok (.bipush 33, 2) := by decide +kernel
theorem dX3_append_3 : decode cX3_append 3 = .ok (.if_icmp .lt 9, 3) := by decide +kernel
theorem dX3_append_6 : decode cX3_append 6 = .ok (.iload_n 1, 1) := by decide +kernel
theorem dX3_append_7 : decode cX3_append 7 = .ok (.bipush 126, 2) := by decide +kernel
theorem dX3_append_9 : decode cX3_append 9 = .ok (.if_icmp .le 13, 3) := by decide +kernel
theorem dX3_append_12 : decode cX3_append 12 = .ok (.new 106, 3) := by decide +kernel
theorem dX3_append_15 : decode cX3_append 15 = .ok (.dup, 1) := by decide +kernel
theorem dX3_append_16 : decode cX3_append 16 = .ok (.ldc 108, 2) := by decide +kernel
theorem dX3_append_18 : decode cX3_append 18 = .ok (.invokespecial 110, 3) := by decide +kernel
theorem dX3_append_21 : decode cX3_append 21 = .ok (.athrow, 1) := by decide +kernel
theorem dX3_append_22 : decode cX3_append 22 = .ok (.aload_n 0, 1) := by decide +kernel
theorem dX3_append_23 : decode cX3_append 23 = .ok (.getfield 33, 3) := by decide +kernel
theorem dX3_append_26 : decode cX3_append 26 = .ok (.getfield 111, 3) := by decide +kernel
theorem dX3_append_29 : decode cX3_append 29 = .ok (.bipush 60, 2) := by decide +kernel
theorem dX3_append_31 : decode cX3_append 31 = .ok (.if_icmp .lt 13, 3) := by decide +kernel
theorem dX3_append_34 : decode cX3_append 34 = .ok (.new 62, 3) := by decide +kernel
theorem dX3_append_37 : decode cX3_append 37 = .ok (.dup, 1) := by decide +kernel
theorem dX3_append_38 : decode cX3_append 38 = .ok (.ldc 114, 2) := by decide +kernel
theorem dX3_append_40 : decode cX3_append 40 = .ok (.invokespecial 66, 3) := by decide +kernel
theorem dX3_append_43 : decode cX3_append 43 = .ok (.athrow, 1) := by decide +kernel
theorem dX3_append_44 : decode cX3_append 44 = .ok (.aload_n 0, 1) := by decide +kernel
theorem dX3_append_45 : decode cX3_append 45 = .ok (.getfield 33, 3) := by decide +kernel
theorem dX3_append_48 : decode cX3_append 48 = .ok (.iload_n 1, 1) := by decide +kernel
theorem dX3_append_49 : decode cX3_append 49 = .ok (.invokevirtual 116, 3) := by decide +kernel
theorem dX3_append_52 : decode cX3_append 52 = .ok (.ireturn, 1) := by decide +kernel
theorem dX3_clearBuffer_0 : decode cX3_clearBuffer 0 = .ok (.aload_n 0, 1) := by decide +kernel
theorem dX3_clearBuffer_1 : decode cX3_clearBuffer 1 = .ok (.getfield 33, 3) := by decide +kernel
theorem dX3_clearBuffer_4 : decode cX3_clearBuffer 4 = .ok (.invokevirtual 119, 3) := by decide +kernel
theorem dX3_clearBuffer_7 : decode cX3_clearBuffer 7 = .ok (.ireturn, 1) := by decide +kernel
theorem dX3_firstError_0 : decode cX3_firstError 0 = .ok (.aload_n 0, 1) := by decide +kernel
theorem dX3_firstError_1 : decode cX3_firstError 1 = .ok (.getfield 33, 3) := by decide +kernel
theorem dX3_firstError_4 : decode cX3_firstError 4 = .ok (.invokevirtual 122, 3) := by decide +kernel
theorem dX3_firstError_7 : decode cX3_firstError 7 = .ok (.ireturn, 1) := by decide +kernel
theorem dX3_work_0 : decode cX3_work 0 = .ok (.aload_n 0, 1) := by decide +kernel
theorem dX3_work_1 : decode cX3_work 1 = .ok (.getfield 33, 3) := by decide +kernel
theorem dX3_work_4 : decode cX3_work 4 = .ok (.invokevirtual 125, 3) := by decide +kernel
theorem dX3_work_7 : decode cX3_work 7 = .ok (.ifCond .ne 13, 3) := by decide +kernel
theorem dX3_work_10 : decode cX3_work 10 = .ok (.new 106, 3) := by decide +kernel
theorem dX3_work_13 : decode cX3_work 13 = .ok (.dup, 1) := by decide +kernel
theorem dX3_work_14 : decode cX3_work 14 = .ok (.ldc 129, 2) := by decide +kernel
theorem dX3_work_16 : decode cX3_work 16 = .ok (.invokespecial 110, 3) := by decide +kernel
theorem dX3_work_19 : decode cX3_work 19 = .ok (.athrow, 1) := by decide +kernel
theorem dX3_work_20 : decode cX3_work 20 = .ok (.aload_n 0, 1) := by decide +kernel
theorem dX3_work_21 : decode cX3_work 21 = .ok (.invokevirtual 53, 3) := by decide +kernel
theorem dX3_work_24 : decode cX3_work 24 = .ok (.iconst 0, 1) := by decide +kernel
theorem dX3_work_25 : decode cX3_work 25 = .ok (.istore_n 1, 1) := by decide +kernel
theorem dX3_work_26 : decode cX3_work 26 = .ok (.iconst 0, 1) := by decide +kernel
theorem dX3_work_27 : decode cX3_work 27 = .ok (.istore_n 2, 1) := by decide +kernel
theorem dX3_work_28 : decode cX3_work 28 = .ok (.iconst 0, 1) := by decide +kernel
theorem dX3_work_29 : decode cX3_work 29 = .ok (.istore_n 3, 1) := by decide +kernel
theorem dX3_work_30 : decode cX3_work 30 = .ok (.iconst 0, 1) := by decide +kernel
theorem dX3_work_31 : decode cX3_work 31 = .ok (.istore 4, 2) := by decide +kernel
theorem dX3_work_33 : decode cX3_work 33 = .ok (.iload 4, 2) := by decide +kernel
theorem dX3_work_35 : decode cX3_work 35 = .ok (.bipush 60, 2) := by decide +kernel
theorem dX3_work_37 : decode cX3_work 37 = .ok (.if_icmp .ge 49, 3) := by decide +kernel
theorem dX3_work_40 : decode cX3_work 40 = .ok (.iload_n 2, 1) := by decide +kernel
theorem dX3_work_41 : decode cX3_work 41 = .ok (.aload_n 0, 1) := by decide +kernel
theorem dX3_work_42 : decode cX3_work 42 = .ok (.getfield 33, 3) := by decide +kernel
theorem dX3_work_45 : decode cX3_work 45 = .ok (.getfield 111, 3) := by decide +kernel
theorem dX3_work_48 : decode cX3_work 48 = .ok (.if_icmp .ge 38, 3) := by decide +kernel
theorem dX3_work_51 : decode cX3_work 51 = .ok (.iload_n 3, 1) := by decide +kernel
theorem dX3_work_52 : decode cX3_work 52 = .ok (.ifCond .ne 34, 3) := by decide +kernel
theorem dX3_work_55 : decode cX3_work 55 = .ok (.aload_n 0, 1) := by decide +kernel
theorem dX3_work_56 : decode cX3_work 56 = .ok (.iload_n 2, 1) := by decide +kernel
theorem dX3_work_57 : decode cX3_work 57 = .ok (.invokevirtual 131, 3) := by decide +kernel
theorem dX3_work_60 : decode cX3_work 60 = .ok (.ifCond .eq 18, 3) := by decide +kernel
theorem dX3_work_63 : decode cX3_work 63 = .ok (.iinc 1 1, 3) := by decide +kernel
theorem dX3_work_66 : decode cX3_work 66 = .ok (.aload_n 0, 1) := by decide +kernel
theorem dX3_work_67 : decode cX3_work 67 = .ok (.getfield 33, 3) := by decide +kernel
theorem dX3_work_70 : decode cX3_work 70 = .ok (.iload_n 2, 1) := by decide +kernel
theorem dX3_work_71 : decode cX3_work 71 = .ok (.invokevirtual 134, 3) := by decide +kernel
theorem dX3_work_74 : decode cX3_work 74 = .ok (.istore_n 2, 1) := by decide +kernel
theorem dX3_work_75 : decode cX3_work 75 = .ok (.goto 5, 3) := by decide +kernel
theorem dX3_work_78 : decode cX3_work 78 = .ok (.iconst 1, 1) := by decide +kernel
theorem dX3_work_79 : decode cX3_work 79 = .ok (.istore_n 3, 1) := by decide +kernel
theorem dX3_work_80 : decode cX3_work 80 = .ok (.iinc 4 1, 3) := by decide +kernel
theorem dX3_work_83 : decode cX3_work 83 = .ok (.goto (-50), 3) := by decide +kernel
theorem dX3_work_86 : decode cX3_work 86 = .ok (.aload_n 0, 1) := by decide +kernel
theorem dX3_work_87 : decode cX3_work 87 = .ok (.getfield 10, 3) := by decide +kernel
theorem dX3_work_90 : decode cX3_work 90 = .ok (.iload_n 3, 1) := by decide +kernel
theorem dX3_work_91 : decode cX3_work 91 = .ok (.putfield 137, 3) := by decide +kernel
theorem dX3_work_94 : decode cX3_work 94 = .ok (.aload_n 0, 1) := by decide +kernel
theorem dX3_work_95 : decode cX3_work 95 = .ok (.getfield 10, 3) := by decide +kernel
theorem dX3_work_98 : decode cX3_work 98 = .ok (.iload_n 3, 1) := by decide +kernel
theorem dX3_work_99 : decode cX3_work 99 = .ok (.ifCond .eq 7, 3) := by decide +kernel
theorem dX3_work_102 : decode cX3_work 102 = .ok (.iload_n 1, 1) := by decide +kernel
theorem dX3_work_103 : decode cX3_work 103 = .ok (.goto 4, 3) := by decide +kernel
theorem dX3_work_106 : decode cX3_work 106 = .ok (.iconst 0, 1) := by decide +kernel
theorem dX3_work_107 : decode cX3_work 107 = .ok (.putfield 140, 3) := by decide +kernel
theorem dX3_work_110 : decode cX3_work 110 = .ok (.aload_n 0, 1) := by decide +kernel
theorem dX3_work_111 : decode cX3_work 111 = .ok (.getfield 33, 3) := by decide +kernel
theorem dX3_work_114 : decode cX3_work 114 = .ok (.invokevirtual 119, 3) := by decide +kernel
theorem dX3_work_117 : decode cX3_work 117 = .ok (.pop, 1) := by decide +kernel
theorem dX3_work_118 : decode cX3_work 118 = .ok (.iload_n 1, 1) := by decide +kernel
theorem dX3_work_119 : decode cX3_work 119 = .ok (.ireturn, 1) := by decide +kernel
theorem dX3_hasStopped_0 : decode cX3_hasStopped 0 = .ok (.aload_n 0, 1) := by decide +kernel
theorem dX3_hasStopped_1 : decode cX3_hasStopped 1 = .ok (.getfield 10, 3) := by decide +kernel
theorem dX3_hasStopped_4 : decode cX3_hasStopped 4 = .ok (.getfield 137, 3) := by decide +kernel
theorem dX3_hasStopped_7 : decode cX3_hasStopped 7 = .ok (.ireturn, 1) := by decide +kernel
theorem dX3_stoppedPart_0 : decode cX3_stoppedPart 0 = .ok (.aload_n 0, 1) := by decide +kernel
theorem dX3_stoppedPart_1 : decode cX3_stoppedPart 1 = .ok (.getfield 10, 3) := by decide +kernel
theorem dX3_stoppedPart_4 : decode cX3_stoppedPart 4 = .ok (.getfield 137, 3) := by decide +kernel
theorem dX3_stoppedPart_7 : decode cX3_stoppedPart 7 = .ok (.ifCond .ne 13, 3) := by decide +kernel
theorem dX3_stoppedPart_10 : decode cX3_stoppedPart 10 = .ok (.new 62, 3) := by decide +kernel
theorem dX3_stoppedPart_13 : decode cX3_stoppedPart 13 = .ok (.dup, 1) := by decide +kernel
theorem dX3_stoppedPart_14 : decode cX3_stoppedPart 14 = .ok (.ldc 143, 2) := by decide +kernel
theorem dX3_stoppedPart_16 : decode cX3_stoppedPart 16 = .ok (.invokespecial 66, 3) := by decide +kernel
theorem dX3_stoppedPart_19 : decode cX3_stoppedPart 19 = .ok (.athrow, 1) := by decide +kernel
theorem dX3_stoppedPart_20 : decode cX3_stoppedPart 20 = .ok (.aload_n 0, 1) := by decide +kernel
theorem dX3_stoppedPart_21 : decode cX3_stoppedPart 21 = .ok (.getfield 10, 3) := by decide +kernel
theorem dX3_stoppedPart_24 : decode cX3_stoppedPart 24 = .ok (.getfield 140, 3) := by decide +kernel
theorem dX3_stoppedPart_27 : decode cX3_stoppedPart 27 = .ok (.ireturn, 1) := by decide +kernel
theorem dX3_undo_0 : decode cX3_undo 0 = .ok (.aload_n 0, 1) := by decide +kernel
theorem dX3_undo_1 : decode cX3_undo 1 = .ok (.getfield 37, 3) := by decide +kernel
theorem dX3_undo_4 : decode cX3_undo 4 = .ok (.ifCond .le 11, 3) := by decide +kernel
theorem dX3_undo_7 : decode cX3_undo 7 = .ok (.aload_n 0, 1) := by decide +kernel
theorem dX3_undo_8 : decode cX3_undo 8 = .ok (.getfield 37, 3) := by decide +kernel
theorem dX3_undo_11 : decode cX3_undo 11 = .ok (.iconst 5, 1) := by decide +kernel
theorem dX3_undo_12 : decode cX3_undo 12 = .ok (.if_icmp .le 13, 3) := by decide +kernel
theorem dX3_undo_15 : decode cX3_undo 15 = .ok (.new 62, 3) := by decide +kernel
theorem dX3_undo_18 : decode cX3_undo 18 = .ok (.dup, 1) := by decide +kernel
theorem dX3_undo_19 : decode cX3_undo 19 = .ok (.ldc 145, 2) := by decide +kernel
theorem dX3_undo_21 : decode cX3_undo 21 = .ok (.invokespecial 66, 3) := by decide +kernel
theorem dX3_undo_24 : decode cX3_undo 24 = .ok (.athrow, 1) := by decide +kernel
theorem dX3_undo_25 : decode cX3_undo 25 = .ok (.aload_n 0, 1) := by decide +kernel
theorem dX3_undo_26 : decode cX3_undo 26 = .ok (.dup, 1) := by decide +kernel
theorem dX3_undo_27 : decode cX3_undo 27 = .ok (.getfield 37, 3) := by decide +kernel
theorem dX3_undo_30 : decode cX3_undo 30 = .ok (.iconst 1, 1) := by decide +kernel
theorem dX3_undo_31 : decode cX3_undo 31 = .ok (.isub, 1) := by decide +kernel
theorem dX3_undo_32 : decode cX3_undo 32 = .ok (.putfield 37, 3) := by decide +kernel
theorem dX3_undo_35 : decode cX3_undo 35 = .ok (.aload_n 0, 1) := by decide +kernel
theorem dX3_undo_36 : decode cX3_undo 36 = .ok (.getfield 19, 3) := by decide +kernel
theorem dX3_undo_39 : decode cX3_undo 39 = .ok (.aload_n 0, 1) := by decide +kernel
theorem dX3_undo_40 : decode cX3_undo 40 = .ok (.getfield 37, 3) := by decide +kernel
theorem dX3_undo_43 : decode cX3_undo 43 = .ok (.aaload, 1) := by decide +kernel
theorem dX3_undo_44 : decode cX3_undo 44 = .ok (.aload_n 0, 1) := by decide +kernel
theorem dX3_undo_45 : decode cX3_undo 45 = .ok (.getfield 10, 3) := by decide +kernel
theorem dX3_undo_48 : decode cX3_undo 48 = .ok (.invokestatic 147, 3) := by decide +kernel
theorem dX3_undo_51 : decode cX3_undo 51 = .ok (.aload_n 0, 1) := by decide +kernel
theorem dX3_undo_52 : decode cX3_undo 52 = .ok (.getfield 37, 3) := by decide +kernel
theorem dX3_undo_55 : decode cX3_undo 55 = .ok (.ireturn, 1) := by decide +kernel
theorem dX3_keep_0 : decode cX3_keep 0 = .ok (.aload_n 0, 1) := by decide +kernel
theorem dX3_keep_1 : decode cX3_keep 1 = .ok (.getfield 10, 3) := by decide +kernel
theorem dX3_keep_4 : decode cX3_keep 4 = .ok (.aload_n 0, 1) := by decide +kernel
theorem dX3_keep_5 : decode cX3_keep 5 = .ok (.getfield 16, 3) := by decide +kernel
theorem dX3_keep_8 : decode cX3_keep 8 = .ok (.invokestatic 147, 3) := by decide +kernel
theorem dX3_keep_11 : decode cX3_keep 11 = .ok (.aload_n 0, 1) := by decide +kernel
theorem dX3_keep_12 : decode cX3_keep 12 = .ok (.iconst 1, 1) := by decide +kernel
theorem dX3_keep_13 : decode cX3_keep 13 = .ok (.putfield 41, 3) := by decide +kernel
theorem dX3_keep_16 : decode cX3_keep 16 = .ok (.aload_n 0, 1) := by decide +kernel
theorem dX3_keep_17 : decode cX3_keep 17 = .ok (.getfield 10, 3) := by decide +kernel
theorem dX3_keep_20 : decode cX3_keep 20 = .ok (.getfield 59, 3) := by decide +kernel
theorem dX3_keep_23 : decode cX3_keep 23 = .ok (.ireturn, 1) := by decide +kernel
theorem dX3_restore_0 : decode cX3_restore 0 = .ok (.aload_n 0, 1) := by decide +kernel
theorem dX3_restore_1 : decode cX3_restore 1 = .ok (.getfield 41, 3) := by decide +kernel
theorem dX3_restore_4 : decode cX3_restore 4 = .ok (.ifCond .ne 13, 3) := by decide +kernel
theorem dX3_restore_7 : decode cX3_restore 7 = .ok (.new 62, 3) := by decide +kernel
theorem dX3_restore_10 : decode cX3_restore 10 = .ok (.dup, 1) := by decide +kernel
theorem dX3_restore_11 : decode cX3_restore 11 = .ok (.ldc 151, 2) := by decide +kernel
theorem dX3_restore_13 : decode cX3_restore 13 = .ok (.invokespecial 66, 3) := by decide +kernel
theorem dX3_restore_16 : decode cX3_restore 16 = .ok (.athrow, 1) := by decide +kernel
theorem dX3_restore_17 : decode cX3_restore 17 = .ok (.aload_n 0, 1) := by decide +kernel
theorem dX3_restore_18 : decode cX3_restore 18 = .ok (.invokevirtual 53, 3) := by decide +kernel
theorem dX3_restore_21 : decode cX3_restore 21 = .ok (.aload_n 0, 1) := by decide +kernel
theorem dX3_restore_22 : decode cX3_restore 22 = .ok (.getfield 16, 3) := by decide +kernel
theorem dX3_restore_25 : decode cX3_restore 25 = .ok (.aload_n 0, 1) := by decide +kernel
theorem dX3_restore_26 : decode cX3_restore 26 = .ok (.getfield 10, 3) := by decide +kernel
theorem dX3_restore_29 : decode cX3_restore 29 = .ok (.invokestatic 147, 3) := by decide +kernel
theorem dX3_restore_32 : decode cX3_restore 32 = .ok (.aload_n 0, 1) := by decide +kernel
theorem dX3_restore_33 : decode cX3_restore 33 = .ok (.getfield 10, 3) := by decide +kernel
theorem dX3_restore_36 : decode cX3_restore 36 = .ok (.getfield 59, 3) := by decide +kernel
theorem dX3_restore_39 : decode cX3_restore 39 = .ok (.ireturn, 1) := by decide +kernel
theorem dX3_savedStates_0 : decode cX3_savedStates 0 = .ok (.aload_n 0, 1) := by decide +kernel
theorem dX3_savedStates_1 : decode cX3_savedStates 1 = .ok (.getfield 37, 3) := by decide +kernel
theorem dX3_savedStates_4 : decode cX3_savedStates 4 = .ok (.ireturn, 1) := by decide +kernel
theorem dX3_cars_0 : decode cX3_cars 0 = .ok (.aload_n 0, 1) := by decide +kernel
theorem dX3_cars_1 : decode cX3_cars 1 = .ok (.getfield 10, 3) := by decide +kernel
theorem dX3_cars_4 : decode cX3_cars 4 = .ok (.getfield 59, 3) := by decide +kernel
theorem dX3_cars_7 : decode cX3_cars 7 = .ok (.ireturn, 1) := by decide +kernel
theorem dX3_walls_0 : decode cX3_walls 0 = .ok (.aload_n 0, 1) := by decide +kernel
theorem dX3_walls_1 : decode cX3_walls 1 = .ok (.getfield 10, 3) := by decide +kernel
theorem dX3_walls_4 : decode cX3_walls 4 = .ok (.getfield 153, 3) := by decide +kernel
theorem dX3_walls_7 : decode cX3_walls 7 = .ok (.invokestatic 156, 3) := by decide +kernel
theorem dX3_walls_10 : decode cX3_walls 10 = .ok (.ireturn, 1) := by decide +kernel
theorem dX3_laneOf_0 : decode cX3_laneOf 0 = .ok (.aload_n 0, 1) := by decide +kernel
theorem dX3_laneOf_1 : decode cX3_laneOf 1 = .ok (.getfield 10, 3) := by decide +kernel
theorem dX3_laneOf_4 : decode cX3_laneOf 4 = .ok (.iload_n 1, 1) := by decide +kernel
theorem dX3_laneOf_5 : decode cX3_laneOf 5 = .ok (.invokevirtual 161, 3) := by decide +kernel
theorem dX3_laneOf_8 : decode cX3_laneOf 8 = .ok (.ifCond .ne 13, 3) := by decide +kernel
theorem dX3_laneOf_11 : decode cX3_laneOf 11 = .ok (.new 164, 3) := by decide +kernel
theorem dX3_laneOf_14 : decode cX3_laneOf 14 = .ok (.dup, 1) := by decide +kernel
theorem dX3_laneOf_15 : decode cX3_laneOf 15 = .ok (.ldc 166, 2) := by decide +kernel
theorem dX3_laneOf_17 : decode cX3_laneOf 17 = .ok (.invokespecial 168, 3) := by decide +kernel
theorem dX3_laneOf_20 : decode cX3_laneOf 20 = .ok (.athrow, 1) := by decide +kernel
theorem dX3_laneOf_21 : decode cX3_laneOf 21 = .ok (.aload_n 0, 1) := by decide +kernel
theorem dX3_laneOf_22 : decode cX3_laneOf 22 = .ok (.getfield 10, 3) := by decide +kernel
theorem dX3_laneOf_25 : decode cX3_laneOf 25 = .ok (.getfield 169, 3) := by decide +kernel
theorem dX3_laneOf_28 : decode cX3_laneOf 28 = .ok (.iload_n 1, 1) := by decide +kernel
theorem dX3_laneOf_29 : decode cX3_laneOf 29 = .ok (.iaload, 1) := by decide +kernel
theorem dX3_laneOf_30 : decode cX3_laneOf 30 = .ok (.ireturn, 1) := by decide +kernel
theorem dX3_placeOf_0 : decode cX3_placeOf 0 = .ok (.aload_n 0, 1) := by decide +kernel
theorem dX3_placeOf_1 : decode cX3_placeOf 1 = .ok (.getfield 10, 3) := by decide +kernel
theorem dX3_placeOf_4 : decode cX3_placeOf 4 = .ok (.iload_n 1, 1) := by decide +kernel
theorem dX3_placeOf_5 : decode cX3_placeOf 5 = .ok (.invokevirtual 161, 3) := by decide +kernel
theorem dX3_placeOf_8 : decode cX3_placeOf 8 = .ok (.ifCond .ne 13, 3) := by decide +kernel
theorem dX3_placeOf_11 : decode cX3_placeOf 11 = .ok (.new 164, 3) := by decide +kernel
theorem dX3_placeOf_14 : decode cX3_placeOf 14 = .ok (.dup, 1) := by decide +kernel
theorem dX3_placeOf_15 : decode cX3_placeOf 15 = .ok (.ldc 166, 2) := by decide +kernel
theorem dX3_placeOf_17 : decode cX3_placeOf 17 = .ok (.invokespecial 168, 3) := by decide +kernel
theorem dX3_placeOf_20 : decode cX3_placeOf 20 = .ok (.athrow, 1) := by decide +kernel
theorem dX3_placeOf_21 : decode cX3_placeOf 21 = .ok (.aload_n 0, 1) := by decide +kernel
theorem dX3_placeOf_22 : decode cX3_placeOf 22 = .ok (.getfield 10, 3) := by decide +kernel
theorem dX3_placeOf_25 : decode cX3_placeOf 25 = .ok (.getfield 173, 3) := by decide +kernel
theorem dX3_placeOf_28 : decode cX3_placeOf 28 = .ok (.iload_n 1, 1) := by decide +kernel
theorem dX3_placeOf_29 : decode cX3_placeOf 29 = .ok (.iaload, 1) := by decide +kernel
theorem dX3_placeOf_30 : decode cX3_placeOf 30 = .ok (.ireturn, 1) := by decide +kernel
theorem dX3_lengthOf_0 : decode cX3_lengthOf 0 = .ok (.aload_n 0, 1) := by decide +kernel
theorem dX3_lengthOf_1 : decode cX3_lengthOf 1 = .ok (.getfield 10, 3) := by decide +kernel
theorem dX3_lengthOf_4 : decode cX3_lengthOf 4 = .ok (.iload_n 1, 1) := by decide +kernel
theorem dX3_lengthOf_5 : decode cX3_lengthOf 5 = .ok (.invokevirtual 161, 3) := by decide +kernel
theorem dX3_lengthOf_8 : decode cX3_lengthOf 8 = .ok (.ifCond .ne 13, 3) := by decide +kernel
theorem dX3_lengthOf_11 : decode cX3_lengthOf 11 = .ok (.new 164, 3) := by decide +kernel
theorem dX3_lengthOf_14 : decode cX3_lengthOf 14 = .ok (.dup, 1) := by decide +kernel
theorem dX3_lengthOf_15 : decode cX3_lengthOf 15 = .ok (.ldc 166, 2) := by decide +kernel
theorem dX3_lengthOf_17 : decode cX3_lengthOf 17 = .ok (.invokespecial 168, 3) := by decide +kernel
theorem dX3_lengthOf_20 : decode cX3_lengthOf 20 = .ok (.athrow, 1) := by decide +kernel
theorem dX3_lengthOf_21 : decode cX3_lengthOf 21 = .ok (.aload_n 0, 1) := by decide +kernel
theorem dX3_lengthOf_22 : decode cX3_lengthOf 22 = .ok (.getfield 10, 3) := by decide +kernel
theorem dX3_lengthOf_25 : decode cX3_lengthOf 25 = .ok (.getfield 176, 3) := by decide +kernel
theorem dX3_lengthOf_28 : decode cX3_lengthOf 28 = .ok (.iload_n 1, 1) := by decide +kernel
theorem dX3_lengthOf_29 : decode cX3_lengthOf 29 = .ok (.iaload, 1) := by decide +kernel
theorem dX3_lengthOf_30 : decode cX3_lengthOf 30 = .ok (.ireturn, 1) := by decide +kernel
theorem dX3_carOn_0 : decode cX3_carOn 0 = .ok (.iload_n 1, 1) := by decide +kernel
theorem dX3_carOn_1 : decode cX3_carOn 1 = .ok (.invokestatic 179, 3) := by decide +kernel
theorem dX3_carOn_4 : decode cX3_carOn 4 = .ok (.ifCond .ne 13, 3) := by decide +kernel
theorem dX3_carOn_7 : decode cX3_carOn 7 = .ok (.new 164, 3) := by decide +kernel
theorem dX3_carOn_10 : decode cX3_carOn 10 = .ok (.dup, 1) := by decide +kernel
theorem dX3_carOn_11 : decode cX3_carOn 11 = .ok (.ldc 182, 2) := by decide +kernel
theorem dX3_carOn_13 : decode cX3_carOn 13 = .ok (.invokespecial 168, 3) := by decide +kernel
theorem dX3_carOn_16 : decode cX3_carOn 16 = .ok (.athrow, 1) := by decide +kernel
theorem dX3_carOn_17 : decode cX3_carOn 17 = .ok (.aload_n 0, 1) := by decide +kernel
theorem dX3_carOn_18 : decode cX3_carOn 18 = .ok (.getfield 10, 3) := by decide +kernel
theorem dX3_carOn_21 : decode cX3_carOn 21 = .ok (.iload_n 1, 1) := by decide +kernel
theorem dX3_carOn_22 : decode cX3_carOn 22 = .ok (.invokevirtual 184, 3) := by decide +kernel
theorem dX3_carOn_25 : decode cX3_carOn 25 = .ok (.ireturn, 1) := by decide +kernel
theorem dX3_isWall_0 : decode cX3_isWall 0 = .ok (.iload_n 1, 1) := by decide +kernel
theorem dX3_isWall_1 : decode cX3_isWall 1 = .ok (.invokestatic 179, 3) := by decide +kernel
theorem dX3_isWall_4 : decode cX3_isWall 4 = .ok (.ifCond .ne 13, 3) := by decide +kernel
theorem dX3_isWall_7 : decode cX3_isWall 7 = .ok (.new 164, 3) := by decide +kernel
theorem dX3_isWall_10 : decode cX3_isWall 10 = .ok (.dup, 1) := by decide +kernel
theorem dX3_isWall_11 : decode cX3_isWall 11 = .ok (.ldc 182, 2) := by decide +kernel
theorem dX3_isWall_13 : decode cX3_isWall 13 = .ok (.invokespecial 168, 3) := by decide +kernel
theorem dX3_isWall_16 : decode cX3_isWall 16 = .ok (.athrow, 1) := by decide +kernel
theorem dX3_isWall_17 : decode cX3_isWall 17 = .ok (.aload_n 0, 1) := by decide +kernel
theorem dX3_isWall_18 : decode cX3_isWall 18 = .ok (.getfield 10, 3) := by decide +kernel
theorem dX3_isWall_21 : decode cX3_isWall 21 = .ok (.iload_n 1, 1) := by decide +kernel
theorem dX3_isWall_22 : decode cX3_isWall 22 = .ok (.invokevirtual 187, 3) := by decide +kernel
theorem dX3_isWall_25 : decode cX3_isWall 25 = .ok (.ireturn, 1) := by decide +kernel
theorem dX3_freeCells_0 : decode cX3_freeCells 0 = .ok (.bipush 25, 2) := by decide +kernel
theorem dX3_freeCells_2 : decode cX3_freeCells 2 = .ok (.aload_n 0, 1) := by decide +kernel
theorem dX3_freeCells_3 : decode cX3_freeCells 3 = .ok (.getfield 10, 3) := by decide +kernel
theorem dX3_freeCells_6 : decode cX3_freeCells 6 = .ok (.invokevirtual 190, 3) := by decide +kernel
theorem dX3_freeCells_9 : decode cX3_freeCells 9 = .ok (.invokestatic 156, 3) := by decide +kernel
theorem dX3_freeCells_12 : decode cX3_freeCells 12 = .ok (.isub, 1) := by decide +kernel
theorem dX3_freeCells_13 : decode cX3_freeCells 13 = .ok (.ireturn, 1) := by decide +kernel
theorem dX3_isOut_0 : decode cX3_isOut 0 = .ok (.aload_n 0, 1) := by decide +kernel
theorem dX3_isOut_1 : decode cX3_isOut 1 = .ok (.getfield 10, 3) := by decide +kernel
theorem dX3_isOut_4 : decode cX3_isOut 4 = .ok (.invokevirtual 193, 3) := by decide +kernel
theorem dX3_isOut_7 : decode cX3_isOut 7 = .ok (.ireturn, 1) := by decide +kernel
theorem dX3_room_0 : decode cX3_room 0 = .ok (.aload_n 0, 1) := by decide +kernel
theorem dX3_room_1 : decode cX3_room 1 = .ok (.getfield 10, 3) := by decide +kernel
theorem dX3_room_4 : decode cX3_room 4 = .ok (.iload_n 1, 1) := by decide +kernel
theorem dX3_room_5 : decode cX3_room 5 = .ok (.invokevirtual 161, 3) := by decide +kernel
theorem dX3_room_8 : decode cX3_room 8 = .ok (.ifCond .ne 13, 3) := by decide +kernel
theorem dX3_room_11 : decode cX3_room 11 = .ok (.new 164, 3) := by decide +kernel
theorem dX3_room_14 : decode cX3_room 14 = .ok (.dup, 1) := by decide +kernel
theorem dX3_room_15 : decode cX3_room 15 = .ok (.ldc 166, 2) := by decide +kernel
theorem dX3_room_17 : decode cX3_room 17 = .ok (.invokespecial 168, 3) := by decide +kernel
theorem dX3_room_20 : decode cX3_room 20 = .ok (.athrow, 1) := by decide +kernel
theorem dX3_room_21 : decode cX3_room 21 = .ok (.aload_n 0, 1) := by decide +kernel
theorem dX3_room_22 : decode cX3_room 22 = .ok (.getfield 10, 3) := by decide +kernel
theorem dX3_room_25 : decode cX3_room 25 = .ok (.iload_n 1, 1) := by decide +kernel
theorem dX3_room_26 : decode cX3_room 26 = .ok (.iload_n 2, 1) := by decide +kernel
theorem dX3_room_27 : decode cX3_room 27 = .ok (.ifCond .eq 7, 3) := by decide +kernel
theorem dX3_room_30 : decode cX3_room 30 = .ok (.iconst 1, 1) := by decide +kernel
theorem dX3_room_31 : decode cX3_room 31 = .ok (.goto 4, 3) := by decide +kernel
theorem dX3_room_34 : decode cX3_room 34 = .ok (.iconst (-1), 1) := by decide +kernel
theorem dX3_room_35 : decode cX3_room 35 = .ok (.invokevirtual 196, 3) := by decide +kernel
theorem dX3_room_38 : decode cX3_room 38 = .ok (.ireturn, 1) := by decide +kernel
theorem dX3_possibleSlides_0 : decode cX3_possibleSlides 0 = .ok (.iconst 0, 1) := by decide +kernel
theorem dX3_possibleSlides_1 : decode cX3_possibleSlides 1 = .ok (.istore_n 1, 1) := by decide +kernel
theorem dX3_possibleSlides_2 : decode cX3_possibleSlides 2 = .ok (.iconst 0, 1) := by decide +kernel
theorem dX3_possibleSlides_3 : decode cX3_possibleSlides 3 = .ok (.istore_n 2, 1) := by decide +kernel
theorem dX3_possibleSlides_4 : decode cX3_possibleSlides 4 = .ok (.iload_n 2, 1) := by decide +kernel
theorem dX3_possibleSlides_5 : decode cX3_possibleSlides 5 = .ok (.aload_n 0, 1) := by decide +kernel
theorem dX3_possibleSlides_6 : decode cX3_possibleSlides 6 = .ok (.getfield 10, 3) := by decide +kernel
theorem dX3_possibleSlides_9 : decode cX3_possibleSlides 9 = .ok (.getfield 59, 3) := by decide +kernel
theorem dX3_possibleSlides_12 : decode cX3_possibleSlides 12 = .ok (.if_icmp .ge 31, 3) := by decide +kernel
theorem dX3_possibleSlides_15 : decode cX3_possibleSlides 15 = .ok (.iload_n 1, 1) := by decide +kernel
theorem dX3_possibleSlides_16 : decode cX3_possibleSlides 16 = .ok (.aload_n 0, 1) := by decide +kernel
theorem dX3_possibleSlides_17 : decode cX3_possibleSlides 17 = .ok (.getfield 10, 3) := by decide +kernel
theorem dX3_possibleSlides_20 : decode cX3_possibleSlides 20 = .ok (.iload_n 2, 1) := by decide +kernel
theorem dX3_possibleSlides_21 : decode cX3_possibleSlides 21 = .ok (.iconst 1, 1) := by decide +kernel
theorem dX3_possibleSlides_22 : decode cX3_possibleSlides 22 = .ok (.invokevirtual 196, 3) := by decide +kernel
theorem dX3_possibleSlides_25 : decode cX3_possibleSlides 25 = .ok (.aload_n 0, 1) := by decide +kernel
theorem dX3_possibleSlides_26 : decode cX3_possibleSlides 26 = .ok (.getfield 10, 3) := by decide +kernel
theorem dX3_possibleSlides_29 : decode cX3_possibleSlides 29 = .ok (.iload_n 2, 1) := by decide +kernel
theorem dX3_possibleSlides_30 : decode cX3_possibleSlides 30 = .ok (.iconst (-1), 1) := by decide +kernel
theorem dX3_possibleSlides_31 : decode cX3_possibleSlides 31 = .ok (.invokevirtual 196, 3) := by decide +kernel
theorem dX3_possibleSlides_34 : decode cX3_possibleSlides 34 = .ok (.iadd, 1) := by decide +kernel
theorem dX3_possibleSlides_35 : decode cX3_possibleSlides 35 = .ok (.iadd, 1) := by decide +kernel
theorem dX3_possibleSlides_36 : decode cX3_possibleSlides 36 = .ok (.istore_n 1, 1) := by decide +kernel
theorem dX3_possibleSlides_37 : decode cX3_possibleSlides 37 = .ok (.iinc 2 1, 3) := by decide +kernel
theorem dX3_possibleSlides_40 : decode cX3_possibleSlides 40 = .ok (.goto (-36), 3) := by decide +kernel
theorem dX3_possibleSlides_43 : decode cX3_possibleSlides 43 = .ok (.iload_n 1, 1) := by decide +kernel
theorem dX3_possibleSlides_44 : decode cX3_possibleSlides 44 = .ok (.ireturn, 1) := by decide +kernel
theorem dX3_logged_0 : decode cX3_logged 0 = .ok (.aload_n 0, 1) := by decide +kernel
theorem dX3_logged_1 : decode cX3_logged 1 = .ok (.getfield 10, 3) := by decide +kernel
theorem dX3_logged_4 : decode cX3_logged 4 = .ok (.getfield 85, 3) := by decide +kernel
theorem dX3_logged_7 : decode cX3_logged 7 = .ok (.ireturn, 1) := by decide +kernel
theorem dX3_carOfSlide_0 : decode cX3_carOfSlide 0 = .ok (.aload_n 0, 1) := by decide +kernel
theorem dX3_carOfSlide_1 : decode cX3_carOfSlide 1 = .ok (.getfield 10, 3) := by decide +kernel
theorem dX3_carOfSlide_4 : decode cX3_carOfSlide 4 = .ok (.iload_n 1, 1) := by decide +kernel
theorem dX3_carOfSlide_5 : decode cX3_carOfSlide 5 = .ok (.invokevirtual 199, 3) := by decide +kernel
theorem dX3_carOfSlide_8 : decode cX3_carOfSlide 8 = .ok (.ifCond .ne 13, 3) := by decide +kernel
theorem dX3_carOfSlide_11 : decode cX3_carOfSlide 11 = .ok (.new 164, 3) := by decide +kernel
theorem dX3_carOfSlide_14 : decode cX3_carOfSlide 14 = .ok (.dup, 1) := by decide +kernel
theorem dX3_carOfSlide_15 : decode cX3_carOfSlide 15 = .ok (.ldc 202, 2) := by decide +kernel
theorem dX3_carOfSlide_17 : decode cX3_carOfSlide 17 = .ok (.invokespecial 168, 3) := by decide +kernel
theorem dX3_carOfSlide_20 : decode cX3_carOfSlide 20 = .ok (.athrow, 1) := by decide +kernel
theorem dX3_carOfSlide_21 : decode cX3_carOfSlide 21 = .ok (.aload_n 0, 1) := by decide +kernel
theorem dX3_carOfSlide_22 : decode cX3_carOfSlide 22 = .ok (.getfield 10, 3) := by decide +kernel
theorem dX3_carOfSlide_25 : decode cX3_carOfSlide 25 = .ok (.getfield 204, 3) := by decide +kernel
theorem dX3_carOfSlide_28 : decode cX3_carOfSlide 28 = .ok (.iload_n 1, 1) := by decide +kernel
theorem dX3_carOfSlide_29 : decode cX3_carOfSlide 29 = .ok (.iaload, 1) := by decide +kernel
theorem dX3_carOfSlide_30 : decode cX3_carOfSlide 30 = .ok (.ireturn, 1) := by decide +kernel
theorem dX3_changeBySlide_0 : decode cX3_changeBySlide 0 = .ok (.aload_n 0, 1) := by decide +kernel
theorem dX3_changeBySlide_1 : decode cX3_changeBySlide 1 = .ok (.getfield 10, 3) := by decide +kernel
theorem dX3_changeBySlide_4 : decode cX3_changeBySlide 4 = .ok (.iload_n 1, 1) := by decide +kernel
theorem dX3_changeBySlide_5 : decode cX3_changeBySlide 5 = .ok (.invokevirtual 199, 3) := by decide +kernel
theorem dX3_changeBySlide_8 : decode cX3_changeBySlide 8 = .ok (.ifCond .ne 13, 3) := by decide +kernel
theorem dX3_changeBySlide_11 : decode cX3_changeBySlide 11 = .ok (.new 164, 3) := by decide +kernel
theorem dX3_changeBySlide_14 : decode cX3_changeBySlide 14 = .ok (.dup, 1) := by decide +kernel
theorem dX3_changeBySlide_15 : decode cX3_changeBySlide 15 = .ok (.ldc 202, 2) := by decide +kernel
theorem dX3_changeBySlide_17 : decode cX3_changeBySlide 17 = .ok (.invokespecial 168, 3) := by decide +kernel
theorem dX3_changeBySlide_20 : decode cX3_changeBySlide 20 = .ok (.athrow, 1) := by decide +kernel
theorem dX3_changeBySlide_21 : decode cX3_changeBySlide 21 = .ok (.aload_n 0, 1) := by decide +kernel
theorem dX3_changeBySlide_22 : decode cX3_changeBySlide 22 = .ok (.getfield 10, 3) := by decide +kernel
theorem dX3_changeBySlide_25 : decode cX3_changeBySlide 25 = .ok (.getfield 207, 3) := by decide +kernel
theorem dX3_changeBySlide_28 : decode cX3_changeBySlide 28 = .ok (.iload_n 1, 1) := by decide +kernel
theorem dX3_changeBySlide_29 : decode cX3_changeBySlide 29 = .ok (.iaload, 1) := by decide +kernel
theorem dX3_changeBySlide_30 : decode cX3_changeBySlide 30 = .ok (.ireturn, 1) := by decide +kernel
theorem dX3_stepsOf_0 : decode cX3_stepsOf 0 = .ok (.aload_n 0, 1) := by decide +kernel
theorem dX3_stepsOf_1 : decode cX3_stepsOf 1 = .ok (.getfield 10, 3) := by decide +kernel
theorem dX3_stepsOf_4 : decode cX3_stepsOf 4 = .ok (.iload_n 1, 1) := by decide +kernel
theorem dX3_stepsOf_5 : decode cX3_stepsOf 5 = .ok (.invokevirtual 161, 3) := by decide +kernel
theorem dX3_stepsOf_8 : decode cX3_stepsOf 8 = .ok (.ifCond .ne 13, 3) := by decide +kernel
theorem dX3_stepsOf_11 : decode cX3_stepsOf 11 = .ok (.new 164, 3) := by decide +kernel
theorem dX3_stepsOf_14 : decode cX3_stepsOf 14 = .ok (.dup, 1) := by decide +kernel
theorem dX3_stepsOf_15 : decode cX3_stepsOf 15 = .ok (.ldc 166, 2) := by decide +kernel
theorem dX3_stepsOf_17 : decode cX3_stepsOf 17 = .ok (.invokespecial 168, 3) := by decide +kernel
theorem dX3_stepsOf_20 : decode cX3_stepsOf 20 = .ok (.athrow, 1) := by decide +kernel
theorem dX3_stepsOf_21 : decode cX3_stepsOf 21 = .ok (.aload_n 0, 1) := by decide +kernel
theorem dX3_stepsOf_22 : decode cX3_stepsOf 22 = .ok (.getfield 10, 3) := by decide +kernel
theorem dX3_stepsOf_25 : decode cX3_stepsOf 25 = .ok (.iload_n 1, 1) := by decide +kernel
theorem dX3_stepsOf_26 : decode cX3_stepsOf 26 = .ok (.invokevirtual 210, 3) := by decide +kernel
theorem dX3_stepsOf_29 : decode cX3_stepsOf 29 = .ok (.ireturn, 1) := by decide +kernel
theorem dX3_fuel_0 : decode cX3_fuel 0 = .ok (.aload_n 0, 1) := by decide +kernel
theorem dX3_fuel_1 : decode cX3_fuel 1 = .ok (.getfield 10, 3) := by decide +kernel
theorem dX3_fuel_4 : decode cX3_fuel 4 = .ok (.invokevirtual 213, 3) := by decide +kernel
theorem dX3_fuel_7 : decode cX3_fuel 7 = .ok (.ireturn, 1) := by decide +kernel
theorem dX3_fuelByCars_0 : decode cX3_fuelByCars 0 = .ok (.aload_n 0, 1) := by decide +kernel
theorem dX3_fuelByCars_1 : decode cX3_fuelByCars 1 = .ok (.getfield 10, 3) := by decide +kernel
theorem dX3_fuelByCars_4 : decode cX3_fuelByCars 4 = .ok (.invokevirtual 216, 3) := by decide +kernel
theorem dX3_fuelByCars_7 : decode cX3_fuelByCars 7 = .ok (.ireturn, 1) := by decide +kernel
theorem dX3_fewestSlides_0 : decode cX3_fewestSlides 0 = .ok (.aload_n 0, 1) := by decide +kernel
theorem dX3_fewestSlides_1 : decode cX3_fewestSlides 1 = .ok (.invokevirtual 219, 3) := by decide +kernel
theorem dX3_fewestSlides_4 : decode cX3_fewestSlides 4 = .ok (.aload_n 0, 1) := by decide +kernel
theorem dX3_fewestSlides_5 : decode cX3_fewestSlides 5 = .ok (.getfield 26, 3) := by decide +kernel
theorem dX3_fewestSlides_8 : decode cX3_fewestSlides 8 = .ok (.invokevirtual 222, 3) := by decide +kernel
theorem dX3_fewestSlides_11 : decode cX3_fewestSlides 11 = .ok (.ireturn, 1) := by decide +kernel
theorem dX3_fewestSlidesFromEnds_0 : decode cX3_fewestSlidesFromEnds 0 = .ok (.aload_n 0, 1) := by decide +kernel
theorem dX3_fewestSlidesFromEnds_1 : decode cX3_fewestSlidesFromEnds 1 = .ok (.invokevirtual 219, 3) := by decide +kernel
theorem dX3_fewestSlidesFromEnds_4 : decode cX3_fewestSlidesFromEnds 4 = .ok (.aload_n 0, 1) := by decide +kernel
theorem dX3_fewestSlidesFromEnds_5 : decode cX3_fewestSlidesFromEnds 5 = .ok (.getfield 26, 3) := by decide +kernel
theorem dX3_fewestSlidesFromEnds_8 : decode cX3_fewestSlidesFromEnds 8 = .ok (.invokevirtual 225, 3) := by decide +kernel
theorem dX3_fewestSlidesFromEnds_11 : decode cX3_fewestSlidesFromEnds 11 = .ok (.ireturn, 1) := by decide +kernel
theorem dX3_fewestSteps_0 : decode cX3_fewestSteps 0 = .ok (.aload_n 0, 1) := by decide +kernel
theorem dX3_fewestSteps_1 : decode cX3_fewestSteps 1 = .ok (.invokevirtual 219, 3) := by decide +kernel
theorem dX3_fewestSteps_4 : decode cX3_fewestSteps 4 = .ok (.aload_n 0, 1) := by decide +kernel
theorem dX3_fewestSteps_5 : decode cX3_fewestSteps 5 = .ok (.getfield 26, 3) := by decide +kernel
theorem dX3_fewestSteps_8 : decode cX3_fewestSteps 8 = .ok (.invokevirtual 228, 3) := by decide +kernel
theorem dX3_fewestSteps_11 : decode cX3_fewestSteps 11 = .ok (.ireturn, 1) := by decide +kernel
theorem dX3_leastFuel_0 : decode cX3_leastFuel 0 = .ok (.aload_n 0, 1) := by decide +kernel
theorem dX3_leastFuel_1 : decode cX3_leastFuel 1 = .ok (.invokevirtual 219, 3) := by decide +kernel
theorem dX3_leastFuel_4 : decode cX3_leastFuel 4 = .ok (.aload_n 0, 1) := by decide +kernel
theorem dX3_leastFuel_5 : decode cX3_leastFuel 5 = .ok (.getfield 26, 3) := by decide +kernel
theorem dX3_leastFuel_8 : decode cX3_leastFuel 8 = .ok (.invokevirtual 231, 3) := by decide +kernel
theorem dX3_leastFuel_11 : decode cX3_leastFuel 11 = .ok (.ireturn, 1) := by decide +kernel
theorem dX3_leastFuelByRounds_0 : decode cX3_leastFuelByRounds 0 = .ok (.aload_n 0, 1) := by decide +kernel
theorem dX3_leastFuelByRounds_1 : decode cX3_leastFuelByRounds 1 = .ok (.invokevirtual 219, 3) := by decide +kernel
theorem dX3_leastFuelByRounds_4 : decode cX3_leastFuelByRounds 4 = .ok (.aload_n 0, 1) := by decide +kernel
theorem dX3_leastFuelByRounds_5 : decode cX3_leastFuelByRounds 5 = .ok (.getfield 26, 3) := by decide +kernel
theorem dX3_leastFuelByRounds_8 : decode cX3_leastFuelByRounds 8 = .ok (.invokevirtual 234, 3) := by decide +kernel
theorem dX3_leastFuelByRounds_11 : decode cX3_leastFuelByRounds 11 = .ok (.ireturn, 1) := by decide +kernel
theorem dX3_nextCar_0 : decode cX3_nextCar 0 = .ok (.aload_n 0, 1) := by decide +kernel
theorem dX3_nextCar_1 : decode cX3_nextCar 1 = .ok (.invokevirtual 237, 3) := by decide +kernel
theorem dX3_nextCar_4 : decode cX3_nextCar 4 = .ok (.ifCond .ne 13, 3) := by decide +kernel
theorem dX3_nextCar_7 : decode cX3_nextCar 7 = .ok (.new 62, 3) := by decide +kernel
theorem dX3_nextCar_10 : decode cX3_nextCar 10 = .ok (.dup, 1) := by decide +kernel
theorem dX3_nextCar_11 : decode cX3_nextCar 11 = .ok (.ldc 240, 2) := by decide +kernel
theorem dX3_nextCar_13 : decode cX3_nextCar 13 = .ok (.invokespecial 66, 3) := by decide +kernel
theorem dX3_nextCar_16 : decode cX3_nextCar 16 = .ok (.athrow, 1) := by decide +kernel
theorem dX3_nextCar_17 : decode cX3_nextCar 17 = .ok (.aload_n 0, 1) := by decide +kernel
theorem dX3_nextCar_18 : decode cX3_nextCar 18 = .ok (.getfield 26, 3) := by decide +kernel
theorem dX3_nextCar_21 : decode cX3_nextCar 21 = .ok (.getfield 242, 3) := by decide +kernel
theorem dX3_nextCar_24 : decode cX3_nextCar 24 = .ok (.ireturn, 1) := by decide +kernel
theorem dX3_nextChange_0 : decode cX3_nextChange 0 = .ok (.aload_n 0, 1) := by decide +kernel
theorem dX3_nextChange_1 : decode cX3_nextChange 1 = .ok (.invokevirtual 237, 3) := by decide +kernel
theorem dX3_nextChange_4 : decode cX3_nextChange 4 = .ok (.ifCond .ne 13, 3) := by decide +kernel
theorem dX3_nextChange_7 : decode cX3_nextChange 7 = .ok (.new 62, 3) := by decide +kernel
theorem dX3_nextChange_10 : decode cX3_nextChange 10 = .ok (.dup, 1) := by decide +kernel
theorem dX3_nextChange_11 : decode cX3_nextChange 11 = .ok (.ldc 240, 2) := by decide +kernel
theorem dX3_nextChange_13 : decode cX3_nextChange 13 = .ok (.invokespecial 66, 3) := by decide +kernel
theorem dX3_nextChange_16 : decode cX3_nextChange 16 = .ok (.athrow, 1) := by decide +kernel
theorem dX3_nextChange_17 : decode cX3_nextChange 17 = .ok (.aload_n 0, 1) := by decide +kernel
theorem dX3_nextChange_18 : decode cX3_nextChange 18 = .ok (.getfield 26, 3) := by decide +kernel
theorem dX3_nextChange_21 : decode cX3_nextChange 21 = .ok (.getfield 245, 3) := by decide +kernel
theorem dX3_nextChange_24 : decode cX3_nextChange 24 = .ok (.ireturn, 1) := by decide +kernel
theorem dX3_reachable_0 : decode cX3_reachable 0 = .ok (.aload_n 0, 1) := by decide +kernel
theorem dX3_reachable_1 : decode cX3_reachable 1 = .ok (.invokevirtual 219, 3) := by decide +kernel
theorem dX3_reachable_4 : decode cX3_reachable 4 = .ok (.aload_n 0, 1) := by decide +kernel
theorem dX3_reachable_5 : decode cX3_reachable 5 = .ok (.getfield 26, 3) := by decide +kernel
theorem dX3_reachable_8 : decode cX3_reachable 8 = .ok (.iconst 3, 1) := by decide +kernel
theorem dX3_reachable_9 : decode cX3_reachable 9 = .ok (.invokevirtual 248, 3) := by decide +kernel
theorem dX3_reachable_12 : decode cX3_reachable 12 = .ok (.aload_n 0, 1) := by decide +kernel
theorem dX3_reachable_13 : decode cX3_reachable 13 = .ok (.getfield 26, 3) := by decide +kernel
theorem dX3_reachable_16 : decode cX3_reachable 16 = .ok (.getfield 251, 3) := by decide +kernel
theorem dX3_reachable_19 : decode cX3_reachable 19 = .ok (.ireturn, 1) := by decide +kernel
theorem dX3_reachableOut_0 : decode cX3_reachableOut 0 = .ok (.aload_n 0, 1) := by decide +kernel
theorem dX3_reachableOut_1 : decode cX3_reachableOut 1 = .ok (.invokevirtual 219, 3) := by decide +kernel
theorem dX3_reachableOut_4 : decode cX3_reachableOut 4 = .ok (.aload_n 0, 1) := by decide +kernel
theorem dX3_reachableOut_5 : decode cX3_reachableOut 5 = .ok (.getfield 26, 3) := by decide +kernel
theorem dX3_reachableOut_8 : decode cX3_reachableOut 8 = .ok (.iconst 3, 1) := by decide +kernel
theorem dX3_reachableOut_9 : decode cX3_reachableOut 9 = .ok (.invokevirtual 248, 3) := by decide +kernel
theorem dX3_reachableOut_12 : decode cX3_reachableOut 12 = .ok (.aload_n 0, 1) := by decide +kernel
theorem dX3_reachableOut_13 : decode cX3_reachableOut 13 = .ok (.getfield 26, 3) := by decide +kernel
theorem dX3_reachableOut_16 : decode cX3_reachableOut 16 = .ok (.invokevirtual 254, 3) := by decide +kernel
theorem dX3_reachableOut_19 : decode cX3_reachableOut 19 = .ok (.ireturn, 1) := by decide +kernel
theorem dX3_farthest_0 : decode cX3_farthest 0 = .ok (.aload_n 0, 1) := by decide +kernel
theorem dX3_farthest_1 : decode cX3_farthest 1 = .ok (.invokevirtual 219, 3) := by decide +kernel
theorem dX3_farthest_4 : decode cX3_farthest 4 = .ok (.aload_n 0, 1) := by decide +kernel
theorem dX3_farthest_5 : decode cX3_farthest 5 = .ok (.getfield 26, 3) := by decide +kernel
theorem dX3_farthest_8 : decode cX3_farthest 8 = .ok (.iconst 3, 1) := by decide +kernel
theorem dX3_farthest_9 : decode cX3_farthest 9 = .ok (.invokevirtual 248, 3) := by decide +kernel
theorem dX3_farthest_12 : decode cX3_farthest 12 = .ok (.aload_n 0, 1) := by decide +kernel
theorem dX3_farthest_13 : decode cX3_farthest 13 = .ok (.getfield 26, 3) := by decide +kernel
theorem dX3_farthest_16 : decode cX3_farthest 16 = .ok (.invokevirtual 257, 3) := by decide +kernel
theorem dX3_farthest_19 : decode cX3_farthest 19 = .ok (.ireturn, 1) := by decide +kernel
theorem dX3_arrangements_0 : decode cX3_arrangements 0 = .ok (.aload_n 0, 1) := by decide +kernel
theorem dX3_arrangements_1 : decode cX3_arrangements 1 = .ok (.invokevirtual 219, 3) := by decide +kernel
theorem dX3_arrangements_4 : decode cX3_arrangements 4 = .ok (.aload_n 0, 1) := by decide +kernel
theorem dX3_arrangements_5 : decode cX3_arrangements 5 = .ok (.getfield 26, 3) := by decide +kernel
theorem dX3_arrangements_8 : decode cX3_arrangements 8 = .ok (.invokevirtual 260, 3) := by decide +kernel
theorem dX3_arrangements_11 : decode cX3_arrangements 11 = .ok (.ireturn, 1) := by decide +kernel
theorem dX3_fewestBehind_0 : decode cX3_fewestBehind 0 = .ok (.aload_n 0, 1) := by decide +kernel
theorem dX3_fewestBehind_1 : decode cX3_fewestBehind 1 = .ok (.getfield 10, 3) := by decide +kernel
theorem dX3_fewestBehind_4 : decode cX3_fewestBehind 4 = .ok (.iload_n 1, 1) := by decide +kernel
theorem dX3_fewestBehind_5 : decode cX3_fewestBehind 5 = .ok (.iload_n 2, 1) := by decide +kernel
theorem dX3_fewestBehind_6 : decode cX3_fewestBehind 6 = .ok (.invokevirtual 81, 3) := by decide +kernel
theorem dX3_fewestBehind_9 : decode cX3_fewestBehind 9 = .ok (.invokestatic 49, 3) := by decide +kernel
theorem dX3_fewestBehind_12 : decode cX3_fewestBehind 12 = .ok (.aload_n 0, 1) := by decide +kernel
theorem dX3_fewestBehind_13 : decode cX3_fewestBehind 13 = .ok (.invokevirtual 219, 3) := by decide +kernel
theorem dX3_fewestBehind_16 : decode cX3_fewestBehind 16 = .ok (.aload_n 0, 1) := by decide +kernel
theorem dX3_fewestBehind_17 : decode cX3_fewestBehind 17 = .ok (.getfield 26, 3) := by decide +kernel
theorem dX3_fewestBehind_20 : decode cX3_fewestBehind 20 = .ok (.aload_n 0, 1) := by decide +kernel
theorem dX3_fewestBehind_21 : decode cX3_fewestBehind 21 = .ok (.getfield 26, 3) := by decide +kernel
theorem dX3_fewestBehind_24 : decode cX3_fewestBehind 24 = .ok (.aload_n 0, 1) := by decide +kernel
theorem dX3_fewestBehind_25 : decode cX3_fewestBehind 25 = .ok (.getfield 26, 3) := by decide +kernel
theorem dX3_fewestBehind_28 : decode cX3_fewestBehind 28 = .ok (.getfield 263, 3) := by decide +kernel
theorem dX3_fewestBehind_31 : decode cX3_fewestBehind 31 = .ok (.iload_n 1, 1) := by decide +kernel
theorem dX3_fewestBehind_32 : decode cX3_fewestBehind 32 = .ok (.iload_n 2, 1) := by decide +kernel
theorem dX3_fewestBehind_33 : decode cX3_fewestBehind 33 = .ok (.invokevirtual 266, 3) := by decide +kernel
theorem dX3_fewestBehind_36 : decode cX3_fewestBehind 36 = .ok (.putfield 263, 3) := by decide +kernel
theorem dX3_fewestBehind_39 : decode cX3_fewestBehind 39 = .ok (.aload_n 0, 1) := by decide +kernel
theorem dX3_fewestBehind_40 : decode cX3_fewestBehind 40 = .ok (.getfield 26, 3) := by decide +kernel
theorem dX3_fewestBehind_43 : decode cX3_fewestBehind 43 = .ok (.invokevirtual 222, 3) := by decide +kernel
theorem dX3_fewestBehind_46 : decode cX3_fewestBehind 46 = .ok (.ireturn, 1) := by decide +kernel
theorem dX3_fewestWithoutLast_0 : decode cX3_fewestWithoutLast 0 = .ok (.aload_n 0, 1) := by decide +kernel
theorem dX3_fewestWithoutLast_1 : decode cX3_fewestWithoutLast 1 = .ok (.getfield 10, 3) := by decide +kernel
theorem dX3_fewestWithoutLast_4 : decode cX3_fewestWithoutLast 4 = .ok (.getfield 59, 3) := by decide +kernel
theorem dX3_fewestWithoutLast_7 : decode cX3_fewestWithoutLast 7 = .ok (.iconst 2, 1) := by decide +kernel
theorem dX3_fewestWithoutLast_8 : decode cX3_fewestWithoutLast 8 = .ok (.if_icmp .ge 14, 3) := by decide +kernel
theorem dX3_fewestWithoutLast_11 : decode cX3_fewestWithoutLast 11 = .ok (.new 62, 3) := by decide +kernel
theorem dX3_fewestWithoutLast_14 : decode cX3_fewestWithoutLast 14 = .ok (.dup, 1) := by decide +kernel
theorem dX3_fewestWithoutLast_15 : decode cX3_fewestWithoutLast 15 = .ok (.ldc_w 269, 3) := by decide +kernel
theorem dX3_fewestWithoutLast_18 : decode cX3_fewestWithoutLast 18 = .ok (.invokespecial 66, 3) := by decide +kernel
theorem dX3_fewestWithoutLast_21 : decode cX3_fewestWithoutLast 21 = .ok (.athrow, 1) := by decide +kernel
theorem dX3_fewestWithoutLast_22 : decode cX3_fewestWithoutLast 22 = .ok (.aload_n 0, 1) := by decide +kernel
theorem dX3_fewestWithoutLast_23 : decode cX3_fewestWithoutLast 23 = .ok (.getfield 26, 3) := by decide +kernel
theorem dX3_fewestWithoutLast_26 : decode cX3_fewestWithoutLast 26 = .ok (.aload_n 0, 1) := by decide +kernel
theorem dX3_fewestWithoutLast_27 : decode cX3_fewestWithoutLast 27 = .ok (.getfield 10, 3) := by decide +kernel
theorem dX3_fewestWithoutLast_30 : decode cX3_fewestWithoutLast 30 = .ok (.aload_n 0, 1) := by decide +kernel
theorem dX3_fewestWithoutLast_31 : decode cX3_fewestWithoutLast 31 = .ok (.getfield 10, 3) := by decide +kernel
theorem dX3_fewestWithoutLast_34 : decode cX3_fewestWithoutLast 34 = .ok (.getfield 59, 3) := by decide +kernel
theorem dX3_fewestWithoutLast_37 : decode cX3_fewestWithoutLast 37 = .ok (.iconst 1, 1) := by decide +kernel
theorem dX3_fewestWithoutLast_38 : decode cX3_fewestWithoutLast 38 = .ok (.isub, 1) := by decide +kernel
theorem dX3_fewestWithoutLast_39 : decode cX3_fewestWithoutLast 39 = .ok (.aload_n 0, 1) := by decide +kernel
theorem dX3_fewestWithoutLast_40 : decode cX3_fewestWithoutLast 40 = .ok (.getfield 10, 3) := by decide +kernel
theorem dX3_fewestWithoutLast_43 : decode cX3_fewestWithoutLast 43 = .ok (.getfield 153, 3) := by decide +kernel
theorem dX3_fewestWithoutLast_46 : decode cX3_fewestWithoutLast 46 = .ok (.invokevirtual 271, 3) := by decide +kernel
theorem dX3_fewestWithoutLast_49 : decode cX3_fewestWithoutLast 49 = .ok (.aload_n 0, 1) := by decide +kernel
theorem dX3_fewestWithoutLast_50 : decode cX3_fewestWithoutLast 50 = .ok (.getfield 26, 3) := by decide +kernel
theorem dX3_fewestWithoutLast_53 : decode cX3_fewestWithoutLast 53 = .ok (.invokevirtual 222, 3) := by decide +kernel
theorem dX3_fewestWithoutLast_56 : decode cX3_fewestWithoutLast 56 = .ok (.ireturn, 1) := by decide +kernel
theorem dX3_fewestWithWall_0 : decode cX3_fewestWithWall 0 = .ok (.iload_n 1, 1) := by decide +kernel
theorem dX3_fewestWithWall_1 : decode cX3_fewestWithWall 1 = .ok (.invokestatic 179, 3) := by decide +kernel
theorem dX3_fewestWithWall_4 : decode cX3_fewestWithWall 4 = .ok (.ifCond .ne 13, 3) := by decide +kernel
theorem dX3_fewestWithWall_7 : decode cX3_fewestWithWall 7 = .ok (.new 164, 3) := by decide +kernel
theorem dX3_fewestWithWall_10 : decode cX3_fewestWithWall 10 = .ok (.dup, 1) := by decide +kernel
theorem dX3_fewestWithWall_11 : decode cX3_fewestWithWall 11 = .ok (.ldc 182, 2) := by decide +kernel
theorem dX3_fewestWithWall_13 : decode cX3_fewestWithWall 13 = .ok (.invokespecial 168, 3) := by decide +kernel
theorem dX3_fewestWithWall_16 : decode cX3_fewestWithWall 16 = .ok (.athrow, 1) := by decide +kernel
theorem dX3_fewestWithWall_17 : decode cX3_fewestWithWall 17 = .ok (.aload_n 0, 1) := by decide +kernel
theorem dX3_fewestWithWall_18 : decode cX3_fewestWithWall 18 = .ok (.getfield 10, 3) := by decide +kernel
theorem dX3_fewestWithWall_21 : decode cX3_fewestWithWall 21 = .ok (.invokevirtual 190, 3) := by decide +kernel
theorem dX3_fewestWithWall_24 : decode cX3_fewestWithWall 24 = .ok (.iconst 1, 1) := by decide +kernel
theorem dX3_fewestWithWall_25 : decode cX3_fewestWithWall 25 = .ok (.iload_n 1, 1) := by decide +kernel
theorem dX3_fewestWithWall_26 : decode cX3_fewestWithWall 26 = .ok (.ishl, 1) := by decide +kernel
theorem dX3_fewestWithWall_27 : decode cX3_fewestWithWall 27 = .ok (.iand, 1) := by decide +kernel
theorem dX3_fewestWithWall_28 : decode cX3_fewestWithWall 28 = .ok (.ifCond .eq 14, 3) := by decide +kernel
theorem dX3_fewestWithWall_31 : decode cX3_fewestWithWall 31 = .ok (.new 62, 3) := by decide +kernel
theorem dX3_fewestWithWall_34 : decode cX3_fewestWithWall 34 = .ok (.dup, 1) := by decide +kernel
theorem dX3_fewestWithWall_35 : decode cX3_fewestWithWall 35 = .ok (.ldc_w 275, 3) := by decide +kernel
theorem dX3_fewestWithWall_38 : decode cX3_fewestWithWall 38 = .ok (.invokespecial 66, 3) := by decide +kernel
theorem dX3_fewestWithWall_41 : decode cX3_fewestWithWall 41 = .ok (.athrow, 1) := by decide +kernel
theorem dX3_fewestWithWall_42 : decode cX3_fewestWithWall 42 = .ok (.aload_n 0, 1) := by decide +kernel
theorem dX3_fewestWithWall_43 : decode cX3_fewestWithWall 43 = .ok (.getfield 26, 3) := by decide +kernel
theorem dX3_fewestWithWall_46 : decode cX3_fewestWithWall 46 = .ok (.aload_n 0, 1) := by decide +kernel
theorem dX3_fewestWithWall_47 : decode cX3_fewestWithWall 47 = .ok (.getfield 10, 3) := by decide +kernel
theorem dX3_fewestWithWall_50 : decode cX3_fewestWithWall 50 = .ok (.aload_n 0, 1) := by decide +kernel
theorem dX3_fewestWithWall_51 : decode cX3_fewestWithWall 51 = .ok (.getfield 10, 3) := by decide +kernel
theorem dX3_fewestWithWall_54 : decode cX3_fewestWithWall 54 = .ok (.getfield 59, 3) := by decide +kernel
theorem dX3_fewestWithWall_57 : decode cX3_fewestWithWall 57 = .ok (.aload_n 0, 1) := by decide +kernel
theorem dX3_fewestWithWall_58 : decode cX3_fewestWithWall 58 = .ok (.getfield 10, 3) := by decide +kernel
theorem dX3_fewestWithWall_61 : decode cX3_fewestWithWall 61 = .ok (.getfield 153, 3) := by decide +kernel
theorem dX3_fewestWithWall_64 : decode cX3_fewestWithWall 64 = .ok (.iconst 1, 1) := by decide +kernel
theorem dX3_fewestWithWall_65 : decode cX3_fewestWithWall 65 = .ok (.iload_n 1, 1) := by decide +kernel
theorem dX3_fewestWithWall_66 : decode cX3_fewestWithWall 66 = .ok (.ishl, 1) := by decide +kernel
theorem dX3_fewestWithWall_67 : decode cX3_fewestWithWall 67 = .ok (.ior, 1) := by decide +kernel
theorem dX3_fewestWithWall_68 : decode cX3_fewestWithWall 68 = .ok (.invokevirtual 271, 3) := by decide +kernel
theorem dX3_fewestWithWall_71 : decode cX3_fewestWithWall 71 = .ok (.aload_n 0, 1) := by decide +kernel
theorem dX3_fewestWithWall_72 : decode cX3_fewestWithWall 72 = .ok (.getfield 26, 3) := by decide +kernel
theorem dX3_fewestWithWall_75 : decode cX3_fewestWithWall 75 = .ok (.invokevirtual 222, 3) := by decide +kernel
theorem dX3_fewestWithWall_78 : decode cX3_fewestWithWall 78 = .ok (.ireturn, 1) := by decide +kernel
theorem dX3_reachedShare_0 : decode cX3_reachedShare 0 = .ok (.aload_n 0, 1) := by decide +kernel
theorem dX3_reachedShare_1 : decode cX3_reachedShare 1 = .ok (.invokevirtual 219, 3) := by decide +kernel
theorem dX3_reachedShare_4 : decode cX3_reachedShare 4 = .ok (.aload_n 0, 1) := by decide +kernel
theorem dX3_reachedShare_5 : decode cX3_reachedShare 5 = .ok (.getfield 26, 3) := by decide +kernel
theorem dX3_reachedShare_8 : decode cX3_reachedShare 8 = .ok (.iconst 3, 1) := by decide +kernel
theorem dX3_reachedShare_9 : decode cX3_reachedShare 9 = .ok (.invokevirtual 248, 3) := by decide +kernel
theorem dX3_reachedShare_12 : decode cX3_reachedShare 12 = .ok (.aload_n 0, 1) := by decide +kernel
theorem dX3_reachedShare_13 : decode cX3_reachedShare 13 = .ok (.getfield 26, 3) := by decide +kernel
theorem dX3_reachedShare_16 : decode cX3_reachedShare 16 = .ok (.getfield 251, 3) := by decide +kernel
theorem dX3_reachedShare_19 : decode cX3_reachedShare 19 = .ok (.aload_n 0, 1) := by decide +kernel
theorem dX3_reachedShare_20 : decode cX3_reachedShare 20 = .ok (.getfield 26, 3) := by decide +kernel
theorem dX3_reachedShare_23 : decode cX3_reachedShare 23 = .ok (.invokevirtual 260, 3) := by decide +kernel
theorem dX3_reachedShare_26 : decode cX3_reachedShare 26 = .ok (.invokestatic 277, 3) := by decide +kernel
theorem dX3_reachedShare_29 : decode cX3_reachedShare 29 = .ok (.dreturn, 1) := by decide +kernel
theorem dX3_digest_0 : decode cX3_digest 0 = .ok (.aload_n 0, 1) := by decide +kernel
theorem dX3_digest_1 : decode cX3_digest 1 = .ok (.ldc2_w 281, 3) := by decide +kernel
theorem dX3_digest_4 : decode cX3_digest 4 = .ok (.invokevirtual 283, 3) := by decide +kernel
theorem dX3_digest_7 : decode cX3_digest 7 = .ok (.lstore_n 1, 1) := by decide +kernel
theorem dX3_digest_8 : decode cX3_digest 8 = .ok (.aload_n 0, 1) := by decide +kernel
theorem dX3_digest_9 : decode cX3_digest 9 = .ok (.invokevirtual 219, 3) := by decide +kernel
theorem dX3_digest_12 : decode cX3_digest 12 = .ok (.aload_n 0, 1) := by decide +kernel
theorem dX3_digest_13 : decode cX3_digest 13 = .ok (.lload_n 1, 1) := by decide +kernel
theorem dX3_digest_14 : decode cX3_digest 14 = .ok (.invokevirtual 287, 3) := by decide +kernel
theorem dX3_digest_17 : decode cX3_digest 17 = .ok (.lstore_n 1, 1) := by decide +kernel
theorem dX3_digest_18 : decode cX3_digest 18 = .ok (.aload_n 0, 1) := by decide +kernel
theorem dX3_digest_19 : decode cX3_digest 19 = .ok (.getfield 26, 3) := by decide +kernel
theorem dX3_digest_22 : decode cX3_digest 22 = .ok (.iconst 3, 1) := by decide +kernel
theorem dX3_digest_23 : decode cX3_digest 23 = .ok (.invokevirtual 248, 3) := by decide +kernel
theorem dX3_digest_26 : decode cX3_digest 26 = .ok (.aload_n 0, 1) := by decide +kernel
theorem dX3_digest_27 : decode cX3_digest 27 = .ok (.lload_n 1, 1) := by decide +kernel
theorem dX3_digest_28 : decode cX3_digest 28 = .ok (.invokevirtual 290, 3) := by decide +kernel
theorem dX3_digest_31 : decode cX3_digest 31 = .ok (.lstore_n 1, 1) := by decide +kernel
theorem dX3_digest_32 : decode cX3_digest 32 = .ok (.lload_n 1, 1) := by decide +kernel
theorem dX3_digest_33 : decode cX3_digest 33 = .ok (.aload_n 0, 1) := by decide +kernel
theorem dX3_digest_34 : decode cX3_digest 34 = .ok (.getfield 37, 3) := by decide +kernel
theorem dX3_digest_37 : decode cX3_digest 37 = .ok (.i2l, 1) := by decide +kernel
theorem dX3_digest_38 : decode cX3_digest 38 = .ok (.invokestatic 293, 3) := by decide +kernel
theorem dX3_digest_41 : decode cX3_digest 41 = .ok (.lstore_n 1, 1) := by decide +kernel
theorem dX3_digest_42 : decode cX3_digest 42 = .ok (.aload_n 0, 1) := by decide +kernel
theorem dX3_digest_43 : decode cX3_digest 43 = .ok (.lload_n 1, 1) := by decide +kernel
theorem dX3_digest_44 : decode cX3_digest 44 = .ok (.invokevirtual 297, 3) := by decide +kernel
theorem dX3_digest_47 : decode cX3_digest 47 = .ok (.lstore_n 1, 1) := by decide +kernel
theorem dX3_digest_48 : decode cX3_digest 48 = .ok (.aload_n 0, 1) := by decide +kernel
theorem dX3_digest_49 : decode cX3_digest 49 = .ok (.lload_n 1, 1) := by decide +kernel
theorem dX3_digest_50 : decode cX3_digest 50 = .ok (.invokevirtual 300, 3) := by decide +kernel
theorem dX3_digest_53 : decode cX3_digest 53 = .ok (.lstore_n 1, 1) := by decide +kernel
theorem dX3_digest_54 : decode cX3_digest 54 = .ok (.aload_n 0, 1) := by decide +kernel
theorem dX3_digest_55 : decode cX3_digest 55 = .ok (.lload_n 1, 1) := by decide +kernel
theorem dX3_digest_56 : decode cX3_digest 56 = .ok (.invokevirtual 303, 3) := by decide +kernel
theorem dX3_digest_59 : decode cX3_digest 59 = .ok (.lstore_n 1, 1) := by decide +kernel
theorem dX3_digest_60 : decode cX3_digest 60 = .ok (.lload_n 1, 1) := by decide +kernel
theorem dX3_digest_61 : decode cX3_digest 61 = .ok (.aload_n 0, 1) := by decide +kernel
theorem dX3_digest_62 : decode cX3_digest 62 = .ok (.getfield 10, 3) := by decide +kernel
theorem dX3_digest_65 : decode cX3_digest 65 = .ok (.getfield 137, 3) := by decide +kernel
theorem dX3_digest_68 : decode cX3_digest 68 = .ok (.ifCond .eq 7, 3) := by decide +kernel
theorem dX3_digest_71 : decode cX3_digest 71 = .ok (.lconst 1, 1) := by decide +kernel
theorem dX3_digest_72 : decode cX3_digest 72 = .ok (.goto 4, 3) := by decide +kernel
theorem dX3_digest_75 : decode cX3_digest 75 = .ok (.lconst 0, 1) := by decide +kernel
theorem dX3_digest_76 : decode cX3_digest 76 = .ok (.invokestatic 293, 3) := by decide +kernel
theorem dX3_digest_79 : decode cX3_digest 79 = .ok (.lstore_n 1, 1) := by decide +kernel
theorem dX3_digest_80 : decode cX3_digest 80 = .ok (.aload_n 0, 1) := by decide +kernel
theorem dX3_digest_81 : decode cX3_digest 81 = .ok (.getfield 10, 3) := by decide +kernel
theorem dX3_digest_84 : decode cX3_digest 84 = .ok (.getfield 137, 3) := by decide +kernel
theorem dX3_digest_87 : decode cX3_digest 87 = .ok (.ifCond .eq 16, 3) := by decide +kernel
theorem dX3_digest_90 : decode cX3_digest 90 = .ok (.lload_n 1, 1) := by decide +kernel
theorem dX3_digest_91 : decode cX3_digest 91 = .ok (.aload_n 0, 1) := by decide +kernel
theorem dX3_digest_92 : decode cX3_digest 92 = .ok (.getfield 10, 3) := by decide +kernel
theorem dX3_digest_95 : decode cX3_digest 95 = .ok (.getfield 140, 3) := by decide +kernel
theorem dX3_digest_98 : decode cX3_digest 98 = .ok (.i2l, 1) := by decide +kernel
theorem dX3_digest_99 : decode cX3_digest 99 = .ok (.invokestatic 293, 3) := by decide +kernel
theorem dX3_digest_102 : decode cX3_digest 102 = .ok (.lstore_n 1, 1) := by decide +kernel
theorem dX3_digest_103 : decode cX3_digest 103 = .ok (.lload_n 1, 1) := by decide +kernel
theorem dX3_digest_104 : decode cX3_digest 104 = .ok (.aload_n 0, 1) := by decide +kernel
theorem dX3_digest_105 : decode cX3_digest 105 = .ok (.getfield 26, 3) := by decide +kernel
theorem dX3_digest_108 : decode cX3_digest 108 = .ok (.getfield 251, 3) := by decide +kernel
theorem dX3_digest_111 : decode cX3_digest 111 = .ok (.aload_n 0, 1) := by decide +kernel
theorem dX3_digest_112 : decode cX3_digest 112 = .ok (.getfield 26, 3) := by decide +kernel
theorem dX3_digest_115 : decode cX3_digest 115 = .ok (.invokevirtual 260, 3) := by decide +kernel
theorem dX3_digest_118 : decode cX3_digest 118 = .ok (.invokestatic 277, 3) := by decide +kernel
theorem dX3_digest_121 : decode cX3_digest 121 = .ok (.invokestatic 306, 3) := by decide +kernel
theorem dX3_digest_124 : decode cX3_digest 124 = .ok (.invokestatic 293, 3) := by decide +kernel
theorem dX3_digest_127 : decode cX3_digest 127 = .ok (.lstore_n 1, 1) := by decide +kernel
theorem dX3_digest_128 : decode cX3_digest 128 = .ok (.aload_n 0, 1) := by decide +kernel
theorem dX3_digest_129 : decode cX3_digest 129 = .ok (.lload_n 1, 1) := by decide +kernel
theorem dX3_digest_130 : decode cX3_digest 130 = .ok (.invokevirtual 310, 3) := by decide +kernel
theorem dX3_digest_133 : decode cX3_digest 133 = .ok (.lreturn, 1) := by decide +kernel
theorem dX3_refuse_0 : decode cX3_refuse 0 = .ok (.iload_n 0, 1) := by decide +kernel
theorem dX3_refuse_1 : decode cX3_refuse 1 = .ok (.iconst 1, 1) := by decide +kernel
theorem dX3_refuse_2 : decode cX3_refuse 2 = .ok (.if_icmp .ne 14, 3) := by decide +kernel
theorem dX3_refuse_5 : decode cX3_refuse 5 = .ok (.new 164, 3) := by decide +kernel
theorem dX3_refuse_8 : decode cX3_refuse 8 = .ok (.dup, 1) := by decide +kernel
theorem dX3_refuse_9 : decode cX3_refuse 9 = .ok (.ldc_w 313, 3) := by decide +kernel
theorem dX3_refuse_12 : decode cX3_refuse 12 = .ok (.invokespecial 168, 3) := by decide +kernel
theorem dX3_refuse_15 : decode cX3_refuse 15 = .ok (.athrow, 1) := by decide +kernel
theorem dX3_refuse_16 : decode cX3_refuse 16 = .ok (.iload_n 0, 1) := by decide +kernel
theorem dX3_refuse_17 : decode cX3_refuse 17 = .ok (.iconst 2, 1) := by decide +kernel
theorem dX3_refuse_18 : decode cX3_refuse 18 = .ok (.if_icmp .ne 14, 3) := by decide +kernel
theorem dX3_refuse_21 : decode cX3_refuse 21 = .ok (.new 106, 3) := by decide +kernel
theorem dX3_refuse_24 : decode cX3_refuse 24 = .ok (.dup, 1) := by decide +kernel
theorem dX3_refuse_25 : decode cX3_refuse 25 = .ok (.ldc_w 315, 3) := by decide +kernel
theorem dX3_refuse_28 : decode cX3_refuse 28 = .ok (.invokespecial 110, 3) := by decide +kernel
theorem dX3_refuse_31 : decode cX3_refuse 31 = .ok (.athrow, 1) := by decide +kernel
theorem dX3_refuse_32 : decode cX3_refuse 32 = .ok (.iload_n 0, 1) := by decide +kernel
theorem dX3_refuse_33 : decode cX3_refuse 33 = .ok (.iconst 3, 1) := by decide +kernel
theorem dX3_refuse_34 : decode cX3_refuse 34 = .ok (.if_icmp .ne 14, 3) := by decide +kernel
theorem dX3_refuse_37 : decode cX3_refuse 37 = .ok (.new 62, 3) := by decide +kernel
theorem dX3_refuse_40 : decode cX3_refuse 40 = .ok (.dup, 1) := by decide +kernel
theorem dX3_refuse_41 : decode cX3_refuse 41 = .ok (.ldc_w 317, 3) := by decide +kernel
theorem dX3_refuse_44 : decode cX3_refuse 44 = .ok (.invokespecial 66, 3) := by decide +kernel
theorem dX3_refuse_47 : decode cX3_refuse 47 = .ok (.athrow, 1) := by decide +kernel
theorem dX3_refuse_48 : decode cX3_refuse 48 = .ok (.return_, 1) := by decide +kernel
theorem dX3_copy_0 : decode cX3_copy 0 = .ok (.aload_n 0, 1) := by decide +kernel
theorem dX3_copy_1 : decode cX3_copy 1 = .ok (.ifnull 12, 3) := by decide +kernel
theorem dX3_copy_4 : decode cX3_copy 4 = .ok (.aload_n 1, 1) := by decide +kernel
theorem dX3_copy_5 : decode cX3_copy 5 = .ok (.ifnull 8, 3) := by decide +kernel
theorem dX3_copy_8 : decode cX3_copy 8 = .ok (.aload_n 1, 1) := by decide +kernel
theorem dX3_copy_9 : decode cX3_copy 9 = .ok (.aload_n 0, 1) := by decide +kernel
theorem dX3_copy_10 : decode cX3_copy 10 = .ok (.invokevirtual 319, 3) := by decide +kernel
theorem dX3_copy_13 : decode cX3_copy 13 = .ok (.return_, 1) := by decide +kernel
theorem dX3_save_0 : decode cX3_save 0 = .ok (.aload_n 0, 1) := by decide +kernel
theorem dX3_save_1 : decode cX3_save 1 = .ok (.getfield 37, 3) := by decide +kernel
theorem dX3_save_4 : decode cX3_save 4 = .ok (.iconst 5, 1) := by decide +kernel
theorem dX3_save_5 : decode cX3_save 5 = .ok (.if_icmp .lt 7, 3) := by decide +kernel
theorem dX3_save_8 : decode cX3_save 8 = .ok (.aload_n 0, 1) := by decide +kernel
theorem dX3_save_9 : decode cX3_save 9 = .ok (.invokevirtual 323, 3) := by decide +kernel
theorem dX3_save_12 : decode cX3_save 12 = .ok (.aload_n 0, 1) := by decide +kernel
theorem dX3_save_13 : decode cX3_save 13 = .ok (.getfield 10, 3) := by decide +kernel
theorem dX3_save_16 : decode cX3_save 16 = .ok (.aload_n 0, 1) := by decide +kernel
theorem dX3_save_17 : decode cX3_save 17 = .ok (.getfield 19, 3) := by decide +kernel
theorem dX3_save_20 : decode cX3_save 20 = .ok (.aload_n 0, 1) := by decide +kernel
theorem dX3_save_21 : decode cX3_save 21 = .ok (.getfield 37, 3) := by decide +kernel
theorem dX3_save_24 : decode cX3_save 24 = .ok (.aaload, 1) := by decide +kernel
theorem dX3_save_25 : decode cX3_save 25 = .ok (.invokestatic 147, 3) := by decide +kernel
theorem dX3_save_28 : decode cX3_save 28 = .ok (.aload_n 0, 1) := by decide +kernel
theorem dX3_save_29 : decode cX3_save 29 = .ok (.dup, 1) := by decide +kernel
theorem dX3_save_30 : decode cX3_save 30 = .ok (.getfield 37, 3) := by decide +kernel
theorem dX3_save_33 : decode cX3_save 33 = .ok (.iconst 1, 1) := by decide +kernel
theorem dX3_save_34 : decode cX3_save 34 = .ok (.iadd, 1) := by decide +kernel
theorem dX3_save_35 : decode cX3_save 35 = .ok (.putfield 37, 3) := by decide +kernel
theorem dX3_save_38 : decode cX3_save 38 = .ok (.return_, 1) := by decide +kernel
theorem dX3_dropOldestSaved_0 : decode cX3_dropOldestSaved 0 = .ok (.aload_n 0, 1) := by decide +kernel
theorem dX3_dropOldestSaved_1 : decode cX3_dropOldestSaved 1 = .ok (.getfield 19, 3) := by decide +kernel
theorem dX3_dropOldestSaved_4 : decode cX3_dropOldestSaved 4 = .ok (.iconst 0, 1) := by decide +kernel
theorem dX3_dropOldestSaved_5 : decode cX3_dropOldestSaved 5 = .ok (.aaload, 1) := by decide +kernel
theorem dX3_dropOldestSaved_6 : decode cX3_dropOldestSaved 6 = .ok (.astore_n 1, 1) := by decide +kernel
theorem dX3_dropOldestSaved_7 : decode cX3_dropOldestSaved 7 = .ok (.iconst 1, 1) := by decide +kernel
theorem dX3_dropOldestSaved_8 : decode cX3_dropOldestSaved 8 = .ok (.istore_n 2, 1) := by decide +kernel
theorem dX3_dropOldestSaved_9 : decode cX3_dropOldestSaved 9 = .ok (.iload_n 2, 1) := by decide +kernel
theorem dX3_dropOldestSaved_10 : decode cX3_dropOldestSaved 10 = .ok (.iconst 5, 1) := by decide +kernel
theorem dX3_dropOldestSaved_11 : decode cX3_dropOldestSaved 11 = .ok (.if_icmp .ge 23, 3) := by decide +kernel
theorem dX3_dropOldestSaved_14 : decode cX3_dropOldestSaved 14 = .ok (.aload_n 0, 1) := by decide +kernel
theorem dX3_dropOldestSaved_15 : decode cX3_dropOldestSaved 15 = .ok (.getfield 19, 3) := by decide +kernel
theorem dX3_dropOldestSaved_18 : decode cX3_dropOldestSaved 18 = .ok (.iload_n 2, 1) := by decide +kernel
theorem dX3_dropOldestSaved_19 : decode cX3_dropOldestSaved 19 = .ok (.iconst 1, 1) := by decide +kernel
theorem dX3_dropOldestSaved_20 : decode cX3_dropOldestSaved 20 = .ok (.isub, 1) := by decide +kernel
theorem dX3_dropOldestSaved_21 : decode cX3_dropOldestSaved 21 = .ok (.aload_n 0, 1) := by decide +kernel
theorem dX3_dropOldestSaved_22 : decode cX3_dropOldestSaved 22 = .ok (.getfield 19, 3) := by decide +kernel
theorem dX3_dropOldestSaved_25 : decode cX3_dropOldestSaved 25 = .ok (.iload_n 2, 1) := by decide +kernel
theorem dX3_dropOldestSaved_26 : decode cX3_dropOldestSaved 26 = .ok (.aaload, 1) := by decide +kernel
theorem dX3_dropOldestSaved_27 : decode cX3_dropOldestSaved 27 = .ok (.aastore, 1) := by decide +kernel
theorem dX3_dropOldestSaved_28 : decode cX3_dropOldestSaved 28 = .ok (.iinc 2 1, 3) := by decide +kernel
theorem dX3_dropOldestSaved_31 : decode cX3_dropOldestSaved 31 = .ok (.goto (-22), 3) := by decide +kernel
theorem dX3_dropOldestSaved_34 : decode cX3_dropOldestSaved 34 = .ok (.aload_n 0, 1) := by decide +kernel
theorem dX3_dropOldestSaved_35 : decode cX3_dropOldestSaved 35 = .ok (.getfield 19, 3) := by decide +kernel
theorem dX3_dropOldestSaved_38 : decode cX3_dropOldestSaved 38 = .ok (.iconst 4, 1) := by decide +kernel
theorem dX3_dropOldestSaved_39 : decode cX3_dropOldestSaved 39 = .ok (.aload_n 1, 1) := by decide +kernel
theorem dX3_dropOldestSaved_40 : decode cX3_dropOldestSaved 40 = .ok (.aastore, 1) := by decide +kernel
theorem dX3_dropOldestSaved_41 : decode cX3_dropOldestSaved 41 = .ok (.aload_n 0, 1) := by decide +kernel
theorem dX3_dropOldestSaved_42 : decode cX3_dropOldestSaved 42 = .ok (.iconst 4, 1) := by decide +kernel
theorem dX3_dropOldestSaved_43 : decode cX3_dropOldestSaved 43 = .ok (.putfield 37, 3) := by decide +kernel
theorem dX3_dropOldestSaved_46 : decode cX3_dropOldestSaved 46 = .ok (.return_, 1) := by decide +kernel
theorem dX3_exploreNow_0 : decode cX3_exploreNow 0 = .ok (.aload_n 0, 1) := by decide +kernel
theorem dX3_exploreNow_1 : decode cX3_exploreNow 1 = .ok (.getfield 26, 3) := by decide +kernel
theorem dX3_exploreNow_4 : decode cX3_exploreNow 4 = .ok (.aload_n 0, 1) := by decide +kernel
theorem dX3_exploreNow_5 : decode cX3_exploreNow 5 = .ok (.getfield 10, 3) := by decide +kernel
theorem dX3_exploreNow_8 : decode cX3_exploreNow 8 = .ok (.aload_n 0, 1) := by decide +kernel
theorem dX3_exploreNow_9 : decode cX3_exploreNow 9 = .ok (.getfield 10, 3) := by decide +kernel
theorem dX3_exploreNow_12 : decode cX3_exploreNow 12 = .ok (.getfield 59, 3) := by decide +kernel
theorem dX3_exploreNow_15 : decode cX3_exploreNow 15 = .ok (.aload_n 0, 1) := by decide +kernel
theorem dX3_exploreNow_16 : decode cX3_exploreNow 16 = .ok (.getfield 10, 3) := by decide +kernel
theorem dX3_exploreNow_19 : decode cX3_exploreNow 19 = .ok (.getfield 153, 3) := by decide +kernel
theorem dX3_exploreNow_22 : decode cX3_exploreNow 22 = .ok (.invokevirtual 271, 3) := by decide +kernel
theorem dX3_exploreNow_25 : decode cX3_exploreNow 25 = .ok (.return_, 1) := by decide +kernel
theorem dX3_hasNextSlide_0 : decode cX3_hasNextSlide 0 = .ok (.aload_n 0, 1) := by decide +kernel
theorem dX3_hasNextSlide_1 : decode cX3_hasNextSlide 1 = .ok (.invokevirtual 219, 3) := by decide +kernel
theorem dX3_hasNextSlide_4 : decode cX3_hasNextSlide 4 = .ok (.aload_n 0, 1) := by decide +kernel
theorem dX3_hasNextSlide_5 : decode cX3_hasNextSlide 5 = .ok (.getfield 26, 3) := by decide +kernel
theorem dX3_hasNextSlide_8 : decode cX3_hasNextSlide 8 = .ok (.invokevirtual 225, 3) := by decide +kernel
theorem dX3_hasNextSlide_11 : decode cX3_hasNextSlide 11 = .ok (.pop, 1) := by decide +kernel
theorem dX3_hasNextSlide_12 : decode cX3_hasNextSlide 12 = .ok (.aload_n 0, 1) := by decide +kernel
theorem dX3_hasNextSlide_13 : decode cX3_hasNextSlide 13 = .ok (.getfield 26, 3) := by decide +kernel
theorem dX3_hasNextSlide_16 : decode cX3_hasNextSlide 16 = .ok (.aload_n 0, 1) := by decide +kernel
end
section
theorem dX3_hasNextSlide_17 : decode cX3_hasNextSlide 17 = .ok (.getfield 26, 3) := by decide +kernel
theorem dX3_hasNextSlide_20 : decode cX3_hasNextSlide 20 = .ok (.getfield 263, 3) := by decide +kernel
theorem dX3_hasNextSlide_23 : decode cX3_hasNextSlide 23 = .ok (.invokevirtual 326, 3) := by decide +kernel
theorem dX3_hasNextSlide_26 : decode cX3_hasNextSlide 26 = .ok (.ireturn, 1) := by decide +kernel
theorem dX3_slidesToDriveOut_0 : decode cX3_slidesToDriveOut 0 = .ok (.aload_n 0, 1) := by decide +kernel
theorem dX3_slidesToDriveOut_1 : decode cX3_slidesToDriveOut 1 = .ok (.invokevirtual 219, 3) := by decide +kernel
theorem dX3_slidesToDriveOut_4 : decode cX3_slidesToDriveOut 4 = .ok (.aload_n 0, 1) := by decide +kernel
theorem dX3_slidesToDriveOut_5 : decode cX3_slidesToDriveOut 5 = .ok (.getfield 26, 3) := by decide +kernel
theorem dX3_slidesToDriveOut_8 : decode cX3_slidesToDriveOut 8 = .ok (.invokevirtual 225, 3) := by decide +kernel
theorem dX3_slidesToDriveOut_11 : decode cX3_slidesToDriveOut 11 = .ok (.istore_n 1, 1) := by decide +kernel
theorem dX3_slidesToDriveOut_12 : decode cX3_slidesToDriveOut 12 = .ok (.aload_n 0, 1) := by decide +kernel
theorem dX3_slidesToDriveOut_13 : decode cX3_slidesToDriveOut 13 = .ok (.getfield 10, 3) := by decide +kernel
theorem dX3_slidesToDriveOut_16 : decode cX3_slidesToDriveOut 16 = .ok (.getfield 85, 3) := by decide +kernel
theorem dX3_slidesToDriveOut_19 : decode cX3_slidesToDriveOut 19 = .ok (.iload_n 1, 1) := by decide +kernel
theorem dX3_slidesToDriveOut_20 : decode cX3_slidesToDriveOut 20 = .ok (.iadd, 1) := by decide +kernel
theorem dX3_slidesToDriveOut_21 : decode cX3_slidesToDriveOut 21 = .ok (.bipush 60, 2) := by decide +kernel
theorem dX3_slidesToDriveOut_23 : decode cX3_slidesToDriveOut 23 = .ok (.if_icmp .le 7, 3) := by decide +kernel
theorem dX3_slidesToDriveOut_26 : decode cX3_slidesToDriveOut 26 = .ok (.iconst (-1), 1) := by decide +kernel
theorem dX3_slidesToDriveOut_27 : decode cX3_slidesToDriveOut 27 = .ok (.goto 4, 3) := by decide +kernel
theorem dX3_slidesToDriveOut_30 : decode cX3_slidesToDriveOut 30 = .ok (.iload_n 1, 1) := by decide +kernel
theorem dX3_slidesToDriveOut_31 : decode cX3_slidesToDriveOut 31 = .ok (.ireturn, 1) := by decide +kernel
theorem dX3_makePlan_0 : decode cX3_makePlan 0 = .ok (.aload_n 0, 1) := by decide +kernel
theorem dX3_makePlan_1 : decode cX3_makePlan 1 = .ok (.getfield 26, 3) := by decide +kernel
theorem dX3_makePlan_4 : decode cX3_makePlan 4 = .ok (.getfield 263, 3) := by decide +kernel
theorem dX3_makePlan_7 : decode cX3_makePlan 7 = .ok (.istore_n 2, 1) := by decide +kernel
theorem dX3_makePlan_8 : decode cX3_makePlan 8 = .ok (.iconst 0, 1) := by decide +kernel
theorem dX3_makePlan_9 : decode cX3_makePlan 9 = .ok (.istore_n 3, 1) := by decide +kernel
theorem dX3_makePlan_10 : decode cX3_makePlan 10 = .ok (.iload_n 3, 1) := by decide +kernel
theorem dX3_makePlan_11 : decode cX3_makePlan 11 = .ok (.iload_n 1, 1) := by decide +kernel
theorem dX3_makePlan_12 : decode cX3_makePlan 12 = .ok (.if_icmp .ge 63, 3) := by decide +kernel
theorem dX3_makePlan_15 : decode cX3_makePlan 15 = .ok (.aload_n 0, 1) := by decide +kernel
theorem dX3_makePlan_16 : decode cX3_makePlan 16 = .ok (.getfield 26, 3) := by decide +kernel
theorem dX3_makePlan_19 : decode cX3_makePlan 19 = .ok (.iload_n 2, 1) := by decide +kernel
theorem dX3_makePlan_20 : decode cX3_makePlan 20 = .ok (.invokevirtual 326, 3) := by decide +kernel
theorem dX3_makePlan_23 : decode cX3_makePlan 23 = .ok (.ifCond .eq 52, 3) := by decide +kernel
theorem dX3_makePlan_26 : decode cX3_makePlan 26 = .ok (.aload_n 0, 1) := by decide +kernel
theorem dX3_makePlan_27 : decode cX3_makePlan 27 = .ok (.getfield 26, 3) := by decide +kernel
theorem dX3_makePlan_30 : decode cX3_makePlan 30 = .ok (.getfield 242, 3) := by decide +kernel
theorem dX3_makePlan_33 : decode cX3_makePlan 33 = .ok (.istore 4, 2) := by decide +kernel
theorem dX3_makePlan_35 : decode cX3_makePlan 35 = .ok (.aload_n 0, 1) := by decide +kernel
theorem dX3_makePlan_36 : decode cX3_makePlan 36 = .ok (.getfield 26, 3) := by decide +kernel
theorem dX3_makePlan_39 : decode cX3_makePlan 39 = .ok (.getfield 245, 3) := by decide +kernel
theorem dX3_makePlan_42 : decode cX3_makePlan 42 = .ok (.istore 5, 2) := by decide +kernel
theorem dX3_makePlan_44 : decode cX3_makePlan 44 = .ok (.aload_n 0, 1) := by decide +kernel
theorem dX3_makePlan_45 : decode cX3_makePlan 45 = .ok (.getfield 10, 3) := by decide +kernel
theorem dX3_makePlan_48 : decode cX3_makePlan 48 = .ok (.iload 4, 2) := by decide +kernel
theorem dX3_makePlan_50 : decode cX3_makePlan 50 = .ok (.iload 5, 2) := by decide +kernel
theorem dX3_makePlan_52 : decode cX3_makePlan 52 = .ok (.invokevirtual 90, 3) := by decide +kernel
theorem dX3_makePlan_55 : decode cX3_makePlan 55 = .ok (.pop, 1) := by decide +kernel
theorem dX3_makePlan_56 : decode cX3_makePlan 56 = .ok (.aload_n 0, 1) := by decide +kernel
theorem dX3_makePlan_57 : decode cX3_makePlan 57 = .ok (.getfield 26, 3) := by decide +kernel
theorem dX3_makePlan_60 : decode cX3_makePlan 60 = .ok (.iload_n 2, 1) := by decide +kernel
theorem dX3_makePlan_61 : decode cX3_makePlan 61 = .ok (.iload 4, 2) := by decide +kernel
theorem dX3_makePlan_63 : decode cX3_makePlan 63 = .ok (.iload 5, 2) := by decide +kernel
theorem dX3_makePlan_65 : decode cX3_makePlan 65 = .ok (.invokevirtual 266, 3) := by decide +kernel
theorem dX3_makePlan_68 : decode cX3_makePlan 68 = .ok (.istore_n 2, 1) := by decide +kernel
theorem dX3_makePlan_69 : decode cX3_makePlan 69 = .ok (.iinc 3 1, 3) := by decide +kernel
theorem dX3_makePlan_72 : decode cX3_makePlan 72 = .ok (.goto (-62), 3) := by decide +kernel
theorem dX3_makePlan_75 : decode cX3_makePlan 75 = .ok (.iload_n 1, 1) := by decide +kernel
theorem dX3_makePlan_76 : decode cX3_makePlan 76 = .ok (.ifCond .lt 7, 3) := by decide +kernel
theorem dX3_makePlan_79 : decode cX3_makePlan 79 = .ok (.iconst 1, 1) := by decide +kernel
theorem dX3_makePlan_80 : decode cX3_makePlan 80 = .ok (.goto 4, 3) := by decide +kernel
theorem dX3_makePlan_83 : decode cX3_makePlan 83 = .ok (.iconst 0, 1) := by decide +kernel
theorem dX3_makePlan_84 : decode cX3_makePlan 84 = .ok (.ireturn, 1) := by decide +kernel
theorem dX3_tryPart_0 : decode cX3_tryPart 0 = .ok (.aload_n 0, 1) := by decide +kernel
theorem dX3_tryPart_1 : decode cX3_tryPart 1 = .ok (.getfield 33, 3) := by decide +kernel
theorem dX3_tryPart_4 : decode cX3_tryPart 4 = .ok (.iload_n 1, 1) := by decide +kernel
theorem dX3_tryPart_5 : decode cX3_tryPart 5 = .ok (.invokevirtual 329, 3) := by decide +kernel
theorem dX3_tryPart_8 : decode cX3_tryPart 8 = .ok (.lookupswitch 153 #[(98, 139), (100, 144), (104, 52), (118, 87), (119, 124)], 52) := by decide +kernel
theorem dX3_tryPart_60 : decode cX3_tryPart 60 = .ok (.aload_n 0, 1) := by decide +kernel
theorem dX3_tryPart_61 : decode cX3_tryPart 61 = .ok (.aload_n 0, 1) := by decide +kernel
theorem dX3_tryPart_62 : decode cX3_tryPart 62 = .ok (.getfield 33, 3) := by decide +kernel
theorem dX3_tryPart_65 : decode cX3_tryPart 65 = .ok (.iload_n 1, 1) := by decide +kernel
theorem dX3_tryPart_66 : decode cX3_tryPart 66 = .ok (.iconst 1, 1) := by decide +kernel
theorem dX3_tryPart_67 : decode cX3_tryPart 67 = .ok (.iadd, 1) := by decide +kernel
theorem dX3_tryPart_68 : decode cX3_tryPart 68 = .ok (.invokevirtual 332, 3) := by decide +kernel
theorem dX3_tryPart_71 : decode cX3_tryPart 71 = .ok (.aload_n 0, 1) := by decide +kernel
theorem dX3_tryPart_72 : decode cX3_tryPart 72 = .ok (.getfield 33, 3) := by decide +kernel
theorem dX3_tryPart_75 : decode cX3_tryPart 75 = .ok (.iload_n 1, 1) := by decide +kernel
theorem dX3_tryPart_76 : decode cX3_tryPart 76 = .ok (.iconst 3, 1) := by decide +kernel
theorem dX3_tryPart_77 : decode cX3_tryPart 77 = .ok (.iadd, 1) := by decide +kernel
theorem dX3_tryPart_78 : decode cX3_tryPart 78 = .ok (.invokevirtual 332, 3) := by decide +kernel
theorem dX3_tryPart_81 : decode cX3_tryPart 81 = .ok (.aload_n 0, 1) := by decide +kernel
theorem dX3_tryPart_82 : decode cX3_tryPart 82 = .ok (.getfield 33, 3) := by decide +kernel
theorem dX3_tryPart_85 : decode cX3_tryPart 85 = .ok (.iload_n 1, 1) := by decide +kernel
theorem dX3_tryPart_86 : decode cX3_tryPart 86 = .ok (.iconst 5, 1) := by decide +kernel
theorem dX3_tryPart_87 : decode cX3_tryPart 87 = .ok (.iadd, 1) := by decide +kernel
theorem dX3_tryPart_88 : decode cX3_tryPart 88 = .ok (.invokevirtual 332, 3) := by decide +kernel
theorem dX3_tryPart_91 : decode cX3_tryPart 91 = .ok (.invokevirtual 335, 3) := by decide +kernel
theorem dX3_tryPart_94 : decode cX3_tryPart 94 = .ok (.ireturn, 1) := by decide +kernel
theorem dX3_tryPart_95 : decode cX3_tryPart 95 = .ok (.aload_n 0, 1) := by decide +kernel
theorem dX3_tryPart_96 : decode cX3_tryPart 96 = .ok (.iconst 5, 1) := by decide +kernel
theorem dX3_tryPart_97 : decode cX3_tryPart 97 = .ok (.aload_n 0, 1) := by decide +kernel
theorem dX3_tryPart_98 : decode cX3_tryPart 98 = .ok (.getfield 33, 3) := by decide +kernel
theorem dX3_tryPart_101 : decode cX3_tryPart 101 = .ok (.iload_n 1, 1) := by decide +kernel
theorem dX3_tryPart_102 : decode cX3_tryPart 102 = .ok (.iconst 1, 1) := by decide +kernel
theorem dX3_tryPart_103 : decode cX3_tryPart 103 = .ok (.iadd, 1) := by decide +kernel
theorem dX3_tryPart_104 : decode cX3_tryPart 104 = .ok (.invokevirtual 332, 3) := by decide +kernel
theorem dX3_tryPart_107 : decode cX3_tryPart 107 = .ok (.iadd, 1) := by decide +kernel
theorem dX3_tryPart_108 : decode cX3_tryPart 108 = .ok (.aload_n 0, 1) := by decide +kernel
theorem dX3_tryPart_109 : decode cX3_tryPart 109 = .ok (.getfield 33, 3) := by decide +kernel
theorem dX3_tryPart_112 : decode cX3_tryPart 112 = .ok (.iload_n 1, 1) := by decide +kernel
theorem dX3_tryPart_113 : decode cX3_tryPart 113 = .ok (.iconst 3, 1) := by decide +kernel
theorem dX3_tryPart_114 : decode cX3_tryPart 114 = .ok (.iadd, 1) := by decide +kernel
theorem dX3_tryPart_115 : decode cX3_tryPart 115 = .ok (.invokevirtual 332, 3) := by decide +kernel
theorem dX3_tryPart_118 : decode cX3_tryPart 118 = .ok (.aload_n 0, 1) := by decide +kernel
theorem dX3_tryPart_119 : decode cX3_tryPart 119 = .ok (.getfield 33, 3) := by decide +kernel
theorem dX3_tryPart_122 : decode cX3_tryPart 122 = .ok (.iload_n 1, 1) := by decide +kernel
theorem dX3_tryPart_123 : decode cX3_tryPart 123 = .ok (.iconst 5, 1) := by decide +kernel
theorem dX3_tryPart_124 : decode cX3_tryPart 124 = .ok (.iadd, 1) := by decide +kernel
theorem dX3_tryPart_125 : decode cX3_tryPart 125 = .ok (.invokevirtual 332, 3) := by decide +kernel
theorem dX3_tryPart_128 : decode cX3_tryPart 128 = .ok (.invokevirtual 335, 3) := by decide +kernel
theorem dX3_tryPart_131 : decode cX3_tryPart 131 = .ok (.ireturn, 1) := by decide +kernel
theorem dX3_tryPart_132 : decode cX3_tryPart 132 = .ok (.aload_n 0, 1) := by decide +kernel
theorem dX3_tryPart_133 : decode cX3_tryPart 133 = .ok (.aload_n 0, 1) := by decide +kernel
theorem dX3_tryPart_134 : decode cX3_tryPart 134 = .ok (.getfield 33, 3) := by decide +kernel
theorem dX3_tryPart_137 : decode cX3_tryPart 137 = .ok (.iload_n 1, 1) := by decide +kernel
theorem dX3_tryPart_138 : decode cX3_tryPart 138 = .ok (.iconst 1, 1) := by decide +kernel
theorem dX3_tryPart_139 : decode cX3_tryPart 139 = .ok (.iadd, 1) := by decide +kernel
theorem dX3_tryPart_140 : decode cX3_tryPart 140 = .ok (.invokevirtual 339, 3) := by decide +kernel
theorem dX3_tryPart_143 : decode cX3_tryPart 143 = .ok (.invokevirtual 342, 3) := by decide +kernel
theorem dX3_tryPart_146 : decode cX3_tryPart 146 = .ok (.ireturn, 1) := by decide +kernel
theorem dX3_tryPart_147 : decode cX3_tryPart 147 = .ok (.aload_n 0, 1) := by decide +kernel
theorem dX3_tryPart_148 : decode cX3_tryPart 148 = .ok (.invokevirtual 345, 3) := by decide +kernel
theorem dX3_tryPart_151 : decode cX3_tryPart 151 = .ok (.ireturn, 1) := by decide +kernel
theorem dX3_tryPart_152 : decode cX3_tryPart 152 = .ok (.aload_n 0, 1) := by decide +kernel
theorem dX3_tryPart_153 : decode cX3_tryPart 153 = .ok (.aload_n 0, 1) := by decide +kernel
theorem dX3_tryPart_154 : decode cX3_tryPart 154 = .ok (.invokevirtual 98, 3) := by decide +kernel
theorem dX3_tryPart_157 : decode cX3_tryPart 157 = .ok (.invokevirtual 103, 3) := by decide +kernel
theorem dX3_tryPart_160 : decode cX3_tryPart 160 = .ok (.ireturn, 1) := by decide +kernel
theorem dX3_tryPart_161 : decode cX3_tryPart 161 = .ok (.aload_n 0, 1) := by decide +kernel
theorem dX3_tryPart_162 : decode cX3_tryPart 162 = .ok (.aload_n 0, 1) := by decide +kernel
theorem dX3_tryPart_163 : decode cX3_tryPart 163 = .ok (.getfield 33, 3) := by decide +kernel
theorem dX3_tryPart_166 : decode cX3_tryPart 166 = .ok (.iload_n 1, 1) := by decide +kernel
theorem dX3_tryPart_167 : decode cX3_tryPart 167 = .ok (.invokevirtual 332, 3) := by decide +kernel
theorem dX3_tryPart_170 : decode cX3_tryPart 170 = .ok (.aload_n 0, 1) := by decide +kernel
theorem dX3_tryPart_171 : decode cX3_tryPart 171 = .ok (.getfield 33, 3) := by decide +kernel
theorem dX3_tryPart_174 : decode cX3_tryPart 174 = .ok (.iload_n 1, 1) := by decide +kernel
theorem dX3_tryPart_175 : decode cX3_tryPart 175 = .ok (.iconst 1, 1) := by decide +kernel
theorem dX3_tryPart_176 : decode cX3_tryPart 176 = .ok (.iadd, 1) := by decide +kernel
theorem dX3_tryPart_177 : decode cX3_tryPart 177 = .ok (.invokevirtual 348, 3) := by decide +kernel
theorem dX3_tryPart_180 : decode cX3_tryPart 180 = .ok (.aload_n 0, 1) := by decide +kernel
theorem dX3_tryPart_181 : decode cX3_tryPart 181 = .ok (.getfield 33, 3) := by decide +kernel
theorem dX3_tryPart_184 : decode cX3_tryPart 184 = .ok (.iload_n 1, 1) := by decide +kernel
theorem dX3_tryPart_185 : decode cX3_tryPart 185 = .ok (.iconst 2, 1) := by decide +kernel
theorem dX3_tryPart_186 : decode cX3_tryPart 186 = .ok (.iadd, 1) := by decide +kernel
theorem dX3_tryPart_187 : decode cX3_tryPart 187 = .ok (.invokevirtual 332, 3) := by decide +kernel
theorem dX3_tryPart_190 : decode cX3_tryPart 190 = .ok (.imul, 1) := by decide +kernel
theorem dX3_tryPart_191 : decode cX3_tryPart 191 = .ok (.invokevirtual 351, 3) := by decide +kernel
theorem dX3_tryPart_194 : decode cX3_tryPart 194 = .ok (.ireturn, 1) := by decide +kernel
theorem dX3_tryEntering_0 : decode cX3_tryEntering 0 = .ok (.aload_n 0, 1) := by decide +kernel
theorem dX3_tryEntering_1 : decode cX3_tryEntering 1 = .ok (.getfield 10, 3) := by decide +kernel
theorem dX3_tryEntering_4 : decode cX3_tryEntering 4 = .ok (.iload_n 1, 1) := by decide +kernel
theorem dX3_tryEntering_5 : decode cX3_tryEntering 5 = .ok (.iload_n 2, 1) := by decide +kernel
theorem dX3_tryEntering_6 : decode cX3_tryEntering 6 = .ok (.iload_n 3, 1) := by decide +kernel
theorem dX3_tryEntering_7 : decode cX3_tryEntering 7 = .ok (.invokevirtual 45, 3) := by decide +kernel
theorem dX3_tryEntering_10 : decode cX3_tryEntering 10 = .ok (.ifCond .ne 7, 3) := by decide +kernel
theorem dX3_tryEntering_13 : decode cX3_tryEntering 13 = .ok (.iconst 1, 1) := by decide +kernel
theorem dX3_tryEntering_14 : decode cX3_tryEntering 14 = .ok (.goto 4, 3) := by decide +kernel
theorem dX3_tryEntering_17 : decode cX3_tryEntering 17 = .ok (.iconst 0, 1) := by decide +kernel
theorem dX3_tryEntering_18 : decode cX3_tryEntering 18 = .ok (.istore 4, 2) := by decide +kernel
theorem dX3_tryEntering_20 : decode cX3_tryEntering 20 = .ok (.iload 4, 2) := by decide +kernel
theorem dX3_tryEntering_22 : decode cX3_tryEntering 22 = .ok (.ifCond .eq 14, 3) := by decide +kernel
theorem dX3_tryEntering_25 : decode cX3_tryEntering 25 = .ok (.aload_n 0, 1) := by decide +kernel
theorem dX3_tryEntering_26 : decode cX3_tryEntering 26 = .ok (.getfield 10, 3) := by decide +kernel
theorem dX3_tryEntering_29 : decode cX3_tryEntering 29 = .ok (.iload_n 1, 1) := by decide +kernel
theorem dX3_tryEntering_30 : decode cX3_tryEntering 30 = .ok (.iload_n 2, 1) := by decide +kernel
theorem dX3_tryEntering_31 : decode cX3_tryEntering 31 = .ok (.iload_n 3, 1) := by decide +kernel
theorem dX3_tryEntering_32 : decode cX3_tryEntering 32 = .ok (.invokevirtual 56, 3) := by decide +kernel
theorem dX3_tryEntering_35 : decode cX3_tryEntering 35 = .ok (.pop, 1) := by decide +kernel
theorem dX3_tryEntering_36 : decode cX3_tryEntering 36 = .ok (.iload 4, 2) := by decide +kernel
theorem dX3_tryEntering_38 : decode cX3_tryEntering 38 = .ok (.ireturn, 1) := by decide +kernel
theorem dX3_tryWall_0 : decode cX3_tryWall 0 = .ok (.aload_n 0, 1) := by decide +kernel
theorem dX3_tryWall_1 : decode cX3_tryWall 1 = .ok (.getfield 10, 3) := by decide +kernel
theorem dX3_tryWall_4 : decode cX3_tryWall 4 = .ok (.iload_n 1, 1) := by decide +kernel
theorem dX3_tryWall_5 : decode cX3_tryWall 5 = .ok (.invokevirtual 73, 3) := by decide +kernel
theorem dX3_tryWall_8 : decode cX3_tryWall 8 = .ok (.ifCond .ne 7, 3) := by decide +kernel
theorem dX3_tryWall_11 : decode cX3_tryWall 11 = .ok (.iconst 1, 1) := by decide +kernel
theorem dX3_tryWall_12 : decode cX3_tryWall 12 = .ok (.goto 4, 3) := by decide +kernel
theorem dX3_tryWall_15 : decode cX3_tryWall 15 = .ok (.iconst 0, 1) := by decide +kernel
theorem dX3_tryWall_16 : decode cX3_tryWall 16 = .ok (.istore_n 2, 1) := by decide +kernel
theorem dX3_tryWall_17 : decode cX3_tryWall 17 = .ok (.iload_n 2, 1) := by decide +kernel
theorem dX3_tryWall_18 : decode cX3_tryWall 18 = .ok (.ifCond .eq 12, 3) := by decide +kernel
theorem dX3_tryWall_21 : decode cX3_tryWall 21 = .ok (.aload_n 0, 1) := by decide +kernel
theorem dX3_tryWall_22 : decode cX3_tryWall 22 = .ok (.getfield 10, 3) := by decide +kernel
theorem dX3_tryWall_25 : decode cX3_tryWall 25 = .ok (.iload_n 1, 1) := by decide +kernel
theorem dX3_tryWall_26 : decode cX3_tryWall 26 = .ok (.invokevirtual 77, 3) := by decide +kernel
theorem dX3_tryWall_29 : decode cX3_tryWall 29 = .ok (.pop, 1) := by decide +kernel
theorem dX3_tryWall_30 : decode cX3_tryWall 30 = .ok (.iload_n 2, 1) := by decide +kernel
theorem dX3_tryWall_31 : decode cX3_tryWall 31 = .ok (.ireturn, 1) := by decide +kernel
theorem dX3_trySliding_0 : decode cX3_trySliding 0 = .ok (.aload_n 0, 1) := by decide +kernel
theorem dX3_trySliding_1 : decode cX3_trySliding 1 = .ok (.getfield 10, 3) := by decide +kernel
theorem dX3_trySliding_4 : decode cX3_trySliding 4 = .ok (.iload_n 1, 1) := by decide +kernel
theorem dX3_trySliding_5 : decode cX3_trySliding 5 = .ok (.iload_n 2, 1) := by decide +kernel
theorem dX3_trySliding_6 : decode cX3_trySliding 6 = .ok (.invokevirtual 81, 3) := by decide +kernel
theorem dX3_trySliding_9 : decode cX3_trySliding 9 = .ok (.ifCond .ne 19, 3) := by decide +kernel
theorem dX3_trySliding_12 : decode cX3_trySliding 12 = .ok (.aload_n 0, 1) := by decide +kernel
theorem dX3_trySliding_13 : decode cX3_trySliding 13 = .ok (.getfield 10, 3) := by decide +kernel
theorem dX3_trySliding_16 : decode cX3_trySliding 16 = .ok (.getfield 85, 3) := by decide +kernel
theorem dX3_trySliding_19 : decode cX3_trySliding 19 = .ok (.bipush 60, 2) := by decide +kernel
theorem dX3_trySliding_21 : decode cX3_trySliding 21 = .ok (.if_icmp .ge 7, 3) := by decide +kernel
theorem dX3_trySliding_24 : decode cX3_trySliding 24 = .ok (.iconst 1, 1) := by decide +kernel
theorem dX3_trySliding_25 : decode cX3_trySliding 25 = .ok (.goto 4, 3) := by decide +kernel
theorem dX3_trySliding_28 : decode cX3_trySliding 28 = .ok (.iconst 0, 1) := by decide +kernel
theorem dX3_trySliding_29 : decode cX3_trySliding 29 = .ok (.istore_n 3, 1) := by decide +kernel
theorem dX3_trySliding_30 : decode cX3_trySliding 30 = .ok (.iload_n 3, 1) := by decide +kernel
theorem dX3_trySliding_31 : decode cX3_trySliding 31 = .ok (.ifCond .eq 13, 3) := by decide +kernel
theorem dX3_trySliding_34 : decode cX3_trySliding 34 = .ok (.aload_n 0, 1) := by decide +kernel
theorem dX3_trySliding_35 : decode cX3_trySliding 35 = .ok (.getfield 10, 3) := by decide +kernel
theorem dX3_trySliding_38 : decode cX3_trySliding 38 = .ok (.iload_n 1, 1) := by decide +kernel
theorem dX3_trySliding_39 : decode cX3_trySliding 39 = .ok (.iload_n 2, 1) := by decide +kernel
theorem dX3_trySliding_40 : decode cX3_trySliding 40 = .ok (.invokevirtual 90, 3) := by decide +kernel
theorem dX3_trySliding_43 : decode cX3_trySliding 43 = .ok (.pop, 1) := by decide +kernel
theorem dX3_trySliding_44 : decode cX3_trySliding 44 = .ok (.iload_n 3, 1) := by decide +kernel
theorem dX3_trySliding_45 : decode cX3_trySliding 45 = .ok (.ireturn, 1) := by decide +kernel
theorem dX3_tryTakingBack_0 : decode cX3_tryTakingBack 0 = .ok (.aload_n 0, 1) := by decide +kernel
theorem dX3_tryTakingBack_1 : decode cX3_tryTakingBack 1 = .ok (.getfield 10, 3) := by decide +kernel
theorem dX3_tryTakingBack_4 : decode cX3_tryTakingBack 4 = .ok (.getfield 85, 3) := by decide +kernel
theorem dX3_tryTakingBack_7 : decode cX3_tryTakingBack 7 = .ok (.ifCond .le 7, 3) := by decide +kernel
theorem dX3_tryTakingBack_10 : decode cX3_tryTakingBack 10 = .ok (.iconst 1, 1) := by decide +kernel
theorem dX3_tryTakingBack_11 : decode cX3_tryTakingBack 11 = .ok (.goto 4, 3) := by decide +kernel
theorem dX3_tryTakingBack_14 : decode cX3_tryTakingBack 14 = .ok (.iconst 0, 1) := by decide +kernel
theorem dX3_tryTakingBack_15 : decode cX3_tryTakingBack 15 = .ok (.istore_n 1, 1) := by decide +kernel
theorem dX3_tryTakingBack_16 : decode cX3_tryTakingBack 16 = .ok (.iload_n 1, 1) := by decide +kernel
theorem dX3_tryTakingBack_17 : decode cX3_tryTakingBack 17 = .ok (.ifCond .eq 11, 3) := by decide +kernel
theorem dX3_tryTakingBack_20 : decode cX3_tryTakingBack 20 = .ok (.aload_n 0, 1) := by decide +kernel
theorem dX3_tryTakingBack_21 : decode cX3_tryTakingBack 21 = .ok (.getfield 10, 3) := by decide +kernel
theorem dX3_tryTakingBack_24 : decode cX3_tryTakingBack 24 = .ok (.invokevirtual 95, 3) := by decide +kernel
theorem dX3_tryTakingBack_27 : decode cX3_tryTakingBack 27 = .ok (.pop, 1) := by decide +kernel
theorem dX3_tryTakingBack_28 : decode cX3_tryTakingBack 28 = .ok (.iload_n 1, 1) := by decide +kernel
theorem dX3_tryTakingBack_29 : decode cX3_tryTakingBack 29 = .ok (.ireturn, 1) := by decide +kernel
theorem dX3_isCell_0 : decode cX3_isCell 0 = .ok (.iload_n 0, 1) := by decide +kernel
theorem dX3_isCell_1 : decode cX3_isCell 1 = .ok (.ifCond .lt 13, 3) := by decide +kernel
theorem dX3_isCell_4 : decode cX3_isCell 4 = .ok (.iload_n 0, 1) := by decide +kernel
theorem dX3_isCell_5 : decode cX3_isCell 5 = .ok (.bipush 25, 2) := by decide +kernel
theorem dX3_isCell_7 : decode cX3_isCell 7 = .ok (.if_icmp .ge 7, 3) := by decide +kernel
theorem dX3_isCell_10 : decode cX3_isCell 10 = .ok (.iconst 1, 1) := by decide +kernel
theorem dX3_isCell_11 : decode cX3_isCell 11 = .ok (.goto 4, 3) := by decide +kernel
theorem dX3_isCell_14 : decode cX3_isCell 14 = .ok (.iconst 0, 1) := by decide +kernel
theorem dX3_isCell_15 : decode cX3_isCell 15 = .ok (.ireturn, 1) := by decide +kernel
theorem dX3_bitOf_0 : decode cX3_bitOf 0 = .ok (.iload_n 0, 1) := by decide +kernel
theorem dX3_bitOf_1 : decode cX3_bitOf 1 = .ok (.iconst 5, 1) := by decide +kernel
theorem dX3_bitOf_2 : decode cX3_bitOf 2 = .ok (.if_icmp .ge 13, 3) := by decide +kernel
theorem dX3_bitOf_5 : decode cX3_bitOf 5 = .ok (.iconst 1, 1) := by decide +kernel
theorem dX3_bitOf_6 : decode cX3_bitOf 6 = .ok (.iconst 5, 1) := by decide +kernel
theorem dX3_bitOf_7 : decode cX3_bitOf 7 = .ok (.iload_n 0, 1) := by decide +kernel
theorem dX3_bitOf_8 : decode cX3_bitOf 8 = .ok (.imul, 1) := by decide +kernel
theorem dX3_bitOf_9 : decode cX3_bitOf 9 = .ok (.iload_n 1, 1) := by decide +kernel
theorem dX3_bitOf_10 : decode cX3_bitOf 10 = .ok (.iadd, 1) := by decide +kernel
theorem dX3_bitOf_11 : decode cX3_bitOf 11 = .ok (.ishl, 1) := by decide +kernel
theorem dX3_bitOf_12 : decode cX3_bitOf 12 = .ok (.goto 12, 3) := by decide +kernel
theorem dX3_bitOf_15 : decode cX3_bitOf 15 = .ok (.iconst 1, 1) := by decide +kernel
theorem dX3_bitOf_16 : decode cX3_bitOf 16 = .ok (.iconst 5, 1) := by decide +kernel
theorem dX3_bitOf_17 : decode cX3_bitOf 17 = .ok (.iload_n 1, 1) := by decide +kernel
theorem dX3_bitOf_18 : decode cX3_bitOf 18 = .ok (.imul, 1) := by decide +kernel
theorem dX3_bitOf_19 : decode cX3_bitOf 19 = .ok (.iload_n 0, 1) := by decide +kernel
theorem dX3_bitOf_20 : decode cX3_bitOf 20 = .ok (.iadd, 1) := by decide +kernel
theorem dX3_bitOf_21 : decode cX3_bitOf 21 = .ok (.iconst 5, 1) := by decide +kernel
theorem dX3_bitOf_22 : decode cX3_bitOf 22 = .ok (.isub, 1) := by decide +kernel
theorem dX3_bitOf_23 : decode cX3_bitOf 23 = .ok (.ishl, 1) := by decide +kernel
theorem dX3_bitOf_24 : decode cX3_bitOf 24 = .ok (.ireturn, 1) := by decide +kernel
theorem dX3_cellsOf_0 : decode cX3_cellsOf 0 = .ok (.iload_n 0, 1) := by decide +kernel
theorem dX3_cellsOf_1 : decode cX3_cellsOf 1 = .ok (.iconst 5, 1) := by decide +kernel
theorem dX3_cellsOf_2 : decode cX3_cellsOf 2 = .ok (.if_icmp .ge 15, 3) := by decide +kernel
theorem dX3_cellsOf_5 : decode cX3_cellsOf 5 = .ok (.iconst 1, 1) := by decide +kernel
theorem dX3_cellsOf_6 : decode cX3_cellsOf 6 = .ok (.iload_n 2, 1) := by decide +kernel
theorem dX3_cellsOf_7 : decode cX3_cellsOf 7 = .ok (.ishl, 1) := by decide +kernel
theorem dX3_cellsOf_8 : decode cX3_cellsOf 8 = .ok (.iconst 1, 1) := by decide +kernel
theorem dX3_cellsOf_9 : decode cX3_cellsOf 9 = .ok (.isub, 1) := by decide +kernel
theorem dX3_cellsOf_10 : decode cX3_cellsOf 10 = .ok (.iconst 5, 1) := by decide +kernel
theorem dX3_cellsOf_11 : decode cX3_cellsOf 11 = .ok (.iload_n 0, 1) := by decide +kernel
theorem dX3_cellsOf_12 : decode cX3_cellsOf 12 = .ok (.imul, 1) := by decide +kernel
theorem dX3_cellsOf_13 : decode cX3_cellsOf 13 = .ok (.iload_n 1, 1) := by decide +kernel
theorem dX3_cellsOf_14 : decode cX3_cellsOf 14 = .ok (.iadd, 1) := by decide +kernel
theorem dX3_cellsOf_15 : decode cX3_cellsOf 15 = .ok (.ishl, 1) := by decide +kernel
theorem dX3_cellsOf_16 : decode cX3_cellsOf 16 = .ok (.ireturn, 1) := by decide +kernel
theorem dX3_cellsOf_17 : decode cX3_cellsOf 17 = .ok (.ldc_w 355, 3) := by decide +kernel
theorem dX3_cellsOf_20 : decode cX3_cellsOf 20 = .ok (.iconst 1, 1) := by decide +kernel
theorem dX3_cellsOf_21 : decode cX3_cellsOf 21 = .ok (.iconst 5, 1) := by decide +kernel
theorem dX3_cellsOf_22 : decode cX3_cellsOf 22 = .ok (.iload_n 2, 1) := by decide +kernel
theorem dX3_cellsOf_23 : decode cX3_cellsOf 23 = .ok (.imul, 1) := by decide +kernel
theorem dX3_cellsOf_24 : decode cX3_cellsOf 24 = .ok (.ishl, 1) := by decide +kernel
theorem dX3_cellsOf_25 : decode cX3_cellsOf 25 = .ok (.iconst 1, 1) := by decide +kernel
theorem dX3_cellsOf_26 : decode cX3_cellsOf 26 = .ok (.isub, 1) := by decide +kernel
theorem dX3_cellsOf_27 : decode cX3_cellsOf 27 = .ok (.iand, 1) := by decide +kernel
theorem dX3_cellsOf_28 : decode cX3_cellsOf 28 = .ok (.iconst 5, 1) := by decide +kernel
theorem dX3_cellsOf_29 : decode cX3_cellsOf 29 = .ok (.iload_n 1, 1) := by decide +kernel
theorem dX3_cellsOf_30 : decode cX3_cellsOf 30 = .ok (.imul, 1) := by decide +kernel
theorem dX3_cellsOf_31 : decode cX3_cellsOf 31 = .ok (.iload_n 0, 1) := by decide +kernel
theorem dX3_cellsOf_32 : decode cX3_cellsOf 32 = .ok (.iadd, 1) := by decide +kernel
theorem dX3_cellsOf_33 : decode cX3_cellsOf 33 = .ok (.iconst 5, 1) := by decide +kernel
theorem dX3_cellsOf_34 : decode cX3_cellsOf 34 = .ok (.isub, 1) := by decide +kernel
theorem dX3_cellsOf_35 : decode cX3_cellsOf 35 = .ok (.ishl, 1) := by decide +kernel
theorem dX3_cellsOf_36 : decode cX3_cellsOf 36 = .ok (.ireturn, 1) := by decide +kernel
theorem dX3_share_0 : decode cX3_share 0 = .ok (.iload_n 1, 1) := by decide +kernel
theorem dX3_share_1 : decode cX3_share 1 = .ok (.ifCond .le 11, 3) := by decide +kernel
theorem dX3_share_4 : decode cX3_share 4 = .ok (.iload_n 0, 1) := by decide +kernel
theorem dX3_share_5 : decode cX3_share 5 = .ok (.i2d, 1) := by decide +kernel
theorem dX3_share_6 : decode cX3_share 6 = .ok (.iload_n 1, 1) := by decide +kernel
theorem dX3_share_7 : decode cX3_share 7 = .ok (.i2d, 1) := by decide +kernel
theorem dX3_share_8 : decode cX3_share 8 = .ok (.ddiv, 1) := by decide +kernel
theorem dX3_share_9 : decode cX3_share 9 = .ok (.goto 4, 3) := by decide +kernel
theorem dX3_share_12 : decode cX3_share 12 = .ok (.dconst 0, 1) := by decide +kernel
theorem dX3_share_13 : decode cX3_share 13 = .ok (.dreturn, 1) := by decide +kernel
theorem dX3_mix_0 : decode cX3_mix 0 = .ok (.ldc2_w 356, 3) := by decide +kernel
theorem dX3_mix_3 : decode cX3_mix 3 = .ok (.lload_n 0, 1) := by decide +kernel
theorem dX3_mix_4 : decode cX3_mix 4 = .ok (.lmul, 1) := by decide +kernel
theorem dX3_mix_5 : decode cX3_mix 5 = .ok (.lload_n 2, 1) := by decide +kernel
theorem dX3_mix_6 : decode cX3_mix 6 = .ok (.ladd, 1) := by decide +kernel
theorem dX3_mix_7 : decode cX3_mix 7 = .ok (.lreturn, 1) := by decide +kernel
theorem dX3_bitsOf_0 : decode cX3_bitsOf 0 = .ok (.dload_n 0, 1) := by decide +kernel
theorem dX3_bitsOf_1 : decode cX3_bitsOf 1 = .ok (.dstore_n 2, 1) := by decide +kernel
theorem dX3_bitsOf_2 : decode cX3_bitsOf 2 = .ok (.ldc2_w 358, 3) := by decide +kernel
theorem dX3_bitsOf_5 : decode cX3_bitsOf 5 = .ok (.lstore 4, 2) := by decide +kernel
theorem dX3_bitsOf_7 : decode cX3_bitsOf 7 = .ok (.dload_n 2, 1) := by decide +kernel
theorem dX3_bitsOf_8 : decode cX3_bitsOf 8 = .ok (.dconst 1, 1) := by decide +kernel
theorem dX3_bitsOf_9 : decode cX3_bitsOf 9 = .ok (.dcmp .g, 1) := by decide +kernel
theorem dX3_bitsOf_10 : decode cX3_bitsOf 10 = .ok (.ifCond .ge 25, 3) := by decide +kernel
theorem dX3_bitsOf_13 : decode cX3_bitsOf 13 = .ok (.lload 4, 2) := by decide +kernel
theorem dX3_bitsOf_15 : decode cX3_bitsOf 15 = .ok (.lconst 1, 1) := by decide +kernel
theorem dX3_bitsOf_16 : decode cX3_bitsOf 16 = .ok (.lcmp, 1) := by decide +kernel
theorem dX3_bitsOf_17 : decode cX3_bitsOf 17 = .ok (.ifCond .le 18, 3) := by decide +kernel
theorem dX3_bitsOf_20 : decode cX3_bitsOf 20 = .ok (.dload_n 2, 1) := by decide +kernel
theorem dX3_bitsOf_21 : decode cX3_bitsOf 21 = .ok (.ldc2_w 360, 3) := by decide +kernel
theorem dX3_bitsOf_24 : decode cX3_bitsOf 24 = .ok (.dmul, 1) := by decide +kernel
theorem dX3_bitsOf_25 : decode cX3_bitsOf 25 = .ok (.dstore_n 2, 1) := by decide +kernel
theorem dX3_bitsOf_26 : decode cX3_bitsOf 26 = .ok (.lload 4, 2) := by decide +kernel
theorem dX3_bitsOf_28 : decode cX3_bitsOf 28 = .ok (.lconst 1, 1) := by decide +kernel
theorem dX3_bitsOf_29 : decode cX3_bitsOf 29 = .ok (.lsub, 1) := by decide +kernel
theorem dX3_bitsOf_30 : decode cX3_bitsOf 30 = .ok (.lstore 4, 2) := by decide +kernel
theorem dX3_bitsOf_32 : decode cX3_bitsOf 32 = .ok (.goto (-25), 3) := by decide +kernel
theorem dX3_bitsOf_35 : decode cX3_bitsOf 35 = .ok (.dload_n 2, 1) := by decide +kernel
theorem dX3_bitsOf_36 : decode cX3_bitsOf 36 = .ok (.dconst 1, 1) := by decide +kernel
theorem dX3_bitsOf_37 : decode cX3_bitsOf 37 = .ok (.dsub, 1) := by decide +kernel
theorem dX3_bitsOf_38 : decode cX3_bitsOf 38 = .ok (.ldc2_w 362, 3) := by decide +kernel
theorem dX3_bitsOf_41 : decode cX3_bitsOf 41 = .ok (.dmul, 1) := by decide +kernel
theorem dX3_bitsOf_42 : decode cX3_bitsOf 42 = .ok (.d2l, 1) := by decide +kernel
theorem dX3_bitsOf_43 : decode cX3_bitsOf 43 = .ok (.lstore 6, 2) := by decide +kernel
theorem dX3_bitsOf_45 : decode cX3_bitsOf 45 = .ok (.lload 4, 2) := by decide +kernel
theorem dX3_bitsOf_47 : decode cX3_bitsOf 47 = .ok (.bipush 52, 2) := by decide +kernel
theorem dX3_bitsOf_49 : decode cX3_bitsOf 49 = .ok (.lshl, 1) := by decide +kernel
theorem dX3_bitsOf_50 : decode cX3_bitsOf 50 = .ok (.lload 6, 2) := by decide +kernel
theorem dX3_bitsOf_52 : decode cX3_bitsOf 52 = .ok (.lor, 1) := by decide +kernel
theorem dX3_bitsOf_53 : decode cX3_bitsOf 53 = .ok (.lreturn, 1) := by decide +kernel
theorem dX3_hashOfPark_0 : decode cX3_hashOfPark 0 = .ok (.lload_n 1, 1) := by decide +kernel
theorem dX3_hashOfPark_1 : decode cX3_hashOfPark 1 = .ok (.aload_n 0, 1) := by decide +kernel
theorem dX3_hashOfPark_2 : decode cX3_hashOfPark 2 = .ok (.getfield 10, 3) := by decide +kernel
theorem dX3_hashOfPark_5 : decode cX3_hashOfPark 5 = .ok (.getfield 59, 3) := by decide +kernel
theorem dX3_hashOfPark_8 : decode cX3_hashOfPark 8 = .ok (.i2l, 1) := by decide +kernel
theorem dX3_hashOfPark_9 : decode cX3_hashOfPark 9 = .ok (.invokestatic 293, 3) := by decide +kernel
theorem dX3_hashOfPark_12 : decode cX3_hashOfPark 12 = .ok (.lstore_n 3, 1) := by decide +kernel
theorem dX3_hashOfPark_13 : decode cX3_hashOfPark 13 = .ok (.lload_n 3, 1) := by decide +kernel
theorem dX3_hashOfPark_14 : decode cX3_hashOfPark 14 = .ok (.aload_n 0, 1) := by decide +kernel
theorem dX3_hashOfPark_15 : decode cX3_hashOfPark 15 = .ok (.invokevirtual 364, 3) := by decide +kernel
theorem dX3_hashOfPark_18 : decode cX3_hashOfPark 18 = .ok (.i2l, 1) := by decide +kernel
theorem dX3_hashOfPark_19 : decode cX3_hashOfPark 19 = .ok (.invokestatic 293, 3) := by decide +kernel
theorem dX3_hashOfPark_22 : decode cX3_hashOfPark 22 = .ok (.lstore_n 3, 1) := by decide +kernel
theorem dX3_hashOfPark_23 : decode cX3_hashOfPark 23 = .ok (.lload_n 3, 1) := by decide +kernel
theorem dX3_hashOfPark_24 : decode cX3_hashOfPark 24 = .ok (.aload_n 0, 1) := by decide +kernel
theorem dX3_hashOfPark_25 : decode cX3_hashOfPark 25 = .ok (.invokevirtual 366, 3) := by decide +kernel
theorem dX3_hashOfPark_28 : decode cX3_hashOfPark 28 = .ok (.i2l, 1) := by decide +kernel
theorem dX3_hashOfPark_29 : decode cX3_hashOfPark 29 = .ok (.invokestatic 293, 3) := by decide +kernel
theorem dX3_hashOfPark_32 : decode cX3_hashOfPark 32 = .ok (.lstore_n 3, 1) := by decide +kernel
theorem dX3_hashOfPark_33 : decode cX3_hashOfPark 33 = .ok (.lload_n 3, 1) := by decide +kernel
theorem dX3_hashOfPark_34 : decode cX3_hashOfPark 34 = .ok (.aload_n 0, 1) := by decide +kernel
theorem dX3_hashOfPark_35 : decode cX3_hashOfPark 35 = .ok (.invokevirtual 369, 3) := by decide +kernel
theorem dX3_hashOfPark_38 : decode cX3_hashOfPark 38 = .ok (.ifCond .eq 7, 3) := by decide +kernel
theorem dX3_hashOfPark_41 : decode cX3_hashOfPark 41 = .ok (.lconst 1, 1) := by decide +kernel
theorem dX3_hashOfPark_42 : decode cX3_hashOfPark 42 = .ok (.goto 4, 3) := by decide +kernel
theorem dX3_hashOfPark_45 : decode cX3_hashOfPark 45 = .ok (.lconst 0, 1) := by decide +kernel
theorem dX3_hashOfPark_46 : decode cX3_hashOfPark 46 = .ok (.invokestatic 293, 3) := by decide +kernel
theorem dX3_hashOfPark_49 : decode cX3_hashOfPark 49 = .ok (.lstore_n 3, 1) := by decide +kernel
theorem dX3_hashOfPark_50 : decode cX3_hashOfPark 50 = .ok (.lload_n 3, 1) := by decide +kernel
theorem dX3_hashOfPark_51 : decode cX3_hashOfPark 51 = .ok (.aload_n 0, 1) := by decide +kernel
theorem dX3_hashOfPark_52 : decode cX3_hashOfPark 52 = .ok (.invokevirtual 372, 3) := by decide +kernel
theorem dX3_hashOfPark_55 : decode cX3_hashOfPark 55 = .ok (.i2l, 1) := by decide +kernel
theorem dX3_hashOfPark_56 : decode cX3_hashOfPark 56 = .ok (.invokestatic 293, 3) := by decide +kernel
theorem dX3_hashOfPark_59 : decode cX3_hashOfPark 59 = .ok (.lstore_n 3, 1) := by decide +kernel
theorem dX3_hashOfPark_60 : decode cX3_hashOfPark 60 = .ok (.lload_n 3, 1) := by decide +kernel
theorem dX3_hashOfPark_61 : decode cX3_hashOfPark 61 = .ok (.aload_n 0, 1) := by decide +kernel
theorem dX3_hashOfPark_62 : decode cX3_hashOfPark 62 = .ok (.getfield 10, 3) := by decide +kernel
theorem dX3_hashOfPark_65 : decode cX3_hashOfPark 65 = .ok (.getfield 85, 3) := by decide +kernel
theorem dX3_hashOfPark_68 : decode cX3_hashOfPark 68 = .ok (.i2l, 1) := by decide +kernel
theorem dX3_hashOfPark_69 : decode cX3_hashOfPark 69 = .ok (.invokestatic 293, 3) := by decide +kernel
theorem dX3_hashOfPark_72 : decode cX3_hashOfPark 72 = .ok (.lstore_n 3, 1) := by decide +kernel
theorem dX3_hashOfPark_73 : decode cX3_hashOfPark 73 = .ok (.lload_n 3, 1) := by decide +kernel
theorem dX3_hashOfPark_74 : decode cX3_hashOfPark 74 = .ok (.aload_n 0, 1) := by decide +kernel
theorem dX3_hashOfPark_75 : decode cX3_hashOfPark 75 = .ok (.getfield 10, 3) := by decide +kernel
theorem dX3_hashOfPark_78 : decode cX3_hashOfPark 78 = .ok (.invokevirtual 213, 3) := by decide +kernel
theorem dX3_hashOfPark_81 : decode cX3_hashOfPark 81 = .ok (.i2l, 1) := by decide +kernel
theorem dX3_hashOfPark_82 : decode cX3_hashOfPark 82 = .ok (.invokestatic 293, 3) := by decide +kernel
theorem dX3_hashOfPark_85 : decode cX3_hashOfPark 85 = .ok (.lstore_n 3, 1) := by decide +kernel
theorem dX3_hashOfPark_86 : decode cX3_hashOfPark 86 = .ok (.lload_n 3, 1) := by decide +kernel
theorem dX3_hashOfPark_87 : decode cX3_hashOfPark 87 = .ok (.aload_n 0, 1) := by decide +kernel
theorem dX3_hashOfPark_88 : decode cX3_hashOfPark 88 = .ok (.getfield 10, 3) := by decide +kernel
theorem dX3_hashOfPark_91 : decode cX3_hashOfPark 91 = .ok (.invokevirtual 216, 3) := by decide +kernel
theorem dX3_hashOfPark_94 : decode cX3_hashOfPark 94 = .ok (.i2l, 1) := by decide +kernel
theorem dX3_hashOfPark_95 : decode cX3_hashOfPark 95 = .ok (.invokestatic 293, 3) := by decide +kernel
theorem dX3_hashOfPark_98 : decode cX3_hashOfPark 98 = .ok (.lreturn, 1) := by decide +kernel
theorem dX3_hashOfPlans_0 : decode cX3_hashOfPlans 0 = .ok (.lload_n 1, 1) := by decide +kernel
theorem dX3_hashOfPlans_1 : decode cX3_hashOfPlans 1 = .ok (.aload_n 0, 1) := by decide +kernel
theorem dX3_hashOfPlans_2 : decode cX3_hashOfPlans 2 = .ok (.getfield 26, 3) := by decide +kernel
theorem dX3_hashOfPlans_5 : decode cX3_hashOfPlans 5 = .ok (.invokevirtual 222, 3) := by decide +kernel
theorem dX3_hashOfPlans_8 : decode cX3_hashOfPlans 8 = .ok (.i2l, 1) := by decide +kernel
theorem dX3_hashOfPlans_9 : decode cX3_hashOfPlans 9 = .ok (.invokestatic 293, 3) := by decide +kernel
theorem dX3_hashOfPlans_12 : decode cX3_hashOfPlans 12 = .ok (.lstore_n 3, 1) := by decide +kernel
theorem dX3_hashOfPlans_13 : decode cX3_hashOfPlans 13 = .ok (.lload_n 3, 1) := by decide +kernel
theorem dX3_hashOfPlans_14 : decode cX3_hashOfPlans 14 = .ok (.aload_n 0, 1) := by decide +kernel
theorem dX3_hashOfPlans_15 : decode cX3_hashOfPlans 15 = .ok (.getfield 26, 3) := by decide +kernel
theorem dX3_hashOfPlans_18 : decode cX3_hashOfPlans 18 = .ok (.invokevirtual 225, 3) := by decide +kernel
theorem dX3_hashOfPlans_21 : decode cX3_hashOfPlans 21 = .ok (.i2l, 1) := by decide +kernel
theorem dX3_hashOfPlans_22 : decode cX3_hashOfPlans 22 = .ok (.invokestatic 293, 3) := by decide +kernel
theorem dX3_hashOfPlans_25 : decode cX3_hashOfPlans 25 = .ok (.lstore_n 3, 1) := by decide +kernel
theorem dX3_hashOfPlans_26 : decode cX3_hashOfPlans 26 = .ok (.lload_n 3, 1) := by decide +kernel
theorem dX3_hashOfPlans_27 : decode cX3_hashOfPlans 27 = .ok (.aload_n 0, 1) := by decide +kernel
theorem dX3_hashOfPlans_28 : decode cX3_hashOfPlans 28 = .ok (.getfield 26, 3) := by decide +kernel
theorem dX3_hashOfPlans_31 : decode cX3_hashOfPlans 31 = .ok (.invokevirtual 228, 3) := by decide +kernel
theorem dX3_hashOfPlans_34 : decode cX3_hashOfPlans 34 = .ok (.i2l, 1) := by decide +kernel
theorem dX3_hashOfPlans_35 : decode cX3_hashOfPlans 35 = .ok (.invokestatic 293, 3) := by decide +kernel
theorem dX3_hashOfPlans_38 : decode cX3_hashOfPlans 38 = .ok (.lstore_n 3, 1) := by decide +kernel
theorem dX3_hashOfPlans_39 : decode cX3_hashOfPlans 39 = .ok (.lload_n 3, 1) := by decide +kernel
theorem dX3_hashOfPlans_40 : decode cX3_hashOfPlans 40 = .ok (.aload_n 0, 1) := by decide +kernel
theorem dX3_hashOfPlans_41 : decode cX3_hashOfPlans 41 = .ok (.getfield 26, 3) := by decide +kernel
theorem dX3_hashOfPlans_44 : decode cX3_hashOfPlans 44 = .ok (.invokevirtual 231, 3) := by decide +kernel
theorem dX3_hashOfPlans_47 : decode cX3_hashOfPlans 47 = .ok (.i2l, 1) := by decide +kernel
theorem dX3_hashOfPlans_48 : decode cX3_hashOfPlans 48 = .ok (.invokestatic 293, 3) := by decide +kernel
theorem dX3_hashOfPlans_51 : decode cX3_hashOfPlans 51 = .ok (.lstore_n 3, 1) := by decide +kernel
theorem dX3_hashOfPlans_52 : decode cX3_hashOfPlans 52 = .ok (.lload_n 3, 1) := by decide +kernel
theorem dX3_hashOfPlans_53 : decode cX3_hashOfPlans 53 = .ok (.aload_n 0, 1) := by decide +kernel
theorem dX3_hashOfPlans_54 : decode cX3_hashOfPlans 54 = .ok (.getfield 26, 3) := by decide +kernel
theorem dX3_hashOfPlans_57 : decode cX3_hashOfPlans 57 = .ok (.invokevirtual 234, 3) := by decide +kernel
theorem dX3_hashOfPlans_60 : decode cX3_hashOfPlans 60 = .ok (.i2l, 1) := by decide +kernel
theorem dX3_hashOfPlans_61 : decode cX3_hashOfPlans 61 = .ok (.invokestatic 293, 3) := by decide +kernel
theorem dX3_hashOfPlans_64 : decode cX3_hashOfPlans 64 = .ok (.lreturn, 1) := by decide +kernel
theorem dX3_hashOfArrangements_0 : decode cX3_hashOfArrangements 0 = .ok (.lload_n 1, 1) := by decide +kernel
theorem dX3_hashOfArrangements_1 : decode cX3_hashOfArrangements 1 = .ok (.aload_n 0, 1) := by decide +kernel
theorem dX3_hashOfArrangements_2 : decode cX3_hashOfArrangements 2 = .ok (.getfield 26, 3) := by decide +kernel
theorem dX3_hashOfArrangements_5 : decode cX3_hashOfArrangements 5 = .ok (.getfield 251, 3) := by decide +kernel
theorem dX3_hashOfArrangements_8 : decode cX3_hashOfArrangements 8 = .ok (.i2l, 1) := by decide +kernel
theorem dX3_hashOfArrangements_9 : decode cX3_hashOfArrangements 9 = .ok (.invokestatic 293, 3) := by decide +kernel
theorem dX3_hashOfArrangements_12 : decode cX3_hashOfArrangements 12 = .ok (.lstore_n 3, 1) := by decide +kernel
theorem dX3_hashOfArrangements_13 : decode cX3_hashOfArrangements 13 = .ok (.lload_n 3, 1) := by decide +kernel
theorem dX3_hashOfArrangements_14 : decode cX3_hashOfArrangements 14 = .ok (.aload_n 0, 1) := by decide +kernel
theorem dX3_hashOfArrangements_15 : decode cX3_hashOfArrangements 15 = .ok (.getfield 26, 3) := by decide +kernel
theorem dX3_hashOfArrangements_18 : decode cX3_hashOfArrangements 18 = .ok (.invokevirtual 254, 3) := by decide +kernel
theorem dX3_hashOfArrangements_21 : decode cX3_hashOfArrangements 21 = .ok (.i2l, 1) := by decide +kernel
theorem dX3_hashOfArrangements_22 : decode cX3_hashOfArrangements 22 = .ok (.invokestatic 293, 3) := by decide +kernel
theorem dX3_hashOfArrangements_25 : decode cX3_hashOfArrangements 25 = .ok (.lstore_n 3, 1) := by decide +kernel
theorem dX3_hashOfArrangements_26 : decode cX3_hashOfArrangements 26 = .ok (.lload_n 3, 1) := by decide +kernel
theorem dX3_hashOfArrangements_27 : decode cX3_hashOfArrangements 27 = .ok (.aload_n 0, 1) := by decide +kernel
theorem dX3_hashOfArrangements_28 : decode cX3_hashOfArrangements 28 = .ok (.getfield 26, 3) := by decide +kernel
theorem dX3_hashOfArrangements_31 : decode cX3_hashOfArrangements 31 = .ok (.invokevirtual 257, 3) := by decide +kernel
theorem dX3_hashOfArrangements_34 : decode cX3_hashOfArrangements 34 = .ok (.i2l, 1) := by decide +kernel
theorem dX3_hashOfArrangements_35 : decode cX3_hashOfArrangements 35 = .ok (.invokestatic 293, 3) := by decide +kernel
theorem dX3_hashOfArrangements_38 : decode cX3_hashOfArrangements 38 = .ok (.lstore_n 3, 1) := by decide +kernel
theorem dX3_hashOfArrangements_39 : decode cX3_hashOfArrangements 39 = .ok (.lload_n 3, 1) := by decide +kernel
theorem dX3_hashOfArrangements_40 : decode cX3_hashOfArrangements 40 = .ok (.aload_n 0, 1) := by decide +kernel
theorem dX3_hashOfArrangements_41 : decode cX3_hashOfArrangements 41 = .ok (.getfield 26, 3) := by decide +kernel
theorem dX3_hashOfArrangements_44 : decode cX3_hashOfArrangements 44 = .ok (.invokevirtual 260, 3) := by decide +kernel
theorem dX3_hashOfArrangements_47 : decode cX3_hashOfArrangements 47 = .ok (.i2l, 1) := by decide +kernel
theorem dX3_hashOfArrangements_48 : decode cX3_hashOfArrangements 48 = .ok (.invokestatic 293, 3) := by decide +kernel
theorem dX3_hashOfArrangements_51 : decode cX3_hashOfArrangements 51 = .ok (.lreturn, 1) := by decide +kernel
theorem dX3_hashOfCells_0 : decode cX3_hashOfCells 0 = .ok (.lload_n 1, 1) := by decide +kernel
theorem dX3_hashOfCells_1 : decode cX3_hashOfCells 1 = .ok (.lstore_n 3, 1) := by decide +kernel
theorem dX3_hashOfCells_2 : decode cX3_hashOfCells 2 = .ok (.iconst 0, 1) := by decide +kernel
theorem dX3_hashOfCells_3 : decode cX3_hashOfCells 3 = .ok (.istore 5, 2) := by decide +kernel
theorem dX3_hashOfCells_5 : decode cX3_hashOfCells 5 = .ok (.iload 5, 2) := by decide +kernel
theorem dX3_hashOfCells_7 : decode cX3_hashOfCells 7 = .ok (.bipush 25, 2) := by decide +kernel
theorem dX3_hashOfCells_9 : decode cX3_hashOfCells 9 = .ok (.if_icmp .ge 46, 3) := by decide +kernel
theorem dX3_hashOfCells_12 : decode cX3_hashOfCells 12 = .ok (.lload_n 3, 1) := by decide +kernel
theorem dX3_hashOfCells_13 : decode cX3_hashOfCells 13 = .ok (.aload_n 0, 1) := by decide +kernel
theorem dX3_hashOfCells_14 : decode cX3_hashOfCells 14 = .ok (.getfield 10, 3) := by decide +kernel
theorem dX3_hashOfCells_17 : decode cX3_hashOfCells 17 = .ok (.iload 5, 2) := by decide +kernel
theorem dX3_hashOfCells_19 : decode cX3_hashOfCells 19 = .ok (.invokevirtual 184, 3) := by decide +kernel
theorem dX3_hashOfCells_22 : decode cX3_hashOfCells 22 = .ok (.i2l, 1) := by decide +kernel
theorem dX3_hashOfCells_23 : decode cX3_hashOfCells 23 = .ok (.invokestatic 293, 3) := by decide +kernel
theorem dX3_hashOfCells_26 : decode cX3_hashOfCells 26 = .ok (.lstore_n 3, 1) := by decide +kernel
theorem dX3_hashOfCells_27 : decode cX3_hashOfCells 27 = .ok (.lload_n 3, 1) := by decide +kernel
theorem dX3_hashOfCells_28 : decode cX3_hashOfCells 28 = .ok (.aload_n 0, 1) := by decide +kernel
theorem dX3_hashOfCells_29 : decode cX3_hashOfCells 29 = .ok (.getfield 10, 3) := by decide +kernel
theorem dX3_hashOfCells_32 : decode cX3_hashOfCells 32 = .ok (.iload 5, 2) := by decide +kernel
theorem dX3_hashOfCells_34 : decode cX3_hashOfCells 34 = .ok (.invokevirtual 187, 3) := by decide +kernel
theorem dX3_hashOfCells_37 : decode cX3_hashOfCells 37 = .ok (.ifCond .eq 7, 3) := by decide +kernel
theorem dX3_hashOfCells_40 : decode cX3_hashOfCells 40 = .ok (.lconst 1, 1) := by decide +kernel
theorem dX3_hashOfCells_41 : decode cX3_hashOfCells 41 = .ok (.goto 4, 3) := by decide +kernel
theorem dX3_hashOfCells_44 : decode cX3_hashOfCells 44 = .ok (.lconst 0, 1) := by decide +kernel
theorem dX3_hashOfCells_45 : decode cX3_hashOfCells 45 = .ok (.invokestatic 293, 3) := by decide +kernel
theorem dX3_hashOfCells_48 : decode cX3_hashOfCells 48 = .ok (.lstore_n 3, 1) := by decide +kernel
theorem dX3_hashOfCells_49 : decode cX3_hashOfCells 49 = .ok (.iinc 5 1, 3) := by decide +kernel
theorem dX3_hashOfCells_52 : decode cX3_hashOfCells 52 = .ok (.goto (-47), 3) := by decide +kernel
theorem dX3_hashOfCells_55 : decode cX3_hashOfCells 55 = .ok (.lload_n 3, 1) := by decide +kernel
theorem dX3_hashOfCells_56 : decode cX3_hashOfCells 56 = .ok (.lreturn, 1) := by decide +kernel
theorem dX3_hashOfCars_0 : decode cX3_hashOfCars 0 = .ok (.lload_n 1, 1) := by decide +kernel
theorem dX3_hashOfCars_1 : decode cX3_hashOfCars 1 = .ok (.lstore_n 3, 1) := by decide +kernel
theorem dX3_hashOfCars_2 : decode cX3_hashOfCars 2 = .ok (.iconst 0, 1) := by decide +kernel
theorem dX3_hashOfCars_3 : decode cX3_hashOfCars 3 = .ok (.istore 5, 2) := by decide +kernel
theorem dX3_hashOfCars_5 : decode cX3_hashOfCars 5 = .ok (.iload 5, 2) := by decide +kernel
theorem dX3_hashOfCars_7 : decode cX3_hashOfCars 7 = .ok (.aload_n 0, 1) := by decide +kernel
theorem dX3_hashOfCars_8 : decode cX3_hashOfCars 8 = .ok (.getfield 10, 3) := by decide +kernel
theorem dX3_hashOfCars_11 : decode cX3_hashOfCars 11 = .ok (.getfield 59, 3) := by decide +kernel
theorem dX3_hashOfCars_14 : decode cX3_hashOfCars 14 = .ok (.if_icmp .ge 111, 3) := by decide +kernel
theorem dX3_hashOfCars_17 : decode cX3_hashOfCars 17 = .ok (.iload 5, 2) := by decide +kernel
theorem dX3_hashOfCars_19 : decode cX3_hashOfCars 19 = .ok (.bipush 6, 2) := by decide +kernel
theorem dX3_hashOfCars_21 : decode cX3_hashOfCars 21 = .ok (.if_icmp .ge 104, 3) := by decide +kernel
theorem dX3_hashOfCars_24 : decode cX3_hashOfCars 24 = .ok (.lload_n 3, 1) := by decide +kernel
theorem dX3_hashOfCars_25 : decode cX3_hashOfCars 25 = .ok (.aload_n 0, 1) := by decide +kernel
theorem dX3_hashOfCars_26 : decode cX3_hashOfCars 26 = .ok (.getfield 10, 3) := by decide +kernel
theorem dX3_hashOfCars_29 : decode cX3_hashOfCars 29 = .ok (.getfield 169, 3) := by decide +kernel
theorem dX3_hashOfCars_32 : decode cX3_hashOfCars 32 = .ok (.iload 5, 2) := by decide +kernel
theorem dX3_hashOfCars_34 : decode cX3_hashOfCars 34 = .ok (.iaload, 1) := by decide +kernel
theorem dX3_hashOfCars_35 : decode cX3_hashOfCars 35 = .ok (.i2l, 1) := by decide +kernel
theorem dX3_hashOfCars_36 : decode cX3_hashOfCars 36 = .ok (.invokestatic 293, 3) := by decide +kernel
theorem dX3_hashOfCars_39 : decode cX3_hashOfCars 39 = .ok (.lstore_n 3, 1) := by decide +kernel
theorem dX3_hashOfCars_40 : decode cX3_hashOfCars 40 = .ok (.lload_n 3, 1) := by decide +kernel
theorem dX3_hashOfCars_41 : decode cX3_hashOfCars 41 = .ok (.aload_n 0, 1) := by decide +kernel
theorem dX3_hashOfCars_42 : decode cX3_hashOfCars 42 = .ok (.getfield 10, 3) := by decide +kernel
theorem dX3_hashOfCars_45 : decode cX3_hashOfCars 45 = .ok (.getfield 173, 3) := by decide +kernel
theorem dX3_hashOfCars_48 : decode cX3_hashOfCars 48 = .ok (.iload 5, 2) := by decide +kernel
theorem dX3_hashOfCars_50 : decode cX3_hashOfCars 50 = .ok (.iaload, 1) := by decide +kernel
theorem dX3_hashOfCars_51 : decode cX3_hashOfCars 51 = .ok (.i2l, 1) := by decide +kernel
theorem dX3_hashOfCars_52 : decode cX3_hashOfCars 52 = .ok (.invokestatic 293, 3) := by decide +kernel
theorem dX3_hashOfCars_55 : decode cX3_hashOfCars 55 = .ok (.lstore_n 3, 1) := by decide +kernel
theorem dX3_hashOfCars_56 : decode cX3_hashOfCars 56 = .ok (.lload_n 3, 1) := by decide +kernel
theorem dX3_hashOfCars_57 : decode cX3_hashOfCars 57 = .ok (.aload_n 0, 1) := by decide +kernel
theorem dX3_hashOfCars_58 : decode cX3_hashOfCars 58 = .ok (.getfield 10, 3) := by decide +kernel
theorem dX3_hashOfCars_61 : decode cX3_hashOfCars 61 = .ok (.getfield 176, 3) := by decide +kernel
theorem dX3_hashOfCars_64 : decode cX3_hashOfCars 64 = .ok (.iload 5, 2) := by decide +kernel
theorem dX3_hashOfCars_66 : decode cX3_hashOfCars 66 = .ok (.iaload, 1) := by decide +kernel
theorem dX3_hashOfCars_67 : decode cX3_hashOfCars 67 = .ok (.i2l, 1) := by decide +kernel
theorem dX3_hashOfCars_68 : decode cX3_hashOfCars 68 = .ok (.invokestatic 293, 3) := by decide +kernel
theorem dX3_hashOfCars_71 : decode cX3_hashOfCars 71 = .ok (.lstore_n 3, 1) := by decide +kernel
theorem dX3_hashOfCars_72 : decode cX3_hashOfCars 72 = .ok (.lload_n 3, 1) := by decide +kernel
theorem dX3_hashOfCars_73 : decode cX3_hashOfCars 73 = .ok (.aload_n 0, 1) := by decide +kernel
theorem dX3_hashOfCars_74 : decode cX3_hashOfCars 74 = .ok (.getfield 10, 3) := by decide +kernel
theorem dX3_hashOfCars_77 : decode cX3_hashOfCars 77 = .ok (.iload 5, 2) := by decide +kernel
theorem dX3_hashOfCars_79 : decode cX3_hashOfCars 79 = .ok (.invokevirtual 210, 3) := by decide +kernel
theorem dX3_hashOfCars_82 : decode cX3_hashOfCars 82 = .ok (.i2l, 1) := by decide +kernel
theorem dX3_hashOfCars_83 : decode cX3_hashOfCars 83 = .ok (.invokestatic 293, 3) := by decide +kernel
theorem dX3_hashOfCars_86 : decode cX3_hashOfCars 86 = .ok (.lstore_n 3, 1) := by decide +kernel
theorem dX3_hashOfCars_87 : decode cX3_hashOfCars 87 = .ok (.lload_n 3, 1) := by decide +kernel
theorem dX3_hashOfCars_88 : decode cX3_hashOfCars 88 = .ok (.aload_n 0, 1) := by decide +kernel
theorem dX3_hashOfCars_89 : decode cX3_hashOfCars 89 = .ok (.getfield 10, 3) := by decide +kernel
theorem dX3_hashOfCars_92 : decode cX3_hashOfCars 92 = .ok (.iload 5, 2) := by decide +kernel
theorem dX3_hashOfCars_94 : decode cX3_hashOfCars 94 = .ok (.iconst 1, 1) := by decide +kernel
theorem dX3_hashOfCars_95 : decode cX3_hashOfCars 95 = .ok (.invokevirtual 196, 3) := by decide +kernel
theorem dX3_hashOfCars_98 : decode cX3_hashOfCars 98 = .ok (.i2l, 1) := by decide +kernel
theorem dX3_hashOfCars_99 : decode cX3_hashOfCars 99 = .ok (.invokestatic 293, 3) := by decide +kernel
theorem dX3_hashOfCars_102 : decode cX3_hashOfCars 102 = .ok (.lstore_n 3, 1) := by decide +kernel
theorem dX3_hashOfCars_103 : decode cX3_hashOfCars 103 = .ok (.lload_n 3, 1) := by decide +kernel
theorem dX3_hashOfCars_104 : decode cX3_hashOfCars 104 = .ok (.aload_n 0, 1) := by decide +kernel
theorem dX3_hashOfCars_105 : decode cX3_hashOfCars 105 = .ok (.getfield 10, 3) := by decide +kernel
theorem dX3_hashOfCars_108 : decode cX3_hashOfCars 108 = .ok (.iload 5, 2) := by decide +kernel
theorem dX3_hashOfCars_110 : decode cX3_hashOfCars 110 = .ok (.iconst (-1), 1) := by decide +kernel
theorem dX3_hashOfCars_111 : decode cX3_hashOfCars 111 = .ok (.invokevirtual 196, 3) := by decide +kernel
theorem dX3_hashOfCars_114 : decode cX3_hashOfCars 114 = .ok (.i2l, 1) := by decide +kernel
theorem dX3_hashOfCars_115 : decode cX3_hashOfCars 115 = .ok (.invokestatic 293, 3) := by decide +kernel
theorem dX3_hashOfCars_118 : decode cX3_hashOfCars 118 = .ok (.lstore_n 3, 1) := by decide +kernel
theorem dX3_hashOfCars_119 : decode cX3_hashOfCars 119 = .ok (.iinc 5 1, 3) := by decide +kernel
theorem dX3_hashOfCars_122 : decode cX3_hashOfCars 122 = .ok (.goto (-117), 3) := by decide +kernel
theorem dX3_hashOfCars_125 : decode cX3_hashOfCars 125 = .ok (.lload_n 3, 1) := by decide +kernel
theorem dX3_hashOfCars_126 : decode cX3_hashOfCars 126 = .ok (.lreturn, 1) := by decide +kernel
theorem dX3_hashOfLog_0 : decode cX3_hashOfLog 0 = .ok (.lload_n 1, 1) := by decide +kernel
theorem dX3_hashOfLog_1 : decode cX3_hashOfLog 1 = .ok (.lstore_n 3, 1) := by decide +kernel
theorem dX3_hashOfLog_2 : decode cX3_hashOfLog 2 = .ok (.iconst 0, 1) := by decide +kernel
theorem dX3_hashOfLog_3 : decode cX3_hashOfLog 3 = .ok (.istore 5, 2) := by decide +kernel
theorem dX3_hashOfLog_5 : decode cX3_hashOfLog 5 = .ok (.iload 5, 2) := by decide +kernel
theorem dX3_hashOfLog_7 : decode cX3_hashOfLog 7 = .ok (.aload_n 0, 1) := by decide +kernel
theorem dX3_hashOfLog_8 : decode cX3_hashOfLog 8 = .ok (.getfield 10, 3) := by decide +kernel
theorem dX3_hashOfLog_11 : decode cX3_hashOfLog 11 = .ok (.getfield 85, 3) := by decide +kernel
theorem dX3_hashOfLog_14 : decode cX3_hashOfLog 14 = .ok (.if_icmp .ge 48, 3) := by decide +kernel
theorem dX3_hashOfLog_17 : decode cX3_hashOfLog 17 = .ok (.iload 5, 2) := by decide +kernel
theorem dX3_hashOfLog_19 : decode cX3_hashOfLog 19 = .ok (.bipush 60, 2) := by decide +kernel
theorem dX3_hashOfLog_21 : decode cX3_hashOfLog 21 = .ok (.if_icmp .ge 41, 3) := by decide +kernel
theorem dX3_hashOfLog_24 : decode cX3_hashOfLog 24 = .ok (.lload_n 3, 1) := by decide +kernel
theorem dX3_hashOfLog_25 : decode cX3_hashOfLog 25 = .ok (.aload_n 0, 1) := by decide +kernel
theorem dX3_hashOfLog_26 : decode cX3_hashOfLog 26 = .ok (.getfield 10, 3) := by decide +kernel
theorem dX3_hashOfLog_29 : decode cX3_hashOfLog 29 = .ok (.getfield 204, 3) := by decide +kernel
theorem dX3_hashOfLog_32 : decode cX3_hashOfLog 32 = .ok (.iload 5, 2) := by decide +kernel
theorem dX3_hashOfLog_34 : decode cX3_hashOfLog 34 = .ok (.iaload, 1) := by decide +kernel
theorem dX3_hashOfLog_35 : decode cX3_hashOfLog 35 = .ok (.i2l, 1) := by decide +kernel
theorem dX3_hashOfLog_36 : decode cX3_hashOfLog 36 = .ok (.invokestatic 293, 3) := by decide +kernel
theorem dX3_hashOfLog_39 : decode cX3_hashOfLog 39 = .ok (.lstore_n 3, 1) := by decide +kernel
theorem dX3_hashOfLog_40 : decode cX3_hashOfLog 40 = .ok (.lload_n 3, 1) := by decide +kernel
theorem dX3_hashOfLog_41 : decode cX3_hashOfLog 41 = .ok (.aload_n 0, 1) := by decide +kernel
theorem dX3_hashOfLog_42 : decode cX3_hashOfLog 42 = .ok (.getfield 10, 3) := by decide +kernel
theorem dX3_hashOfLog_45 : decode cX3_hashOfLog 45 = .ok (.getfield 207, 3) := by decide +kernel
theorem dX3_hashOfLog_48 : decode cX3_hashOfLog 48 = .ok (.iload 5, 2) := by decide +kernel
theorem dX3_hashOfLog_50 : decode cX3_hashOfLog 50 = .ok (.iaload, 1) := by decide +kernel
theorem dX3_hashOfLog_51 : decode cX3_hashOfLog 51 = .ok (.i2l, 1) := by decide +kernel
theorem dX3_hashOfLog_52 : decode cX3_hashOfLog 52 = .ok (.invokestatic 293, 3) := by decide +kernel
theorem dX3_hashOfLog_55 : decode cX3_hashOfLog 55 = .ok (.lstore_n 3, 1) := by decide +kernel
theorem dX3_hashOfLog_56 : decode cX3_hashOfLog 56 = .ok (.iinc 5 1, 3) := by decide +kernel
theorem dX3_hashOfLog_59 : decode cX3_hashOfLog 59 = .ok (.goto (-54), 3) := by decide +kernel
theorem dX3_hashOfLog_62 : decode cX3_hashOfLog 62 = .ok (.lload_n 3, 1) := by decide +kernel
theorem dX3_hashOfLog_63 : decode cX3_hashOfLog 63 = .ok (.lreturn, 1) := by decide +kernel
theorem dX3_hashOfText_0 : decode cX3_hashOfText 0 = .ok (.lload_n 1, 1) := by decide +kernel
theorem dX3_hashOfText_1 : decode cX3_hashOfText 1 = .ok (.aload_n 0, 1) := by decide +kernel
theorem dX3_hashOfText_2 : decode cX3_hashOfText 2 = .ok (.getfield 33, 3) := by decide +kernel
theorem dX3_hashOfText_5 : decode cX3_hashOfText 5 = .ok (.getfield 111, 3) := by decide +kernel
theorem dX3_hashOfText_8 : decode cX3_hashOfText 8 = .ok (.i2l, 1) := by decide +kernel
theorem dX3_hashOfText_9 : decode cX3_hashOfText 9 = .ok (.invokestatic 293, 3) := by decide +kernel
theorem dX3_hashOfText_12 : decode cX3_hashOfText 12 = .ok (.lstore_n 3, 1) := by decide +kernel
theorem dX3_hashOfText_13 : decode cX3_hashOfText 13 = .ok (.iconst 0, 1) := by decide +kernel
theorem dX3_hashOfText_14 : decode cX3_hashOfText 14 = .ok (.istore 5, 2) := by decide +kernel
theorem dX3_hashOfText_16 : decode cX3_hashOfText 16 = .ok (.iload 5, 2) := by decide +kernel
theorem dX3_hashOfText_18 : decode cX3_hashOfText 18 = .ok (.aload_n 0, 1) := by decide +kernel
theorem dX3_hashOfText_19 : decode cX3_hashOfText 19 = .ok (.getfield 33, 3) := by decide +kernel
theorem dX3_hashOfText_22 : decode cX3_hashOfText 22 = .ok (.getfield 111, 3) := by decide +kernel
theorem dX3_hashOfText_25 : decode cX3_hashOfText 25 = .ok (.if_icmp .ge 24, 3) := by decide +kernel
theorem dX3_hashOfText_28 : decode cX3_hashOfText 28 = .ok (.lload_n 3, 1) := by decide +kernel
theorem dX3_hashOfText_29 : decode cX3_hashOfText 29 = .ok (.aload_n 0, 1) := by decide +kernel
theorem dX3_hashOfText_30 : decode cX3_hashOfText 30 = .ok (.getfield 33, 3) := by decide +kernel
theorem dX3_hashOfText_33 : decode cX3_hashOfText 33 = .ok (.iload 5, 2) := by decide +kernel
theorem dX3_hashOfText_35 : decode cX3_hashOfText 35 = .ok (.invokevirtual 329, 3) := by decide +kernel
theorem dX3_hashOfText_38 : decode cX3_hashOfText 38 = .ok (.i2l, 1) := by decide +kernel
theorem dX3_hashOfText_39 : decode cX3_hashOfText 39 = .ok (.invokestatic 293, 3) := by decide +kernel
theorem dX3_hashOfText_42 : decode cX3_hashOfText 42 = .ok (.lstore_n 3, 1) := by decide +kernel
theorem dX3_hashOfText_43 : decode cX3_hashOfText 43 = .ok (.iinc 5 1, 3) := by decide +kernel
theorem dX3_hashOfText_46 : decode cX3_hashOfText 46 = .ok (.goto (-30), 3) := by decide +kernel
theorem dX3_hashOfText_49 : decode cX3_hashOfText 49 = .ok (.lload_n 3, 1) := by decide +kernel
theorem dX3_hashOfText_50 : decode cX3_hashOfText 50 = .ok (.lreturn, 1) := by decide +kernel
theorem dX4_init_0 : decode cX4_init 0 = .ok (.aload_n 0, 1) := by decide +kernel
theorem dX4_init_1 : decode cX4_init 1 = .ok (.invokespecial 1, 3) := by decide +kernel
theorem dX4_init_4 : decode cX4_init 4 = .ok (.aload_n 0, 1) := by decide +kernel
theorem dX4_init_5 : decode cX4_init 5 = .ok (.bipush 60, 2) := by decide +kernel
theorem dX4_init_7 : decode cX4_init 7 = .ok (.newarray .int, 2) := by decide +kernel
theorem dX4_init_9 : decode cX4_init 9 = .ok (.putfield 7, 3) := by decide +kernel
theorem dX4_init_12 : decode cX4_init 12 = .ok (.aload_n 0, 1) := by decide +kernel
theorem dX4_init_13 : decode cX4_init 13 = .ok (.bipush 82, 2) := by decide +kernel
theorem dX4_init_15 : decode cX4_init 15 = .ok (.newarray .int, 2) := by decide +kernel
theorem dX4_init_17 : decode cX4_init 17 = .ok (.putfield 13, 3) := by decide +kernel
theorem dX4_init_20 : decode cX4_init 20 = .ok (.aload_n 0, 1) := by decide +kernel
theorem dX4_init_21 : decode cX4_init 21 = .ok (.sipush 410, 3) := by decide +kernel
theorem dX4_init_24 : decode cX4_init 24 = .ok (.newarray .int, 2) := by decide +kernel
theorem dX4_init_26 : decode cX4_init 26 = .ok (.putfield 16, 3) := by decide +kernel
theorem dX4_init_29 : decode cX4_init 29 = .ok (.aload_n 0, 1) := by decide +kernel
theorem dX4_init_30 : decode cX4_init 30 = .ok (.bipush 82, 2) := by decide +kernel
theorem dX4_init_32 : decode cX4_init 32 = .ok (.newarray .int, 2) := by decide +kernel
theorem dX4_init_34 : decode cX4_init 34 = .ok (.putfield 19, 3) := by decide +kernel
theorem dX4_init_37 : decode cX4_init 37 = .ok (.aload_n 0, 1) := by decide +kernel
theorem dX4_init_38 : decode cX4_init 38 = .ok (.bipush 24, 2) := by decide +kernel
theorem dX4_init_40 : decode cX4_init 40 = .ok (.newarray .int, 2) := by decide +kernel
theorem dX4_init_42 : decode cX4_init 42 = .ok (.putfield 22, 3) := by decide +kernel
theorem dX4_init_45 : decode cX4_init 45 = .ok (.aload_n 0, 1) := by decide +kernel
theorem dX4_init_46 : decode cX4_init 46 = .ok (.sipush 4096, 3) := by decide +kernel
theorem dX4_init_49 : decode cX4_init 49 = .ok (.newarray .int, 2) := by decide +kernel
theorem dX4_init_51 : decode cX4_init 51 = .ok (.putfield 25, 3) := by decide +kernel
theorem dX4_init_54 : decode cX4_init 54 = .ok (.aload_n 0, 1) := by decide +kernel
theorem dX4_init_55 : decode cX4_init 55 = .ok (.sipush 4096, 3) := by decide +kernel
theorem dX4_init_58 : decode cX4_init 58 = .ok (.newarray .int, 2) := by decide +kernel
theorem dX4_init_60 : decode cX4_init 60 = .ok (.putfield 28, 3) := by decide +kernel
theorem dX4_init_63 : decode cX4_init 63 = .ok (.aload_n 0, 1) := by decide +kernel
theorem dX4_init_64 : decode cX4_init 64 = .ok (.sipush 4096, 3) := by decide +kernel
theorem dX4_init_67 : decode cX4_init 67 = .ok (.newarray .boolean, 2) := by decide +kernel
theorem dX4_init_69 : decode cX4_init 69 = .ok (.putfield 31, 3) := by decide +kernel
theorem dX4_init_72 : decode cX4_init 72 = .ok (.aload_n 0, 1) := by decide +kernel
theorem dX4_init_73 : decode cX4_init 73 = .ok (.getfield 13, 3) := by decide +kernel
theorem dX4_init_76 : decode cX4_init 76 = .ok (.bipush 81, 2) := by decide +kernel
theorem dX4_init_78 : decode cX4_init 78 = .ok (.iconst (-1), 1) := by decide +kernel
theorem dX4_init_79 : decode cX4_init 79 = .ok (.iastore, 1) := by decide +kernel
theorem dX4_init_80 : decode cX4_init 80 = .ok (.return_, 1) := by decide +kernel
theorem dX4_thrown_0 : decode cX4_thrown 0 = .ok (.aload_n 0, 1) := by decide +kernel
theorem dX4_thrown_1 : decode cX4_thrown 1 = .ok (.getfield 35, 3) := by decide +kernel
theorem dX4_thrown_4 : decode cX4_thrown 4 = .ok (.ireturn, 1) := by decide +kernel
theorem dX4_refused_0 : decode cX4_refused 0 = .ok (.aload_n 0, 1) := by decide +kernel
theorem dX4_refused_1 : decode cX4_refused 1 = .ok (.iload_n 1, 1) := by decide +kernel
theorem dX4_refused_2 : decode cX4_refused 2 = .ok (.putfield 35, 3) := by decide +kernel
theorem dX4_refused_5 : decode cX4_refused 5 = .ok (.iload_n 1, 1) := by decide +kernel
theorem dX4_refused_6 : decode cX4_refused 6 = .ok (.ifCond .le 7, 3) := by decide +kernel
theorem dX4_refused_9 : decode cX4_refused 9 = .ok (.iconst 1, 1) := by decide +kernel
theorem dX4_refused_10 : decode cX4_refused 10 = .ok (.goto 4, 3) := by decide +kernel
theorem dX4_refused_13 : decode cX4_refused 13 = .ok (.iconst 0, 1) := by decide +kernel
theorem dX4_refused_14 : decode cX4_refused 14 = .ok (.ireturn, 1) := by decide +kernel
theorem dX4_in_0 : decode cX4_in 0 = .ok (.lload_n 0, 1) := by decide +kernel
theorem dX4_in_1 : decode cX4_in 1 = .ok (.lload_n 2, 1) := by decide +kernel
theorem dX4_in_2 : decode cX4_in 2 = .ok (.lcmp, 1) := by decide +kernel
theorem dX4_in_3 : decode cX4_in 3 = .ok (.ifCond .lt 14, 3) := by decide +kernel
theorem dX4_in_6 : decode cX4_in 6 = .ok (.lload_n 0, 1) := by decide +kernel
theorem dX4_in_7 : decode cX4_in 7 = .ok (.lload 4, 2) := by decide +kernel
theorem dX4_in_9 : decode cX4_in 9 = .ok (.lcmp, 1) := by decide +kernel
theorem dX4_in_10 : decode cX4_in 10 = .ok (.ifCond .gt 7, 3) := by decide +kernel
theorem dX4_in_13 : decode cX4_in 13 = .ok (.iconst 1, 1) := by decide +kernel
theorem dX4_in_14 : decode cX4_in 14 = .ok (.goto 4, 3) := by decide +kernel
theorem dX4_in_17 : decode cX4_in 17 = .ok (.iconst 0, 1) := by decide +kernel
theorem dX4_in_18 : decode cX4_in 18 = .ok (.ireturn, 1) := by decide +kernel
theorem dX4_copyState_0 : decode cX4_copyState 0 = .ok (.iconst 0, 1) := by decide +kernel
theorem dX4_copyState_1 : decode cX4_copyState 1 = .ok (.istore 4, 2) := by decide +kernel
theorem dX4_copyState_3 : decode cX4_copyState 3 = .ok (.iload 4, 2) := by decide +kernel
theorem dX4_copyState_5 : decode cX4_copyState 5 = .ok (.bipush 82, 2) := by decide +kernel
theorem dX4_copyState_7 : decode cX4_copyState 7 = .ok (.if_icmp .ge 21, 3) := by decide +kernel
theorem dX4_copyState_10 : decode cX4_copyState 10 = .ok (.aload_n 2, 1) := by decide +kernel
theorem dX4_copyState_11 : decode cX4_copyState 11 = .ok (.iload_n 3, 1) := by decide +kernel
theorem dX4_copyState_12 : decode cX4_copyState 12 = .ok (.iload 4, 2) := by decide +kernel
theorem dX4_copyState_14 : decode cX4_copyState 14 = .ok (.iadd, 1) := by decide +kernel
theorem dX4_copyState_15 : decode cX4_copyState 15 = .ok (.aload_n 0, 1) := by decide +kernel
theorem dX4_copyState_16 : decode cX4_copyState 16 = .ok (.iload_n 1, 1) := by decide +kernel
theorem dX4_copyState_17 : decode cX4_copyState 17 = .ok (.iload 4, 2) := by decide +kernel
theorem dX4_copyState_19 : decode cX4_copyState 19 = .ok (.iadd, 1) := by decide +kernel
theorem dX4_copyState_20 : decode cX4_copyState 20 = .ok (.iaload, 1) := by decide +kernel
theorem dX4_copyState_21 : decode cX4_copyState 21 = .ok (.iastore, 1) := by decide +kernel
theorem dX4_copyState_22 : decode cX4_copyState 22 = .ok (.iinc 4 1, 3) := by decide +kernel
theorem dX4_copyState_25 : decode cX4_copyState 25 = .ok (.goto (-22), 3) := by decide +kernel
theorem dX4_copyState_28 : decode cX4_copyState 28 = .ok (.return_, 1) := by decide +kernel
theorem dX4_bits_0 : decode cX4_bits 0 = .ok (.iconst 0, 1) := by decide +kernel
theorem dX4_bits_1 : decode cX4_bits 1 = .ok (.istore_n 1, 1) := by decide +kernel
theorem dX4_bits_2 : decode cX4_bits 2 = .ok (.iload_n 0, 1) := by decide +kernel
theorem dX4_bits_3 : decode cX4_bits 3 = .ok (.istore_n 2, 1) := by decide +kernel
theorem dX4_bits_4 : decode cX4_bits 4 = .ok (.iload_n 2, 1) := by decide +kernel
theorem dX4_bits_5 : decode cX4_bits 5 = .ok (.ifCond .eq 15, 3) := by decide +kernel
theorem dX4_bits_8 : decode cX4_bits 8 = .ok (.iinc 1 1, 3) := by decide +kernel
theorem dX4_bits_11 : decode cX4_bits 11 = .ok (.iload_n 2, 1) := by decide +kernel
theorem dX4_bits_12 : decode cX4_bits 12 = .ok (.iload_n 2, 1) := by decide +kernel
theorem dX4_bits_13 : decode cX4_bits 13 = .ok (.iconst 1, 1) := by decide +kernel
theorem dX4_bits_14 : decode cX4_bits 14 = .ok (.isub, 1) := by decide +kernel
theorem dX4_bits_15 : decode cX4_bits 15 = .ok (.iand, 1) := by decide +kernel
theorem dX4_bits_16 : decode cX4_bits 16 = .ok (.istore_n 2, 1) := by decide +kernel
theorem dX4_bits_17 : decode cX4_bits 17 = .ok (.goto (-13), 3) := by decide +kernel
theorem dX4_bits_20 : decode cX4_bits 20 = .ok (.iload_n 1, 1) := by decide +kernel
theorem dX4_bits_21 : decode cX4_bits 21 = .ok (.ireturn, 1) := by decide +kernel
theorem dX4_cells_0 : decode cX4_cells 0 = .ok (.iconst 0, 1) := by decide +kernel
theorem dX4_cells_1 : decode cX4_cells 1 = .ok (.istore_n 3, 1) := by decide +kernel
theorem dX4_cells_2 : decode cX4_cells 2 = .ok (.iload_n 1, 1) := by decide +kernel
theorem dX4_cells_3 : decode cX4_cells 3 = .ok (.istore 4, 2) := by decide +kernel
theorem dX4_cells_5 : decode cX4_cells 5 = .ok (.iload 4, 2) := by decide +kernel
theorem dX4_cells_7 : decode cX4_cells 7 = .ok (.iload_n 1, 1) := by decide +kernel
theorem dX4_cells_8 : decode cX4_cells 8 = .ok (.iload_n 2, 1) := by decide +kernel
theorem dX4_cells_9 : decode cX4_cells 9 = .ok (.iadd, 1) := by decide +kernel
theorem dX4_cells_10 : decode cX4_cells 10 = .ok (.if_icmp .ge 36, 3) := by decide +kernel
theorem dX4_cells_13 : decode cX4_cells 13 = .ok (.iload_n 3, 1) := by decide +kernel
theorem dX4_cells_14 : decode cX4_cells 14 = .ok (.iconst 1, 1) := by decide +kernel
theorem dX4_cells_15 : decode cX4_cells 15 = .ok (.iload_n 0, 1) := by decide +kernel
theorem dX4_cells_16 : decode cX4_cells 16 = .ok (.iconst 5, 1) := by decide +kernel
theorem dX4_cells_17 : decode cX4_cells 17 = .ok (.if_icmp .ge 12, 3) := by decide +kernel
theorem dX4_cells_20 : decode cX4_cells 20 = .ok (.iconst 5, 1) := by decide +kernel
theorem dX4_cells_21 : decode cX4_cells 21 = .ok (.iload_n 0, 1) := by decide +kernel
theorem dX4_cells_22 : decode cX4_cells 22 = .ok (.imul, 1) := by decide +kernel
theorem dX4_cells_23 : decode cX4_cells 23 = .ok (.iload 4, 2) := by decide +kernel
theorem dX4_cells_25 : decode cX4_cells 25 = .ok (.iadd, 1) := by decide +kernel
theorem dX4_cells_26 : decode cX4_cells 26 = .ok (.goto 11, 3) := by decide +kernel
theorem dX4_cells_29 : decode cX4_cells 29 = .ok (.iconst 5, 1) := by decide +kernel
theorem dX4_cells_30 : decode cX4_cells 30 = .ok (.iload 4, 2) := by decide +kernel
theorem dX4_cells_32 : decode cX4_cells 32 = .ok (.imul, 1) := by decide +kernel
theorem dX4_cells_33 : decode cX4_cells 33 = .ok (.iload_n 0, 1) := by decide +kernel
theorem dX4_cells_34 : decode cX4_cells 34 = .ok (.iadd, 1) := by decide +kernel
theorem dX4_cells_35 : decode cX4_cells 35 = .ok (.iconst 5, 1) := by decide +kernel
theorem dX4_cells_36 : decode cX4_cells 36 = .ok (.isub, 1) := by decide +kernel
theorem dX4_cells_37 : decode cX4_cells 37 = .ok (.ishl, 1) := by decide +kernel
theorem dX4_cells_38 : decode cX4_cells 38 = .ok (.ior, 1) := by decide +kernel
theorem dX4_cells_39 : decode cX4_cells 39 = .ok (.istore_n 3, 1) := by decide +kernel
theorem dX4_cells_40 : decode cX4_cells 40 = .ok (.iinc 4 1, 3) := by decide +kernel
theorem dX4_cells_43 : decode cX4_cells 43 = .ok (.goto (-38), 3) := by decide +kernel
theorem dX4_cells_46 : decode cX4_cells 46 = .ok (.iload_n 3, 1) := by decide +kernel
theorem dX4_cells_47 : decode cX4_cells 47 = .ok (.ireturn, 1) := by decide +kernel
theorem dX4_cellsOf_0 : decode cX4_cellsOf 0 = .ok (.aload_n 0, 1) := by decide +kernel
theorem dX4_cellsOf_1 : decode cX4_cellsOf 1 = .ok (.getfield 13, 3) := by decide +kernel
theorem dX4_cellsOf_4 : decode cX4_cellsOf 4 = .ok (.iconst 1, 1) := by decide +kernel
theorem dX4_cellsOf_5 : decode cX4_cellsOf 5 = .ok (.iload_n 1, 1) := by decide +kernel
theorem dX4_cellsOf_6 : decode cX4_cellsOf 6 = .ok (.iadd, 1) := by decide +kernel
theorem dX4_cellsOf_7 : decode cX4_cellsOf 7 = .ok (.iaload, 1) := by decide +kernel
theorem dX4_cellsOf_8 : decode cX4_cellsOf 8 = .ok (.aload_n 0, 1) := by decide +kernel
theorem dX4_cellsOf_9 : decode cX4_cellsOf 9 = .ok (.getfield 13, 3) := by decide +kernel
theorem dX4_cellsOf_12 : decode cX4_cellsOf 12 = .ok (.bipush 7, 2) := by decide +kernel
theorem dX4_cellsOf_14 : decode cX4_cellsOf 14 = .ok (.iload_n 1, 1) := by decide +kernel
theorem dX4_cellsOf_15 : decode cX4_cellsOf 15 = .ok (.iadd, 1) := by decide +kernel
theorem dX4_cellsOf_16 : decode cX4_cellsOf 16 = .ok (.iaload, 1) := by decide +kernel
theorem dX4_cellsOf_17 : decode cX4_cellsOf 17 = .ok (.aload_n 0, 1) := by decide +kernel
theorem dX4_cellsOf_18 : decode cX4_cellsOf 18 = .ok (.getfield 13, 3) := by decide +kernel
theorem dX4_cellsOf_21 : decode cX4_cellsOf 21 = .ok (.bipush 13, 2) := by decide +kernel
theorem dX4_cellsOf_23 : decode cX4_cellsOf 23 = .ok (.iload_n 1, 1) := by decide +kernel
theorem dX4_cellsOf_24 : decode cX4_cellsOf 24 = .ok (.iadd, 1) := by decide +kernel
theorem dX4_cellsOf_25 : decode cX4_cellsOf 25 = .ok (.iaload, 1) := by decide +kernel
theorem dX4_cellsOf_26 : decode cX4_cellsOf 26 = .ok (.invokestatic 39, 3) := by decide +kernel
theorem dX4_cellsOf_29 : decode cX4_cellsOf 29 = .ok (.ireturn, 1) := by decide +kernel
theorem dX4_occupied_0 : decode cX4_occupied 0 = .ok (.aload_n 0, 1) := by decide +kernel
theorem dX4_occupied_1 : decode cX4_occupied 1 = .ok (.getfield 13, 3) := by decide +kernel
theorem dX4_occupied_4 : decode cX4_occupied 4 = .ok (.bipush 19, 2) := by decide +kernel
theorem dX4_occupied_6 : decode cX4_occupied 6 = .ok (.iaload, 1) := by decide +kernel
theorem dX4_occupied_7 : decode cX4_occupied 7 = .ok (.istore_n 1, 1) := by decide +kernel
theorem dX4_occupied_8 : decode cX4_occupied 8 = .ok (.iconst 0, 1) := by decide +kernel
theorem dX4_occupied_9 : decode cX4_occupied 9 = .ok (.istore_n 2, 1) := by decide +kernel
theorem dX4_occupied_10 : decode cX4_occupied 10 = .ok (.iload_n 2, 1) := by decide +kernel
theorem dX4_occupied_11 : decode cX4_occupied 11 = .ok (.aload_n 0, 1) := by decide +kernel
theorem dX4_occupied_12 : decode cX4_occupied 12 = .ok (.getfield 13, 3) := by decide +kernel
theorem dX4_occupied_15 : decode cX4_occupied 15 = .ok (.iconst 0, 1) := by decide +kernel
theorem dX4_occupied_16 : decode cX4_occupied 16 = .ok (.iaload, 1) := by decide +kernel
theorem dX4_occupied_17 : decode cX4_occupied 17 = .ok (.if_icmp .ge 17, 3) := by decide +kernel
theorem dX4_occupied_20 : decode cX4_occupied 20 = .ok (.iload_n 1, 1) := by decide +kernel
theorem dX4_occupied_21 : decode cX4_occupied 21 = .ok (.aload_n 0, 1) := by decide +kernel
theorem dX4_occupied_22 : decode cX4_occupied 22 = .ok (.iload_n 2, 1) := by decide +kernel
theorem dX4_occupied_23 : decode cX4_occupied 23 = .ok (.invokevirtual 43, 3) := by decide +kernel
theorem dX4_occupied_26 : decode cX4_occupied 26 = .ok (.ior, 1) := by decide +kernel
theorem dX4_occupied_27 : decode cX4_occupied 27 = .ok (.istore_n 1, 1) := by decide +kernel
theorem dX4_occupied_28 : decode cX4_occupied 28 = .ok (.iinc 2 1, 3) := by decide +kernel
theorem dX4_occupied_31 : decode cX4_occupied 31 = .ok (.goto (-21), 3) := by decide +kernel
theorem dX4_occupied_34 : decode cX4_occupied 34 = .ok (.iload_n 1, 1) := by decide +kernel
theorem dX4_occupied_35 : decode cX4_occupied 35 = .ok (.ireturn, 1) := by decide +kernel
theorem dX4_isCar_0 : decode cX4_isCar 0 = .ok (.iload_n 1, 1) := by decide +kernel
theorem dX4_isCar_1 : decode cX4_isCar 1 = .ok (.i2l, 1) := by decide +kernel
theorem dX4_isCar_2 : decode cX4_isCar 2 = .ok (.lconst 0, 1) := by decide +kernel
theorem dX4_isCar_3 : decode cX4_isCar 3 = .ok (.aload_n 0, 1) := by decide +kernel
theorem dX4_isCar_4 : decode cX4_isCar 4 = .ok (.getfield 13, 3) := by decide +kernel
theorem dX4_isCar_7 : decode cX4_isCar 7 = .ok (.iconst 0, 1) := by decide +kernel
theorem dX4_isCar_8 : decode cX4_isCar 8 = .ok (.iaload, 1) := by decide +kernel
theorem dX4_isCar_9 : decode cX4_isCar 9 = .ok (.iconst 1, 1) := by decide +kernel
theorem dX4_isCar_10 : decode cX4_isCar 10 = .ok (.isub, 1) := by decide +kernel
theorem dX4_isCar_11 : decode cX4_isCar 11 = .ok (.i2l, 1) := by decide +kernel
theorem dX4_isCar_12 : decode cX4_isCar 12 = .ok (.invokestatic 47, 3) := by decide +kernel
theorem dX4_isCar_15 : decode cX4_isCar 15 = .ok (.ireturn, 1) := by decide +kernel
theorem dX4_isCell_0 : decode cX4_isCell 0 = .ok (.iload_n 0, 1) := by decide +kernel
theorem dX4_isCell_1 : decode cX4_isCell 1 = .ok (.i2l, 1) := by decide +kernel
theorem dX4_isCell_2 : decode cX4_isCell 2 = .ok (.lconst 0, 1) := by decide +kernel
theorem dX4_isCell_3 : decode cX4_isCell 3 = .ok (.ldc2_w 51, 3) := by decide +kernel
theorem dX4_isCell_6 : decode cX4_isCell 6 = .ok (.invokestatic 47, 3) := by decide +kernel
theorem dX4_isCell_9 : decode cX4_isCell 9 = .ok (.ireturn, 1) := by decide +kernel
theorem dX4_space_0 : decode cX4_space 0 = .ok (.aload_n 0, 1) := by decide +kernel
theorem dX4_space_1 : decode cX4_space 1 = .ok (.invokevirtual 53, 3) := by decide +kernel
theorem dX4_space_4 : decode cX4_space 4 = .ok (.aload_n 0, 1) := by decide +kernel
theorem dX4_space_5 : decode cX4_space 5 = .ok (.iload_n 1, 1) := by decide +kernel
theorem dX4_space_6 : decode cX4_space 6 = .ok (.invokevirtual 43, 3) := by decide +kernel
theorem dX4_space_9 : decode cX4_space 9 = .ok (.iconst (-1), 1) := by decide +kernel
theorem dX4_space_10 : decode cX4_space 10 = .ok (.ixor, 1) := by decide +kernel
theorem dX4_space_11 : decode cX4_space 11 = .ok (.iand, 1) := by decide +kernel
theorem dX4_space_12 : decode cX4_space 12 = .ok (.istore_n 3, 1) := by decide +kernel
theorem dX4_space_13 : decode cX4_space 13 = .ok (.iconst 0, 1) := by decide +kernel
theorem dX4_space_14 : decode cX4_space 14 = .ok (.istore 4, 2) := by decide +kernel
theorem dX4_space_16 : decode cX4_space 16 = .ok (.iconst 1, 1) := by decide +kernel
theorem dX4_space_17 : decode cX4_space 17 = .ok (.istore 5, 2) := by decide +kernel
theorem dX4_space_19 : decode cX4_space 19 = .ok (.iload 5, 2) := by decide +kernel
theorem dX4_space_21 : decode cX4_space 21 = .ok (.ifCond .eq 101, 3) := by decide +kernel
theorem dX4_space_24 : decode cX4_space 24 = .ok (.aload_n 0, 1) := by decide +kernel
theorem dX4_space_25 : decode cX4_space 25 = .ok (.getfield 13, 3) := by decide +kernel
theorem dX4_space_28 : decode cX4_space 28 = .ok (.bipush 7, 2) := by decide +kernel
theorem dX4_space_30 : decode cX4_space 30 = .ok (.iload_n 1, 1) := by decide +kernel
theorem dX4_space_31 : decode cX4_space 31 = .ok (.iadd, 1) := by decide +kernel
theorem dX4_space_32 : decode cX4_space 32 = .ok (.iaload, 1) := by decide +kernel
theorem dX4_space_33 : decode cX4_space 33 = .ok (.iload_n 2, 1) := by decide +kernel
theorem dX4_space_34 : decode cX4_space 34 = .ok (.iload 4, 2) := by decide +kernel
theorem dX4_space_36 : decode cX4_space 36 = .ok (.iconst 1, 1) := by decide +kernel
theorem dX4_space_37 : decode cX4_space 37 = .ok (.iadd, 1) := by decide +kernel
theorem dX4_space_38 : decode cX4_space 38 = .ok (.imul, 1) := by decide +kernel
theorem dX4_space_39 : decode cX4_space 39 = .ok (.iadd, 1) := by decide +kernel
theorem dX4_space_40 : decode cX4_space 40 = .ok (.istore 6, 2) := by decide +kernel
theorem dX4_space_42 : decode cX4_space 42 = .ok (.iload 4, 2) := by decide +kernel
theorem dX4_space_44 : decode cX4_space 44 = .ok (.iconst 3, 1) := by decide +kernel
theorem dX4_space_45 : decode cX4_space 45 = .ok (.if_icmp .ge 56, 3) := by decide +kernel
theorem dX4_space_48 : decode cX4_space 48 = .ok (.iload 6, 2) := by decide +kernel
theorem dX4_space_50 : decode cX4_space 50 = .ok (.i2l, 1) := by decide +kernel
theorem dX4_space_51 : decode cX4_space 51 = .ok (.lconst 0, 1) := by decide +kernel
theorem dX4_space_52 : decode cX4_space 52 = .ok (.iconst 5, 1) := by decide +kernel
theorem dX4_space_53 : decode cX4_space 53 = .ok (.aload_n 0, 1) := by decide +kernel
theorem dX4_space_54 : decode cX4_space 54 = .ok (.getfield 13, 3) := by decide +kernel
theorem dX4_space_57 : decode cX4_space 57 = .ok (.bipush 13, 2) := by decide +kernel
theorem dX4_space_59 : decode cX4_space 59 = .ok (.iload_n 1, 1) := by decide +kernel
theorem dX4_space_60 : decode cX4_space 60 = .ok (.iadd, 1) := by decide +kernel
theorem dX4_space_61 : decode cX4_space 61 = .ok (.iaload, 1) := by decide +kernel
theorem dX4_space_62 : decode cX4_space 62 = .ok (.isub, 1) := by decide +kernel
theorem dX4_space_63 : decode cX4_space 63 = .ok (.i2l, 1) := by decide +kernel
theorem dX4_space_64 : decode cX4_space 64 = .ok (.invokestatic 47, 3) := by decide +kernel
theorem dX4_space_67 : decode cX4_space 67 = .ok (.ifCond .eq 34, 3) := by decide +kernel
theorem dX4_space_70 : decode cX4_space 70 = .ok (.aload_n 0, 1) := by decide +kernel
theorem dX4_space_71 : decode cX4_space 71 = .ok (.getfield 13, 3) := by decide +kernel
theorem dX4_space_74 : decode cX4_space 74 = .ok (.iconst 1, 1) := by decide +kernel
theorem dX4_space_75 : decode cX4_space 75 = .ok (.iload_n 1, 1) := by decide +kernel
theorem dX4_space_76 : decode cX4_space 76 = .ok (.iadd, 1) := by decide +kernel
theorem dX4_space_77 : decode cX4_space 77 = .ok (.iaload, 1) := by decide +kernel
theorem dX4_space_78 : decode cX4_space 78 = .ok (.iload 6, 2) := by decide +kernel
theorem dX4_space_80 : decode cX4_space 80 = .ok (.aload_n 0, 1) := by decide +kernel
theorem dX4_space_81 : decode cX4_space 81 = .ok (.getfield 13, 3) := by decide +kernel
theorem dX4_space_84 : decode cX4_space 84 = .ok (.bipush 13, 2) := by decide +kernel
theorem dX4_space_86 : decode cX4_space 86 = .ok (.iload_n 1, 1) := by decide +kernel
theorem dX4_space_87 : decode cX4_space 87 = .ok (.iadd, 1) := by decide +kernel
theorem dX4_space_88 : decode cX4_space 88 = .ok (.iaload, 1) := by decide +kernel
theorem dX4_space_89 : decode cX4_space 89 = .ok (.invokestatic 39, 3) := by decide +kernel
theorem dX4_space_92 : decode cX4_space 92 = .ok (.iload_n 3, 1) := by decide +kernel
theorem dX4_space_93 : decode cX4_space 93 = .ok (.iand, 1) := by decide +kernel
theorem dX4_space_94 : decode cX4_space 94 = .ok (.ifCond .ne 7, 3) := by decide +kernel
theorem dX4_space_97 : decode cX4_space 97 = .ok (.iconst 1, 1) := by decide +kernel
theorem dX4_space_98 : decode cX4_space 98 = .ok (.goto 4, 3) := by decide +kernel
theorem dX4_space_101 : decode cX4_space 101 = .ok (.iconst 0, 1) := by decide +kernel
theorem dX4_space_102 : decode cX4_space 102 = .ok (.istore 5, 2) := by decide +kernel
theorem dX4_space_104 : decode cX4_space 104 = .ok (.iload 4, 2) := by decide +kernel
theorem dX4_space_106 : decode cX4_space 106 = .ok (.iload 5, 2) := by decide +kernel
theorem dX4_space_108 : decode cX4_space 108 = .ok (.ifCond .eq 7, 3) := by decide +kernel
theorem dX4_space_111 : decode cX4_space 111 = .ok (.iconst 1, 1) := by decide +kernel
theorem dX4_space_112 : decode cX4_space 112 = .ok (.goto 4, 3) := by decide +kernel
theorem dX4_space_115 : decode cX4_space 115 = .ok (.iconst 0, 1) := by decide +kernel
theorem dX4_space_116 : decode cX4_space 116 = .ok (.iadd, 1) := by decide +kernel
theorem dX4_space_117 : decode cX4_space 117 = .ok (.istore 4, 2) := by decide +kernel
theorem dX4_space_119 : decode cX4_space 119 = .ok (.goto (-100), 3) := by decide +kernel
theorem dX4_space_122 : decode cX4_space 122 = .ok (.iload 4, 2) := by decide +kernel
theorem dX4_space_124 : decode cX4_space 124 = .ok (.ireturn, 1) := by decide +kernel
theorem dX4_canSlide_0 : decode cX4_canSlide 0 = .ok (.iload_n 2, 1) := by decide +kernel
theorem dX4_canSlide_1 : decode cX4_canSlide 1 = .ok (.ifCond .le 21, 3) := by decide +kernel
theorem dX4_canSlide_4 : decode cX4_canSlide 4 = .ok (.aload_n 0, 1) := by decide +kernel
theorem dX4_canSlide_5 : decode cX4_canSlide 5 = .ok (.iload_n 1, 1) := by decide +kernel
theorem dX4_canSlide_6 : decode cX4_canSlide 6 = .ok (.iconst 1, 1) := by decide +kernel
theorem dX4_canSlide_7 : decode cX4_canSlide 7 = .ok (.invokevirtual 57, 3) := by decide +kernel
theorem dX4_canSlide_10 : decode cX4_canSlide 10 = .ok (.iload_n 2, 1) := by decide +kernel
theorem dX4_canSlide_11 : decode cX4_canSlide 11 = .ok (.if_icmp .lt 7, 3) := by decide +kernel
theorem dX4_canSlide_14 : decode cX4_canSlide 14 = .ok (.iconst 1, 1) := by decide +kernel
theorem dX4_canSlide_15 : decode cX4_canSlide 15 = .ok (.goto 23, 3) := by decide +kernel
theorem dX4_canSlide_18 : decode cX4_canSlide 18 = .ok (.iconst 0, 1) := by decide +kernel
theorem dX4_canSlide_19 : decode cX4_canSlide 19 = .ok (.goto 19, 3) := by decide +kernel
theorem dX4_canSlide_22 : decode cX4_canSlide 22 = .ok (.aload_n 0, 1) := by decide +kernel
theorem dX4_canSlide_23 : decode cX4_canSlide 23 = .ok (.iload_n 1, 1) := by decide +kernel
theorem dX4_canSlide_24 : decode cX4_canSlide 24 = .ok (.iconst (-1), 1) := by decide +kernel
theorem dX4_canSlide_25 : decode cX4_canSlide 25 = .ok (.invokevirtual 57, 3) := by decide +kernel
theorem dX4_canSlide_28 : decode cX4_canSlide 28 = .ok (.iload_n 2, 1) := by decide +kernel
theorem dX4_canSlide_29 : decode cX4_canSlide 29 = .ok (.ineg, 1) := by decide +kernel
theorem dX4_canSlide_30 : decode cX4_canSlide 30 = .ok (.if_icmp .lt 7, 3) := by decide +kernel
theorem dX4_canSlide_33 : decode cX4_canSlide 33 = .ok (.iconst 1, 1) := by decide +kernel
theorem dX4_canSlide_34 : decode cX4_canSlide 34 = .ok (.goto 4, 3) := by decide +kernel
theorem dX4_canSlide_37 : decode cX4_canSlide 37 = .ok (.iconst 0, 1) := by decide +kernel
theorem dX4_canSlide_38 : decode cX4_canSlide 38 = .ok (.ireturn, 1) := by decide +kernel
theorem dX4_isFree_0 : decode cX4_isFree 0 = .ok (.aload_n 0, 1) := by decide +kernel
theorem dX4_isFree_1 : decode cX4_isFree 1 = .ok (.getfield 13, 3) := by decide +kernel
theorem dX4_isFree_4 : decode cX4_isFree 4 = .ok (.iconst 0, 1) := by decide +kernel
theorem dX4_isFree_5 : decode cX4_isFree 5 = .ok (.iaload, 1) := by decide +kernel
theorem dX4_isFree_6 : decode cX4_isFree 6 = .ok (.ifCond .le 26, 3) := by decide +kernel
theorem dX4_isFree_9 : decode cX4_isFree 9 = .ok (.aload_n 0, 1) := by decide +kernel
theorem dX4_isFree_10 : decode cX4_isFree 10 = .ok (.getfield 13, 3) := by decide +kernel
theorem dX4_isFree_13 : decode cX4_isFree 13 = .ok (.bipush 7, 2) := by decide +kernel
theorem dX4_isFree_15 : decode cX4_isFree 15 = .ok (.iaload, 1) := by decide +kernel
theorem dX4_isFree_16 : decode cX4_isFree 16 = .ok (.aload_n 0, 1) := by decide +kernel
theorem dX4_isFree_17 : decode cX4_isFree 17 = .ok (.getfield 13, 3) := by decide +kernel
theorem dX4_isFree_20 : decode cX4_isFree 20 = .ok (.bipush 13, 2) := by decide +kernel
theorem dX4_isFree_22 : decode cX4_isFree 22 = .ok (.iaload, 1) := by decide +kernel
theorem dX4_isFree_23 : decode cX4_isFree 23 = .ok (.iadd, 1) := by decide +kernel
theorem dX4_isFree_24 : decode cX4_isFree 24 = .ok (.iconst 5, 1) := by decide +kernel
theorem dX4_isFree_25 : decode cX4_isFree 25 = .ok (.if_icmp .ne 7, 3) := by decide +kernel
theorem dX4_isFree_28 : decode cX4_isFree 28 = .ok (.iconst 1, 1) := by decide +kernel
theorem dX4_isFree_29 : decode cX4_isFree 29 = .ok (.goto 4, 3) := by decide +kernel
theorem dX4_isFree_32 : decode cX4_isFree 32 = .ok (.iconst 0, 1) := by decide +kernel
theorem dX4_isFree_33 : decode cX4_isFree 33 = .ok (.ireturn, 1) := by decide +kernel
theorem dX4_prepares_0 : decode cX4_prepares 0 = .ok (.aload_n 0, 1) := by decide +kernel
theorem dX4_prepares_1 : decode cX4_prepares 1 = .ok (.iload_n 1, 1) := by decide +kernel
theorem dX4_prepares_2 : decode cX4_prepares 2 = .ok (.putfield 61, 3) := by decide +kernel
theorem dX4_prepares_5 : decode cX4_prepares 5 = .ok (.aload_n 0, 1) := by decide +kernel
theorem dX4_prepares_6 : decode cX4_prepares 6 = .ok (.iload_n 2, 1) := by decide +kernel
theorem dX4_prepares_7 : decode cX4_prepares 7 = .ok (.putfield 64, 3) := by decide +kernel
theorem dX4_prepares_10 : decode cX4_prepares 10 = .ok (.iconst 0, 1) := by decide +kernel
theorem dX4_prepares_11 : decode cX4_prepares 11 = .ok (.istore_n 3, 1) := by decide +kernel
theorem dX4_prepares_12 : decode cX4_prepares 12 = .ok (.iload_n 3, 1) := by decide +kernel
theorem dX4_prepares_13 : decode cX4_prepares 13 = .ok (.iconst 4, 1) := by decide +kernel
theorem dX4_prepares_14 : decode cX4_prepares 14 = .ok (.iload_n 1, 1) := by decide +kernel
theorem dX4_prepares_15 : decode cX4_prepares 15 = .ok (.imul, 1) := by decide +kernel
theorem dX4_prepares_16 : decode cX4_prepares 16 = .ok (.if_icmp .ge 70, 3) := by decide +kernel
theorem dX4_prepares_19 : decode cX4_prepares 19 = .ok (.iload_n 3, 1) := by decide +kernel
theorem dX4_prepares_20 : decode cX4_prepares 20 = .ok (.iconst 4, 1) := by decide +kernel
theorem dX4_prepares_21 : decode cX4_prepares 21 = .ok (.idiv, 1) := by decide +kernel
theorem dX4_prepares_22 : decode cX4_prepares 22 = .ok (.istore 4, 2) := by decide +kernel
theorem dX4_prepares_24 : decode cX4_prepares 24 = .ok (.iload_n 3, 1) := by decide +kernel
theorem dX4_prepares_25 : decode cX4_prepares 25 = .ok (.iconst 4, 1) := by decide +kernel
theorem dX4_prepares_26 : decode cX4_prepares 26 = .ok (.irem, 1) := by decide +kernel
theorem dX4_prepares_27 : decode cX4_prepares 27 = .ok (.istore 5, 2) := by decide +kernel
theorem dX4_prepares_29 : decode cX4_prepares 29 = .ok (.aload_n 0, 1) := by decide +kernel
theorem dX4_prepares_30 : decode cX4_prepares 30 = .ok (.getfield 22, 3) := by decide +kernel
theorem dX4_prepares_33 : decode cX4_prepares 33 = .ok (.iload_n 3, 1) := by decide +kernel
theorem dX4_prepares_34 : decode cX4_prepares 34 = .ok (.iload 5, 2) := by decide +kernel
theorem dX4_prepares_36 : decode cX4_prepares 36 = .ok (.aload_n 0, 1) := by decide +kernel
theorem dX4_prepares_37 : decode cX4_prepares 37 = .ok (.getfield 13, 3) := by decide +kernel
theorem dX4_prepares_40 : decode cX4_prepares 40 = .ok (.bipush 13, 2) := by decide +kernel
theorem dX4_prepares_42 : decode cX4_prepares 42 = .ok (.iload 4, 2) := by decide +kernel
theorem dX4_prepares_44 : decode cX4_prepares 44 = .ok (.iadd, 1) := by decide +kernel
theorem dX4_prepares_45 : decode cX4_prepares 45 = .ok (.iaload, 1) := by decide +kernel
theorem dX4_prepares_46 : decode cX4_prepares 46 = .ok (.iadd, 1) := by decide +kernel
theorem dX4_prepares_47 : decode cX4_prepares 47 = .ok (.iconst 5, 1) := by decide +kernel
theorem dX4_prepares_48 : decode cX4_prepares 48 = .ok (.if_icmp .gt 30, 3) := by decide +kernel
theorem dX4_prepares_51 : decode cX4_prepares 51 = .ok (.aload_n 0, 1) := by decide +kernel
theorem dX4_prepares_52 : decode cX4_prepares 52 = .ok (.getfield 13, 3) := by decide +kernel
theorem dX4_prepares_55 : decode cX4_prepares 55 = .ok (.iconst 1, 1) := by decide +kernel
theorem dX4_prepares_56 : decode cX4_prepares 56 = .ok (.iload 4, 2) := by decide +kernel
theorem dX4_prepares_58 : decode cX4_prepares 58 = .ok (.iadd, 1) := by decide +kernel
theorem dX4_prepares_59 : decode cX4_prepares 59 = .ok (.iaload, 1) := by decide +kernel
theorem dX4_prepares_60 : decode cX4_prepares 60 = .ok (.iload 5, 2) := by decide +kernel
theorem dX4_prepares_62 : decode cX4_prepares 62 = .ok (.aload_n 0, 1) := by decide +kernel
theorem dX4_prepares_63 : decode cX4_prepares 63 = .ok (.getfield 13, 3) := by decide +kernel
theorem dX4_prepares_66 : decode cX4_prepares 66 = .ok (.bipush 13, 2) := by decide +kernel
theorem dX4_prepares_68 : decode cX4_prepares 68 = .ok (.iload 4, 2) := by decide +kernel
theorem dX4_prepares_70 : decode cX4_prepares 70 = .ok (.iadd, 1) := by decide +kernel
theorem dX4_prepares_71 : decode cX4_prepares 71 = .ok (.iaload, 1) := by decide +kernel
theorem dX4_prepares_72 : decode cX4_prepares 72 = .ok (.invokestatic 39, 3) := by decide +kernel
theorem dX4_prepares_75 : decode cX4_prepares 75 = .ok (.goto 4, 3) := by decide +kernel
theorem dX4_prepares_78 : decode cX4_prepares 78 = .ok (.iconst 0, 1) := by decide +kernel
theorem dX4_prepares_79 : decode cX4_prepares 79 = .ok (.iastore, 1) := by decide +kernel
theorem dX4_prepares_80 : decode cX4_prepares 80 = .ok (.iinc 3 1, 3) := by decide +kernel
theorem dX4_prepares_83 : decode cX4_prepares 83 = .ok (.goto (-71), 3) := by decide +kernel
theorem dX4_prepares_86 : decode cX4_prepares 86 = .ok (.return_, 1) := by decide +kernel
theorem dX4_codeNow_0 : decode cX4_codeNow 0 = .ok (.iconst 0, 1) := by decide +kernel
theorem dX4_codeNow_1 : decode cX4_codeNow 1 = .ok (.istore_n 1, 1) := by decide +kernel
theorem dX4_codeNow_2 : decode cX4_codeNow 2 = .ok (.iconst 0, 1) := by decide +kernel
theorem dX4_codeNow_3 : decode cX4_codeNow 3 = .ok (.istore_n 2, 1) := by decide +kernel
theorem dX4_codeNow_4 : decode cX4_codeNow 4 = .ok (.iload_n 2, 1) := by decide +kernel
theorem dX4_codeNow_5 : decode cX4_codeNow 5 = .ok (.aload_n 0, 1) := by decide +kernel
theorem dX4_codeNow_6 : decode cX4_codeNow 6 = .ok (.getfield 61, 3) := by decide +kernel
theorem dX4_codeNow_9 : decode cX4_codeNow 9 = .ok (.if_icmp .ge 25, 3) := by decide +kernel
theorem dX4_codeNow_12 : decode cX4_codeNow 12 = .ok (.iload_n 1, 1) := by decide +kernel
theorem dX4_codeNow_13 : decode cX4_codeNow 13 = .ok (.aload_n 0, 1) := by decide +kernel
theorem dX4_codeNow_14 : decode cX4_codeNow 14 = .ok (.getfield 13, 3) := by decide +kernel
theorem dX4_codeNow_17 : decode cX4_codeNow 17 = .ok (.bipush 7, 2) := by decide +kernel
theorem dX4_codeNow_19 : decode cX4_codeNow 19 = .ok (.iload_n 2, 1) := by decide +kernel
theorem dX4_codeNow_20 : decode cX4_codeNow 20 = .ok (.iadd, 1) := by decide +kernel
theorem dX4_codeNow_21 : decode cX4_codeNow 21 = .ok (.iaload, 1) := by decide +kernel
theorem dX4_codeNow_22 : decode cX4_codeNow 22 = .ok (.iconst 2, 1) := by decide +kernel
theorem dX4_codeNow_23 : decode cX4_codeNow 23 = .ok (.iload_n 2, 1) := by decide +kernel
theorem dX4_codeNow_24 : decode cX4_codeNow 24 = .ok (.imul, 1) := by decide +kernel
theorem dX4_codeNow_25 : decode cX4_codeNow 25 = .ok (.ishl, 1) := by decide +kernel
theorem dX4_codeNow_26 : decode cX4_codeNow 26 = .ok (.ior, 1) := by decide +kernel
theorem dX4_codeNow_27 : decode cX4_codeNow 27 = .ok (.istore_n 1, 1) := by decide +kernel
theorem dX4_codeNow_28 : decode cX4_codeNow 28 = .ok (.iinc 2 1, 3) := by decide +kernel
theorem dX4_codeNow_31 : decode cX4_codeNow 31 = .ok (.goto (-27), 3) := by decide +kernel
theorem dX4_codeNow_34 : decode cX4_codeNow 34 = .ok (.iload_n 1, 1) := by decide +kernel
theorem dX4_codeNow_35 : decode cX4_codeNow 35 = .ok (.ireturn, 1) := by decide +kernel
theorem dX4_setOf_0 : decode cX4_setOf 0 = .ok (.aload_n 0, 1) := by decide +kernel
theorem dX4_setOf_1 : decode cX4_setOf 1 = .ok (.getfield 64, 3) := by decide +kernel
theorem dX4_setOf_4 : decode cX4_setOf 4 = .ok (.istore_n 2, 1) := by decide +kernel
theorem dX4_setOf_5 : decode cX4_setOf 5 = .ok (.iconst 0, 1) := by decide +kernel
theorem dX4_setOf_6 : decode cX4_setOf 6 = .ok (.istore_n 3, 1) := by decide +kernel
theorem dX4_setOf_7 : decode cX4_setOf 7 = .ok (.iload_n 3, 1) := by decide +kernel
theorem dX4_setOf_8 : decode cX4_setOf 8 = .ok (.aload_n 0, 1) := by decide +kernel
theorem dX4_setOf_9 : decode cX4_setOf 9 = .ok (.getfield 61, 3) := by decide +kernel
theorem dX4_setOf_12 : decode cX4_setOf 12 = .ok (.if_icmp .ge 28, 3) := by decide +kernel
theorem dX4_setOf_15 : decode cX4_setOf 15 = .ok (.iload_n 2, 1) := by decide +kernel
theorem dX4_setOf_16 : decode cX4_setOf 16 = .ok (.aload_n 0, 1) := by decide +kernel
theorem dX4_setOf_17 : decode cX4_setOf 17 = .ok (.getfield 22, 3) := by decide +kernel
theorem dX4_setOf_20 : decode cX4_setOf 20 = .ok (.iconst 4, 1) := by decide +kernel
theorem dX4_setOf_21 : decode cX4_setOf 21 = .ok (.iload_n 3, 1) := by decide +kernel
theorem dX4_setOf_22 : decode cX4_setOf 22 = .ok (.imul, 1) := by decide +kernel
theorem dX4_setOf_23 : decode cX4_setOf 23 = .ok (.iload_n 1, 1) := by decide +kernel
theorem dX4_setOf_24 : decode cX4_setOf 24 = .ok (.iconst 2, 1) := by decide +kernel
theorem dX4_setOf_25 : decode cX4_setOf 25 = .ok (.iload_n 3, 1) := by decide +kernel
theorem dX4_setOf_26 : decode cX4_setOf 26 = .ok (.imul, 1) := by decide +kernel
theorem dX4_setOf_27 : decode cX4_setOf 27 = .ok (.ishr, 1) := by decide +kernel
theorem dX4_setOf_28 : decode cX4_setOf 28 = .ok (.iconst 3, 1) := by decide +kernel
theorem dX4_setOf_29 : decode cX4_setOf 29 = .ok (.iand, 1) := by decide +kernel
theorem dX4_setOf_30 : decode cX4_setOf 30 = .ok (.iadd, 1) := by decide +kernel
theorem dX4_setOf_31 : decode cX4_setOf 31 = .ok (.iaload, 1) := by decide +kernel
theorem dX4_setOf_32 : decode cX4_setOf 32 = .ok (.ior, 1) := by decide +kernel
theorem dX4_setOf_33 : decode cX4_setOf 33 = .ok (.istore_n 2, 1) := by decide +kernel
theorem dX4_setOf_34 : decode cX4_setOf 34 = .ok (.iinc 3 1, 3) := by decide +kernel
theorem dX4_setOf_37 : decode cX4_setOf 37 = .ok (.goto (-30), 3) := by decide +kernel
theorem dX4_setOf_40 : decode cX4_setOf 40 = .ok (.iload_n 2, 1) := by decide +kernel
theorem dX4_setOf_41 : decode cX4_setOf 41 = .ok (.ireturn, 1) := by decide +kernel
theorem dX4_isWhole_0 : decode cX4_isWhole 0 = .ok (.aload_n 0, 1) := by decide +kernel
theorem dX4_isWhole_1 : decode cX4_isWhole 1 = .ok (.getfield 64, 3) := by decide +kernel
theorem dX4_isWhole_4 : decode cX4_isWhole 4 = .ok (.istore_n 2, 1) := by decide +kernel
theorem dX4_isWhole_5 : decode cX4_isWhole 5 = .ok (.iconst 0, 1) := by decide +kernel
theorem dX4_isWhole_6 : decode cX4_isWhole 6 = .ok (.istore_n 3, 1) := by decide +kernel
theorem dX4_isWhole_7 : decode cX4_isWhole 7 = .ok (.iload_n 3, 1) := by decide +kernel
theorem dX4_isWhole_8 : decode cX4_isWhole 8 = .ok (.aload_n 0, 1) := by decide +kernel
theorem dX4_isWhole_9 : decode cX4_isWhole 9 = .ok (.getfield 61, 3) := by decide +kernel
theorem dX4_isWhole_12 : decode cX4_isWhole 12 = .ok (.if_icmp .ge 46, 3) := by decide +kernel
theorem dX4_isWhole_15 : decode cX4_isWhole 15 = .ok (.aload_n 0, 1) := by decide +kernel
theorem dX4_isWhole_16 : decode cX4_isWhole 16 = .ok (.getfield 22, 3) := by decide +kernel
theorem dX4_isWhole_19 : decode cX4_isWhole 19 = .ok (.iconst 4, 1) := by decide +kernel
theorem dX4_isWhole_20 : decode cX4_isWhole 20 = .ok (.iload_n 3, 1) := by decide +kernel
theorem dX4_isWhole_21 : decode cX4_isWhole 21 = .ok (.imul, 1) := by decide +kernel
theorem dX4_isWhole_22 : decode cX4_isWhole 22 = .ok (.iload_n 1, 1) := by decide +kernel
theorem dX4_isWhole_23 : decode cX4_isWhole 23 = .ok (.iconst 2, 1) := by decide +kernel
theorem dX4_isWhole_24 : decode cX4_isWhole 24 = .ok (.iload_n 3, 1) := by decide +kernel
theorem dX4_isWhole_25 : decode cX4_isWhole 25 = .ok (.imul, 1) := by decide +kernel
theorem dX4_isWhole_26 : decode cX4_isWhole 26 = .ok (.ishr, 1) := by decide +kernel
theorem dX4_isWhole_27 : decode cX4_isWhole 27 = .ok (.iconst 3, 1) := by decide +kernel
theorem dX4_isWhole_28 : decode cX4_isWhole 28 = .ok (.iand, 1) := by decide +kernel
theorem dX4_isWhole_29 : decode cX4_isWhole 29 = .ok (.iadd, 1) := by decide +kernel
theorem dX4_isWhole_30 : decode cX4_isWhole 30 = .ok (.iaload, 1) := by decide +kernel
theorem dX4_isWhole_31 : decode cX4_isWhole 31 = .ok (.istore 4, 2) := by decide +kernel
theorem dX4_isWhole_33 : decode cX4_isWhole 33 = .ok (.iload 4, 2) := by decide +kernel
theorem dX4_isWhole_35 : decode cX4_isWhole 35 = .ok (.ifCond .eq 10, 3) := by decide +kernel
theorem dX4_isWhole_38 : decode cX4_isWhole 38 = .ok (.iload 4, 2) := by decide +kernel
theorem dX4_isWhole_40 : decode cX4_isWhole 40 = .ok (.iload_n 2, 1) := by decide +kernel
theorem dX4_isWhole_41 : decode cX4_isWhole 41 = .ok (.iand, 1) := by decide +kernel
theorem dX4_isWhole_42 : decode cX4_isWhole 42 = .ok (.ifCond .eq 5, 3) := by decide +kernel
theorem dX4_isWhole_45 : decode cX4_isWhole 45 = .ok (.iconst 0, 1) := by decide +kernel
theorem dX4_isWhole_46 : decode cX4_isWhole 46 = .ok (.ireturn, 1) := by decide +kernel
theorem dX4_isWhole_47 : decode cX4_isWhole 47 = .ok (.iload_n 2, 1) := by decide +kernel
theorem dX4_isWhole_48 : decode cX4_isWhole 48 = .ok (.iload 4, 2) := by decide +kernel
theorem dX4_isWhole_50 : decode cX4_isWhole 50 = .ok (.ior, 1) := by decide +kernel
theorem dX4_isWhole_51 : decode cX4_isWhole 51 = .ok (.istore_n 2, 1) := by decide +kernel
theorem dX4_isWhole_52 : decode cX4_isWhole 52 = .ok (.iinc 3 1, 3) := by decide +kernel
theorem dX4_isWhole_55 : decode cX4_isWhole 55 = .ok (.goto (-48), 3) := by decide +kernel
theorem dX4_isWhole_58 : decode cX4_isWhole 58 = .ok (.iconst 1, 1) := by decide +kernel
theorem dX4_isWhole_59 : decode cX4_isWhole 59 = .ok (.ireturn, 1) := by decide +kernel
theorem dX4_isEnd_0 : decode cX4_isEnd 0 = .ok (.aload_n 0, 1) := by decide +kernel
theorem dX4_isEnd_1 : decode cX4_isEnd 1 = .ok (.getfield 61, 3) := by decide +kernel
theorem dX4_isEnd_4 : decode cX4_isEnd 4 = .ok (.ifCond .le 22, 3) := by decide +kernel
theorem dX4_isEnd_7 : decode cX4_isEnd 7 = .ok (.iload_n 1, 1) := by decide +kernel
theorem dX4_isEnd_8 : decode cX4_isEnd 8 = .ok (.iconst 3, 1) := by decide +kernel
theorem dX4_isEnd_9 : decode cX4_isEnd 9 = .ok (.iand, 1) := by decide +kernel
theorem dX4_isEnd_10 : decode cX4_isEnd 10 = .ok (.aload_n 0, 1) := by decide +kernel
theorem dX4_isEnd_11 : decode cX4_isEnd 11 = .ok (.getfield 13, 3) := by decide +kernel
theorem dX4_isEnd_14 : decode cX4_isEnd 14 = .ok (.bipush 13, 2) := by decide +kernel
theorem dX4_isEnd_16 : decode cX4_isEnd 16 = .ok (.iaload, 1) := by decide +kernel
theorem dX4_isEnd_17 : decode cX4_isEnd 17 = .ok (.iadd, 1) := by decide +kernel
theorem dX4_isEnd_18 : decode cX4_isEnd 18 = .ok (.iconst 5, 1) := by decide +kernel
theorem dX4_isEnd_19 : decode cX4_isEnd 19 = .ok (.if_icmp .ne 7, 3) := by decide +kernel
theorem dX4_isEnd_22 : decode cX4_isEnd 22 = .ok (.iconst 1, 1) := by decide +kernel
theorem dX4_isEnd_23 : decode cX4_isEnd 23 = .ok (.goto 4, 3) := by decide +kernel
theorem dX4_isEnd_26 : decode cX4_isEnd 26 = .ok (.iconst 0, 1) := by decide +kernel
theorem dX4_isEnd_27 : decode cX4_isEnd 27 = .ok (.ireturn, 1) := by decide +kernel
theorem dX4_reaches_0 : decode cX4_reaches 0 = .ok (.aload_n 0, 1) := by decide +kernel
theorem dX4_reaches_1 : decode cX4_reaches 1 = .ok (.getfield 25, 3) := by decide +kernel
theorem dX4_reaches_4 : decode cX4_reaches 4 = .ok (.iload_n 1, 1) := by decide +kernel
theorem dX4_reaches_5 : decode cX4_reaches 5 = .ok (.iaload, 1) := by decide +kernel
theorem dX4_reaches_6 : decode cX4_reaches 6 = .ok (.iconst (-1), 1) := by decide +kernel
theorem dX4_reaches_7 : decode cX4_reaches 7 = .ok (.if_icmp .ne 30, 3) := by decide +kernel
theorem dX4_reaches_10 : decode cX4_reaches 10 = .ok (.aload_n 0, 1) := by decide +kernel
theorem dX4_reaches_11 : decode cX4_reaches 11 = .ok (.getfield 25, 3) := by decide +kernel
theorem dX4_reaches_14 : decode cX4_reaches 14 = .ok (.iload_n 1, 1) := by decide +kernel
theorem dX4_reaches_15 : decode cX4_reaches 15 = .ok (.iload_n 2, 1) := by decide +kernel
theorem dX4_reaches_16 : decode cX4_reaches 16 = .ok (.iastore, 1) := by decide +kernel
theorem dX4_reaches_17 : decode cX4_reaches 17 = .ok (.aload_n 0, 1) := by decide +kernel
theorem dX4_reaches_18 : decode cX4_reaches 18 = .ok (.getfield 28, 3) := by decide +kernel
theorem dX4_reaches_21 : decode cX4_reaches 21 = .ok (.aload_n 0, 1) := by decide +kernel
theorem dX4_reaches_22 : decode cX4_reaches 22 = .ok (.getfield 67, 3) := by decide +kernel
theorem dX4_reaches_25 : decode cX4_reaches 25 = .ok (.iload_n 1, 1) := by decide +kernel
theorem dX4_reaches_26 : decode cX4_reaches 26 = .ok (.iastore, 1) := by decide +kernel
theorem dX4_reaches_27 : decode cX4_reaches 27 = .ok (.aload_n 0, 1) := by decide +kernel
theorem dX4_reaches_28 : decode cX4_reaches 28 = .ok (.dup, 1) := by decide +kernel
theorem dX4_reaches_29 : decode cX4_reaches 29 = .ok (.getfield 67, 3) := by decide +kernel
theorem dX4_reaches_32 : decode cX4_reaches 32 = .ok (.iconst 1, 1) := by decide +kernel
theorem dX4_reaches_33 : decode cX4_reaches 33 = .ok (.iadd, 1) := by decide +kernel
theorem dX4_reaches_34 : decode cX4_reaches 34 = .ok (.putfield 67, 3) := by decide +kernel
theorem dX4_reaches_37 : decode cX4_reaches 37 = .ok (.return_, 1) := by decide +kernel
theorem dX4_goes_0 : decode cX4_goes 0 = .ok (.iload_n 1, 1) := by decide +kernel
theorem dX4_goes_1 : decode cX4_goes 1 = .ok (.iconst 2, 1) := by decide +kernel
theorem dX4_goes_2 : decode cX4_goes 2 = .ok (.iload_n 2, 1) := by decide +kernel
theorem dX4_goes_3 : decode cX4_goes 3 = .ok (.imul, 1) := by decide +kernel
theorem dX4_goes_4 : decode cX4_goes 4 = .ok (.ishr, 1) := by decide +kernel
theorem dX4_goes_5 : decode cX4_goes 5 = .ok (.iconst 3, 1) := by decide +kernel
theorem dX4_goes_6 : decode cX4_goes 6 = .ok (.iand, 1) := by decide +kernel
theorem dX4_goes_7 : decode cX4_goes 7 = .ok (.istore 5, 2) := by decide +kernel
theorem dX4_goes_9 : decode cX4_goes 9 = .ok (.aload_n 0, 1) := by decide +kernel
theorem dX4_goes_10 : decode cX4_goes 10 = .ok (.iload_n 1, 1) := by decide +kernel
theorem dX4_goes_11 : decode cX4_goes 11 = .ok (.invokevirtual 70, 3) := by decide +kernel
theorem dX4_goes_14 : decode cX4_goes 14 = .ok (.aload_n 0, 1) := by decide +kernel
theorem dX4_goes_15 : decode cX4_goes 15 = .ok (.getfield 22, 3) := by decide +kernel
theorem dX4_goes_18 : decode cX4_goes 18 = .ok (.iconst 4, 1) := by decide +kernel
theorem dX4_goes_19 : decode cX4_goes 19 = .ok (.iload_n 2, 1) := by decide +kernel
theorem dX4_goes_20 : decode cX4_goes 20 = .ok (.imul, 1) := by decide +kernel
theorem dX4_goes_21 : decode cX4_goes 21 = .ok (.iload 5, 2) := by decide +kernel
theorem dX4_goes_23 : decode cX4_goes 23 = .ok (.iadd, 1) := by decide +kernel
theorem dX4_goes_24 : decode cX4_goes 24 = .ok (.iaload, 1) := by decide +kernel
theorem dX4_goes_25 : decode cX4_goes 25 = .ok (.iconst (-1), 1) := by decide +kernel
theorem dX4_goes_26 : decode cX4_goes 26 = .ok (.ixor, 1) := by decide +kernel
theorem dX4_goes_27 : decode cX4_goes 27 = .ok (.iand, 1) := by decide +kernel
theorem dX4_goes_28 : decode cX4_goes 28 = .ok (.istore 6, 2) := by decide +kernel
theorem dX4_goes_30 : decode cX4_goes 30 = .ok (.iload 5, 2) := by decide +kernel
theorem dX4_goes_32 : decode cX4_goes 32 = .ok (.iload_n 3, 1) := by decide +kernel
theorem dX4_goes_33 : decode cX4_goes 33 = .ok (.iadd, 1) := by decide +kernel
theorem dX4_goes_34 : decode cX4_goes 34 = .ok (.istore 7, 2) := by decide +kernel
theorem dX4_goes_36 : decode cX4_goes 36 = .ok (.iload 4, 2) := by decide +kernel
theorem dX4_goes_38 : decode cX4_goes 38 = .ok (.istore 8, 2) := by decide +kernel
theorem dX4_goes_40 : decode cX4_goes 40 = .ok (.iload 8, 2) := by decide +kernel
theorem dX4_goes_42 : decode cX4_goes 42 = .ok (.ifCond .le 87, 3) := by decide +kernel
theorem dX4_goes_45 : decode cX4_goes 45 = .ok (.iload 7, 2) := by decide +kernel
theorem dX4_goes_47 : decode cX4_goes 47 = .ok (.i2l, 1) := by decide +kernel
theorem dX4_goes_48 : decode cX4_goes 48 = .ok (.lconst 0, 1) := by decide +kernel
theorem dX4_goes_49 : decode cX4_goes 49 = .ok (.ldc2_w 73, 3) := by decide +kernel
theorem dX4_goes_52 : decode cX4_goes 52 = .ok (.invokestatic 47, 3) := by decide +kernel
theorem dX4_goes_55 : decode cX4_goes 55 = .ok (.ifCond .eq 74, 3) := by decide +kernel
theorem dX4_goes_58 : decode cX4_goes 58 = .ok (.aload_n 0, 1) := by decide +kernel
theorem dX4_goes_59 : decode cX4_goes 59 = .ok (.getfield 22, 3) := by decide +kernel
theorem dX4_goes_62 : decode cX4_goes 62 = .ok (.iconst 4, 1) := by decide +kernel
theorem dX4_goes_63 : decode cX4_goes 63 = .ok (.iload_n 2, 1) := by decide +kernel
theorem dX4_goes_64 : decode cX4_goes 64 = .ok (.imul, 1) := by decide +kernel
theorem dX4_goes_65 : decode cX4_goes 65 = .ok (.iload 7, 2) := by decide +kernel
theorem dX4_goes_67 : decode cX4_goes 67 = .ok (.iadd, 1) := by decide +kernel
theorem dX4_goes_68 : decode cX4_goes 68 = .ok (.iaload, 1) := by decide +kernel
theorem dX4_goes_69 : decode cX4_goes 69 = .ok (.ifCond .eq 60, 3) := by decide +kernel
theorem dX4_goes_72 : decode cX4_goes 72 = .ok (.aload_n 0, 1) := by decide +kernel
theorem dX4_goes_73 : decode cX4_goes 73 = .ok (.getfield 22, 3) := by decide +kernel
theorem dX4_goes_76 : decode cX4_goes 76 = .ok (.iconst 4, 1) := by decide +kernel
theorem dX4_goes_77 : decode cX4_goes 77 = .ok (.iload_n 2, 1) := by decide +kernel
theorem dX4_goes_78 : decode cX4_goes 78 = .ok (.imul, 1) := by decide +kernel
theorem dX4_goes_79 : decode cX4_goes 79 = .ok (.iload 7, 2) := by decide +kernel
theorem dX4_goes_81 : decode cX4_goes 81 = .ok (.iadd, 1) := by decide +kernel
theorem dX4_goes_82 : decode cX4_goes 82 = .ok (.iaload, 1) := by decide +kernel
theorem dX4_goes_83 : decode cX4_goes 83 = .ok (.iload 6, 2) := by decide +kernel
theorem dX4_goes_85 : decode cX4_goes 85 = .ok (.iand, 1) := by decide +kernel
theorem dX4_goes_86 : decode cX4_goes 86 = .ok (.ifCond .ne 43, 3) := by decide +kernel
theorem dX4_goes_89 : decode cX4_goes 89 = .ok (.aload_n 0, 1) := by decide +kernel
theorem dX4_goes_90 : decode cX4_goes 90 = .ok (.iload_n 1, 1) := by decide +kernel
theorem dX4_goes_91 : decode cX4_goes 91 = .ok (.iconst 3, 1) := by decide +kernel
theorem dX4_goes_92 : decode cX4_goes 92 = .ok (.iconst 2, 1) := by decide +kernel
theorem dX4_goes_93 : decode cX4_goes 93 = .ok (.iload_n 2, 1) := by decide +kernel
theorem dX4_goes_94 : decode cX4_goes 94 = .ok (.imul, 1) := by decide +kernel
theorem dX4_goes_95 : decode cX4_goes 95 = .ok (.ishl, 1) := by decide +kernel
theorem dX4_goes_96 : decode cX4_goes 96 = .ok (.iconst (-1), 1) := by decide +kernel
theorem dX4_goes_97 : decode cX4_goes 97 = .ok (.ixor, 1) := by decide +kernel
theorem dX4_goes_98 : decode cX4_goes 98 = .ok (.iand, 1) := by decide +kernel
theorem dX4_goes_99 : decode cX4_goes 99 = .ok (.iload 7, 2) := by decide +kernel
theorem dX4_goes_101 : decode cX4_goes 101 = .ok (.iconst 2, 1) := by decide +kernel
theorem dX4_goes_102 : decode cX4_goes 102 = .ok (.iload_n 2, 1) := by decide +kernel
theorem dX4_goes_103 : decode cX4_goes 103 = .ok (.imul, 1) := by decide +kernel
theorem dX4_goes_104 : decode cX4_goes 104 = .ok (.ishl, 1) := by decide +kernel
theorem dX4_goes_105 : decode cX4_goes 105 = .ok (.ior, 1) := by decide +kernel
theorem dX4_goes_106 : decode cX4_goes 106 = .ok (.aload_n 0, 1) := by decide +kernel
theorem dX4_goes_107 : decode cX4_goes 107 = .ok (.getfield 25, 3) := by decide +kernel
theorem dX4_goes_110 : decode cX4_goes 110 = .ok (.iload_n 1, 1) := by decide +kernel
theorem dX4_goes_111 : decode cX4_goes 111 = .ok (.iaload, 1) := by decide +kernel
theorem dX4_goes_112 : decode cX4_goes 112 = .ok (.iconst 1, 1) := by decide +kernel
theorem dX4_goes_113 : decode cX4_goes 113 = .ok (.iadd, 1) := by decide +kernel
theorem dX4_goes_114 : decode cX4_goes 114 = .ok (.invokevirtual 75, 3) := by decide +kernel
theorem dX4_goes_117 : decode cX4_goes 117 = .ok (.iload 7, 2) := by decide +kernel
theorem dX4_goes_119 : decode cX4_goes 119 = .ok (.iload_n 3, 1) := by decide +kernel
theorem dX4_goes_120 : decode cX4_goes 120 = .ok (.iadd, 1) := by decide +kernel
theorem dX4_goes_121 : decode cX4_goes 121 = .ok (.istore 7, 2) := by decide +kernel
theorem dX4_goes_123 : decode cX4_goes 123 = .ok (.iinc 8 (-1), 3) := by decide +kernel
theorem dX4_goes_126 : decode cX4_goes 126 = .ok (.goto (-86), 3) := by decide +kernel
theorem dX4_goes_129 : decode cX4_goes 129 = .ok (.return_, 1) := by decide +kernel
theorem dX4_spreads_0 : decode cX4_spreads 0 = .ok (.iconst 0, 1) := by decide +kernel
theorem dX4_spreads_1 : decode cX4_spreads 1 = .ok (.istore_n 2, 1) := by decide +kernel
theorem dX4_spreads_2 : decode cX4_spreads 2 = .ok (.iload_n 2, 1) := by decide +kernel
theorem dX4_spreads_3 : decode cX4_spreads 3 = .ok (.aload_n 0, 1) := by decide +kernel
theorem dX4_spreads_4 : decode cX4_spreads 4 = .ok (.getfield 67, 3) := by decide +kernel
theorem dX4_spreads_7 : decode cX4_spreads 7 = .ok (.if_icmp .ge 51, 3) := by decide +kernel
theorem dX4_spreads_10 : decode cX4_spreads 10 = .ok (.iconst 0, 1) := by decide +kernel
theorem dX4_spreads_11 : decode cX4_spreads 11 = .ok (.istore_n 3, 1) := by decide +kernel
theorem dX4_spreads_12 : decode cX4_spreads 12 = .ok (.iload_n 3, 1) := by decide +kernel
theorem dX4_spreads_13 : decode cX4_spreads 13 = .ok (.aload_n 0, 1) := by decide +kernel
theorem dX4_spreads_14 : decode cX4_spreads 14 = .ok (.getfield 61, 3) := by decide +kernel
theorem dX4_spreads_17 : decode cX4_spreads 17 = .ok (.if_icmp .ge 35, 3) := by decide +kernel
theorem dX4_spreads_20 : decode cX4_spreads 20 = .ok (.aload_n 0, 1) := by decide +kernel
theorem dX4_spreads_21 : decode cX4_spreads 21 = .ok (.aload_n 0, 1) := by decide +kernel
theorem dX4_spreads_22 : decode cX4_spreads 22 = .ok (.getfield 28, 3) := by decide +kernel
theorem dX4_spreads_25 : decode cX4_spreads 25 = .ok (.iload_n 2, 1) := by decide +kernel
theorem dX4_spreads_26 : decode cX4_spreads 26 = .ok (.iaload, 1) := by decide +kernel
theorem dX4_spreads_27 : decode cX4_spreads 27 = .ok (.iload_n 3, 1) := by decide +kernel
theorem dX4_spreads_28 : decode cX4_spreads 28 = .ok (.iconst (-1), 1) := by decide +kernel
theorem dX4_spreads_29 : decode cX4_spreads 29 = .ok (.iload_n 1, 1) := by decide +kernel
theorem dX4_spreads_30 : decode cX4_spreads 30 = .ok (.invokevirtual 79, 3) := by decide +kernel
theorem dX4_spreads_33 : decode cX4_spreads 33 = .ok (.aload_n 0, 1) := by decide +kernel
theorem dX4_spreads_34 : decode cX4_spreads 34 = .ok (.aload_n 0, 1) := by decide +kernel
theorem dX4_spreads_35 : decode cX4_spreads 35 = .ok (.getfield 28, 3) := by decide +kernel
theorem dX4_spreads_38 : decode cX4_spreads 38 = .ok (.iload_n 2, 1) := by decide +kernel
theorem dX4_spreads_39 : decode cX4_spreads 39 = .ok (.iaload, 1) := by decide +kernel
theorem dX4_spreads_40 : decode cX4_spreads 40 = .ok (.iload_n 3, 1) := by decide +kernel
theorem dX4_spreads_41 : decode cX4_spreads 41 = .ok (.iconst 1, 1) := by decide +kernel
theorem dX4_spreads_42 : decode cX4_spreads 42 = .ok (.iload_n 1, 1) := by decide +kernel
theorem dX4_spreads_43 : decode cX4_spreads 43 = .ok (.invokevirtual 79, 3) := by decide +kernel
theorem dX4_spreads_46 : decode cX4_spreads 46 = .ok (.iinc 3 1, 3) := by decide +kernel
theorem dX4_spreads_49 : decode cX4_spreads 49 = .ok (.goto (-37), 3) := by decide +kernel
theorem dX4_spreads_52 : decode cX4_spreads 52 = .ok (.iinc 2 1, 3) := by decide +kernel
theorem dX4_spreads_55 : decode cX4_spreads 55 = .ok (.goto (-53), 3) := by decide +kernel
theorem dX4_spreads_58 : decode cX4_spreads 58 = .ok (.return_, 1) := by decide +kernel
theorem dX4_forgets_0 : decode cX4_forgets 0 = .ok (.iconst 0, 1) := by decide +kernel
theorem dX4_forgets_1 : decode cX4_forgets 1 = .ok (.istore_n 1, 1) := by decide +kernel
theorem dX4_forgets_2 : decode cX4_forgets 2 = .ok (.iload_n 1, 1) := by decide +kernel
theorem dX4_forgets_3 : decode cX4_forgets 3 = .ok (.sipush 4096, 3) := by decide +kernel
theorem dX4_forgets_6 : decode cX4_forgets 6 = .ok (.if_icmp .ge 16, 3) := by decide +kernel
theorem dX4_forgets_9 : decode cX4_forgets 9 = .ok (.aload_n 0, 1) := by decide +kernel
theorem dX4_forgets_10 : decode cX4_forgets 10 = .ok (.getfield 25, 3) := by decide +kernel
theorem dX4_forgets_13 : decode cX4_forgets 13 = .ok (.iload_n 1, 1) := by decide +kernel
theorem dX4_forgets_14 : decode cX4_forgets 14 = .ok (.iconst (-1), 1) := by decide +kernel
theorem dX4_forgets_15 : decode cX4_forgets 15 = .ok (.iastore, 1) := by decide +kernel
theorem dX4_forgets_16 : decode cX4_forgets 16 = .ok (.iinc 1 1, 3) := by decide +kernel
theorem dX4_forgets_19 : decode cX4_forgets 19 = .ok (.goto (-17), 3) := by decide +kernel
theorem dX4_forgets_22 : decode cX4_forgets 22 = .ok (.aload_n 0, 1) := by decide +kernel
theorem dX4_forgets_23 : decode cX4_forgets 23 = .ok (.iconst 0, 1) := by decide +kernel
theorem dX4_forgets_24 : decode cX4_forgets 24 = .ok (.putfield 67, 3) := by decide +kernel
theorem dX4_forgets_27 : decode cX4_forgets 27 = .ok (.return_, 1) := by decide +kernel
theorem dX4_from_0 : decode cX4_from 0 = .ok (.aload_n 0, 1) := by decide +kernel
theorem dX4_from_1 : decode cX4_from 1 = .ok (.invokevirtual 83, 3) := by decide +kernel
theorem dX4_from_4 : decode cX4_from 4 = .ok (.aload_n 0, 1) := by decide +kernel
theorem dX4_from_5 : decode cX4_from 5 = .ok (.iload_n 1, 1) := by decide +kernel
theorem dX4_from_6 : decode cX4_from 6 = .ok (.iconst 0, 1) := by decide +kernel
theorem dX4_from_7 : decode cX4_from 7 = .ok (.invokevirtual 75, 3) := by decide +kernel
theorem dX4_from_10 : decode cX4_from 10 = .ok (.aload_n 0, 1) := by decide +kernel
theorem dX4_from_11 : decode cX4_from 11 = .ok (.iload_n 2, 1) := by decide +kernel
theorem dX4_from_12 : decode cX4_from 12 = .ok (.invokevirtual 86, 3) := by decide +kernel
theorem dX4_from_15 : decode cX4_from 15 = .ok (.return_, 1) := by decide +kernel
theorem dX4_fromEnds_0 : decode cX4_fromEnds 0 = .ok (.aload_n 0, 1) := by decide +kernel
theorem dX4_fromEnds_1 : decode cX4_fromEnds 1 = .ok (.invokevirtual 83, 3) := by decide +kernel
theorem dX4_fromEnds_4 : decode cX4_fromEnds 4 = .ok (.iconst 0, 1) := by decide +kernel
theorem dX4_fromEnds_5 : decode cX4_fromEnds 5 = .ok (.istore_n 1, 1) := by decide +kernel
theorem dX4_fromEnds_6 : decode cX4_fromEnds 6 = .ok (.iload_n 1, 1) := by decide +kernel
theorem dX4_fromEnds_7 : decode cX4_fromEnds 7 = .ok (.iconst 1, 1) := by decide +kernel
theorem dX4_fromEnds_8 : decode cX4_fromEnds 8 = .ok (.iconst 2, 1) := by decide +kernel
theorem dX4_fromEnds_9 : decode cX4_fromEnds 9 = .ok (.aload_n 0, 1) := by decide +kernel
theorem dX4_fromEnds_10 : decode cX4_fromEnds 10 = .ok (.getfield 61, 3) := by decide +kernel
theorem dX4_fromEnds_13 : decode cX4_fromEnds 13 = .ok (.imul, 1) := by decide +kernel
theorem dX4_fromEnds_14 : decode cX4_fromEnds 14 = .ok (.ishl, 1) := by decide +kernel
theorem dX4_fromEnds_15 : decode cX4_fromEnds 15 = .ok (.if_icmp .ge 31, 3) := by decide +kernel
theorem dX4_fromEnds_18 : decode cX4_fromEnds 18 = .ok (.aload_n 0, 1) := by decide +kernel
theorem dX4_fromEnds_19 : decode cX4_fromEnds 19 = .ok (.iload_n 1, 1) := by decide +kernel
theorem dX4_fromEnds_20 : decode cX4_fromEnds 20 = .ok (.invokevirtual 90, 3) := by decide +kernel
theorem dX4_fromEnds_23 : decode cX4_fromEnds 23 = .ok (.ifCond .eq 17, 3) := by decide +kernel
theorem dX4_fromEnds_26 : decode cX4_fromEnds 26 = .ok (.aload_n 0, 1) := by decide +kernel
theorem dX4_fromEnds_27 : decode cX4_fromEnds 27 = .ok (.iload_n 1, 1) := by decide +kernel
theorem dX4_fromEnds_28 : decode cX4_fromEnds 28 = .ok (.invokevirtual 94, 3) := by decide +kernel
theorem dX4_fromEnds_31 : decode cX4_fromEnds 31 = .ok (.ifCond .eq 9, 3) := by decide +kernel
theorem dX4_fromEnds_34 : decode cX4_fromEnds 34 = .ok (.aload_n 0, 1) := by decide +kernel
theorem dX4_fromEnds_35 : decode cX4_fromEnds 35 = .ok (.iload_n 1, 1) := by decide +kernel
theorem dX4_fromEnds_36 : decode cX4_fromEnds 36 = .ok (.iconst 0, 1) := by decide +kernel
theorem dX4_fromEnds_37 : decode cX4_fromEnds 37 = .ok (.invokevirtual 75, 3) := by decide +kernel
theorem dX4_fromEnds_40 : decode cX4_fromEnds 40 = .ok (.iinc 1 1, 3) := by decide +kernel
theorem dX4_fromEnds_43 : decode cX4_fromEnds 43 = .ok (.goto (-37), 3) := by decide +kernel
theorem dX4_fromEnds_46 : decode cX4_fromEnds 46 = .ok (.aload_n 0, 1) := by decide +kernel
theorem dX4_fromEnds_47 : decode cX4_fromEnds 47 = .ok (.iconst 3, 1) := by decide +kernel
theorem dX4_fromEnds_48 : decode cX4_fromEnds 48 = .ok (.invokevirtual 86, 3) := by decide +kernel
theorem dX4_fromEnds_51 : decode cX4_fromEnds 51 = .ok (.return_, 1) := by decide +kernel
theorem dX4_leastEnd_0 : decode cX4_leastEnd 0 = .ok (.iconst (-1), 1) := by decide +kernel
theorem dX4_leastEnd_1 : decode cX4_leastEnd 1 = .ok (.istore_n 1, 1) := by decide +kernel
theorem dX4_leastEnd_2 : decode cX4_leastEnd 2 = .ok (.iconst 0, 1) := by decide +kernel
theorem dX4_leastEnd_3 : decode cX4_leastEnd 3 = .ok (.istore_n 2, 1) := by decide +kernel
theorem dX4_leastEnd_4 : decode cX4_leastEnd 4 = .ok (.iload_n 2, 1) := by decide +kernel
theorem dX4_leastEnd_5 : decode cX4_leastEnd 5 = .ok (.iconst 1, 1) := by decide +kernel
theorem dX4_leastEnd_6 : decode cX4_leastEnd 6 = .ok (.iconst 2, 1) := by decide +kernel
theorem dX4_leastEnd_7 : decode cX4_leastEnd 7 = .ok (.aload_n 0, 1) := by decide +kernel
theorem dX4_leastEnd_8 : decode cX4_leastEnd 8 = .ok (.getfield 61, 3) := by decide +kernel
theorem dX4_leastEnd_11 : decode cX4_leastEnd 11 = .ok (.imul, 1) := by decide +kernel
theorem dX4_leastEnd_12 : decode cX4_leastEnd 12 = .ok (.ishl, 1) := by decide +kernel
theorem dX4_leastEnd_13 : decode cX4_leastEnd 13 = .ok (.if_icmp .ge 53, 3) := by decide +kernel
theorem dX4_leastEnd_16 : decode cX4_leastEnd 16 = .ok (.aload_n 0, 1) := by decide +kernel
theorem dX4_leastEnd_17 : decode cX4_leastEnd 17 = .ok (.iload_n 2, 1) := by decide +kernel
theorem dX4_leastEnd_18 : decode cX4_leastEnd 18 = .ok (.invokevirtual 90, 3) := by decide +kernel
theorem dX4_leastEnd_21 : decode cX4_leastEnd 21 = .ok (.ifCond .eq 37, 3) := by decide +kernel
theorem dX4_leastEnd_24 : decode cX4_leastEnd 24 = .ok (.aload_n 0, 1) := by decide +kernel
theorem dX4_leastEnd_25 : decode cX4_leastEnd 25 = .ok (.getfield 25, 3) := by decide +kernel
theorem dX4_leastEnd_28 : decode cX4_leastEnd 28 = .ok (.iload_n 2, 1) := by decide +kernel
theorem dX4_leastEnd_29 : decode cX4_leastEnd 29 = .ok (.iaload, 1) := by decide +kernel
theorem dX4_leastEnd_30 : decode cX4_leastEnd 30 = .ok (.iconst (-1), 1) := by decide +kernel
theorem dX4_leastEnd_31 : decode cX4_leastEnd 31 = .ok (.if_icmp .eq 27, 3) := by decide +kernel
theorem dX4_leastEnd_34 : decode cX4_leastEnd 34 = .ok (.iload_n 1, 1) := by decide +kernel
theorem dX4_leastEnd_35 : decode cX4_leastEnd 35 = .ok (.iconst (-1), 1) := by decide +kernel
theorem dX4_leastEnd_36 : decode cX4_leastEnd 36 = .ok (.if_icmp .eq 13, 3) := by decide +kernel
theorem dX4_leastEnd_39 : decode cX4_leastEnd 39 = .ok (.aload_n 0, 1) := by decide +kernel
theorem dX4_leastEnd_40 : decode cX4_leastEnd 40 = .ok (.getfield 25, 3) := by decide +kernel
theorem dX4_leastEnd_43 : decode cX4_leastEnd 43 = .ok (.iload_n 2, 1) := by decide +kernel
theorem dX4_leastEnd_44 : decode cX4_leastEnd 44 = .ok (.iaload, 1) := by decide +kernel
theorem dX4_leastEnd_45 : decode cX4_leastEnd 45 = .ok (.iload_n 1, 1) := by decide +kernel
theorem dX4_leastEnd_46 : decode cX4_leastEnd 46 = .ok (.if_icmp .ge 12, 3) := by decide +kernel
theorem dX4_leastEnd_49 : decode cX4_leastEnd 49 = .ok (.aload_n 0, 1) := by decide +kernel
theorem dX4_leastEnd_50 : decode cX4_leastEnd 50 = .ok (.getfield 25, 3) := by decide +kernel
theorem dX4_leastEnd_53 : decode cX4_leastEnd 53 = .ok (.iload_n 2, 1) := by decide +kernel
theorem dX4_leastEnd_54 : decode cX4_leastEnd 54 = .ok (.iaload, 1) := by decide +kernel
theorem dX4_leastEnd_55 : decode cX4_leastEnd 55 = .ok (.goto 4, 3) := by decide +kernel
theorem dX4_leastEnd_58 : decode cX4_leastEnd 58 = .ok (.iload_n 1, 1) := by decide +kernel
theorem dX4_leastEnd_59 : decode cX4_leastEnd 59 = .ok (.istore_n 1, 1) := by decide +kernel
theorem dX4_leastEnd_60 : decode cX4_leastEnd 60 = .ok (.iinc 2 1, 3) := by decide +kernel
theorem dX4_leastEnd_63 : decode cX4_leastEnd 63 = .ok (.goto (-59), 3) := by decide +kernel
theorem dX4_leastEnd_66 : decode cX4_leastEnd 66 = .ok (.iload_n 1, 1) := by decide +kernel
theorem dX4_leastEnd_67 : decode cX4_leastEnd 67 = .ok (.ireturn, 1) := by decide +kernel
theorem dX4_fewest_0 : decode cX4_fewest 0 = .ok (.aload_n 0, 1) := by decide +kernel
theorem dX4_fewest_1 : decode cX4_fewest 1 = .ok (.aload_n 0, 1) := by decide +kernel
theorem dX4_fewest_2 : decode cX4_fewest 2 = .ok (.getfield 13, 3) := by decide +kernel
theorem dX4_fewest_5 : decode cX4_fewest 5 = .ok (.iconst 0, 1) := by decide +kernel
theorem dX4_fewest_6 : decode cX4_fewest 6 = .ok (.iaload, 1) := by decide +kernel
theorem dX4_fewest_7 : decode cX4_fewest 7 = .ok (.aload_n 0, 1) := by decide +kernel
theorem dX4_fewest_8 : decode cX4_fewest 8 = .ok (.getfield 13, 3) := by decide +kernel
theorem dX4_fewest_11 : decode cX4_fewest 11 = .ok (.bipush 19, 2) := by decide +kernel
theorem dX4_fewest_13 : decode cX4_fewest 13 = .ok (.iaload, 1) := by decide +kernel
theorem dX4_fewest_14 : decode cX4_fewest 14 = .ok (.invokevirtual 97, 3) := by decide +kernel
theorem dX4_fewest_17 : decode cX4_fewest 17 = .ok (.aload_n 0, 1) := by decide +kernel
theorem dX4_fewest_18 : decode cX4_fewest 18 = .ok (.getfield 61, 3) := by decide +kernel
theorem dX4_fewest_21 : decode cX4_fewest 21 = .ok (.ifCond .ne 5, 3) := by decide +kernel
theorem dX4_fewest_24 : decode cX4_fewest 24 = .ok (.iconst (-1), 1) := by decide +kernel
theorem dX4_fewest_25 : decode cX4_fewest 25 = .ok (.ireturn, 1) := by decide +kernel
theorem dX4_fewest_26 : decode cX4_fewest 26 = .ok (.aload_n 0, 1) := by decide +kernel
theorem dX4_fewest_27 : decode cX4_fewest 27 = .ok (.aload_n 0, 1) := by decide +kernel
theorem dX4_fewest_28 : decode cX4_fewest 28 = .ok (.invokevirtual 100, 3) := by decide +kernel
theorem dX4_fewest_31 : decode cX4_fewest 31 = .ok (.iload_n 1, 1) := by decide +kernel
theorem dX4_fewest_32 : decode cX4_fewest 32 = .ok (.invokevirtual 103, 3) := by decide +kernel
theorem dX4_fewest_35 : decode cX4_fewest 35 = .ok (.aload_n 0, 1) := by decide +kernel
theorem dX4_fewest_36 : decode cX4_fewest 36 = .ok (.invokevirtual 106, 3) := by decide +kernel
theorem dX4_fewest_39 : decode cX4_fewest 39 = .ok (.ireturn, 1) := by decide +kernel
theorem dX4_fewestEnds_0 : decode cX4_fewestEnds 0 = .ok (.aload_n 0, 1) := by decide +kernel
theorem dX4_fewestEnds_1 : decode cX4_fewestEnds 1 = .ok (.aload_n 0, 1) := by decide +kernel
theorem dX4_fewestEnds_2 : decode cX4_fewestEnds 2 = .ok (.getfield 13, 3) := by decide +kernel
theorem dX4_fewestEnds_5 : decode cX4_fewestEnds 5 = .ok (.iconst 0, 1) := by decide +kernel
theorem dX4_fewestEnds_6 : decode cX4_fewestEnds 6 = .ok (.iaload, 1) := by decide +kernel
theorem dX4_fewestEnds_7 : decode cX4_fewestEnds 7 = .ok (.aload_n 0, 1) := by decide +kernel
theorem dX4_fewestEnds_8 : decode cX4_fewestEnds 8 = .ok (.getfield 13, 3) := by decide +kernel
theorem dX4_fewestEnds_11 : decode cX4_fewestEnds 11 = .ok (.bipush 19, 2) := by decide +kernel
theorem dX4_fewestEnds_13 : decode cX4_fewestEnds 13 = .ok (.iaload, 1) := by decide +kernel
theorem dX4_fewestEnds_14 : decode cX4_fewestEnds 14 = .ok (.invokevirtual 97, 3) := by decide +kernel
theorem dX4_fewestEnds_17 : decode cX4_fewestEnds 17 = .ok (.aload_n 0, 1) := by decide +kernel
theorem dX4_fewestEnds_18 : decode cX4_fewestEnds 18 = .ok (.invokevirtual 109, 3) := by decide +kernel
theorem dX4_fewestEnds_21 : decode cX4_fewestEnds 21 = .ok (.aload_n 0, 1) := by decide +kernel
theorem dX4_fewestEnds_22 : decode cX4_fewestEnds 22 = .ok (.getfield 61, 3) := by decide +kernel
theorem dX4_fewestEnds_25 : decode cX4_fewestEnds 25 = .ok (.ifCond .ne 7, 3) := by decide +kernel
theorem dX4_fewestEnds_28 : decode cX4_fewestEnds 28 = .ok (.iconst (-1), 1) := by decide +kernel
theorem dX4_fewestEnds_29 : decode cX4_fewestEnds 29 = .ok (.goto 12, 3) := by decide +kernel
theorem dX4_fewestEnds_32 : decode cX4_fewestEnds 32 = .ok (.aload_n 0, 1) := by decide +kernel
theorem dX4_fewestEnds_33 : decode cX4_fewestEnds 33 = .ok (.getfield 25, 3) := by decide +kernel
theorem dX4_fewestEnds_36 : decode cX4_fewestEnds 36 = .ok (.aload_n 0, 1) := by decide +kernel
theorem dX4_fewestEnds_37 : decode cX4_fewestEnds 37 = .ok (.invokevirtual 100, 3) := by decide +kernel
theorem dX4_fewestEnds_40 : decode cX4_fewestEnds 40 = .ok (.iaload, 1) := by decide +kernel
theorem dX4_fewestEnds_41 : decode cX4_fewestEnds 41 = .ok (.ireturn, 1) := by decide +kernel
theorem dX4_cheapens_0 : decode cX4_cheapens 0 = .ok (.aload_n 0, 1) := by decide +kernel
theorem dX4_cheapens_1 : decode cX4_cheapens 1 = .ok (.getfield 25, 3) := by decide +kernel
theorem dX4_cheapens_4 : decode cX4_cheapens 4 = .ok (.iload_n 1, 1) := by decide +kernel
theorem dX4_cheapens_5 : decode cX4_cheapens 5 = .ok (.iaload, 1) := by decide +kernel
theorem dX4_cheapens_6 : decode cX4_cheapens 6 = .ok (.iconst (-1), 1) := by decide +kernel
theorem dX4_cheapens_7 : decode cX4_cheapens 7 = .ok (.if_icmp .eq 13, 3) := by decide +kernel
theorem dX4_cheapens_10 : decode cX4_cheapens 10 = .ok (.iload_n 2, 1) := by decide +kernel
theorem dX4_cheapens_11 : decode cX4_cheapens 11 = .ok (.aload_n 0, 1) := by decide +kernel
theorem dX4_cheapens_12 : decode cX4_cheapens 12 = .ok (.getfield 25, 3) := by decide +kernel
theorem dX4_cheapens_15 : decode cX4_cheapens 15 = .ok (.iload_n 1, 1) := by decide +kernel
end
section
theorem dX4_cheapens_16 : decode cX4_cheapens 16 = .ok (.iaload, 1) := by decide +kernel
theorem dX4_cheapens_17 : decode cX4_cheapens 17 = .ok (.if_icmp .ge 50, 3) := by decide +kernel
theorem dX4_cheapens_20 : decode cX4_cheapens 20 = .ok (.aload_n 0, 1) := by decide +kernel
theorem dX4_cheapens_21 : decode cX4_cheapens 21 = .ok (.getfield 25, 3) := by decide +kernel
theorem dX4_cheapens_24 : decode cX4_cheapens 24 = .ok (.iload_n 1, 1) := by decide +kernel
theorem dX4_cheapens_25 : decode cX4_cheapens 25 = .ok (.iload_n 2, 1) := by decide +kernel
theorem dX4_cheapens_26 : decode cX4_cheapens 26 = .ok (.iastore, 1) := by decide +kernel
theorem dX4_cheapens_27 : decode cX4_cheapens 27 = .ok (.aload_n 0, 1) := by decide +kernel
theorem dX4_cheapens_28 : decode cX4_cheapens 28 = .ok (.getfield 31, 3) := by decide +kernel
theorem dX4_cheapens_31 : decode cX4_cheapens 31 = .ok (.iload_n 1, 1) := by decide +kernel
theorem dX4_cheapens_32 : decode cX4_cheapens 32 = .ok (.baload, 1) := by decide +kernel
theorem dX4_cheapens_33 : decode cX4_cheapens 33 = .ok (.ifCond .ne 34, 3) := by decide +kernel
theorem dX4_cheapens_36 : decode cX4_cheapens 36 = .ok (.aload_n 0, 1) := by decide +kernel
theorem dX4_cheapens_37 : decode cX4_cheapens 37 = .ok (.getfield 31, 3) := by decide +kernel
theorem dX4_cheapens_40 : decode cX4_cheapens 40 = .ok (.iload_n 1, 1) := by decide +kernel
theorem dX4_cheapens_41 : decode cX4_cheapens 41 = .ok (.iconst 1, 1) := by decide +kernel
theorem dX4_cheapens_42 : decode cX4_cheapens 42 = .ok (.bastore, 1) := by decide +kernel
theorem dX4_cheapens_43 : decode cX4_cheapens 43 = .ok (.aload_n 0, 1) := by decide +kernel
theorem dX4_cheapens_44 : decode cX4_cheapens 44 = .ok (.getfield 28, 3) := by decide +kernel
theorem dX4_cheapens_47 : decode cX4_cheapens 47 = .ok (.aload_n 0, 1) := by decide +kernel
theorem dX4_cheapens_48 : decode cX4_cheapens 48 = .ok (.getfield 67, 3) := by decide +kernel
theorem dX4_cheapens_51 : decode cX4_cheapens 51 = .ok (.sipush 4096, 3) := by decide +kernel
theorem dX4_cheapens_54 : decode cX4_cheapens 54 = .ok (.irem, 1) := by decide +kernel
theorem dX4_cheapens_55 : decode cX4_cheapens 55 = .ok (.iload_n 1, 1) := by decide +kernel
theorem dX4_cheapens_56 : decode cX4_cheapens 56 = .ok (.iastore, 1) := by decide +kernel
theorem dX4_cheapens_57 : decode cX4_cheapens 57 = .ok (.aload_n 0, 1) := by decide +kernel
theorem dX4_cheapens_58 : decode cX4_cheapens 58 = .ok (.dup, 1) := by decide +kernel
theorem dX4_cheapens_59 : decode cX4_cheapens 59 = .ok (.getfield 67, 3) := by decide +kernel
theorem dX4_cheapens_62 : decode cX4_cheapens 62 = .ok (.iconst 1, 1) := by decide +kernel
theorem dX4_cheapens_63 : decode cX4_cheapens 63 = .ok (.iadd, 1) := by decide +kernel
theorem dX4_cheapens_64 : decode cX4_cheapens 64 = .ok (.putfield 67, 3) := by decide +kernel
theorem dX4_cheapens_67 : decode cX4_cheapens 67 = .ok (.return_, 1) := by decide +kernel
theorem dX4_cheaper_0 : decode cX4_cheaper 0 = .ok (.iload_n 1, 1) := by decide +kernel
theorem dX4_cheaper_1 : decode cX4_cheaper 1 = .ok (.iconst 2, 1) := by decide +kernel
theorem dX4_cheaper_2 : decode cX4_cheaper 2 = .ok (.iload_n 2, 1) := by decide +kernel
theorem dX4_cheaper_3 : decode cX4_cheaper 3 = .ok (.imul, 1) := by decide +kernel
theorem dX4_cheaper_4 : decode cX4_cheaper 4 = .ok (.ishr, 1) := by decide +kernel
theorem dX4_cheaper_5 : decode cX4_cheaper 5 = .ok (.iconst 3, 1) := by decide +kernel
theorem dX4_cheaper_6 : decode cX4_cheaper 6 = .ok (.iand, 1) := by decide +kernel
theorem dX4_cheaper_7 : decode cX4_cheaper 7 = .ok (.istore 4, 2) := by decide +kernel
theorem dX4_cheaper_9 : decode cX4_cheaper 9 = .ok (.aload_n 0, 1) := by decide +kernel
theorem dX4_cheaper_10 : decode cX4_cheaper 10 = .ok (.iload_n 1, 1) := by decide +kernel
theorem dX4_cheaper_11 : decode cX4_cheaper 11 = .ok (.invokevirtual 70, 3) := by decide +kernel
theorem dX4_cheaper_14 : decode cX4_cheaper 14 = .ok (.aload_n 0, 1) := by decide +kernel
theorem dX4_cheaper_15 : decode cX4_cheaper 15 = .ok (.getfield 22, 3) := by decide +kernel
theorem dX4_cheaper_18 : decode cX4_cheaper 18 = .ok (.iconst 4, 1) := by decide +kernel
theorem dX4_cheaper_19 : decode cX4_cheaper 19 = .ok (.iload_n 2, 1) := by decide +kernel
theorem dX4_cheaper_20 : decode cX4_cheaper 20 = .ok (.imul, 1) := by decide +kernel
theorem dX4_cheaper_21 : decode cX4_cheaper 21 = .ok (.iload 4, 2) := by decide +kernel
theorem dX4_cheaper_23 : decode cX4_cheaper 23 = .ok (.iadd, 1) := by decide +kernel
theorem dX4_cheaper_24 : decode cX4_cheaper 24 = .ok (.iaload, 1) := by decide +kernel
theorem dX4_cheaper_25 : decode cX4_cheaper 25 = .ok (.iconst (-1), 1) := by decide +kernel
theorem dX4_cheaper_26 : decode cX4_cheaper 26 = .ok (.ixor, 1) := by decide +kernel
theorem dX4_cheaper_27 : decode cX4_cheaper 27 = .ok (.iand, 1) := by decide +kernel
theorem dX4_cheaper_28 : decode cX4_cheaper 28 = .ok (.istore 5, 2) := by decide +kernel
theorem dX4_cheaper_30 : decode cX4_cheaper 30 = .ok (.iload 4, 2) := by decide +kernel
theorem dX4_cheaper_32 : decode cX4_cheaper 32 = .ok (.iload_n 3, 1) := by decide +kernel
theorem dX4_cheaper_33 : decode cX4_cheaper 33 = .ok (.iadd, 1) := by decide +kernel
theorem dX4_cheaper_34 : decode cX4_cheaper 34 = .ok (.istore 6, 2) := by decide +kernel
theorem dX4_cheaper_36 : decode cX4_cheaper 36 = .ok (.iload 6, 2) := by decide +kernel
theorem dX4_cheaper_38 : decode cX4_cheaper 38 = .ok (.i2l, 1) := by decide +kernel
theorem dX4_cheaper_39 : decode cX4_cheaper 39 = .ok (.lconst 0, 1) := by decide +kernel
theorem dX4_cheaper_40 : decode cX4_cheaper 40 = .ok (.ldc2_w 73, 3) := by decide +kernel
theorem dX4_cheaper_43 : decode cX4_cheaper 43 = .ok (.invokestatic 47, 3) := by decide +kernel
theorem dX4_cheaper_46 : decode cX4_cheaper 46 = .ok (.ifCond .eq 70, 3) := by decide +kernel
theorem dX4_cheaper_49 : decode cX4_cheaper 49 = .ok (.aload_n 0, 1) := by decide +kernel
theorem dX4_cheaper_50 : decode cX4_cheaper 50 = .ok (.getfield 22, 3) := by decide +kernel
theorem dX4_cheaper_53 : decode cX4_cheaper 53 = .ok (.iconst 4, 1) := by decide +kernel
theorem dX4_cheaper_54 : decode cX4_cheaper 54 = .ok (.iload_n 2, 1) := by decide +kernel
theorem dX4_cheaper_55 : decode cX4_cheaper 55 = .ok (.imul, 1) := by decide +kernel
theorem dX4_cheaper_56 : decode cX4_cheaper 56 = .ok (.iload 6, 2) := by decide +kernel
theorem dX4_cheaper_58 : decode cX4_cheaper 58 = .ok (.iadd, 1) := by decide +kernel
theorem dX4_cheaper_59 : decode cX4_cheaper 59 = .ok (.iaload, 1) := by decide +kernel
theorem dX4_cheaper_60 : decode cX4_cheaper 60 = .ok (.ifCond .eq 56, 3) := by decide +kernel
theorem dX4_cheaper_63 : decode cX4_cheaper 63 = .ok (.aload_n 0, 1) := by decide +kernel
theorem dX4_cheaper_64 : decode cX4_cheaper 64 = .ok (.getfield 22, 3) := by decide +kernel
theorem dX4_cheaper_67 : decode cX4_cheaper 67 = .ok (.iconst 4, 1) := by decide +kernel
theorem dX4_cheaper_68 : decode cX4_cheaper 68 = .ok (.iload_n 2, 1) := by decide +kernel
theorem dX4_cheaper_69 : decode cX4_cheaper 69 = .ok (.imul, 1) := by decide +kernel
theorem dX4_cheaper_70 : decode cX4_cheaper 70 = .ok (.iload 6, 2) := by decide +kernel
theorem dX4_cheaper_72 : decode cX4_cheaper 72 = .ok (.iadd, 1) := by decide +kernel
theorem dX4_cheaper_73 : decode cX4_cheaper 73 = .ok (.iaload, 1) := by decide +kernel
theorem dX4_cheaper_74 : decode cX4_cheaper 74 = .ok (.iload 5, 2) := by decide +kernel
theorem dX4_cheaper_76 : decode cX4_cheaper 76 = .ok (.iand, 1) := by decide +kernel
theorem dX4_cheaper_77 : decode cX4_cheaper 77 = .ok (.ifCond .ne 39, 3) := by decide +kernel
theorem dX4_cheaper_80 : decode cX4_cheaper 80 = .ok (.aload_n 0, 1) := by decide +kernel
theorem dX4_cheaper_81 : decode cX4_cheaper 81 = .ok (.iload_n 1, 1) := by decide +kernel
theorem dX4_cheaper_82 : decode cX4_cheaper 82 = .ok (.iconst 3, 1) := by decide +kernel
theorem dX4_cheaper_83 : decode cX4_cheaper 83 = .ok (.iconst 2, 1) := by decide +kernel
theorem dX4_cheaper_84 : decode cX4_cheaper 84 = .ok (.iload_n 2, 1) := by decide +kernel
theorem dX4_cheaper_85 : decode cX4_cheaper 85 = .ok (.imul, 1) := by decide +kernel
theorem dX4_cheaper_86 : decode cX4_cheaper 86 = .ok (.ishl, 1) := by decide +kernel
theorem dX4_cheaper_87 : decode cX4_cheaper 87 = .ok (.iconst (-1), 1) := by decide +kernel
theorem dX4_cheaper_88 : decode cX4_cheaper 88 = .ok (.ixor, 1) := by decide +kernel
theorem dX4_cheaper_89 : decode cX4_cheaper 89 = .ok (.iand, 1) := by decide +kernel
theorem dX4_cheaper_90 : decode cX4_cheaper 90 = .ok (.iload 6, 2) := by decide +kernel
theorem dX4_cheaper_92 : decode cX4_cheaper 92 = .ok (.iconst 2, 1) := by decide +kernel
theorem dX4_cheaper_93 : decode cX4_cheaper 93 = .ok (.iload_n 2, 1) := by decide +kernel
theorem dX4_cheaper_94 : decode cX4_cheaper 94 = .ok (.imul, 1) := by decide +kernel
theorem dX4_cheaper_95 : decode cX4_cheaper 95 = .ok (.ishl, 1) := by decide +kernel
theorem dX4_cheaper_96 : decode cX4_cheaper 96 = .ok (.ior, 1) := by decide +kernel
theorem dX4_cheaper_97 : decode cX4_cheaper 97 = .ok (.aload_n 0, 1) := by decide +kernel
theorem dX4_cheaper_98 : decode cX4_cheaper 98 = .ok (.getfield 25, 3) := by decide +kernel
theorem dX4_cheaper_101 : decode cX4_cheaper 101 = .ok (.iload_n 1, 1) := by decide +kernel
theorem dX4_cheaper_102 : decode cX4_cheaper 102 = .ok (.iaload, 1) := by decide +kernel
theorem dX4_cheaper_103 : decode cX4_cheaper 103 = .ok (.aload_n 0, 1) := by decide +kernel
theorem dX4_cheaper_104 : decode cX4_cheaper 104 = .ok (.getfield 13, 3) := by decide +kernel
theorem dX4_cheaper_107 : decode cX4_cheaper 107 = .ok (.bipush 13, 2) := by decide +kernel
theorem dX4_cheaper_109 : decode cX4_cheaper 109 = .ok (.iload_n 2, 1) := by decide +kernel
theorem dX4_cheaper_110 : decode cX4_cheaper 110 = .ok (.iadd, 1) := by decide +kernel
theorem dX4_cheaper_111 : decode cX4_cheaper 111 = .ok (.iaload, 1) := by decide +kernel
theorem dX4_cheaper_112 : decode cX4_cheaper 112 = .ok (.iadd, 1) := by decide +kernel
theorem dX4_cheaper_113 : decode cX4_cheaper 113 = .ok (.invokevirtual 112, 3) := by decide +kernel
theorem dX4_cheaper_116 : decode cX4_cheaper 116 = .ok (.return_, 1) := by decide +kernel
theorem dX4_cheapest_0 : decode cX4_cheapest 0 = .ok (.aload_n 0, 1) := by decide +kernel
theorem dX4_cheapest_1 : decode cX4_cheapest 1 = .ok (.aload_n 0, 1) := by decide +kernel
theorem dX4_cheapest_2 : decode cX4_cheapest 2 = .ok (.getfield 13, 3) := by decide +kernel
theorem dX4_cheapest_5 : decode cX4_cheapest 5 = .ok (.iconst 0, 1) := by decide +kernel
theorem dX4_cheapest_6 : decode cX4_cheapest 6 = .ok (.iaload, 1) := by decide +kernel
theorem dX4_cheapest_7 : decode cX4_cheapest 7 = .ok (.aload_n 0, 1) := by decide +kernel
theorem dX4_cheapest_8 : decode cX4_cheapest 8 = .ok (.getfield 13, 3) := by decide +kernel
theorem dX4_cheapest_11 : decode cX4_cheapest 11 = .ok (.bipush 19, 2) := by decide +kernel
theorem dX4_cheapest_13 : decode cX4_cheapest 13 = .ok (.iaload, 1) := by decide +kernel
theorem dX4_cheapest_14 : decode cX4_cheapest 14 = .ok (.invokevirtual 97, 3) := by decide +kernel
theorem dX4_cheapest_17 : decode cX4_cheapest 17 = .ok (.aload_n 0, 1) := by decide +kernel
theorem dX4_cheapest_18 : decode cX4_cheapest 18 = .ok (.getfield 61, 3) := by decide +kernel
theorem dX4_cheapest_21 : decode cX4_cheapest 21 = .ok (.ifCond .ne 5, 3) := by decide +kernel
theorem dX4_cheapest_24 : decode cX4_cheapest 24 = .ok (.iconst (-1), 1) := by decide +kernel
theorem dX4_cheapest_25 : decode cX4_cheapest 25 = .ok (.ireturn, 1) := by decide +kernel
theorem dX4_cheapest_26 : decode cX4_cheapest 26 = .ok (.aload_n 0, 1) := by decide +kernel
theorem dX4_cheapest_27 : decode cX4_cheapest 27 = .ok (.invokevirtual 83, 3) := by decide +kernel
theorem dX4_cheapest_30 : decode cX4_cheapest 30 = .ok (.iconst 0, 1) := by decide +kernel
theorem dX4_cheapest_31 : decode cX4_cheapest 31 = .ok (.istore_n 1, 1) := by decide +kernel
theorem dX4_cheapest_32 : decode cX4_cheapest 32 = .ok (.iload_n 1, 1) := by decide +kernel
theorem dX4_cheapest_33 : decode cX4_cheapest 33 = .ok (.sipush 4096, 3) := by decide +kernel
theorem dX4_cheapest_36 : decode cX4_cheapest 36 = .ok (.if_icmp .ge 16, 3) := by decide +kernel
theorem dX4_cheapest_39 : decode cX4_cheapest 39 = .ok (.aload_n 0, 1) := by decide +kernel
theorem dX4_cheapest_40 : decode cX4_cheapest 40 = .ok (.getfield 31, 3) := by decide +kernel
theorem dX4_cheapest_43 : decode cX4_cheapest 43 = .ok (.iload_n 1, 1) := by decide +kernel
theorem dX4_cheapest_44 : decode cX4_cheapest 44 = .ok (.iconst 0, 1) := by decide +kernel
theorem dX4_cheapest_45 : decode cX4_cheapest 45 = .ok (.bastore, 1) := by decide +kernel
theorem dX4_cheapest_46 : decode cX4_cheapest 46 = .ok (.iinc 1 1, 3) := by decide +kernel
theorem dX4_cheapest_49 : decode cX4_cheapest 49 = .ok (.goto (-17), 3) := by decide +kernel
theorem dX4_cheapest_52 : decode cX4_cheapest 52 = .ok (.aload_n 0, 1) := by decide +kernel
theorem dX4_cheapest_53 : decode cX4_cheapest 53 = .ok (.aload_n 0, 1) := by decide +kernel
theorem dX4_cheapest_54 : decode cX4_cheapest 54 = .ok (.invokevirtual 100, 3) := by decide +kernel
theorem dX4_cheapest_57 : decode cX4_cheapest 57 = .ok (.iconst 0, 1) := by decide +kernel
theorem dX4_cheapest_58 : decode cX4_cheapest 58 = .ok (.invokevirtual 112, 3) := by decide +kernel
theorem dX4_cheapest_61 : decode cX4_cheapest 61 = .ok (.iconst 0, 1) := by decide +kernel
theorem dX4_cheapest_62 : decode cX4_cheapest 62 = .ok (.istore_n 1, 1) := by decide +kernel
theorem dX4_cheapest_63 : decode cX4_cheapest 63 = .ok (.iload_n 1, 1) := by decide +kernel
theorem dX4_cheapest_64 : decode cX4_cheapest 64 = .ok (.aload_n 0, 1) := by decide +kernel
theorem dX4_cheapest_65 : decode cX4_cheapest 65 = .ok (.getfield 67, 3) := by decide +kernel
theorem dX4_cheapest_68 : decode cX4_cheapest 68 = .ok (.if_icmp .ge 57, 3) := by decide +kernel
theorem dX4_cheapest_71 : decode cX4_cheapest 71 = .ok (.aload_n 0, 1) := by decide +kernel
theorem dX4_cheapest_72 : decode cX4_cheapest 72 = .ok (.getfield 28, 3) := by decide +kernel
theorem dX4_cheapest_75 : decode cX4_cheapest 75 = .ok (.iload_n 1, 1) := by decide +kernel
theorem dX4_cheapest_76 : decode cX4_cheapest 76 = .ok (.sipush 4096, 3) := by decide +kernel
theorem dX4_cheapest_79 : decode cX4_cheapest 79 = .ok (.irem, 1) := by decide +kernel
theorem dX4_cheapest_80 : decode cX4_cheapest 80 = .ok (.iaload, 1) := by decide +kernel
theorem dX4_cheapest_81 : decode cX4_cheapest 81 = .ok (.istore_n 2, 1) := by decide +kernel
theorem dX4_cheapest_82 : decode cX4_cheapest 82 = .ok (.aload_n 0, 1) := by decide +kernel
theorem dX4_cheapest_83 : decode cX4_cheapest 83 = .ok (.getfield 31, 3) := by decide +kernel
theorem dX4_cheapest_86 : decode cX4_cheapest 86 = .ok (.iload_n 2, 1) := by decide +kernel
theorem dX4_cheapest_87 : decode cX4_cheapest 87 = .ok (.iconst 0, 1) := by decide +kernel
theorem dX4_cheapest_88 : decode cX4_cheapest 88 = .ok (.bastore, 1) := by decide +kernel
theorem dX4_cheapest_89 : decode cX4_cheapest 89 = .ok (.iconst 0, 1) := by decide +kernel
theorem dX4_cheapest_90 : decode cX4_cheapest 90 = .ok (.istore_n 3, 1) := by decide +kernel
theorem dX4_cheapest_91 : decode cX4_cheapest 91 = .ok (.iload_n 3, 1) := by decide +kernel
theorem dX4_cheapest_92 : decode cX4_cheapest 92 = .ok (.aload_n 0, 1) := by decide +kernel
theorem dX4_cheapest_93 : decode cX4_cheapest 93 = .ok (.getfield 61, 3) := by decide +kernel
theorem dX4_cheapest_96 : decode cX4_cheapest 96 = .ok (.if_icmp .ge 23, 3) := by decide +kernel
theorem dX4_cheapest_99 : decode cX4_cheapest 99 = .ok (.aload_n 0, 1) := by decide +kernel
theorem dX4_cheapest_100 : decode cX4_cheapest 100 = .ok (.iload_n 2, 1) := by decide +kernel
theorem dX4_cheapest_101 : decode cX4_cheapest 101 = .ok (.iload_n 3, 1) := by decide +kernel
theorem dX4_cheapest_102 : decode cX4_cheapest 102 = .ok (.iconst (-1), 1) := by decide +kernel
theorem dX4_cheapest_103 : decode cX4_cheapest 103 = .ok (.invokevirtual 115, 3) := by decide +kernel
theorem dX4_cheapest_106 : decode cX4_cheapest 106 = .ok (.aload_n 0, 1) := by decide +kernel
theorem dX4_cheapest_107 : decode cX4_cheapest 107 = .ok (.iload_n 2, 1) := by decide +kernel
theorem dX4_cheapest_108 : decode cX4_cheapest 108 = .ok (.iload_n 3, 1) := by decide +kernel
theorem dX4_cheapest_109 : decode cX4_cheapest 109 = .ok (.iconst 1, 1) := by decide +kernel
theorem dX4_cheapest_110 : decode cX4_cheapest 110 = .ok (.invokevirtual 115, 3) := by decide +kernel
theorem dX4_cheapest_113 : decode cX4_cheapest 113 = .ok (.iinc 3 1, 3) := by decide +kernel
theorem dX4_cheapest_116 : decode cX4_cheapest 116 = .ok (.goto (-25), 3) := by decide +kernel
theorem dX4_cheapest_119 : decode cX4_cheapest 119 = .ok (.iinc 1 1, 3) := by decide +kernel
theorem dX4_cheapest_122 : decode cX4_cheapest 122 = .ok (.goto (-59), 3) := by decide +kernel
theorem dX4_cheapest_125 : decode cX4_cheapest 125 = .ok (.aload_n 0, 1) := by decide +kernel
theorem dX4_cheapest_126 : decode cX4_cheapest 126 = .ok (.invokevirtual 106, 3) := by decide +kernel
theorem dX4_cheapest_129 : decode cX4_cheapest 129 = .ok (.ireturn, 1) := by decide +kernel
theorem dX4_next_0 : decode cX4_next 0 = .ok (.aload_n 0, 1) := by decide +kernel
theorem dX4_next_1 : decode cX4_next 1 = .ok (.getfield 25, 3) := by decide +kernel
theorem dX4_next_4 : decode cX4_next 4 = .ok (.aload_n 0, 1) := by decide +kernel
theorem dX4_next_5 : decode cX4_next 5 = .ok (.invokevirtual 100, 3) := by decide +kernel
theorem dX4_next_8 : decode cX4_next 8 = .ok (.iaload, 1) := by decide +kernel
theorem dX4_next_9 : decode cX4_next 9 = .ok (.istore_n 1, 1) := by decide +kernel
theorem dX4_next_10 : decode cX4_next 10 = .ok (.iconst 0, 1) := by decide +kernel
theorem dX4_next_11 : decode cX4_next 11 = .ok (.istore_n 2, 1) := by decide +kernel
theorem dX4_next_12 : decode cX4_next 12 = .ok (.iload_n 2, 1) := by decide +kernel
theorem dX4_next_13 : decode cX4_next 13 = .ok (.bipush 7, 2) := by decide +kernel
theorem dX4_next_15 : decode cX4_next 15 = .ok (.aload_n 0, 1) := by decide +kernel
theorem dX4_next_16 : decode cX4_next 16 = .ok (.getfield 13, 3) := by decide +kernel
theorem dX4_next_19 : decode cX4_next 19 = .ok (.iconst 0, 1) := by decide +kernel
theorem dX4_next_20 : decode cX4_next 20 = .ok (.iaload, 1) := by decide +kernel
theorem dX4_next_21 : decode cX4_next 21 = .ok (.imul, 1) := by decide +kernel
theorem dX4_next_22 : decode cX4_next 22 = .ok (.if_icmp .ge 73, 3) := by decide +kernel
theorem dX4_next_25 : decode cX4_next 25 = .ok (.iload_n 2, 1) := by decide +kernel
theorem dX4_next_26 : decode cX4_next 26 = .ok (.bipush 7, 2) := by decide +kernel
theorem dX4_next_28 : decode cX4_next 28 = .ok (.idiv, 1) := by decide +kernel
theorem dX4_next_29 : decode cX4_next 29 = .ok (.istore_n 3, 1) := by decide +kernel
theorem dX4_next_30 : decode cX4_next 30 = .ok (.iload_n 2, 1) := by decide +kernel
theorem dX4_next_31 : decode cX4_next 31 = .ok (.bipush 7, 2) := by decide +kernel
theorem dX4_next_33 : decode cX4_next 33 = .ok (.irem, 1) := by decide +kernel
theorem dX4_next_34 : decode cX4_next 34 = .ok (.iconst 3, 1) := by decide +kernel
theorem dX4_next_35 : decode cX4_next 35 = .ok (.isub, 1) := by decide +kernel
theorem dX4_next_36 : decode cX4_next 36 = .ok (.istore 4, 2) := by decide +kernel
theorem dX4_next_38 : decode cX4_next 38 = .ok (.iload 4, 2) := by decide +kernel
theorem dX4_next_40 : decode cX4_next 40 = .ok (.ifCond .eq 49, 3) := by decide +kernel
theorem dX4_next_43 : decode cX4_next 43 = .ok (.aload_n 0, 1) := by decide +kernel
theorem dX4_next_44 : decode cX4_next 44 = .ok (.iload_n 3, 1) := by decide +kernel
theorem dX4_next_45 : decode cX4_next 45 = .ok (.iload 4, 2) := by decide +kernel
theorem dX4_next_47 : decode cX4_next 47 = .ok (.invokevirtual 119, 3) := by decide +kernel
theorem dX4_next_50 : decode cX4_next 50 = .ok (.ifCond .eq 39, 3) := by decide +kernel
theorem dX4_next_53 : decode cX4_next 53 = .ok (.aload_n 0, 1) := by decide +kernel
theorem dX4_next_54 : decode cX4_next 54 = .ok (.invokevirtual 100, 3) := by decide +kernel
theorem dX4_next_57 : decode cX4_next 57 = .ok (.iload 4, 2) := by decide +kernel
theorem dX4_next_59 : decode cX4_next 59 = .ok (.iconst 2, 1) := by decide +kernel
theorem dX4_next_60 : decode cX4_next 60 = .ok (.iload_n 3, 1) := by decide +kernel
theorem dX4_next_61 : decode cX4_next 61 = .ok (.imul, 1) := by decide +kernel
theorem dX4_next_62 : decode cX4_next 62 = .ok (.ishl, 1) := by decide +kernel
theorem dX4_next_63 : decode cX4_next 63 = .ok (.iadd, 1) := by decide +kernel
theorem dX4_next_64 : decode cX4_next 64 = .ok (.istore 5, 2) := by decide +kernel
theorem dX4_next_66 : decode cX4_next 66 = .ok (.aload_n 0, 1) := by decide +kernel
theorem dX4_next_67 : decode cX4_next 67 = .ok (.getfield 25, 3) := by decide +kernel
theorem dX4_next_70 : decode cX4_next 70 = .ok (.iload 5, 2) := by decide +kernel
theorem dX4_next_72 : decode cX4_next 72 = .ok (.iaload, 1) := by decide +kernel
theorem dX4_next_73 : decode cX4_next 73 = .ok (.iload_n 1, 1) := by decide +kernel
theorem dX4_next_74 : decode cX4_next 74 = .ok (.iconst 1, 1) := by decide +kernel
theorem dX4_next_75 : decode cX4_next 75 = .ok (.isub, 1) := by decide +kernel
theorem dX4_next_76 : decode cX4_next 76 = .ok (.if_icmp .ne 13, 3) := by decide +kernel
theorem dX4_next_79 : decode cX4_next 79 = .ok (.bipush 8, 2) := by decide +kernel
theorem dX4_next_81 : decode cX4_next 81 = .ok (.iload_n 3, 1) := by decide +kernel
theorem dX4_next_82 : decode cX4_next 82 = .ok (.imul, 1) := by decide +kernel
theorem dX4_next_83 : decode cX4_next 83 = .ok (.iload 4, 2) := by decide +kernel
theorem dX4_next_85 : decode cX4_next 85 = .ok (.iadd, 1) := by decide +kernel
theorem dX4_next_86 : decode cX4_next 86 = .ok (.iconst 3, 1) := by decide +kernel
theorem dX4_next_87 : decode cX4_next 87 = .ok (.iadd, 1) := by decide +kernel
theorem dX4_next_88 : decode cX4_next 88 = .ok (.ireturn, 1) := by decide +kernel
theorem dX4_next_89 : decode cX4_next 89 = .ok (.iinc 2 1, 3) := by decide +kernel
theorem dX4_next_92 : decode cX4_next 92 = .ok (.goto (-80), 3) := by decide +kernel
theorem dX4_next_95 : decode cX4_next 95 = .ok (.iconst (-1), 1) := by decide +kernel
theorem dX4_next_96 : decode cX4_next 96 = .ok (.ireturn, 1) := by decide +kernel
theorem dX4_planned_0 : decode cX4_planned 0 = .ok (.aload_n 0, 1) := by decide +kernel
theorem dX4_planned_1 : decode cX4_planned 1 = .ok (.aload_n 0, 1) := by decide +kernel
theorem dX4_planned_2 : decode cX4_planned 2 = .ok (.getfield 13, 3) := by decide +kernel
theorem dX4_planned_5 : decode cX4_planned 5 = .ok (.iconst 0, 1) := by decide +kernel
theorem dX4_planned_6 : decode cX4_planned 6 = .ok (.iaload, 1) := by decide +kernel
theorem dX4_planned_7 : decode cX4_planned 7 = .ok (.aload_n 0, 1) := by decide +kernel
theorem dX4_planned_8 : decode cX4_planned 8 = .ok (.getfield 13, 3) := by decide +kernel
theorem dX4_planned_11 : decode cX4_planned 11 = .ok (.bipush 19, 2) := by decide +kernel
theorem dX4_planned_13 : decode cX4_planned 13 = .ok (.iaload, 1) := by decide +kernel
theorem dX4_planned_14 : decode cX4_planned 14 = .ok (.invokevirtual 97, 3) := by decide +kernel
theorem dX4_planned_17 : decode cX4_planned 17 = .ok (.aload_n 0, 1) := by decide +kernel
theorem dX4_planned_18 : decode cX4_planned 18 = .ok (.getfield 61, 3) := by decide +kernel
theorem dX4_planned_21 : decode cX4_planned 21 = .ok (.ifCond .ne 5, 3) := by decide +kernel
theorem dX4_planned_24 : decode cX4_planned 24 = .ok (.iconst (-1), 1) := by decide +kernel
theorem dX4_planned_25 : decode cX4_planned 25 = .ok (.ireturn, 1) := by decide +kernel
theorem dX4_planned_26 : decode cX4_planned 26 = .ok (.aload_n 0, 1) := by decide +kernel
theorem dX4_planned_27 : decode cX4_planned 27 = .ok (.invokevirtual 109, 3) := by decide +kernel
theorem dX4_planned_30 : decode cX4_planned 30 = .ok (.aload_n 0, 1) := by decide +kernel
theorem dX4_planned_31 : decode cX4_planned 31 = .ok (.getfield 25, 3) := by decide +kernel
theorem dX4_planned_34 : decode cX4_planned 34 = .ok (.aload_n 0, 1) := by decide +kernel
theorem dX4_planned_35 : decode cX4_planned 35 = .ok (.invokevirtual 100, 3) := by decide +kernel
theorem dX4_planned_38 : decode cX4_planned 38 = .ok (.iaload, 1) := by decide +kernel
theorem dX4_planned_39 : decode cX4_planned 39 = .ok (.ireturn, 1) := by decide +kernel
theorem dX4_saves_0 : decode cX4_saves 0 = .ok (.aload_n 0, 1) := by decide +kernel
theorem dX4_saves_1 : decode cX4_saves 1 = .ok (.getfield 123, 3) := by decide +kernel
theorem dX4_saves_4 : decode cX4_saves 4 = .ok (.iconst 5, 1) := by decide +kernel
theorem dX4_saves_5 : decode cX4_saves 5 = .ok (.if_icmp .ne 43, 3) := by decide +kernel
theorem dX4_saves_8 : decode cX4_saves 8 = .ok (.iconst 0, 1) := by decide +kernel
theorem dX4_saves_9 : decode cX4_saves 9 = .ok (.istore_n 1, 1) := by decide +kernel
theorem dX4_saves_10 : decode cX4_saves 10 = .ok (.iload_n 1, 1) := by decide +kernel
theorem dX4_saves_11 : decode cX4_saves 11 = .ok (.sipush 328, 3) := by decide +kernel
theorem dX4_saves_14 : decode cX4_saves 14 = .ok (.if_icmp .ge 24, 3) := by decide +kernel
theorem dX4_saves_17 : decode cX4_saves 17 = .ok (.aload_n 0, 1) := by decide +kernel
theorem dX4_saves_18 : decode cX4_saves 18 = .ok (.getfield 16, 3) := by decide +kernel
theorem dX4_saves_21 : decode cX4_saves 21 = .ok (.iload_n 1, 1) := by decide +kernel
theorem dX4_saves_22 : decode cX4_saves 22 = .ok (.aload_n 0, 1) := by decide +kernel
theorem dX4_saves_23 : decode cX4_saves 23 = .ok (.getfield 16, 3) := by decide +kernel
theorem dX4_saves_26 : decode cX4_saves 26 = .ok (.iload_n 1, 1) := by decide +kernel
theorem dX4_saves_27 : decode cX4_saves 27 = .ok (.bipush 82, 2) := by decide +kernel
theorem dX4_saves_29 : decode cX4_saves 29 = .ok (.iadd, 1) := by decide +kernel
theorem dX4_saves_30 : decode cX4_saves 30 = .ok (.iaload, 1) := by decide +kernel
theorem dX4_saves_31 : decode cX4_saves 31 = .ok (.iastore, 1) := by decide +kernel
theorem dX4_saves_32 : decode cX4_saves 32 = .ok (.iinc 1 1, 3) := by decide +kernel
theorem dX4_saves_35 : decode cX4_saves 35 = .ok (.goto (-25), 3) := by decide +kernel
theorem dX4_saves_38 : decode cX4_saves 38 = .ok (.aload_n 0, 1) := by decide +kernel
theorem dX4_saves_39 : decode cX4_saves 39 = .ok (.dup, 1) := by decide +kernel
theorem dX4_saves_40 : decode cX4_saves 40 = .ok (.getfield 123, 3) := by decide +kernel
theorem dX4_saves_43 : decode cX4_saves 43 = .ok (.iconst 1, 1) := by decide +kernel
theorem dX4_saves_44 : decode cX4_saves 44 = .ok (.isub, 1) := by decide +kernel
theorem dX4_saves_45 : decode cX4_saves 45 = .ok (.putfield 123, 3) := by decide +kernel
theorem dX4_saves_48 : decode cX4_saves 48 = .ok (.aload_n 0, 1) := by decide +kernel
theorem dX4_saves_49 : decode cX4_saves 49 = .ok (.getfield 13, 3) := by decide +kernel
theorem dX4_saves_52 : decode cX4_saves 52 = .ok (.iconst 0, 1) := by decide +kernel
theorem dX4_saves_53 : decode cX4_saves 53 = .ok (.aload_n 0, 1) := by decide +kernel
theorem dX4_saves_54 : decode cX4_saves 54 = .ok (.getfield 16, 3) := by decide +kernel
theorem dX4_saves_57 : decode cX4_saves 57 = .ok (.bipush 82, 2) := by decide +kernel
theorem dX4_saves_59 : decode cX4_saves 59 = .ok (.aload_n 0, 1) := by decide +kernel
theorem dX4_saves_60 : decode cX4_saves 60 = .ok (.getfield 123, 3) := by decide +kernel
theorem dX4_saves_63 : decode cX4_saves 63 = .ok (.imul, 1) := by decide +kernel
theorem dX4_saves_64 : decode cX4_saves 64 = .ok (.invokestatic 126, 3) := by decide +kernel
theorem dX4_saves_67 : decode cX4_saves 67 = .ok (.aload_n 0, 1) := by decide +kernel
theorem dX4_saves_68 : decode cX4_saves 68 = .ok (.dup, 1) := by decide +kernel
theorem dX4_saves_69 : decode cX4_saves 69 = .ok (.getfield 123, 3) := by decide +kernel
theorem dX4_saves_72 : decode cX4_saves 72 = .ok (.iconst 1, 1) := by decide +kernel
theorem dX4_saves_73 : decode cX4_saves 73 = .ok (.iadd, 1) := by decide +kernel
theorem dX4_saves_74 : decode cX4_saves 74 = .ok (.putfield 123, 3) := by decide +kernel
theorem dX4_saves_77 : decode cX4_saves 77 = .ok (.return_, 1) := by decide +kernel
theorem dX4_wrongCar_0 : decode cX4_wrongCar 0 = .ok (.iload_n 1, 1) := by decide +kernel
theorem dX4_wrongCar_1 : decode cX4_wrongCar 1 = .ok (.i2l, 1) := by decide +kernel
theorem dX4_wrongCar_2 : decode cX4_wrongCar 2 = .ok (.lconst 0, 1) := by decide +kernel
theorem dX4_wrongCar_3 : decode cX4_wrongCar 3 = .ok (.ldc2_w 130, 3) := by decide +kernel
theorem dX4_wrongCar_6 : decode cX4_wrongCar 6 = .ok (.invokestatic 47, 3) := by decide +kernel
theorem dX4_wrongCar_9 : decode cX4_wrongCar 9 = .ok (.ifCond .ne 5, 3) := by decide +kernel
theorem dX4_wrongCar_12 : decode cX4_wrongCar 12 = .ok (.iconst 1, 1) := by decide +kernel
theorem dX4_wrongCar_13 : decode cX4_wrongCar 13 = .ok (.ireturn, 1) := by decide +kernel
theorem dX4_wrongCar_14 : decode cX4_wrongCar 14 = .ok (.iload_n 3, 1) := by decide +kernel
theorem dX4_wrongCar_15 : decode cX4_wrongCar 15 = .ok (.i2l, 1) := by decide +kernel
theorem dX4_wrongCar_16 : decode cX4_wrongCar 16 = .ok (.ldc2_w 132, 3) := by decide +kernel
theorem dX4_wrongCar_19 : decode cX4_wrongCar 19 = .ok (.ldc2_w 73, 3) := by decide +kernel
theorem dX4_wrongCar_22 : decode cX4_wrongCar 22 = .ok (.invokestatic 47, 3) := by decide +kernel
theorem dX4_wrongCar_25 : decode cX4_wrongCar 25 = .ok (.ifCond .eq 16, 3) := by decide +kernel
theorem dX4_wrongCar_28 : decode cX4_wrongCar 28 = .ok (.iload_n 2, 1) := by decide +kernel
theorem dX4_wrongCar_29 : decode cX4_wrongCar 29 = .ok (.i2l, 1) := by decide +kernel
theorem dX4_wrongCar_30 : decode cX4_wrongCar 30 = .ok (.lconst 0, 1) := by decide +kernel
theorem dX4_wrongCar_31 : decode cX4_wrongCar 31 = .ok (.iconst 5, 1) := by decide +kernel
theorem dX4_wrongCar_32 : decode cX4_wrongCar 32 = .ok (.iload_n 3, 1) := by decide +kernel
theorem dX4_wrongCar_33 : decode cX4_wrongCar 33 = .ok (.isub, 1) := by decide +kernel
theorem dX4_wrongCar_34 : decode cX4_wrongCar 34 = .ok (.i2l, 1) := by decide +kernel
theorem dX4_wrongCar_35 : decode cX4_wrongCar 35 = .ok (.invokestatic 47, 3) := by decide +kernel
theorem dX4_wrongCar_38 : decode cX4_wrongCar 38 = .ok (.ifCond .ne 5, 3) := by decide +kernel
theorem dX4_wrongCar_41 : decode cX4_wrongCar 41 = .ok (.iconst 2, 1) := by decide +kernel
theorem dX4_wrongCar_42 : decode cX4_wrongCar 42 = .ok (.ireturn, 1) := by decide +kernel
theorem dX4_wrongCar_43 : decode cX4_wrongCar 43 = .ok (.aload_n 0, 1) := by decide +kernel
theorem dX4_wrongCar_44 : decode cX4_wrongCar 44 = .ok (.getfield 13, 3) := by decide +kernel
theorem dX4_wrongCar_47 : decode cX4_wrongCar 47 = .ok (.iconst 0, 1) := by decide +kernel
theorem dX4_wrongCar_48 : decode cX4_wrongCar 48 = .ok (.iaload, 1) := by decide +kernel
theorem dX4_wrongCar_49 : decode cX4_wrongCar 49 = .ok (.bipush 6, 2) := by decide +kernel
theorem dX4_wrongCar_51 : decode cX4_wrongCar 51 = .ok (.if_icmp .eq 31, 3) := by decide +kernel
theorem dX4_wrongCar_54 : decode cX4_wrongCar 54 = .ok (.iload_n 1, 1) := by decide +kernel
theorem dX4_wrongCar_55 : decode cX4_wrongCar 55 = .ok (.iload_n 2, 1) := by decide +kernel
theorem dX4_wrongCar_56 : decode cX4_wrongCar 56 = .ok (.iload_n 3, 1) := by decide +kernel
theorem dX4_wrongCar_57 : decode cX4_wrongCar 57 = .ok (.invokestatic 39, 3) := by decide +kernel
theorem dX4_wrongCar_60 : decode cX4_wrongCar 60 = .ok (.aload_n 0, 1) := by decide +kernel
theorem dX4_wrongCar_61 : decode cX4_wrongCar 61 = .ok (.invokevirtual 53, 3) := by decide +kernel
theorem dX4_wrongCar_64 : decode cX4_wrongCar 64 = .ok (.iand, 1) := by decide +kernel
theorem dX4_wrongCar_65 : decode cX4_wrongCar 65 = .ok (.ifCond .ne 17, 3) := by decide +kernel
theorem dX4_wrongCar_68 : decode cX4_wrongCar 68 = .ok (.aload_n 0, 1) := by decide +kernel
theorem dX4_wrongCar_69 : decode cX4_wrongCar 69 = .ok (.getfield 13, 3) := by decide +kernel
theorem dX4_wrongCar_72 : decode cX4_wrongCar 72 = .ok (.iconst 0, 1) := by decide +kernel
theorem dX4_wrongCar_73 : decode cX4_wrongCar 73 = .ok (.iaload, 1) := by decide +kernel
theorem dX4_wrongCar_74 : decode cX4_wrongCar 74 = .ok (.ifCond .ne 12, 3) := by decide +kernel
theorem dX4_wrongCar_77 : decode cX4_wrongCar 77 = .ok (.iload_n 1, 1) := by decide +kernel
theorem dX4_wrongCar_78 : decode cX4_wrongCar 78 = .ok (.iconst 5, 1) := by decide +kernel
theorem dX4_wrongCar_79 : decode cX4_wrongCar 79 = .ok (.if_icmp .lt 7, 3) := by decide +kernel
theorem dX4_wrongCar_82 : decode cX4_wrongCar 82 = .ok (.iconst 3, 1) := by decide +kernel
theorem dX4_wrongCar_83 : decode cX4_wrongCar 83 = .ok (.goto 4, 3) := by decide +kernel
theorem dX4_wrongCar_86 : decode cX4_wrongCar 86 = .ok (.iconst 0, 1) := by decide +kernel
theorem dX4_wrongCar_87 : decode cX4_wrongCar 87 = .ok (.ireturn, 1) := by decide +kernel
theorem dX4_addOn_0 : decode cX4_addOn 0 = .ok (.aload_n 0, 1) := by decide +kernel
theorem dX4_addOn_1 : decode cX4_addOn 1 = .ok (.getfield 13, 3) := by decide +kernel
theorem dX4_addOn_4 : decode cX4_addOn 4 = .ok (.iconst 0, 1) := by decide +kernel
theorem dX4_addOn_5 : decode cX4_addOn 5 = .ok (.iaload, 1) := by decide +kernel
theorem dX4_addOn_6 : decode cX4_addOn 6 = .ok (.istore 4, 2) := by decide +kernel
theorem dX4_addOn_8 : decode cX4_addOn 8 = .ok (.aload_n 0, 1) := by decide +kernel
theorem dX4_addOn_9 : decode cX4_addOn 9 = .ok (.getfield 13, 3) := by decide +kernel
theorem dX4_addOn_12 : decode cX4_addOn 12 = .ok (.iconst 1, 1) := by decide +kernel
theorem dX4_addOn_13 : decode cX4_addOn 13 = .ok (.iload 4, 2) := by decide +kernel
theorem dX4_addOn_15 : decode cX4_addOn 15 = .ok (.iadd, 1) := by decide +kernel
theorem dX4_addOn_16 : decode cX4_addOn 16 = .ok (.iload_n 1, 1) := by decide +kernel
theorem dX4_addOn_17 : decode cX4_addOn 17 = .ok (.iastore, 1) := by decide +kernel
theorem dX4_addOn_18 : decode cX4_addOn 18 = .ok (.aload_n 0, 1) := by decide +kernel
theorem dX4_addOn_19 : decode cX4_addOn 19 = .ok (.getfield 13, 3) := by decide +kernel
theorem dX4_addOn_22 : decode cX4_addOn 22 = .ok (.bipush 7, 2) := by decide +kernel
theorem dX4_addOn_24 : decode cX4_addOn 24 = .ok (.iload 4, 2) := by decide +kernel
theorem dX4_addOn_26 : decode cX4_addOn 26 = .ok (.iadd, 1) := by decide +kernel
theorem dX4_addOn_27 : decode cX4_addOn 27 = .ok (.iload_n 2, 1) := by decide +kernel
theorem dX4_addOn_28 : decode cX4_addOn 28 = .ok (.iastore, 1) := by decide +kernel
theorem dX4_addOn_29 : decode cX4_addOn 29 = .ok (.aload_n 0, 1) := by decide +kernel
theorem dX4_addOn_30 : decode cX4_addOn 30 = .ok (.getfield 13, 3) := by decide +kernel
theorem dX4_addOn_33 : decode cX4_addOn 33 = .ok (.bipush 13, 2) := by decide +kernel
theorem dX4_addOn_35 : decode cX4_addOn 35 = .ok (.iload 4, 2) := by decide +kernel
theorem dX4_addOn_37 : decode cX4_addOn 37 = .ok (.iadd, 1) := by decide +kernel
theorem dX4_addOn_38 : decode cX4_addOn 38 = .ok (.iload_n 3, 1) := by decide +kernel
theorem dX4_addOn_39 : decode cX4_addOn 39 = .ok (.iastore, 1) := by decide +kernel
theorem dX4_addOn_40 : decode cX4_addOn 40 = .ok (.aload_n 0, 1) := by decide +kernel
theorem dX4_addOn_41 : decode cX4_addOn 41 = .ok (.getfield 13, 3) := by decide +kernel
theorem dX4_addOn_44 : decode cX4_addOn 44 = .ok (.iconst 0, 1) := by decide +kernel
theorem dX4_addOn_45 : decode cX4_addOn 45 = .ok (.dup2, 1) := by decide +kernel
theorem dX4_addOn_46 : decode cX4_addOn 46 = .ok (.iaload, 1) := by decide +kernel
theorem dX4_addOn_47 : decode cX4_addOn 47 = .ok (.iconst 1, 1) := by decide +kernel
theorem dX4_addOn_48 : decode cX4_addOn 48 = .ok (.iadd, 1) := by decide +kernel
theorem dX4_addOn_49 : decode cX4_addOn 49 = .ok (.iastore, 1) := by decide +kernel
theorem dX4_addOn_50 : decode cX4_addOn 50 = .ok (.aload_n 0, 1) := by decide +kernel
theorem dX4_addOn_51 : decode cX4_addOn 51 = .ok (.getfield 13, 3) := by decide +kernel
theorem dX4_addOn_54 : decode cX4_addOn 54 = .ok (.bipush 20, 2) := by decide +kernel
theorem dX4_addOn_56 : decode cX4_addOn 56 = .ok (.iconst 0, 1) := by decide +kernel
theorem dX4_addOn_57 : decode cX4_addOn 57 = .ok (.iastore, 1) := by decide +kernel
theorem dX4_addOn_58 : decode cX4_addOn 58 = .ok (.iload 4, 2) := by decide +kernel
theorem dX4_addOn_60 : decode cX4_addOn 60 = .ok (.ireturn, 1) := by decide +kernel
theorem dX4_hasWall_0 : decode cX4_hasWall 0 = .ok (.aload_n 0, 1) := by decide +kernel
theorem dX4_hasWall_1 : decode cX4_hasWall 1 = .ok (.getfield 13, 3) := by decide +kernel
theorem dX4_hasWall_4 : decode cX4_hasWall 4 = .ok (.bipush 19, 2) := by decide +kernel
theorem dX4_hasWall_6 : decode cX4_hasWall 6 = .ok (.iaload, 1) := by decide +kernel
theorem dX4_hasWall_7 : decode cX4_hasWall 7 = .ok (.iload_n 1, 1) := by decide +kernel
theorem dX4_hasWall_8 : decode cX4_hasWall 8 = .ok (.ishr, 1) := by decide +kernel
theorem dX4_hasWall_9 : decode cX4_hasWall 9 = .ok (.iconst 1, 1) := by decide +kernel
theorem dX4_hasWall_10 : decode cX4_hasWall 10 = .ok (.iand, 1) := by decide +kernel
theorem dX4_hasWall_11 : decode cX4_hasWall 11 = .ok (.iconst 1, 1) := by decide +kernel
theorem dX4_hasWall_12 : decode cX4_hasWall 12 = .ok (.if_icmp .ne 7, 3) := by decide +kernel
theorem dX4_hasWall_15 : decode cX4_hasWall 15 = .ok (.iconst 1, 1) := by decide +kernel
theorem dX4_hasWall_16 : decode cX4_hasWall 16 = .ok (.goto 4, 3) := by decide +kernel
theorem dX4_hasWall_19 : decode cX4_hasWall 19 = .ok (.iconst 0, 1) := by decide +kernel
theorem dX4_hasWall_20 : decode cX4_hasWall 20 = .ok (.ireturn, 1) := by decide +kernel
theorem dX4_canTurn_0 : decode cX4_canTurn 0 = .ok (.aload_n 0, 1) := by decide +kernel
theorem dX4_canTurn_1 : decode cX4_canTurn 1 = .ok (.iload_n 1, 1) := by decide +kernel
theorem dX4_canTurn_2 : decode cX4_canTurn 2 = .ok (.invokevirtual 134, 3) := by decide +kernel
theorem dX4_canTurn_5 : decode cX4_canTurn 5 = .ok (.ifCond .ne 28, 3) := by decide +kernel
theorem dX4_canTurn_8 : decode cX4_canTurn 8 = .ok (.aload_n 0, 1) := by decide +kernel
theorem dX4_canTurn_9 : decode cX4_canTurn 9 = .ok (.invokevirtual 53, 3) := by decide +kernel
theorem dX4_canTurn_12 : decode cX4_canTurn 12 = .ok (.iload_n 1, 1) := by decide +kernel
theorem dX4_canTurn_13 : decode cX4_canTurn 13 = .ok (.ishr, 1) := by decide +kernel
theorem dX4_canTurn_14 : decode cX4_canTurn 14 = .ok (.iconst 1, 1) := by decide +kernel
theorem dX4_canTurn_15 : decode cX4_canTurn 15 = .ok (.iand, 1) := by decide +kernel
theorem dX4_canTurn_16 : decode cX4_canTurn 16 = .ok (.ifCond .ne 21, 3) := by decide +kernel
theorem dX4_canTurn_19 : decode cX4_canTurn 19 = .ok (.aload_n 0, 1) := by decide +kernel
theorem dX4_canTurn_20 : decode cX4_canTurn 20 = .ok (.getfield 13, 3) := by decide +kernel
theorem dX4_canTurn_23 : decode cX4_canTurn 23 = .ok (.bipush 19, 2) := by decide +kernel
theorem dX4_canTurn_25 : decode cX4_canTurn 25 = .ok (.iaload, 1) := by decide +kernel
theorem dX4_canTurn_26 : decode cX4_canTurn 26 = .ok (.invokestatic 137, 3) := by decide +kernel
theorem dX4_canTurn_29 : decode cX4_canTurn 29 = .ok (.iconst 4, 1) := by decide +kernel
theorem dX4_canTurn_30 : decode cX4_canTurn 30 = .ok (.if_icmp .ge 7, 3) := by decide +kernel
theorem dX4_canTurn_33 : decode cX4_canTurn 33 = .ok (.iconst 1, 1) := by decide +kernel
theorem dX4_canTurn_34 : decode cX4_canTurn 34 = .ok (.goto 4, 3) := by decide +kernel
theorem dX4_canTurn_37 : decode cX4_canTurn 37 = .ok (.iconst 0, 1) := by decide +kernel
theorem dX4_canTurn_38 : decode cX4_canTurn 38 = .ok (.ireturn, 1) := by decide +kernel
theorem dX4_turnOn_0 : decode cX4_turnOn 0 = .ok (.aload_n 0, 1) := by decide +kernel
theorem dX4_turnOn_1 : decode cX4_turnOn 1 = .ok (.getfield 13, 3) := by decide +kernel
theorem dX4_turnOn_4 : decode cX4_turnOn 4 = .ok (.bipush 19, 2) := by decide +kernel
theorem dX4_turnOn_6 : decode cX4_turnOn 6 = .ok (.dup2, 1) := by decide +kernel
theorem dX4_turnOn_7 : decode cX4_turnOn 7 = .ok (.iaload, 1) := by decide +kernel
theorem dX4_turnOn_8 : decode cX4_turnOn 8 = .ok (.iconst 1, 1) := by decide +kernel
theorem dX4_turnOn_9 : decode cX4_turnOn 9 = .ok (.iload_n 1, 1) := by decide +kernel
theorem dX4_turnOn_10 : decode cX4_turnOn 10 = .ok (.ishl, 1) := by decide +kernel
theorem dX4_turnOn_11 : decode cX4_turnOn 11 = .ok (.ixor, 1) := by decide +kernel
theorem dX4_turnOn_12 : decode cX4_turnOn 12 = .ok (.iastore, 1) := by decide +kernel
theorem dX4_turnOn_13 : decode cX4_turnOn 13 = .ok (.aload_n 0, 1) := by decide +kernel
theorem dX4_turnOn_14 : decode cX4_turnOn 14 = .ok (.getfield 13, 3) := by decide +kernel
theorem dX4_turnOn_17 : decode cX4_turnOn 17 = .ok (.bipush 20, 2) := by decide +kernel
theorem dX4_turnOn_19 : decode cX4_turnOn 19 = .ok (.iconst 0, 1) := by decide +kernel
theorem dX4_turnOn_20 : decode cX4_turnOn 20 = .ok (.iastore, 1) := by decide +kernel
theorem dX4_turnOn_21 : decode cX4_turnOn 21 = .ok (.aload_n 0, 1) := by decide +kernel
theorem dX4_turnOn_22 : decode cX4_turnOn 22 = .ok (.iload_n 1, 1) := by decide +kernel
theorem dX4_turnOn_23 : decode cX4_turnOn 23 = .ok (.invokevirtual 134, 3) := by decide +kernel
theorem dX4_turnOn_26 : decode cX4_turnOn 26 = .ok (.ireturn, 1) := by decide +kernel
theorem dX4_slideOn_0 : decode cX4_slideOn 0 = .ok (.aload_n 0, 1) := by decide +kernel
theorem dX4_slideOn_1 : decode cX4_slideOn 1 = .ok (.getfield 13, 3) := by decide +kernel
theorem dX4_slideOn_4 : decode cX4_slideOn 4 = .ok (.bipush 21, 2) := by decide +kernel
theorem dX4_slideOn_6 : decode cX4_slideOn 6 = .ok (.aload_n 0, 1) := by decide +kernel
theorem dX4_slideOn_7 : decode cX4_slideOn 7 = .ok (.getfield 13, 3) := by decide +kernel
theorem dX4_slideOn_10 : decode cX4_slideOn 10 = .ok (.bipush 20, 2) := by decide +kernel
theorem dX4_slideOn_12 : decode cX4_slideOn 12 = .ok (.iaload, 1) := by decide +kernel
theorem dX4_slideOn_13 : decode cX4_slideOn 13 = .ok (.iadd, 1) := by decide +kernel
theorem dX4_slideOn_14 : decode cX4_slideOn 14 = .ok (.bipush 8, 2) := by decide +kernel
theorem dX4_slideOn_16 : decode cX4_slideOn 16 = .ok (.iload_n 1, 1) := by decide +kernel
theorem dX4_slideOn_17 : decode cX4_slideOn 17 = .ok (.imul, 1) := by decide +kernel
theorem dX4_slideOn_18 : decode cX4_slideOn 18 = .ok (.iload_n 2, 1) := by decide +kernel
theorem dX4_slideOn_19 : decode cX4_slideOn 19 = .ok (.iadd, 1) := by decide +kernel
theorem dX4_slideOn_20 : decode cX4_slideOn 20 = .ok (.iconst 3, 1) := by decide +kernel
theorem dX4_slideOn_21 : decode cX4_slideOn 21 = .ok (.iadd, 1) := by decide +kernel
theorem dX4_slideOn_22 : decode cX4_slideOn 22 = .ok (.iastore, 1) := by decide +kernel
theorem dX4_slideOn_23 : decode cX4_slideOn 23 = .ok (.aload_n 0, 1) := by decide +kernel
theorem dX4_slideOn_24 : decode cX4_slideOn 24 = .ok (.getfield 13, 3) := by decide +kernel
theorem dX4_slideOn_27 : decode cX4_slideOn 27 = .ok (.bipush 20, 2) := by decide +kernel
theorem dX4_slideOn_29 : decode cX4_slideOn 29 = .ok (.dup2, 1) := by decide +kernel
theorem dX4_slideOn_30 : decode cX4_slideOn 30 = .ok (.iaload, 1) := by decide +kernel
theorem dX4_slideOn_31 : decode cX4_slideOn 31 = .ok (.iconst 1, 1) := by decide +kernel
theorem dX4_slideOn_32 : decode cX4_slideOn 32 = .ok (.iadd, 1) := by decide +kernel
theorem dX4_slideOn_33 : decode cX4_slideOn 33 = .ok (.iastore, 1) := by decide +kernel
theorem dX4_slideOn_34 : decode cX4_slideOn 34 = .ok (.aload_n 0, 1) := by decide +kernel
theorem dX4_slideOn_35 : decode cX4_slideOn 35 = .ok (.getfield 13, 3) := by decide +kernel
theorem dX4_slideOn_38 : decode cX4_slideOn 38 = .ok (.bipush 7, 2) := by decide +kernel
theorem dX4_slideOn_40 : decode cX4_slideOn 40 = .ok (.iload_n 1, 1) := by decide +kernel
theorem dX4_slideOn_41 : decode cX4_slideOn 41 = .ok (.iadd, 1) := by decide +kernel
theorem dX4_slideOn_42 : decode cX4_slideOn 42 = .ok (.dup2, 1) := by decide +kernel
theorem dX4_slideOn_43 : decode cX4_slideOn 43 = .ok (.iaload, 1) := by decide +kernel
theorem dX4_slideOn_44 : decode cX4_slideOn 44 = .ok (.iload_n 2, 1) := by decide +kernel
theorem dX4_slideOn_45 : decode cX4_slideOn 45 = .ok (.iadd, 1) := by decide +kernel
theorem dX4_slideOn_46 : decode cX4_slideOn 46 = .ok (.iastore, 1) := by decide +kernel
theorem dX4_slideOn_47 : decode cX4_slideOn 47 = .ok (.aload_n 0, 1) := by decide +kernel
theorem dX4_slideOn_48 : decode cX4_slideOn 48 = .ok (.getfield 13, 3) := by decide +kernel
theorem dX4_slideOn_51 : decode cX4_slideOn 51 = .ok (.bipush 7, 2) := by decide +kernel
theorem dX4_slideOn_53 : decode cX4_slideOn 53 = .ok (.iload_n 1, 1) := by decide +kernel
theorem dX4_slideOn_54 : decode cX4_slideOn 54 = .ok (.iadd, 1) := by decide +kernel
theorem dX4_slideOn_55 : decode cX4_slideOn 55 = .ok (.iaload, 1) := by decide +kernel
theorem dX4_slideOn_56 : decode cX4_slideOn 56 = .ok (.ireturn, 1) := by decide +kernel
theorem dX4_logCar_0 : decode cX4_logCar 0 = .ok (.aload_n 0, 1) := by decide +kernel
theorem dX4_logCar_1 : decode cX4_logCar 1 = .ok (.getfield 13, 3) := by decide +kernel
theorem dX4_logCar_4 : decode cX4_logCar 4 = .ok (.bipush 21, 2) := by decide +kernel
theorem dX4_logCar_6 : decode cX4_logCar 6 = .ok (.iload_n 1, 1) := by decide +kernel
theorem dX4_logCar_7 : decode cX4_logCar 7 = .ok (.iadd, 1) := by decide +kernel
theorem dX4_logCar_8 : decode cX4_logCar 8 = .ok (.iaload, 1) := by decide +kernel
theorem dX4_logCar_9 : decode cX4_logCar 9 = .ok (.bipush 8, 2) := by decide +kernel
theorem dX4_logCar_11 : decode cX4_logCar 11 = .ok (.idiv, 1) := by decide +kernel
theorem dX4_logCar_12 : decode cX4_logCar 12 = .ok (.ireturn, 1) := by decide +kernel
theorem dX4_logBy_0 : decode cX4_logBy 0 = .ok (.aload_n 0, 1) := by decide +kernel
theorem dX4_logBy_1 : decode cX4_logBy 1 = .ok (.getfield 13, 3) := by decide +kernel
theorem dX4_logBy_4 : decode cX4_logBy 4 = .ok (.bipush 21, 2) := by decide +kernel
theorem dX4_logBy_6 : decode cX4_logBy 6 = .ok (.iload_n 1, 1) := by decide +kernel
theorem dX4_logBy_7 : decode cX4_logBy 7 = .ok (.iadd, 1) := by decide +kernel
theorem dX4_logBy_8 : decode cX4_logBy 8 = .ok (.iaload, 1) := by decide +kernel
theorem dX4_logBy_9 : decode cX4_logBy 9 = .ok (.bipush 8, 2) := by decide +kernel
theorem dX4_logBy_11 : decode cX4_logBy 11 = .ok (.irem, 1) := by decide +kernel
theorem dX4_logBy_12 : decode cX4_logBy 12 = .ok (.iconst 3, 1) := by decide +kernel
theorem dX4_logBy_13 : decode cX4_logBy 13 = .ok (.isub, 1) := by decide +kernel
theorem dX4_logBy_14 : decode cX4_logBy 14 = .ok (.ireturn, 1) := by decide +kernel
theorem dX4_backOn_0 : decode cX4_backOn 0 = .ok (.aload_n 0, 1) := by decide +kernel
theorem dX4_backOn_1 : decode cX4_backOn 1 = .ok (.getfield 13, 3) := by decide +kernel
theorem dX4_backOn_4 : decode cX4_backOn 4 = .ok (.bipush 20, 2) := by decide +kernel
theorem dX4_backOn_6 : decode cX4_backOn 6 = .ok (.dup2, 1) := by decide +kernel
theorem dX4_backOn_7 : decode cX4_backOn 7 = .ok (.iaload, 1) := by decide +kernel
theorem dX4_backOn_8 : decode cX4_backOn 8 = .ok (.iconst 1, 1) := by decide +kernel
theorem dX4_backOn_9 : decode cX4_backOn 9 = .ok (.isub, 1) := by decide +kernel
theorem dX4_backOn_10 : decode cX4_backOn 10 = .ok (.iastore, 1) := by decide +kernel
theorem dX4_backOn_11 : decode cX4_backOn 11 = .ok (.aload_n 0, 1) := by decide +kernel
theorem dX4_backOn_12 : decode cX4_backOn 12 = .ok (.aload_n 0, 1) := by decide +kernel
theorem dX4_backOn_13 : decode cX4_backOn 13 = .ok (.getfield 13, 3) := by decide +kernel
theorem dX4_backOn_16 : decode cX4_backOn 16 = .ok (.bipush 20, 2) := by decide +kernel
theorem dX4_backOn_18 : decode cX4_backOn 18 = .ok (.iaload, 1) := by decide +kernel
theorem dX4_backOn_19 : decode cX4_backOn 19 = .ok (.invokevirtual 140, 3) := by decide +kernel
theorem dX4_backOn_22 : decode cX4_backOn 22 = .ok (.istore_n 1, 1) := by decide +kernel
theorem dX4_backOn_23 : decode cX4_backOn 23 = .ok (.aload_n 0, 1) := by decide +kernel
theorem dX4_backOn_24 : decode cX4_backOn 24 = .ok (.getfield 13, 3) := by decide +kernel
theorem dX4_backOn_27 : decode cX4_backOn 27 = .ok (.bipush 7, 2) := by decide +kernel
theorem dX4_backOn_29 : decode cX4_backOn 29 = .ok (.iload_n 1, 1) := by decide +kernel
theorem dX4_backOn_30 : decode cX4_backOn 30 = .ok (.iadd, 1) := by decide +kernel
theorem dX4_backOn_31 : decode cX4_backOn 31 = .ok (.dup2, 1) := by decide +kernel
theorem dX4_backOn_32 : decode cX4_backOn 32 = .ok (.iaload, 1) := by decide +kernel
theorem dX4_backOn_33 : decode cX4_backOn 33 = .ok (.aload_n 0, 1) := by decide +kernel
theorem dX4_backOn_34 : decode cX4_backOn 34 = .ok (.aload_n 0, 1) := by decide +kernel
theorem dX4_backOn_35 : decode cX4_backOn 35 = .ok (.getfield 13, 3) := by decide +kernel
theorem dX4_backOn_38 : decode cX4_backOn 38 = .ok (.bipush 20, 2) := by decide +kernel
theorem dX4_backOn_40 : decode cX4_backOn 40 = .ok (.iaload, 1) := by decide +kernel
theorem dX4_backOn_41 : decode cX4_backOn 41 = .ok (.invokevirtual 143, 3) := by decide +kernel
theorem dX4_backOn_44 : decode cX4_backOn 44 = .ok (.isub, 1) := by decide +kernel
theorem dX4_backOn_45 : decode cX4_backOn 45 = .ok (.iastore, 1) := by decide +kernel
theorem dX4_backOn_46 : decode cX4_backOn 46 = .ok (.iload_n 1, 1) := by decide +kernel
theorem dX4_backOn_47 : decode cX4_backOn 47 = .ok (.ireturn, 1) := by decide +kernel
theorem dX4_canDrive_0 : decode cX4_canDrive 0 = .ok (.aload_n 0, 1) := by decide +kernel
theorem dX4_canDrive_1 : decode cX4_canDrive 1 = .ok (.invokevirtual 146, 3) := by decide +kernel
theorem dX4_canDrive_4 : decode cX4_canDrive 4 = .ok (.istore_n 1, 1) := by decide +kernel
theorem dX4_canDrive_5 : decode cX4_canDrive 5 = .ok (.iload_n 1, 1) := by decide +kernel
theorem dX4_canDrive_6 : decode cX4_canDrive 6 = .ok (.iconst (-1), 1) := by decide +kernel
theorem dX4_canDrive_7 : decode cX4_canDrive 7 = .ok (.if_icmp .eq 21, 3) := by decide +kernel
theorem dX4_canDrive_10 : decode cX4_canDrive 10 = .ok (.aload_n 0, 1) := by decide +kernel
theorem dX4_canDrive_11 : decode cX4_canDrive 11 = .ok (.getfield 13, 3) := by decide +kernel
theorem dX4_canDrive_14 : decode cX4_canDrive 14 = .ok (.bipush 20, 2) := by decide +kernel
theorem dX4_canDrive_16 : decode cX4_canDrive 16 = .ok (.iaload, 1) := by decide +kernel
theorem dX4_canDrive_17 : decode cX4_canDrive 17 = .ok (.iload_n 1, 1) := by decide +kernel
theorem dX4_canDrive_18 : decode cX4_canDrive 18 = .ok (.iadd, 1) := by decide +kernel
theorem dX4_canDrive_19 : decode cX4_canDrive 19 = .ok (.bipush 60, 2) := by decide +kernel
theorem dX4_canDrive_21 : decode cX4_canDrive 21 = .ok (.if_icmp .gt 7, 3) := by decide +kernel
theorem dX4_canDrive_24 : decode cX4_canDrive 24 = .ok (.iconst 1, 1) := by decide +kernel
theorem dX4_canDrive_25 : decode cX4_canDrive 25 = .ok (.goto 4, 3) := by decide +kernel
theorem dX4_canDrive_28 : decode cX4_canDrive 28 = .ok (.iconst 0, 1) := by decide +kernel
theorem dX4_canDrive_29 : decode cX4_canDrive 29 = .ok (.ireturn, 1) := by decide +kernel
theorem dX4_driveOn_0 : decode cX4_driveOn 0 = .ok (.aload_n 0, 1) := by decide +kernel
theorem dX4_driveOn_1 : decode cX4_driveOn 1 = .ok (.invokevirtual 146, 3) := by decide +kernel
theorem dX4_driveOn_4 : decode cX4_driveOn 4 = .ok (.istore_n 1, 1) := by decide +kernel
theorem dX4_driveOn_5 : decode cX4_driveOn 5 = .ok (.iconst 0, 1) := by decide +kernel
theorem dX4_driveOn_6 : decode cX4_driveOn 6 = .ok (.istore_n 2, 1) := by decide +kernel
theorem dX4_driveOn_7 : decode cX4_driveOn 7 = .ok (.iload_n 2, 1) := by decide +kernel
theorem dX4_driveOn_8 : decode cX4_driveOn 8 = .ok (.iload_n 1, 1) := by decide +kernel
theorem dX4_driveOn_9 : decode cX4_driveOn 9 = .ok (.if_icmp .ge 29, 3) := by decide +kernel
theorem dX4_driveOn_12 : decode cX4_driveOn 12 = .ok (.aload_n 0, 1) := by decide +kernel
theorem dX4_driveOn_13 : decode cX4_driveOn 13 = .ok (.invokevirtual 149, 3) := by decide +kernel
theorem dX4_driveOn_16 : decode cX4_driveOn 16 = .ok (.istore_n 3, 1) := by decide +kernel
theorem dX4_driveOn_17 : decode cX4_driveOn 17 = .ok (.aload_n 0, 1) := by decide +kernel
theorem dX4_driveOn_18 : decode cX4_driveOn 18 = .ok (.iload_n 3, 1) := by decide +kernel
theorem dX4_driveOn_19 : decode cX4_driveOn 19 = .ok (.bipush 8, 2) := by decide +kernel
theorem dX4_driveOn_21 : decode cX4_driveOn 21 = .ok (.idiv, 1) := by decide +kernel
theorem dX4_driveOn_22 : decode cX4_driveOn 22 = .ok (.iload_n 3, 1) := by decide +kernel
theorem dX4_driveOn_23 : decode cX4_driveOn 23 = .ok (.bipush 8, 2) := by decide +kernel
theorem dX4_driveOn_25 : decode cX4_driveOn 25 = .ok (.irem, 1) := by decide +kernel
theorem dX4_driveOn_26 : decode cX4_driveOn 26 = .ok (.iconst 3, 1) := by decide +kernel
theorem dX4_driveOn_27 : decode cX4_driveOn 27 = .ok (.isub, 1) := by decide +kernel
theorem dX4_driveOn_28 : decode cX4_driveOn 28 = .ok (.invokevirtual 152, 3) := by decide +kernel
theorem dX4_driveOn_31 : decode cX4_driveOn 31 = .ok (.pop, 1) := by decide +kernel
theorem dX4_driveOn_32 : decode cX4_driveOn 32 = .ok (.iinc 2 1, 3) := by decide +kernel
theorem dX4_driveOn_35 : decode cX4_driveOn 35 = .ok (.goto (-28), 3) := by decide +kernel
theorem dX4_driveOn_38 : decode cX4_driveOn 38 = .ok (.iload_n 1, 1) := by decide +kernel
theorem dX4_driveOn_39 : decode cX4_driveOn 39 = .ok (.ireturn, 1) := by decide +kernel
theorem dX4_addCar_0 : decode cX4_addCar 0 = .ok (.aload_n 0, 1) := by decide +kernel
theorem dX4_addCar_1 : decode cX4_addCar 1 = .ok (.aload_n 0, 1) := by decide +kernel
theorem dX4_addCar_2 : decode cX4_addCar 2 = .ok (.iload_n 1, 1) := by decide +kernel
theorem dX4_addCar_3 : decode cX4_addCar 3 = .ok (.iload_n 2, 1) := by decide +kernel
theorem dX4_addCar_4 : decode cX4_addCar 4 = .ok (.iload_n 3, 1) := by decide +kernel
theorem dX4_addCar_5 : decode cX4_addCar 5 = .ok (.invokevirtual 155, 3) := by decide +kernel
theorem dX4_addCar_8 : decode cX4_addCar 8 = .ok (.invokevirtual 158, 3) := by decide +kernel
theorem dX4_addCar_11 : decode cX4_addCar 11 = .ok (.ifCond .eq 5, 3) := by decide +kernel
theorem dX4_addCar_14 : decode cX4_addCar 14 = .ok (.iconst 0, 1) := by decide +kernel
theorem dX4_addCar_15 : decode cX4_addCar 15 = .ok (.ireturn, 1) := by decide +kernel
theorem dX4_addCar_16 : decode cX4_addCar 16 = .ok (.aload_n 0, 1) := by decide +kernel
theorem dX4_addCar_17 : decode cX4_addCar 17 = .ok (.invokevirtual 161, 3) := by decide +kernel
theorem dX4_addCar_20 : decode cX4_addCar 20 = .ok (.aload_n 0, 1) := by decide +kernel
theorem dX4_addCar_21 : decode cX4_addCar 21 = .ok (.iload_n 1, 1) := by decide +kernel
theorem dX4_addCar_22 : decode cX4_addCar 22 = .ok (.iload_n 2, 1) := by decide +kernel
theorem dX4_addCar_23 : decode cX4_addCar 23 = .ok (.iload_n 3, 1) := by decide +kernel
theorem dX4_addCar_24 : decode cX4_addCar 24 = .ok (.invokevirtual 164, 3) := by decide +kernel
theorem dX4_addCar_27 : decode cX4_addCar 27 = .ok (.ireturn, 1) := by decide +kernel
theorem dX4_dropLast_0 : decode cX4_dropLast 0 = .ok (.aload_n 0, 1) := by decide +kernel
theorem dX4_dropLast_1 : decode cX4_dropLast 1 = .ok (.aload_n 0, 1) := by decide +kernel
theorem dX4_dropLast_2 : decode cX4_dropLast 2 = .ok (.getfield 13, 3) := by decide +kernel
theorem dX4_dropLast_5 : decode cX4_dropLast 5 = .ok (.iconst 0, 1) := by decide +kernel
theorem dX4_dropLast_6 : decode cX4_dropLast 6 = .ok (.iaload, 1) := by decide +kernel
theorem dX4_dropLast_7 : decode cX4_dropLast 7 = .ok (.ifCond .le 7, 3) := by decide +kernel
theorem dX4_dropLast_10 : decode cX4_dropLast 10 = .ok (.iconst 0, 1) := by decide +kernel
theorem dX4_dropLast_11 : decode cX4_dropLast 11 = .ok (.goto 4, 3) := by decide +kernel
theorem dX4_dropLast_14 : decode cX4_dropLast 14 = .ok (.iconst 1, 1) := by decide +kernel
theorem dX4_dropLast_15 : decode cX4_dropLast 15 = .ok (.invokevirtual 158, 3) := by decide +kernel
theorem dX4_dropLast_18 : decode cX4_dropLast 18 = .ok (.ifCond .eq 5, 3) := by decide +kernel
theorem dX4_dropLast_21 : decode cX4_dropLast 21 = .ok (.iconst 0, 1) := by decide +kernel
theorem dX4_dropLast_22 : decode cX4_dropLast 22 = .ok (.ireturn, 1) := by decide +kernel
theorem dX4_dropLast_23 : decode cX4_dropLast 23 = .ok (.aload_n 0, 1) := by decide +kernel
theorem dX4_dropLast_24 : decode cX4_dropLast 24 = .ok (.invokevirtual 161, 3) := by decide +kernel
theorem dX4_dropLast_27 : decode cX4_dropLast 27 = .ok (.aload_n 0, 1) := by decide +kernel
theorem dX4_dropLast_28 : decode cX4_dropLast 28 = .ok (.getfield 13, 3) := by decide +kernel
theorem dX4_dropLast_31 : decode cX4_dropLast 31 = .ok (.iconst 0, 1) := by decide +kernel
theorem dX4_dropLast_32 : decode cX4_dropLast 32 = .ok (.dup2, 1) := by decide +kernel
theorem dX4_dropLast_33 : decode cX4_dropLast 33 = .ok (.iaload, 1) := by decide +kernel
theorem dX4_dropLast_34 : decode cX4_dropLast 34 = .ok (.iconst 1, 1) := by decide +kernel
theorem dX4_dropLast_35 : decode cX4_dropLast 35 = .ok (.isub, 1) := by decide +kernel
theorem dX4_dropLast_36 : decode cX4_dropLast 36 = .ok (.iastore, 1) := by decide +kernel
theorem dX4_dropLast_37 : decode cX4_dropLast 37 = .ok (.aload_n 0, 1) := by decide +kernel
theorem dX4_dropLast_38 : decode cX4_dropLast 38 = .ok (.getfield 13, 3) := by decide +kernel
theorem dX4_dropLast_41 : decode cX4_dropLast 41 = .ok (.bipush 20, 2) := by decide +kernel
theorem dX4_dropLast_43 : decode cX4_dropLast 43 = .ok (.iconst 0, 1) := by decide +kernel
theorem dX4_dropLast_44 : decode cX4_dropLast 44 = .ok (.iastore, 1) := by decide +kernel
theorem dX4_dropLast_45 : decode cX4_dropLast 45 = .ok (.aload_n 0, 1) := by decide +kernel
theorem dX4_dropLast_46 : decode cX4_dropLast 46 = .ok (.getfield 13, 3) := by decide +kernel
theorem dX4_dropLast_49 : decode cX4_dropLast 49 = .ok (.iconst 0, 1) := by decide +kernel
theorem dX4_dropLast_50 : decode cX4_dropLast 50 = .ok (.iaload, 1) := by decide +kernel
theorem dX4_dropLast_51 : decode cX4_dropLast 51 = .ok (.ireturn, 1) := by decide +kernel
theorem dX4_toggleWall_0 : decode cX4_toggleWall 0 = .ok (.aload_n 0, 1) := by decide +kernel
theorem dX4_toggleWall_1 : decode cX4_toggleWall 1 = .ok (.iload_n 1, 1) := by decide +kernel
theorem dX4_toggleWall_2 : decode cX4_toggleWall 2 = .ok (.invokestatic 167, 3) := by decide +kernel
theorem dX4_toggleWall_5 : decode cX4_toggleWall 5 = .ok (.ifCond .ne 7, 3) := by decide +kernel
theorem dX4_toggleWall_8 : decode cX4_toggleWall 8 = .ok (.iconst 1, 1) := by decide +kernel
theorem dX4_toggleWall_9 : decode cX4_toggleWall 9 = .ok (.goto 16, 3) := by decide +kernel
theorem dX4_toggleWall_12 : decode cX4_toggleWall 12 = .ok (.aload_n 0, 1) := by decide +kernel
theorem dX4_toggleWall_13 : decode cX4_toggleWall 13 = .ok (.iload_n 1, 1) := by decide +kernel
theorem dX4_toggleWall_14 : decode cX4_toggleWall 14 = .ok (.invokevirtual 170, 3) := by decide +kernel
theorem dX4_toggleWall_17 : decode cX4_toggleWall 17 = .ok (.ifCond .eq 7, 3) := by decide +kernel
theorem dX4_toggleWall_20 : decode cX4_toggleWall 20 = .ok (.iconst 0, 1) := by decide +kernel
theorem dX4_toggleWall_21 : decode cX4_toggleWall 21 = .ok (.goto 4, 3) := by decide +kernel
theorem dX4_toggleWall_24 : decode cX4_toggleWall 24 = .ok (.iconst 2, 1) := by decide +kernel
theorem dX4_toggleWall_25 : decode cX4_toggleWall 25 = .ok (.invokevirtual 158, 3) := by decide +kernel
theorem dX4_toggleWall_28 : decode cX4_toggleWall 28 = .ok (.ifCond .eq 5, 3) := by decide +kernel
theorem dX4_toggleWall_31 : decode cX4_toggleWall 31 = .ok (.iconst 0, 1) := by decide +kernel
theorem dX4_toggleWall_32 : decode cX4_toggleWall 32 = .ok (.ireturn, 1) := by decide +kernel
theorem dX4_toggleWall_33 : decode cX4_toggleWall 33 = .ok (.aload_n 0, 1) := by decide +kernel
theorem dX4_toggleWall_34 : decode cX4_toggleWall 34 = .ok (.invokevirtual 161, 3) := by decide +kernel
theorem dX4_toggleWall_37 : decode cX4_toggleWall 37 = .ok (.aload_n 0, 1) := by decide +kernel
theorem dX4_toggleWall_38 : decode cX4_toggleWall 38 = .ok (.iload_n 1, 1) := by decide +kernel
theorem dX4_toggleWall_39 : decode cX4_toggleWall 39 = .ok (.invokevirtual 173, 3) := by decide +kernel
theorem dX4_toggleWall_42 : decode cX4_toggleWall 42 = .ok (.ireturn, 1) := by decide +kernel
theorem dX4_isChange_0 : decode cX4_isChange 0 = .ok (.iload_n 0, 1) := by decide +kernel
theorem dX4_isChange_1 : decode cX4_isChange 1 = .ok (.i2l, 1) := by decide +kernel
theorem dX4_isChange_2 : decode cX4_isChange 2 = .ok (.ldc2_w 176, 3) := by decide +kernel
theorem dX4_isChange_5 : decode cX4_isChange 5 = .ok (.ldc2_w 73, 3) := by decide +kernel
theorem dX4_isChange_8 : decode cX4_isChange 8 = .ok (.invokestatic 47, 3) := by decide +kernel
theorem dX4_isChange_11 : decode cX4_isChange 11 = .ok (.ifCond .eq 11, 3) := by decide +kernel
theorem dX4_isChange_14 : decode cX4_isChange 14 = .ok (.iload_n 0, 1) := by decide +kernel
theorem dX4_isChange_15 : decode cX4_isChange 15 = .ok (.ifCond .eq 7, 3) := by decide +kernel
theorem dX4_isChange_18 : decode cX4_isChange 18 = .ok (.iconst 1, 1) := by decide +kernel
theorem dX4_isChange_19 : decode cX4_isChange 19 = .ok (.goto 4, 3) := by decide +kernel
theorem dX4_isChange_22 : decode cX4_isChange 22 = .ok (.iconst 0, 1) := by decide +kernel
theorem dX4_isChange_23 : decode cX4_isChange 23 = .ok (.ireturn, 1) := by decide +kernel
theorem dX4_slide_0 : decode cX4_slide 0 = .ok (.aload_n 0, 1) := by decide +kernel
theorem dX4_slide_1 : decode cX4_slide 1 = .ok (.aload_n 0, 1) := by decide +kernel
theorem dX4_slide_2 : decode cX4_slide 2 = .ok (.iload_n 1, 1) := by decide +kernel
theorem dX4_slide_3 : decode cX4_slide 3 = .ok (.invokevirtual 178, 3) := by decide +kernel
theorem dX4_slide_6 : decode cX4_slide 6 = .ok (.ifCond .ne 7, 3) := by decide +kernel
theorem dX4_slide_9 : decode cX4_slide 9 = .ok (.iconst 1, 1) := by decide +kernel
theorem dX4_slide_10 : decode cX4_slide 10 = .ok (.goto 40, 3) := by decide +kernel
theorem dX4_slide_13 : decode cX4_slide 13 = .ok (.iload_n 2, 1) := by decide +kernel
theorem dX4_slide_14 : decode cX4_slide 14 = .ok (.invokestatic 181, 3) := by decide +kernel
theorem dX4_slide_17 : decode cX4_slide 17 = .ok (.ifCond .ne 7, 3) := by decide +kernel
theorem dX4_slide_20 : decode cX4_slide 20 = .ok (.iconst 2, 1) := by decide +kernel
theorem dX4_slide_21 : decode cX4_slide 21 = .ok (.goto 29, 3) := by decide +kernel
theorem dX4_slide_24 : decode cX4_slide 24 = .ok (.aload_n 0, 1) := by decide +kernel
theorem dX4_slide_25 : decode cX4_slide 25 = .ok (.iload_n 1, 1) := by decide +kernel
theorem dX4_slide_26 : decode cX4_slide 26 = .ok (.iload_n 2, 1) := by decide +kernel
theorem dX4_slide_27 : decode cX4_slide 27 = .ok (.invokevirtual 119, 3) := by decide +kernel
theorem dX4_slide_30 : decode cX4_slide 30 = .ok (.ifCond .eq 19, 3) := by decide +kernel
theorem dX4_slide_33 : decode cX4_slide 33 = .ok (.aload_n 0, 1) := by decide +kernel
theorem dX4_slide_34 : decode cX4_slide 34 = .ok (.getfield 13, 3) := by decide +kernel
theorem dX4_slide_37 : decode cX4_slide 37 = .ok (.bipush 20, 2) := by decide +kernel
theorem dX4_slide_39 : decode cX4_slide 39 = .ok (.iaload, 1) := by decide +kernel
theorem dX4_slide_40 : decode cX4_slide 40 = .ok (.bipush 60, 2) := by decide +kernel
theorem dX4_slide_42 : decode cX4_slide 42 = .ok (.if_icmp .ge 7, 3) := by decide +kernel
theorem dX4_slide_45 : decode cX4_slide 45 = .ok (.iconst 0, 1) := by decide +kernel
theorem dX4_slide_46 : decode cX4_slide 46 = .ok (.goto 4, 3) := by decide +kernel
theorem dX4_slide_49 : decode cX4_slide 49 = .ok (.iconst 3, 1) := by decide +kernel
theorem dX4_slide_50 : decode cX4_slide 50 = .ok (.invokevirtual 158, 3) := by decide +kernel
theorem dX4_slide_53 : decode cX4_slide 53 = .ok (.ifCond .eq 5, 3) := by decide +kernel
theorem dX4_slide_56 : decode cX4_slide 56 = .ok (.iconst 0, 1) := by decide +kernel
theorem dX4_slide_57 : decode cX4_slide 57 = .ok (.ireturn, 1) := by decide +kernel
theorem dX4_slide_58 : decode cX4_slide 58 = .ok (.aload_n 0, 1) := by decide +kernel
theorem dX4_slide_59 : decode cX4_slide 59 = .ok (.invokevirtual 161, 3) := by decide +kernel
theorem dX4_slide_62 : decode cX4_slide 62 = .ok (.aload_n 0, 1) := by decide +kernel
theorem dX4_slide_63 : decode cX4_slide 63 = .ok (.iload_n 1, 1) := by decide +kernel
theorem dX4_slide_64 : decode cX4_slide 64 = .ok (.iload_n 2, 1) := by decide +kernel
theorem dX4_slide_65 : decode cX4_slide 65 = .ok (.invokevirtual 152, 3) := by decide +kernel
theorem dX4_slide_68 : decode cX4_slide 68 = .ok (.ireturn, 1) := by decide +kernel
theorem dX4_takeBack_0 : decode cX4_takeBack 0 = .ok (.aload_n 0, 1) := by decide +kernel
theorem dX4_takeBack_1 : decode cX4_takeBack 1 = .ok (.aload_n 0, 1) := by decide +kernel
theorem dX4_takeBack_2 : decode cX4_takeBack 2 = .ok (.getfield 13, 3) := by decide +kernel
theorem dX4_takeBack_5 : decode cX4_takeBack 5 = .ok (.bipush 20, 2) := by decide +kernel
theorem dX4_takeBack_7 : decode cX4_takeBack 7 = .ok (.iaload, 1) := by decide +kernel
theorem dX4_takeBack_8 : decode cX4_takeBack 8 = .ok (.ifCond .le 7, 3) := by decide +kernel
theorem dX4_takeBack_11 : decode cX4_takeBack 11 = .ok (.iconst 0, 1) := by decide +kernel
theorem dX4_takeBack_12 : decode cX4_takeBack 12 = .ok (.goto 4, 3) := by decide +kernel
theorem dX4_takeBack_15 : decode cX4_takeBack 15 = .ok (.iconst 1, 1) := by decide +kernel
theorem dX4_takeBack_16 : decode cX4_takeBack 16 = .ok (.invokevirtual 158, 3) := by decide +kernel
theorem dX4_takeBack_19 : decode cX4_takeBack 19 = .ok (.ifCond .eq 5, 3) := by decide +kernel
theorem dX4_takeBack_22 : decode cX4_takeBack 22 = .ok (.iconst 0, 1) := by decide +kernel
theorem dX4_takeBack_23 : decode cX4_takeBack 23 = .ok (.ireturn, 1) := by decide +kernel
theorem dX4_takeBack_24 : decode cX4_takeBack 24 = .ok (.aload_n 0, 1) := by decide +kernel
theorem dX4_takeBack_25 : decode cX4_takeBack 25 = .ok (.invokevirtual 161, 3) := by decide +kernel
theorem dX4_takeBack_28 : decode cX4_takeBack 28 = .ok (.aload_n 0, 1) := by decide +kernel
theorem dX4_takeBack_29 : decode cX4_takeBack 29 = .ok (.invokevirtual 184, 3) := by decide +kernel
theorem dX4_takeBack_32 : decode cX4_takeBack 32 = .ok (.ireturn, 1) := by decide +kernel
theorem dX4_rewind_0 : decode cX4_rewind 0 = .ok (.aload_n 0, 1) := by decide +kernel
theorem dX4_rewind_1 : decode cX4_rewind 1 = .ok (.iconst 0, 1) := by decide +kernel
theorem dX4_rewind_2 : decode cX4_rewind 2 = .ok (.putfield 35, 3) := by decide +kernel
theorem dX4_rewind_5 : decode cX4_rewind 5 = .ok (.aload_n 0, 1) := by decide +kernel
theorem dX4_rewind_6 : decode cX4_rewind 6 = .ok (.invokevirtual 161, 3) := by decide +kernel
theorem dX4_rewind_9 : decode cX4_rewind 9 = .ok (.aload_n 0, 1) := by decide +kernel
theorem dX4_rewind_10 : decode cX4_rewind 10 = .ok (.getfield 13, 3) := by decide +kernel
theorem dX4_rewind_13 : decode cX4_rewind 13 = .ok (.bipush 20, 2) := by decide +kernel
theorem dX4_rewind_15 : decode cX4_rewind 15 = .ok (.iaload, 1) := by decide +kernel
theorem dX4_rewind_16 : decode cX4_rewind 16 = .ok (.istore_n 1, 1) := by decide +kernel
theorem dX4_rewind_17 : decode cX4_rewind 17 = .ok (.aload_n 0, 1) := by decide +kernel
theorem dX4_rewind_18 : decode cX4_rewind 18 = .ok (.getfield 13, 3) := by decide +kernel
theorem dX4_rewind_21 : decode cX4_rewind 21 = .ok (.bipush 20, 2) := by decide +kernel
theorem dX4_rewind_23 : decode cX4_rewind 23 = .ok (.iaload, 1) := by decide +kernel
theorem dX4_rewind_24 : decode cX4_rewind 24 = .ok (.ifCond .le 11, 3) := by decide +kernel
theorem dX4_rewind_27 : decode cX4_rewind 27 = .ok (.aload_n 0, 1) := by decide +kernel
theorem dX4_rewind_28 : decode cX4_rewind 28 = .ok (.invokevirtual 184, 3) := by decide +kernel
theorem dX4_rewind_31 : decode cX4_rewind 31 = .ok (.pop, 1) := by decide +kernel
theorem dX4_rewind_32 : decode cX4_rewind 32 = .ok (.goto (-15), 3) := by decide +kernel
theorem dX4_rewind_35 : decode cX4_rewind 35 = .ok (.iload_n 1, 1) := by decide +kernel
theorem dX4_rewind_36 : decode cX4_rewind 36 = .ok (.ireturn, 1) := by decide +kernel
theorem dX4_driveOut_0 : decode cX4_driveOut 0 = .ok (.aload_n 0, 1) := by decide +kernel
theorem dX4_driveOut_1 : decode cX4_driveOut 1 = .ok (.aload_n 0, 1) := by decide +kernel
theorem dX4_driveOut_2 : decode cX4_driveOut 2 = .ok (.invokevirtual 187, 3) := by decide +kernel
theorem dX4_driveOut_5 : decode cX4_driveOut 5 = .ok (.ifCond .eq 7, 3) := by decide +kernel
theorem dX4_driveOut_8 : decode cX4_driveOut 8 = .ok (.iconst 0, 1) := by decide +kernel
theorem dX4_driveOut_9 : decode cX4_driveOut 9 = .ok (.goto 4, 3) := by decide +kernel
theorem dX4_driveOut_12 : decode cX4_driveOut 12 = .ok (.iconst 1, 1) := by decide +kernel
theorem dX4_driveOut_13 : decode cX4_driveOut 13 = .ok (.invokevirtual 158, 3) := by decide +kernel
theorem dX4_driveOut_16 : decode cX4_driveOut 16 = .ok (.ifCond .eq 5, 3) := by decide +kernel
theorem dX4_driveOut_19 : decode cX4_driveOut 19 = .ok (.iconst 0, 1) := by decide +kernel
theorem dX4_driveOut_20 : decode cX4_driveOut 20 = .ok (.ireturn, 1) := by decide +kernel
theorem dX4_driveOut_21 : decode cX4_driveOut 21 = .ok (.aload_n 0, 1) := by decide +kernel
theorem dX4_driveOut_22 : decode cX4_driveOut 22 = .ok (.invokevirtual 161, 3) := by decide +kernel
theorem dX4_driveOut_25 : decode cX4_driveOut 25 = .ok (.aload_n 0, 1) := by decide +kernel
theorem dX4_driveOut_26 : decode cX4_driveOut 26 = .ok (.invokevirtual 191, 3) := by decide +kernel
theorem dX4_driveOut_29 : decode cX4_driveOut 29 = .ok (.ireturn, 1) := by decide +kernel
theorem dX4_append_0 : decode cX4_append 0 = .ok (.aload_n 0, 1) := by decide +kernel
theorem dX4_append_1 : decode cX4_append 1 = .ok (.iload_n 1, 1) := by decide +kernel
theorem dX4_append_2 : decode cX4_append 2 = .ok (.i2l, 1) := by decide +kernel
theorem dX4_append_3 : decode cX4_append 3 = .ok (.ldc2_w 194, 3) := by decide +kernel
theorem dX4_append_6 : decode cX4_append 6 = .ok (.ldc2_w 196, 3) := by decide +kernel
theorem dX4_append_9 : decode cX4_append 9 = .ok (.invokestatic 47, 3) := by decide +kernel
theorem dX4_append_12 : decode cX4_append 12 = .ok (.ifCond .ne 7, 3) := by decide +kernel
theorem dX4_append_15 : decode cX4_append 15 = .ok (.iconst 1, 1) := by decide +kernel
theorem dX4_append_16 : decode cX4_append 16 = .ok (.goto 17, 3) := by decide +kernel
theorem dX4_append_19 : decode cX4_append 19 = .ok (.aload_n 0, 1) := by decide +kernel
theorem dX4_append_20 : decode cX4_append 20 = .ok (.getfield 198, 3) := by decide +kernel
theorem dX4_append_23 : decode cX4_append 23 = .ok (.bipush 60, 2) := by decide +kernel
theorem dX4_append_25 : decode cX4_append 25 = .ok (.if_icmp .ne 7, 3) := by decide +kernel
theorem dX4_append_28 : decode cX4_append 28 = .ok (.iconst 2, 1) := by decide +kernel
theorem dX4_append_29 : decode cX4_append 29 = .ok (.goto 4, 3) := by decide +kernel
theorem dX4_append_32 : decode cX4_append 32 = .ok (.iconst 0, 1) := by decide +kernel
theorem dX4_append_33 : decode cX4_append 33 = .ok (.invokevirtual 158, 3) := by decide +kernel
theorem dX4_append_36 : decode cX4_append 36 = .ok (.ifCond .eq 5, 3) := by decide +kernel
theorem dX4_append_39 : decode cX4_append 39 = .ok (.iconst 0, 1) := by decide +kernel
theorem dX4_append_40 : decode cX4_append 40 = .ok (.ireturn, 1) := by decide +kernel
theorem dX4_append_41 : decode cX4_append 41 = .ok (.aload_n 0, 1) := by decide +kernel
theorem dX4_append_42 : decode cX4_append 42 = .ok (.getfield 7, 3) := by decide +kernel
theorem dX4_append_45 : decode cX4_append 45 = .ok (.aload_n 0, 1) := by decide +kernel
theorem dX4_append_46 : decode cX4_append 46 = .ok (.getfield 198, 3) := by decide +kernel
theorem dX4_append_49 : decode cX4_append 49 = .ok (.iload_n 1, 1) := by decide +kernel
theorem dX4_append_50 : decode cX4_append 50 = .ok (.iastore, 1) := by decide +kernel
theorem dX4_append_51 : decode cX4_append 51 = .ok (.aload_n 0, 1) := by decide +kernel
theorem dX4_append_52 : decode cX4_append 52 = .ok (.dup, 1) := by decide +kernel
theorem dX4_append_53 : decode cX4_append 53 = .ok (.getfield 198, 3) := by decide +kernel
theorem dX4_append_56 : decode cX4_append 56 = .ok (.iconst 1, 1) := by decide +kernel
theorem dX4_append_57 : decode cX4_append 57 = .ok (.iadd, 1) := by decide +kernel
theorem dX4_append_58 : decode cX4_append 58 = .ok (.putfield 198, 3) := by decide +kernel
theorem dX4_append_61 : decode cX4_append 61 = .ok (.aload_n 0, 1) := by decide +kernel
theorem dX4_append_62 : decode cX4_append 62 = .ok (.getfield 198, 3) := by decide +kernel
theorem dX4_append_65 : decode cX4_append 65 = .ok (.ireturn, 1) := by decide +kernel
theorem dX4_clearBuffer_0 : decode cX4_clearBuffer 0 = .ok (.aload_n 0, 1) := by decide +kernel
theorem dX4_clearBuffer_1 : decode cX4_clearBuffer 1 = .ok (.iconst 0, 1) := by decide +kernel
theorem dX4_clearBuffer_2 : decode cX4_clearBuffer 2 = .ok (.putfield 35, 3) := by decide +kernel
theorem dX4_clearBuffer_5 : decode cX4_clearBuffer 5 = .ok (.aload_n 0, 1) := by decide +kernel
theorem dX4_clearBuffer_6 : decode cX4_clearBuffer 6 = .ok (.getfield 198, 3) := by decide +kernel
theorem dX4_clearBuffer_9 : decode cX4_clearBuffer 9 = .ok (.istore_n 1, 1) := by decide +kernel
theorem dX4_clearBuffer_10 : decode cX4_clearBuffer 10 = .ok (.aload_n 0, 1) := by decide +kernel
theorem dX4_clearBuffer_11 : decode cX4_clearBuffer 11 = .ok (.iconst 0, 1) := by decide +kernel
theorem dX4_clearBuffer_12 : decode cX4_clearBuffer 12 = .ok (.putfield 198, 3) := by decide +kernel
theorem dX4_clearBuffer_15 : decode cX4_clearBuffer 15 = .ok (.iload_n 1, 1) := by decide +kernel
theorem dX4_clearBuffer_16 : decode cX4_clearBuffer 16 = .ok (.ireturn, 1) := by decide +kernel
theorem dX4_goesOn_0 : decode cX4_goesOn 0 = .ok (.aload_n 0, 1) := by decide +kernel
theorem dX4_goesOn_1 : decode cX4_goesOn 1 = .ok (.getfield 201, 3) := by decide +kernel
theorem dX4_goesOn_4 : decode cX4_goesOn 4 = .ok (.aload_n 0, 1) := by decide +kernel
theorem dX4_goesOn_5 : decode cX4_goesOn 5 = .ok (.getfield 198, 3) := by decide +kernel
theorem dX4_goesOn_8 : decode cX4_goesOn 8 = .ok (.if_icmp .ge 20, 3) := by decide +kernel
theorem dX4_goesOn_11 : decode cX4_goesOn 11 = .ok (.aload_n 0, 1) := by decide +kernel
theorem dX4_goesOn_12 : decode cX4_goesOn 12 = .ok (.getfield 7, 3) := by decide +kernel
theorem dX4_goesOn_15 : decode cX4_goesOn 15 = .ok (.aload_n 0, 1) := by decide +kernel
theorem dX4_goesOn_16 : decode cX4_goesOn 16 = .ok (.getfield 201, 3) := by decide +kernel
theorem dX4_goesOn_19 : decode cX4_goesOn 19 = .ok (.iaload, 1) := by decide +kernel
theorem dX4_goesOn_20 : decode cX4_goesOn 20 = .ok (.iload_n 1, 1) := by decide +kernel
theorem dX4_goesOn_21 : decode cX4_goesOn 21 = .ok (.if_icmp .ne 7, 3) := by decide +kernel
theorem dX4_goesOn_24 : decode cX4_goesOn 24 = .ok (.iconst 1, 1) := by decide +kernel
theorem dX4_goesOn_25 : decode cX4_goesOn 25 = .ok (.goto 4, 3) := by decide +kernel
theorem dX4_goesOn_28 : decode cX4_goesOn 28 = .ok (.iconst 0, 1) := by decide +kernel
theorem dX4_goesOn_29 : decode cX4_goesOn 29 = .ok (.istore_n 2, 1) := by decide +kernel
theorem dX4_goesOn_30 : decode cX4_goesOn 30 = .ok (.aload_n 0, 1) := by decide +kernel
theorem dX4_goesOn_31 : decode cX4_goesOn 31 = .ok (.dup, 1) := by decide +kernel
theorem dX4_goesOn_32 : decode cX4_goesOn 32 = .ok (.getfield 201, 3) := by decide +kernel
theorem dX4_goesOn_35 : decode cX4_goesOn 35 = .ok (.iload_n 2, 1) := by decide +kernel
theorem dX4_goesOn_36 : decode cX4_goesOn 36 = .ok (.ifCond .eq 7, 3) := by decide +kernel
theorem dX4_goesOn_39 : decode cX4_goesOn 39 = .ok (.iconst 1, 1) := by decide +kernel
theorem dX4_goesOn_40 : decode cX4_goesOn 40 = .ok (.goto 4, 3) := by decide +kernel
theorem dX4_goesOn_43 : decode cX4_goesOn 43 = .ok (.iconst 0, 1) := by decide +kernel
theorem dX4_goesOn_44 : decode cX4_goesOn 44 = .ok (.iadd, 1) := by decide +kernel
theorem dX4_goesOn_45 : decode cX4_goesOn 45 = .ok (.putfield 201, 3) := by decide +kernel
theorem dX4_goesOn_48 : decode cX4_goesOn 48 = .ok (.iload_n 2, 1) := by decide +kernel
theorem dX4_goesOn_49 : decode cX4_goesOn 49 = .ok (.ireturn, 1) := by decide +kernel
theorem dX4_digit_0 : decode cX4_digit 0 = .ok (.aload_n 0, 1) := by decide +kernel
theorem dX4_digit_1 : decode cX4_digit 1 = .ok (.getfield 201, 3) := by decide +kernel
theorem dX4_digit_4 : decode cX4_digit 4 = .ok (.aload_n 0, 1) := by decide +kernel
theorem dX4_digit_5 : decode cX4_digit 5 = .ok (.getfield 198, 3) := by decide +kernel
theorem dX4_digit_8 : decode cX4_digit 8 = .ok (.if_icmp .ge 30, 3) := by decide +kernel
theorem dX4_digit_11 : decode cX4_digit 11 = .ok (.aload_n 0, 1) := by decide +kernel
theorem dX4_digit_12 : decode cX4_digit 12 = .ok (.getfield 7, 3) := by decide +kernel
theorem dX4_digit_15 : decode cX4_digit 15 = .ok (.aload_n 0, 1) := by decide +kernel
theorem dX4_digit_16 : decode cX4_digit 16 = .ok (.getfield 201, 3) := by decide +kernel
theorem dX4_digit_19 : decode cX4_digit 19 = .ok (.iaload, 1) := by decide +kernel
theorem dX4_digit_20 : decode cX4_digit 20 = .ok (.bipush 48, 2) := by decide +kernel
theorem dX4_digit_22 : decode cX4_digit 22 = .ok (.isub, 1) := by decide +kernel
theorem dX4_digit_23 : decode cX4_digit 23 = .ok (.i2l, 1) := by decide +kernel
theorem dX4_digit_24 : decode cX4_digit 24 = .ok (.iload_n 1, 1) := by decide +kernel
theorem dX4_digit_25 : decode cX4_digit 25 = .ok (.i2l, 1) := by decide +kernel
theorem dX4_digit_26 : decode cX4_digit 26 = .ok (.iload_n 2, 1) := by decide +kernel
theorem dX4_digit_27 : decode cX4_digit 27 = .ok (.i2l, 1) := by decide +kernel
theorem dX4_digit_28 : decode cX4_digit 28 = .ok (.invokestatic 47, 3) := by decide +kernel
theorem dX4_digit_31 : decode cX4_digit 31 = .ok (.ifCond .eq 7, 3) := by decide +kernel
theorem dX4_digit_34 : decode cX4_digit 34 = .ok (.iconst 1, 1) := by decide +kernel
theorem dX4_digit_35 : decode cX4_digit 35 = .ok (.goto 4, 3) := by decide +kernel
theorem dX4_digit_38 : decode cX4_digit 38 = .ok (.iconst 0, 1) := by decide +kernel
theorem dX4_digit_39 : decode cX4_digit 39 = .ok (.istore_n 3, 1) := by decide +kernel
theorem dX4_digit_40 : decode cX4_digit 40 = .ok (.aload_n 0, 1) := by decide +kernel
theorem dX4_digit_41 : decode cX4_digit 41 = .ok (.iload_n 3, 1) := by decide +kernel
theorem dX4_digit_42 : decode cX4_digit 42 = .ok (.ifCond .eq 18, 3) := by decide +kernel
theorem dX4_digit_45 : decode cX4_digit 45 = .ok (.aload_n 0, 1) := by decide +kernel
theorem dX4_digit_46 : decode cX4_digit 46 = .ok (.getfield 7, 3) := by decide +kernel
theorem dX4_digit_49 : decode cX4_digit 49 = .ok (.aload_n 0, 1) := by decide +kernel
theorem dX4_digit_50 : decode cX4_digit 50 = .ok (.getfield 201, 3) := by decide +kernel
theorem dX4_digit_53 : decode cX4_digit 53 = .ok (.iaload, 1) := by decide +kernel
theorem dX4_digit_54 : decode cX4_digit 54 = .ok (.bipush 48, 2) := by decide +kernel
theorem dX4_digit_56 : decode cX4_digit 56 = .ok (.isub, 1) := by decide +kernel
theorem dX4_digit_57 : decode cX4_digit 57 = .ok (.goto 7, 3) := by decide +kernel
theorem dX4_digit_60 : decode cX4_digit 60 = .ok (.aload_n 0, 1) := by decide +kernel
theorem dX4_digit_61 : decode cX4_digit 61 = .ok (.getfield 204, 3) := by decide +kernel
theorem dX4_digit_64 : decode cX4_digit 64 = .ok (.putfield 204, 3) := by decide +kernel
theorem dX4_digit_67 : decode cX4_digit 67 = .ok (.aload_n 0, 1) := by decide +kernel
theorem dX4_digit_68 : decode cX4_digit 68 = .ok (.dup, 1) := by decide +kernel
theorem dX4_digit_69 : decode cX4_digit 69 = .ok (.getfield 201, 3) := by decide +kernel
theorem dX4_digit_72 : decode cX4_digit 72 = .ok (.iload_n 3, 1) := by decide +kernel
theorem dX4_digit_73 : decode cX4_digit 73 = .ok (.ifCond .eq 7, 3) := by decide +kernel
theorem dX4_digit_76 : decode cX4_digit 76 = .ok (.iconst 1, 1) := by decide +kernel
theorem dX4_digit_77 : decode cX4_digit 77 = .ok (.goto 4, 3) := by decide +kernel
theorem dX4_digit_80 : decode cX4_digit 80 = .ok (.iconst 0, 1) := by decide +kernel
theorem dX4_digit_81 : decode cX4_digit 81 = .ok (.iadd, 1) := by decide +kernel
theorem dX4_digit_82 : decode cX4_digit 82 = .ok (.putfield 201, 3) := by decide +kernel
theorem dX4_digit_85 : decode cX4_digit 85 = .ok (.iload_n 3, 1) := by decide +kernel
theorem dX4_digit_86 : decode cX4_digit 86 = .ok (.ireturn, 1) := by decide +kernel
theorem dX4_car_0 : decode cX4_car 0 = .ok (.aload_n 0, 1) := by decide +kernel
theorem dX4_car_1 : decode cX4_car 1 = .ok (.iconst 0, 1) := by decide +kernel
theorem dX4_car_2 : decode cX4_car 2 = .ok (.iconst 4, 1) := by decide +kernel
theorem dX4_car_3 : decode cX4_car 3 = .ok (.invokevirtual 207, 3) := by decide +kernel
theorem dX4_car_6 : decode cX4_car 6 = .ok (.ifCond .ne 5, 3) := by decide +kernel
theorem dX4_car_9 : decode cX4_car 9 = .ok (.iconst 0, 1) := by decide +kernel
theorem dX4_car_10 : decode cX4_car 10 = .ok (.ireturn, 1) := by decide +kernel
theorem dX4_car_11 : decode cX4_car 11 = .ok (.aload_n 0, 1) := by decide +kernel
theorem dX4_car_12 : decode cX4_car 12 = .ok (.iload_n 1, 1) := by decide +kernel
theorem dX4_car_13 : decode cX4_car 13 = .ok (.aload_n 0, 1) := by decide +kernel
theorem dX4_car_14 : decode cX4_car 14 = .ok (.getfield 204, 3) := by decide +kernel
theorem dX4_car_17 : decode cX4_car 17 = .ok (.iadd, 1) := by decide +kernel
theorem dX4_car_18 : decode cX4_car 18 = .ok (.putfield 210, 3) := by decide +kernel
theorem dX4_car_21 : decode cX4_car 21 = .ok (.aload_n 0, 1) := by decide +kernel
theorem dX4_car_22 : decode cX4_car 22 = .ok (.bipush 46, 2) := by decide +kernel
theorem dX4_car_24 : decode cX4_car 24 = .ok (.invokevirtual 213, 3) := by decide +kernel
theorem dX4_car_27 : decode cX4_car 27 = .ok (.ifCond .eq 12, 3) := by decide +kernel
theorem dX4_car_30 : decode cX4_car 30 = .ok (.aload_n 0, 1) := by decide +kernel
theorem dX4_car_31 : decode cX4_car 31 = .ok (.iconst 0, 1) := by decide +kernel
theorem dX4_car_32 : decode cX4_car 32 = .ok (.iconst 3, 1) := by decide +kernel
theorem dX4_car_33 : decode cX4_car 33 = .ok (.invokevirtual 207, 3) := by decide +kernel
theorem dX4_car_36 : decode cX4_car 36 = .ok (.ifCond .ne 5, 3) := by decide +kernel
theorem dX4_car_39 : decode cX4_car 39 = .ok (.iconst 0, 1) := by decide +kernel
theorem dX4_car_40 : decode cX4_car 40 = .ok (.ireturn, 1) := by decide +kernel
theorem dX4_car_41 : decode cX4_car 41 = .ok (.aload_n 0, 1) := by decide +kernel
theorem dX4_car_42 : decode cX4_car 42 = .ok (.aload_n 0, 1) := by decide +kernel
theorem dX4_car_43 : decode cX4_car 43 = .ok (.getfield 204, 3) := by decide +kernel
theorem dX4_car_46 : decode cX4_car 46 = .ok (.putfield 216, 3) := by decide +kernel
theorem dX4_car_49 : decode cX4_car 49 = .ok (.aload_n 0, 1) := by decide +kernel
theorem dX4_car_50 : decode cX4_car 50 = .ok (.bipush 42, 2) := by decide +kernel
theorem dX4_car_52 : decode cX4_car 52 = .ok (.invokevirtual 213, 3) := by decide +kernel
theorem dX4_car_55 : decode cX4_car 55 = .ok (.ifCond .eq 16, 3) := by decide +kernel
theorem dX4_car_58 : decode cX4_car 58 = .ok (.aload_n 0, 1) := by decide +kernel
theorem dX4_car_59 : decode cX4_car 59 = .ok (.iconst 2, 1) := by decide +kernel
theorem dX4_car_60 : decode cX4_car 60 = .ok (.iconst 3, 1) := by decide +kernel
theorem dX4_car_61 : decode cX4_car 61 = .ok (.invokevirtual 207, 3) := by decide +kernel
theorem dX4_car_64 : decode cX4_car 64 = .ok (.ifCond .eq 7, 3) := by decide +kernel
theorem dX4_car_67 : decode cX4_car 67 = .ok (.iconst 1, 1) := by decide +kernel
theorem dX4_car_68 : decode cX4_car 68 = .ok (.goto 4, 3) := by decide +kernel
theorem dX4_car_71 : decode cX4_car 71 = .ok (.iconst 0, 1) := by decide +kernel
theorem dX4_car_72 : decode cX4_car 72 = .ok (.ireturn, 1) := by decide +kernel
theorem dX4_cell_0 : decode cX4_cell 0 = .ok (.aload_n 0, 1) := by decide +kernel
theorem dX4_cell_1 : decode cX4_cell 1 = .ok (.iconst 0, 1) := by decide +kernel
theorem dX4_cell_2 : decode cX4_cell 2 = .ok (.bipush 9, 2) := by decide +kernel
theorem dX4_cell_4 : decode cX4_cell 4 = .ok (.invokevirtual 207, 3) := by decide +kernel
theorem dX4_cell_7 : decode cX4_cell 7 = .ok (.ifCond .ne 5, 3) := by decide +kernel
theorem dX4_cell_10 : decode cX4_cell 10 = .ok (.iconst 0, 1) := by decide +kernel
theorem dX4_cell_11 : decode cX4_cell 11 = .ok (.ireturn, 1) := by decide +kernel
theorem dX4_cell_12 : decode cX4_cell 12 = .ok (.aload_n 0, 1) := by decide +kernel
theorem dX4_cell_13 : decode cX4_cell 13 = .ok (.aload_n 0, 1) := by decide +kernel
theorem dX4_cell_14 : decode cX4_cell 14 = .ok (.getfield 204, 3) := by decide +kernel
theorem dX4_cell_17 : decode cX4_cell 17 = .ok (.putfield 210, 3) := by decide +kernel
theorem dX4_cell_20 : decode cX4_cell 20 = .ok (.aload_n 0, 1) := by decide +kernel
theorem dX4_cell_21 : decode cX4_cell 21 = .ok (.getfield 210, 3) := by decide +kernel
theorem dX4_cell_24 : decode cX4_cell 24 = .ok (.iconst 1, 1) := by decide +kernel
theorem dX4_cell_25 : decode cX4_cell 25 = .ok (.if_icmp .ne 13, 3) := by decide +kernel
theorem dX4_cell_28 : decode cX4_cell 28 = .ok (.aload_n 0, 1) := by decide +kernel
theorem dX4_cell_29 : decode cX4_cell 29 = .ok (.iconst 0, 1) := by decide +kernel
theorem dX4_cell_30 : decode cX4_cell 30 = .ok (.bipush 9, 2) := by decide +kernel
theorem dX4_cell_32 : decode cX4_cell 32 = .ok (.invokevirtual 207, 3) := by decide +kernel
theorem dX4_cell_35 : decode cX4_cell 35 = .ok (.ifCond .ne 20, 3) := by decide +kernel
theorem dX4_cell_38 : decode cX4_cell 38 = .ok (.aload_n 0, 1) := by decide +kernel
theorem dX4_cell_39 : decode cX4_cell 39 = .ok (.getfield 210, 3) := by decide +kernel
theorem dX4_cell_42 : decode cX4_cell 42 = .ok (.iconst 2, 1) := by decide +kernel
theorem dX4_cell_43 : decode cX4_cell 43 = .ok (.if_icmp .ne 28, 3) := by decide +kernel
theorem dX4_cell_46 : decode cX4_cell 46 = .ok (.aload_n 0, 1) := by decide +kernel
theorem dX4_cell_47 : decode cX4_cell 47 = .ok (.iconst 0, 1) := by decide +kernel
theorem dX4_cell_48 : decode cX4_cell 48 = .ok (.iconst 4, 1) := by decide +kernel
theorem dX4_cell_49 : decode cX4_cell 49 = .ok (.invokevirtual 207, 3) := by decide +kernel
theorem dX4_cell_52 : decode cX4_cell 52 = .ok (.ifCond .eq 19, 3) := by decide +kernel
theorem dX4_cell_55 : decode cX4_cell 55 = .ok (.aload_n 0, 1) := by decide +kernel
theorem dX4_cell_56 : decode cX4_cell 56 = .ok (.bipush 10, 2) := by decide +kernel
theorem dX4_cell_58 : decode cX4_cell 58 = .ok (.aload_n 0, 1) := by decide +kernel
theorem dX4_cell_59 : decode cX4_cell 59 = .ok (.getfield 210, 3) := by decide +kernel
theorem dX4_cell_62 : decode cX4_cell 62 = .ok (.imul, 1) := by decide +kernel
theorem dX4_cell_63 : decode cX4_cell 63 = .ok (.aload_n 0, 1) := by decide +kernel
theorem dX4_cell_64 : decode cX4_cell 64 = .ok (.getfield 204, 3) := by decide +kernel
theorem dX4_cell_67 : decode cX4_cell 67 = .ok (.iadd, 1) := by decide +kernel
theorem dX4_cell_68 : decode cX4_cell 68 = .ok (.putfield 210, 3) := by decide +kernel
theorem dX4_cell_71 : decode cX4_cell 71 = .ok (.iconst 1, 1) := by decide +kernel
theorem dX4_cell_72 : decode cX4_cell 72 = .ok (.ireturn, 1) := by decide +kernel
theorem dX4_change_0 : decode cX4_change 0 = .ok (.aload_n 0, 1) := by decide +kernel
theorem dX4_change_1 : decode cX4_change 1 = .ok (.aload_n 0, 1) := by decide +kernel
theorem dX4_change_2 : decode cX4_change 2 = .ok (.bipush 43, 2) := by decide +kernel
theorem dX4_change_4 : decode cX4_change 4 = .ok (.invokevirtual 213, 3) := by decide +kernel
theorem dX4_change_7 : decode cX4_change 7 = .ok (.ifCond .eq 7, 3) := by decide +kernel
theorem dX4_change_10 : decode cX4_change 10 = .ok (.iconst 1, 1) := by decide +kernel
theorem dX4_change_11 : decode cX4_change 11 = .ok (.goto 17, 3) := by decide +kernel
theorem dX4_change_14 : decode cX4_change 14 = .ok (.aload_n 0, 1) := by decide +kernel
theorem dX4_change_15 : decode cX4_change 15 = .ok (.bipush 45, 2) := by decide +kernel
theorem dX4_change_17 : decode cX4_change 17 = .ok (.invokevirtual 213, 3) := by decide +kernel
theorem dX4_change_20 : decode cX4_change 20 = .ok (.ifCond .eq 7, 3) := by decide +kernel
theorem dX4_change_23 : decode cX4_change 23 = .ok (.iconst (-1), 1) := by decide +kernel
theorem dX4_change_24 : decode cX4_change 24 = .ok (.goto 4, 3) := by decide +kernel
theorem dX4_change_27 : decode cX4_change 27 = .ok (.iconst 0, 1) := by decide +kernel
theorem dX4_change_28 : decode cX4_change 28 = .ok (.putfield 216, 3) := by decide +kernel
theorem dX4_change_31 : decode cX4_change 31 = .ok (.aload_n 0, 1) := by decide +kernel
theorem dX4_change_32 : decode cX4_change 32 = .ok (.getfield 216, 3) := by decide +kernel
theorem dX4_change_35 : decode cX4_change 35 = .ok (.ifCond .eq 12, 3) := by decide +kernel
theorem dX4_change_38 : decode cX4_change 38 = .ok (.aload_n 0, 1) := by decide +kernel
theorem dX4_change_39 : decode cX4_change 39 = .ok (.iconst 1, 1) := by decide +kernel
theorem dX4_change_40 : decode cX4_change 40 = .ok (.iconst 3, 1) := by decide +kernel
theorem dX4_change_41 : decode cX4_change 41 = .ok (.invokevirtual 207, 3) := by decide +kernel
theorem dX4_change_44 : decode cX4_change 44 = .ok (.ifCond .ne 5, 3) := by decide +kernel
theorem dX4_change_47 : decode cX4_change 47 = .ok (.iconst 0, 1) := by decide +kernel
theorem dX4_change_48 : decode cX4_change 48 = .ok (.ireturn, 1) := by decide +kernel
theorem dX4_change_49 : decode cX4_change 49 = .ok (.aload_n 0, 1) := by decide +kernel
theorem dX4_change_50 : decode cX4_change 50 = .ok (.dup, 1) := by decide +kernel
theorem dX4_change_51 : decode cX4_change 51 = .ok (.getfield 216, 3) := by decide +kernel
theorem dX4_change_54 : decode cX4_change 54 = .ok (.aload_n 0, 1) := by decide +kernel
theorem dX4_change_55 : decode cX4_change 55 = .ok (.getfield 204, 3) := by decide +kernel
theorem dX4_change_58 : decode cX4_change 58 = .ok (.imul, 1) := by decide +kernel
theorem dX4_change_59 : decode cX4_change 59 = .ok (.putfield 216, 3) := by decide +kernel
theorem dX4_change_62 : decode cX4_change 62 = .ok (.iconst 1, 1) := by decide +kernel
theorem dX4_change_63 : decode cX4_change 63 = .ok (.ireturn, 1) := by decide +kernel
theorem dX4_part_0 : decode cX4_part 0 = .ok (.iload_n 1, 1) := by decide +kernel
theorem dX4_part_1 : decode cX4_part 1 = .ok (.lookupswitch 70 #[(98, 68), (100, 68), (104, 51), (118, 57), (119, 63)], 51) := by decide +kernel
theorem dX4_part_52 : decode cX4_part 52 = .ok (.aload_n 0, 1) := by decide +kernel
theorem dX4_part_53 : decode cX4_part 53 = .ok (.iconst 0, 1) := by decide +kernel
theorem dX4_part_54 : decode cX4_part 54 = .ok (.invokevirtual 219, 3) := by decide +kernel
theorem dX4_part_57 : decode cX4_part 57 = .ok (.ireturn, 1) := by decide +kernel
theorem dX4_part_58 : decode cX4_part 58 = .ok (.aload_n 0, 1) := by decide +kernel
theorem dX4_part_59 : decode cX4_part 59 = .ok (.iconst 5, 1) := by decide +kernel
theorem dX4_part_60 : decode cX4_part 60 = .ok (.invokevirtual 219, 3) := by decide +kernel
theorem dX4_part_63 : decode cX4_part 63 = .ok (.ireturn, 1) := by decide +kernel
theorem dX4_part_64 : decode cX4_part 64 = .ok (.aload_n 0, 1) := by decide +kernel
theorem dX4_part_65 : decode cX4_part 65 = .ok (.invokevirtual 222, 3) := by decide +kernel
theorem dX4_part_68 : decode cX4_part 68 = .ok (.ireturn, 1) := by decide +kernel
theorem dX4_part_69 : decode cX4_part 69 = .ok (.iconst 1, 1) := by decide +kernel
theorem dX4_part_70 : decode cX4_part 70 = .ok (.ireturn, 1) := by decide +kernel
theorem dX4_part_71 : decode cX4_part 71 = .ok (.aload_n 0, 1) := by decide +kernel
theorem dX4_part_72 : decode cX4_part 72 = .ok (.iload_n 1, 1) := by decide +kernel
theorem dX4_part_73 : decode cX4_part 73 = .ok (.bipush 48, 2) := by decide +kernel
theorem dX4_part_75 : decode cX4_part 75 = .ok (.isub, 1) := by decide +kernel
theorem dX4_part_76 : decode cX4_part 76 = .ok (.putfield 210, 3) := by decide +kernel
theorem dX4_part_79 : decode cX4_part 79 = .ok (.aload_n 0, 1) := by decide +kernel
theorem dX4_part_80 : decode cX4_part 80 = .ok (.invokevirtual 225, 3) := by decide +kernel
theorem dX4_part_83 : decode cX4_part 83 = .ok (.ireturn, 1) := by decide +kernel
theorem dX4_isSign_0 : decode cX4_isSign 0 = .ok (.iload_n 0, 1) := by decide +kernel
theorem dX4_isSign_1 : decode cX4_isSign 1 = .ok (.bipush 104, 2) := by decide +kernel
theorem dX4_isSign_3 : decode cX4_isSign 3 = .ok (.if_icmp .eq 41, 3) := by decide +kernel
theorem dX4_isSign_6 : decode cX4_isSign 6 = .ok (.iload_n 0, 1) := by decide +kernel
theorem dX4_isSign_7 : decode cX4_isSign 7 = .ok (.bipush 118, 2) := by decide +kernel
theorem dX4_isSign_9 : decode cX4_isSign 9 = .ok (.if_icmp .eq 35, 3) := by decide +kernel
theorem dX4_isSign_12 : decode cX4_isSign 12 = .ok (.iload_n 0, 1) := by decide +kernel
theorem dX4_isSign_13 : decode cX4_isSign 13 = .ok (.bipush 119, 2) := by decide +kernel
theorem dX4_isSign_15 : decode cX4_isSign 15 = .ok (.if_icmp .eq 29, 3) := by decide +kernel
theorem dX4_isSign_18 : decode cX4_isSign 18 = .ok (.iload_n 0, 1) := by decide +kernel
theorem dX4_isSign_19 : decode cX4_isSign 19 = .ok (.bipush 98, 2) := by decide +kernel
theorem dX4_isSign_21 : decode cX4_isSign 21 = .ok (.if_icmp .eq 23, 3) := by decide +kernel
theorem dX4_isSign_24 : decode cX4_isSign 24 = .ok (.iload_n 0, 1) := by decide +kernel
theorem dX4_isSign_25 : decode cX4_isSign 25 = .ok (.bipush 100, 2) := by decide +kernel
theorem dX4_isSign_27 : decode cX4_isSign 27 = .ok (.if_icmp .eq 17, 3) := by decide +kernel
theorem dX4_isSign_30 : decode cX4_isSign 30 = .ok (.iload_n 0, 1) := by decide +kernel
theorem dX4_isSign_31 : decode cX4_isSign 31 = .ok (.i2l, 1) := by decide +kernel
theorem dX4_isSign_32 : decode cX4_isSign 32 = .ok (.ldc2_w 228, 3) := by decide +kernel
theorem dX4_isSign_35 : decode cX4_isSign 35 = .ok (.ldc2_w 230, 3) := by decide +kernel
theorem dX4_isSign_38 : decode cX4_isSign 38 = .ok (.invokestatic 47, 3) := by decide +kernel
theorem dX4_isSign_41 : decode cX4_isSign 41 = .ok (.ifCond .eq 7, 3) := by decide +kernel
theorem dX4_isSign_44 : decode cX4_isSign 44 = .ok (.iconst 1, 1) := by decide +kernel
theorem dX4_isSign_45 : decode cX4_isSign 45 = .ok (.goto 4, 3) := by decide +kernel
theorem dX4_isSign_48 : decode cX4_isSign 48 = .ok (.iconst 0, 1) := by decide +kernel
theorem dX4_isSign_49 : decode cX4_isSign 49 = .ok (.ireturn, 1) := by decide +kernel
theorem dX4_does_0 : decode cX4_does 0 = .ok (.iload_n 1, 1) := by decide +kernel
theorem dX4_does_1 : decode cX4_does 1 = .ok (.lookupswitch 166 #[(98, 123), (100, 146), (104, 51), (118, 51), (119, 95)], 51) := by decide +kernel
theorem dX4_does_52 : decode cX4_does 52 = .ok (.aload_n 0, 1) := by decide +kernel
theorem dX4_does_53 : decode cX4_does 53 = .ok (.aload_n 0, 1) := by decide +kernel
theorem dX4_does_54 : decode cX4_does 54 = .ok (.getfield 210, 3) := by decide +kernel
theorem dX4_does_57 : decode cX4_does 57 = .ok (.aload_n 0, 1) := by decide +kernel
theorem dX4_does_58 : decode cX4_does 58 = .ok (.getfield 216, 3) := by decide +kernel
theorem dX4_does_61 : decode cX4_does 61 = .ok (.aload_n 0, 1) := by decide +kernel
theorem dX4_does_62 : decode cX4_does 62 = .ok (.getfield 204, 3) := by decide +kernel
theorem dX4_does_65 : decode cX4_does 65 = .ok (.invokevirtual 155, 3) := by decide +kernel
theorem dX4_does_68 : decode cX4_does 68 = .ok (.ifCond .ne 26, 3) := by decide +kernel
theorem dX4_does_71 : decode cX4_does 71 = .ok (.aload_n 0, 1) := by decide +kernel
theorem dX4_does_72 : decode cX4_does 72 = .ok (.aload_n 0, 1) := by decide +kernel
theorem dX4_does_73 : decode cX4_does 73 = .ok (.getfield 210, 3) := by decide +kernel
theorem dX4_does_76 : decode cX4_does 76 = .ok (.aload_n 0, 1) := by decide +kernel
theorem dX4_does_77 : decode cX4_does 77 = .ok (.getfield 216, 3) := by decide +kernel
theorem dX4_does_80 : decode cX4_does 80 = .ok (.aload_n 0, 1) := by decide +kernel
theorem dX4_does_81 : decode cX4_does 81 = .ok (.getfield 204, 3) := by decide +kernel
theorem dX4_does_84 : decode cX4_does 84 = .ok (.invokevirtual 164, 3) := by decide +kernel
theorem dX4_does_87 : decode cX4_does 87 = .ok (.ifCond .lt 7, 3) := by decide +kernel
theorem dX4_does_90 : decode cX4_does 90 = .ok (.iconst 1, 1) := by decide +kernel
theorem dX4_does_91 : decode cX4_does 91 = .ok (.goto 4, 3) := by decide +kernel
theorem dX4_does_94 : decode cX4_does 94 = .ok (.iconst 0, 1) := by decide +kernel
theorem dX4_does_95 : decode cX4_does 95 = .ok (.ireturn, 1) := by decide +kernel
theorem dX4_does_96 : decode cX4_does 96 = .ok (.aload_n 0, 1) := by decide +kernel
theorem dX4_does_97 : decode cX4_does 97 = .ok (.aload_n 0, 1) := by decide +kernel
theorem dX4_does_98 : decode cX4_does 98 = .ok (.getfield 210, 3) := by decide +kernel
theorem dX4_does_101 : decode cX4_does 101 = .ok (.invokevirtual 170, 3) := by decide +kernel
theorem dX4_does_104 : decode cX4_does 104 = .ok (.ifCond .eq 18, 3) := by decide +kernel
theorem dX4_does_107 : decode cX4_does 107 = .ok (.aload_n 0, 1) := by decide +kernel
theorem dX4_does_108 : decode cX4_does 108 = .ok (.aload_n 0, 1) := by decide +kernel
theorem dX4_does_109 : decode cX4_does 109 = .ok (.getfield 210, 3) := by decide +kernel
theorem dX4_does_112 : decode cX4_does 112 = .ok (.invokevirtual 173, 3) := by decide +kernel
theorem dX4_does_115 : decode cX4_does 115 = .ok (.ifCond .ne 3, 3) := by decide +kernel
theorem dX4_does_118 : decode cX4_does 118 = .ok (.iconst 1, 1) := by decide +kernel
theorem dX4_does_119 : decode cX4_does 119 = .ok (.goto 4, 3) := by decide +kernel
theorem dX4_does_122 : decode cX4_does 122 = .ok (.iconst 0, 1) := by decide +kernel
theorem dX4_does_123 : decode cX4_does 123 = .ok (.ireturn, 1) := by decide +kernel
theorem dX4_does_124 : decode cX4_does 124 = .ok (.aload_n 0, 1) := by decide +kernel
theorem dX4_does_125 : decode cX4_does 125 = .ok (.getfield 13, 3) := by decide +kernel
theorem dX4_does_128 : decode cX4_does 128 = .ok (.bipush 20, 2) := by decide +kernel
theorem dX4_does_130 : decode cX4_does 130 = .ok (.iaload, 1) := by decide +kernel
theorem dX4_does_131 : decode cX4_does 131 = .ok (.ifCond .le 14, 3) := by decide +kernel
theorem dX4_does_134 : decode cX4_does 134 = .ok (.aload_n 0, 1) := by decide +kernel
theorem dX4_does_135 : decode cX4_does 135 = .ok (.invokevirtual 184, 3) := by decide +kernel
theorem dX4_does_138 : decode cX4_does 138 = .ok (.ifCond .lt 7, 3) := by decide +kernel
theorem dX4_does_141 : decode cX4_does 141 = .ok (.iconst 1, 1) := by decide +kernel
theorem dX4_does_142 : decode cX4_does 142 = .ok (.goto 4, 3) := by decide +kernel
theorem dX4_does_145 : decode cX4_does 145 = .ok (.iconst 0, 1) := by decide +kernel
theorem dX4_does_146 : decode cX4_does 146 = .ok (.ireturn, 1) := by decide +kernel
theorem dX4_does_147 : decode cX4_does 147 = .ok (.aload_n 0, 1) := by decide +kernel
theorem dX4_does_148 : decode cX4_does 148 = .ok (.invokevirtual 187, 3) := by decide +kernel
theorem dX4_does_151 : decode cX4_does 151 = .ok (.ifCond .eq 14, 3) := by decide +kernel
theorem dX4_does_154 : decode cX4_does 154 = .ok (.aload_n 0, 1) := by decide +kernel
theorem dX4_does_155 : decode cX4_does 155 = .ok (.invokevirtual 191, 3) := by decide +kernel
theorem dX4_does_158 : decode cX4_does 158 = .ok (.ifCond .lt 7, 3) := by decide +kernel
theorem dX4_does_161 : decode cX4_does 161 = .ok (.iconst 1, 1) := by decide +kernel
theorem dX4_does_162 : decode cX4_does 162 = .ok (.goto 4, 3) := by decide +kernel
theorem dX4_does_165 : decode cX4_does 165 = .ok (.iconst 0, 1) := by decide +kernel
theorem dX4_does_166 : decode cX4_does 166 = .ok (.ireturn, 1) := by decide +kernel
theorem dX4_does_167 : decode cX4_does 167 = .ok (.aload_n 0, 1) := by decide +kernel
theorem dX4_does_168 : decode cX4_does 168 = .ok (.aload_n 0, 1) := by decide +kernel
theorem dX4_does_169 : decode cX4_does 169 = .ok (.getfield 210, 3) := by decide +kernel
theorem dX4_does_172 : decode cX4_does 172 = .ok (.invokevirtual 178, 3) := by decide +kernel
theorem dX4_does_175 : decode cX4_does 175 = .ok (.ifCond .eq 49, 3) := by decide +kernel
theorem dX4_does_178 : decode cX4_does 178 = .ok (.aload_n 0, 1) := by decide +kernel
theorem dX4_does_179 : decode cX4_does 179 = .ok (.aload_n 0, 1) := by decide +kernel
theorem dX4_does_180 : decode cX4_does 180 = .ok (.getfield 210, 3) := by decide +kernel
theorem dX4_does_183 : decode cX4_does 183 = .ok (.aload_n 0, 1) := by decide +kernel
theorem dX4_does_184 : decode cX4_does 184 = .ok (.getfield 216, 3) := by decide +kernel
theorem dX4_does_187 : decode cX4_does 187 = .ok (.invokevirtual 119, 3) := by decide +kernel
theorem dX4_does_190 : decode cX4_does 190 = .ok (.ifCond .eq 34, 3) := by decide +kernel
theorem dX4_does_193 : decode cX4_does 193 = .ok (.aload_n 0, 1) := by decide +kernel
theorem dX4_does_194 : decode cX4_does 194 = .ok (.getfield 13, 3) := by decide +kernel
theorem dX4_does_197 : decode cX4_does 197 = .ok (.bipush 20, 2) := by decide +kernel
theorem dX4_does_199 : decode cX4_does 199 = .ok (.iaload, 1) := by decide +kernel
theorem dX4_does_200 : decode cX4_does 200 = .ok (.bipush 60, 2) := by decide +kernel
theorem dX4_does_202 : decode cX4_does 202 = .ok (.if_icmp .ge 22, 3) := by decide +kernel
theorem dX4_does_205 : decode cX4_does 205 = .ok (.aload_n 0, 1) := by decide +kernel
theorem dX4_does_206 : decode cX4_does 206 = .ok (.aload_n 0, 1) := by decide +kernel
theorem dX4_does_207 : decode cX4_does 207 = .ok (.getfield 210, 3) := by decide +kernel
theorem dX4_does_210 : decode cX4_does 210 = .ok (.aload_n 0, 1) := by decide +kernel
theorem dX4_does_211 : decode cX4_does 211 = .ok (.getfield 216, 3) := by decide +kernel
theorem dX4_does_214 : decode cX4_does 214 = .ok (.invokevirtual 152, 3) := by decide +kernel
theorem dX4_does_217 : decode cX4_does 217 = .ok (.ifCond .lt 7, 3) := by decide +kernel
theorem dX4_does_220 : decode cX4_does 220 = .ok (.iconst 1, 1) := by decide +kernel
theorem dX4_does_221 : decode cX4_does 221 = .ok (.goto 4, 3) := by decide +kernel
theorem dX4_does_224 : decode cX4_does 224 = .ok (.iconst 0, 1) := by decide +kernel
theorem dX4_does_225 : decode cX4_does 225 = .ok (.ireturn, 1) := by decide +kernel
theorem dX4_reads_0 : decode cX4_reads 0 = .ok (.aload_n 0, 1) := by decide +kernel
theorem dX4_reads_1 : decode cX4_reads 1 = .ok (.iconst 0, 1) := by decide +kernel
theorem dX4_reads_2 : decode cX4_reads 2 = .ok (.putfield 201, 3) := by decide +kernel
theorem dX4_reads_5 : decode cX4_reads 5 = .ok (.aload_n 0, 1) := by decide +kernel
theorem dX4_reads_6 : decode cX4_reads 6 = .ok (.iconst 0, 1) := by decide +kernel
theorem dX4_reads_7 : decode cX4_reads 7 = .ok (.putfield 232, 3) := by decide +kernel
theorem dX4_reads_10 : decode cX4_reads 10 = .ok (.aload_n 0, 1) := by decide +kernel
theorem dX4_reads_11 : decode cX4_reads 11 = .ok (.iconst 0, 1) := by decide +kernel
theorem dX4_reads_12 : decode cX4_reads 12 = .ok (.putfield 235, 3) := by decide +kernel
theorem dX4_reads_15 : decode cX4_reads 15 = .ok (.iload_n 1, 1) := by decide +kernel
theorem dX4_reads_16 : decode cX4_reads 16 = .ok (.istore_n 2, 1) := by decide +kernel
theorem dX4_reads_17 : decode cX4_reads 17 = .ok (.iconst 0, 1) := by decide +kernel
theorem dX4_reads_18 : decode cX4_reads 18 = .ok (.istore_n 3, 1) := by decide +kernel
theorem dX4_reads_19 : decode cX4_reads 19 = .ok (.iconst 1, 1) := by decide +kernel
theorem dX4_reads_20 : decode cX4_reads 20 = .ok (.istore 4, 2) := by decide +kernel
theorem dX4_reads_22 : decode cX4_reads 22 = .ok (.iload 4, 2) := by decide +kernel
theorem dX4_reads_24 : decode cX4_reads 24 = .ok (.ifCond .eq 149, 3) := by decide +kernel
theorem dX4_reads_27 : decode cX4_reads 27 = .ok (.aload_n 0, 1) := by decide +kernel
theorem dX4_reads_28 : decode cX4_reads 28 = .ok (.getfield 201, 3) := by decide +kernel
theorem dX4_reads_31 : decode cX4_reads 31 = .ok (.aload_n 0, 1) := by decide +kernel
theorem dX4_reads_32 : decode cX4_reads 32 = .ok (.getfield 198, 3) := by decide +kernel
theorem dX4_reads_35 : decode cX4_reads 35 = .ok (.if_icmp .eq 18, 3) := by decide +kernel
theorem dX4_reads_38 : decode cX4_reads 38 = .ok (.aload_n 0, 1) := by decide +kernel
theorem dX4_reads_39 : decode cX4_reads 39 = .ok (.getfield 7, 3) := by decide +kernel
theorem dX4_reads_42 : decode cX4_reads 42 = .ok (.aload_n 0, 1) := by decide +kernel
theorem dX4_reads_43 : decode cX4_reads 43 = .ok (.getfield 201, 3) := by decide +kernel
theorem dX4_reads_46 : decode cX4_reads 46 = .ok (.iaload, 1) := by decide +kernel
theorem dX4_reads_47 : decode cX4_reads 47 = .ok (.invokestatic 239, 3) := by decide +kernel
theorem dX4_reads_50 : decode cX4_reads 50 = .ok (.ifCond .ne 8, 3) := by decide +kernel
theorem dX4_reads_53 : decode cX4_reads 53 = .ok (.aload_n 0, 1) := by decide +kernel
theorem dX4_reads_54 : decode cX4_reads 54 = .ok (.getfield 201, 3) := by decide +kernel
theorem dX4_reads_57 : decode cX4_reads 57 = .ok (.ireturn, 1) := by decide +kernel
theorem dX4_reads_58 : decode cX4_reads 58 = .ok (.aload_n 0, 1) := by decide +kernel
theorem dX4_reads_59 : decode cX4_reads 59 = .ok (.getfield 7, 3) := by decide +kernel
theorem dX4_reads_62 : decode cX4_reads 62 = .ok (.aload_n 0, 1) := by decide +kernel
theorem dX4_reads_63 : decode cX4_reads 63 = .ok (.getfield 201, 3) := by decide +kernel
theorem dX4_reads_66 : decode cX4_reads 66 = .ok (.iaload, 1) := by decide +kernel
theorem dX4_reads_67 : decode cX4_reads 67 = .ok (.istore 5, 2) := by decide +kernel
theorem dX4_reads_69 : decode cX4_reads 69 = .ok (.aload_n 0, 1) := by decide +kernel
theorem dX4_reads_70 : decode cX4_reads 70 = .ok (.dup, 1) := by decide +kernel
theorem dX4_reads_71 : decode cX4_reads 71 = .ok (.getfield 201, 3) := by decide +kernel
theorem dX4_reads_74 : decode cX4_reads 74 = .ok (.iconst 1, 1) := by decide +kernel
theorem dX4_reads_75 : decode cX4_reads 75 = .ok (.iadd, 1) := by decide +kernel
theorem dX4_reads_76 : decode cX4_reads 76 = .ok (.putfield 201, 3) := by decide +kernel
theorem dX4_reads_79 : decode cX4_reads 79 = .ok (.aload_n 0, 1) := by decide +kernel
theorem dX4_reads_80 : decode cX4_reads 80 = .ok (.iload 5, 2) := by decide +kernel
theorem dX4_reads_82 : decode cX4_reads 82 = .ok (.invokevirtual 242, 3) := by decide +kernel
theorem dX4_reads_85 : decode cX4_reads 85 = .ok (.ifCond .ne 8, 3) := by decide +kernel
theorem dX4_reads_88 : decode cX4_reads 88 = .ok (.aload_n 0, 1) := by decide +kernel
theorem dX4_reads_89 : decode cX4_reads 89 = .ok (.getfield 201, 3) := by decide +kernel
theorem dX4_reads_92 : decode cX4_reads 92 = .ok (.ireturn, 1) := by decide +kernel
theorem dX4_reads_93 : decode cX4_reads 93 = .ok (.iload_n 2, 1) := by decide +kernel
theorem dX4_reads_94 : decode cX4_reads 94 = .ok (.ifCond .eq 16, 3) := by decide +kernel
theorem dX4_reads_97 : decode cX4_reads 97 = .ok (.aload_n 0, 1) := by decide +kernel
theorem dX4_reads_98 : decode cX4_reads 98 = .ok (.iload 5, 2) := by decide +kernel
theorem dX4_reads_100 : decode cX4_reads 100 = .ok (.invokevirtual 245, 3) := by decide +kernel
theorem dX4_reads_103 : decode cX4_reads 103 = .ok (.ifCond .eq 7, 3) := by decide +kernel
theorem dX4_reads_106 : decode cX4_reads 106 = .ok (.iconst 1, 1) := by decide +kernel
theorem dX4_reads_107 : decode cX4_reads 107 = .ok (.goto 4, 3) := by decide +kernel
theorem dX4_reads_110 : decode cX4_reads 110 = .ok (.iconst 0, 1) := by decide +kernel
theorem dX4_reads_111 : decode cX4_reads 111 = .ok (.istore_n 2, 1) := by decide +kernel
theorem dX4_reads_112 : decode cX4_reads 112 = .ok (.aload_n 0, 1) := by decide +kernel
theorem dX4_reads_113 : decode cX4_reads 113 = .ok (.dup, 1) := by decide +kernel
theorem dX4_reads_114 : decode cX4_reads 114 = .ok (.getfield 232, 3) := by decide +kernel
theorem dX4_reads_117 : decode cX4_reads 117 = .ok (.iload_n 2, 1) := by decide +kernel
theorem dX4_reads_118 : decode cX4_reads 118 = .ok (.ifCond .eq 7, 3) := by decide +kernel
theorem dX4_reads_121 : decode cX4_reads 121 = .ok (.iconst 1, 1) := by decide +kernel
theorem dX4_reads_122 : decode cX4_reads 122 = .ok (.goto 4, 3) := by decide +kernel
theorem dX4_reads_125 : decode cX4_reads 125 = .ok (.iconst 0, 1) := by decide +kernel
theorem dX4_reads_126 : decode cX4_reads 126 = .ok (.iadd, 1) := by decide +kernel
theorem dX4_reads_127 : decode cX4_reads 127 = .ok (.putfield 232, 3) := by decide +kernel
theorem dX4_reads_130 : decode cX4_reads 130 = .ok (.iinc 3 1, 3) := by decide +kernel
theorem dX4_reads_133 : decode cX4_reads 133 = .ok (.aload_n 0, 1) := by decide +kernel
theorem dX4_reads_134 : decode cX4_reads 134 = .ok (.getfield 201, 3) := by decide +kernel
theorem dX4_reads_137 : decode cX4_reads 137 = .ok (.aload_n 0, 1) := by decide +kernel
theorem dX4_reads_138 : decode cX4_reads 138 = .ok (.getfield 198, 3) := by decide +kernel
theorem dX4_reads_141 : decode cX4_reads 141 = .ok (.if_icmp .ge 7, 3) := by decide +kernel
theorem dX4_reads_144 : decode cX4_reads 144 = .ok (.iconst 1, 1) := by decide +kernel
theorem dX4_reads_145 : decode cX4_reads 145 = .ok (.goto 4, 3) := by decide +kernel
theorem dX4_reads_148 : decode cX4_reads 148 = .ok (.iconst 0, 1) := by decide +kernel
theorem dX4_reads_149 : decode cX4_reads 149 = .ok (.istore 4, 2) := by decide +kernel
theorem dX4_reads_151 : decode cX4_reads 151 = .ok (.iload 4, 2) := by decide +kernel
theorem dX4_reads_153 : decode cX4_reads 153 = .ok (.ifCond .eq 17, 3) := by decide +kernel
theorem dX4_reads_156 : decode cX4_reads 156 = .ok (.aload_n 0, 1) := by decide +kernel
theorem dX4_reads_157 : decode cX4_reads 157 = .ok (.bipush 59, 2) := by decide +kernel
theorem dX4_reads_159 : decode cX4_reads 159 = .ok (.invokevirtual 213, 3) := by decide +kernel
theorem dX4_reads_162 : decode cX4_reads 162 = .ok (.ifCond .ne 8, 3) := by decide +kernel
theorem dX4_reads_165 : decode cX4_reads 165 = .ok (.aload_n 0, 1) := by decide +kernel
theorem dX4_reads_166 : decode cX4_reads 166 = .ok (.getfield 201, 3) := by decide +kernel
theorem dX4_reads_169 : decode cX4_reads 169 = .ok (.ireturn, 1) := by decide +kernel
theorem dX4_reads_170 : decode cX4_reads 170 = .ok (.goto (-148), 3) := by decide +kernel
theorem dX4_reads_173 : decode cX4_reads 173 = .ok (.aload_n 0, 1) := by decide +kernel
theorem dX4_reads_174 : decode cX4_reads 174 = .ok (.iconst 1, 1) := by decide +kernel
theorem dX4_reads_175 : decode cX4_reads 175 = .ok (.putfield 235, 3) := by decide +kernel
theorem dX4_reads_178 : decode cX4_reads 178 = .ok (.aload_n 0, 1) := by decide +kernel
theorem dX4_reads_179 : decode cX4_reads 179 = .ok (.getfield 13, 3) := by decide +kernel
theorem dX4_reads_182 : decode cX4_reads 182 = .ok (.bipush 81, 2) := by decide +kernel
theorem dX4_reads_184 : decode cX4_reads 184 = .ok (.iload_n 1, 1) := by decide +kernel
theorem dX4_reads_185 : decode cX4_reads 185 = .ok (.ifCond .ne 13, 3) := by decide +kernel
theorem dX4_reads_188 : decode cX4_reads 188 = .ok (.aload_n 0, 1) := by decide +kernel
theorem dX4_reads_189 : decode cX4_reads 189 = .ok (.getfield 13, 3) := by decide +kernel
theorem dX4_reads_192 : decode cX4_reads 192 = .ok (.bipush 81, 2) := by decide +kernel
theorem dX4_reads_194 : decode cX4_reads 194 = .ok (.iaload, 1) := by decide +kernel
theorem dX4_reads_195 : decode cX4_reads 195 = .ok (.goto 19, 3) := by decide +kernel
theorem dX4_reads_198 : decode cX4_reads 198 = .ok (.aload_n 0, 1) := by decide +kernel
theorem dX4_reads_199 : decode cX4_reads 199 = .ok (.getfield 232, 3) := by decide +kernel
theorem dX4_reads_202 : decode cX4_reads 202 = .ok (.iload_n 3, 1) := by decide +kernel
theorem dX4_reads_203 : decode cX4_reads 203 = .ok (.if_icmp .ge 10, 3) := by decide +kernel
theorem dX4_reads_206 : decode cX4_reads 206 = .ok (.aload_n 0, 1) := by decide +kernel
theorem dX4_reads_207 : decode cX4_reads 207 = .ok (.getfield 232, 3) := by decide +kernel
theorem dX4_reads_210 : decode cX4_reads 210 = .ok (.goto 4, 3) := by decide +kernel
theorem dX4_reads_213 : decode cX4_reads 213 = .ok (.iconst (-1), 1) := by decide +kernel
theorem dX4_reads_214 : decode cX4_reads 214 = .ok (.iastore, 1) := by decide +kernel
theorem dX4_reads_215 : decode cX4_reads 215 = .ok (.aload_n 0, 1) := by decide +kernel
theorem dX4_reads_216 : decode cX4_reads 216 = .ok (.getfield 198, 3) := by decide +kernel
theorem dX4_reads_219 : decode cX4_reads 219 = .ok (.ireturn, 1) := by decide +kernel
theorem dX4_firstError_0 : decode cX4_firstError 0 = .ok (.aload_n 0, 1) := by decide +kernel
theorem dX4_firstError_1 : decode cX4_firstError 1 = .ok (.iconst 0, 1) := by decide +kernel
theorem dX4_firstError_2 : decode cX4_firstError 2 = .ok (.putfield 35, 3) := by decide +kernel
theorem dX4_firstError_5 : decode cX4_firstError 5 = .ok (.aload_n 0, 1) := by decide +kernel
theorem dX4_firstError_6 : decode cX4_firstError 6 = .ok (.iconst 0, 1) := by decide +kernel
theorem dX4_firstError_7 : decode cX4_firstError 7 = .ok (.invokevirtual 248, 3) := by decide +kernel
theorem dX4_firstError_10 : decode cX4_firstError 10 = .ok (.ireturn, 1) := by decide +kernel
theorem dX4_work_0 : decode cX4_work 0 = .ok (.aload_n 0, 1) := by decide +kernel
theorem dX4_work_1 : decode cX4_work 1 = .ok (.iconst 0, 1) := by decide +kernel
theorem dX4_work_2 : decode cX4_work 2 = .ok (.invokevirtual 248, 3) := by decide +kernel
theorem dX4_work_5 : decode cX4_work 5 = .ok (.pop, 1) := by decide +kernel
theorem dX4_work_6 : decode cX4_work 6 = .ok (.aload_n 0, 1) := by decide +kernel
theorem dX4_work_7 : decode cX4_work 7 = .ok (.aload_n 0, 1) := by decide +kernel
theorem dX4_work_8 : decode cX4_work 8 = .ok (.getfield 235, 3) := by decide +kernel
theorem dX4_work_11 : decode cX4_work 11 = .ok (.ifCond .eq 7, 3) := by decide +kernel
theorem dX4_work_14 : decode cX4_work 14 = .ok (.iconst 0, 1) := by decide +kernel
theorem dX4_work_15 : decode cX4_work 15 = .ok (.goto 4, 3) := by decide +kernel
theorem dX4_work_18 : decode cX4_work 18 = .ok (.iconst 1, 1) := by decide +kernel
theorem dX4_work_19 : decode cX4_work 19 = .ok (.invokevirtual 158, 3) := by decide +kernel
theorem dX4_work_22 : decode cX4_work 22 = .ok (.ifCond .eq 5, 3) := by decide +kernel
theorem dX4_work_25 : decode cX4_work 25 = .ok (.iconst 0, 1) := by decide +kernel
theorem dX4_work_26 : decode cX4_work 26 = .ok (.ireturn, 1) := by decide +kernel
theorem dX4_work_27 : decode cX4_work 27 = .ok (.aload_n 0, 1) := by decide +kernel
theorem dX4_work_28 : decode cX4_work 28 = .ok (.invokevirtual 161, 3) := by decide +kernel
theorem dX4_work_31 : decode cX4_work 31 = .ok (.aload_n 0, 1) := by decide +kernel
theorem dX4_work_32 : decode cX4_work 32 = .ok (.iconst 1, 1) := by decide +kernel
theorem dX4_work_33 : decode cX4_work 33 = .ok (.invokevirtual 248, 3) := by decide +kernel
theorem dX4_work_36 : decode cX4_work 36 = .ok (.pop, 1) := by decide +kernel
theorem dX4_work_37 : decode cX4_work 37 = .ok (.aload_n 0, 1) := by decide +kernel
theorem dX4_work_38 : decode cX4_work 38 = .ok (.iconst 0, 1) := by decide +kernel
theorem dX4_work_39 : decode cX4_work 39 = .ok (.putfield 198, 3) := by decide +kernel
theorem dX4_work_42 : decode cX4_work 42 = .ok (.aload_n 0, 1) := by decide +kernel
theorem dX4_work_43 : decode cX4_work 43 = .ok (.getfield 232, 3) := by decide +kernel
theorem dX4_work_46 : decode cX4_work 46 = .ok (.ireturn, 1) := by decide +kernel
theorem dX4_hasStopped_0 : decode cX4_hasStopped 0 = .ok (.aload_n 0, 1) := by decide +kernel
theorem dX4_hasStopped_1 : decode cX4_hasStopped 1 = .ok (.iconst 0, 1) := by decide +kernel
theorem dX4_hasStopped_2 : decode cX4_hasStopped 2 = .ok (.putfield 35, 3) := by decide +kernel
theorem dX4_hasStopped_5 : decode cX4_hasStopped 5 = .ok (.aload_n 0, 1) := by decide +kernel
theorem dX4_hasStopped_6 : decode cX4_hasStopped 6 = .ok (.getfield 13, 3) := by decide +kernel
theorem dX4_hasStopped_9 : decode cX4_hasStopped 9 = .ok (.bipush 81, 2) := by decide +kernel
theorem dX4_hasStopped_11 : decode cX4_hasStopped 11 = .ok (.iaload, 1) := by decide +kernel
theorem dX4_hasStopped_12 : decode cX4_hasStopped 12 = .ok (.iconst (-1), 1) := by decide +kernel
theorem dX4_hasStopped_13 : decode cX4_hasStopped 13 = .ok (.if_icmp .eq 7, 3) := by decide +kernel
theorem dX4_hasStopped_16 : decode cX4_hasStopped 16 = .ok (.iconst 1, 1) := by decide +kernel
theorem dX4_hasStopped_17 : decode cX4_hasStopped 17 = .ok (.goto 4, 3) := by decide +kernel
theorem dX4_hasStopped_20 : decode cX4_hasStopped 20 = .ok (.iconst 0, 1) := by decide +kernel
theorem dX4_hasStopped_21 : decode cX4_hasStopped 21 = .ok (.ireturn, 1) := by decide +kernel
theorem dX4_stoppedPart_0 : decode cX4_stoppedPart 0 = .ok (.aload_n 0, 1) := by decide +kernel
theorem dX4_stoppedPart_1 : decode cX4_stoppedPart 1 = .ok (.aload_n 0, 1) := by decide +kernel
theorem dX4_stoppedPart_2 : decode cX4_stoppedPart 2 = .ok (.getfield 13, 3) := by decide +kernel
theorem dX4_stoppedPart_5 : decode cX4_stoppedPart 5 = .ok (.bipush 81, 2) := by decide +kernel
theorem dX4_stoppedPart_7 : decode cX4_stoppedPart 7 = .ok (.iaload, 1) := by decide +kernel
theorem dX4_stoppedPart_8 : decode cX4_stoppedPart 8 = .ok (.iconst (-1), 1) := by decide +kernel
theorem dX4_stoppedPart_9 : decode cX4_stoppedPart 9 = .ok (.if_icmp .ne 7, 3) := by decide +kernel
theorem dX4_stoppedPart_12 : decode cX4_stoppedPart 12 = .ok (.iconst 1, 1) := by decide +kernel
theorem dX4_stoppedPart_13 : decode cX4_stoppedPart 13 = .ok (.goto 4, 3) := by decide +kernel
theorem dX4_stoppedPart_16 : decode cX4_stoppedPart 16 = .ok (.iconst 0, 1) := by decide +kernel
theorem dX4_stoppedPart_17 : decode cX4_stoppedPart 17 = .ok (.invokevirtual 158, 3) := by decide +kernel
theorem dX4_stoppedPart_20 : decode cX4_stoppedPart 20 = .ok (.ifCond .eq 7, 3) := by decide +kernel
theorem dX4_stoppedPart_23 : decode cX4_stoppedPart 23 = .ok (.iconst 0, 1) := by decide +kernel
theorem dX4_stoppedPart_24 : decode cX4_stoppedPart 24 = .ok (.goto 10, 3) := by decide +kernel
theorem dX4_stoppedPart_27 : decode cX4_stoppedPart 27 = .ok (.aload_n 0, 1) := by decide +kernel
theorem dX4_stoppedPart_28 : decode cX4_stoppedPart 28 = .ok (.getfield 13, 3) := by decide +kernel
theorem dX4_stoppedPart_31 : decode cX4_stoppedPart 31 = .ok (.bipush 81, 2) := by decide +kernel
theorem dX4_stoppedPart_33 : decode cX4_stoppedPart 33 = .ok (.iaload, 1) := by decide +kernel
theorem dX4_stoppedPart_34 : decode cX4_stoppedPart 34 = .ok (.ireturn, 1) := by decide +kernel
theorem dX4_undo_0 : decode cX4_undo 0 = .ok (.aload_n 0, 1) := by decide +kernel
theorem dX4_undo_1 : decode cX4_undo 1 = .ok (.aload_n 0, 1) := by decide +kernel
theorem dX4_undo_2 : decode cX4_undo 2 = .ok (.getfield 123, 3) := by decide +kernel
theorem dX4_undo_5 : decode cX4_undo 5 = .ok (.ifCond .le 7, 3) := by decide +kernel
theorem dX4_undo_8 : decode cX4_undo 8 = .ok (.iconst 0, 1) := by decide +kernel
theorem dX4_undo_9 : decode cX4_undo 9 = .ok (.goto 4, 3) := by decide +kernel
theorem dX4_undo_12 : decode cX4_undo 12 = .ok (.iconst 1, 1) := by decide +kernel
theorem dX4_undo_13 : decode cX4_undo 13 = .ok (.invokevirtual 158, 3) := by decide +kernel
theorem dX4_undo_16 : decode cX4_undo 16 = .ok (.ifCond .eq 5, 3) := by decide +kernel
theorem dX4_undo_19 : decode cX4_undo 19 = .ok (.iconst 0, 1) := by decide +kernel
theorem dX4_undo_20 : decode cX4_undo 20 = .ok (.ireturn, 1) := by decide +kernel
theorem dX4_undo_21 : decode cX4_undo 21 = .ok (.aload_n 0, 1) := by decide +kernel
theorem dX4_undo_22 : decode cX4_undo 22 = .ok (.dup, 1) := by decide +kernel
theorem dX4_undo_23 : decode cX4_undo 23 = .ok (.getfield 123, 3) := by decide +kernel
theorem dX4_undo_26 : decode cX4_undo 26 = .ok (.iconst 1, 1) := by decide +kernel
theorem dX4_undo_27 : decode cX4_undo 27 = .ok (.isub, 1) := by decide +kernel
theorem dX4_undo_28 : decode cX4_undo 28 = .ok (.putfield 123, 3) := by decide +kernel
theorem dX4_undo_31 : decode cX4_undo 31 = .ok (.aload_n 0, 1) := by decide +kernel
theorem dX4_undo_32 : decode cX4_undo 32 = .ok (.getfield 16, 3) := by decide +kernel
theorem dX4_undo_35 : decode cX4_undo 35 = .ok (.bipush 82, 2) := by decide +kernel
theorem dX4_undo_37 : decode cX4_undo 37 = .ok (.aload_n 0, 1) := by decide +kernel
theorem dX4_undo_38 : decode cX4_undo 38 = .ok (.getfield 123, 3) := by decide +kernel
theorem dX4_undo_41 : decode cX4_undo 41 = .ok (.imul, 1) := by decide +kernel
theorem dX4_undo_42 : decode cX4_undo 42 = .ok (.aload_n 0, 1) := by decide +kernel
theorem dX4_undo_43 : decode cX4_undo 43 = .ok (.getfield 13, 3) := by decide +kernel
theorem dX4_undo_46 : decode cX4_undo 46 = .ok (.iconst 0, 1) := by decide +kernel
theorem dX4_undo_47 : decode cX4_undo 47 = .ok (.invokestatic 126, 3) := by decide +kernel
theorem dX4_undo_50 : decode cX4_undo 50 = .ok (.aload_n 0, 1) := by decide +kernel
theorem dX4_undo_51 : decode cX4_undo 51 = .ok (.getfield 123, 3) := by decide +kernel
theorem dX4_undo_54 : decode cX4_undo 54 = .ok (.ireturn, 1) := by decide +kernel
theorem dX4_keep_0 : decode cX4_keep 0 = .ok (.aload_n 0, 1) := by decide +kernel
theorem dX4_keep_1 : decode cX4_keep 1 = .ok (.iconst 0, 1) := by decide +kernel
theorem dX4_keep_2 : decode cX4_keep 2 = .ok (.putfield 35, 3) := by decide +kernel
theorem dX4_keep_5 : decode cX4_keep 5 = .ok (.aload_n 0, 1) := by decide +kernel
theorem dX4_keep_6 : decode cX4_keep 6 = .ok (.getfield 13, 3) := by decide +kernel
theorem dX4_keep_9 : decode cX4_keep 9 = .ok (.iconst 0, 1) := by decide +kernel
theorem dX4_keep_10 : decode cX4_keep 10 = .ok (.aload_n 0, 1) := by decide +kernel
theorem dX4_keep_11 : decode cX4_keep 11 = .ok (.getfield 19, 3) := by decide +kernel
theorem dX4_keep_14 : decode cX4_keep 14 = .ok (.iconst 0, 1) := by decide +kernel
theorem dX4_keep_15 : decode cX4_keep 15 = .ok (.invokestatic 126, 3) := by decide +kernel
theorem dX4_keep_18 : decode cX4_keep 18 = .ok (.aload_n 0, 1) := by decide +kernel
theorem dX4_keep_19 : decode cX4_keep 19 = .ok (.iconst 1, 1) := by decide +kernel
theorem dX4_keep_20 : decode cX4_keep 20 = .ok (.putfield 252, 3) := by decide +kernel
theorem dX4_keep_23 : decode cX4_keep 23 = .ok (.aload_n 0, 1) := by decide +kernel
theorem dX4_keep_24 : decode cX4_keep 24 = .ok (.getfield 13, 3) := by decide +kernel
theorem dX4_keep_27 : decode cX4_keep 27 = .ok (.iconst 0, 1) := by decide +kernel
theorem dX4_keep_28 : decode cX4_keep 28 = .ok (.iaload, 1) := by decide +kernel
theorem dX4_keep_29 : decode cX4_keep 29 = .ok (.ireturn, 1) := by decide +kernel
theorem dX4_restore_0 : decode cX4_restore 0 = .ok (.aload_n 0, 1) := by decide +kernel
theorem dX4_restore_1 : decode cX4_restore 1 = .ok (.aload_n 0, 1) := by decide +kernel
theorem dX4_restore_2 : decode cX4_restore 2 = .ok (.getfield 252, 3) := by decide +kernel
theorem dX4_restore_5 : decode cX4_restore 5 = .ok (.ifCond .eq 7, 3) := by decide +kernel
theorem dX4_restore_8 : decode cX4_restore 8 = .ok (.iconst 0, 1) := by decide +kernel
theorem dX4_restore_9 : decode cX4_restore 9 = .ok (.goto 4, 3) := by decide +kernel
theorem dX4_restore_12 : decode cX4_restore 12 = .ok (.iconst 1, 1) := by decide +kernel
theorem dX4_restore_13 : decode cX4_restore 13 = .ok (.invokevirtual 158, 3) := by decide +kernel
theorem dX4_restore_16 : decode cX4_restore 16 = .ok (.ifCond .eq 5, 3) := by decide +kernel
theorem dX4_restore_19 : decode cX4_restore 19 = .ok (.iconst 0, 1) := by decide +kernel
theorem dX4_restore_20 : decode cX4_restore 20 = .ok (.ireturn, 1) := by decide +kernel
theorem dX4_restore_21 : decode cX4_restore 21 = .ok (.aload_n 0, 1) := by decide +kernel
theorem dX4_restore_22 : decode cX4_restore 22 = .ok (.invokevirtual 161, 3) := by decide +kernel
theorem dX4_restore_25 : decode cX4_restore 25 = .ok (.aload_n 0, 1) := by decide +kernel
theorem dX4_restore_26 : decode cX4_restore 26 = .ok (.getfield 19, 3) := by decide +kernel
end
section
theorem dX4_restore_29 : decode cX4_restore 29 = .ok (.iconst 0, 1) := by decide +kernel
theorem dX4_restore_30 : decode cX4_restore 30 = .ok (.aload_n 0, 1) := by decide +kernel
theorem dX4_restore_31 : decode cX4_restore 31 = .ok (.getfield 13, 3) := by decide +kernel
theorem dX4_restore_34 : decode cX4_restore 34 = .ok (.iconst 0, 1) := by decide +kernel
theorem dX4_restore_35 : decode cX4_restore 35 = .ok (.invokestatic 126, 3) := by decide +kernel
theorem dX4_restore_38 : decode cX4_restore 38 = .ok (.aload_n 0, 1) := by decide +kernel
theorem dX4_restore_39 : decode cX4_restore 39 = .ok (.getfield 13, 3) := by decide +kernel
theorem dX4_restore_42 : decode cX4_restore 42 = .ok (.iconst 0, 1) := by decide +kernel
theorem dX4_restore_43 : decode cX4_restore 43 = .ok (.iaload, 1) := by decide +kernel
theorem dX4_restore_44 : decode cX4_restore 44 = .ok (.ireturn, 1) := by decide +kernel
theorem dX4_savedStates_0 : decode cX4_savedStates 0 = .ok (.aload_n 0, 1) := by decide +kernel
theorem dX4_savedStates_1 : decode cX4_savedStates 1 = .ok (.iconst 0, 1) := by decide +kernel
theorem dX4_savedStates_2 : decode cX4_savedStates 2 = .ok (.putfield 35, 3) := by decide +kernel
theorem dX4_savedStates_5 : decode cX4_savedStates 5 = .ok (.aload_n 0, 1) := by decide +kernel
theorem dX4_savedStates_6 : decode cX4_savedStates 6 = .ok (.getfield 123, 3) := by decide +kernel
theorem dX4_savedStates_9 : decode cX4_savedStates 9 = .ok (.ireturn, 1) := by decide +kernel
theorem dX4_told_0 : decode cX4_told 0 = .ok (.aload_n 0, 1) := by decide +kernel
theorem dX4_told_1 : decode cX4_told 1 = .ok (.iconst 0, 1) := by decide +kernel
theorem dX4_told_2 : decode cX4_told 2 = .ok (.putfield 35, 3) := by decide +kernel
theorem dX4_told_5 : decode cX4_told 5 = .ok (.iload_n 1, 1) := by decide +kernel
theorem dX4_told_6 : decode cX4_told 6 = .ok (.ireturn, 1) := by decide +kernel
theorem dX4_cars_0 : decode cX4_cars 0 = .ok (.aload_n 0, 1) := by decide +kernel
theorem dX4_cars_1 : decode cX4_cars 1 = .ok (.aload_n 0, 1) := by decide +kernel
theorem dX4_cars_2 : decode cX4_cars 2 = .ok (.getfield 13, 3) := by decide +kernel
theorem dX4_cars_5 : decode cX4_cars 5 = .ok (.iconst 0, 1) := by decide +kernel
theorem dX4_cars_6 : decode cX4_cars 6 = .ok (.iaload, 1) := by decide +kernel
theorem dX4_cars_7 : decode cX4_cars 7 = .ok (.invokevirtual 255, 3) := by decide +kernel
theorem dX4_cars_10 : decode cX4_cars 10 = .ok (.ireturn, 1) := by decide +kernel
theorem dX4_walls_0 : decode cX4_walls 0 = .ok (.aload_n 0, 1) := by decide +kernel
theorem dX4_walls_1 : decode cX4_walls 1 = .ok (.aload_n 0, 1) := by decide +kernel
theorem dX4_walls_2 : decode cX4_walls 2 = .ok (.getfield 13, 3) := by decide +kernel
theorem dX4_walls_5 : decode cX4_walls 5 = .ok (.bipush 19, 2) := by decide +kernel
theorem dX4_walls_7 : decode cX4_walls 7 = .ok (.iaload, 1) := by decide +kernel
theorem dX4_walls_8 : decode cX4_walls 8 = .ok (.invokestatic 137, 3) := by decide +kernel
theorem dX4_walls_11 : decode cX4_walls 11 = .ok (.invokevirtual 255, 3) := by decide +kernel
theorem dX4_walls_14 : decode cX4_walls 14 = .ok (.ireturn, 1) := by decide +kernel
theorem dX4_noCar_0 : decode cX4_noCar 0 = .ok (.aload_n 0, 1) := by decide +kernel
theorem dX4_noCar_1 : decode cX4_noCar 1 = .ok (.aload_n 0, 1) := by decide +kernel
theorem dX4_noCar_2 : decode cX4_noCar 2 = .ok (.iload_n 1, 1) := by decide +kernel
theorem dX4_noCar_3 : decode cX4_noCar 3 = .ok (.invokevirtual 178, 3) := by decide +kernel
theorem dX4_noCar_6 : decode cX4_noCar 6 = .ok (.ifCond .eq 7, 3) := by decide +kernel
theorem dX4_noCar_9 : decode cX4_noCar 9 = .ok (.iconst 0, 1) := by decide +kernel
theorem dX4_noCar_10 : decode cX4_noCar 10 = .ok (.goto 4, 3) := by decide +kernel
theorem dX4_noCar_13 : decode cX4_noCar 13 = .ok (.iconst 1, 1) := by decide +kernel
theorem dX4_noCar_14 : decode cX4_noCar 14 = .ok (.invokevirtual 158, 3) := by decide +kernel
theorem dX4_noCar_17 : decode cX4_noCar 17 = .ok (.ireturn, 1) := by decide +kernel
theorem dX4_laneOf_0 : decode cX4_laneOf 0 = .ok (.aload_n 0, 1) := by decide +kernel
theorem dX4_laneOf_1 : decode cX4_laneOf 1 = .ok (.iload_n 1, 1) := by decide +kernel
theorem dX4_laneOf_2 : decode cX4_laneOf 2 = .ok (.invokevirtual 258, 3) := by decide +kernel
theorem dX4_laneOf_5 : decode cX4_laneOf 5 = .ok (.ifCond .eq 7, 3) := by decide +kernel
theorem dX4_laneOf_8 : decode cX4_laneOf 8 = .ok (.iconst 0, 1) := by decide +kernel
theorem dX4_laneOf_9 : decode cX4_laneOf 9 = .ok (.goto 11, 3) := by decide +kernel
theorem dX4_laneOf_12 : decode cX4_laneOf 12 = .ok (.aload_n 0, 1) := by decide +kernel
theorem dX4_laneOf_13 : decode cX4_laneOf 13 = .ok (.getfield 13, 3) := by decide +kernel
theorem dX4_laneOf_16 : decode cX4_laneOf 16 = .ok (.iconst 1, 1) := by decide +kernel
theorem dX4_laneOf_17 : decode cX4_laneOf 17 = .ok (.iload_n 1, 1) := by decide +kernel
theorem dX4_laneOf_18 : decode cX4_laneOf 18 = .ok (.iadd, 1) := by decide +kernel
theorem dX4_laneOf_19 : decode cX4_laneOf 19 = .ok (.iaload, 1) := by decide +kernel
theorem dX4_laneOf_20 : decode cX4_laneOf 20 = .ok (.ireturn, 1) := by decide +kernel
theorem dX4_placeOf_0 : decode cX4_placeOf 0 = .ok (.aload_n 0, 1) := by decide +kernel
theorem dX4_placeOf_1 : decode cX4_placeOf 1 = .ok (.iload_n 1, 1) := by decide +kernel
theorem dX4_placeOf_2 : decode cX4_placeOf 2 = .ok (.invokevirtual 258, 3) := by decide +kernel
theorem dX4_placeOf_5 : decode cX4_placeOf 5 = .ok (.ifCond .eq 7, 3) := by decide +kernel
theorem dX4_placeOf_8 : decode cX4_placeOf 8 = .ok (.iconst 0, 1) := by decide +kernel
theorem dX4_placeOf_9 : decode cX4_placeOf 9 = .ok (.goto 12, 3) := by decide +kernel
theorem dX4_placeOf_12 : decode cX4_placeOf 12 = .ok (.aload_n 0, 1) := by decide +kernel
theorem dX4_placeOf_13 : decode cX4_placeOf 13 = .ok (.getfield 13, 3) := by decide +kernel
theorem dX4_placeOf_16 : decode cX4_placeOf 16 = .ok (.bipush 7, 2) := by decide +kernel
theorem dX4_placeOf_18 : decode cX4_placeOf 18 = .ok (.iload_n 1, 1) := by decide +kernel
theorem dX4_placeOf_19 : decode cX4_placeOf 19 = .ok (.iadd, 1) := by decide +kernel
theorem dX4_placeOf_20 : decode cX4_placeOf 20 = .ok (.iaload, 1) := by decide +kernel
theorem dX4_placeOf_21 : decode cX4_placeOf 21 = .ok (.ireturn, 1) := by decide +kernel
theorem dX4_lengthOf_0 : decode cX4_lengthOf 0 = .ok (.aload_n 0, 1) := by decide +kernel
theorem dX4_lengthOf_1 : decode cX4_lengthOf 1 = .ok (.iload_n 1, 1) := by decide +kernel
theorem dX4_lengthOf_2 : decode cX4_lengthOf 2 = .ok (.invokevirtual 258, 3) := by decide +kernel
theorem dX4_lengthOf_5 : decode cX4_lengthOf 5 = .ok (.ifCond .eq 7, 3) := by decide +kernel
theorem dX4_lengthOf_8 : decode cX4_lengthOf 8 = .ok (.iconst 0, 1) := by decide +kernel
theorem dX4_lengthOf_9 : decode cX4_lengthOf 9 = .ok (.goto 12, 3) := by decide +kernel
theorem dX4_lengthOf_12 : decode cX4_lengthOf 12 = .ok (.aload_n 0, 1) := by decide +kernel
theorem dX4_lengthOf_13 : decode cX4_lengthOf 13 = .ok (.getfield 13, 3) := by decide +kernel
theorem dX4_lengthOf_16 : decode cX4_lengthOf 16 = .ok (.bipush 13, 2) := by decide +kernel
theorem dX4_lengthOf_18 : decode cX4_lengthOf 18 = .ok (.iload_n 1, 1) := by decide +kernel
theorem dX4_lengthOf_19 : decode cX4_lengthOf 19 = .ok (.iadd, 1) := by decide +kernel
theorem dX4_lengthOf_20 : decode cX4_lengthOf 20 = .ok (.iaload, 1) := by decide +kernel
theorem dX4_lengthOf_21 : decode cX4_lengthOf 21 = .ok (.ireturn, 1) := by decide +kernel
theorem dX4_carAt_0 : decode cX4_carAt 0 = .ok (.iconst 0, 1) := by decide +kernel
theorem dX4_carAt_1 : decode cX4_carAt 1 = .ok (.istore_n 2, 1) := by decide +kernel
theorem dX4_carAt_2 : decode cX4_carAt 2 = .ok (.iload_n 2, 1) := by decide +kernel
theorem dX4_carAt_3 : decode cX4_carAt 3 = .ok (.aload_n 0, 1) := by decide +kernel
theorem dX4_carAt_4 : decode cX4_carAt 4 = .ok (.getfield 13, 3) := by decide +kernel
theorem dX4_carAt_7 : decode cX4_carAt 7 = .ok (.iconst 0, 1) := by decide +kernel
theorem dX4_carAt_8 : decode cX4_carAt 8 = .ok (.iaload, 1) := by decide +kernel
theorem dX4_carAt_9 : decode cX4_carAt 9 = .ok (.if_icmp .ge 24, 3) := by decide +kernel
theorem dX4_carAt_12 : decode cX4_carAt 12 = .ok (.aload_n 0, 1) := by decide +kernel
theorem dX4_carAt_13 : decode cX4_carAt 13 = .ok (.iload_n 2, 1) := by decide +kernel
theorem dX4_carAt_14 : decode cX4_carAt 14 = .ok (.invokevirtual 43, 3) := by decide +kernel
theorem dX4_carAt_17 : decode cX4_carAt 17 = .ok (.iload_n 1, 1) := by decide +kernel
theorem dX4_carAt_18 : decode cX4_carAt 18 = .ok (.ishr, 1) := by decide +kernel
theorem dX4_carAt_19 : decode cX4_carAt 19 = .ok (.iconst 1, 1) := by decide +kernel
theorem dX4_carAt_20 : decode cX4_carAt 20 = .ok (.iand, 1) := by decide +kernel
theorem dX4_carAt_21 : decode cX4_carAt 21 = .ok (.iconst 1, 1) := by decide +kernel
theorem dX4_carAt_22 : decode cX4_carAt 22 = .ok (.if_icmp .ne 5, 3) := by decide +kernel
theorem dX4_carAt_25 : decode cX4_carAt 25 = .ok (.iload_n 2, 1) := by decide +kernel
theorem dX4_carAt_26 : decode cX4_carAt 26 = .ok (.ireturn, 1) := by decide +kernel
theorem dX4_carAt_27 : decode cX4_carAt 27 = .ok (.iinc 2 1, 3) := by decide +kernel
theorem dX4_carAt_30 : decode cX4_carAt 30 = .ok (.goto (-28), 3) := by decide +kernel
theorem dX4_carAt_33 : decode cX4_carAt 33 = .ok (.iconst (-1), 1) := by decide +kernel
theorem dX4_carAt_34 : decode cX4_carAt 34 = .ok (.ireturn, 1) := by decide +kernel
theorem dX4_carOn_0 : decode cX4_carOn 0 = .ok (.aload_n 0, 1) := by decide +kernel
theorem dX4_carOn_1 : decode cX4_carOn 1 = .ok (.iload_n 1, 1) := by decide +kernel
theorem dX4_carOn_2 : decode cX4_carOn 2 = .ok (.invokestatic 167, 3) := by decide +kernel
theorem dX4_carOn_5 : decode cX4_carOn 5 = .ok (.ifCond .eq 7, 3) := by decide +kernel
theorem dX4_carOn_8 : decode cX4_carOn 8 = .ok (.iconst 0, 1) := by decide +kernel
theorem dX4_carOn_9 : decode cX4_carOn 9 = .ok (.goto 4, 3) := by decide +kernel
theorem dX4_carOn_12 : decode cX4_carOn 12 = .ok (.iconst 1, 1) := by decide +kernel
theorem dX4_carOn_13 : decode cX4_carOn 13 = .ok (.invokevirtual 158, 3) := by decide +kernel
theorem dX4_carOn_16 : decode cX4_carOn 16 = .ok (.ifCond .eq 7, 3) := by decide +kernel
theorem dX4_carOn_19 : decode cX4_carOn 19 = .ok (.iconst 0, 1) := by decide +kernel
theorem dX4_carOn_20 : decode cX4_carOn 20 = .ok (.goto 8, 3) := by decide +kernel
theorem dX4_carOn_23 : decode cX4_carOn 23 = .ok (.aload_n 0, 1) := by decide +kernel
theorem dX4_carOn_24 : decode cX4_carOn 24 = .ok (.iload_n 1, 1) := by decide +kernel
theorem dX4_carOn_25 : decode cX4_carOn 25 = .ok (.invokevirtual 261, 3) := by decide +kernel
theorem dX4_carOn_28 : decode cX4_carOn 28 = .ok (.ireturn, 1) := by decide +kernel
theorem dX4_isWall_0 : decode cX4_isWall 0 = .ok (.aload_n 0, 1) := by decide +kernel
theorem dX4_isWall_1 : decode cX4_isWall 1 = .ok (.iload_n 1, 1) := by decide +kernel
theorem dX4_isWall_2 : decode cX4_isWall 2 = .ok (.invokestatic 167, 3) := by decide +kernel
theorem dX4_isWall_5 : decode cX4_isWall 5 = .ok (.ifCond .eq 7, 3) := by decide +kernel
theorem dX4_isWall_8 : decode cX4_isWall 8 = .ok (.iconst 0, 1) := by decide +kernel
theorem dX4_isWall_9 : decode cX4_isWall 9 = .ok (.goto 4, 3) := by decide +kernel
theorem dX4_isWall_12 : decode cX4_isWall 12 = .ok (.iconst 1, 1) := by decide +kernel
theorem dX4_isWall_13 : decode cX4_isWall 13 = .ok (.invokevirtual 158, 3) := by decide +kernel
theorem dX4_isWall_16 : decode cX4_isWall 16 = .ok (.ifCond .ne 15, 3) := by decide +kernel
theorem dX4_isWall_19 : decode cX4_isWall 19 = .ok (.aload_n 0, 1) := by decide +kernel
theorem dX4_isWall_20 : decode cX4_isWall 20 = .ok (.iload_n 1, 1) := by decide +kernel
theorem dX4_isWall_21 : decode cX4_isWall 21 = .ok (.invokevirtual 134, 3) := by decide +kernel
theorem dX4_isWall_24 : decode cX4_isWall 24 = .ok (.ifCond .eq 7, 3) := by decide +kernel
theorem dX4_isWall_27 : decode cX4_isWall 27 = .ok (.iconst 1, 1) := by decide +kernel
theorem dX4_isWall_28 : decode cX4_isWall 28 = .ok (.goto 4, 3) := by decide +kernel
theorem dX4_isWall_31 : decode cX4_isWall 31 = .ok (.iconst 0, 1) := by decide +kernel
theorem dX4_isWall_32 : decode cX4_isWall 32 = .ok (.ireturn, 1) := by decide +kernel
theorem dX4_freeCells_0 : decode cX4_freeCells 0 = .ok (.aload_n 0, 1) := by decide +kernel
theorem dX4_freeCells_1 : decode cX4_freeCells 1 = .ok (.bipush 25, 2) := by decide +kernel
theorem dX4_freeCells_3 : decode cX4_freeCells 3 = .ok (.aload_n 0, 1) := by decide +kernel
theorem dX4_freeCells_4 : decode cX4_freeCells 4 = .ok (.invokevirtual 53, 3) := by decide +kernel
theorem dX4_freeCells_7 : decode cX4_freeCells 7 = .ok (.invokestatic 137, 3) := by decide +kernel
theorem dX4_freeCells_10 : decode cX4_freeCells 10 = .ok (.isub, 1) := by decide +kernel
theorem dX4_freeCells_11 : decode cX4_freeCells 11 = .ok (.invokevirtual 255, 3) := by decide +kernel
theorem dX4_freeCells_14 : decode cX4_freeCells 14 = .ok (.ireturn, 1) := by decide +kernel
theorem dX4_isOut_0 : decode cX4_isOut 0 = .ok (.aload_n 0, 1) := by decide +kernel
theorem dX4_isOut_1 : decode cX4_isOut 1 = .ok (.iconst 0, 1) := by decide +kernel
theorem dX4_isOut_2 : decode cX4_isOut 2 = .ok (.putfield 35, 3) := by decide +kernel
theorem dX4_isOut_5 : decode cX4_isOut 5 = .ok (.aload_n 0, 1) := by decide +kernel
theorem dX4_isOut_6 : decode cX4_isOut 6 = .ok (.invokevirtual 264, 3) := by decide +kernel
theorem dX4_isOut_9 : decode cX4_isOut 9 = .ok (.ireturn, 1) := by decide +kernel
theorem dX4_room_0 : decode cX4_room 0 = .ok (.aload_n 0, 1) := by decide +kernel
theorem dX4_room_1 : decode cX4_room 1 = .ok (.iload_n 1, 1) := by decide +kernel
theorem dX4_room_2 : decode cX4_room 2 = .ok (.invokevirtual 258, 3) := by decide +kernel
theorem dX4_room_5 : decode cX4_room 5 = .ok (.ifCond .eq 7, 3) := by decide +kernel
theorem dX4_room_8 : decode cX4_room 8 = .ok (.iconst 0, 1) := by decide +kernel
theorem dX4_room_9 : decode cX4_room 9 = .ok (.goto 17, 3) := by decide +kernel
theorem dX4_room_12 : decode cX4_room 12 = .ok (.aload_n 0, 1) := by decide +kernel
theorem dX4_room_13 : decode cX4_room 13 = .ok (.iload_n 1, 1) := by decide +kernel
theorem dX4_room_14 : decode cX4_room 14 = .ok (.iload_n 2, 1) := by decide +kernel
theorem dX4_room_15 : decode cX4_room 15 = .ok (.ifCond .eq 7, 3) := by decide +kernel
theorem dX4_room_18 : decode cX4_room 18 = .ok (.iconst 1, 1) := by decide +kernel
theorem dX4_room_19 : decode cX4_room 19 = .ok (.goto 4, 3) := by decide +kernel
theorem dX4_room_22 : decode cX4_room 22 = .ok (.iconst (-1), 1) := by decide +kernel
theorem dX4_room_23 : decode cX4_room 23 = .ok (.invokevirtual 57, 3) := by decide +kernel
theorem dX4_room_26 : decode cX4_room 26 = .ok (.ireturn, 1) := by decide +kernel
theorem dX4_slides_0 : decode cX4_slides 0 = .ok (.iconst 0, 1) := by decide +kernel
theorem dX4_slides_1 : decode cX4_slides 1 = .ok (.istore_n 1, 1) := by decide +kernel
theorem dX4_slides_2 : decode cX4_slides 2 = .ok (.iconst 0, 1) := by decide +kernel
theorem dX4_slides_3 : decode cX4_slides 3 = .ok (.istore_n 2, 1) := by decide +kernel
theorem dX4_slides_4 : decode cX4_slides 4 = .ok (.iload_n 2, 1) := by decide +kernel
theorem dX4_slides_5 : decode cX4_slides 5 = .ok (.aload_n 0, 1) := by decide +kernel
theorem dX4_slides_6 : decode cX4_slides 6 = .ok (.getfield 13, 3) := by decide +kernel
theorem dX4_slides_9 : decode cX4_slides 9 = .ok (.iconst 0, 1) := by decide +kernel
theorem dX4_slides_10 : decode cX4_slides 10 = .ok (.iaload, 1) := by decide +kernel
theorem dX4_slides_11 : decode cX4_slides 11 = .ok (.if_icmp .ge 25, 3) := by decide +kernel
theorem dX4_slides_14 : decode cX4_slides 14 = .ok (.iload_n 1, 1) := by decide +kernel
theorem dX4_slides_15 : decode cX4_slides 15 = .ok (.aload_n 0, 1) := by decide +kernel
theorem dX4_slides_16 : decode cX4_slides 16 = .ok (.iload_n 2, 1) := by decide +kernel
theorem dX4_slides_17 : decode cX4_slides 17 = .ok (.iconst 1, 1) := by decide +kernel
theorem dX4_slides_18 : decode cX4_slides 18 = .ok (.invokevirtual 57, 3) := by decide +kernel
theorem dX4_slides_21 : decode cX4_slides 21 = .ok (.aload_n 0, 1) := by decide +kernel
theorem dX4_slides_22 : decode cX4_slides 22 = .ok (.iload_n 2, 1) := by decide +kernel
theorem dX4_slides_23 : decode cX4_slides 23 = .ok (.iconst (-1), 1) := by decide +kernel
theorem dX4_slides_24 : decode cX4_slides 24 = .ok (.invokevirtual 57, 3) := by decide +kernel
theorem dX4_slides_27 : decode cX4_slides 27 = .ok (.iadd, 1) := by decide +kernel
theorem dX4_slides_28 : decode cX4_slides 28 = .ok (.iadd, 1) := by decide +kernel
theorem dX4_slides_29 : decode cX4_slides 29 = .ok (.istore_n 1, 1) := by decide +kernel
theorem dX4_slides_30 : decode cX4_slides 30 = .ok (.iinc 2 1, 3) := by decide +kernel
theorem dX4_slides_33 : decode cX4_slides 33 = .ok (.goto (-29), 3) := by decide +kernel
theorem dX4_slides_36 : decode cX4_slides 36 = .ok (.iload_n 1, 1) := by decide +kernel
theorem dX4_slides_37 : decode cX4_slides 37 = .ok (.ireturn, 1) := by decide +kernel
theorem dX4_possibleSlides_0 : decode cX4_possibleSlides 0 = .ok (.aload_n 0, 1) := by decide +kernel
theorem dX4_possibleSlides_1 : decode cX4_possibleSlides 1 = .ok (.aload_n 0, 1) := by decide +kernel
theorem dX4_possibleSlides_2 : decode cX4_possibleSlides 2 = .ok (.invokevirtual 267, 3) := by decide +kernel
theorem dX4_possibleSlides_5 : decode cX4_possibleSlides 5 = .ok (.invokevirtual 255, 3) := by decide +kernel
theorem dX4_possibleSlides_8 : decode cX4_possibleSlides 8 = .ok (.ireturn, 1) := by decide +kernel
theorem dX4_logged_0 : decode cX4_logged 0 = .ok (.aload_n 0, 1) := by decide +kernel
theorem dX4_logged_1 : decode cX4_logged 1 = .ok (.aload_n 0, 1) := by decide +kernel
theorem dX4_logged_2 : decode cX4_logged 2 = .ok (.getfield 13, 3) := by decide +kernel
theorem dX4_logged_5 : decode cX4_logged 5 = .ok (.bipush 20, 2) := by decide +kernel
theorem dX4_logged_7 : decode cX4_logged 7 = .ok (.iaload, 1) := by decide +kernel
theorem dX4_logged_8 : decode cX4_logged 8 = .ok (.invokevirtual 255, 3) := by decide +kernel
theorem dX4_logged_11 : decode cX4_logged 11 = .ok (.ireturn, 1) := by decide +kernel
theorem dX4_noSlide_0 : decode cX4_noSlide 0 = .ok (.aload_n 0, 1) := by decide +kernel
theorem dX4_noSlide_1 : decode cX4_noSlide 1 = .ok (.iload_n 1, 1) := by decide +kernel
theorem dX4_noSlide_2 : decode cX4_noSlide 2 = .ok (.i2l, 1) := by decide +kernel
theorem dX4_noSlide_3 : decode cX4_noSlide 3 = .ok (.lconst 0, 1) := by decide +kernel
theorem dX4_noSlide_4 : decode cX4_noSlide 4 = .ok (.aload_n 0, 1) := by decide +kernel
theorem dX4_noSlide_5 : decode cX4_noSlide 5 = .ok (.getfield 13, 3) := by decide +kernel
theorem dX4_noSlide_8 : decode cX4_noSlide 8 = .ok (.bipush 20, 2) := by decide +kernel
theorem dX4_noSlide_10 : decode cX4_noSlide 10 = .ok (.iaload, 1) := by decide +kernel
theorem dX4_noSlide_11 : decode cX4_noSlide 11 = .ok (.iconst 1, 1) := by decide +kernel
theorem dX4_noSlide_12 : decode cX4_noSlide 12 = .ok (.isub, 1) := by decide +kernel
theorem dX4_noSlide_13 : decode cX4_noSlide 13 = .ok (.i2l, 1) := by decide +kernel
theorem dX4_noSlide_14 : decode cX4_noSlide 14 = .ok (.invokestatic 47, 3) := by decide +kernel
theorem dX4_noSlide_17 : decode cX4_noSlide 17 = .ok (.ifCond .eq 7, 3) := by decide +kernel
theorem dX4_noSlide_20 : decode cX4_noSlide 20 = .ok (.iconst 0, 1) := by decide +kernel
theorem dX4_noSlide_21 : decode cX4_noSlide 21 = .ok (.goto 4, 3) := by decide +kernel
theorem dX4_noSlide_24 : decode cX4_noSlide 24 = .ok (.iconst 1, 1) := by decide +kernel
theorem dX4_noSlide_25 : decode cX4_noSlide 25 = .ok (.invokevirtual 158, 3) := by decide +kernel
theorem dX4_noSlide_28 : decode cX4_noSlide 28 = .ok (.ireturn, 1) := by decide +kernel
theorem dX4_carOfSlide_0 : decode cX4_carOfSlide 0 = .ok (.aload_n 0, 1) := by decide +kernel
theorem dX4_carOfSlide_1 : decode cX4_carOfSlide 1 = .ok (.iload_n 1, 1) := by decide +kernel
theorem dX4_carOfSlide_2 : decode cX4_carOfSlide 2 = .ok (.invokevirtual 270, 3) := by decide +kernel
theorem dX4_carOfSlide_5 : decode cX4_carOfSlide 5 = .ok (.ifCond .eq 7, 3) := by decide +kernel
theorem dX4_carOfSlide_8 : decode cX4_carOfSlide 8 = .ok (.iconst 0, 1) := by decide +kernel
theorem dX4_carOfSlide_9 : decode cX4_carOfSlide 9 = .ok (.goto 8, 3) := by decide +kernel
theorem dX4_carOfSlide_12 : decode cX4_carOfSlide 12 = .ok (.aload_n 0, 1) := by decide +kernel
theorem dX4_carOfSlide_13 : decode cX4_carOfSlide 13 = .ok (.iload_n 1, 1) := by decide +kernel
theorem dX4_carOfSlide_14 : decode cX4_carOfSlide 14 = .ok (.invokevirtual 140, 3) := by decide +kernel
theorem dX4_carOfSlide_17 : decode cX4_carOfSlide 17 = .ok (.ireturn, 1) := by decide +kernel
theorem dX4_changeBySlide_0 : decode cX4_changeBySlide 0 = .ok (.aload_n 0, 1) := by decide +kernel
theorem dX4_changeBySlide_1 : decode cX4_changeBySlide 1 = .ok (.iload_n 1, 1) := by decide +kernel
theorem dX4_changeBySlide_2 : decode cX4_changeBySlide 2 = .ok (.invokevirtual 270, 3) := by decide +kernel
theorem dX4_changeBySlide_5 : decode cX4_changeBySlide 5 = .ok (.ifCond .eq 7, 3) := by decide +kernel
theorem dX4_changeBySlide_8 : decode cX4_changeBySlide 8 = .ok (.iconst 0, 1) := by decide +kernel
theorem dX4_changeBySlide_9 : decode cX4_changeBySlide 9 = .ok (.goto 8, 3) := by decide +kernel
theorem dX4_changeBySlide_12 : decode cX4_changeBySlide 12 = .ok (.aload_n 0, 1) := by decide +kernel
theorem dX4_changeBySlide_13 : decode cX4_changeBySlide 13 = .ok (.iload_n 1, 1) := by decide +kernel
theorem dX4_changeBySlide_14 : decode cX4_changeBySlide 14 = .ok (.invokevirtual 143, 3) := by decide +kernel
theorem dX4_changeBySlide_17 : decode cX4_changeBySlide 17 = .ok (.ireturn, 1) := by decide +kernel
theorem dX4_stepsBy_0 : decode cX4_stepsBy 0 = .ok (.iconst 0, 1) := by decide +kernel
theorem dX4_stepsBy_1 : decode cX4_stepsBy 1 = .ok (.istore_n 2, 1) := by decide +kernel
theorem dX4_stepsBy_2 : decode cX4_stepsBy 2 = .ok (.iconst 0, 1) := by decide +kernel
theorem dX4_stepsBy_3 : decode cX4_stepsBy 3 = .ok (.istore_n 3, 1) := by decide +kernel
theorem dX4_stepsBy_4 : decode cX4_stepsBy 4 = .ok (.iload_n 3, 1) := by decide +kernel
theorem dX4_stepsBy_5 : decode cX4_stepsBy 5 = .ok (.aload_n 0, 1) := by decide +kernel
theorem dX4_stepsBy_6 : decode cX4_stepsBy 6 = .ok (.getfield 13, 3) := by decide +kernel
theorem dX4_stepsBy_9 : decode cX4_stepsBy 9 = .ok (.bipush 20, 2) := by decide +kernel
theorem dX4_stepsBy_11 : decode cX4_stepsBy 11 = .ok (.iaload, 1) := by decide +kernel
theorem dX4_stepsBy_12 : decode cX4_stepsBy 12 = .ok (.if_icmp .ge 47, 3) := by decide +kernel
theorem dX4_stepsBy_15 : decode cX4_stepsBy 15 = .ok (.iload_n 2, 1) := by decide +kernel
theorem dX4_stepsBy_16 : decode cX4_stepsBy 16 = .ok (.aload_n 0, 1) := by decide +kernel
theorem dX4_stepsBy_17 : decode cX4_stepsBy 17 = .ok (.iload_n 3, 1) := by decide +kernel
theorem dX4_stepsBy_18 : decode cX4_stepsBy 18 = .ok (.invokevirtual 140, 3) := by decide +kernel
theorem dX4_stepsBy_21 : decode cX4_stepsBy 21 = .ok (.iload_n 1, 1) := by decide +kernel
theorem dX4_stepsBy_22 : decode cX4_stepsBy 22 = .ok (.if_icmp .eq 7, 3) := by decide +kernel
theorem dX4_stepsBy_25 : decode cX4_stepsBy 25 = .ok (.iconst 0, 1) := by decide +kernel
theorem dX4_stepsBy_26 : decode cX4_stepsBy 26 = .ok (.goto 25, 3) := by decide +kernel
theorem dX4_stepsBy_29 : decode cX4_stepsBy 29 = .ok (.aload_n 0, 1) := by decide +kernel
theorem dX4_stepsBy_30 : decode cX4_stepsBy 30 = .ok (.iload_n 3, 1) := by decide +kernel
theorem dX4_stepsBy_31 : decode cX4_stepsBy 31 = .ok (.invokevirtual 143, 3) := by decide +kernel
theorem dX4_stepsBy_34 : decode cX4_stepsBy 34 = .ok (.ifCond .ge 12, 3) := by decide +kernel
theorem dX4_stepsBy_37 : decode cX4_stepsBy 37 = .ok (.aload_n 0, 1) := by decide +kernel
theorem dX4_stepsBy_38 : decode cX4_stepsBy 38 = .ok (.iload_n 3, 1) := by decide +kernel
theorem dX4_stepsBy_39 : decode cX4_stepsBy 39 = .ok (.invokevirtual 143, 3) := by decide +kernel
theorem dX4_stepsBy_42 : decode cX4_stepsBy 42 = .ok (.ineg, 1) := by decide +kernel
theorem dX4_stepsBy_43 : decode cX4_stepsBy 43 = .ok (.goto 8, 3) := by decide +kernel
theorem dX4_stepsBy_46 : decode cX4_stepsBy 46 = .ok (.aload_n 0, 1) := by decide +kernel
theorem dX4_stepsBy_47 : decode cX4_stepsBy 47 = .ok (.iload_n 3, 1) := by decide +kernel
theorem dX4_stepsBy_48 : decode cX4_stepsBy 48 = .ok (.invokevirtual 143, 3) := by decide +kernel
theorem dX4_stepsBy_51 : decode cX4_stepsBy 51 = .ok (.iadd, 1) := by decide +kernel
theorem dX4_stepsBy_52 : decode cX4_stepsBy 52 = .ok (.istore_n 2, 1) := by decide +kernel
theorem dX4_stepsBy_53 : decode cX4_stepsBy 53 = .ok (.iinc 3 1, 3) := by decide +kernel
theorem dX4_stepsBy_56 : decode cX4_stepsBy 56 = .ok (.goto (-52), 3) := by decide +kernel
theorem dX4_stepsBy_59 : decode cX4_stepsBy 59 = .ok (.iload_n 2, 1) := by decide +kernel
theorem dX4_stepsBy_60 : decode cX4_stepsBy 60 = .ok (.ireturn, 1) := by decide +kernel
theorem dX4_stepsOf_0 : decode cX4_stepsOf 0 = .ok (.aload_n 0, 1) := by decide +kernel
theorem dX4_stepsOf_1 : decode cX4_stepsOf 1 = .ok (.iload_n 1, 1) := by decide +kernel
theorem dX4_stepsOf_2 : decode cX4_stepsOf 2 = .ok (.invokevirtual 258, 3) := by decide +kernel
theorem dX4_stepsOf_5 : decode cX4_stepsOf 5 = .ok (.ifCond .eq 7, 3) := by decide +kernel
theorem dX4_stepsOf_8 : decode cX4_stepsOf 8 = .ok (.iconst 0, 1) := by decide +kernel
theorem dX4_stepsOf_9 : decode cX4_stepsOf 9 = .ok (.goto 8, 3) := by decide +kernel
theorem dX4_stepsOf_12 : decode cX4_stepsOf 12 = .ok (.aload_n 0, 1) := by decide +kernel
theorem dX4_stepsOf_13 : decode cX4_stepsOf 13 = .ok (.iload_n 1, 1) := by decide +kernel
theorem dX4_stepsOf_14 : decode cX4_stepsOf 14 = .ok (.invokevirtual 273, 3) := by decide +kernel
theorem dX4_stepsOf_17 : decode cX4_stepsOf 17 = .ok (.ireturn, 1) := by decide +kernel
theorem dX4_burnt_0 : decode cX4_burnt 0 = .ok (.iconst 0, 1) := by decide +kernel
theorem dX4_burnt_1 : decode cX4_burnt 1 = .ok (.istore_n 1, 1) := by decide +kernel
theorem dX4_burnt_2 : decode cX4_burnt 2 = .ok (.iconst 0, 1) := by decide +kernel
theorem dX4_burnt_3 : decode cX4_burnt 3 = .ok (.istore_n 2, 1) := by decide +kernel
theorem dX4_burnt_4 : decode cX4_burnt 4 = .ok (.iload_n 2, 1) := by decide +kernel
theorem dX4_burnt_5 : decode cX4_burnt 5 = .ok (.aload_n 0, 1) := by decide +kernel
theorem dX4_burnt_6 : decode cX4_burnt 6 = .ok (.getfield 13, 3) := by decide +kernel
theorem dX4_burnt_9 : decode cX4_burnt 9 = .ok (.iconst 0, 1) := by decide +kernel
theorem dX4_burnt_10 : decode cX4_burnt 10 = .ok (.iaload, 1) := by decide +kernel
theorem dX4_burnt_11 : decode cX4_burnt 11 = .ok (.if_icmp .ge 27, 3) := by decide +kernel
theorem dX4_burnt_14 : decode cX4_burnt 14 = .ok (.iload_n 1, 1) := by decide +kernel
theorem dX4_burnt_15 : decode cX4_burnt 15 = .ok (.aload_n 0, 1) := by decide +kernel
theorem dX4_burnt_16 : decode cX4_burnt 16 = .ok (.getfield 13, 3) := by decide +kernel
theorem dX4_burnt_19 : decode cX4_burnt 19 = .ok (.bipush 13, 2) := by decide +kernel
theorem dX4_burnt_21 : decode cX4_burnt 21 = .ok (.iload_n 2, 1) := by decide +kernel
theorem dX4_burnt_22 : decode cX4_burnt 22 = .ok (.iadd, 1) := by decide +kernel
theorem dX4_burnt_23 : decode cX4_burnt 23 = .ok (.iaload, 1) := by decide +kernel
theorem dX4_burnt_24 : decode cX4_burnt 24 = .ok (.aload_n 0, 1) := by decide +kernel
theorem dX4_burnt_25 : decode cX4_burnt 25 = .ok (.iload_n 2, 1) := by decide +kernel
theorem dX4_burnt_26 : decode cX4_burnt 26 = .ok (.invokevirtual 273, 3) := by decide +kernel
theorem dX4_burnt_29 : decode cX4_burnt 29 = .ok (.imul, 1) := by decide +kernel
theorem dX4_burnt_30 : decode cX4_burnt 30 = .ok (.iadd, 1) := by decide +kernel
theorem dX4_burnt_31 : decode cX4_burnt 31 = .ok (.istore_n 1, 1) := by decide +kernel
theorem dX4_burnt_32 : decode cX4_burnt 32 = .ok (.iinc 2 1, 3) := by decide +kernel
theorem dX4_burnt_35 : decode cX4_burnt 35 = .ok (.goto (-31), 3) := by decide +kernel
theorem dX4_burnt_38 : decode cX4_burnt 38 = .ok (.iload_n 1, 1) := by decide +kernel
theorem dX4_burnt_39 : decode cX4_burnt 39 = .ok (.ireturn, 1) := by decide +kernel
theorem dX4_fuel_0 : decode cX4_fuel 0 = .ok (.aload_n 0, 1) := by decide +kernel
theorem dX4_fuel_1 : decode cX4_fuel 1 = .ok (.aload_n 0, 1) := by decide +kernel
theorem dX4_fuel_2 : decode cX4_fuel 2 = .ok (.invokevirtual 276, 3) := by decide +kernel
theorem dX4_fuel_5 : decode cX4_fuel 5 = .ok (.invokevirtual 255, 3) := by decide +kernel
theorem dX4_fuel_8 : decode cX4_fuel 8 = .ok (.ireturn, 1) := by decide +kernel
theorem dX4_fuelByCars_0 : decode cX4_fuelByCars 0 = .ok (.aload_n 0, 1) := by decide +kernel
theorem dX4_fuelByCars_1 : decode cX4_fuelByCars 1 = .ok (.aload_n 0, 1) := by decide +kernel
theorem dX4_fuelByCars_2 : decode cX4_fuelByCars 2 = .ok (.invokevirtual 276, 3) := by decide +kernel
theorem dX4_fuelByCars_5 : decode cX4_fuelByCars 5 = .ok (.invokevirtual 255, 3) := by decide +kernel
theorem dX4_fuelByCars_8 : decode cX4_fuelByCars 8 = .ok (.ireturn, 1) := by decide +kernel
theorem dX4_fewestSlides_0 : decode cX4_fewestSlides 0 = .ok (.aload_n 0, 1) := by decide +kernel
theorem dX4_fewestSlides_1 : decode cX4_fewestSlides 1 = .ok (.aload_n 0, 1) := by decide +kernel
theorem dX4_fewestSlides_2 : decode cX4_fewestSlides 2 = .ok (.iconst 3, 1) := by decide +kernel
theorem dX4_fewestSlides_3 : decode cX4_fewestSlides 3 = .ok (.invokevirtual 279, 3) := by decide +kernel
theorem dX4_fewestSlides_6 : decode cX4_fewestSlides 6 = .ok (.invokevirtual 255, 3) := by decide +kernel
theorem dX4_fewestSlides_9 : decode cX4_fewestSlides 9 = .ok (.ireturn, 1) := by decide +kernel
theorem dX4_fewestSlidesFromEnds_0 : decode cX4_fewestSlidesFromEnds 0 = .ok (.aload_n 0, 1) := by decide +kernel
theorem dX4_fewestSlidesFromEnds_1 : decode cX4_fewestSlidesFromEnds 1 = .ok (.aload_n 0, 1) := by decide +kernel
theorem dX4_fewestSlidesFromEnds_2 : decode cX4_fewestSlidesFromEnds 2 = .ok (.invokevirtual 282, 3) := by decide +kernel
theorem dX4_fewestSlidesFromEnds_5 : decode cX4_fewestSlidesFromEnds 5 = .ok (.invokevirtual 255, 3) := by decide +kernel
theorem dX4_fewestSlidesFromEnds_8 : decode cX4_fewestSlidesFromEnds 8 = .ok (.ireturn, 1) := by decide +kernel
theorem dX4_fewestSteps_0 : decode cX4_fewestSteps 0 = .ok (.aload_n 0, 1) := by decide +kernel
theorem dX4_fewestSteps_1 : decode cX4_fewestSteps 1 = .ok (.aload_n 0, 1) := by decide +kernel
theorem dX4_fewestSteps_2 : decode cX4_fewestSteps 2 = .ok (.iconst 1, 1) := by decide +kernel
theorem dX4_fewestSteps_3 : decode cX4_fewestSteps 3 = .ok (.invokevirtual 279, 3) := by decide +kernel
theorem dX4_fewestSteps_6 : decode cX4_fewestSteps 6 = .ok (.invokevirtual 255, 3) := by decide +kernel
theorem dX4_fewestSteps_9 : decode cX4_fewestSteps 9 = .ok (.ireturn, 1) := by decide +kernel
theorem dX4_leastFuel_0 : decode cX4_leastFuel 0 = .ok (.aload_n 0, 1) := by decide +kernel
theorem dX4_leastFuel_1 : decode cX4_leastFuel 1 = .ok (.aload_n 0, 1) := by decide +kernel
theorem dX4_leastFuel_2 : decode cX4_leastFuel 2 = .ok (.invokevirtual 285, 3) := by decide +kernel
theorem dX4_leastFuel_5 : decode cX4_leastFuel 5 = .ok (.invokevirtual 255, 3) := by decide +kernel
theorem dX4_leastFuel_8 : decode cX4_leastFuel 8 = .ok (.ireturn, 1) := by decide +kernel
theorem dX4_leastFuelByRounds_0 : decode cX4_leastFuelByRounds 0 = .ok (.aload_n 0, 1) := by decide +kernel
theorem dX4_leastFuelByRounds_1 : decode cX4_leastFuelByRounds 1 = .ok (.aload_n 0, 1) := by decide +kernel
theorem dX4_leastFuelByRounds_2 : decode cX4_leastFuelByRounds 2 = .ok (.invokevirtual 285, 3) := by decide +kernel
theorem dX4_leastFuelByRounds_5 : decode cX4_leastFuelByRounds 5 = .ok (.invokevirtual 255, 3) := by decide +kernel
theorem dX4_leastFuelByRounds_8 : decode cX4_leastFuelByRounds 8 = .ok (.ireturn, 1) := by decide +kernel
theorem dX4_nextSlide_0 : decode cX4_nextSlide 0 = .ok (.aload_n 0, 1) := by decide +kernel
theorem dX4_nextSlide_1 : decode cX4_nextSlide 1 = .ok (.invokevirtual 146, 3) := by decide +kernel
theorem dX4_nextSlide_4 : decode cX4_nextSlide 4 = .ok (.ifCond .le 7, 3) := by decide +kernel
theorem dX4_nextSlide_7 : decode cX4_nextSlide 7 = .ok (.iconst 1, 1) := by decide +kernel
theorem dX4_nextSlide_8 : decode cX4_nextSlide 8 = .ok (.goto 4, 3) := by decide +kernel
theorem dX4_nextSlide_11 : decode cX4_nextSlide 11 = .ok (.iconst 0, 1) := by decide +kernel
theorem dX4_nextSlide_12 : decode cX4_nextSlide 12 = .ok (.istore_n 1, 1) := by decide +kernel
theorem dX4_nextSlide_13 : decode cX4_nextSlide 13 = .ok (.aload_n 0, 1) := by decide +kernel
theorem dX4_nextSlide_14 : decode cX4_nextSlide 14 = .ok (.iload_n 1, 1) := by decide +kernel
theorem dX4_nextSlide_15 : decode cX4_nextSlide 15 = .ok (.ifCond .eq 7, 3) := by decide +kernel
theorem dX4_nextSlide_18 : decode cX4_nextSlide 18 = .ok (.iconst 0, 1) := by decide +kernel
theorem dX4_nextSlide_19 : decode cX4_nextSlide 19 = .ok (.goto 4, 3) := by decide +kernel
theorem dX4_nextSlide_22 : decode cX4_nextSlide 22 = .ok (.iconst 1, 1) := by decide +kernel
theorem dX4_nextSlide_23 : decode cX4_nextSlide 23 = .ok (.invokevirtual 158, 3) := by decide +kernel
theorem dX4_nextSlide_26 : decode cX4_nextSlide 26 = .ok (.ifCond .eq 7, 3) := by decide +kernel
theorem dX4_nextSlide_29 : decode cX4_nextSlide 29 = .ok (.iconst 0, 1) := by decide +kernel
theorem dX4_nextSlide_30 : decode cX4_nextSlide 30 = .ok (.goto 7, 3) := by decide +kernel
theorem dX4_nextSlide_33 : decode cX4_nextSlide 33 = .ok (.aload_n 0, 1) := by decide +kernel
theorem dX4_nextSlide_34 : decode cX4_nextSlide 34 = .ok (.invokevirtual 149, 3) := by decide +kernel
theorem dX4_nextSlide_37 : decode cX4_nextSlide 37 = .ok (.ireturn, 1) := by decide +kernel
theorem dX4_nextCar_0 : decode cX4_nextCar 0 = .ok (.aload_n 0, 1) := by decide +kernel
theorem dX4_nextCar_1 : decode cX4_nextCar 1 = .ok (.invokevirtual 288, 3) := by decide +kernel
theorem dX4_nextCar_4 : decode cX4_nextCar 4 = .ok (.bipush 8, 2) := by decide +kernel
theorem dX4_nextCar_6 : decode cX4_nextCar 6 = .ok (.idiv, 1) := by decide +kernel
theorem dX4_nextCar_7 : decode cX4_nextCar 7 = .ok (.ireturn, 1) := by decide +kernel
theorem dX4_nextChange_0 : decode cX4_nextChange 0 = .ok (.aload_n 0, 1) := by decide +kernel
theorem dX4_nextChange_1 : decode cX4_nextChange 1 = .ok (.invokevirtual 288, 3) := by decide +kernel
theorem dX4_nextChange_4 : decode cX4_nextChange 4 = .ok (.istore_n 1, 1) := by decide +kernel
theorem dX4_nextChange_5 : decode cX4_nextChange 5 = .ok (.aload_n 0, 1) := by decide +kernel
theorem dX4_nextChange_6 : decode cX4_nextChange 6 = .ok (.getfield 35, 3) := by decide +kernel
theorem dX4_nextChange_9 : decode cX4_nextChange 9 = .ok (.ifCond .le 7, 3) := by decide +kernel
theorem dX4_nextChange_12 : decode cX4_nextChange 12 = .ok (.iconst 0, 1) := by decide +kernel
theorem dX4_nextChange_13 : decode cX4_nextChange 13 = .ok (.goto 9, 3) := by decide +kernel
theorem dX4_nextChange_16 : decode cX4_nextChange 16 = .ok (.iload_n 1, 1) := by decide +kernel
theorem dX4_nextChange_17 : decode cX4_nextChange 17 = .ok (.bipush 8, 2) := by decide +kernel
theorem dX4_nextChange_19 : decode cX4_nextChange 19 = .ok (.irem, 1) := by decide +kernel
theorem dX4_nextChange_20 : decode cX4_nextChange 20 = .ok (.iconst 3, 1) := by decide +kernel
theorem dX4_nextChange_21 : decode cX4_nextChange 21 = .ok (.isub, 1) := by decide +kernel
theorem dX4_nextChange_22 : decode cX4_nextChange 22 = .ok (.ireturn, 1) := by decide +kernel
theorem dX4_reached_0 : decode cX4_reached 0 = .ok (.aload_n 0, 1) := by decide +kernel
theorem dX4_reached_1 : decode cX4_reached 1 = .ok (.aload_n 0, 1) := by decide +kernel
theorem dX4_reached_2 : decode cX4_reached 2 = .ok (.getfield 13, 3) := by decide +kernel
theorem dX4_reached_5 : decode cX4_reached 5 = .ok (.iconst 0, 1) := by decide +kernel
theorem dX4_reached_6 : decode cX4_reached 6 = .ok (.iaload, 1) := by decide +kernel
theorem dX4_reached_7 : decode cX4_reached 7 = .ok (.aload_n 0, 1) := by decide +kernel
theorem dX4_reached_8 : decode cX4_reached 8 = .ok (.getfield 13, 3) := by decide +kernel
theorem dX4_reached_11 : decode cX4_reached 11 = .ok (.bipush 19, 2) := by decide +kernel
theorem dX4_reached_13 : decode cX4_reached 13 = .ok (.iaload, 1) := by decide +kernel
theorem dX4_reached_14 : decode cX4_reached 14 = .ok (.invokevirtual 97, 3) := by decide +kernel
theorem dX4_reached_17 : decode cX4_reached 17 = .ok (.aload_n 0, 1) := by decide +kernel
theorem dX4_reached_18 : decode cX4_reached 18 = .ok (.aload_n 0, 1) := by decide +kernel
theorem dX4_reached_19 : decode cX4_reached 19 = .ok (.invokevirtual 100, 3) := by decide +kernel
theorem dX4_reached_22 : decode cX4_reached 22 = .ok (.iconst 3, 1) := by decide +kernel
theorem dX4_reached_23 : decode cX4_reached 23 = .ok (.invokevirtual 103, 3) := by decide +kernel
theorem dX4_reached_26 : decode cX4_reached 26 = .ok (.iconst 0, 1) := by decide +kernel
theorem dX4_reached_27 : decode cX4_reached 27 = .ok (.istore_n 2, 1) := by decide +kernel
theorem dX4_reached_28 : decode cX4_reached 28 = .ok (.iconst 0, 1) := by decide +kernel
theorem dX4_reached_29 : decode cX4_reached 29 = .ok (.istore_n 3, 1) := by decide +kernel
theorem dX4_reached_30 : decode cX4_reached 30 = .ok (.iload_n 3, 1) := by decide +kernel
theorem dX4_reached_31 : decode cX4_reached 31 = .ok (.aload_n 0, 1) := by decide +kernel
theorem dX4_reached_32 : decode cX4_reached 32 = .ok (.getfield 67, 3) := by decide +kernel
theorem dX4_reached_35 : decode cX4_reached 35 = .ok (.if_icmp .ge 39, 3) := by decide +kernel
theorem dX4_reached_38 : decode cX4_reached 38 = .ok (.iload_n 2, 1) := by decide +kernel
theorem dX4_reached_39 : decode cX4_reached 39 = .ok (.iload_n 1, 1) := by decide +kernel
theorem dX4_reached_40 : decode cX4_reached 40 = .ok (.ifCond .eq 21, 3) := by decide +kernel
theorem dX4_reached_43 : decode cX4_reached 43 = .ok (.iload_n 1, 1) := by decide +kernel
theorem dX4_reached_44 : decode cX4_reached 44 = .ok (.iconst 1, 1) := by decide +kernel
theorem dX4_reached_45 : decode cX4_reached 45 = .ok (.if_icmp .ne 20, 3) := by decide +kernel
theorem dX4_reached_48 : decode cX4_reached 48 = .ok (.aload_n 0, 1) := by decide +kernel
theorem dX4_reached_49 : decode cX4_reached 49 = .ok (.aload_n 0, 1) := by decide +kernel
theorem dX4_reached_50 : decode cX4_reached 50 = .ok (.getfield 28, 3) := by decide +kernel
theorem dX4_reached_53 : decode cX4_reached 53 = .ok (.iload_n 3, 1) := by decide +kernel
theorem dX4_reached_54 : decode cX4_reached 54 = .ok (.iaload, 1) := by decide +kernel
theorem dX4_reached_55 : decode cX4_reached 55 = .ok (.invokevirtual 90, 3) := by decide +kernel
theorem dX4_reached_58 : decode cX4_reached 58 = .ok (.ifCond .eq 7, 3) := by decide +kernel
theorem dX4_reached_61 : decode cX4_reached 61 = .ok (.iconst 1, 1) := by decide +kernel
theorem dX4_reached_62 : decode cX4_reached 62 = .ok (.goto 4, 3) := by decide +kernel
theorem dX4_reached_65 : decode cX4_reached 65 = .ok (.iconst 0, 1) := by decide +kernel
theorem dX4_reached_66 : decode cX4_reached 66 = .ok (.iadd, 1) := by decide +kernel
theorem dX4_reached_67 : decode cX4_reached 67 = .ok (.istore_n 2, 1) := by decide +kernel
theorem dX4_reached_68 : decode cX4_reached 68 = .ok (.iinc 3 1, 3) := by decide +kernel
theorem dX4_reached_71 : decode cX4_reached 71 = .ok (.goto (-41), 3) := by decide +kernel
theorem dX4_reached_74 : decode cX4_reached 74 = .ok (.iload_n 1, 1) := by decide +kernel
theorem dX4_reached_75 : decode cX4_reached 75 = .ok (.iconst 2, 1) := by decide +kernel
theorem dX4_reached_76 : decode cX4_reached 76 = .ok (.if_icmp .ne 22, 3) := by decide +kernel
theorem dX4_reached_79 : decode cX4_reached 79 = .ok (.aload_n 0, 1) := by decide +kernel
theorem dX4_reached_80 : decode cX4_reached 80 = .ok (.getfield 25, 3) := by decide +kernel
theorem dX4_reached_83 : decode cX4_reached 83 = .ok (.aload_n 0, 1) := by decide +kernel
theorem dX4_reached_84 : decode cX4_reached 84 = .ok (.getfield 28, 3) := by decide +kernel
theorem dX4_reached_87 : decode cX4_reached 87 = .ok (.aload_n 0, 1) := by decide +kernel
theorem dX4_reached_88 : decode cX4_reached 88 = .ok (.getfield 67, 3) := by decide +kernel
theorem dX4_reached_91 : decode cX4_reached 91 = .ok (.iconst 1, 1) := by decide +kernel
theorem dX4_reached_92 : decode cX4_reached 92 = .ok (.isub, 1) := by decide +kernel
theorem dX4_reached_93 : decode cX4_reached 93 = .ok (.iaload, 1) := by decide +kernel
theorem dX4_reached_94 : decode cX4_reached 94 = .ok (.iaload, 1) := by decide +kernel
theorem dX4_reached_95 : decode cX4_reached 95 = .ok (.goto 4, 3) := by decide +kernel
theorem dX4_reached_98 : decode cX4_reached 98 = .ok (.iload_n 2, 1) := by decide +kernel
theorem dX4_reached_99 : decode cX4_reached 99 = .ok (.ireturn, 1) := by decide +kernel
theorem dX4_reachable_0 : decode cX4_reachable 0 = .ok (.aload_n 0, 1) := by decide +kernel
theorem dX4_reachable_1 : decode cX4_reachable 1 = .ok (.aload_n 0, 1) := by decide +kernel
theorem dX4_reachable_2 : decode cX4_reachable 2 = .ok (.iconst 0, 1) := by decide +kernel
theorem dX4_reachable_3 : decode cX4_reachable 3 = .ok (.invokevirtual 291, 3) := by decide +kernel
theorem dX4_reachable_6 : decode cX4_reachable 6 = .ok (.invokevirtual 255, 3) := by decide +kernel
theorem dX4_reachable_9 : decode cX4_reachable 9 = .ok (.ireturn, 1) := by decide +kernel
theorem dX4_reachableOut_0 : decode cX4_reachableOut 0 = .ok (.aload_n 0, 1) := by decide +kernel
theorem dX4_reachableOut_1 : decode cX4_reachableOut 1 = .ok (.aload_n 0, 1) := by decide +kernel
theorem dX4_reachableOut_2 : decode cX4_reachableOut 2 = .ok (.iconst 1, 1) := by decide +kernel
theorem dX4_reachableOut_3 : decode cX4_reachableOut 3 = .ok (.invokevirtual 291, 3) := by decide +kernel
theorem dX4_reachableOut_6 : decode cX4_reachableOut 6 = .ok (.invokevirtual 255, 3) := by decide +kernel
theorem dX4_reachableOut_9 : decode cX4_reachableOut 9 = .ok (.ireturn, 1) := by decide +kernel
theorem dX4_farthest_0 : decode cX4_farthest 0 = .ok (.aload_n 0, 1) := by decide +kernel
theorem dX4_farthest_1 : decode cX4_farthest 1 = .ok (.aload_n 0, 1) := by decide +kernel
theorem dX4_farthest_2 : decode cX4_farthest 2 = .ok (.iconst 2, 1) := by decide +kernel
theorem dX4_farthest_3 : decode cX4_farthest 3 = .ok (.invokevirtual 291, 3) := by decide +kernel
theorem dX4_farthest_6 : decode cX4_farthest 6 = .ok (.invokevirtual 255, 3) := by decide +kernel
theorem dX4_farthest_9 : decode cX4_farthest 9 = .ok (.ireturn, 1) := by decide +kernel
theorem dX4_all_0 : decode cX4_all 0 = .ok (.aload_n 0, 1) := by decide +kernel
theorem dX4_all_1 : decode cX4_all 1 = .ok (.aload_n 0, 1) := by decide +kernel
theorem dX4_all_2 : decode cX4_all 2 = .ok (.getfield 13, 3) := by decide +kernel
theorem dX4_all_5 : decode cX4_all 5 = .ok (.iconst 0, 1) := by decide +kernel
theorem dX4_all_6 : decode cX4_all 6 = .ok (.iaload, 1) := by decide +kernel
theorem dX4_all_7 : decode cX4_all 7 = .ok (.aload_n 0, 1) := by decide +kernel
theorem dX4_all_8 : decode cX4_all 8 = .ok (.getfield 13, 3) := by decide +kernel
theorem dX4_all_11 : decode cX4_all 11 = .ok (.bipush 19, 2) := by decide +kernel
theorem dX4_all_13 : decode cX4_all 13 = .ok (.iaload, 1) := by decide +kernel
theorem dX4_all_14 : decode cX4_all 14 = .ok (.invokevirtual 97, 3) := by decide +kernel
theorem dX4_all_17 : decode cX4_all 17 = .ok (.iconst 0, 1) := by decide +kernel
theorem dX4_all_18 : decode cX4_all 18 = .ok (.istore_n 1, 1) := by decide +kernel
theorem dX4_all_19 : decode cX4_all 19 = .ok (.iconst 0, 1) := by decide +kernel
theorem dX4_all_20 : decode cX4_all 20 = .ok (.istore_n 2, 1) := by decide +kernel
theorem dX4_all_21 : decode cX4_all 21 = .ok (.iload_n 2, 1) := by decide +kernel
theorem dX4_all_22 : decode cX4_all 22 = .ok (.iconst 1, 1) := by decide +kernel
theorem dX4_all_23 : decode cX4_all 23 = .ok (.iconst 2, 1) := by decide +kernel
theorem dX4_all_24 : decode cX4_all 24 = .ok (.aload_n 0, 1) := by decide +kernel
theorem dX4_all_25 : decode cX4_all 25 = .ok (.getfield 61, 3) := by decide +kernel
theorem dX4_all_28 : decode cX4_all 28 = .ok (.imul, 1) := by decide +kernel
theorem dX4_all_29 : decode cX4_all 29 = .ok (.ishl, 1) := by decide +kernel
theorem dX4_all_30 : decode cX4_all 30 = .ok (.if_icmp .ge 25, 3) := by decide +kernel
theorem dX4_all_33 : decode cX4_all 33 = .ok (.iload_n 1, 1) := by decide +kernel
theorem dX4_all_34 : decode cX4_all 34 = .ok (.aload_n 0, 1) := by decide +kernel
theorem dX4_all_35 : decode cX4_all 35 = .ok (.iload_n 2, 1) := by decide +kernel
theorem dX4_all_36 : decode cX4_all 36 = .ok (.invokevirtual 94, 3) := by decide +kernel
theorem dX4_all_39 : decode cX4_all 39 = .ok (.ifCond .eq 7, 3) := by decide +kernel
theorem dX4_all_42 : decode cX4_all 42 = .ok (.iconst 1, 1) := by decide +kernel
theorem dX4_all_43 : decode cX4_all 43 = .ok (.goto 4, 3) := by decide +kernel
theorem dX4_all_46 : decode cX4_all 46 = .ok (.iconst 0, 1) := by decide +kernel
theorem dX4_all_47 : decode cX4_all 47 = .ok (.iadd, 1) := by decide +kernel
theorem dX4_all_48 : decode cX4_all 48 = .ok (.istore_n 1, 1) := by decide +kernel
theorem dX4_all_49 : decode cX4_all 49 = .ok (.iinc 2 1, 3) := by decide +kernel
theorem dX4_all_52 : decode cX4_all 52 = .ok (.goto (-31), 3) := by decide +kernel
theorem dX4_all_55 : decode cX4_all 55 = .ok (.iload_n 1, 1) := by decide +kernel
theorem dX4_all_56 : decode cX4_all 56 = .ok (.ireturn, 1) := by decide +kernel
theorem dX4_arrangements_0 : decode cX4_arrangements 0 = .ok (.aload_n 0, 1) := by decide +kernel
theorem dX4_arrangements_1 : decode cX4_arrangements 1 = .ok (.aload_n 0, 1) := by decide +kernel
theorem dX4_arrangements_2 : decode cX4_arrangements 2 = .ok (.invokevirtual 294, 3) := by decide +kernel
theorem dX4_arrangements_5 : decode cX4_arrangements 5 = .ok (.invokevirtual 255, 3) := by decide +kernel
theorem dX4_arrangements_8 : decode cX4_arrangements 8 = .ok (.ireturn, 1) := by decide +kernel
theorem dX4_fewestBehind_0 : decode cX4_fewestBehind 0 = .ok (.aload_n 0, 1) := by decide +kernel
theorem dX4_fewestBehind_1 : decode cX4_fewestBehind 1 = .ok (.aload_n 0, 1) := by decide +kernel
theorem dX4_fewestBehind_2 : decode cX4_fewestBehind 2 = .ok (.iload_n 1, 1) := by decide +kernel
theorem dX4_fewestBehind_3 : decode cX4_fewestBehind 3 = .ok (.invokevirtual 178, 3) := by decide +kernel
theorem dX4_fewestBehind_6 : decode cX4_fewestBehind 6 = .ok (.ifCond .ne 7, 3) := by decide +kernel
theorem dX4_fewestBehind_9 : decode cX4_fewestBehind 9 = .ok (.iconst 1, 1) := by decide +kernel
theorem dX4_fewestBehind_10 : decode cX4_fewestBehind 10 = .ok (.goto 28, 3) := by decide +kernel
theorem dX4_fewestBehind_13 : decode cX4_fewestBehind 13 = .ok (.iload_n 2, 1) := by decide +kernel
theorem dX4_fewestBehind_14 : decode cX4_fewestBehind 14 = .ok (.invokestatic 181, 3) := by decide +kernel
theorem dX4_fewestBehind_17 : decode cX4_fewestBehind 17 = .ok (.ifCond .ne 7, 3) := by decide +kernel
theorem dX4_fewestBehind_20 : decode cX4_fewestBehind 20 = .ok (.iconst 2, 1) := by decide +kernel
theorem dX4_fewestBehind_21 : decode cX4_fewestBehind 21 = .ok (.goto 17, 3) := by decide +kernel
theorem dX4_fewestBehind_24 : decode cX4_fewestBehind 24 = .ok (.aload_n 0, 1) := by decide +kernel
theorem dX4_fewestBehind_25 : decode cX4_fewestBehind 25 = .ok (.iload_n 1, 1) := by decide +kernel
theorem dX4_fewestBehind_26 : decode cX4_fewestBehind 26 = .ok (.iload_n 2, 1) := by decide +kernel
theorem dX4_fewestBehind_27 : decode cX4_fewestBehind 27 = .ok (.invokevirtual 119, 3) := by decide +kernel
theorem dX4_fewestBehind_30 : decode cX4_fewestBehind 30 = .ok (.ifCond .eq 7, 3) := by decide +kernel
theorem dX4_fewestBehind_33 : decode cX4_fewestBehind 33 = .ok (.iconst 0, 1) := by decide +kernel
theorem dX4_fewestBehind_34 : decode cX4_fewestBehind 34 = .ok (.goto 4, 3) := by decide +kernel
theorem dX4_fewestBehind_37 : decode cX4_fewestBehind 37 = .ok (.iconst 3, 1) := by decide +kernel
theorem dX4_fewestBehind_38 : decode cX4_fewestBehind 38 = .ok (.invokevirtual 158, 3) := by decide +kernel
theorem dX4_fewestBehind_41 : decode cX4_fewestBehind 41 = .ok (.ifCond .eq 5, 3) := by decide +kernel
theorem dX4_fewestBehind_44 : decode cX4_fewestBehind 44 = .ok (.iconst 0, 1) := by decide +kernel
theorem dX4_fewestBehind_45 : decode cX4_fewestBehind 45 = .ok (.ireturn, 1) := by decide +kernel
theorem dX4_fewestBehind_46 : decode cX4_fewestBehind 46 = .ok (.aload_n 0, 1) := by decide +kernel
theorem dX4_fewestBehind_47 : decode cX4_fewestBehind 47 = .ok (.aload_n 0, 1) := by decide +kernel
theorem dX4_fewestBehind_48 : decode cX4_fewestBehind 48 = .ok (.getfield 13, 3) := by decide +kernel
theorem dX4_fewestBehind_51 : decode cX4_fewestBehind 51 = .ok (.iconst 0, 1) := by decide +kernel
theorem dX4_fewestBehind_52 : decode cX4_fewestBehind 52 = .ok (.iaload, 1) := by decide +kernel
theorem dX4_fewestBehind_53 : decode cX4_fewestBehind 53 = .ok (.aload_n 0, 1) := by decide +kernel
theorem dX4_fewestBehind_54 : decode cX4_fewestBehind 54 = .ok (.getfield 13, 3) := by decide +kernel
theorem dX4_fewestBehind_57 : decode cX4_fewestBehind 57 = .ok (.bipush 19, 2) := by decide +kernel
theorem dX4_fewestBehind_59 : decode cX4_fewestBehind 59 = .ok (.iaload, 1) := by decide +kernel
theorem dX4_fewestBehind_60 : decode cX4_fewestBehind 60 = .ok (.invokevirtual 97, 3) := by decide +kernel
theorem dX4_fewestBehind_63 : decode cX4_fewestBehind 63 = .ok (.aload_n 0, 1) := by decide +kernel
theorem dX4_fewestBehind_64 : decode cX4_fewestBehind 64 = .ok (.aload_n 0, 1) := by decide +kernel
theorem dX4_fewestBehind_65 : decode cX4_fewestBehind 65 = .ok (.invokevirtual 100, 3) := by decide +kernel
theorem dX4_fewestBehind_68 : decode cX4_fewestBehind 68 = .ok (.iload_n 2, 1) := by decide +kernel
theorem dX4_fewestBehind_69 : decode cX4_fewestBehind 69 = .ok (.iconst 2, 1) := by decide +kernel
theorem dX4_fewestBehind_70 : decode cX4_fewestBehind 70 = .ok (.iload_n 1, 1) := by decide +kernel
theorem dX4_fewestBehind_71 : decode cX4_fewestBehind 71 = .ok (.imul, 1) := by decide +kernel
theorem dX4_fewestBehind_72 : decode cX4_fewestBehind 72 = .ok (.ishl, 1) := by decide +kernel
theorem dX4_fewestBehind_73 : decode cX4_fewestBehind 73 = .ok (.iadd, 1) := by decide +kernel
theorem dX4_fewestBehind_74 : decode cX4_fewestBehind 74 = .ok (.iconst 3, 1) := by decide +kernel
theorem dX4_fewestBehind_75 : decode cX4_fewestBehind 75 = .ok (.invokevirtual 103, 3) := by decide +kernel
theorem dX4_fewestBehind_78 : decode cX4_fewestBehind 78 = .ok (.aload_n 0, 1) := by decide +kernel
theorem dX4_fewestBehind_79 : decode cX4_fewestBehind 79 = .ok (.invokevirtual 106, 3) := by decide +kernel
theorem dX4_fewestBehind_82 : decode cX4_fewestBehind 82 = .ok (.ireturn, 1) := by decide +kernel
theorem dX4_fewestWithoutLast_0 : decode cX4_fewestWithoutLast 0 = .ok (.aload_n 0, 1) := by decide +kernel
theorem dX4_fewestWithoutLast_1 : decode cX4_fewestWithoutLast 1 = .ok (.aload_n 0, 1) := by decide +kernel
theorem dX4_fewestWithoutLast_2 : decode cX4_fewestWithoutLast 2 = .ok (.getfield 13, 3) := by decide +kernel
theorem dX4_fewestWithoutLast_5 : decode cX4_fewestWithoutLast 5 = .ok (.iconst 0, 1) := by decide +kernel
theorem dX4_fewestWithoutLast_6 : decode cX4_fewestWithoutLast 6 = .ok (.iaload, 1) := by decide +kernel
theorem dX4_fewestWithoutLast_7 : decode cX4_fewestWithoutLast 7 = .ok (.iconst 1, 1) := by decide +kernel
theorem dX4_fewestWithoutLast_8 : decode cX4_fewestWithoutLast 8 = .ok (.if_icmp .le 7, 3) := by decide +kernel
theorem dX4_fewestWithoutLast_11 : decode cX4_fewestWithoutLast 11 = .ok (.iconst 0, 1) := by decide +kernel
theorem dX4_fewestWithoutLast_12 : decode cX4_fewestWithoutLast 12 = .ok (.goto 4, 3) := by decide +kernel
theorem dX4_fewestWithoutLast_15 : decode cX4_fewestWithoutLast 15 = .ok (.iconst 1, 1) := by decide +kernel
theorem dX4_fewestWithoutLast_16 : decode cX4_fewestWithoutLast 16 = .ok (.invokevirtual 158, 3) := by decide +kernel
theorem dX4_fewestWithoutLast_19 : decode cX4_fewestWithoutLast 19 = .ok (.ifCond .eq 5, 3) := by decide +kernel
theorem dX4_fewestWithoutLast_22 : decode cX4_fewestWithoutLast 22 = .ok (.iconst 0, 1) := by decide +kernel
theorem dX4_fewestWithoutLast_23 : decode cX4_fewestWithoutLast 23 = .ok (.ireturn, 1) := by decide +kernel
theorem dX4_fewestWithoutLast_24 : decode cX4_fewestWithoutLast 24 = .ok (.aload_n 0, 1) := by decide +kernel
theorem dX4_fewestWithoutLast_25 : decode cX4_fewestWithoutLast 25 = .ok (.aload_n 0, 1) := by decide +kernel
theorem dX4_fewestWithoutLast_26 : decode cX4_fewestWithoutLast 26 = .ok (.getfield 13, 3) := by decide +kernel
theorem dX4_fewestWithoutLast_29 : decode cX4_fewestWithoutLast 29 = .ok (.iconst 0, 1) := by decide +kernel
theorem dX4_fewestWithoutLast_30 : decode cX4_fewestWithoutLast 30 = .ok (.iaload, 1) := by decide +kernel
theorem dX4_fewestWithoutLast_31 : decode cX4_fewestWithoutLast 31 = .ok (.iconst 1, 1) := by decide +kernel
theorem dX4_fewestWithoutLast_32 : decode cX4_fewestWithoutLast 32 = .ok (.isub, 1) := by decide +kernel
theorem dX4_fewestWithoutLast_33 : decode cX4_fewestWithoutLast 33 = .ok (.aload_n 0, 1) := by decide +kernel
theorem dX4_fewestWithoutLast_34 : decode cX4_fewestWithoutLast 34 = .ok (.getfield 13, 3) := by decide +kernel
theorem dX4_fewestWithoutLast_37 : decode cX4_fewestWithoutLast 37 = .ok (.bipush 19, 2) := by decide +kernel
theorem dX4_fewestWithoutLast_39 : decode cX4_fewestWithoutLast 39 = .ok (.iaload, 1) := by decide +kernel
theorem dX4_fewestWithoutLast_40 : decode cX4_fewestWithoutLast 40 = .ok (.invokevirtual 97, 3) := by decide +kernel
theorem dX4_fewestWithoutLast_43 : decode cX4_fewestWithoutLast 43 = .ok (.aload_n 0, 1) := by decide +kernel
theorem dX4_fewestWithoutLast_44 : decode cX4_fewestWithoutLast 44 = .ok (.aload_n 0, 1) := by decide +kernel
theorem dX4_fewestWithoutLast_45 : decode cX4_fewestWithoutLast 45 = .ok (.invokevirtual 100, 3) := by decide +kernel
theorem dX4_fewestWithoutLast_48 : decode cX4_fewestWithoutLast 48 = .ok (.iconst 3, 1) := by decide +kernel
theorem dX4_fewestWithoutLast_49 : decode cX4_fewestWithoutLast 49 = .ok (.invokevirtual 103, 3) := by decide +kernel
theorem dX4_fewestWithoutLast_52 : decode cX4_fewestWithoutLast 52 = .ok (.aload_n 0, 1) := by decide +kernel
theorem dX4_fewestWithoutLast_53 : decode cX4_fewestWithoutLast 53 = .ok (.invokevirtual 106, 3) := by decide +kernel
theorem dX4_fewestWithoutLast_56 : decode cX4_fewestWithoutLast 56 = .ok (.ireturn, 1) := by decide +kernel
theorem dX4_fewestWithWall_0 : decode cX4_fewestWithWall 0 = .ok (.aload_n 0, 1) := by decide +kernel
theorem dX4_fewestWithWall_1 : decode cX4_fewestWithWall 1 = .ok (.iload_n 1, 1) := by decide +kernel
theorem dX4_fewestWithWall_2 : decode cX4_fewestWithWall 2 = .ok (.invokestatic 167, 3) := by decide +kernel
theorem dX4_fewestWithWall_5 : decode cX4_fewestWithWall 5 = .ok (.ifCond .ne 7, 3) := by decide +kernel
theorem dX4_fewestWithWall_8 : decode cX4_fewestWithWall 8 = .ok (.iconst 1, 1) := by decide +kernel
theorem dX4_fewestWithWall_9 : decode cX4_fewestWithWall 9 = .ok (.goto 20, 3) := by decide +kernel
theorem dX4_fewestWithWall_12 : decode cX4_fewestWithWall 12 = .ok (.aload_n 0, 1) := by decide +kernel
theorem dX4_fewestWithWall_13 : decode cX4_fewestWithWall 13 = .ok (.invokevirtual 53, 3) := by decide +kernel
theorem dX4_fewestWithWall_16 : decode cX4_fewestWithWall 16 = .ok (.iload_n 1, 1) := by decide +kernel
theorem dX4_fewestWithWall_17 : decode cX4_fewestWithWall 17 = .ok (.ishr, 1) := by decide +kernel
theorem dX4_fewestWithWall_18 : decode cX4_fewestWithWall 18 = .ok (.iconst 1, 1) := by decide +kernel
theorem dX4_fewestWithWall_19 : decode cX4_fewestWithWall 19 = .ok (.iand, 1) := by decide +kernel
theorem dX4_fewestWithWall_20 : decode cX4_fewestWithWall 20 = .ok (.iconst 1, 1) := by decide +kernel
theorem dX4_fewestWithWall_21 : decode cX4_fewestWithWall 21 = .ok (.if_icmp .ne 7, 3) := by decide +kernel
theorem dX4_fewestWithWall_24 : decode cX4_fewestWithWall 24 = .ok (.iconst 2, 1) := by decide +kernel
theorem dX4_fewestWithWall_25 : decode cX4_fewestWithWall 25 = .ok (.goto 4, 3) := by decide +kernel
theorem dX4_fewestWithWall_28 : decode cX4_fewestWithWall 28 = .ok (.iconst 0, 1) := by decide +kernel
theorem dX4_fewestWithWall_29 : decode cX4_fewestWithWall 29 = .ok (.invokevirtual 158, 3) := by decide +kernel
theorem dX4_fewestWithWall_32 : decode cX4_fewestWithWall 32 = .ok (.ifCond .eq 5, 3) := by decide +kernel
theorem dX4_fewestWithWall_35 : decode cX4_fewestWithWall 35 = .ok (.iconst 0, 1) := by decide +kernel
theorem dX4_fewestWithWall_36 : decode cX4_fewestWithWall 36 = .ok (.ireturn, 1) := by decide +kernel
theorem dX4_fewestWithWall_37 : decode cX4_fewestWithWall 37 = .ok (.aload_n 0, 1) := by decide +kernel
theorem dX4_fewestWithWall_38 : decode cX4_fewestWithWall 38 = .ok (.getfield 13, 3) := by decide +kernel
theorem dX4_fewestWithWall_41 : decode cX4_fewestWithWall 41 = .ok (.iconst 0, 1) := by decide +kernel
theorem dX4_fewestWithWall_42 : decode cX4_fewestWithWall 42 = .ok (.iaload, 1) := by decide +kernel
theorem dX4_fewestWithWall_43 : decode cX4_fewestWithWall 43 = .ok (.ifCond .ne 5, 3) := by decide +kernel
theorem dX4_fewestWithWall_46 : decode cX4_fewestWithWall 46 = .ok (.iconst (-1), 1) := by decide +kernel
theorem dX4_fewestWithWall_47 : decode cX4_fewestWithWall 47 = .ok (.ireturn, 1) := by decide +kernel
theorem dX4_fewestWithWall_48 : decode cX4_fewestWithWall 48 = .ok (.aload_n 0, 1) := by decide +kernel
theorem dX4_fewestWithWall_49 : decode cX4_fewestWithWall 49 = .ok (.aload_n 0, 1) := by decide +kernel
theorem dX4_fewestWithWall_50 : decode cX4_fewestWithWall 50 = .ok (.getfield 13, 3) := by decide +kernel
theorem dX4_fewestWithWall_53 : decode cX4_fewestWithWall 53 = .ok (.iconst 0, 1) := by decide +kernel
theorem dX4_fewestWithWall_54 : decode cX4_fewestWithWall 54 = .ok (.iaload, 1) := by decide +kernel
theorem dX4_fewestWithWall_55 : decode cX4_fewestWithWall 55 = .ok (.aload_n 0, 1) := by decide +kernel
theorem dX4_fewestWithWall_56 : decode cX4_fewestWithWall 56 = .ok (.getfield 13, 3) := by decide +kernel
theorem dX4_fewestWithWall_59 : decode cX4_fewestWithWall 59 = .ok (.bipush 19, 2) := by decide +kernel
theorem dX4_fewestWithWall_61 : decode cX4_fewestWithWall 61 = .ok (.iaload, 1) := by decide +kernel
theorem dX4_fewestWithWall_62 : decode cX4_fewestWithWall 62 = .ok (.iconst 1, 1) := by decide +kernel
theorem dX4_fewestWithWall_63 : decode cX4_fewestWithWall 63 = .ok (.iload_n 1, 1) := by decide +kernel
theorem dX4_fewestWithWall_64 : decode cX4_fewestWithWall 64 = .ok (.ishl, 1) := by decide +kernel
theorem dX4_fewestWithWall_65 : decode cX4_fewestWithWall 65 = .ok (.ior, 1) := by decide +kernel
theorem dX4_fewestWithWall_66 : decode cX4_fewestWithWall 66 = .ok (.invokevirtual 97, 3) := by decide +kernel
theorem dX4_fewestWithWall_69 : decode cX4_fewestWithWall 69 = .ok (.aload_n 0, 1) := by decide +kernel
theorem dX4_fewestWithWall_70 : decode cX4_fewestWithWall 70 = .ok (.aload_n 0, 1) := by decide +kernel
theorem dX4_fewestWithWall_71 : decode cX4_fewestWithWall 71 = .ok (.invokevirtual 100, 3) := by decide +kernel
theorem dX4_fewestWithWall_74 : decode cX4_fewestWithWall 74 = .ok (.iconst 3, 1) := by decide +kernel
theorem dX4_fewestWithWall_75 : decode cX4_fewestWithWall 75 = .ok (.invokevirtual 103, 3) := by decide +kernel
theorem dX4_fewestWithWall_78 : decode cX4_fewestWithWall 78 = .ok (.aload_n 0, 1) := by decide +kernel
theorem dX4_fewestWithWall_79 : decode cX4_fewestWithWall 79 = .ok (.invokevirtual 106, 3) := by decide +kernel
theorem dX4_fewestWithWall_82 : decode cX4_fewestWithWall 82 = .ok (.ireturn, 1) := by decide +kernel
theorem dX4_share_0 : decode cX4_share 0 = .ok (.aload_n 0, 1) := by decide +kernel
theorem dX4_share_1 : decode cX4_share 1 = .ok (.iconst 0, 1) := by decide +kernel
theorem dX4_share_2 : decode cX4_share 2 = .ok (.invokevirtual 291, 3) := by decide +kernel
theorem dX4_share_5 : decode cX4_share 5 = .ok (.istore_n 1, 1) := by decide +kernel
theorem dX4_share_6 : decode cX4_share 6 = .ok (.iload_n 1, 1) := by decide +kernel
theorem dX4_share_7 : decode cX4_share 7 = .ok (.i2d, 1) := by decide +kernel
theorem dX4_share_8 : decode cX4_share 8 = .ok (.aload_n 0, 1) := by decide +kernel
theorem dX4_share_9 : decode cX4_share 9 = .ok (.invokevirtual 294, 3) := by decide +kernel
theorem dX4_share_12 : decode cX4_share 12 = .ok (.i2d, 1) := by decide +kernel
theorem dX4_share_13 : decode cX4_share 13 = .ok (.ddiv, 1) := by decide +kernel
theorem dX4_share_14 : decode cX4_share 14 = .ok (.dreturn, 1) := by decide +kernel
theorem dX4_reachedShare_0 : decode cX4_reachedShare 0 = .ok (.aload_n 0, 1) := by decide +kernel
theorem dX4_reachedShare_1 : decode cX4_reachedShare 1 = .ok (.iconst 0, 1) := by decide +kernel
theorem dX4_reachedShare_2 : decode cX4_reachedShare 2 = .ok (.putfield 35, 3) := by decide +kernel
theorem dX4_reachedShare_5 : decode cX4_reachedShare 5 = .ok (.aload_n 0, 1) := by decide +kernel
theorem dX4_reachedShare_6 : decode cX4_reachedShare 6 = .ok (.invokevirtual 297, 3) := by decide +kernel
theorem dX4_reachedShare_9 : decode cX4_reachedShare 9 = .ok (.dreturn, 1) := by decide +kernel
theorem dX4_adds_0 : decode cX4_adds 0 = .ok (.aload_n 0, 1) := by decide +kernel
theorem dX4_adds_1 : decode cX4_adds 1 = .ok (.ldc2_w 301, 3) := by decide +kernel
theorem dX4_adds_4 : decode cX4_adds 4 = .ok (.aload_n 0, 1) := by decide +kernel
theorem dX4_adds_5 : decode cX4_adds 5 = .ok (.getfield 303, 3) := by decide +kernel
theorem dX4_adds_8 : decode cX4_adds 8 = .ok (.lmul, 1) := by decide +kernel
theorem dX4_adds_9 : decode cX4_adds 9 = .ok (.lload_n 1, 1) := by decide +kernel
theorem dX4_adds_10 : decode cX4_adds 10 = .ok (.ladd, 1) := by decide +kernel
theorem dX4_adds_11 : decode cX4_adds 11 = .ok (.putfield 303, 3) := by decide +kernel
theorem dX4_adds_14 : decode cX4_adds 14 = .ok (.return_, 1) := by decide +kernel
theorem dX4_addsCar_0 : decode cX4_addsCar 0 = .ok (.aload_n 0, 1) := by decide +kernel
theorem dX4_addsCar_1 : decode cX4_addsCar 1 = .ok (.aload_n 0, 1) := by decide +kernel
theorem dX4_addsCar_2 : decode cX4_addsCar 2 = .ok (.getfield 13, 3) := by decide +kernel
theorem dX4_addsCar_5 : decode cX4_addsCar 5 = .ok (.iconst 1, 1) := by decide +kernel
theorem dX4_addsCar_6 : decode cX4_addsCar 6 = .ok (.iload_n 1, 1) := by decide +kernel
theorem dX4_addsCar_7 : decode cX4_addsCar 7 = .ok (.iadd, 1) := by decide +kernel
theorem dX4_addsCar_8 : decode cX4_addsCar 8 = .ok (.iaload, 1) := by decide +kernel
theorem dX4_addsCar_9 : decode cX4_addsCar 9 = .ok (.i2l, 1) := by decide +kernel
theorem dX4_addsCar_10 : decode cX4_addsCar 10 = .ok (.invokevirtual 307, 3) := by decide +kernel
theorem dX4_addsCar_13 : decode cX4_addsCar 13 = .ok (.aload_n 0, 1) := by decide +kernel
theorem dX4_addsCar_14 : decode cX4_addsCar 14 = .ok (.aload_n 0, 1) := by decide +kernel
theorem dX4_addsCar_15 : decode cX4_addsCar 15 = .ok (.getfield 13, 3) := by decide +kernel
theorem dX4_addsCar_18 : decode cX4_addsCar 18 = .ok (.bipush 7, 2) := by decide +kernel
theorem dX4_addsCar_20 : decode cX4_addsCar 20 = .ok (.iload_n 1, 1) := by decide +kernel
theorem dX4_addsCar_21 : decode cX4_addsCar 21 = .ok (.iadd, 1) := by decide +kernel
theorem dX4_addsCar_22 : decode cX4_addsCar 22 = .ok (.iaload, 1) := by decide +kernel
theorem dX4_addsCar_23 : decode cX4_addsCar 23 = .ok (.i2l, 1) := by decide +kernel
theorem dX4_addsCar_24 : decode cX4_addsCar 24 = .ok (.invokevirtual 307, 3) := by decide +kernel
theorem dX4_addsCar_27 : decode cX4_addsCar 27 = .ok (.aload_n 0, 1) := by decide +kernel
theorem dX4_addsCar_28 : decode cX4_addsCar 28 = .ok (.aload_n 0, 1) := by decide +kernel
theorem dX4_addsCar_29 : decode cX4_addsCar 29 = .ok (.getfield 13, 3) := by decide +kernel
theorem dX4_addsCar_32 : decode cX4_addsCar 32 = .ok (.bipush 13, 2) := by decide +kernel
theorem dX4_addsCar_34 : decode cX4_addsCar 34 = .ok (.iload_n 1, 1) := by decide +kernel
theorem dX4_addsCar_35 : decode cX4_addsCar 35 = .ok (.iadd, 1) := by decide +kernel
theorem dX4_addsCar_36 : decode cX4_addsCar 36 = .ok (.iaload, 1) := by decide +kernel
theorem dX4_addsCar_37 : decode cX4_addsCar 37 = .ok (.i2l, 1) := by decide +kernel
theorem dX4_addsCar_38 : decode cX4_addsCar 38 = .ok (.invokevirtual 307, 3) := by decide +kernel
theorem dX4_addsCar_41 : decode cX4_addsCar 41 = .ok (.aload_n 0, 1) := by decide +kernel
theorem dX4_addsCar_42 : decode cX4_addsCar 42 = .ok (.aload_n 0, 1) := by decide +kernel
theorem dX4_addsCar_43 : decode cX4_addsCar 43 = .ok (.iload_n 1, 1) := by decide +kernel
theorem dX4_addsCar_44 : decode cX4_addsCar 44 = .ok (.invokevirtual 273, 3) := by decide +kernel
theorem dX4_addsCar_47 : decode cX4_addsCar 47 = .ok (.i2l, 1) := by decide +kernel
theorem dX4_addsCar_48 : decode cX4_addsCar 48 = .ok (.invokevirtual 307, 3) := by decide +kernel
theorem dX4_addsCar_51 : decode cX4_addsCar 51 = .ok (.aload_n 0, 1) := by decide +kernel
theorem dX4_addsCar_52 : decode cX4_addsCar 52 = .ok (.aload_n 0, 1) := by decide +kernel
theorem dX4_addsCar_53 : decode cX4_addsCar 53 = .ok (.iload_n 1, 1) := by decide +kernel
theorem dX4_addsCar_54 : decode cX4_addsCar 54 = .ok (.iconst 1, 1) := by decide +kernel
theorem dX4_addsCar_55 : decode cX4_addsCar 55 = .ok (.invokevirtual 57, 3) := by decide +kernel
theorem dX4_addsCar_58 : decode cX4_addsCar 58 = .ok (.i2l, 1) := by decide +kernel
theorem dX4_addsCar_59 : decode cX4_addsCar 59 = .ok (.invokevirtual 307, 3) := by decide +kernel
theorem dX4_addsCar_62 : decode cX4_addsCar 62 = .ok (.aload_n 0, 1) := by decide +kernel
theorem dX4_addsCar_63 : decode cX4_addsCar 63 = .ok (.aload_n 0, 1) := by decide +kernel
theorem dX4_addsCar_64 : decode cX4_addsCar 64 = .ok (.iload_n 1, 1) := by decide +kernel
theorem dX4_addsCar_65 : decode cX4_addsCar 65 = .ok (.iconst (-1), 1) := by decide +kernel
theorem dX4_addsCar_66 : decode cX4_addsCar 66 = .ok (.invokevirtual 57, 3) := by decide +kernel
theorem dX4_addsCar_69 : decode cX4_addsCar 69 = .ok (.i2l, 1) := by decide +kernel
theorem dX4_addsCar_70 : decode cX4_addsCar 70 = .ok (.invokevirtual 307, 3) := by decide +kernel
theorem dX4_addsCar_73 : decode cX4_addsCar 73 = .ok (.return_, 1) := by decide +kernel
theorem dX4_addsPlans_0 : decode cX4_addsPlans 0 = .ok (.aload_n 0, 1) := by decide +kernel
theorem dX4_addsPlans_1 : decode cX4_addsPlans 1 = .ok (.aload_n 0, 1) := by decide +kernel
theorem dX4_addsPlans_2 : decode cX4_addsPlans 2 = .ok (.iconst 3, 1) := by decide +kernel
theorem dX4_addsPlans_3 : decode cX4_addsPlans 3 = .ok (.invokevirtual 279, 3) := by decide +kernel
theorem dX4_addsPlans_6 : decode cX4_addsPlans 6 = .ok (.i2l, 1) := by decide +kernel
theorem dX4_addsPlans_7 : decode cX4_addsPlans 7 = .ok (.invokevirtual 307, 3) := by decide +kernel
theorem dX4_addsPlans_10 : decode cX4_addsPlans 10 = .ok (.aload_n 0, 1) := by decide +kernel
theorem dX4_addsPlans_11 : decode cX4_addsPlans 11 = .ok (.aload_n 0, 1) := by decide +kernel
theorem dX4_addsPlans_12 : decode cX4_addsPlans 12 = .ok (.invokevirtual 282, 3) := by decide +kernel
theorem dX4_addsPlans_15 : decode cX4_addsPlans 15 = .ok (.i2l, 1) := by decide +kernel
theorem dX4_addsPlans_16 : decode cX4_addsPlans 16 = .ok (.invokevirtual 307, 3) := by decide +kernel
theorem dX4_addsPlans_19 : decode cX4_addsPlans 19 = .ok (.aload_n 0, 1) := by decide +kernel
theorem dX4_addsPlans_20 : decode cX4_addsPlans 20 = .ok (.aload_n 0, 1) := by decide +kernel
theorem dX4_addsPlans_21 : decode cX4_addsPlans 21 = .ok (.iconst 1, 1) := by decide +kernel
theorem dX4_addsPlans_22 : decode cX4_addsPlans 22 = .ok (.invokevirtual 279, 3) := by decide +kernel
theorem dX4_addsPlans_25 : decode cX4_addsPlans 25 = .ok (.i2l, 1) := by decide +kernel
theorem dX4_addsPlans_26 : decode cX4_addsPlans 26 = .ok (.invokevirtual 307, 3) := by decide +kernel
theorem dX4_addsPlans_29 : decode cX4_addsPlans 29 = .ok (.aload_n 0, 1) := by decide +kernel
theorem dX4_addsPlans_30 : decode cX4_addsPlans 30 = .ok (.invokevirtual 285, 3) := by decide +kernel
theorem dX4_addsPlans_33 : decode cX4_addsPlans 33 = .ok (.istore_n 1, 1) := by decide +kernel
theorem dX4_addsPlans_34 : decode cX4_addsPlans 34 = .ok (.aload_n 0, 1) := by decide +kernel
theorem dX4_addsPlans_35 : decode cX4_addsPlans 35 = .ok (.iload_n 1, 1) := by decide +kernel
theorem dX4_addsPlans_36 : decode cX4_addsPlans 36 = .ok (.i2l, 1) := by decide +kernel
theorem dX4_addsPlans_37 : decode cX4_addsPlans 37 = .ok (.invokevirtual 307, 3) := by decide +kernel
theorem dX4_addsPlans_40 : decode cX4_addsPlans 40 = .ok (.aload_n 0, 1) := by decide +kernel
theorem dX4_addsPlans_41 : decode cX4_addsPlans 41 = .ok (.iload_n 1, 1) := by decide +kernel
theorem dX4_addsPlans_42 : decode cX4_addsPlans 42 = .ok (.i2l, 1) := by decide +kernel
theorem dX4_addsPlans_43 : decode cX4_addsPlans 43 = .ok (.invokevirtual 307, 3) := by decide +kernel
theorem dX4_addsPlans_46 : decode cX4_addsPlans 46 = .ok (.aload_n 0, 1) := by decide +kernel
theorem dX4_addsPlans_47 : decode cX4_addsPlans 47 = .ok (.aload_n 0, 1) := by decide +kernel
theorem dX4_addsPlans_48 : decode cX4_addsPlans 48 = .ok (.iconst 0, 1) := by decide +kernel
theorem dX4_addsPlans_49 : decode cX4_addsPlans 49 = .ok (.invokevirtual 291, 3) := by decide +kernel
theorem dX4_addsPlans_52 : decode cX4_addsPlans 52 = .ok (.i2l, 1) := by decide +kernel
theorem dX4_addsPlans_53 : decode cX4_addsPlans 53 = .ok (.invokevirtual 307, 3) := by decide +kernel
theorem dX4_addsPlans_56 : decode cX4_addsPlans 56 = .ok (.aload_n 0, 1) := by decide +kernel
theorem dX4_addsPlans_57 : decode cX4_addsPlans 57 = .ok (.aload_n 0, 1) := by decide +kernel
theorem dX4_addsPlans_58 : decode cX4_addsPlans 58 = .ok (.iconst 1, 1) := by decide +kernel
theorem dX4_addsPlans_59 : decode cX4_addsPlans 59 = .ok (.invokevirtual 291, 3) := by decide +kernel
theorem dX4_addsPlans_62 : decode cX4_addsPlans 62 = .ok (.i2l, 1) := by decide +kernel
theorem dX4_addsPlans_63 : decode cX4_addsPlans 63 = .ok (.invokevirtual 307, 3) := by decide +kernel
theorem dX4_addsPlans_66 : decode cX4_addsPlans 66 = .ok (.aload_n 0, 1) := by decide +kernel
theorem dX4_addsPlans_67 : decode cX4_addsPlans 67 = .ok (.aload_n 0, 1) := by decide +kernel
theorem dX4_addsPlans_68 : decode cX4_addsPlans 68 = .ok (.iconst 2, 1) := by decide +kernel
theorem dX4_addsPlans_69 : decode cX4_addsPlans 69 = .ok (.invokevirtual 291, 3) := by decide +kernel
theorem dX4_addsPlans_72 : decode cX4_addsPlans 72 = .ok (.i2l, 1) := by decide +kernel
theorem dX4_addsPlans_73 : decode cX4_addsPlans 73 = .ok (.invokevirtual 307, 3) := by decide +kernel
theorem dX4_addsPlans_76 : decode cX4_addsPlans 76 = .ok (.aload_n 0, 1) := by decide +kernel
theorem dX4_addsPlans_77 : decode cX4_addsPlans 77 = .ok (.aload_n 0, 1) := by decide +kernel
theorem dX4_addsPlans_78 : decode cX4_addsPlans 78 = .ok (.invokevirtual 294, 3) := by decide +kernel
theorem dX4_addsPlans_81 : decode cX4_addsPlans 81 = .ok (.i2l, 1) := by decide +kernel
theorem dX4_addsPlans_82 : decode cX4_addsPlans 82 = .ok (.invokevirtual 307, 3) := by decide +kernel
theorem dX4_addsPlans_85 : decode cX4_addsPlans 85 = .ok (.return_, 1) := by decide +kernel
theorem dX4_digest_0 : decode cX4_digest 0 = .ok (.aload_n 0, 1) := by decide +kernel
theorem dX4_digest_1 : decode cX4_digest 1 = .ok (.iconst 0, 1) := by decide +kernel
theorem dX4_digest_2 : decode cX4_digest 2 = .ok (.putfield 35, 3) := by decide +kernel
theorem dX4_digest_5 : decode cX4_digest 5 = .ok (.aload_n 0, 1) := by decide +kernel
theorem dX4_digest_6 : decode cX4_digest 6 = .ok (.ldc2_w 311, 3) := by decide +kernel
theorem dX4_digest_9 : decode cX4_digest 9 = .ok (.putfield 303, 3) := by decide +kernel
theorem dX4_digest_12 : decode cX4_digest 12 = .ok (.aload_n 0, 1) := by decide +kernel
theorem dX4_digest_13 : decode cX4_digest 13 = .ok (.aload_n 0, 1) := by decide +kernel
theorem dX4_digest_14 : decode cX4_digest 14 = .ok (.getfield 13, 3) := by decide +kernel
theorem dX4_digest_17 : decode cX4_digest 17 = .ok (.iconst 0, 1) := by decide +kernel
theorem dX4_digest_18 : decode cX4_digest 18 = .ok (.iaload, 1) := by decide +kernel
theorem dX4_digest_19 : decode cX4_digest 19 = .ok (.i2l, 1) := by decide +kernel
theorem dX4_digest_20 : decode cX4_digest 20 = .ok (.invokevirtual 307, 3) := by decide +kernel
theorem dX4_digest_23 : decode cX4_digest 23 = .ok (.aload_n 0, 1) := by decide +kernel
theorem dX4_digest_24 : decode cX4_digest 24 = .ok (.aload_n 0, 1) := by decide +kernel
theorem dX4_digest_25 : decode cX4_digest 25 = .ok (.getfield 13, 3) := by decide +kernel
theorem dX4_digest_28 : decode cX4_digest 28 = .ok (.bipush 19, 2) := by decide +kernel
theorem dX4_digest_30 : decode cX4_digest 30 = .ok (.iaload, 1) := by decide +kernel
theorem dX4_digest_31 : decode cX4_digest 31 = .ok (.invokestatic 137, 3) := by decide +kernel
theorem dX4_digest_34 : decode cX4_digest 34 = .ok (.i2l, 1) := by decide +kernel
theorem dX4_digest_35 : decode cX4_digest 35 = .ok (.invokevirtual 307, 3) := by decide +kernel
theorem dX4_digest_38 : decode cX4_digest 38 = .ok (.aload_n 0, 1) := by decide +kernel
theorem dX4_digest_39 : decode cX4_digest 39 = .ok (.bipush 25, 2) := by decide +kernel
theorem dX4_digest_41 : decode cX4_digest 41 = .ok (.aload_n 0, 1) := by decide +kernel
theorem dX4_digest_42 : decode cX4_digest 42 = .ok (.invokevirtual 53, 3) := by decide +kernel
theorem dX4_digest_45 : decode cX4_digest 45 = .ok (.invokestatic 137, 3) := by decide +kernel
theorem dX4_digest_48 : decode cX4_digest 48 = .ok (.isub, 1) := by decide +kernel
theorem dX4_digest_49 : decode cX4_digest 49 = .ok (.i2l, 1) := by decide +kernel
theorem dX4_digest_50 : decode cX4_digest 50 = .ok (.invokevirtual 307, 3) := by decide +kernel
theorem dX4_digest_53 : decode cX4_digest 53 = .ok (.aload_n 0, 1) := by decide +kernel
theorem dX4_digest_54 : decode cX4_digest 54 = .ok (.aload_n 0, 1) := by decide +kernel
theorem dX4_digest_55 : decode cX4_digest 55 = .ok (.invokevirtual 264, 3) := by decide +kernel
theorem dX4_digest_58 : decode cX4_digest 58 = .ok (.ifCond .eq 7, 3) := by decide +kernel
theorem dX4_digest_61 : decode cX4_digest 61 = .ok (.lconst 1, 1) := by decide +kernel
theorem dX4_digest_62 : decode cX4_digest 62 = .ok (.goto 4, 3) := by decide +kernel
theorem dX4_digest_65 : decode cX4_digest 65 = .ok (.lconst 0, 1) := by decide +kernel
theorem dX4_digest_66 : decode cX4_digest 66 = .ok (.invokevirtual 307, 3) := by decide +kernel
theorem dX4_digest_69 : decode cX4_digest 69 = .ok (.aload_n 0, 1) := by decide +kernel
theorem dX4_digest_70 : decode cX4_digest 70 = .ok (.aload_n 0, 1) := by decide +kernel
theorem dX4_digest_71 : decode cX4_digest 71 = .ok (.invokevirtual 267, 3) := by decide +kernel
theorem dX4_digest_74 : decode cX4_digest 74 = .ok (.i2l, 1) := by decide +kernel
theorem dX4_digest_75 : decode cX4_digest 75 = .ok (.invokevirtual 307, 3) := by decide +kernel
theorem dX4_digest_78 : decode cX4_digest 78 = .ok (.aload_n 0, 1) := by decide +kernel
theorem dX4_digest_79 : decode cX4_digest 79 = .ok (.aload_n 0, 1) := by decide +kernel
theorem dX4_digest_80 : decode cX4_digest 80 = .ok (.getfield 13, 3) := by decide +kernel
theorem dX4_digest_83 : decode cX4_digest 83 = .ok (.bipush 20, 2) := by decide +kernel
theorem dX4_digest_85 : decode cX4_digest 85 = .ok (.iaload, 1) := by decide +kernel
theorem dX4_digest_86 : decode cX4_digest 86 = .ok (.i2l, 1) := by decide +kernel
theorem dX4_digest_87 : decode cX4_digest 87 = .ok (.invokevirtual 307, 3) := by decide +kernel
theorem dX4_digest_90 : decode cX4_digest 90 = .ok (.aload_n 0, 1) := by decide +kernel
theorem dX4_digest_91 : decode cX4_digest 91 = .ok (.aload_n 0, 1) := by decide +kernel
theorem dX4_digest_92 : decode cX4_digest 92 = .ok (.invokevirtual 276, 3) := by decide +kernel
theorem dX4_digest_95 : decode cX4_digest 95 = .ok (.i2l, 1) := by decide +kernel
theorem dX4_digest_96 : decode cX4_digest 96 = .ok (.invokevirtual 307, 3) := by decide +kernel
theorem dX4_digest_99 : decode cX4_digest 99 = .ok (.aload_n 0, 1) := by decide +kernel
theorem dX4_digest_100 : decode cX4_digest 100 = .ok (.aload_n 0, 1) := by decide +kernel
theorem dX4_digest_101 : decode cX4_digest 101 = .ok (.invokevirtual 276, 3) := by decide +kernel
theorem dX4_digest_104 : decode cX4_digest 104 = .ok (.i2l, 1) := by decide +kernel
theorem dX4_digest_105 : decode cX4_digest 105 = .ok (.invokevirtual 307, 3) := by decide +kernel
theorem dX4_digest_108 : decode cX4_digest 108 = .ok (.aload_n 0, 1) := by decide +kernel
theorem dX4_digest_109 : decode cX4_digest 109 = .ok (.invokevirtual 313, 3) := by decide +kernel
theorem dX4_digest_112 : decode cX4_digest 112 = .ok (.aload_n 0, 1) := by decide +kernel
theorem dX4_digest_113 : decode cX4_digest 113 = .ok (.aload_n 0, 1) := by decide +kernel
theorem dX4_digest_114 : decode cX4_digest 114 = .ok (.getfield 123, 3) := by decide +kernel
theorem dX4_digest_117 : decode cX4_digest 117 = .ok (.i2l, 1) := by decide +kernel
theorem dX4_digest_118 : decode cX4_digest 118 = .ok (.invokevirtual 307, 3) := by decide +kernel
theorem dX4_digest_121 : decode cX4_digest 121 = .ok (.iconst 0, 1) := by decide +kernel
theorem dX4_digest_122 : decode cX4_digest 122 = .ok (.istore_n 1, 1) := by decide +kernel
theorem dX4_digest_123 : decode cX4_digest 123 = .ok (.iload_n 1, 1) := by decide +kernel
theorem dX4_digest_124 : decode cX4_digest 124 = .ok (.bipush 25, 2) := by decide +kernel
theorem dX4_digest_126 : decode cX4_digest 126 = .ok (.if_icmp .ge 36, 3) := by decide +kernel
theorem dX4_digest_129 : decode cX4_digest 129 = .ok (.aload_n 0, 1) := by decide +kernel
theorem dX4_digest_130 : decode cX4_digest 130 = .ok (.aload_n 0, 1) := by decide +kernel
theorem dX4_digest_131 : decode cX4_digest 131 = .ok (.iload_n 1, 1) := by decide +kernel
theorem dX4_digest_132 : decode cX4_digest 132 = .ok (.invokevirtual 261, 3) := by decide +kernel
theorem dX4_digest_135 : decode cX4_digest 135 = .ok (.i2l, 1) := by decide +kernel
theorem dX4_digest_136 : decode cX4_digest 136 = .ok (.invokevirtual 307, 3) := by decide +kernel
theorem dX4_digest_139 : decode cX4_digest 139 = .ok (.aload_n 0, 1) := by decide +kernel
theorem dX4_digest_140 : decode cX4_digest 140 = .ok (.aload_n 0, 1) := by decide +kernel
theorem dX4_digest_141 : decode cX4_digest 141 = .ok (.iload_n 1, 1) := by decide +kernel
theorem dX4_digest_142 : decode cX4_digest 142 = .ok (.invokevirtual 134, 3) := by decide +kernel
theorem dX4_digest_145 : decode cX4_digest 145 = .ok (.ifCond .eq 7, 3) := by decide +kernel
theorem dX4_digest_148 : decode cX4_digest 148 = .ok (.lconst 1, 1) := by decide +kernel
theorem dX4_digest_149 : decode cX4_digest 149 = .ok (.goto 4, 3) := by decide +kernel
theorem dX4_digest_152 : decode cX4_digest 152 = .ok (.lconst 0, 1) := by decide +kernel
theorem dX4_digest_153 : decode cX4_digest 153 = .ok (.invokevirtual 307, 3) := by decide +kernel
theorem dX4_digest_156 : decode cX4_digest 156 = .ok (.iinc 1 1, 3) := by decide +kernel
theorem dX4_digest_159 : decode cX4_digest 159 = .ok (.goto (-36), 3) := by decide +kernel
theorem dX4_digest_162 : decode cX4_digest 162 = .ok (.iconst 0, 1) := by decide +kernel
theorem dX4_digest_163 : decode cX4_digest 163 = .ok (.istore_n 1, 1) := by decide +kernel
theorem dX4_digest_164 : decode cX4_digest 164 = .ok (.iload_n 1, 1) := by decide +kernel
theorem dX4_digest_165 : decode cX4_digest 165 = .ok (.aload_n 0, 1) := by decide +kernel
theorem dX4_digest_166 : decode cX4_digest 166 = .ok (.getfield 13, 3) := by decide +kernel
theorem dX4_digest_169 : decode cX4_digest 169 = .ok (.iconst 0, 1) := by decide +kernel
theorem dX4_digest_170 : decode cX4_digest 170 = .ok (.iaload, 1) := by decide +kernel
theorem dX4_digest_171 : decode cX4_digest 171 = .ok (.if_icmp .ge 14, 3) := by decide +kernel
theorem dX4_digest_174 : decode cX4_digest 174 = .ok (.aload_n 0, 1) := by decide +kernel
theorem dX4_digest_175 : decode cX4_digest 175 = .ok (.iload_n 1, 1) := by decide +kernel
theorem dX4_digest_176 : decode cX4_digest 176 = .ok (.invokevirtual 316, 3) := by decide +kernel
theorem dX4_digest_179 : decode cX4_digest 179 = .ok (.iinc 1 1, 3) := by decide +kernel
theorem dX4_digest_182 : decode cX4_digest 182 = .ok (.goto (-18), 3) := by decide +kernel
theorem dX4_digest_185 : decode cX4_digest 185 = .ok (.iconst 0, 1) := by decide +kernel
theorem dX4_digest_186 : decode cX4_digest 186 = .ok (.istore_n 1, 1) := by decide +kernel
theorem dX4_digest_187 : decode cX4_digest 187 = .ok (.iload_n 1, 1) := by decide +kernel
theorem dX4_digest_188 : decode cX4_digest 188 = .ok (.aload_n 0, 1) := by decide +kernel
theorem dX4_digest_189 : decode cX4_digest 189 = .ok (.getfield 13, 3) := by decide +kernel
theorem dX4_digest_192 : decode cX4_digest 192 = .ok (.bipush 20, 2) := by decide +kernel
theorem dX4_digest_194 : decode cX4_digest 194 = .ok (.iaload, 1) := by decide +kernel
theorem dX4_digest_195 : decode cX4_digest 195 = .ok (.if_icmp .ge 29, 3) := by decide +kernel
theorem dX4_digest_198 : decode cX4_digest 198 = .ok (.aload_n 0, 1) := by decide +kernel
theorem dX4_digest_199 : decode cX4_digest 199 = .ok (.aload_n 0, 1) := by decide +kernel
theorem dX4_digest_200 : decode cX4_digest 200 = .ok (.iload_n 1, 1) := by decide +kernel
theorem dX4_digest_201 : decode cX4_digest 201 = .ok (.invokevirtual 140, 3) := by decide +kernel
theorem dX4_digest_204 : decode cX4_digest 204 = .ok (.i2l, 1) := by decide +kernel
theorem dX4_digest_205 : decode cX4_digest 205 = .ok (.invokevirtual 307, 3) := by decide +kernel
theorem dX4_digest_208 : decode cX4_digest 208 = .ok (.aload_n 0, 1) := by decide +kernel
theorem dX4_digest_209 : decode cX4_digest 209 = .ok (.aload_n 0, 1) := by decide +kernel
theorem dX4_digest_210 : decode cX4_digest 210 = .ok (.iload_n 1, 1) := by decide +kernel
theorem dX4_digest_211 : decode cX4_digest 211 = .ok (.invokevirtual 143, 3) := by decide +kernel
theorem dX4_digest_214 : decode cX4_digest 214 = .ok (.i2l, 1) := by decide +kernel
theorem dX4_digest_215 : decode cX4_digest 215 = .ok (.invokevirtual 307, 3) := by decide +kernel
theorem dX4_digest_218 : decode cX4_digest 218 = .ok (.iinc 1 1, 3) := by decide +kernel
theorem dX4_digest_221 : decode cX4_digest 221 = .ok (.goto (-34), 3) := by decide +kernel
theorem dX4_digest_224 : decode cX4_digest 224 = .ok (.aload_n 0, 1) := by decide +kernel
theorem dX4_digest_225 : decode cX4_digest 225 = .ok (.aload_n 0, 1) := by decide +kernel
theorem dX4_digest_226 : decode cX4_digest 226 = .ok (.getfield 13, 3) := by decide +kernel
theorem dX4_digest_229 : decode cX4_digest 229 = .ok (.bipush 81, 2) := by decide +kernel
theorem dX4_digest_231 : decode cX4_digest 231 = .ok (.iaload, 1) := by decide +kernel
theorem dX4_digest_232 : decode cX4_digest 232 = .ok (.iconst (-1), 1) := by decide +kernel
theorem dX4_digest_233 : decode cX4_digest 233 = .ok (.if_icmp .ne 7, 3) := by decide +kernel
theorem dX4_digest_236 : decode cX4_digest 236 = .ok (.lconst 0, 1) := by decide +kernel
theorem dX4_digest_237 : decode cX4_digest 237 = .ok (.goto 4, 3) := by decide +kernel
theorem dX4_digest_240 : decode cX4_digest 240 = .ok (.lconst 1, 1) := by decide +kernel
theorem dX4_digest_241 : decode cX4_digest 241 = .ok (.invokevirtual 307, 3) := by decide +kernel
theorem dX4_digest_244 : decode cX4_digest 244 = .ok (.aload_n 0, 1) := by decide +kernel
theorem dX4_digest_245 : decode cX4_digest 245 = .ok (.getfield 13, 3) := by decide +kernel
theorem dX4_digest_248 : decode cX4_digest 248 = .ok (.bipush 81, 2) := by decide +kernel
theorem dX4_digest_250 : decode cX4_digest 250 = .ok (.iaload, 1) := by decide +kernel
theorem dX4_digest_251 : decode cX4_digest 251 = .ok (.iconst (-1), 1) := by decide +kernel
theorem dX4_digest_252 : decode cX4_digest 252 = .ok (.if_icmp .eq 15, 3) := by decide +kernel
theorem dX4_digest_255 : decode cX4_digest 255 = .ok (.aload_n 0, 1) := by decide +kernel
theorem dX4_digest_256 : decode cX4_digest 256 = .ok (.aload_n 0, 1) := by decide +kernel
theorem dX4_digest_257 : decode cX4_digest 257 = .ok (.getfield 13, 3) := by decide +kernel
theorem dX4_digest_260 : decode cX4_digest 260 = .ok (.bipush 81, 2) := by decide +kernel
theorem dX4_digest_262 : decode cX4_digest 262 = .ok (.iaload, 1) := by decide +kernel
theorem dX4_digest_263 : decode cX4_digest 263 = .ok (.i2l, 1) := by decide +kernel
theorem dX4_digest_264 : decode cX4_digest 264 = .ok (.invokevirtual 307, 3) := by decide +kernel
theorem dX4_digest_267 : decode cX4_digest 267 = .ok (.aload_n 0, 1) := by decide +kernel
theorem dX4_digest_268 : decode cX4_digest 268 = .ok (.aload_n 0, 1) := by decide +kernel
theorem dX4_digest_269 : decode cX4_digest 269 = .ok (.invokevirtual 297, 3) := by decide +kernel
theorem dX4_digest_272 : decode cX4_digest 272 = .ok (.invokestatic 319, 3) := by decide +kernel
theorem dX4_digest_275 : decode cX4_digest 275 = .ok (.invokevirtual 307, 3) := by decide +kernel
theorem dX4_digest_278 : decode cX4_digest 278 = .ok (.aload_n 0, 1) := by decide +kernel
theorem dX4_digest_279 : decode cX4_digest 279 = .ok (.aload_n 0, 1) := by decide +kernel
theorem dX4_digest_280 : decode cX4_digest 280 = .ok (.getfield 198, 3) := by decide +kernel
theorem dX4_digest_283 : decode cX4_digest 283 = .ok (.i2l, 1) := by decide +kernel
theorem dX4_digest_284 : decode cX4_digest 284 = .ok (.invokevirtual 307, 3) := by decide +kernel
theorem dX4_digest_287 : decode cX4_digest 287 = .ok (.iconst 0, 1) := by decide +kernel
theorem dX4_digest_288 : decode cX4_digest 288 = .ok (.istore_n 1, 1) := by decide +kernel
theorem dX4_digest_289 : decode cX4_digest 289 = .ok (.iload_n 1, 1) := by decide +kernel
theorem dX4_digest_290 : decode cX4_digest 290 = .ok (.aload_n 0, 1) := by decide +kernel
theorem dX4_digest_291 : decode cX4_digest 291 = .ok (.getfield 198, 3) := by decide +kernel
theorem dX4_digest_294 : decode cX4_digest 294 = .ok (.if_icmp .ge 20, 3) := by decide +kernel
theorem dX4_digest_297 : decode cX4_digest 297 = .ok (.aload_n 0, 1) := by decide +kernel
theorem dX4_digest_298 : decode cX4_digest 298 = .ok (.aload_n 0, 1) := by decide +kernel
theorem dX4_digest_299 : decode cX4_digest 299 = .ok (.getfield 7, 3) := by decide +kernel
theorem dX4_digest_302 : decode cX4_digest 302 = .ok (.iload_n 1, 1) := by decide +kernel
theorem dX4_digest_303 : decode cX4_digest 303 = .ok (.iaload, 1) := by decide +kernel
theorem dX4_digest_304 : decode cX4_digest 304 = .ok (.i2l, 1) := by decide +kernel
theorem dX4_digest_305 : decode cX4_digest 305 = .ok (.invokevirtual 307, 3) := by decide +kernel
theorem dX4_digest_308 : decode cX4_digest 308 = .ok (.iinc 1 1, 3) := by decide +kernel
theorem dX4_digest_311 : decode cX4_digest 311 = .ok (.goto (-22), 3) := by decide +kernel
theorem dX4_digest_314 : decode cX4_digest 314 = .ok (.aload_n 0, 1) := by decide +kernel
theorem dX4_digest_315 : decode cX4_digest 315 = .ok (.getfield 303, 3) := by decide +kernel
theorem dX4_digest_318 : decode cX4_digest 318 = .ok (.lreturn, 1) := by decide +kernel
theorem dJxe99ae_isNaN_b9ae7_0 : decode cJxe99ae_isNaN_b9ae7 0 = .ok (.dload_n 0, 1) := by decide +kernel
theorem dJxe99ae_isNaN_b9ae7_1 : decode cJxe99ae_isNaN_b9ae7 1 = .ok (.dload_n 0, 1) := by decide +kernel
theorem dJxe99ae_isNaN_b9ae7_2 : decode cJxe99ae_isNaN_b9ae7 2 = .ok (.dcmp .l, 1) := by decide +kernel
theorem dJxe99ae_isNaN_b9ae7_3 : decode cJxe99ae_isNaN_b9ae7 3 = .ok (.ifCond .eq 7, 3) := by decide +kernel
theorem dJxe99ae_isNaN_b9ae7_6 : decode cJxe99ae_isNaN_b9ae7 6 = .ok (.iconst 1, 1) := by decide +kernel
theorem dJxe99ae_isNaN_b9ae7_7 : decode cJxe99ae_isNaN_b9ae7 7 = .ok (.goto 4, 3) := by decide +kernel
theorem dJxe99ae_isNaN_b9ae7_10 : decode cJxe99ae_isNaN_b9ae7 10 = .ok (.iconst 0, 1) := by decide +kernel
theorem dJxe99ae_isNaN_b9ae7_11 : decode cJxe99ae_isNaN_b9ae7 11 = .ok (.ireturn, 1) := by decide +kernel
theorem dJxe99ae_doubleToLongBits_ccdee_0 : decode cJxe99ae_doubleToLongBits_ccdee 0 = .ok (.dload_n 0, 1) := by decide +kernel
theorem dJxe99ae_doubleToLongBits_ccdee_1 : decode cJxe99ae_doubleToLongBits_ccdee 1 = .ok (.invokestatic 122, 3) := by decide +kernel
theorem dJxe99ae_doubleToLongBits_ccdee_4 : decode cJxe99ae_doubleToLongBits_ccdee 4 = .ok (.ifCond .ne 8, 3) := by decide +kernel
theorem dJxe99ae_doubleToLongBits_ccdee_7 : decode cJxe99ae_doubleToLongBits_ccdee 7 = .ok (.dload_n 0, 1) := by decide +kernel
theorem dJxe99ae_doubleToLongBits_ccdee_8 : decode cJxe99ae_doubleToLongBits_ccdee 8 = .ok (.invokestatic 134, 3) := by decide +kernel
theorem dJxe99ae_doubleToLongBits_ccdee_11 : decode cJxe99ae_doubleToLongBits_ccdee 11 = .ok (.lreturn, 1) := by decide +kernel
theorem dJxe99ae_doubleToLongBits_ccdee_12 : decode cJxe99ae_doubleToLongBits_ccdee 12 = .ok (.ldc2_w 137, 3) := by decide +kernel
theorem dJxe99ae_doubleToLongBits_ccdee_15 : decode cJxe99ae_doubleToLongBits_ccdee 15 = .ok (.lreturn, 1) := by decide +kernel
theorem dJ6_bitCount_0f7a4_0 : decode cJ6_bitCount_0f7a4 0 = .ok (.iload_n 0, 1) := by decide +kernel
theorem dJ6_bitCount_0f7a4_1 : decode cJ6_bitCount_0f7a4 1 = .ok (.iload_n 0, 1) := by decide +kernel
theorem dJ6_bitCount_0f7a4_2 : decode cJ6_bitCount_0f7a4 2 = .ok (.iconst 1, 1) := by decide +kernel
theorem dJ6_bitCount_0f7a4_3 : decode cJ6_bitCount_0f7a4 3 = .ok (.iushr, 1) := by decide +kernel
theorem dJ6_bitCount_0f7a4_4 : decode cJ6_bitCount_0f7a4 4 = .ok (.ldc_w 265, 3) := by decide +kernel
theorem dJ6_bitCount_0f7a4_7 : decode cJ6_bitCount_0f7a4 7 = .ok (.iand, 1) := by decide +kernel
theorem dJ6_bitCount_0f7a4_8 : decode cJ6_bitCount_0f7a4 8 = .ok (.isub, 1) := by decide +kernel
theorem dJ6_bitCount_0f7a4_9 : decode cJ6_bitCount_0f7a4 9 = .ok (.istore_n 0, 1) := by decide +kernel
theorem dJ6_bitCount_0f7a4_10 : decode cJ6_bitCount_0f7a4 10 = .ok (.iload_n 0, 1) := by decide +kernel
theorem dJ6_bitCount_0f7a4_11 : decode cJ6_bitCount_0f7a4 11 = .ok (.ldc_w 266, 3) := by decide +kernel
theorem dJ6_bitCount_0f7a4_14 : decode cJ6_bitCount_0f7a4 14 = .ok (.iand, 1) := by decide +kernel
theorem dJ6_bitCount_0f7a4_15 : decode cJ6_bitCount_0f7a4 15 = .ok (.iload_n 0, 1) := by decide +kernel
theorem dJ6_bitCount_0f7a4_16 : decode cJ6_bitCount_0f7a4 16 = .ok (.iconst 2, 1) := by decide +kernel
theorem dJ6_bitCount_0f7a4_17 : decode cJ6_bitCount_0f7a4 17 = .ok (.iushr, 1) := by decide +kernel
theorem dJ6_bitCount_0f7a4_18 : decode cJ6_bitCount_0f7a4 18 = .ok (.ldc_w 266, 3) := by decide +kernel
theorem dJ6_bitCount_0f7a4_21 : decode cJ6_bitCount_0f7a4 21 = .ok (.iand, 1) := by decide +kernel
theorem dJ6_bitCount_0f7a4_22 : decode cJ6_bitCount_0f7a4 22 = .ok (.iadd, 1) := by decide +kernel
theorem dJ6_bitCount_0f7a4_23 : decode cJ6_bitCount_0f7a4 23 = .ok (.istore_n 0, 1) := by decide +kernel
theorem dJ6_bitCount_0f7a4_24 : decode cJ6_bitCount_0f7a4 24 = .ok (.iload_n 0, 1) := by decide +kernel
theorem dJ6_bitCount_0f7a4_25 : decode cJ6_bitCount_0f7a4 25 = .ok (.iload_n 0, 1) := by decide +kernel
theorem dJ6_bitCount_0f7a4_26 : decode cJ6_bitCount_0f7a4 26 = .ok (.iconst 4, 1) := by decide +kernel
theorem dJ6_bitCount_0f7a4_27 : decode cJ6_bitCount_0f7a4 27 = .ok (.iushr, 1) := by decide +kernel
theorem dJ6_bitCount_0f7a4_28 : decode cJ6_bitCount_0f7a4 28 = .ok (.iadd, 1) := by decide +kernel
theorem dJ6_bitCount_0f7a4_29 : decode cJ6_bitCount_0f7a4 29 = .ok (.ldc_w 267, 3) := by decide +kernel
theorem dJ6_bitCount_0f7a4_32 : decode cJ6_bitCount_0f7a4 32 = .ok (.iand, 1) := by decide +kernel
theorem dJ6_bitCount_0f7a4_33 : decode cJ6_bitCount_0f7a4 33 = .ok (.istore_n 0, 1) := by decide +kernel
theorem dJ6_bitCount_0f7a4_34 : decode cJ6_bitCount_0f7a4 34 = .ok (.iload_n 0, 1) := by decide +kernel
theorem dJ6_bitCount_0f7a4_35 : decode cJ6_bitCount_0f7a4 35 = .ok (.iload_n 0, 1) := by decide +kernel
theorem dJ6_bitCount_0f7a4_36 : decode cJ6_bitCount_0f7a4 36 = .ok (.bipush 8, 2) := by decide +kernel
theorem dJ6_bitCount_0f7a4_38 : decode cJ6_bitCount_0f7a4 38 = .ok (.iushr, 1) := by decide +kernel
theorem dJ6_bitCount_0f7a4_39 : decode cJ6_bitCount_0f7a4 39 = .ok (.iadd, 1) := by decide +kernel
theorem dJ6_bitCount_0f7a4_40 : decode cJ6_bitCount_0f7a4 40 = .ok (.istore_n 0, 1) := by decide +kernel
theorem dJ6_bitCount_0f7a4_41 : decode cJ6_bitCount_0f7a4 41 = .ok (.iload_n 0, 1) := by decide +kernel
theorem dJ6_bitCount_0f7a4_42 : decode cJ6_bitCount_0f7a4 42 = .ok (.iload_n 0, 1) := by decide +kernel
theorem dJ6_bitCount_0f7a4_43 : decode cJ6_bitCount_0f7a4 43 = .ok (.bipush 16, 2) := by decide +kernel
theorem dJ6_bitCount_0f7a4_45 : decode cJ6_bitCount_0f7a4 45 = .ok (.iushr, 1) := by decide +kernel
theorem dJ6_bitCount_0f7a4_46 : decode cJ6_bitCount_0f7a4 46 = .ok (.iadd, 1) := by decide +kernel
theorem dJ6_bitCount_0f7a4_47 : decode cJ6_bitCount_0f7a4 47 = .ok (.istore_n 0, 1) := by decide +kernel
theorem dJ6_bitCount_0f7a4_48 : decode cJ6_bitCount_0f7a4 48 = .ok (.iload_n 0, 1) := by decide +kernel
theorem dJ6_bitCount_0f7a4_49 : decode cJ6_bitCount_0f7a4 49 = .ok (.bipush 63, 2) := by decide +kernel
theorem dJ6_bitCount_0f7a4_51 : decode cJ6_bitCount_0f7a4 51 = .ok (.iand, 1) := by decide +kernel
theorem dJ6_bitCount_0f7a4_52 : decode cJ6_bitCount_0f7a4 52 = .ok (.ireturn, 1) := by decide +kernel
theorem dJ9_abs_0f7a4_0 : decode cJ9_abs_0f7a4 0 = .ok (.iload_n 0, 1) := by decide +kernel
theorem dJ9_abs_0f7a4_1 : decode cJ9_abs_0f7a4 1 = .ok (.ifCond .ge 8, 3) := by decide +kernel
theorem dJ9_abs_0f7a4_4 : decode cJ9_abs_0f7a4 4 = .ok (.iload_n 0, 1) := by decide +kernel
theorem dJ9_abs_0f7a4_5 : decode cJ9_abs_0f7a4 5 = .ok (.ineg, 1) := by decide +kernel
theorem dJ9_abs_0f7a4_6 : decode cJ9_abs_0f7a4 6 = .ok (.goto 4, 3) := by decide +kernel
theorem dJ9_abs_0f7a4_9 : decode cJ9_abs_0f7a4 9 = .ok (.iload_n 0, 1) := by decide +kernel
theorem dJ9_abs_0f7a4_10 : decode cJ9_abs_0f7a4 10 = .ok (.ireturn, 1) := by decide +kernel
theorem dJ9_max_7cf53_0 : decode cJ9_max_7cf53 0 = .ok (.iload_n 0, 1) := by decide +kernel
theorem dJ9_max_7cf53_1 : decode cJ9_max_7cf53 1 = .ok (.iload_n 1, 1) := by decide +kernel
theorem dJ9_max_7cf53_2 : decode cJ9_max_7cf53 2 = .ok (.if_icmp .lt 7, 3) := by decide +kernel
theorem dJ9_max_7cf53_5 : decode cJ9_max_7cf53 5 = .ok (.iload_n 0, 1) := by decide +kernel
theorem dJ9_max_7cf53_6 : decode cJ9_max_7cf53 6 = .ok (.goto 4, 3) := by decide +kernel
theorem dJ9_max_7cf53_9 : decode cJ9_max_7cf53 9 = .ok (.iload_n 1, 1) := by decide +kernel
theorem dJ9_max_7cf53_10 : decode cJ9_max_7cf53 10 = .ok (.ireturn, 1) := by decide +kernel
theorem dJ9_min_7cf53_0 : decode cJ9_min_7cf53 0 = .ok (.iload_n 0, 1) := by decide +kernel
theorem dJ9_min_7cf53_1 : decode cJ9_min_7cf53 1 = .ok (.iload_n 1, 1) := by decide +kernel
theorem dJ9_min_7cf53_2 : decode cJ9_min_7cf53 2 = .ok (.if_icmp .gt 7, 3) := by decide +kernel
theorem dJ9_min_7cf53_5 : decode cJ9_min_7cf53 5 = .ok (.iload_n 0, 1) := by decide +kernel
theorem dJ9_min_7cf53_6 : decode cJ9_min_7cf53 6 = .ok (.goto 4, 3) := by decide +kernel
theorem dJ9_min_7cf53_9 : decode cJ9_min_7cf53 9 = .ok (.iload_n 1, 1) := by decide +kernel
theorem dJ9_min_7cf53_10 : decode cJ9_min_7cf53 10 = .ok (.ireturn, 1) := by decide +kernel
theorem dL_addCar_0 : decode cL_addCar 0 = .ok (.aload 4, 2) := by decide +kernel
theorem dL_addCar_2 : decode cL_addCar 2 = .ok (.iconst 0, 1) := by decide +kernel
theorem dL_addCar_3 : decode cL_addCar 3 = .ok (.aload_n 0, 1) := by decide +kernel
theorem dL_addCar_4 : decode cL_addCar 4 = .ok (.iload_n 1, 1) := by decide +kernel
theorem dL_addCar_5 : decode cL_addCar 5 = .ok (.iload_n 2, 1) := by decide +kernel
theorem dL_addCar_6 : decode cL_addCar 6 = .ok (.iload_n 3, 1) := by decide +kernel
theorem dL_addCar_7 : decode cL_addCar 7 = .ok (.invokevirtual 7, 3) := by decide +kernel
theorem dL_addCar_10 : decode cL_addCar 10 = .ok (.i2l, 1) := by decide +kernel
theorem dL_addCar_11 : decode cL_addCar 11 = .ok (.lastore, 1) := by decide +kernel
theorem dL_addCar_12 : decode cL_addCar 12 = .ok (.goto 15, 3) := by decide +kernel
theorem dL_addCar_15 : decode cL_addCar 15 = .ok (.astore 5, 2) := by decide +kernel
theorem dL_addCar_17 : decode cL_addCar 17 = .ok (.iconst 1, 1) := by decide +kernel
theorem dL_addCar_18 : decode cL_addCar 18 = .ok (.ireturn, 1) := by decide +kernel
theorem dL_addCar_19 : decode cL_addCar 19 = .ok (.astore 5, 2) := by decide +kernel
theorem dL_addCar_21 : decode cL_addCar 21 = .ok (.iconst 2, 1) := by decide +kernel
theorem dL_addCar_22 : decode cL_addCar 22 = .ok (.ireturn, 1) := by decide +kernel
theorem dL_addCar_23 : decode cL_addCar 23 = .ok (.astore 5, 2) := by decide +kernel
theorem dL_addCar_25 : decode cL_addCar 25 = .ok (.iconst 3, 1) := by decide +kernel
theorem dL_addCar_26 : decode cL_addCar 26 = .ok (.ireturn, 1) := by decide +kernel
theorem dL_addCar_27 : decode cL_addCar 27 = .ok (.iconst 0, 1) := by decide +kernel
theorem dL_addCar_28 : decode cL_addCar 28 = .ok (.ireturn, 1) := by decide +kernel
theorem dL_dropLast_0 : decode cL_dropLast 0 = .ok (.aload_n 1, 1) := by decide +kernel
theorem dL_dropLast_1 : decode cL_dropLast 1 = .ok (.iconst 0, 1) := by decide +kernel
theorem dL_dropLast_2 : decode cL_dropLast 2 = .ok (.aload_n 0, 1) := by decide +kernel
theorem dL_dropLast_3 : decode cL_dropLast 3 = .ok (.invokevirtual 19, 3) := by decide +kernel
theorem dL_dropLast_6 : decode cL_dropLast 6 = .ok (.i2l, 1) := by decide +kernel
theorem dL_dropLast_7 : decode cL_dropLast 7 = .ok (.lastore, 1) := by decide +kernel
theorem dL_dropLast_8 : decode cL_dropLast 8 = .ok (.goto 6, 3) := by decide +kernel
theorem dL_dropLast_11 : decode cL_dropLast 11 = .ok (.astore_n 2, 1) := by decide +kernel
theorem dL_dropLast_12 : decode cL_dropLast 12 = .ok (.iconst 1, 1) := by decide +kernel
theorem dL_dropLast_13 : decode cL_dropLast 13 = .ok (.ireturn, 1) := by decide +kernel
theorem dL_dropLast_14 : decode cL_dropLast 14 = .ok (.iconst 0, 1) := by decide +kernel
theorem dL_dropLast_15 : decode cL_dropLast 15 = .ok (.ireturn, 1) := by decide +kernel
theorem dL_toggleWall_0 : decode cL_toggleWall 0 = .ok (.aload_n 2, 1) := by decide +kernel
theorem dL_toggleWall_1 : decode cL_toggleWall 1 = .ok (.iconst 0, 1) := by decide +kernel
theorem dL_toggleWall_2 : decode cL_toggleWall 2 = .ok (.aload_n 0, 1) := by decide +kernel
theorem dL_toggleWall_3 : decode cL_toggleWall 3 = .ok (.iload_n 1, 1) := by decide +kernel
theorem dL_toggleWall_4 : decode cL_toggleWall 4 = .ok (.invokevirtual 23, 3) := by decide +kernel
theorem dL_toggleWall_7 : decode cL_toggleWall 7 = .ok (.ifCond .eq 7, 3) := by decide +kernel
theorem dL_toggleWall_10 : decode cL_toggleWall 10 = .ok (.lconst 1, 1) := by decide +kernel
theorem dL_toggleWall_11 : decode cL_toggleWall 11 = .ok (.goto 4, 3) := by decide +kernel
theorem dL_toggleWall_14 : decode cL_toggleWall 14 = .ok (.lconst 0, 1) := by decide +kernel
theorem dL_toggleWall_15 : decode cL_toggleWall 15 = .ok (.lastore, 1) := by decide +kernel
theorem dL_toggleWall_16 : decode cL_toggleWall 16 = .ok (.goto 9, 3) := by decide +kernel
theorem dL_toggleWall_19 : decode cL_toggleWall 19 = .ok (.astore_n 3, 1) := by decide +kernel
theorem dL_toggleWall_20 : decode cL_toggleWall 20 = .ok (.iconst 1, 1) := by decide +kernel
theorem dL_toggleWall_21 : decode cL_toggleWall 21 = .ok (.ireturn, 1) := by decide +kernel
theorem dL_toggleWall_22 : decode cL_toggleWall 22 = .ok (.astore_n 3, 1) := by decide +kernel
theorem dL_toggleWall_23 : decode cL_toggleWall 23 = .ok (.iconst 2, 1) := by decide +kernel
theorem dL_toggleWall_24 : decode cL_toggleWall 24 = .ok (.ireturn, 1) := by decide +kernel
theorem dL_toggleWall_25 : decode cL_toggleWall 25 = .ok (.iconst 0, 1) := by decide +kernel
theorem dL_toggleWall_26 : decode cL_toggleWall 26 = .ok (.ireturn, 1) := by decide +kernel
theorem dL_slide_0 : decode cL_slide 0 = .ok (.aload_n 3, 1) := by decide +kernel
theorem dL_slide_1 : decode cL_slide 1 = .ok (.iconst 0, 1) := by decide +kernel
theorem dL_slide_2 : decode cL_slide 2 = .ok (.aload_n 0, 1) := by decide +kernel
theorem dL_slide_3 : decode cL_slide 3 = .ok (.iload_n 1, 1) := by decide +kernel
theorem dL_slide_4 : decode cL_slide 4 = .ok (.iload_n 2, 1) := by decide +kernel
theorem dL_slide_5 : decode cL_slide 5 = .ok (.invokevirtual 27, 3) := by decide +kernel
theorem dL_slide_8 : decode cL_slide 8 = .ok (.i2l, 1) := by decide +kernel
theorem dL_slide_9 : decode cL_slide 9 = .ok (.lastore, 1) := by decide +kernel
theorem dL_slide_10 : decode cL_slide 10 = .ok (.goto 15, 3) := by decide +kernel
theorem dL_slide_13 : decode cL_slide 13 = .ok (.astore 4, 2) := by decide +kernel
theorem dL_slide_15 : decode cL_slide 15 = .ok (.iconst 1, 1) := by decide +kernel
theorem dL_slide_16 : decode cL_slide 16 = .ok (.ireturn, 1) := by decide +kernel
theorem dL_slide_17 : decode cL_slide 17 = .ok (.astore 4, 2) := by decide +kernel
theorem dL_slide_19 : decode cL_slide 19 = .ok (.iconst 2, 1) := by decide +kernel
theorem dL_slide_20 : decode cL_slide 20 = .ok (.ireturn, 1) := by decide +kernel
theorem dL_slide_21 : decode cL_slide 21 = .ok (.astore 4, 2) := by decide +kernel
theorem dL_slide_23 : decode cL_slide 23 = .ok (.iconst 3, 1) := by decide +kernel
theorem dL_slide_24 : decode cL_slide 24 = .ok (.ireturn, 1) := by decide +kernel
theorem dL_slide_25 : decode cL_slide 25 = .ok (.iconst 0, 1) := by decide +kernel
theorem dL_slide_26 : decode cL_slide 26 = .ok (.ireturn, 1) := by decide +kernel
theorem dL_takeBack_0 : decode cL_takeBack 0 = .ok (.aload_n 1, 1) := by decide +kernel
theorem dL_takeBack_1 : decode cL_takeBack 1 = .ok (.iconst 0, 1) := by decide +kernel
theorem dL_takeBack_2 : decode cL_takeBack 2 = .ok (.aload_n 0, 1) := by decide +kernel
theorem dL_takeBack_3 : decode cL_takeBack 3 = .ok (.invokevirtual 31, 3) := by decide +kernel
theorem dL_takeBack_6 : decode cL_takeBack 6 = .ok (.i2l, 1) := by decide +kernel
theorem dL_takeBack_7 : decode cL_takeBack 7 = .ok (.lastore, 1) := by decide +kernel
theorem dL_takeBack_8 : decode cL_takeBack 8 = .ok (.goto 6, 3) := by decide +kernel
theorem dL_takeBack_11 : decode cL_takeBack 11 = .ok (.astore_n 2, 1) := by decide +kernel
theorem dL_takeBack_12 : decode cL_takeBack 12 = .ok (.iconst 1, 1) := by decide +kernel
theorem dL_takeBack_13 : decode cL_takeBack 13 = .ok (.ireturn, 1) := by decide +kernel
theorem dL_takeBack_14 : decode cL_takeBack 14 = .ok (.iconst 0, 1) := by decide +kernel
theorem dL_takeBack_15 : decode cL_takeBack 15 = .ok (.ireturn, 1) := by decide +kernel
theorem dL_driveOut_0 : decode cL_driveOut 0 = .ok (.aload_n 1, 1) := by decide +kernel
theorem dL_driveOut_1 : decode cL_driveOut 1 = .ok (.iconst 0, 1) := by decide +kernel
theorem dL_driveOut_2 : decode cL_driveOut 2 = .ok (.aload_n 0, 1) := by decide +kernel
theorem dL_driveOut_3 : decode cL_driveOut 3 = .ok (.invokevirtual 34, 3) := by decide +kernel
theorem dL_driveOut_6 : decode cL_driveOut 6 = .ok (.i2l, 1) := by decide +kernel
theorem dL_driveOut_7 : decode cL_driveOut 7 = .ok (.lastore, 1) := by decide +kernel
theorem dL_driveOut_8 : decode cL_driveOut 8 = .ok (.goto 6, 3) := by decide +kernel
theorem dL_driveOut_11 : decode cL_driveOut 11 = .ok (.astore_n 2, 1) := by decide +kernel
theorem dL_driveOut_12 : decode cL_driveOut 12 = .ok (.iconst 1, 1) := by decide +kernel
theorem dL_driveOut_13 : decode cL_driveOut 13 = .ok (.ireturn, 1) := by decide +kernel
theorem dL_driveOut_14 : decode cL_driveOut 14 = .ok (.iconst 0, 1) := by decide +kernel
theorem dL_driveOut_15 : decode cL_driveOut 15 = .ok (.ireturn, 1) := by decide +kernel
theorem dL_append_0 : decode cL_append 0 = .ok (.aload_n 2, 1) := by decide +kernel
theorem dL_append_1 : decode cL_append 1 = .ok (.iconst 0, 1) := by decide +kernel
theorem dL_append_2 : decode cL_append 2 = .ok (.aload_n 0, 1) := by decide +kernel
theorem dL_append_3 : decode cL_append 3 = .ok (.iload_n 1, 1) := by decide +kernel
theorem dL_append_4 : decode cL_append 4 = .ok (.invokevirtual 37, 3) := by decide +kernel
theorem dL_append_7 : decode cL_append 7 = .ok (.i2l, 1) := by decide +kernel
theorem dL_append_8 : decode cL_append 8 = .ok (.lastore, 1) := by decide +kernel
theorem dL_append_9 : decode cL_append 9 = .ok (.goto 9, 3) := by decide +kernel
theorem dL_append_12 : decode cL_append 12 = .ok (.astore_n 3, 1) := by decide +kernel
theorem dL_append_13 : decode cL_append 13 = .ok (.iconst 1, 1) := by decide +kernel
theorem dL_append_14 : decode cL_append 14 = .ok (.ireturn, 1) := by decide +kernel
theorem dL_append_15 : decode cL_append 15 = .ok (.astore_n 3, 1) := by decide +kernel
theorem dL_append_16 : decode cL_append 16 = .ok (.iconst 2, 1) := by decide +kernel
theorem dL_append_17 : decode cL_append 17 = .ok (.ireturn, 1) := by decide +kernel
theorem dL_append_18 : decode cL_append 18 = .ok (.iconst 0, 1) := by decide +kernel
theorem dL_append_19 : decode cL_append 19 = .ok (.ireturn, 1) := by decide +kernel
theorem dL_work_0 : decode cL_work 0 = .ok (.aload_n 1, 1) := by decide +kernel
theorem dL_work_1 : decode cL_work 1 = .ok (.iconst 0, 1) := by decide +kernel
theorem dL_work_2 : decode cL_work 2 = .ok (.aload_n 0, 1) := by decide +kernel
theorem dL_work_3 : decode cL_work 3 = .ok (.invokevirtual 41, 3) := by decide +kernel
theorem dL_work_6 : decode cL_work 6 = .ok (.i2l, 1) := by decide +kernel
theorem dL_work_7 : decode cL_work 7 = .ok (.lastore, 1) := by decide +kernel
theorem dL_work_8 : decode cL_work 8 = .ok (.goto 6, 3) := by decide +kernel
theorem dL_work_11 : decode cL_work 11 = .ok (.astore_n 2, 1) := by decide +kernel
theorem dL_work_12 : decode cL_work 12 = .ok (.iconst 1, 1) := by decide +kernel
theorem dL_work_13 : decode cL_work 13 = .ok (.ireturn, 1) := by decide +kernel
theorem dL_work_14 : decode cL_work 14 = .ok (.iconst 0, 1) := by decide +kernel
theorem dL_work_15 : decode cL_work 15 = .ok (.ireturn, 1) := by decide +kernel
theorem dL_stoppedPart_0 : decode cL_stoppedPart 0 = .ok (.aload_n 1, 1) := by decide +kernel
theorem dL_stoppedPart_1 : decode cL_stoppedPart 1 = .ok (.iconst 0, 1) := by decide +kernel
theorem dL_stoppedPart_2 : decode cL_stoppedPart 2 = .ok (.aload_n 0, 1) := by decide +kernel
theorem dL_stoppedPart_3 : decode cL_stoppedPart 3 = .ok (.invokevirtual 44, 3) := by decide +kernel
theorem dL_stoppedPart_6 : decode cL_stoppedPart 6 = .ok (.i2l, 1) := by decide +kernel
theorem dL_stoppedPart_7 : decode cL_stoppedPart 7 = .ok (.lastore, 1) := by decide +kernel
theorem dL_stoppedPart_8 : decode cL_stoppedPart 8 = .ok (.goto 6, 3) := by decide +kernel
theorem dL_stoppedPart_11 : decode cL_stoppedPart 11 = .ok (.astore_n 2, 1) := by decide +kernel
theorem dL_stoppedPart_12 : decode cL_stoppedPart 12 = .ok (.iconst 1, 1) := by decide +kernel
theorem dL_stoppedPart_13 : decode cL_stoppedPart 13 = .ok (.ireturn, 1) := by decide +kernel
theorem dL_stoppedPart_14 : decode cL_stoppedPart 14 = .ok (.iconst 0, 1) := by decide +kernel
theorem dL_stoppedPart_15 : decode cL_stoppedPart 15 = .ok (.ireturn, 1) := by decide +kernel
theorem dL_undo_0 : decode cL_undo 0 = .ok (.aload_n 1, 1) := by decide +kernel
theorem dL_undo_1 : decode cL_undo 1 = .ok (.iconst 0, 1) := by decide +kernel
theorem dL_undo_2 : decode cL_undo 2 = .ok (.aload_n 0, 1) := by decide +kernel
theorem dL_undo_3 : decode cL_undo 3 = .ok (.invokevirtual 47, 3) := by decide +kernel
theorem dL_undo_6 : decode cL_undo 6 = .ok (.i2l, 1) := by decide +kernel
theorem dL_undo_7 : decode cL_undo 7 = .ok (.lastore, 1) := by decide +kernel
theorem dL_undo_8 : decode cL_undo 8 = .ok (.goto 6, 3) := by decide +kernel
theorem dL_undo_11 : decode cL_undo 11 = .ok (.astore_n 2, 1) := by decide +kernel
theorem dL_undo_12 : decode cL_undo 12 = .ok (.iconst 1, 1) := by decide +kernel
theorem dL_undo_13 : decode cL_undo 13 = .ok (.ireturn, 1) := by decide +kernel
theorem dL_undo_14 : decode cL_undo 14 = .ok (.iconst 0, 1) := by decide +kernel
theorem dL_undo_15 : decode cL_undo 15 = .ok (.ireturn, 1) := by decide +kernel
theorem dL_restore_0 : decode cL_restore 0 = .ok (.aload_n 1, 1) := by decide +kernel
theorem dL_restore_1 : decode cL_restore 1 = .ok (.iconst 0, 1) := by decide +kernel
theorem dL_restore_2 : decode cL_restore 2 = .ok (.aload_n 0, 1) := by decide +kernel
theorem dL_restore_3 : decode cL_restore 3 = .ok (.invokevirtual 50, 3) := by decide +kernel
theorem dL_restore_6 : decode cL_restore 6 = .ok (.i2l, 1) := by decide +kernel
theorem dL_restore_7 : decode cL_restore 7 = .ok (.lastore, 1) := by decide +kernel
theorem dL_restore_8 : decode cL_restore 8 = .ok (.goto 6, 3) := by decide +kernel
theorem dL_restore_11 : decode cL_restore 11 = .ok (.astore_n 2, 1) := by decide +kernel
theorem dL_restore_12 : decode cL_restore 12 = .ok (.iconst 1, 1) := by decide +kernel
theorem dL_restore_13 : decode cL_restore 13 = .ok (.ireturn, 1) := by decide +kernel
theorem dL_restore_14 : decode cL_restore 14 = .ok (.iconst 0, 1) := by decide +kernel
theorem dL_restore_15 : decode cL_restore 15 = .ok (.ireturn, 1) := by decide +kernel
theorem dL_laneOf_0 : decode cL_laneOf 0 = .ok (.aload_n 2, 1) := by decide +kernel
theorem dL_laneOf_1 : decode cL_laneOf 1 = .ok (.iconst 0, 1) := by decide +kernel
theorem dL_laneOf_2 : decode cL_laneOf 2 = .ok (.aload_n 0, 1) := by decide +kernel
theorem dL_laneOf_3 : decode cL_laneOf 3 = .ok (.iload_n 1, 1) := by decide +kernel
theorem dL_laneOf_4 : decode cL_laneOf 4 = .ok (.invokevirtual 53, 3) := by decide +kernel
theorem dL_laneOf_7 : decode cL_laneOf 7 = .ok (.i2l, 1) := by decide +kernel
theorem dL_laneOf_8 : decode cL_laneOf 8 = .ok (.lastore, 1) := by decide +kernel
theorem dL_laneOf_9 : decode cL_laneOf 9 = .ok (.goto 6, 3) := by decide +kernel
theorem dL_laneOf_12 : decode cL_laneOf 12 = .ok (.astore_n 3, 1) := by decide +kernel
theorem dL_laneOf_13 : decode cL_laneOf 13 = .ok (.iconst 1, 1) := by decide +kernel
theorem dL_laneOf_14 : decode cL_laneOf 14 = .ok (.ireturn, 1) := by decide +kernel
theorem dL_laneOf_15 : decode cL_laneOf 15 = .ok (.iconst 0, 1) := by decide +kernel
theorem dL_laneOf_16 : decode cL_laneOf 16 = .ok (.ireturn, 1) := by decide +kernel
theorem dL_placeOf_0 : decode cL_placeOf 0 = .ok (.aload_n 2, 1) := by decide +kernel
theorem dL_placeOf_1 : decode cL_placeOf 1 = .ok (.iconst 0, 1) := by decide +kernel
theorem dL_placeOf_2 : decode cL_placeOf 2 = .ok (.aload_n 0, 1) := by decide +kernel
theorem dL_placeOf_3 : decode cL_placeOf 3 = .ok (.iload_n 1, 1) := by decide +kernel
theorem dL_placeOf_4 : decode cL_placeOf 4 = .ok (.invokevirtual 56, 3) := by decide +kernel
theorem dL_placeOf_7 : decode cL_placeOf 7 = .ok (.i2l, 1) := by decide +kernel
theorem dL_placeOf_8 : decode cL_placeOf 8 = .ok (.lastore, 1) := by decide +kernel
theorem dL_placeOf_9 : decode cL_placeOf 9 = .ok (.goto 6, 3) := by decide +kernel
theorem dL_placeOf_12 : decode cL_placeOf 12 = .ok (.astore_n 3, 1) := by decide +kernel
theorem dL_placeOf_13 : decode cL_placeOf 13 = .ok (.iconst 1, 1) := by decide +kernel
theorem dL_placeOf_14 : decode cL_placeOf 14 = .ok (.ireturn, 1) := by decide +kernel
theorem dL_placeOf_15 : decode cL_placeOf 15 = .ok (.iconst 0, 1) := by decide +kernel
theorem dL_placeOf_16 : decode cL_placeOf 16 = .ok (.ireturn, 1) := by decide +kernel
theorem dL_lengthOf_0 : decode cL_lengthOf 0 = .ok (.aload_n 2, 1) := by decide +kernel
theorem dL_lengthOf_1 : decode cL_lengthOf 1 = .ok (.iconst 0, 1) := by decide +kernel
theorem dL_lengthOf_2 : decode cL_lengthOf 2 = .ok (.aload_n 0, 1) := by decide +kernel
theorem dL_lengthOf_3 : decode cL_lengthOf 3 = .ok (.iload_n 1, 1) := by decide +kernel
theorem dL_lengthOf_4 : decode cL_lengthOf 4 = .ok (.invokevirtual 59, 3) := by decide +kernel
theorem dL_lengthOf_7 : decode cL_lengthOf 7 = .ok (.i2l, 1) := by decide +kernel
theorem dL_lengthOf_8 : decode cL_lengthOf 8 = .ok (.lastore, 1) := by decide +kernel
theorem dL_lengthOf_9 : decode cL_lengthOf 9 = .ok (.goto 6, 3) := by decide +kernel
theorem dL_lengthOf_12 : decode cL_lengthOf 12 = .ok (.astore_n 3, 1) := by decide +kernel
theorem dL_lengthOf_13 : decode cL_lengthOf 13 = .ok (.iconst 1, 1) := by decide +kernel
theorem dL_lengthOf_14 : decode cL_lengthOf 14 = .ok (.ireturn, 1) := by decide +kernel
theorem dL_lengthOf_15 : decode cL_lengthOf 15 = .ok (.iconst 0, 1) := by decide +kernel
theorem dL_lengthOf_16 : decode cL_lengthOf 16 = .ok (.ireturn, 1) := by decide +kernel
theorem dL_carOn_0 : decode cL_carOn 0 = .ok (.aload_n 2, 1) := by decide +kernel
theorem dL_carOn_1 : decode cL_carOn 1 = .ok (.iconst 0, 1) := by decide +kernel
theorem dL_carOn_2 : decode cL_carOn 2 = .ok (.aload_n 0, 1) := by decide +kernel
theorem dL_carOn_3 : decode cL_carOn 3 = .ok (.iload_n 1, 1) := by decide +kernel
theorem dL_carOn_4 : decode cL_carOn 4 = .ok (.invokevirtual 62, 3) := by decide +kernel
theorem dL_carOn_7 : decode cL_carOn 7 = .ok (.i2l, 1) := by decide +kernel
theorem dL_carOn_8 : decode cL_carOn 8 = .ok (.lastore, 1) := by decide +kernel
theorem dL_carOn_9 : decode cL_carOn 9 = .ok (.goto 6, 3) := by decide +kernel
theorem dL_carOn_12 : decode cL_carOn 12 = .ok (.astore_n 3, 1) := by decide +kernel
theorem dL_carOn_13 : decode cL_carOn 13 = .ok (.iconst 1, 1) := by decide +kernel
theorem dL_carOn_14 : decode cL_carOn 14 = .ok (.ireturn, 1) := by decide +kernel
theorem dL_carOn_15 : decode cL_carOn 15 = .ok (.iconst 0, 1) := by decide +kernel
theorem dL_carOn_16 : decode cL_carOn 16 = .ok (.ireturn, 1) := by decide +kernel
theorem dL_isWall_0 : decode cL_isWall 0 = .ok (.aload_n 2, 1) := by decide +kernel
theorem dL_isWall_1 : decode cL_isWall 1 = .ok (.iconst 0, 1) := by decide +kernel
theorem dL_isWall_2 : decode cL_isWall 2 = .ok (.aload_n 0, 1) := by decide +kernel
theorem dL_isWall_3 : decode cL_isWall 3 = .ok (.iload_n 1, 1) := by decide +kernel
theorem dL_isWall_4 : decode cL_isWall 4 = .ok (.invokevirtual 65, 3) := by decide +kernel
theorem dL_isWall_7 : decode cL_isWall 7 = .ok (.ifCond .eq 7, 3) := by decide +kernel
theorem dL_isWall_10 : decode cL_isWall 10 = .ok (.lconst 1, 1) := by decide +kernel
theorem dL_isWall_11 : decode cL_isWall 11 = .ok (.goto 4, 3) := by decide +kernel
theorem dL_isWall_14 : decode cL_isWall 14 = .ok (.lconst 0, 1) := by decide +kernel
theorem dL_isWall_15 : decode cL_isWall 15 = .ok (.lastore, 1) := by decide +kernel
theorem dL_isWall_16 : decode cL_isWall 16 = .ok (.goto 6, 3) := by decide +kernel
theorem dL_isWall_19 : decode cL_isWall 19 = .ok (.astore_n 3, 1) := by decide +kernel
theorem dL_isWall_20 : decode cL_isWall 20 = .ok (.iconst 1, 1) := by decide +kernel
theorem dL_isWall_21 : decode cL_isWall 21 = .ok (.ireturn, 1) := by decide +kernel
theorem dL_isWall_22 : decode cL_isWall 22 = .ok (.iconst 0, 1) := by decide +kernel
theorem dL_isWall_23 : decode cL_isWall 23 = .ok (.ireturn, 1) := by decide +kernel
theorem dL_room_0 : decode cL_room 0 = .ok (.aload_n 3, 1) := by decide +kernel
theorem dL_room_1 : decode cL_room 1 = .ok (.iconst 0, 1) := by decide +kernel
theorem dL_room_2 : decode cL_room 2 = .ok (.aload_n 0, 1) := by decide +kernel
theorem dL_room_3 : decode cL_room 3 = .ok (.iload_n 1, 1) := by decide +kernel
theorem dL_room_4 : decode cL_room 4 = .ok (.iload_n 2, 1) := by decide +kernel
theorem dL_room_5 : decode cL_room 5 = .ok (.invokevirtual 68, 3) := by decide +kernel
theorem dL_room_8 : decode cL_room 8 = .ok (.i2l, 1) := by decide +kernel
theorem dL_room_9 : decode cL_room 9 = .ok (.lastore, 1) := by decide +kernel
theorem dL_room_10 : decode cL_room 10 = .ok (.goto 7, 3) := by decide +kernel
theorem dL_room_13 : decode cL_room 13 = .ok (.astore 4, 2) := by decide +kernel
theorem dL_room_15 : decode cL_room 15 = .ok (.iconst 1, 1) := by decide +kernel
theorem dL_room_16 : decode cL_room 16 = .ok (.ireturn, 1) := by decide +kernel
theorem dL_room_17 : decode cL_room 17 = .ok (.iconst 0, 1) := by decide +kernel
theorem dL_room_18 : decode cL_room 18 = .ok (.ireturn, 1) := by decide +kernel
theorem dL_carOfSlide_0 : decode cL_carOfSlide 0 = .ok (.aload_n 2, 1) := by decide +kernel
theorem dL_carOfSlide_1 : decode cL_carOfSlide 1 = .ok (.iconst 0, 1) := by decide +kernel
theorem dL_carOfSlide_2 : decode cL_carOfSlide 2 = .ok (.aload_n 0, 1) := by decide +kernel
theorem dL_carOfSlide_3 : decode cL_carOfSlide 3 = .ok (.iload_n 1, 1) := by decide +kernel
theorem dL_carOfSlide_4 : decode cL_carOfSlide 4 = .ok (.invokevirtual 72, 3) := by decide +kernel
theorem dL_carOfSlide_7 : decode cL_carOfSlide 7 = .ok (.i2l, 1) := by decide +kernel
theorem dL_carOfSlide_8 : decode cL_carOfSlide 8 = .ok (.lastore, 1) := by decide +kernel
theorem dL_carOfSlide_9 : decode cL_carOfSlide 9 = .ok (.goto 6, 3) := by decide +kernel
theorem dL_carOfSlide_12 : decode cL_carOfSlide 12 = .ok (.astore_n 3, 1) := by decide +kernel
theorem dL_carOfSlide_13 : decode cL_carOfSlide 13 = .ok (.iconst 1, 1) := by decide +kernel
theorem dL_carOfSlide_14 : decode cL_carOfSlide 14 = .ok (.ireturn, 1) := by decide +kernel
theorem dL_carOfSlide_15 : decode cL_carOfSlide 15 = .ok (.iconst 0, 1) := by decide +kernel
theorem dL_carOfSlide_16 : decode cL_carOfSlide 16 = .ok (.ireturn, 1) := by decide +kernel
theorem dL_changeBySlide_0 : decode cL_changeBySlide 0 = .ok (.aload_n 2, 1) := by decide +kernel
theorem dL_changeBySlide_1 : decode cL_changeBySlide 1 = .ok (.iconst 0, 1) := by decide +kernel
theorem dL_changeBySlide_2 : decode cL_changeBySlide 2 = .ok (.aload_n 0, 1) := by decide +kernel
theorem dL_changeBySlide_3 : decode cL_changeBySlide 3 = .ok (.iload_n 1, 1) := by decide +kernel
theorem dL_changeBySlide_4 : decode cL_changeBySlide 4 = .ok (.invokevirtual 75, 3) := by decide +kernel
theorem dL_changeBySlide_7 : decode cL_changeBySlide 7 = .ok (.i2l, 1) := by decide +kernel
theorem dL_changeBySlide_8 : decode cL_changeBySlide 8 = .ok (.lastore, 1) := by decide +kernel
theorem dL_changeBySlide_9 : decode cL_changeBySlide 9 = .ok (.goto 6, 3) := by decide +kernel
theorem dL_changeBySlide_12 : decode cL_changeBySlide 12 = .ok (.astore_n 3, 1) := by decide +kernel
theorem dL_changeBySlide_13 : decode cL_changeBySlide 13 = .ok (.iconst 1, 1) := by decide +kernel
theorem dL_changeBySlide_14 : decode cL_changeBySlide 14 = .ok (.ireturn, 1) := by decide +kernel
theorem dL_changeBySlide_15 : decode cL_changeBySlide 15 = .ok (.iconst 0, 1) := by decide +kernel
theorem dL_changeBySlide_16 : decode cL_changeBySlide 16 = .ok (.ireturn, 1) := by decide +kernel
theorem dL_stepsOf_0 : decode cL_stepsOf 0 = .ok (.aload_n 2, 1) := by decide +kernel
theorem dL_stepsOf_1 : decode cL_stepsOf 1 = .ok (.iconst 0, 1) := by decide +kernel
theorem dL_stepsOf_2 : decode cL_stepsOf 2 = .ok (.aload_n 0, 1) := by decide +kernel
theorem dL_stepsOf_3 : decode cL_stepsOf 3 = .ok (.iload_n 1, 1) := by decide +kernel
theorem dL_stepsOf_4 : decode cL_stepsOf 4 = .ok (.invokevirtual 78, 3) := by decide +kernel
theorem dL_stepsOf_7 : decode cL_stepsOf 7 = .ok (.i2l, 1) := by decide +kernel
theorem dL_stepsOf_8 : decode cL_stepsOf 8 = .ok (.lastore, 1) := by decide +kernel
theorem dL_stepsOf_9 : decode cL_stepsOf 9 = .ok (.goto 6, 3) := by decide +kernel
theorem dL_stepsOf_12 : decode cL_stepsOf 12 = .ok (.astore_n 3, 1) := by decide +kernel
theorem dL_stepsOf_13 : decode cL_stepsOf 13 = .ok (.iconst 1, 1) := by decide +kernel
theorem dL_stepsOf_14 : decode cL_stepsOf 14 = .ok (.ireturn, 1) := by decide +kernel
theorem dL_stepsOf_15 : decode cL_stepsOf 15 = .ok (.iconst 0, 1) := by decide +kernel
theorem dL_stepsOf_16 : decode cL_stepsOf 16 = .ok (.ireturn, 1) := by decide +kernel
theorem dL_nextCar_0 : decode cL_nextCar 0 = .ok (.aload_n 1, 1) := by decide +kernel
theorem dL_nextCar_1 : decode cL_nextCar 1 = .ok (.iconst 0, 1) := by decide +kernel
theorem dL_nextCar_2 : decode cL_nextCar 2 = .ok (.aload_n 0, 1) := by decide +kernel
theorem dL_nextCar_3 : decode cL_nextCar 3 = .ok (.invokevirtual 81, 3) := by decide +kernel
theorem dL_nextCar_6 : decode cL_nextCar 6 = .ok (.i2l, 1) := by decide +kernel
theorem dL_nextCar_7 : decode cL_nextCar 7 = .ok (.lastore, 1) := by decide +kernel
theorem dL_nextCar_8 : decode cL_nextCar 8 = .ok (.goto 6, 3) := by decide +kernel
theorem dL_nextCar_11 : decode cL_nextCar 11 = .ok (.astore_n 2, 1) := by decide +kernel
theorem dL_nextCar_12 : decode cL_nextCar 12 = .ok (.iconst 1, 1) := by decide +kernel
theorem dL_nextCar_13 : decode cL_nextCar 13 = .ok (.ireturn, 1) := by decide +kernel
theorem dL_nextCar_14 : decode cL_nextCar 14 = .ok (.iconst 0, 1) := by decide +kernel
theorem dL_nextCar_15 : decode cL_nextCar 15 = .ok (.ireturn, 1) := by decide +kernel
theorem dL_nextChange_0 : decode cL_nextChange 0 = .ok (.aload_n 1, 1) := by decide +kernel
theorem dL_nextChange_1 : decode cL_nextChange 1 = .ok (.iconst 0, 1) := by decide +kernel
theorem dL_nextChange_2 : decode cL_nextChange 2 = .ok (.aload_n 0, 1) := by decide +kernel
theorem dL_nextChange_3 : decode cL_nextChange 3 = .ok (.invokevirtual 84, 3) := by decide +kernel
theorem dL_nextChange_6 : decode cL_nextChange 6 = .ok (.i2l, 1) := by decide +kernel
theorem dL_nextChange_7 : decode cL_nextChange 7 = .ok (.lastore, 1) := by decide +kernel
theorem dL_nextChange_8 : decode cL_nextChange 8 = .ok (.goto 6, 3) := by decide +kernel
theorem dL_nextChange_11 : decode cL_nextChange 11 = .ok (.astore_n 2, 1) := by decide +kernel
theorem dL_nextChange_12 : decode cL_nextChange 12 = .ok (.iconst 1, 1) := by decide +kernel
theorem dL_nextChange_13 : decode cL_nextChange 13 = .ok (.ireturn, 1) := by decide +kernel
theorem dL_nextChange_14 : decode cL_nextChange 14 = .ok (.iconst 0, 1) := by decide +kernel
theorem dL_nextChange_15 : decode cL_nextChange 15 = .ok (.ireturn, 1) := by decide +kernel
theorem dL_fewestBehind_0 : decode cL_fewestBehind 0 = .ok (.aload_n 3, 1) := by decide +kernel
theorem dL_fewestBehind_1 : decode cL_fewestBehind 1 = .ok (.iconst 0, 1) := by decide +kernel
theorem dL_fewestBehind_2 : decode cL_fewestBehind 2 = .ok (.aload_n 0, 1) := by decide +kernel
theorem dL_fewestBehind_3 : decode cL_fewestBehind 3 = .ok (.iload_n 1, 1) := by decide +kernel
theorem dL_fewestBehind_4 : decode cL_fewestBehind 4 = .ok (.iload_n 2, 1) := by decide +kernel
theorem dL_fewestBehind_5 : decode cL_fewestBehind 5 = .ok (.invokevirtual 87, 3) := by decide +kernel
theorem dL_fewestBehind_8 : decode cL_fewestBehind 8 = .ok (.i2l, 1) := by decide +kernel
theorem dL_fewestBehind_9 : decode cL_fewestBehind 9 = .ok (.lastore, 1) := by decide +kernel
theorem dL_fewestBehind_10 : decode cL_fewestBehind 10 = .ok (.goto 15, 3) := by decide +kernel
theorem dL_fewestBehind_13 : decode cL_fewestBehind 13 = .ok (.astore 4, 2) := by decide +kernel
theorem dL_fewestBehind_15 : decode cL_fewestBehind 15 = .ok (.iconst 1, 1) := by decide +kernel
theorem dL_fewestBehind_16 : decode cL_fewestBehind 16 = .ok (.ireturn, 1) := by decide +kernel
theorem dL_fewestBehind_17 : decode cL_fewestBehind 17 = .ok (.astore 4, 2) := by decide +kernel
theorem dL_fewestBehind_19 : decode cL_fewestBehind 19 = .ok (.iconst 2, 1) := by decide +kernel
theorem dL_fewestBehind_20 : decode cL_fewestBehind 20 = .ok (.ireturn, 1) := by decide +kernel
theorem dL_fewestBehind_21 : decode cL_fewestBehind 21 = .ok (.astore 4, 2) := by decide +kernel
theorem dL_fewestBehind_23 : decode cL_fewestBehind 23 = .ok (.iconst 3, 1) := by decide +kernel
theorem dL_fewestBehind_24 : decode cL_fewestBehind 24 = .ok (.ireturn, 1) := by decide +kernel
theorem dL_fewestBehind_25 : decode cL_fewestBehind 25 = .ok (.iconst 0, 1) := by decide +kernel
theorem dL_fewestBehind_26 : decode cL_fewestBehind 26 = .ok (.ireturn, 1) := by decide +kernel
theorem dL_fewestWithoutLast_0 : decode cL_fewestWithoutLast 0 = .ok (.aload_n 1, 1) := by decide +kernel
theorem dL_fewestWithoutLast_1 : decode cL_fewestWithoutLast 1 = .ok (.iconst 0, 1) := by decide +kernel
theorem dL_fewestWithoutLast_2 : decode cL_fewestWithoutLast 2 = .ok (.aload_n 0, 1) := by decide +kernel
theorem dL_fewestWithoutLast_3 : decode cL_fewestWithoutLast 3 = .ok (.invokevirtual 90, 3) := by decide +kernel
theorem dL_fewestWithoutLast_6 : decode cL_fewestWithoutLast 6 = .ok (.i2l, 1) := by decide +kernel
theorem dL_fewestWithoutLast_7 : decode cL_fewestWithoutLast 7 = .ok (.lastore, 1) := by decide +kernel
theorem dL_fewestWithoutLast_8 : decode cL_fewestWithoutLast 8 = .ok (.goto 6, 3) := by decide +kernel
theorem dL_fewestWithoutLast_11 : decode cL_fewestWithoutLast 11 = .ok (.astore_n 2, 1) := by decide +kernel
theorem dL_fewestWithoutLast_12 : decode cL_fewestWithoutLast 12 = .ok (.iconst 1, 1) := by decide +kernel
theorem dL_fewestWithoutLast_13 : decode cL_fewestWithoutLast 13 = .ok (.ireturn, 1) := by decide +kernel
theorem dL_fewestWithoutLast_14 : decode cL_fewestWithoutLast 14 = .ok (.iconst 0, 1) := by decide +kernel
theorem dL_fewestWithoutLast_15 : decode cL_fewestWithoutLast 15 = .ok (.ireturn, 1) := by decide +kernel
theorem dL_fewestWithWall_0 : decode cL_fewestWithWall 0 = .ok (.aload_n 2, 1) := by decide +kernel
theorem dL_fewestWithWall_1 : decode cL_fewestWithWall 1 = .ok (.iconst 0, 1) := by decide +kernel
theorem dL_fewestWithWall_2 : decode cL_fewestWithWall 2 = .ok (.aload_n 0, 1) := by decide +kernel
theorem dL_fewestWithWall_3 : decode cL_fewestWithWall 3 = .ok (.iload_n 1, 1) := by decide +kernel
theorem dL_fewestWithWall_4 : decode cL_fewestWithWall 4 = .ok (.invokevirtual 93, 3) := by decide +kernel
theorem dL_fewestWithWall_7 : decode cL_fewestWithWall 7 = .ok (.i2l, 1) := by decide +kernel
theorem dL_fewestWithWall_8 : decode cL_fewestWithWall 8 = .ok (.lastore, 1) := by decide +kernel
theorem dL_fewestWithWall_9 : decode cL_fewestWithWall 9 = .ok (.goto 9, 3) := by decide +kernel
theorem dL_fewestWithWall_12 : decode cL_fewestWithWall 12 = .ok (.astore_n 3, 1) := by decide +kernel
theorem dL_fewestWithWall_13 : decode cL_fewestWithWall 13 = .ok (.iconst 1, 1) := by decide +kernel
theorem dL_fewestWithWall_14 : decode cL_fewestWithWall 14 = .ok (.ireturn, 1) := by decide +kernel
theorem dL_fewestWithWall_15 : decode cL_fewestWithWall 15 = .ok (.astore_n 3, 1) := by decide +kernel
theorem dL_fewestWithWall_16 : decode cL_fewestWithWall 16 = .ok (.iconst 2, 1) := by decide +kernel
theorem dL_fewestWithWall_17 : decode cL_fewestWithWall 17 = .ok (.ireturn, 1) := by decide +kernel
theorem dL_fewestWithWall_18 : decode cL_fewestWithWall 18 = .ok (.iconst 0, 1) := by decide +kernel
theorem dL_fewestWithWall_19 : decode cL_fewestWithWall 19 = .ok (.ireturn, 1) := by decide +kernel
theorem dL_law_0 : decode cL_law 0 = .ok (.new 8, 3) := by decide +kernel
theorem dL_law_3 : decode cL_law 3 = .ok (.dup, 1) := by decide +kernel
theorem dL_law_4 : decode cL_law 4 = .ok (.invokespecial 96, 3) := by decide +kernel
theorem dL_law_7 : decode cL_law 7 = .ok (.astore_n 1, 1) := by decide +kernel
theorem dL_law_8 : decode cL_law 8 = .ok (.new 97, 3) := by decide +kernel
theorem dL_law_11 : decode cL_law 11 = .ok (.dup, 1) := by decide +kernel
theorem dL_law_12 : decode cL_law 12 = .ok (.invokespecial 99, 3) := by decide +kernel
theorem dL_law_15 : decode cL_law 15 = .ok (.astore_n 2, 1) := by decide +kernel
theorem dL_law_16 : decode cL_law 16 = .ok (.iconst 1, 1) := by decide +kernel
theorem dL_law_17 : decode cL_law 17 = .ok (.newarray .long, 2) := by decide +kernel
theorem dL_law_19 : decode cL_law 19 = .ok (.astore_n 3, 1) := by decide +kernel
theorem dL_law_20 : decode cL_law 20 = .ok (.iconst 0, 1) := by decide +kernel
theorem dL_law_21 : decode cL_law 21 = .ok (.istore 4, 2) := by decide +kernel
theorem dL_law_23 : decode cL_law 23 = .ok (.iload 4, 2) := by decide +kernel
theorem dL_law_25 : decode cL_law 25 = .ok (.aload_n 0, 1) := by decide +kernel
theorem dL_law_26 : decode cL_law 26 = .ok (.arraylength, 1) := by decide +kernel
theorem dL_law_27 : decode cL_law 27 = .ok (.iconst 4, 1) := by decide +kernel
theorem dL_law_28 : decode cL_law 28 = .ok (.isub, 1) := by decide +kernel
theorem dL_law_29 : decode cL_law 29 = .ok (.if_icmp .gt 1953, 3) := by decide +kernel
theorem dL_law_32 : decode cL_law 32 = .ok (.aload_n 0, 1) := by decide +kernel
theorem dL_law_33 : decode cL_law 33 = .ok (.iload 4, 2) := by decide +kernel
theorem dL_law_35 : decode cL_law 35 = .ok (.iaload, 1) := by decide +kernel
theorem dL_law_36 : decode cL_law 36 = .ok (.bipush 63, 2) := by decide +kernel
end
section
theorem dL_law_38 : decode cL_law 38 = .ok (.iand, 1) := by decide +kernel
theorem dL_law_39 : decode cL_law 39 = .ok (.tableswitch 1937 0 49 #[213, 293, 337, 400, 468, 512, 525, 569, 625, 638, 651, 695, 708, 752, 796, 809, 853, 866, 879, 892, 948, 1004, 1060, 1116, 1179, 1192, 1205, 1289, 1302, 1315, 1371, 1427, 1483, 1496, 1509, 1522, 1535, 1548, 1561, 1574, 1618, 1662, 1675, 1688, 1701, 1714, 1782, 1826, 1882, 1923], 213) := by decide +kernel
theorem dL_law_252 : decode cL_law 252 = .ok (.aload_n 1, 1) := by decide +kernel
theorem dL_law_253 : decode cL_law 253 = .ok (.aload_n 0, 1) := by decide +kernel
theorem dL_law_254 : decode cL_law 254 = .ok (.iload 4, 2) := by decide +kernel
theorem dL_law_256 : decode cL_law 256 = .ok (.iconst 1, 1) := by decide +kernel
theorem dL_law_257 : decode cL_law 257 = .ok (.iadd, 1) := by decide +kernel
theorem dL_law_258 : decode cL_law 258 = .ok (.iaload, 1) := by decide +kernel
theorem dL_law_259 : decode cL_law 259 = .ok (.aload_n 0, 1) := by decide +kernel
theorem dL_law_260 : decode cL_law 260 = .ok (.iload 4, 2) := by decide +kernel
theorem dL_law_262 : decode cL_law 262 = .ok (.iconst 2, 1) := by decide +kernel
theorem dL_law_263 : decode cL_law 263 = .ok (.iadd, 1) := by decide +kernel
theorem dL_law_264 : decode cL_law 264 = .ok (.iaload, 1) := by decide +kernel
theorem dL_law_265 : decode cL_law 265 = .ok (.aload_n 0, 1) := by decide +kernel
theorem dL_law_266 : decode cL_law 266 = .ok (.iload 4, 2) := by decide +kernel
theorem dL_law_268 : decode cL_law 268 = .ok (.iconst 3, 1) := by decide +kernel
theorem dL_law_269 : decode cL_law 269 = .ok (.iadd, 1) := by decide +kernel
theorem dL_law_270 : decode cL_law 270 = .ok (.iaload, 1) := by decide +kernel
theorem dL_law_271 : decode cL_law 271 = .ok (.aload_n 3, 1) := by decide +kernel
theorem dL_law_272 : decode cL_law 272 = .ok (.invokestatic 100, 3) := by decide +kernel
theorem dL_law_275 : decode cL_law 275 = .ok (.istore 5, 2) := by decide +kernel
theorem dL_law_277 : decode cL_law 277 = .ok (.aload_n 2, 1) := by decide +kernel
theorem dL_law_278 : decode cL_law 278 = .ok (.aload_n 0, 1) := by decide +kernel
theorem dL_law_279 : decode cL_law 279 = .ok (.iload 4, 2) := by decide +kernel
theorem dL_law_281 : decode cL_law 281 = .ok (.iconst 1, 1) := by decide +kernel
theorem dL_law_282 : decode cL_law 282 = .ok (.iadd, 1) := by decide +kernel
theorem dL_law_283 : decode cL_law 283 = .ok (.iaload, 1) := by decide +kernel
theorem dL_law_284 : decode cL_law 284 = .ok (.aload_n 0, 1) := by decide +kernel
theorem dL_law_285 : decode cL_law 285 = .ok (.iload 4, 2) := by decide +kernel
theorem dL_law_287 : decode cL_law 287 = .ok (.iconst 2, 1) := by decide +kernel
theorem dL_law_288 : decode cL_law 288 = .ok (.iadd, 1) := by decide +kernel
theorem dL_law_289 : decode cL_law 289 = .ok (.iaload, 1) := by decide +kernel
theorem dL_law_290 : decode cL_law 290 = .ok (.aload_n 0, 1) := by decide +kernel
theorem dL_law_291 : decode cL_law 291 = .ok (.iload 4, 2) := by decide +kernel
theorem dL_law_293 : decode cL_law 293 = .ok (.iconst 3, 1) := by decide +kernel
theorem dL_law_294 : decode cL_law 294 = .ok (.iadd, 1) := by decide +kernel
theorem dL_law_295 : decode cL_law 295 = .ok (.iaload, 1) := by decide +kernel
theorem dL_law_296 : decode cL_law 296 = .ok (.invokevirtual 105, 3) := by decide +kernel
theorem dL_law_299 : decode cL_law 299 = .ok (.istore 6, 2) := by decide +kernel
theorem dL_law_301 : decode cL_law 301 = .ok (.aload_n 2, 1) := by decide +kernel
theorem dL_law_302 : decode cL_law 302 = .ok (.invokevirtual 106, 3) := by decide +kernel
theorem dL_law_305 : decode cL_law 305 = .ok (.iload 5, 2) := by decide +kernel
theorem dL_law_307 : decode cL_law 307 = .ok (.if_icmp .eq 5, 3) := by decide +kernel
theorem dL_law_310 : decode cL_law 310 = .ok (.iconst 0, 1) := by decide +kernel
theorem dL_law_311 : decode cL_law 311 = .ok (.ireturn, 1) := by decide +kernel
theorem dL_law_312 : decode cL_law 312 = .ok (.iload 5, 2) := by decide +kernel
theorem dL_law_314 : decode cL_law 314 = .ok (.ifCond .ne 15, 3) := by decide +kernel
theorem dL_law_317 : decode cL_law 317 = .ok (.aload_n 3, 1) := by decide +kernel
theorem dL_law_318 : decode cL_law 318 = .ok (.iconst 0, 1) := by decide +kernel
theorem dL_law_319 : decode cL_law 319 = .ok (.laload, 1) := by decide +kernel
theorem dL_law_320 : decode cL_law 320 = .ok (.iload 6, 2) := by decide +kernel
theorem dL_law_322 : decode cL_law 322 = .ok (.i2l, 1) := by decide +kernel
theorem dL_law_323 : decode cL_law 323 = .ok (.lcmp, 1) := by decide +kernel
theorem dL_law_324 : decode cL_law 324 = .ok (.ifCond .eq 5, 3) := by decide +kernel
theorem dL_law_327 : decode cL_law 327 = .ok (.iconst 0, 1) := by decide +kernel
theorem dL_law_328 : decode cL_law 328 = .ok (.ireturn, 1) := by decide +kernel
theorem dL_law_329 : decode cL_law 329 = .ok (.goto 1647, 3) := by decide +kernel
theorem dL_law_332 : decode cL_law 332 = .ok (.aload_n 1, 1) := by decide +kernel
theorem dL_law_333 : decode cL_law 333 = .ok (.aload_n 3, 1) := by decide +kernel
theorem dL_law_334 : decode cL_law 334 = .ok (.invokestatic 109, 3) := by decide +kernel
theorem dL_law_337 : decode cL_law 337 = .ok (.istore 5, 2) := by decide +kernel
theorem dL_law_339 : decode cL_law 339 = .ok (.aload_n 2, 1) := by decide +kernel
theorem dL_law_340 : decode cL_law 340 = .ok (.invokevirtual 112, 3) := by decide +kernel
theorem dL_law_343 : decode cL_law 343 = .ok (.istore 6, 2) := by decide +kernel
theorem dL_law_345 : decode cL_law 345 = .ok (.aload_n 2, 1) := by decide +kernel
theorem dL_law_346 : decode cL_law 346 = .ok (.invokevirtual 106, 3) := by decide +kernel
theorem dL_law_349 : decode cL_law 349 = .ok (.iload 5, 2) := by decide +kernel
theorem dL_law_351 : decode cL_law 351 = .ok (.if_icmp .eq 5, 3) := by decide +kernel
theorem dL_law_354 : decode cL_law 354 = .ok (.iconst 0, 1) := by decide +kernel
theorem dL_law_355 : decode cL_law 355 = .ok (.ireturn, 1) := by decide +kernel
theorem dL_law_356 : decode cL_law 356 = .ok (.iload 5, 2) := by decide +kernel
theorem dL_law_358 : decode cL_law 358 = .ok (.ifCond .ne 15, 3) := by decide +kernel
theorem dL_law_361 : decode cL_law 361 = .ok (.aload_n 3, 1) := by decide +kernel
theorem dL_law_362 : decode cL_law 362 = .ok (.iconst 0, 1) := by decide +kernel
theorem dL_law_363 : decode cL_law 363 = .ok (.laload, 1) := by decide +kernel
theorem dL_law_364 : decode cL_law 364 = .ok (.iload 6, 2) := by decide +kernel
theorem dL_law_366 : decode cL_law 366 = .ok (.i2l, 1) := by decide +kernel
theorem dL_law_367 : decode cL_law 367 = .ok (.lcmp, 1) := by decide +kernel
theorem dL_law_368 : decode cL_law 368 = .ok (.ifCond .eq 5, 3) := by decide +kernel
theorem dL_law_371 : decode cL_law 371 = .ok (.iconst 0, 1) := by decide +kernel
theorem dL_law_372 : decode cL_law 372 = .ok (.ireturn, 1) := by decide +kernel
theorem dL_law_373 : decode cL_law 373 = .ok (.goto 1603, 3) := by decide +kernel
theorem dL_law_376 : decode cL_law 376 = .ok (.aload_n 1, 1) := by decide +kernel
theorem dL_law_377 : decode cL_law 377 = .ok (.aload_n 0, 1) := by decide +kernel
theorem dL_law_378 : decode cL_law 378 = .ok (.iload 4, 2) := by decide +kernel
theorem dL_law_380 : decode cL_law 380 = .ok (.iconst 1, 1) := by decide +kernel
theorem dL_law_381 : decode cL_law 381 = .ok (.iadd, 1) := by decide +kernel
theorem dL_law_382 : decode cL_law 382 = .ok (.iaload, 1) := by decide +kernel
theorem dL_law_383 : decode cL_law 383 = .ok (.aload_n 3, 1) := by decide +kernel
theorem dL_law_384 : decode cL_law 384 = .ok (.invokestatic 113, 3) := by decide +kernel
theorem dL_law_387 : decode cL_law 387 = .ok (.istore 5, 2) := by decide +kernel
theorem dL_law_389 : decode cL_law 389 = .ok (.aload_n 2, 1) := by decide +kernel
theorem dL_law_390 : decode cL_law 390 = .ok (.aload_n 0, 1) := by decide +kernel
theorem dL_law_391 : decode cL_law 391 = .ok (.iload 4, 2) := by decide +kernel
theorem dL_law_393 : decode cL_law 393 = .ok (.iconst 1, 1) := by decide +kernel
theorem dL_law_394 : decode cL_law 394 = .ok (.iadd, 1) := by decide +kernel
theorem dL_law_395 : decode cL_law 395 = .ok (.iaload, 1) := by decide +kernel
theorem dL_law_396 : decode cL_law 396 = .ok (.invokevirtual 116, 3) := by decide +kernel
theorem dL_law_399 : decode cL_law 399 = .ok (.istore 6, 2) := by decide +kernel
theorem dL_law_401 : decode cL_law 401 = .ok (.aload_n 2, 1) := by decide +kernel
theorem dL_law_402 : decode cL_law 402 = .ok (.invokevirtual 106, 3) := by decide +kernel
theorem dL_law_405 : decode cL_law 405 = .ok (.iload 5, 2) := by decide +kernel
theorem dL_law_407 : decode cL_law 407 = .ok (.if_icmp .eq 5, 3) := by decide +kernel
theorem dL_law_410 : decode cL_law 410 = .ok (.iconst 0, 1) := by decide +kernel
theorem dL_law_411 : decode cL_law 411 = .ok (.ireturn, 1) := by decide +kernel
theorem dL_law_412 : decode cL_law 412 = .ok (.iload 5, 2) := by decide +kernel
theorem dL_law_414 : decode cL_law 414 = .ok (.ifCond .ne 22, 3) := by decide +kernel
theorem dL_law_417 : decode cL_law 417 = .ok (.aload_n 3, 1) := by decide +kernel
theorem dL_law_418 : decode cL_law 418 = .ok (.iconst 0, 1) := by decide +kernel
theorem dL_law_419 : decode cL_law 419 = .ok (.laload, 1) := by decide +kernel
theorem dL_law_420 : decode cL_law 420 = .ok (.iload 6, 2) := by decide +kernel
theorem dL_law_422 : decode cL_law 422 = .ok (.ifCond .eq 7, 3) := by decide +kernel
theorem dL_law_425 : decode cL_law 425 = .ok (.lconst 1, 1) := by decide +kernel
theorem dL_law_426 : decode cL_law 426 = .ok (.goto 4, 3) := by decide +kernel
theorem dL_law_429 : decode cL_law 429 = .ok (.lconst 0, 1) := by decide +kernel
theorem dL_law_430 : decode cL_law 430 = .ok (.lcmp, 1) := by decide +kernel
theorem dL_law_431 : decode cL_law 431 = .ok (.ifCond .eq 5, 3) := by decide +kernel
theorem dL_law_434 : decode cL_law 434 = .ok (.iconst 0, 1) := by decide +kernel
theorem dL_law_435 : decode cL_law 435 = .ok (.ireturn, 1) := by decide +kernel
theorem dL_law_436 : decode cL_law 436 = .ok (.goto 1540, 3) := by decide +kernel
theorem dL_law_439 : decode cL_law 439 = .ok (.aload_n 1, 1) := by decide +kernel
theorem dL_law_440 : decode cL_law 440 = .ok (.aload_n 0, 1) := by decide +kernel
theorem dL_law_441 : decode cL_law 441 = .ok (.iload 4, 2) := by decide +kernel
theorem dL_law_443 : decode cL_law 443 = .ok (.iconst 1, 1) := by decide +kernel
theorem dL_law_444 : decode cL_law 444 = .ok (.iadd, 1) := by decide +kernel
theorem dL_law_445 : decode cL_law 445 = .ok (.iaload, 1) := by decide +kernel
theorem dL_law_446 : decode cL_law 446 = .ok (.aload_n 0, 1) := by decide +kernel
theorem dL_law_447 : decode cL_law 447 = .ok (.iload 4, 2) := by decide +kernel
theorem dL_law_449 : decode cL_law 449 = .ok (.iconst 2, 1) := by decide +kernel
theorem dL_law_450 : decode cL_law 450 = .ok (.iadd, 1) := by decide +kernel
theorem dL_law_451 : decode cL_law 451 = .ok (.iaload, 1) := by decide +kernel
theorem dL_law_452 : decode cL_law 452 = .ok (.aload_n 3, 1) := by decide +kernel
theorem dL_law_453 : decode cL_law 453 = .ok (.invokestatic 117, 3) := by decide +kernel
theorem dL_law_456 : decode cL_law 456 = .ok (.istore 5, 2) := by decide +kernel
theorem dL_law_458 : decode cL_law 458 = .ok (.aload_n 2, 1) := by decide +kernel
theorem dL_law_459 : decode cL_law 459 = .ok (.aload_n 0, 1) := by decide +kernel
theorem dL_law_460 : decode cL_law 460 = .ok (.iload 4, 2) := by decide +kernel
theorem dL_law_462 : decode cL_law 462 = .ok (.iconst 1, 1) := by decide +kernel
theorem dL_law_463 : decode cL_law 463 = .ok (.iadd, 1) := by decide +kernel
theorem dL_law_464 : decode cL_law 464 = .ok (.iaload, 1) := by decide +kernel
theorem dL_law_465 : decode cL_law 465 = .ok (.aload_n 0, 1) := by decide +kernel
theorem dL_law_466 : decode cL_law 466 = .ok (.iload 4, 2) := by decide +kernel
theorem dL_law_468 : decode cL_law 468 = .ok (.iconst 2, 1) := by decide +kernel
theorem dL_law_469 : decode cL_law 469 = .ok (.iadd, 1) := by decide +kernel
theorem dL_law_470 : decode cL_law 470 = .ok (.iaload, 1) := by decide +kernel
theorem dL_law_471 : decode cL_law 471 = .ok (.invokevirtual 120, 3) := by decide +kernel
theorem dL_law_474 : decode cL_law 474 = .ok (.istore 6, 2) := by decide +kernel
theorem dL_law_476 : decode cL_law 476 = .ok (.aload_n 2, 1) := by decide +kernel
theorem dL_law_477 : decode cL_law 477 = .ok (.invokevirtual 106, 3) := by decide +kernel
theorem dL_law_480 : decode cL_law 480 = .ok (.iload 5, 2) := by decide +kernel
theorem dL_law_482 : decode cL_law 482 = .ok (.if_icmp .eq 5, 3) := by decide +kernel
theorem dL_law_485 : decode cL_law 485 = .ok (.iconst 0, 1) := by decide +kernel
theorem dL_law_486 : decode cL_law 486 = .ok (.ireturn, 1) := by decide +kernel
theorem dL_law_487 : decode cL_law 487 = .ok (.iload 5, 2) := by decide +kernel
theorem dL_law_489 : decode cL_law 489 = .ok (.ifCond .ne 15, 3) := by decide +kernel
theorem dL_law_492 : decode cL_law 492 = .ok (.aload_n 3, 1) := by decide +kernel
theorem dL_law_493 : decode cL_law 493 = .ok (.iconst 0, 1) := by decide +kernel
theorem dL_law_494 : decode cL_law 494 = .ok (.laload, 1) := by decide +kernel
theorem dL_law_495 : decode cL_law 495 = .ok (.iload 6, 2) := by decide +kernel
theorem dL_law_497 : decode cL_law 497 = .ok (.i2l, 1) := by decide +kernel
theorem dL_law_498 : decode cL_law 498 = .ok (.lcmp, 1) := by decide +kernel
theorem dL_law_499 : decode cL_law 499 = .ok (.ifCond .eq 5, 3) := by decide +kernel
theorem dL_law_502 : decode cL_law 502 = .ok (.iconst 0, 1) := by decide +kernel
theorem dL_law_503 : decode cL_law 503 = .ok (.ireturn, 1) := by decide +kernel
theorem dL_law_504 : decode cL_law 504 = .ok (.goto 1472, 3) := by decide +kernel
theorem dL_law_507 : decode cL_law 507 = .ok (.aload_n 1, 1) := by decide +kernel
theorem dL_law_508 : decode cL_law 508 = .ok (.aload_n 3, 1) := by decide +kernel
theorem dL_law_509 : decode cL_law 509 = .ok (.invokestatic 121, 3) := by decide +kernel
theorem dL_law_512 : decode cL_law 512 = .ok (.istore 5, 2) := by decide +kernel
theorem dL_law_514 : decode cL_law 514 = .ok (.aload_n 2, 1) := by decide +kernel
theorem dL_law_515 : decode cL_law 515 = .ok (.invokevirtual 123, 3) := by decide +kernel
theorem dL_law_518 : decode cL_law 518 = .ok (.istore 6, 2) := by decide +kernel
theorem dL_law_520 : decode cL_law 520 = .ok (.aload_n 2, 1) := by decide +kernel
theorem dL_law_521 : decode cL_law 521 = .ok (.invokevirtual 106, 3) := by decide +kernel
theorem dL_law_524 : decode cL_law 524 = .ok (.iload 5, 2) := by decide +kernel
theorem dL_law_526 : decode cL_law 526 = .ok (.if_icmp .eq 5, 3) := by decide +kernel
theorem dL_law_529 : decode cL_law 529 = .ok (.iconst 0, 1) := by decide +kernel
theorem dL_law_530 : decode cL_law 530 = .ok (.ireturn, 1) := by decide +kernel
theorem dL_law_531 : decode cL_law 531 = .ok (.iload 5, 2) := by decide +kernel
theorem dL_law_533 : decode cL_law 533 = .ok (.ifCond .ne 15, 3) := by decide +kernel
theorem dL_law_536 : decode cL_law 536 = .ok (.aload_n 3, 1) := by decide +kernel
theorem dL_law_537 : decode cL_law 537 = .ok (.iconst 0, 1) := by decide +kernel
theorem dL_law_538 : decode cL_law 538 = .ok (.laload, 1) := by decide +kernel
theorem dL_law_539 : decode cL_law 539 = .ok (.iload 6, 2) := by decide +kernel
theorem dL_law_541 : decode cL_law 541 = .ok (.i2l, 1) := by decide +kernel
theorem dL_law_542 : decode cL_law 542 = .ok (.lcmp, 1) := by decide +kernel
theorem dL_law_543 : decode cL_law 543 = .ok (.ifCond .eq 5, 3) := by decide +kernel
theorem dL_law_546 : decode cL_law 546 = .ok (.iconst 0, 1) := by decide +kernel
theorem dL_law_547 : decode cL_law 547 = .ok (.ireturn, 1) := by decide +kernel
theorem dL_law_548 : decode cL_law 548 = .ok (.goto 1428, 3) := by decide +kernel
theorem dL_law_551 : decode cL_law 551 = .ok (.aload_n 1, 1) := by decide +kernel
theorem dL_law_552 : decode cL_law 552 = .ok (.invokevirtual 124, 3) := by decide +kernel
theorem dL_law_555 : decode cL_law 555 = .ok (.aload_n 2, 1) := by decide +kernel
theorem dL_law_556 : decode cL_law 556 = .ok (.invokevirtual 127, 3) := by decide +kernel
theorem dL_law_559 : decode cL_law 559 = .ok (.if_icmp .eq 1417, 3) := by decide +kernel
theorem dL_law_562 : decode cL_law 562 = .ok (.iconst 0, 1) := by decide +kernel
theorem dL_law_563 : decode cL_law 563 = .ok (.ireturn, 1) := by decide +kernel
theorem dL_law_564 : decode cL_law 564 = .ok (.aload_n 1, 1) := by decide +kernel
theorem dL_law_565 : decode cL_law 565 = .ok (.aload_n 3, 1) := by decide +kernel
theorem dL_law_566 : decode cL_law 566 = .ok (.invokestatic 128, 3) := by decide +kernel
theorem dL_law_569 : decode cL_law 569 = .ok (.istore 5, 2) := by decide +kernel
theorem dL_law_571 : decode cL_law 571 = .ok (.aload_n 2, 1) := by decide +kernel
theorem dL_law_572 : decode cL_law 572 = .ok (.invokevirtual 130, 3) := by decide +kernel
theorem dL_law_575 : decode cL_law 575 = .ok (.istore 6, 2) := by decide +kernel
theorem dL_law_577 : decode cL_law 577 = .ok (.aload_n 2, 1) := by decide +kernel
theorem dL_law_578 : decode cL_law 578 = .ok (.invokevirtual 106, 3) := by decide +kernel
theorem dL_law_581 : decode cL_law 581 = .ok (.iload 5, 2) := by decide +kernel
theorem dL_law_583 : decode cL_law 583 = .ok (.if_icmp .eq 5, 3) := by decide +kernel
theorem dL_law_586 : decode cL_law 586 = .ok (.iconst 0, 1) := by decide +kernel
theorem dL_law_587 : decode cL_law 587 = .ok (.ireturn, 1) := by decide +kernel
theorem dL_law_588 : decode cL_law 588 = .ok (.iload 5, 2) := by decide +kernel
theorem dL_law_590 : decode cL_law 590 = .ok (.ifCond .ne 15, 3) := by decide +kernel
theorem dL_law_593 : decode cL_law 593 = .ok (.aload_n 3, 1) := by decide +kernel
theorem dL_law_594 : decode cL_law 594 = .ok (.iconst 0, 1) := by decide +kernel
theorem dL_law_595 : decode cL_law 595 = .ok (.laload, 1) := by decide +kernel
theorem dL_law_596 : decode cL_law 596 = .ok (.iload 6, 2) := by decide +kernel
theorem dL_law_598 : decode cL_law 598 = .ok (.i2l, 1) := by decide +kernel
theorem dL_law_599 : decode cL_law 599 = .ok (.lcmp, 1) := by decide +kernel
theorem dL_law_600 : decode cL_law 600 = .ok (.ifCond .eq 5, 3) := by decide +kernel
theorem dL_law_603 : decode cL_law 603 = .ok (.iconst 0, 1) := by decide +kernel
theorem dL_law_604 : decode cL_law 604 = .ok (.ireturn, 1) := by decide +kernel
theorem dL_law_605 : decode cL_law 605 = .ok (.goto 1371, 3) := by decide +kernel
theorem dL_law_608 : decode cL_law 608 = .ok (.aload_n 1, 1) := by decide +kernel
theorem dL_law_609 : decode cL_law 609 = .ok (.aload_n 0, 1) := by decide +kernel
theorem dL_law_610 : decode cL_law 610 = .ok (.iload 4, 2) := by decide +kernel
theorem dL_law_612 : decode cL_law 612 = .ok (.iconst 1, 1) := by decide +kernel
theorem dL_law_613 : decode cL_law 613 = .ok (.iadd, 1) := by decide +kernel
theorem dL_law_614 : decode cL_law 614 = .ok (.iaload, 1) := by decide +kernel
theorem dL_law_615 : decode cL_law 615 = .ok (.aload_n 3, 1) := by decide +kernel
theorem dL_law_616 : decode cL_law 616 = .ok (.invokestatic 131, 3) := by decide +kernel
theorem dL_law_619 : decode cL_law 619 = .ok (.istore 5, 2) := by decide +kernel
theorem dL_law_621 : decode cL_law 621 = .ok (.aload_n 2, 1) := by decide +kernel
theorem dL_law_622 : decode cL_law 622 = .ok (.aload_n 0, 1) := by decide +kernel
theorem dL_law_623 : decode cL_law 623 = .ok (.iload 4, 2) := by decide +kernel
theorem dL_law_625 : decode cL_law 625 = .ok (.iconst 1, 1) := by decide +kernel
theorem dL_law_626 : decode cL_law 626 = .ok (.iadd, 1) := by decide +kernel
theorem dL_law_627 : decode cL_law 627 = .ok (.iaload, 1) := by decide +kernel
theorem dL_law_628 : decode cL_law 628 = .ok (.invokevirtual 133, 3) := by decide +kernel
theorem dL_law_631 : decode cL_law 631 = .ok (.istore 6, 2) := by decide +kernel
theorem dL_law_633 : decode cL_law 633 = .ok (.aload_n 2, 1) := by decide +kernel
theorem dL_law_634 : decode cL_law 634 = .ok (.invokevirtual 106, 3) := by decide +kernel
theorem dL_law_637 : decode cL_law 637 = .ok (.iload 5, 2) := by decide +kernel
theorem dL_law_639 : decode cL_law 639 = .ok (.if_icmp .eq 5, 3) := by decide +kernel
theorem dL_law_642 : decode cL_law 642 = .ok (.iconst 0, 1) := by decide +kernel
theorem dL_law_643 : decode cL_law 643 = .ok (.ireturn, 1) := by decide +kernel
theorem dL_law_644 : decode cL_law 644 = .ok (.iload 5, 2) := by decide +kernel
theorem dL_law_646 : decode cL_law 646 = .ok (.ifCond .ne 15, 3) := by decide +kernel
theorem dL_law_649 : decode cL_law 649 = .ok (.aload_n 3, 1) := by decide +kernel
theorem dL_law_650 : decode cL_law 650 = .ok (.iconst 0, 1) := by decide +kernel
theorem dL_law_651 : decode cL_law 651 = .ok (.laload, 1) := by decide +kernel
theorem dL_law_652 : decode cL_law 652 = .ok (.iload 6, 2) := by decide +kernel
theorem dL_law_654 : decode cL_law 654 = .ok (.i2l, 1) := by decide +kernel
theorem dL_law_655 : decode cL_law 655 = .ok (.lcmp, 1) := by decide +kernel
theorem dL_law_656 : decode cL_law 656 = .ok (.ifCond .eq 5, 3) := by decide +kernel
theorem dL_law_659 : decode cL_law 659 = .ok (.iconst 0, 1) := by decide +kernel
theorem dL_law_660 : decode cL_law 660 = .ok (.ireturn, 1) := by decide +kernel
theorem dL_law_661 : decode cL_law 661 = .ok (.goto 1315, 3) := by decide +kernel
theorem dL_law_664 : decode cL_law 664 = .ok (.aload_n 1, 1) := by decide +kernel
theorem dL_law_665 : decode cL_law 665 = .ok (.invokevirtual 134, 3) := by decide +kernel
theorem dL_law_668 : decode cL_law 668 = .ok (.aload_n 2, 1) := by decide +kernel
theorem dL_law_669 : decode cL_law 669 = .ok (.invokevirtual 137, 3) := by decide +kernel
theorem dL_law_672 : decode cL_law 672 = .ok (.if_icmp .eq 1304, 3) := by decide +kernel
theorem dL_law_675 : decode cL_law 675 = .ok (.iconst 0, 1) := by decide +kernel
theorem dL_law_676 : decode cL_law 676 = .ok (.ireturn, 1) := by decide +kernel
theorem dL_law_677 : decode cL_law 677 = .ok (.aload_n 1, 1) := by decide +kernel
theorem dL_law_678 : decode cL_law 678 = .ok (.invokevirtual 138, 3) := by decide +kernel
theorem dL_law_681 : decode cL_law 681 = .ok (.aload_n 2, 1) := by decide +kernel
theorem dL_law_682 : decode cL_law 682 = .ok (.invokevirtual 141, 3) := by decide +kernel
theorem dL_law_685 : decode cL_law 685 = .ok (.if_icmp .eq 1291, 3) := by decide +kernel
theorem dL_law_688 : decode cL_law 688 = .ok (.iconst 0, 1) := by decide +kernel
theorem dL_law_689 : decode cL_law 689 = .ok (.ireturn, 1) := by decide +kernel
theorem dL_law_690 : decode cL_law 690 = .ok (.aload_n 1, 1) := by decide +kernel
theorem dL_law_691 : decode cL_law 691 = .ok (.aload_n 3, 1) := by decide +kernel
theorem dL_law_692 : decode cL_law 692 = .ok (.invokestatic 142, 3) := by decide +kernel
theorem dL_law_695 : decode cL_law 695 = .ok (.istore 5, 2) := by decide +kernel
theorem dL_law_697 : decode cL_law 697 = .ok (.aload_n 2, 1) := by decide +kernel
theorem dL_law_698 : decode cL_law 698 = .ok (.invokevirtual 144, 3) := by decide +kernel
theorem dL_law_701 : decode cL_law 701 = .ok (.istore 6, 2) := by decide +kernel
theorem dL_law_703 : decode cL_law 703 = .ok (.aload_n 2, 1) := by decide +kernel
theorem dL_law_704 : decode cL_law 704 = .ok (.invokevirtual 106, 3) := by decide +kernel
theorem dL_law_707 : decode cL_law 707 = .ok (.iload 5, 2) := by decide +kernel
theorem dL_law_709 : decode cL_law 709 = .ok (.if_icmp .eq 5, 3) := by decide +kernel
theorem dL_law_712 : decode cL_law 712 = .ok (.iconst 0, 1) := by decide +kernel
theorem dL_law_713 : decode cL_law 713 = .ok (.ireturn, 1) := by decide +kernel
theorem dL_law_714 : decode cL_law 714 = .ok (.iload 5, 2) := by decide +kernel
theorem dL_law_716 : decode cL_law 716 = .ok (.ifCond .ne 15, 3) := by decide +kernel
theorem dL_law_719 : decode cL_law 719 = .ok (.aload_n 3, 1) := by decide +kernel
theorem dL_law_720 : decode cL_law 720 = .ok (.iconst 0, 1) := by decide +kernel
theorem dL_law_721 : decode cL_law 721 = .ok (.laload, 1) := by decide +kernel
theorem dL_law_722 : decode cL_law 722 = .ok (.iload 6, 2) := by decide +kernel
theorem dL_law_724 : decode cL_law 724 = .ok (.i2l, 1) := by decide +kernel
theorem dL_law_725 : decode cL_law 725 = .ok (.lcmp, 1) := by decide +kernel
theorem dL_law_726 : decode cL_law 726 = .ok (.ifCond .eq 5, 3) := by decide +kernel
theorem dL_law_729 : decode cL_law 729 = .ok (.iconst 0, 1) := by decide +kernel
theorem dL_law_730 : decode cL_law 730 = .ok (.ireturn, 1) := by decide +kernel
theorem dL_law_731 : decode cL_law 731 = .ok (.goto 1245, 3) := by decide +kernel
theorem dL_law_734 : decode cL_law 734 = .ok (.aload_n 1, 1) := by decide +kernel
theorem dL_law_735 : decode cL_law 735 = .ok (.invokevirtual 145, 3) := by decide +kernel
theorem dL_law_738 : decode cL_law 738 = .ok (.aload_n 2, 1) := by decide +kernel
theorem dL_law_739 : decode cL_law 739 = .ok (.invokevirtual 149, 3) := by decide +kernel
theorem dL_law_742 : decode cL_law 742 = .ok (.if_icmp .eq 1234, 3) := by decide +kernel
theorem dL_law_745 : decode cL_law 745 = .ok (.iconst 0, 1) := by decide +kernel
theorem dL_law_746 : decode cL_law 746 = .ok (.ireturn, 1) := by decide +kernel
theorem dL_law_747 : decode cL_law 747 = .ok (.aload_n 1, 1) := by decide +kernel
theorem dL_law_748 : decode cL_law 748 = .ok (.aload_n 3, 1) := by decide +kernel
theorem dL_law_749 : decode cL_law 749 = .ok (.invokestatic 150, 3) := by decide +kernel
theorem dL_law_752 : decode cL_law 752 = .ok (.istore 5, 2) := by decide +kernel
theorem dL_law_754 : decode cL_law 754 = .ok (.aload_n 2, 1) := by decide +kernel
theorem dL_law_755 : decode cL_law 755 = .ok (.invokevirtual 152, 3) := by decide +kernel
theorem dL_law_758 : decode cL_law 758 = .ok (.istore 6, 2) := by decide +kernel
theorem dL_law_760 : decode cL_law 760 = .ok (.aload_n 2, 1) := by decide +kernel
theorem dL_law_761 : decode cL_law 761 = .ok (.invokevirtual 106, 3) := by decide +kernel
theorem dL_law_764 : decode cL_law 764 = .ok (.iload 5, 2) := by decide +kernel
theorem dL_law_766 : decode cL_law 766 = .ok (.if_icmp .eq 5, 3) := by decide +kernel
theorem dL_law_769 : decode cL_law 769 = .ok (.iconst 0, 1) := by decide +kernel
theorem dL_law_770 : decode cL_law 770 = .ok (.ireturn, 1) := by decide +kernel
theorem dL_law_771 : decode cL_law 771 = .ok (.iload 5, 2) := by decide +kernel
theorem dL_law_773 : decode cL_law 773 = .ok (.ifCond .ne 15, 3) := by decide +kernel
theorem dL_law_776 : decode cL_law 776 = .ok (.aload_n 3, 1) := by decide +kernel
theorem dL_law_777 : decode cL_law 777 = .ok (.iconst 0, 1) := by decide +kernel
theorem dL_law_778 : decode cL_law 778 = .ok (.laload, 1) := by decide +kernel
theorem dL_law_779 : decode cL_law 779 = .ok (.iload 6, 2) := by decide +kernel
theorem dL_law_781 : decode cL_law 781 = .ok (.i2l, 1) := by decide +kernel
theorem dL_law_782 : decode cL_law 782 = .ok (.lcmp, 1) := by decide +kernel
theorem dL_law_783 : decode cL_law 783 = .ok (.ifCond .eq 5, 3) := by decide +kernel
theorem dL_law_786 : decode cL_law 786 = .ok (.iconst 0, 1) := by decide +kernel
theorem dL_law_787 : decode cL_law 787 = .ok (.ireturn, 1) := by decide +kernel
theorem dL_law_788 : decode cL_law 788 = .ok (.goto 1188, 3) := by decide +kernel
theorem dL_law_791 : decode cL_law 791 = .ok (.aload_n 1, 1) := by decide +kernel
theorem dL_law_792 : decode cL_law 792 = .ok (.aload_n 3, 1) := by decide +kernel
theorem dL_law_793 : decode cL_law 793 = .ok (.invokestatic 153, 3) := by decide +kernel
theorem dL_law_796 : decode cL_law 796 = .ok (.istore 5, 2) := by decide +kernel
theorem dL_law_798 : decode cL_law 798 = .ok (.aload_n 2, 1) := by decide +kernel
theorem dL_law_799 : decode cL_law 799 = .ok (.invokevirtual 155, 3) := by decide +kernel
theorem dL_law_802 : decode cL_law 802 = .ok (.istore 6, 2) := by decide +kernel
theorem dL_law_804 : decode cL_law 804 = .ok (.aload_n 2, 1) := by decide +kernel
theorem dL_law_805 : decode cL_law 805 = .ok (.invokevirtual 106, 3) := by decide +kernel
theorem dL_law_808 : decode cL_law 808 = .ok (.iload 5, 2) := by decide +kernel
theorem dL_law_810 : decode cL_law 810 = .ok (.if_icmp .eq 5, 3) := by decide +kernel
theorem dL_law_813 : decode cL_law 813 = .ok (.iconst 0, 1) := by decide +kernel
theorem dL_law_814 : decode cL_law 814 = .ok (.ireturn, 1) := by decide +kernel
theorem dL_law_815 : decode cL_law 815 = .ok (.iload 5, 2) := by decide +kernel
theorem dL_law_817 : decode cL_law 817 = .ok (.ifCond .ne 15, 3) := by decide +kernel
theorem dL_law_820 : decode cL_law 820 = .ok (.aload_n 3, 1) := by decide +kernel
theorem dL_law_821 : decode cL_law 821 = .ok (.iconst 0, 1) := by decide +kernel
theorem dL_law_822 : decode cL_law 822 = .ok (.laload, 1) := by decide +kernel
theorem dL_law_823 : decode cL_law 823 = .ok (.iload 6, 2) := by decide +kernel
theorem dL_law_825 : decode cL_law 825 = .ok (.i2l, 1) := by decide +kernel
theorem dL_law_826 : decode cL_law 826 = .ok (.lcmp, 1) := by decide +kernel
theorem dL_law_827 : decode cL_law 827 = .ok (.ifCond .eq 5, 3) := by decide +kernel
theorem dL_law_830 : decode cL_law 830 = .ok (.iconst 0, 1) := by decide +kernel
theorem dL_law_831 : decode cL_law 831 = .ok (.ireturn, 1) := by decide +kernel
theorem dL_law_832 : decode cL_law 832 = .ok (.goto 1144, 3) := by decide +kernel
theorem dL_law_835 : decode cL_law 835 = .ok (.aload_n 1, 1) := by decide +kernel
theorem dL_law_836 : decode cL_law 836 = .ok (.invokevirtual 156, 3) := by decide +kernel
theorem dL_law_839 : decode cL_law 839 = .ok (.aload_n 2, 1) := by decide +kernel
theorem dL_law_840 : decode cL_law 840 = .ok (.invokevirtual 159, 3) := by decide +kernel
theorem dL_law_843 : decode cL_law 843 = .ok (.if_icmp .eq 1133, 3) := by decide +kernel
theorem dL_law_846 : decode cL_law 846 = .ok (.iconst 0, 1) := by decide +kernel
theorem dL_law_847 : decode cL_law 847 = .ok (.ireturn, 1) := by decide +kernel
theorem dL_law_848 : decode cL_law 848 = .ok (.aload_n 1, 1) := by decide +kernel
theorem dL_law_849 : decode cL_law 849 = .ok (.aload_n 3, 1) := by decide +kernel
theorem dL_law_850 : decode cL_law 850 = .ok (.invokestatic 160, 3) := by decide +kernel
theorem dL_law_853 : decode cL_law 853 = .ok (.istore 5, 2) := by decide +kernel
theorem dL_law_855 : decode cL_law 855 = .ok (.aload_n 2, 1) := by decide +kernel
theorem dL_law_856 : decode cL_law 856 = .ok (.invokevirtual 162, 3) := by decide +kernel
theorem dL_law_859 : decode cL_law 859 = .ok (.istore 6, 2) := by decide +kernel
theorem dL_law_861 : decode cL_law 861 = .ok (.aload_n 2, 1) := by decide +kernel
theorem dL_law_862 : decode cL_law 862 = .ok (.invokevirtual 106, 3) := by decide +kernel
theorem dL_law_865 : decode cL_law 865 = .ok (.iload 5, 2) := by decide +kernel
theorem dL_law_867 : decode cL_law 867 = .ok (.if_icmp .eq 5, 3) := by decide +kernel
theorem dL_law_870 : decode cL_law 870 = .ok (.iconst 0, 1) := by decide +kernel
theorem dL_law_871 : decode cL_law 871 = .ok (.ireturn, 1) := by decide +kernel
theorem dL_law_872 : decode cL_law 872 = .ok (.iload 5, 2) := by decide +kernel
theorem dL_law_874 : decode cL_law 874 = .ok (.ifCond .ne 15, 3) := by decide +kernel
theorem dL_law_877 : decode cL_law 877 = .ok (.aload_n 3, 1) := by decide +kernel
theorem dL_law_878 : decode cL_law 878 = .ok (.iconst 0, 1) := by decide +kernel
theorem dL_law_879 : decode cL_law 879 = .ok (.laload, 1) := by decide +kernel
theorem dL_law_880 : decode cL_law 880 = .ok (.iload 6, 2) := by decide +kernel
theorem dL_law_882 : decode cL_law 882 = .ok (.i2l, 1) := by decide +kernel
theorem dL_law_883 : decode cL_law 883 = .ok (.lcmp, 1) := by decide +kernel
theorem dL_law_884 : decode cL_law 884 = .ok (.ifCond .eq 5, 3) := by decide +kernel
theorem dL_law_887 : decode cL_law 887 = .ok (.iconst 0, 1) := by decide +kernel
theorem dL_law_888 : decode cL_law 888 = .ok (.ireturn, 1) := by decide +kernel
theorem dL_law_889 : decode cL_law 889 = .ok (.goto 1087, 3) := by decide +kernel
theorem dL_law_892 : decode cL_law 892 = .ok (.aload_n 1, 1) := by decide +kernel
theorem dL_law_893 : decode cL_law 893 = .ok (.invokevirtual 163, 3) := by decide +kernel
theorem dL_law_896 : decode cL_law 896 = .ok (.aload_n 2, 1) := by decide +kernel
theorem dL_law_897 : decode cL_law 897 = .ok (.invokevirtual 166, 3) := by decide +kernel
theorem dL_law_900 : decode cL_law 900 = .ok (.if_icmp .eq 1076, 3) := by decide +kernel
theorem dL_law_903 : decode cL_law 903 = .ok (.iconst 0, 1) := by decide +kernel
theorem dL_law_904 : decode cL_law 904 = .ok (.ireturn, 1) := by decide +kernel
theorem dL_law_905 : decode cL_law 905 = .ok (.aload_n 1, 1) := by decide +kernel
theorem dL_law_906 : decode cL_law 906 = .ok (.invokevirtual 167, 3) := by decide +kernel
theorem dL_law_909 : decode cL_law 909 = .ok (.aload_n 2, 1) := by decide +kernel
theorem dL_law_910 : decode cL_law 910 = .ok (.invokevirtual 170, 3) := by decide +kernel
theorem dL_law_913 : decode cL_law 913 = .ok (.if_icmp .eq 1063, 3) := by decide +kernel
theorem dL_law_916 : decode cL_law 916 = .ok (.iconst 0, 1) := by decide +kernel
theorem dL_law_917 : decode cL_law 917 = .ok (.ireturn, 1) := by decide +kernel
theorem dL_law_918 : decode cL_law 918 = .ok (.aload_n 1, 1) := by decide +kernel
theorem dL_law_919 : decode cL_law 919 = .ok (.invokevirtual 171, 3) := by decide +kernel
theorem dL_law_922 : decode cL_law 922 = .ok (.aload_n 2, 1) := by decide +kernel
theorem dL_law_923 : decode cL_law 923 = .ok (.invokevirtual 174, 3) := by decide +kernel
theorem dL_law_926 : decode cL_law 926 = .ok (.if_icmp .eq 1050, 3) := by decide +kernel
theorem dL_law_929 : decode cL_law 929 = .ok (.iconst 0, 1) := by decide +kernel
theorem dL_law_930 : decode cL_law 930 = .ok (.ireturn, 1) := by decide +kernel
theorem dL_law_931 : decode cL_law 931 = .ok (.aload_n 1, 1) := by decide +kernel
theorem dL_law_932 : decode cL_law 932 = .ok (.aload_n 0, 1) := by decide +kernel
theorem dL_law_933 : decode cL_law 933 = .ok (.iload 4, 2) := by decide +kernel
theorem dL_law_935 : decode cL_law 935 = .ok (.iconst 1, 1) := by decide +kernel
theorem dL_law_936 : decode cL_law 936 = .ok (.iadd, 1) := by decide +kernel
theorem dL_law_937 : decode cL_law 937 = .ok (.iaload, 1) := by decide +kernel
theorem dL_law_938 : decode cL_law 938 = .ok (.aload_n 3, 1) := by decide +kernel
theorem dL_law_939 : decode cL_law 939 = .ok (.invokestatic 175, 3) := by decide +kernel
theorem dL_law_942 : decode cL_law 942 = .ok (.istore 5, 2) := by decide +kernel
theorem dL_law_944 : decode cL_law 944 = .ok (.aload_n 2, 1) := by decide +kernel
theorem dL_law_945 : decode cL_law 945 = .ok (.aload_n 0, 1) := by decide +kernel
theorem dL_law_946 : decode cL_law 946 = .ok (.iload 4, 2) := by decide +kernel
theorem dL_law_948 : decode cL_law 948 = .ok (.iconst 1, 1) := by decide +kernel
theorem dL_law_949 : decode cL_law 949 = .ok (.iadd, 1) := by decide +kernel
theorem dL_law_950 : decode cL_law 950 = .ok (.iaload, 1) := by decide +kernel
theorem dL_law_951 : decode cL_law 951 = .ok (.invokevirtual 177, 3) := by decide +kernel
theorem dL_law_954 : decode cL_law 954 = .ok (.istore 6, 2) := by decide +kernel
theorem dL_law_956 : decode cL_law 956 = .ok (.aload_n 2, 1) := by decide +kernel
theorem dL_law_957 : decode cL_law 957 = .ok (.invokevirtual 106, 3) := by decide +kernel
theorem dL_law_960 : decode cL_law 960 = .ok (.iload 5, 2) := by decide +kernel
theorem dL_law_962 : decode cL_law 962 = .ok (.if_icmp .eq 5, 3) := by decide +kernel
theorem dL_law_965 : decode cL_law 965 = .ok (.iconst 0, 1) := by decide +kernel
theorem dL_law_966 : decode cL_law 966 = .ok (.ireturn, 1) := by decide +kernel
theorem dL_law_967 : decode cL_law 967 = .ok (.iload 5, 2) := by decide +kernel
theorem dL_law_969 : decode cL_law 969 = .ok (.ifCond .ne 15, 3) := by decide +kernel
theorem dL_law_972 : decode cL_law 972 = .ok (.aload_n 3, 1) := by decide +kernel
theorem dL_law_973 : decode cL_law 973 = .ok (.iconst 0, 1) := by decide +kernel
theorem dL_law_974 : decode cL_law 974 = .ok (.laload, 1) := by decide +kernel
theorem dL_law_975 : decode cL_law 975 = .ok (.iload 6, 2) := by decide +kernel
theorem dL_law_977 : decode cL_law 977 = .ok (.i2l, 1) := by decide +kernel
theorem dL_law_978 : decode cL_law 978 = .ok (.lcmp, 1) := by decide +kernel
theorem dL_law_979 : decode cL_law 979 = .ok (.ifCond .eq 5, 3) := by decide +kernel
theorem dL_law_982 : decode cL_law 982 = .ok (.iconst 0, 1) := by decide +kernel
theorem dL_law_983 : decode cL_law 983 = .ok (.ireturn, 1) := by decide +kernel
theorem dL_law_984 : decode cL_law 984 = .ok (.goto 992, 3) := by decide +kernel
theorem dL_law_987 : decode cL_law 987 = .ok (.aload_n 1, 1) := by decide +kernel
theorem dL_law_988 : decode cL_law 988 = .ok (.aload_n 0, 1) := by decide +kernel
theorem dL_law_989 : decode cL_law 989 = .ok (.iload 4, 2) := by decide +kernel
theorem dL_law_991 : decode cL_law 991 = .ok (.iconst 1, 1) := by decide +kernel
theorem dL_law_992 : decode cL_law 992 = .ok (.iadd, 1) := by decide +kernel
theorem dL_law_993 : decode cL_law 993 = .ok (.iaload, 1) := by decide +kernel
theorem dL_law_994 : decode cL_law 994 = .ok (.aload_n 3, 1) := by decide +kernel
theorem dL_law_995 : decode cL_law 995 = .ok (.invokestatic 178, 3) := by decide +kernel
theorem dL_law_998 : decode cL_law 998 = .ok (.istore 5, 2) := by decide +kernel
theorem dL_law_1000 : decode cL_law 1000 = .ok (.aload_n 2, 1) := by decide +kernel
theorem dL_law_1001 : decode cL_law 1001 = .ok (.aload_n 0, 1) := by decide +kernel
theorem dL_law_1002 : decode cL_law 1002 = .ok (.iload 4, 2) := by decide +kernel
theorem dL_law_1004 : decode cL_law 1004 = .ok (.iconst 1, 1) := by decide +kernel
theorem dL_law_1005 : decode cL_law 1005 = .ok (.iadd, 1) := by decide +kernel
theorem dL_law_1006 : decode cL_law 1006 = .ok (.iaload, 1) := by decide +kernel
theorem dL_law_1007 : decode cL_law 1007 = .ok (.invokevirtual 180, 3) := by decide +kernel
theorem dL_law_1010 : decode cL_law 1010 = .ok (.istore 6, 2) := by decide +kernel
theorem dL_law_1012 : decode cL_law 1012 = .ok (.aload_n 2, 1) := by decide +kernel
theorem dL_law_1013 : decode cL_law 1013 = .ok (.invokevirtual 106, 3) := by decide +kernel
theorem dL_law_1016 : decode cL_law 1016 = .ok (.iload 5, 2) := by decide +kernel
theorem dL_law_1018 : decode cL_law 1018 = .ok (.if_icmp .eq 5, 3) := by decide +kernel
theorem dL_law_1021 : decode cL_law 1021 = .ok (.iconst 0, 1) := by decide +kernel
theorem dL_law_1022 : decode cL_law 1022 = .ok (.ireturn, 1) := by decide +kernel
theorem dL_law_1023 : decode cL_law 1023 = .ok (.iload 5, 2) := by decide +kernel
theorem dL_law_1025 : decode cL_law 1025 = .ok (.ifCond .ne 15, 3) := by decide +kernel
theorem dL_law_1028 : decode cL_law 1028 = .ok (.aload_n 3, 1) := by decide +kernel
theorem dL_law_1029 : decode cL_law 1029 = .ok (.iconst 0, 1) := by decide +kernel
theorem dL_law_1030 : decode cL_law 1030 = .ok (.laload, 1) := by decide +kernel
theorem dL_law_1031 : decode cL_law 1031 = .ok (.iload 6, 2) := by decide +kernel
theorem dL_law_1033 : decode cL_law 1033 = .ok (.i2l, 1) := by decide +kernel
theorem dL_law_1034 : decode cL_law 1034 = .ok (.lcmp, 1) := by decide +kernel
theorem dL_law_1035 : decode cL_law 1035 = .ok (.ifCond .eq 5, 3) := by decide +kernel
theorem dL_law_1038 : decode cL_law 1038 = .ok (.iconst 0, 1) := by decide +kernel
theorem dL_law_1039 : decode cL_law 1039 = .ok (.ireturn, 1) := by decide +kernel
theorem dL_law_1040 : decode cL_law 1040 = .ok (.goto 936, 3) := by decide +kernel
theorem dL_law_1043 : decode cL_law 1043 = .ok (.aload_n 1, 1) := by decide +kernel
theorem dL_law_1044 : decode cL_law 1044 = .ok (.aload_n 0, 1) := by decide +kernel
theorem dL_law_1045 : decode cL_law 1045 = .ok (.iload 4, 2) := by decide +kernel
theorem dL_law_1047 : decode cL_law 1047 = .ok (.iconst 1, 1) := by decide +kernel
theorem dL_law_1048 : decode cL_law 1048 = .ok (.iadd, 1) := by decide +kernel
theorem dL_law_1049 : decode cL_law 1049 = .ok (.iaload, 1) := by decide +kernel
theorem dL_law_1050 : decode cL_law 1050 = .ok (.aload_n 3, 1) := by decide +kernel
theorem dL_law_1051 : decode cL_law 1051 = .ok (.invokestatic 181, 3) := by decide +kernel
theorem dL_law_1054 : decode cL_law 1054 = .ok (.istore 5, 2) := by decide +kernel
theorem dL_law_1056 : decode cL_law 1056 = .ok (.aload_n 2, 1) := by decide +kernel
theorem dL_law_1057 : decode cL_law 1057 = .ok (.aload_n 0, 1) := by decide +kernel
theorem dL_law_1058 : decode cL_law 1058 = .ok (.iload 4, 2) := by decide +kernel
theorem dL_law_1060 : decode cL_law 1060 = .ok (.iconst 1, 1) := by decide +kernel
theorem dL_law_1061 : decode cL_law 1061 = .ok (.iadd, 1) := by decide +kernel
theorem dL_law_1062 : decode cL_law 1062 = .ok (.iaload, 1) := by decide +kernel
theorem dL_law_1063 : decode cL_law 1063 = .ok (.invokevirtual 183, 3) := by decide +kernel
theorem dL_law_1066 : decode cL_law 1066 = .ok (.istore 6, 2) := by decide +kernel
theorem dL_law_1068 : decode cL_law 1068 = .ok (.aload_n 2, 1) := by decide +kernel
theorem dL_law_1069 : decode cL_law 1069 = .ok (.invokevirtual 106, 3) := by decide +kernel
theorem dL_law_1072 : decode cL_law 1072 = .ok (.iload 5, 2) := by decide +kernel
theorem dL_law_1074 : decode cL_law 1074 = .ok (.if_icmp .eq 5, 3) := by decide +kernel
theorem dL_law_1077 : decode cL_law 1077 = .ok (.iconst 0, 1) := by decide +kernel
theorem dL_law_1078 : decode cL_law 1078 = .ok (.ireturn, 1) := by decide +kernel
theorem dL_law_1079 : decode cL_law 1079 = .ok (.iload 5, 2) := by decide +kernel
theorem dL_law_1081 : decode cL_law 1081 = .ok (.ifCond .ne 15, 3) := by decide +kernel
theorem dL_law_1084 : decode cL_law 1084 = .ok (.aload_n 3, 1) := by decide +kernel
theorem dL_law_1085 : decode cL_law 1085 = .ok (.iconst 0, 1) := by decide +kernel
theorem dL_law_1086 : decode cL_law 1086 = .ok (.laload, 1) := by decide +kernel
theorem dL_law_1087 : decode cL_law 1087 = .ok (.iload 6, 2) := by decide +kernel
theorem dL_law_1089 : decode cL_law 1089 = .ok (.i2l, 1) := by decide +kernel
theorem dL_law_1090 : decode cL_law 1090 = .ok (.lcmp, 1) := by decide +kernel
theorem dL_law_1091 : decode cL_law 1091 = .ok (.ifCond .eq 5, 3) := by decide +kernel
theorem dL_law_1094 : decode cL_law 1094 = .ok (.iconst 0, 1) := by decide +kernel
theorem dL_law_1095 : decode cL_law 1095 = .ok (.ireturn, 1) := by decide +kernel
theorem dL_law_1096 : decode cL_law 1096 = .ok (.goto 880, 3) := by decide +kernel
theorem dL_law_1099 : decode cL_law 1099 = .ok (.aload_n 1, 1) := by decide +kernel
theorem dL_law_1100 : decode cL_law 1100 = .ok (.aload_n 0, 1) := by decide +kernel
theorem dL_law_1101 : decode cL_law 1101 = .ok (.iload 4, 2) := by decide +kernel
theorem dL_law_1103 : decode cL_law 1103 = .ok (.iconst 1, 1) := by decide +kernel
theorem dL_law_1104 : decode cL_law 1104 = .ok (.iadd, 1) := by decide +kernel
theorem dL_law_1105 : decode cL_law 1105 = .ok (.iaload, 1) := by decide +kernel
theorem dL_law_1106 : decode cL_law 1106 = .ok (.aload_n 3, 1) := by decide +kernel
theorem dL_law_1107 : decode cL_law 1107 = .ok (.invokestatic 184, 3) := by decide +kernel
theorem dL_law_1110 : decode cL_law 1110 = .ok (.istore 5, 2) := by decide +kernel
theorem dL_law_1112 : decode cL_law 1112 = .ok (.aload_n 2, 1) := by decide +kernel
theorem dL_law_1113 : decode cL_law 1113 = .ok (.aload_n 0, 1) := by decide +kernel
theorem dL_law_1114 : decode cL_law 1114 = .ok (.iload 4, 2) := by decide +kernel
theorem dL_law_1116 : decode cL_law 1116 = .ok (.iconst 1, 1) := by decide +kernel
theorem dL_law_1117 : decode cL_law 1117 = .ok (.iadd, 1) := by decide +kernel
theorem dL_law_1118 : decode cL_law 1118 = .ok (.iaload, 1) := by decide +kernel
theorem dL_law_1119 : decode cL_law 1119 = .ok (.invokevirtual 186, 3) := by decide +kernel
theorem dL_law_1122 : decode cL_law 1122 = .ok (.istore 6, 2) := by decide +kernel
theorem dL_law_1124 : decode cL_law 1124 = .ok (.aload_n 2, 1) := by decide +kernel
theorem dL_law_1125 : decode cL_law 1125 = .ok (.invokevirtual 106, 3) := by decide +kernel
theorem dL_law_1128 : decode cL_law 1128 = .ok (.iload 5, 2) := by decide +kernel
theorem dL_law_1130 : decode cL_law 1130 = .ok (.if_icmp .eq 5, 3) := by decide +kernel
theorem dL_law_1133 : decode cL_law 1133 = .ok (.iconst 0, 1) := by decide +kernel
theorem dL_law_1134 : decode cL_law 1134 = .ok (.ireturn, 1) := by decide +kernel
theorem dL_law_1135 : decode cL_law 1135 = .ok (.iload 5, 2) := by decide +kernel
theorem dL_law_1137 : decode cL_law 1137 = .ok (.ifCond .ne 15, 3) := by decide +kernel
theorem dL_law_1140 : decode cL_law 1140 = .ok (.aload_n 3, 1) := by decide +kernel
theorem dL_law_1141 : decode cL_law 1141 = .ok (.iconst 0, 1) := by decide +kernel
theorem dL_law_1142 : decode cL_law 1142 = .ok (.laload, 1) := by decide +kernel
theorem dL_law_1143 : decode cL_law 1143 = .ok (.iload 6, 2) := by decide +kernel
theorem dL_law_1145 : decode cL_law 1145 = .ok (.i2l, 1) := by decide +kernel
theorem dL_law_1146 : decode cL_law 1146 = .ok (.lcmp, 1) := by decide +kernel
theorem dL_law_1147 : decode cL_law 1147 = .ok (.ifCond .eq 5, 3) := by decide +kernel
theorem dL_law_1150 : decode cL_law 1150 = .ok (.iconst 0, 1) := by decide +kernel
theorem dL_law_1151 : decode cL_law 1151 = .ok (.ireturn, 1) := by decide +kernel
theorem dL_law_1152 : decode cL_law 1152 = .ok (.goto 824, 3) := by decide +kernel
theorem dL_law_1155 : decode cL_law 1155 = .ok (.aload_n 1, 1) := by decide +kernel
theorem dL_law_1156 : decode cL_law 1156 = .ok (.aload_n 0, 1) := by decide +kernel
theorem dL_law_1157 : decode cL_law 1157 = .ok (.iload 4, 2) := by decide +kernel
theorem dL_law_1159 : decode cL_law 1159 = .ok (.iconst 1, 1) := by decide +kernel
theorem dL_law_1160 : decode cL_law 1160 = .ok (.iadd, 1) := by decide +kernel
theorem dL_law_1161 : decode cL_law 1161 = .ok (.iaload, 1) := by decide +kernel
theorem dL_law_1162 : decode cL_law 1162 = .ok (.aload_n 3, 1) := by decide +kernel
theorem dL_law_1163 : decode cL_law 1163 = .ok (.invokestatic 187, 3) := by decide +kernel
theorem dL_law_1166 : decode cL_law 1166 = .ok (.istore 5, 2) := by decide +kernel
theorem dL_law_1168 : decode cL_law 1168 = .ok (.aload_n 2, 1) := by decide +kernel
theorem dL_law_1169 : decode cL_law 1169 = .ok (.aload_n 0, 1) := by decide +kernel
theorem dL_law_1170 : decode cL_law 1170 = .ok (.iload 4, 2) := by decide +kernel
theorem dL_law_1172 : decode cL_law 1172 = .ok (.iconst 1, 1) := by decide +kernel
theorem dL_law_1173 : decode cL_law 1173 = .ok (.iadd, 1) := by decide +kernel
theorem dL_law_1174 : decode cL_law 1174 = .ok (.iaload, 1) := by decide +kernel
theorem dL_law_1175 : decode cL_law 1175 = .ok (.invokevirtual 189, 3) := by decide +kernel
theorem dL_law_1178 : decode cL_law 1178 = .ok (.istore 6, 2) := by decide +kernel
theorem dL_law_1180 : decode cL_law 1180 = .ok (.aload_n 2, 1) := by decide +kernel
theorem dL_law_1181 : decode cL_law 1181 = .ok (.invokevirtual 106, 3) := by decide +kernel
theorem dL_law_1184 : decode cL_law 1184 = .ok (.iload 5, 2) := by decide +kernel
theorem dL_law_1186 : decode cL_law 1186 = .ok (.if_icmp .eq 5, 3) := by decide +kernel
theorem dL_law_1189 : decode cL_law 1189 = .ok (.iconst 0, 1) := by decide +kernel
theorem dL_law_1190 : decode cL_law 1190 = .ok (.ireturn, 1) := by decide +kernel
theorem dL_law_1191 : decode cL_law 1191 = .ok (.iload 5, 2) := by decide +kernel
theorem dL_law_1193 : decode cL_law 1193 = .ok (.ifCond .ne 22, 3) := by decide +kernel
theorem dL_law_1196 : decode cL_law 1196 = .ok (.aload_n 3, 1) := by decide +kernel
theorem dL_law_1197 : decode cL_law 1197 = .ok (.iconst 0, 1) := by decide +kernel
theorem dL_law_1198 : decode cL_law 1198 = .ok (.laload, 1) := by decide +kernel
theorem dL_law_1199 : decode cL_law 1199 = .ok (.iload 6, 2) := by decide +kernel
theorem dL_law_1201 : decode cL_law 1201 = .ok (.ifCond .eq 7, 3) := by decide +kernel
theorem dL_law_1204 : decode cL_law 1204 = .ok (.lconst 1, 1) := by decide +kernel
theorem dL_law_1205 : decode cL_law 1205 = .ok (.goto 4, 3) := by decide +kernel
theorem dL_law_1208 : decode cL_law 1208 = .ok (.lconst 0, 1) := by decide +kernel
theorem dL_law_1209 : decode cL_law 1209 = .ok (.lcmp, 1) := by decide +kernel
theorem dL_law_1210 : decode cL_law 1210 = .ok (.ifCond .eq 5, 3) := by decide +kernel
theorem dL_law_1213 : decode cL_law 1213 = .ok (.iconst 0, 1) := by decide +kernel
theorem dL_law_1214 : decode cL_law 1214 = .ok (.ireturn, 1) := by decide +kernel
theorem dL_law_1215 : decode cL_law 1215 = .ok (.goto 761, 3) := by decide +kernel
theorem dL_law_1218 : decode cL_law 1218 = .ok (.aload_n 1, 1) := by decide +kernel
theorem dL_law_1219 : decode cL_law 1219 = .ok (.invokevirtual 190, 3) := by decide +kernel
theorem dL_law_1222 : decode cL_law 1222 = .ok (.aload_n 2, 1) := by decide +kernel
theorem dL_law_1223 : decode cL_law 1223 = .ok (.invokevirtual 193, 3) := by decide +kernel
theorem dL_law_1226 : decode cL_law 1226 = .ok (.if_icmp .eq 750, 3) := by decide +kernel
theorem dL_law_1229 : decode cL_law 1229 = .ok (.iconst 0, 1) := by decide +kernel
theorem dL_law_1230 : decode cL_law 1230 = .ok (.ireturn, 1) := by decide +kernel
theorem dL_law_1231 : decode cL_law 1231 = .ok (.aload_n 1, 1) := by decide +kernel
theorem dL_law_1232 : decode cL_law 1232 = .ok (.invokevirtual 194, 3) := by decide +kernel
theorem dL_law_1235 : decode cL_law 1235 = .ok (.aload_n 2, 1) := by decide +kernel
theorem dL_law_1236 : decode cL_law 1236 = .ok (.invokevirtual 197, 3) := by decide +kernel
theorem dL_law_1239 : decode cL_law 1239 = .ok (.if_icmp .eq 737, 3) := by decide +kernel
theorem dL_law_1242 : decode cL_law 1242 = .ok (.iconst 0, 1) := by decide +kernel
theorem dL_law_1243 : decode cL_law 1243 = .ok (.ireturn, 1) := by decide +kernel
theorem dL_law_1244 : decode cL_law 1244 = .ok (.aload_n 1, 1) := by decide +kernel
theorem dL_law_1245 : decode cL_law 1245 = .ok (.aload_n 0, 1) := by decide +kernel
theorem dL_law_1246 : decode cL_law 1246 = .ok (.iload 4, 2) := by decide +kernel
theorem dL_law_1248 : decode cL_law 1248 = .ok (.iconst 1, 1) := by decide +kernel
theorem dL_law_1249 : decode cL_law 1249 = .ok (.iadd, 1) := by decide +kernel
theorem dL_law_1250 : decode cL_law 1250 = .ok (.iaload, 1) := by decide +kernel
theorem dL_law_1251 : decode cL_law 1251 = .ok (.aload_n 0, 1) := by decide +kernel
theorem dL_law_1252 : decode cL_law 1252 = .ok (.iload 4, 2) := by decide +kernel
theorem dL_law_1254 : decode cL_law 1254 = .ok (.iconst 2, 1) := by decide +kernel
theorem dL_law_1255 : decode cL_law 1255 = .ok (.iadd, 1) := by decide +kernel
theorem dL_law_1256 : decode cL_law 1256 = .ok (.iaload, 1) := by decide +kernel
theorem dL_law_1257 : decode cL_law 1257 = .ok (.ifCond .eq 7, 3) := by decide +kernel
theorem dL_law_1260 : decode cL_law 1260 = .ok (.iconst 1, 1) := by decide +kernel
theorem dL_law_1261 : decode cL_law 1261 = .ok (.goto 4, 3) := by decide +kernel
theorem dL_law_1264 : decode cL_law 1264 = .ok (.iconst 0, 1) := by decide +kernel
theorem dL_law_1265 : decode cL_law 1265 = .ok (.aload_n 3, 1) := by decide +kernel
theorem dL_law_1266 : decode cL_law 1266 = .ok (.invokestatic 198, 3) := by decide +kernel
theorem dL_law_1269 : decode cL_law 1269 = .ok (.istore 5, 2) := by decide +kernel
theorem dL_law_1271 : decode cL_law 1271 = .ok (.aload_n 2, 1) := by decide +kernel
theorem dL_law_1272 : decode cL_law 1272 = .ok (.aload_n 0, 1) := by decide +kernel
theorem dL_law_1273 : decode cL_law 1273 = .ok (.iload 4, 2) := by decide +kernel
theorem dL_law_1275 : decode cL_law 1275 = .ok (.iconst 1, 1) := by decide +kernel
theorem dL_law_1276 : decode cL_law 1276 = .ok (.iadd, 1) := by decide +kernel
theorem dL_law_1277 : decode cL_law 1277 = .ok (.iaload, 1) := by decide +kernel
theorem dL_law_1278 : decode cL_law 1278 = .ok (.aload_n 0, 1) := by decide +kernel
theorem dL_law_1279 : decode cL_law 1279 = .ok (.iload 4, 2) := by decide +kernel
theorem dL_law_1281 : decode cL_law 1281 = .ok (.iconst 2, 1) := by decide +kernel
theorem dL_law_1282 : decode cL_law 1282 = .ok (.iadd, 1) := by decide +kernel
theorem dL_law_1283 : decode cL_law 1283 = .ok (.iaload, 1) := by decide +kernel
theorem dL_law_1284 : decode cL_law 1284 = .ok (.ifCond .eq 7, 3) := by decide +kernel
theorem dL_law_1287 : decode cL_law 1287 = .ok (.iconst 1, 1) := by decide +kernel
theorem dL_law_1288 : decode cL_law 1288 = .ok (.goto 4, 3) := by decide +kernel
theorem dL_law_1291 : decode cL_law 1291 = .ok (.iconst 0, 1) := by decide +kernel
theorem dL_law_1292 : decode cL_law 1292 = .ok (.invokevirtual 201, 3) := by decide +kernel
theorem dL_law_1295 : decode cL_law 1295 = .ok (.istore 6, 2) := by decide +kernel
theorem dL_law_1297 : decode cL_law 1297 = .ok (.aload_n 2, 1) := by decide +kernel
theorem dL_law_1298 : decode cL_law 1298 = .ok (.invokevirtual 106, 3) := by decide +kernel
theorem dL_law_1301 : decode cL_law 1301 = .ok (.iload 5, 2) := by decide +kernel
theorem dL_law_1303 : decode cL_law 1303 = .ok (.if_icmp .eq 5, 3) := by decide +kernel
theorem dL_law_1306 : decode cL_law 1306 = .ok (.iconst 0, 1) := by decide +kernel
theorem dL_law_1307 : decode cL_law 1307 = .ok (.ireturn, 1) := by decide +kernel
theorem dL_law_1308 : decode cL_law 1308 = .ok (.iload 5, 2) := by decide +kernel
theorem dL_law_1310 : decode cL_law 1310 = .ok (.ifCond .ne 15, 3) := by decide +kernel
theorem dL_law_1313 : decode cL_law 1313 = .ok (.aload_n 3, 1) := by decide +kernel
theorem dL_law_1314 : decode cL_law 1314 = .ok (.iconst 0, 1) := by decide +kernel
theorem dL_law_1315 : decode cL_law 1315 = .ok (.laload, 1) := by decide +kernel
theorem dL_law_1316 : decode cL_law 1316 = .ok (.iload 6, 2) := by decide +kernel
theorem dL_law_1318 : decode cL_law 1318 = .ok (.i2l, 1) := by decide +kernel
theorem dL_law_1319 : decode cL_law 1319 = .ok (.lcmp, 1) := by decide +kernel
theorem dL_law_1320 : decode cL_law 1320 = .ok (.ifCond .eq 5, 3) := by decide +kernel
theorem dL_law_1323 : decode cL_law 1323 = .ok (.iconst 0, 1) := by decide +kernel
theorem dL_law_1324 : decode cL_law 1324 = .ok (.ireturn, 1) := by decide +kernel
theorem dL_law_1325 : decode cL_law 1325 = .ok (.goto 651, 3) := by decide +kernel
theorem dL_law_1328 : decode cL_law 1328 = .ok (.aload_n 1, 1) := by decide +kernel
theorem dL_law_1329 : decode cL_law 1329 = .ok (.invokevirtual 202, 3) := by decide +kernel
theorem dL_law_1332 : decode cL_law 1332 = .ok (.aload_n 2, 1) := by decide +kernel
theorem dL_law_1333 : decode cL_law 1333 = .ok (.invokevirtual 205, 3) := by decide +kernel
theorem dL_law_1336 : decode cL_law 1336 = .ok (.if_icmp .eq 640, 3) := by decide +kernel
theorem dL_law_1339 : decode cL_law 1339 = .ok (.iconst 0, 1) := by decide +kernel
theorem dL_law_1340 : decode cL_law 1340 = .ok (.ireturn, 1) := by decide +kernel
theorem dL_law_1341 : decode cL_law 1341 = .ok (.aload_n 1, 1) := by decide +kernel
theorem dL_law_1342 : decode cL_law 1342 = .ok (.invokevirtual 206, 3) := by decide +kernel
theorem dL_law_1345 : decode cL_law 1345 = .ok (.aload_n 2, 1) := by decide +kernel
theorem dL_law_1346 : decode cL_law 1346 = .ok (.invokevirtual 209, 3) := by decide +kernel
theorem dL_law_1349 : decode cL_law 1349 = .ok (.if_icmp .eq 627, 3) := by decide +kernel
theorem dL_law_1352 : decode cL_law 1352 = .ok (.iconst 0, 1) := by decide +kernel
theorem dL_law_1353 : decode cL_law 1353 = .ok (.ireturn, 1) := by decide +kernel
theorem dL_law_1354 : decode cL_law 1354 = .ok (.aload_n 1, 1) := by decide +kernel
theorem dL_law_1355 : decode cL_law 1355 = .ok (.aload_n 0, 1) := by decide +kernel
theorem dL_law_1356 : decode cL_law 1356 = .ok (.iload 4, 2) := by decide +kernel
theorem dL_law_1358 : decode cL_law 1358 = .ok (.iconst 1, 1) := by decide +kernel
theorem dL_law_1359 : decode cL_law 1359 = .ok (.iadd, 1) := by decide +kernel
theorem dL_law_1360 : decode cL_law 1360 = .ok (.iaload, 1) := by decide +kernel
theorem dL_law_1361 : decode cL_law 1361 = .ok (.aload_n 3, 1) := by decide +kernel
theorem dL_law_1362 : decode cL_law 1362 = .ok (.invokestatic 210, 3) := by decide +kernel
theorem dL_law_1365 : decode cL_law 1365 = .ok (.istore 5, 2) := by decide +kernel
theorem dL_law_1367 : decode cL_law 1367 = .ok (.aload_n 2, 1) := by decide +kernel
theorem dL_law_1368 : decode cL_law 1368 = .ok (.aload_n 0, 1) := by decide +kernel
theorem dL_law_1369 : decode cL_law 1369 = .ok (.iload 4, 2) := by decide +kernel
theorem dL_law_1371 : decode cL_law 1371 = .ok (.iconst 1, 1) := by decide +kernel
theorem dL_law_1372 : decode cL_law 1372 = .ok (.iadd, 1) := by decide +kernel
theorem dL_law_1373 : decode cL_law 1373 = .ok (.iaload, 1) := by decide +kernel
theorem dL_law_1374 : decode cL_law 1374 = .ok (.invokevirtual 212, 3) := by decide +kernel
theorem dL_law_1377 : decode cL_law 1377 = .ok (.istore 6, 2) := by decide +kernel
theorem dL_law_1379 : decode cL_law 1379 = .ok (.aload_n 2, 1) := by decide +kernel
theorem dL_law_1380 : decode cL_law 1380 = .ok (.invokevirtual 106, 3) := by decide +kernel
theorem dL_law_1383 : decode cL_law 1383 = .ok (.iload 5, 2) := by decide +kernel
theorem dL_law_1385 : decode cL_law 1385 = .ok (.if_icmp .eq 5, 3) := by decide +kernel
theorem dL_law_1388 : decode cL_law 1388 = .ok (.iconst 0, 1) := by decide +kernel
theorem dL_law_1389 : decode cL_law 1389 = .ok (.ireturn, 1) := by decide +kernel
theorem dL_law_1390 : decode cL_law 1390 = .ok (.iload 5, 2) := by decide +kernel
theorem dL_law_1392 : decode cL_law 1392 = .ok (.ifCond .ne 15, 3) := by decide +kernel
theorem dL_law_1395 : decode cL_law 1395 = .ok (.aload_n 3, 1) := by decide +kernel
theorem dL_law_1396 : decode cL_law 1396 = .ok (.iconst 0, 1) := by decide +kernel
theorem dL_law_1397 : decode cL_law 1397 = .ok (.laload, 1) := by decide +kernel
theorem dL_law_1398 : decode cL_law 1398 = .ok (.iload 6, 2) := by decide +kernel
theorem dL_law_1400 : decode cL_law 1400 = .ok (.i2l, 1) := by decide +kernel
theorem dL_law_1401 : decode cL_law 1401 = .ok (.lcmp, 1) := by decide +kernel
theorem dL_law_1402 : decode cL_law 1402 = .ok (.ifCond .eq 5, 3) := by decide +kernel
theorem dL_law_1405 : decode cL_law 1405 = .ok (.iconst 0, 1) := by decide +kernel
theorem dL_law_1406 : decode cL_law 1406 = .ok (.ireturn, 1) := by decide +kernel
theorem dL_law_1407 : decode cL_law 1407 = .ok (.goto 569, 3) := by decide +kernel
theorem dL_law_1410 : decode cL_law 1410 = .ok (.aload_n 1, 1) := by decide +kernel
theorem dL_law_1411 : decode cL_law 1411 = .ok (.aload_n 0, 1) := by decide +kernel
theorem dL_law_1412 : decode cL_law 1412 = .ok (.iload 4, 2) := by decide +kernel
theorem dL_law_1414 : decode cL_law 1414 = .ok (.iconst 1, 1) := by decide +kernel
theorem dL_law_1415 : decode cL_law 1415 = .ok (.iadd, 1) := by decide +kernel
theorem dL_law_1416 : decode cL_law 1416 = .ok (.iaload, 1) := by decide +kernel
theorem dL_law_1417 : decode cL_law 1417 = .ok (.aload_n 3, 1) := by decide +kernel
theorem dL_law_1418 : decode cL_law 1418 = .ok (.invokestatic 213, 3) := by decide +kernel
theorem dL_law_1421 : decode cL_law 1421 = .ok (.istore 5, 2) := by decide +kernel
theorem dL_law_1423 : decode cL_law 1423 = .ok (.aload_n 2, 1) := by decide +kernel
theorem dL_law_1424 : decode cL_law 1424 = .ok (.aload_n 0, 1) := by decide +kernel
theorem dL_law_1425 : decode cL_law 1425 = .ok (.iload 4, 2) := by decide +kernel
theorem dL_law_1427 : decode cL_law 1427 = .ok (.iconst 1, 1) := by decide +kernel
theorem dL_law_1428 : decode cL_law 1428 = .ok (.iadd, 1) := by decide +kernel
theorem dL_law_1429 : decode cL_law 1429 = .ok (.iaload, 1) := by decide +kernel
theorem dL_law_1430 : decode cL_law 1430 = .ok (.invokevirtual 215, 3) := by decide +kernel
theorem dL_law_1433 : decode cL_law 1433 = .ok (.istore 6, 2) := by decide +kernel
theorem dL_law_1435 : decode cL_law 1435 = .ok (.aload_n 2, 1) := by decide +kernel
theorem dL_law_1436 : decode cL_law 1436 = .ok (.invokevirtual 106, 3) := by decide +kernel
theorem dL_law_1439 : decode cL_law 1439 = .ok (.iload 5, 2) := by decide +kernel
theorem dL_law_1441 : decode cL_law 1441 = .ok (.if_icmp .eq 5, 3) := by decide +kernel
theorem dL_law_1444 : decode cL_law 1444 = .ok (.iconst 0, 1) := by decide +kernel
theorem dL_law_1445 : decode cL_law 1445 = .ok (.ireturn, 1) := by decide +kernel
theorem dL_law_1446 : decode cL_law 1446 = .ok (.iload 5, 2) := by decide +kernel
theorem dL_law_1448 : decode cL_law 1448 = .ok (.ifCond .ne 15, 3) := by decide +kernel
theorem dL_law_1451 : decode cL_law 1451 = .ok (.aload_n 3, 1) := by decide +kernel
theorem dL_law_1452 : decode cL_law 1452 = .ok (.iconst 0, 1) := by decide +kernel
theorem dL_law_1453 : decode cL_law 1453 = .ok (.laload, 1) := by decide +kernel
theorem dL_law_1454 : decode cL_law 1454 = .ok (.iload 6, 2) := by decide +kernel
theorem dL_law_1456 : decode cL_law 1456 = .ok (.i2l, 1) := by decide +kernel
theorem dL_law_1457 : decode cL_law 1457 = .ok (.lcmp, 1) := by decide +kernel
theorem dL_law_1458 : decode cL_law 1458 = .ok (.ifCond .eq 5, 3) := by decide +kernel
theorem dL_law_1461 : decode cL_law 1461 = .ok (.iconst 0, 1) := by decide +kernel
theorem dL_law_1462 : decode cL_law 1462 = .ok (.ireturn, 1) := by decide +kernel
theorem dL_law_1463 : decode cL_law 1463 = .ok (.goto 513, 3) := by decide +kernel
theorem dL_law_1466 : decode cL_law 1466 = .ok (.aload_n 1, 1) := by decide +kernel
theorem dL_law_1467 : decode cL_law 1467 = .ok (.aload_n 0, 1) := by decide +kernel
theorem dL_law_1468 : decode cL_law 1468 = .ok (.iload 4, 2) := by decide +kernel
theorem dL_law_1470 : decode cL_law 1470 = .ok (.iconst 1, 1) := by decide +kernel
theorem dL_law_1471 : decode cL_law 1471 = .ok (.iadd, 1) := by decide +kernel
theorem dL_law_1472 : decode cL_law 1472 = .ok (.iaload, 1) := by decide +kernel
theorem dL_law_1473 : decode cL_law 1473 = .ok (.aload_n 3, 1) := by decide +kernel
theorem dL_law_1474 : decode cL_law 1474 = .ok (.invokestatic 216, 3) := by decide +kernel
theorem dL_law_1477 : decode cL_law 1477 = .ok (.istore 5, 2) := by decide +kernel
theorem dL_law_1479 : decode cL_law 1479 = .ok (.aload_n 2, 1) := by decide +kernel
theorem dL_law_1480 : decode cL_law 1480 = .ok (.aload_n 0, 1) := by decide +kernel
theorem dL_law_1481 : decode cL_law 1481 = .ok (.iload 4, 2) := by decide +kernel
theorem dL_law_1483 : decode cL_law 1483 = .ok (.iconst 1, 1) := by decide +kernel
theorem dL_law_1484 : decode cL_law 1484 = .ok (.iadd, 1) := by decide +kernel
theorem dL_law_1485 : decode cL_law 1485 = .ok (.iaload, 1) := by decide +kernel
theorem dL_law_1486 : decode cL_law 1486 = .ok (.invokevirtual 218, 3) := by decide +kernel
theorem dL_law_1489 : decode cL_law 1489 = .ok (.istore 6, 2) := by decide +kernel
theorem dL_law_1491 : decode cL_law 1491 = .ok (.aload_n 2, 1) := by decide +kernel
theorem dL_law_1492 : decode cL_law 1492 = .ok (.invokevirtual 106, 3) := by decide +kernel
theorem dL_law_1495 : decode cL_law 1495 = .ok (.iload 5, 2) := by decide +kernel
theorem dL_law_1497 : decode cL_law 1497 = .ok (.if_icmp .eq 5, 3) := by decide +kernel
theorem dL_law_1500 : decode cL_law 1500 = .ok (.iconst 0, 1) := by decide +kernel
theorem dL_law_1501 : decode cL_law 1501 = .ok (.ireturn, 1) := by decide +kernel
theorem dL_law_1502 : decode cL_law 1502 = .ok (.iload 5, 2) := by decide +kernel
theorem dL_law_1504 : decode cL_law 1504 = .ok (.ifCond .ne 15, 3) := by decide +kernel
theorem dL_law_1507 : decode cL_law 1507 = .ok (.aload_n 3, 1) := by decide +kernel
theorem dL_law_1508 : decode cL_law 1508 = .ok (.iconst 0, 1) := by decide +kernel
theorem dL_law_1509 : decode cL_law 1509 = .ok (.laload, 1) := by decide +kernel
theorem dL_law_1510 : decode cL_law 1510 = .ok (.iload 6, 2) := by decide +kernel
theorem dL_law_1512 : decode cL_law 1512 = .ok (.i2l, 1) := by decide +kernel
theorem dL_law_1513 : decode cL_law 1513 = .ok (.lcmp, 1) := by decide +kernel
theorem dL_law_1514 : decode cL_law 1514 = .ok (.ifCond .eq 5, 3) := by decide +kernel
theorem dL_law_1517 : decode cL_law 1517 = .ok (.iconst 0, 1) := by decide +kernel
theorem dL_law_1518 : decode cL_law 1518 = .ok (.ireturn, 1) := by decide +kernel
theorem dL_law_1519 : decode cL_law 1519 = .ok (.goto 457, 3) := by decide +kernel
theorem dL_law_1522 : decode cL_law 1522 = .ok (.aload_n 1, 1) := by decide +kernel
theorem dL_law_1523 : decode cL_law 1523 = .ok (.invokevirtual 219, 3) := by decide +kernel
theorem dL_law_1526 : decode cL_law 1526 = .ok (.aload_n 2, 1) := by decide +kernel
theorem dL_law_1527 : decode cL_law 1527 = .ok (.invokevirtual 222, 3) := by decide +kernel
theorem dL_law_1530 : decode cL_law 1530 = .ok (.if_icmp .eq 446, 3) := by decide +kernel
theorem dL_law_1533 : decode cL_law 1533 = .ok (.iconst 0, 1) := by decide +kernel
theorem dL_law_1534 : decode cL_law 1534 = .ok (.ireturn, 1) := by decide +kernel
theorem dL_law_1535 : decode cL_law 1535 = .ok (.aload_n 1, 1) := by decide +kernel
theorem dL_law_1536 : decode cL_law 1536 = .ok (.invokevirtual 223, 3) := by decide +kernel
theorem dL_law_1539 : decode cL_law 1539 = .ok (.aload_n 2, 1) := by decide +kernel
theorem dL_law_1540 : decode cL_law 1540 = .ok (.invokevirtual 226, 3) := by decide +kernel
theorem dL_law_1543 : decode cL_law 1543 = .ok (.if_icmp .eq 433, 3) := by decide +kernel
theorem dL_law_1546 : decode cL_law 1546 = .ok (.iconst 0, 1) := by decide +kernel
theorem dL_law_1547 : decode cL_law 1547 = .ok (.ireturn, 1) := by decide +kernel
theorem dL_law_1548 : decode cL_law 1548 = .ok (.aload_n 1, 1) := by decide +kernel
theorem dL_law_1549 : decode cL_law 1549 = .ok (.invokevirtual 227, 3) := by decide +kernel
theorem dL_law_1552 : decode cL_law 1552 = .ok (.aload_n 2, 1) := by decide +kernel
theorem dL_law_1553 : decode cL_law 1553 = .ok (.invokevirtual 230, 3) := by decide +kernel
theorem dL_law_1556 : decode cL_law 1556 = .ok (.if_icmp .eq 420, 3) := by decide +kernel
theorem dL_law_1559 : decode cL_law 1559 = .ok (.iconst 0, 1) := by decide +kernel
theorem dL_law_1560 : decode cL_law 1560 = .ok (.ireturn, 1) := by decide +kernel
theorem dL_law_1561 : decode cL_law 1561 = .ok (.aload_n 1, 1) := by decide +kernel
theorem dL_law_1562 : decode cL_law 1562 = .ok (.invokevirtual 231, 3) := by decide +kernel
theorem dL_law_1565 : decode cL_law 1565 = .ok (.aload_n 2, 1) := by decide +kernel
theorem dL_law_1566 : decode cL_law 1566 = .ok (.invokevirtual 234, 3) := by decide +kernel
theorem dL_law_1569 : decode cL_law 1569 = .ok (.if_icmp .eq 407, 3) := by decide +kernel
theorem dL_law_1572 : decode cL_law 1572 = .ok (.iconst 0, 1) := by decide +kernel
theorem dL_law_1573 : decode cL_law 1573 = .ok (.ireturn, 1) := by decide +kernel
theorem dL_law_1574 : decode cL_law 1574 = .ok (.aload_n 1, 1) := by decide +kernel
theorem dL_law_1575 : decode cL_law 1575 = .ok (.invokevirtual 235, 3) := by decide +kernel
theorem dL_law_1578 : decode cL_law 1578 = .ok (.aload_n 2, 1) := by decide +kernel
theorem dL_law_1579 : decode cL_law 1579 = .ok (.invokevirtual 238, 3) := by decide +kernel
theorem dL_law_1582 : decode cL_law 1582 = .ok (.if_icmp .eq 394, 3) := by decide +kernel
theorem dL_law_1585 : decode cL_law 1585 = .ok (.iconst 0, 1) := by decide +kernel
theorem dL_law_1586 : decode cL_law 1586 = .ok (.ireturn, 1) := by decide +kernel
theorem dL_law_1587 : decode cL_law 1587 = .ok (.aload_n 1, 1) := by decide +kernel
theorem dL_law_1588 : decode cL_law 1588 = .ok (.invokevirtual 239, 3) := by decide +kernel
theorem dL_law_1591 : decode cL_law 1591 = .ok (.aload_n 2, 1) := by decide +kernel
theorem dL_law_1592 : decode cL_law 1592 = .ok (.invokevirtual 242, 3) := by decide +kernel
theorem dL_law_1595 : decode cL_law 1595 = .ok (.if_icmp .eq 381, 3) := by decide +kernel
theorem dL_law_1598 : decode cL_law 1598 = .ok (.iconst 0, 1) := by decide +kernel
theorem dL_law_1599 : decode cL_law 1599 = .ok (.ireturn, 1) := by decide +kernel
theorem dL_law_1600 : decode cL_law 1600 = .ok (.aload_n 1, 1) := by decide +kernel
theorem dL_law_1601 : decode cL_law 1601 = .ok (.invokevirtual 243, 3) := by decide +kernel
theorem dL_law_1604 : decode cL_law 1604 = .ok (.aload_n 2, 1) := by decide +kernel
theorem dL_law_1605 : decode cL_law 1605 = .ok (.invokevirtual 246, 3) := by decide +kernel
theorem dL_law_1608 : decode cL_law 1608 = .ok (.if_icmp .eq 368, 3) := by decide +kernel
theorem dL_law_1611 : decode cL_law 1611 = .ok (.iconst 0, 1) := by decide +kernel
theorem dL_law_1612 : decode cL_law 1612 = .ok (.ireturn, 1) := by decide +kernel
theorem dL_law_1613 : decode cL_law 1613 = .ok (.aload_n 1, 1) := by decide +kernel
theorem dL_law_1614 : decode cL_law 1614 = .ok (.aload_n 3, 1) := by decide +kernel
theorem dL_law_1615 : decode cL_law 1615 = .ok (.invokestatic 247, 3) := by decide +kernel
theorem dL_law_1618 : decode cL_law 1618 = .ok (.istore 5, 2) := by decide +kernel
theorem dL_law_1620 : decode cL_law 1620 = .ok (.aload_n 2, 1) := by decide +kernel
theorem dL_law_1621 : decode cL_law 1621 = .ok (.invokevirtual 249, 3) := by decide +kernel
theorem dL_law_1624 : decode cL_law 1624 = .ok (.istore 6, 2) := by decide +kernel
theorem dL_law_1626 : decode cL_law 1626 = .ok (.aload_n 2, 1) := by decide +kernel
theorem dL_law_1627 : decode cL_law 1627 = .ok (.invokevirtual 106, 3) := by decide +kernel
theorem dL_law_1630 : decode cL_law 1630 = .ok (.iload 5, 2) := by decide +kernel
theorem dL_law_1632 : decode cL_law 1632 = .ok (.if_icmp .eq 5, 3) := by decide +kernel
theorem dL_law_1635 : decode cL_law 1635 = .ok (.iconst 0, 1) := by decide +kernel
theorem dL_law_1636 : decode cL_law 1636 = .ok (.ireturn, 1) := by decide +kernel
theorem dL_law_1637 : decode cL_law 1637 = .ok (.iload 5, 2) := by decide +kernel
theorem dL_law_1639 : decode cL_law 1639 = .ok (.ifCond .ne 15, 3) := by decide +kernel
theorem dL_law_1642 : decode cL_law 1642 = .ok (.aload_n 3, 1) := by decide +kernel
theorem dL_law_1643 : decode cL_law 1643 = .ok (.iconst 0, 1) := by decide +kernel
theorem dL_law_1644 : decode cL_law 1644 = .ok (.laload, 1) := by decide +kernel
theorem dL_law_1645 : decode cL_law 1645 = .ok (.iload 6, 2) := by decide +kernel
theorem dL_law_1647 : decode cL_law 1647 = .ok (.i2l, 1) := by decide +kernel
theorem dL_law_1648 : decode cL_law 1648 = .ok (.lcmp, 1) := by decide +kernel
theorem dL_law_1649 : decode cL_law 1649 = .ok (.ifCond .eq 5, 3) := by decide +kernel
theorem dL_law_1652 : decode cL_law 1652 = .ok (.iconst 0, 1) := by decide +kernel
theorem dL_law_1653 : decode cL_law 1653 = .ok (.ireturn, 1) := by decide +kernel
theorem dL_law_1654 : decode cL_law 1654 = .ok (.goto 322, 3) := by decide +kernel
theorem dL_law_1657 : decode cL_law 1657 = .ok (.aload_n 1, 1) := by decide +kernel
theorem dL_law_1658 : decode cL_law 1658 = .ok (.aload_n 3, 1) := by decide +kernel
theorem dL_law_1659 : decode cL_law 1659 = .ok (.invokestatic 250, 3) := by decide +kernel
theorem dL_law_1662 : decode cL_law 1662 = .ok (.istore 5, 2) := by decide +kernel
theorem dL_law_1664 : decode cL_law 1664 = .ok (.aload_n 2, 1) := by decide +kernel
theorem dL_law_1665 : decode cL_law 1665 = .ok (.invokevirtual 252, 3) := by decide +kernel
theorem dL_law_1668 : decode cL_law 1668 = .ok (.istore 6, 2) := by decide +kernel
theorem dL_law_1670 : decode cL_law 1670 = .ok (.aload_n 2, 1) := by decide +kernel
theorem dL_law_1671 : decode cL_law 1671 = .ok (.invokevirtual 106, 3) := by decide +kernel
theorem dL_law_1674 : decode cL_law 1674 = .ok (.iload 5, 2) := by decide +kernel
theorem dL_law_1676 : decode cL_law 1676 = .ok (.if_icmp .eq 5, 3) := by decide +kernel
theorem dL_law_1679 : decode cL_law 1679 = .ok (.iconst 0, 1) := by decide +kernel
theorem dL_law_1680 : decode cL_law 1680 = .ok (.ireturn, 1) := by decide +kernel
theorem dL_law_1681 : decode cL_law 1681 = .ok (.iload 5, 2) := by decide +kernel
theorem dL_law_1683 : decode cL_law 1683 = .ok (.ifCond .ne 15, 3) := by decide +kernel
theorem dL_law_1686 : decode cL_law 1686 = .ok (.aload_n 3, 1) := by decide +kernel
theorem dL_law_1687 : decode cL_law 1687 = .ok (.iconst 0, 1) := by decide +kernel
theorem dL_law_1688 : decode cL_law 1688 = .ok (.laload, 1) := by decide +kernel
theorem dL_law_1689 : decode cL_law 1689 = .ok (.iload 6, 2) := by decide +kernel
theorem dL_law_1691 : decode cL_law 1691 = .ok (.i2l, 1) := by decide +kernel
theorem dL_law_1692 : decode cL_law 1692 = .ok (.lcmp, 1) := by decide +kernel
theorem dL_law_1693 : decode cL_law 1693 = .ok (.ifCond .eq 5, 3) := by decide +kernel
theorem dL_law_1696 : decode cL_law 1696 = .ok (.iconst 0, 1) := by decide +kernel
theorem dL_law_1697 : decode cL_law 1697 = .ok (.ireturn, 1) := by decide +kernel
theorem dL_law_1698 : decode cL_law 1698 = .ok (.goto 278, 3) := by decide +kernel
theorem dL_law_1701 : decode cL_law 1701 = .ok (.aload_n 1, 1) := by decide +kernel
theorem dL_law_1702 : decode cL_law 1702 = .ok (.invokevirtual 253, 3) := by decide +kernel
theorem dL_law_1705 : decode cL_law 1705 = .ok (.aload_n 2, 1) := by decide +kernel
theorem dL_law_1706 : decode cL_law 1706 = .ok (.invokevirtual 256, 3) := by decide +kernel
theorem dL_law_1709 : decode cL_law 1709 = .ok (.if_icmp .eq 267, 3) := by decide +kernel
theorem dL_law_1712 : decode cL_law 1712 = .ok (.iconst 0, 1) := by decide +kernel
theorem dL_law_1713 : decode cL_law 1713 = .ok (.ireturn, 1) := by decide +kernel
theorem dL_law_1714 : decode cL_law 1714 = .ok (.aload_n 1, 1) := by decide +kernel
theorem dL_law_1715 : decode cL_law 1715 = .ok (.invokevirtual 257, 3) := by decide +kernel
theorem dL_law_1718 : decode cL_law 1718 = .ok (.aload_n 2, 1) := by decide +kernel
theorem dL_law_1719 : decode cL_law 1719 = .ok (.invokevirtual 260, 3) := by decide +kernel
theorem dL_law_1722 : decode cL_law 1722 = .ok (.if_icmp .eq 254, 3) := by decide +kernel
theorem dL_law_1725 : decode cL_law 1725 = .ok (.iconst 0, 1) := by decide +kernel
theorem dL_law_1726 : decode cL_law 1726 = .ok (.ireturn, 1) := by decide +kernel
theorem dL_law_1727 : decode cL_law 1727 = .ok (.aload_n 1, 1) := by decide +kernel
theorem dL_law_1728 : decode cL_law 1728 = .ok (.invokevirtual 261, 3) := by decide +kernel
theorem dL_law_1731 : decode cL_law 1731 = .ok (.aload_n 2, 1) := by decide +kernel
theorem dL_law_1732 : decode cL_law 1732 = .ok (.invokevirtual 264, 3) := by decide +kernel
theorem dL_law_1735 : decode cL_law 1735 = .ok (.if_icmp .eq 241, 3) := by decide +kernel
theorem dL_law_1738 : decode cL_law 1738 = .ok (.iconst 0, 1) := by decide +kernel
theorem dL_law_1739 : decode cL_law 1739 = .ok (.ireturn, 1) := by decide +kernel
theorem dL_law_1740 : decode cL_law 1740 = .ok (.aload_n 1, 1) := by decide +kernel
theorem dL_law_1741 : decode cL_law 1741 = .ok (.invokevirtual 265, 3) := by decide +kernel
theorem dL_law_1744 : decode cL_law 1744 = .ok (.aload_n 2, 1) := by decide +kernel
theorem dL_law_1745 : decode cL_law 1745 = .ok (.invokevirtual 268, 3) := by decide +kernel
theorem dL_law_1748 : decode cL_law 1748 = .ok (.if_icmp .eq 228, 3) := by decide +kernel
theorem dL_law_1751 : decode cL_law 1751 = .ok (.iconst 0, 1) := by decide +kernel
theorem dL_law_1752 : decode cL_law 1752 = .ok (.ireturn, 1) := by decide +kernel
theorem dL_law_1753 : decode cL_law 1753 = .ok (.aload_n 1, 1) := by decide +kernel
theorem dL_law_1754 : decode cL_law 1754 = .ok (.aload_n 0, 1) := by decide +kernel
theorem dL_law_1755 : decode cL_law 1755 = .ok (.iload 4, 2) := by decide +kernel
theorem dL_law_1757 : decode cL_law 1757 = .ok (.iconst 1, 1) := by decide +kernel
theorem dL_law_1758 : decode cL_law 1758 = .ok (.iadd, 1) := by decide +kernel
theorem dL_law_1759 : decode cL_law 1759 = .ok (.iaload, 1) := by decide +kernel
theorem dL_law_1760 : decode cL_law 1760 = .ok (.aload_n 0, 1) := by decide +kernel
theorem dL_law_1761 : decode cL_law 1761 = .ok (.iload 4, 2) := by decide +kernel
theorem dL_law_1763 : decode cL_law 1763 = .ok (.iconst 2, 1) := by decide +kernel
theorem dL_law_1764 : decode cL_law 1764 = .ok (.iadd, 1) := by decide +kernel
theorem dL_law_1765 : decode cL_law 1765 = .ok (.iaload, 1) := by decide +kernel
theorem dL_law_1766 : decode cL_law 1766 = .ok (.aload_n 3, 1) := by decide +kernel
theorem dL_law_1767 : decode cL_law 1767 = .ok (.invokestatic 269, 3) := by decide +kernel
theorem dL_law_1770 : decode cL_law 1770 = .ok (.istore 5, 2) := by decide +kernel
theorem dL_law_1772 : decode cL_law 1772 = .ok (.aload_n 2, 1) := by decide +kernel
theorem dL_law_1773 : decode cL_law 1773 = .ok (.aload_n 0, 1) := by decide +kernel
theorem dL_law_1774 : decode cL_law 1774 = .ok (.iload 4, 2) := by decide +kernel
theorem dL_law_1776 : decode cL_law 1776 = .ok (.iconst 1, 1) := by decide +kernel
theorem dL_law_1777 : decode cL_law 1777 = .ok (.iadd, 1) := by decide +kernel
theorem dL_law_1778 : decode cL_law 1778 = .ok (.iaload, 1) := by decide +kernel
theorem dL_law_1779 : decode cL_law 1779 = .ok (.aload_n 0, 1) := by decide +kernel
theorem dL_law_1780 : decode cL_law 1780 = .ok (.iload 4, 2) := by decide +kernel
theorem dL_law_1782 : decode cL_law 1782 = .ok (.iconst 2, 1) := by decide +kernel
theorem dL_law_1783 : decode cL_law 1783 = .ok (.iadd, 1) := by decide +kernel
theorem dL_law_1784 : decode cL_law 1784 = .ok (.iaload, 1) := by decide +kernel
theorem dL_law_1785 : decode cL_law 1785 = .ok (.invokevirtual 271, 3) := by decide +kernel
theorem dL_law_1788 : decode cL_law 1788 = .ok (.istore 6, 2) := by decide +kernel
theorem dL_law_1790 : decode cL_law 1790 = .ok (.aload_n 2, 1) := by decide +kernel
theorem dL_law_1791 : decode cL_law 1791 = .ok (.invokevirtual 106, 3) := by decide +kernel
theorem dL_law_1794 : decode cL_law 1794 = .ok (.iload 5, 2) := by decide +kernel
theorem dL_law_1796 : decode cL_law 1796 = .ok (.if_icmp .eq 5, 3) := by decide +kernel
theorem dL_law_1799 : decode cL_law 1799 = .ok (.iconst 0, 1) := by decide +kernel
theorem dL_law_1800 : decode cL_law 1800 = .ok (.ireturn, 1) := by decide +kernel
theorem dL_law_1801 : decode cL_law 1801 = .ok (.iload 5, 2) := by decide +kernel
theorem dL_law_1803 : decode cL_law 1803 = .ok (.ifCond .ne 15, 3) := by decide +kernel
theorem dL_law_1806 : decode cL_law 1806 = .ok (.aload_n 3, 1) := by decide +kernel
theorem dL_law_1807 : decode cL_law 1807 = .ok (.iconst 0, 1) := by decide +kernel
theorem dL_law_1808 : decode cL_law 1808 = .ok (.laload, 1) := by decide +kernel
theorem dL_law_1809 : decode cL_law 1809 = .ok (.iload 6, 2) := by decide +kernel
theorem dL_law_1811 : decode cL_law 1811 = .ok (.i2l, 1) := by decide +kernel
theorem dL_law_1812 : decode cL_law 1812 = .ok (.lcmp, 1) := by decide +kernel
theorem dL_law_1813 : decode cL_law 1813 = .ok (.ifCond .eq 5, 3) := by decide +kernel
theorem dL_law_1816 : decode cL_law 1816 = .ok (.iconst 0, 1) := by decide +kernel
theorem dL_law_1817 : decode cL_law 1817 = .ok (.ireturn, 1) := by decide +kernel
theorem dL_law_1818 : decode cL_law 1818 = .ok (.goto 158, 3) := by decide +kernel
theorem dL_law_1821 : decode cL_law 1821 = .ok (.aload_n 1, 1) := by decide +kernel
theorem dL_law_1822 : decode cL_law 1822 = .ok (.aload_n 3, 1) := by decide +kernel
theorem dL_law_1823 : decode cL_law 1823 = .ok (.invokestatic 272, 3) := by decide +kernel
theorem dL_law_1826 : decode cL_law 1826 = .ok (.istore 5, 2) := by decide +kernel
theorem dL_law_1828 : decode cL_law 1828 = .ok (.aload_n 2, 1) := by decide +kernel
theorem dL_law_1829 : decode cL_law 1829 = .ok (.invokevirtual 274, 3) := by decide +kernel
theorem dL_law_1832 : decode cL_law 1832 = .ok (.istore 6, 2) := by decide +kernel
theorem dL_law_1834 : decode cL_law 1834 = .ok (.aload_n 2, 1) := by decide +kernel
theorem dL_law_1835 : decode cL_law 1835 = .ok (.invokevirtual 106, 3) := by decide +kernel
theorem dL_law_1838 : decode cL_law 1838 = .ok (.iload 5, 2) := by decide +kernel
theorem dL_law_1840 : decode cL_law 1840 = .ok (.if_icmp .eq 5, 3) := by decide +kernel
theorem dL_law_1843 : decode cL_law 1843 = .ok (.iconst 0, 1) := by decide +kernel
theorem dL_law_1844 : decode cL_law 1844 = .ok (.ireturn, 1) := by decide +kernel
theorem dL_law_1845 : decode cL_law 1845 = .ok (.iload 5, 2) := by decide +kernel
theorem dL_law_1847 : decode cL_law 1847 = .ok (.ifCond .ne 15, 3) := by decide +kernel
theorem dL_law_1850 : decode cL_law 1850 = .ok (.aload_n 3, 1) := by decide +kernel
theorem dL_law_1851 : decode cL_law 1851 = .ok (.iconst 0, 1) := by decide +kernel
theorem dL_law_1852 : decode cL_law 1852 = .ok (.laload, 1) := by decide +kernel
theorem dL_law_1853 : decode cL_law 1853 = .ok (.iload 6, 2) := by decide +kernel
theorem dL_law_1855 : decode cL_law 1855 = .ok (.i2l, 1) := by decide +kernel
theorem dL_law_1856 : decode cL_law 1856 = .ok (.lcmp, 1) := by decide +kernel
theorem dL_law_1857 : decode cL_law 1857 = .ok (.ifCond .eq 5, 3) := by decide +kernel
theorem dL_law_1860 : decode cL_law 1860 = .ok (.iconst 0, 1) := by decide +kernel
theorem dL_law_1861 : decode cL_law 1861 = .ok (.ireturn, 1) := by decide +kernel
theorem dL_law_1862 : decode cL_law 1862 = .ok (.goto 114, 3) := by decide +kernel
theorem dL_law_1865 : decode cL_law 1865 = .ok (.aload_n 1, 1) := by decide +kernel
theorem dL_law_1866 : decode cL_law 1866 = .ok (.aload_n 0, 1) := by decide +kernel
theorem dL_law_1867 : decode cL_law 1867 = .ok (.iload 4, 2) := by decide +kernel
theorem dL_law_1869 : decode cL_law 1869 = .ok (.iconst 1, 1) := by decide +kernel
theorem dL_law_1870 : decode cL_law 1870 = .ok (.iadd, 1) := by decide +kernel
theorem dL_law_1871 : decode cL_law 1871 = .ok (.iaload, 1) := by decide +kernel
theorem dL_law_1872 : decode cL_law 1872 = .ok (.aload_n 3, 1) := by decide +kernel
theorem dL_law_1873 : decode cL_law 1873 = .ok (.invokestatic 275, 3) := by decide +kernel
theorem dL_law_1876 : decode cL_law 1876 = .ok (.istore 5, 2) := by decide +kernel
theorem dL_law_1878 : decode cL_law 1878 = .ok (.aload_n 2, 1) := by decide +kernel
theorem dL_law_1879 : decode cL_law 1879 = .ok (.aload_n 0, 1) := by decide +kernel
theorem dL_law_1880 : decode cL_law 1880 = .ok (.iload 4, 2) := by decide +kernel
theorem dL_law_1882 : decode cL_law 1882 = .ok (.iconst 1, 1) := by decide +kernel
theorem dL_law_1883 : decode cL_law 1883 = .ok (.iadd, 1) := by decide +kernel
theorem dL_law_1884 : decode cL_law 1884 = .ok (.iaload, 1) := by decide +kernel
theorem dL_law_1885 : decode cL_law 1885 = .ok (.invokevirtual 277, 3) := by decide +kernel
theorem dL_law_1888 : decode cL_law 1888 = .ok (.istore 6, 2) := by decide +kernel
theorem dL_law_1890 : decode cL_law 1890 = .ok (.aload_n 2, 1) := by decide +kernel
theorem dL_law_1891 : decode cL_law 1891 = .ok (.invokevirtual 106, 3) := by decide +kernel
theorem dL_law_1894 : decode cL_law 1894 = .ok (.iload 5, 2) := by decide +kernel
theorem dL_law_1896 : decode cL_law 1896 = .ok (.if_icmp .eq 5, 3) := by decide +kernel
theorem dL_law_1899 : decode cL_law 1899 = .ok (.iconst 0, 1) := by decide +kernel
theorem dL_law_1900 : decode cL_law 1900 = .ok (.ireturn, 1) := by decide +kernel
theorem dL_law_1901 : decode cL_law 1901 = .ok (.iload 5, 2) := by decide +kernel
theorem dL_law_1903 : decode cL_law 1903 = .ok (.ifCond .ne 15, 3) := by decide +kernel
theorem dL_law_1906 : decode cL_law 1906 = .ok (.aload_n 3, 1) := by decide +kernel
theorem dL_law_1907 : decode cL_law 1907 = .ok (.iconst 0, 1) := by decide +kernel
theorem dL_law_1908 : decode cL_law 1908 = .ok (.laload, 1) := by decide +kernel
theorem dL_law_1909 : decode cL_law 1909 = .ok (.iload 6, 2) := by decide +kernel
theorem dL_law_1911 : decode cL_law 1911 = .ok (.i2l, 1) := by decide +kernel
theorem dL_law_1912 : decode cL_law 1912 = .ok (.lcmp, 1) := by decide +kernel
theorem dL_law_1913 : decode cL_law 1913 = .ok (.ifCond .eq 5, 3) := by decide +kernel
theorem dL_law_1916 : decode cL_law 1916 = .ok (.iconst 0, 1) := by decide +kernel
theorem dL_law_1917 : decode cL_law 1917 = .ok (.ireturn, 1) := by decide +kernel
theorem dL_law_1918 : decode cL_law 1918 = .ok (.goto 58, 3) := by decide +kernel
theorem dL_law_1921 : decode cL_law 1921 = .ok (.aload_n 1, 1) := by decide +kernel
theorem dL_law_1922 : decode cL_law 1922 = .ok (.invokevirtual 278, 3) := by decide +kernel
theorem dL_law_1925 : decode cL_law 1925 = .ok (.dstore 5, 2) := by decide +kernel
theorem dL_law_1927 : decode cL_law 1927 = .ok (.aload_n 2, 1) := by decide +kernel
theorem dL_law_1928 : decode cL_law 1928 = .ok (.invokevirtual 282, 3) := by decide +kernel
theorem dL_law_1931 : decode cL_law 1931 = .ok (.dstore 7, 2) := by decide +kernel
theorem dL_law_1933 : decode cL_law 1933 = .ok (.dload 5, 2) := by decide +kernel
theorem dL_law_1935 : decode cL_law 1935 = .ok (.dload 7, 2) := by decide +kernel
theorem dL_law_1937 : decode cL_law 1937 = .ok (.dcmp .l, 1) := by decide +kernel
theorem dL_law_1938 : decode cL_law 1938 = .ok (.ifCond .eq 21, 3) := by decide +kernel
theorem dL_law_1941 : decode cL_law 1941 = .ok (.dload 5, 2) := by decide +kernel
theorem dL_law_1943 : decode cL_law 1943 = .ok (.dload 5, 2) := by decide +kernel
theorem dL_law_1945 : decode cL_law 1945 = .ok (.dcmp .l, 1) := by decide +kernel
theorem dL_law_1946 : decode cL_law 1946 = .ok (.ifCond .eq 11, 3) := by decide +kernel
theorem dL_law_1949 : decode cL_law 1949 = .ok (.dload 7, 2) := by decide +kernel
theorem dL_law_1951 : decode cL_law 1951 = .ok (.dload 7, 2) := by decide +kernel
theorem dL_law_1953 : decode cL_law 1953 = .ok (.dcmp .l, 1) := by decide +kernel
theorem dL_law_1954 : decode cL_law 1954 = .ok (.ifCond .ne 5, 3) := by decide +kernel
theorem dL_law_1957 : decode cL_law 1957 = .ok (.iconst 0, 1) := by decide +kernel
theorem dL_law_1958 : decode cL_law 1958 = .ok (.ireturn, 1) := by decide +kernel
theorem dL_law_1959 : decode cL_law 1959 = .ok (.goto 17, 3) := by decide +kernel
theorem dL_law_1962 : decode cL_law 1962 = .ok (.aload_n 1, 1) := by decide +kernel
theorem dL_law_1963 : decode cL_law 1963 = .ok (.invokevirtual 283, 3) := by decide +kernel
theorem dL_law_1966 : decode cL_law 1966 = .ok (.aload_n 2, 1) := by decide +kernel
theorem dL_law_1967 : decode cL_law 1967 = .ok (.invokevirtual 287, 3) := by decide +kernel
theorem dL_law_1970 : decode cL_law 1970 = .ok (.lcmp, 1) := by decide +kernel
theorem dL_law_1971 : decode cL_law 1971 = .ok (.ifCond .eq 5, 3) := by decide +kernel
theorem dL_law_1974 : decode cL_law 1974 = .ok (.iconst 0, 1) := by decide +kernel
theorem dL_law_1975 : decode cL_law 1975 = .ok (.ireturn, 1) := by decide +kernel
theorem dL_law_1976 : decode cL_law 1976 = .ok (.iinc 4 4, 3) := by decide +kernel
theorem dL_law_1979 : decode cL_law 1979 = .ok (.goto (-1956), 3) := by decide +kernel
theorem dL_law_1982 : decode cL_law 1982 = .ok (.iconst 1, 1) := by decide +kernel
theorem dL_law_1983 : decode cL_law 1983 = .ok (.ireturn, 1) := by decide +kernel
end
section
section VXNS
variable {p : Program} {l : Launch} {e : Env} {R : Room} {s : State} {m : MethodId} {args : Array Value} {below : List Frame} {meth : Method} {c : Code} {H : Heap} {locs : List Loc} {cells slots : Nat}
variable {T : State}
theorem vx_callSN (X : Stand p l e R s m args below meth c T locs cells slots) (hexec : p.tables.exec = Jvm.exec) {own : String} {index : Nat} {host : String} {y : MethodName} {bytes : ByteArray} {maxL : Nat} {ret : Option FieldType}
    (hown : s.vm.findClass own = some m.cls) (hlink : (Cond.methodLinkNest own index y host).before args s = true) (hstat : (Cond.static y).before args s = true) (hinit : (Cond.initialized y.cls).before args s = true)
    (hcode : (Cond.code y bytes maxL ret).before args s = true) (hy : y.cls ≠ "java/lang/invoke/MethodHandle" ∧ y.cls ≠ "java/lang/invoke/VarHandle")
    {W : Nat} {Pre : Pt → Array Value → Prop} {Post : Pt → Array Value → Option Value → Pt → Prop} {PostX : Pt → Array Value → Addr → Pt → Prop} (hK : vx_Back l R p e below s args y 3 W Pre Post PostX)
    {g : JFrame} (hg : g.method = m) (hsize : g.locals.size = c.maxLocals) {argsL rest : List Value} (hlen : ∀ sig, parseMethodDescriptor y.desc = some sig → argsL.length = sig.parameters.length)
    (hstack : g.stack = argsL.reverse ++ rest) (hW : 2 * g.monitorRoom + (rest.map fun v => v.category).sum ≤ W) (hdg : decode c.code g.pc = .ok (.invokestatic index, 3))
    (hpre : ∀ vm₁, s.WarmedH vm₁ → Pre ⟨T.setVm vm₁, locs, cells, slots⟩ argsL.toArray) :
    (∃ (v : Option Value) (vm₁ : Vm) (B : Pt), s.WarmedH vm₁ ∧ Stand p l e R s m args below meth c B.U B.locs B.cells B.slots ∧ Post ⟨T.setVm vm₁, locs, cells, slots⟩ argsL.toArray v B ∧
      ∀ target, Steps p.tables e below (B.U.setTop { g with pc := g.pc + 3, stack := v.toList ++ rest }) target → Steps p.tables e below (T.setTop g) target) ∨
    (∃ (q : Addr) (vm₁ : Vm) (B : Pt), s.WarmedH vm₁ ∧ Stand p l e R s m args below meth c B.U B.locs B.cells B.slots ∧ PostX ⟨T.setVm vm₁, locs, cells, slots⟩ argsL.toArray q B ∧
      Steps p.tables e below (T.setTop g) ((B.U.setTop { g with stack := rest }).pushFrame (.throwing q))) := by
  obtain ⟨mk, hnamed⟩ := Cond.code_named hcode
  obtain ⟨methM, cM, hmethM, -, -, -, -, -, -, hsigM⟩ := Cond.code_spec hnamed hcode
  have hstatic : methM.isStatic = true := Cond.static_spec hnamed hmethM hstat
  obtain ⟨kP, hkP, -⟩ := className_of_methodNamed hnamed
  have hinitP : kP.init = .initialized := Cond.initialized_spec (findClass_of_methodNamed hnamed) hkP hinit
  obtain ⟨vm₁, X₁, hstep₁⟩ := X.invokestaticNest hexec hown hlink hnamed hmethM hstatic hkP hinitP hy (g := g) hg (argsL := argsL) (rest := rest) (hlen _ hsigM) hstack hdg
  rcases hK m meth c ⟨T.setVm vm₁, locs, cells, slots⟩ { g with stack := rest } (.invokestatic index) mk argsL.toArray X₁ hg hsize hdg hW (X₁.named hnamed) (hpre vm₁ X₁.warmed) with ⟨v, B, X', hpost, hsteps⟩ | ⟨q, B, X', hpost, hsteps⟩
  · exact Or.inl ⟨v, vm₁, B, X₁.warmed, X', hpost, fun target h => hstep₁ _ fun acts => by rw [doInvoke_state]; exact hsteps.trans h⟩
  · exact Or.inr ⟨q, vm₁, B, X₁.warmed, X', hpost, hstep₁ _ fun acts => by rw [doInvoke_state]; exact hsteps⟩
theorem vx_runSN {y : MethodName} {bytes cc : ByteArray} {maxL nL mc ms n index : Nat} {ret : Option FieldType} {ws : List Cond} {rm : Room} {Pc : Array Value → State → Prop} {Qc : Array Value → State → Outcome → State → Prop} {XC : String → State → State → Prop} {free : Addr → Prop} {Ts : List Cond} {own host : String} {As rest : List Value} {g : JFrame}
    (S : CallFix p m c cc nL s args Ts own) (hM : vx_Met l y ws rm Pc Qc XC mc ms free) (cw : va_CN R s args own index y host bytes maxL ret ws rm mc ms n ∧ (Cond.static y).before args s = true ∧ True) (hp : PreS s H Pc As)
    (hg : g.method = m) (hn : As.length = n) (hsize : g.locals.size = nL) (hstack : g.stack = As.reverse ++ rest) (hW : 2 * g.monitorRoom + (rest.map fun v => v.category).sum ≤ 8) (hdg : decode cc g.pc = .ok (.invokestatic index, 3)) (hf : cells + mc ≤ R.cells ∧ slots + ms ≤ R.slots) :
    vx_Run p l e R s m args below meth c H locs cells slots mc ms g rest (Qc As.toArray) XC free := by
  obtain ⟨⟨⟨hrc, hrs, hfr, hlo, hws, hcw⟩, hcode, hini, hy, hlen, hl⟩, hx1, hx2⟩ := cw
  have hK : vx_Back l R p e below s args y 3 8 (PreOf R mc ms Pc) (PostOf Qc mc ms free) (vx_Post XC mc ms free) := vx_back (bytes := bytes) (maxL := maxL) (ret := ret) hM hp.1 hrc hrs hfr hlo hws hcw (fun a' U hW => word_at hW (Or.inl (by first | rfl | simp [Cond.onTables, Cond.keeps, Cond.steady])) hini)
  obtain ⟨hx, hb, hml, ho, -⟩ := S
  have hPc := hp.2
  intro T hT X
  rcases vx_callSN X hx (bytes := bytes) (maxL := maxL) (ret := ret) ho hl hx1 hini hcode hy hK hg (hsize.trans hml.symm) (argsL := As) (rest := rest) (fun sig h => hn.trans (hlen sig h)) hstack hW (by rw [hb]; exact hdg)
    (fun vm₁ hW₁ => ⟨hf.1, hf.2, hPc (T.setVm vm₁) hT hW₁⟩) with ⟨v, vm₁, ⟨U', l2, c2, s2⟩, hW₁, X', ⟨g', mk, t, L, e1, e2, hq, h1, hL, h2, h3⟩, st⟩ | ⟨q, vm₁, ⟨U', l2, c2, s2⟩, hW₁, X', ⟨g', mk, t, L, E, ce, e1, e2, hq, hce, hcv, hcl, h1, hL, h2, h3⟩, st⟩
  · dsimp only [Pt.U, Pt.locs, Pt.cells, Pt.slots] at X' e1 e2 h1 h2 h3 st
    subst h1; subst h2; subst h3
    exact Or.inl ⟨v, (T.setVm vm₁).calling g' mk As.toArray, t, U', L, hT, X', hL, e1, e2, hq, st⟩
  · dsimp only [Pt.U, Pt.locs, Pt.cells, Pt.slots] at X' e1 e2 h1 h2 h3 st hcl
    subst h1; subst h2; subst h3
    exact Or.inr ⟨q, (T.setVm vm₁).calling g' mk As.toArray, t, U', L, E, ce, hT, X', hL, e1, e2, hq, hce, hcv, vx_cls hW₁ hcl, st⟩
end VXNS
end
section
/-! ===== J: a judgement over the machine with the whole world in one value. Words, world, context ===== -/
/-- words that stay true when the tables grow warmer -/
def stW (w : Cond) : Bool := match w with
  | .castable _ _ => true
  | .methodLinkNest _ _ _ _ => true
  | .declares _ => true
  | w => goodWord w
theorem stW_warm {w : Cond} (hw : stW w = true) {args a' : Array Value} {s U : State} (hW : s.WarmedH U.vm) (h : w.before args s = true) : w.before a' U = true := by
  unfold stW at hw
  split at hw
  · exact va_Nw.use rfl (va_Nw.warmC hW (va_Nw.of rfl h))
  · exact va_Nw.use rfl (va_Nw.warmM hW (va_Nw.of rfl h))
  · exact va_Nw.use rfl (va_Nw.warmD hW (va_Nw.of rfl h))
  · exact word_at hW (good_of_word hw) h
/-- the one list of words -/
def SWL : List Cond := lw_tbl.filter stW
theorem SWL_mem (i : Nat) {w : Cond} (h : lw_tbl[i]? = some w) (hs : stW w = true) : w ∈ SWL := List.mem_filter.mpr ⟨List.mem_of_getElem? h, hs⟩
theorem SWL_warm {args : Array Value} {s : State} (h : ∀ w ∈ SWL, w.before args s = true) : ∀ w ∈ SWL, ∀ (a' : Array Value) (U : State), s.WarmedH U.vm → w.before a' U = true :=
  fun w hw _ _ hW => stW_warm (List.mem_filter.mp hw).2 hW (h w hw)
/-- the world: ints by cell and place, longs by cell and place, the saved parks' cells by place -/
abbrev Wd : Type := (Nat → Nat → Int32) × (Nat → Nat → Int64) × (Nat → Nat)
/-- where it lies: its first address, classes and slots, the array classes (0 int, 1 boolean, 2 long, 3 Park), the script's address, length, ints -/
abbrev En : Type := Nat × va_G × (Nat → ClassId) × Nat × Nat × (Nat → Int32)
def upI (M : Wd) (c k : Nat) (v : Int32) : Wd := (fun a => if a = c then upd (M.1 a) k v else M.1 a, M.2.1, M.2.2)
def upR (M : Wd) (c : Nat) (f : Nat → Int32) : Wd := (fun a => if a = c then f else M.1 a, M.2.1, M.2.2)
def upL (M : Wd) (c k : Nat) (v : Int64) : Wd := (M.1, fun a => if a = c then vp_updL (M.2.1 a) k v else M.2.1 a, M.2.2)
def upP (M : Wd) (k : Nat) (v : Nat) : Wd := (M.1, M.2.1, fun j => if j = k then v else M.2.2 j)
/-- a cell's address: 0 to 62 the world's cells, 63 the script, 64 + a the address a -/
def adr (E : En) (i : Nat) : Nat := if i < 63 then E.1 + i else if i = 63 then E.2.2.2.1 else i - 64
theorem adr_lt {E : En} {i : Nat} (h : i < 63) : adr E i = E.1 + i := if_pos h
def cv (E : En) (v : Value) : Value := match v with
  | .ref i => .ref (adr E i)
  | w => w
theorem cv_cat (E : En) (v : Value) : (cv E v).category = v.category := by cases v <;> rfl
def isPk (i : Nat) : Bool := i == 1 || i == 7 || i == 14 || i == 20 || i == 26 || i == 32 || i == 38
/-- int arrays' lengths -/
def alen (i : Nat) : Nat := ([0, 0, 6, 6, 6, 60, 60, 0, 6, 6, 6, 60, 60, 0, 0, 6, 6, 6, 60, 60, 0, 6, 6, 6, 60, 60, 0, 6, 6, 6, 60, 60, 0, 6, 6, 6, 60, 60, 0, 6, 6, 6, 60, 60, 0, 6, 4096, 4096, 4096, 16384, 4, 0, 60, 0, 60, 82, 410, 82, 24, 4096, 4096, 0, 0] : List Nat).getD i 0
/-- what a cell holds -/
def jcR (E : En) (i : Nat) (r : Nat → Int32) (lr : Nat → Int64) (pr : Nat → Nat) : va_E :=
  if i = 0 then .inr (3, [.ref (adr E 1), .ref (adr E 7), .ref (adr E 13), .ref (adr E 44), .ref (adr E 51), .int (r 5), .int (r 6)])
  else if i = 44 then .inr (0, [.ref (adr E 45), .ref (adr E 46), .ref (adr E 47), .ref (adr E 48), .ref (adr E 49), .ref (adr E 50), .int (r 6), .int (r 7), .int (r 8), .int (r 9), .int (r 10), .int (r 11)])
  else if i = 51 then .inr (2, [.ref (adr E 52), .int (r 1)])
  else if i = 53 then .inr (4, [.int (r 0), .ref (adr E 54), .int (r 2), .ref (adr E 55), .ref (adr E 56), .int (r 5), .ref (adr E 57), .int (r 7), .ref (adr E 58), .int (r 9), .int (r 10), .ref (adr E 59), .ref (adr E 60), .ref (adr E 61), .int (r 14), .int (r 15), .int (r 16), .int (r 17), .int (r 18), .int (r 19), .int (r 20), .long (lr 21)])
  else if isPk i = true then .inr (1, [.ref (adr E (i + 1)), .ref (adr E (i + 2)), .ref (adr E (i + 3)), .ref (adr E (i + 4)), .ref (adr E (i + 5)), .int (r 5), .int (r 6), .int (r 7), .int (r 8), .int (r 9)])
  else if i = 13 then .inl (E.2.2.1 3, 5, .inr (.inr (.inr (.inr (fun j => some (adr E (pr j)))))))
  else if i = 61 then .inl (E.2.2.1 1, 4096, .inl r)
  else if i = 62 then .inl (E.2.2.1 2, 1, .inr (.inl lr))
  else .inl (E.2.2.1 0, alen i, .inl r)
def jc (E : En) (M : Wd) (i : Nat) : va_E := jcR E i (M.1 i) (M.2.1 i) M.2.2
def mk (E : En) (M : Wd) : va_W := (List.range 63).map (fun i => (adr E i, jc E M i))
theorem mk_get {E : En} {M : Wd} {i : Nat} (hi : i < 63) : (mk E M)[i]? = some (adr E i, jc E M i) := by
  simp [mk, List.getElem?_range hi]
theorem mk_at {E : En} {M : Wd} {i : Nat} {q : Nat × va_E} (h : (mk E M)[i]? = some q) : i < 63 ∧ q = (adr E i, jc E M i) := by
  have hi : i < 63 := by
    have := (List.getElem?_eq_some_iff.mp h).1
    simpa [mk] using this
  exact ⟨hi, Option.some.inj (h.symm.trans (mk_get hi))⟩
theorem mk_len {E : En} {M : Wd} : (mk E M).length = 63 := by simp [mk]
theorem mk_set {E : En} {M M' : Wd} {c : Nat} {e : va_E} (hc : c < 63) (he : jc E M' c = e) (h : ∀ i, i ≠ c → jc E M' i = jc E M i) : (mk E M).set c (adr E c, e) = mk E M' := by
  apply List.ext_getElem?
  intro i
  by_cases hi : i < 63
  · by_cases hic : i = c
    · subst hic
      rw [List.getElem?_set_self (by rw [mk_len]; exact hi), mk_get hi, he]
    · rw [List.getElem?_set_ne (fun q => hic q.symm), mk_get hi, mk_get hi, h i hic]
  · rw [List.getElem?_eq_none (by rw [List.length_set, mk_len]; omega), List.getElem?_eq_none (by rw [mk_len]; omega)]
/-- what may change: all that was made since the law's start -/
def Ar (E : En) : Nat → Prop := fun q => E.1 ≤ q
theorem mk_D {E : En} {M : Wd} : va_D (Ar E) (mk E M) := by
  refine ⟨fun i j p q hi hj h => ?_, fun k q hk => ?_⟩
  · obtain ⟨h1, rfl⟩ := mk_at hi
    obtain ⟨h2, rfl⟩ := mk_at hj
    have h3 : adr E i = adr E j := h
    rw [adr_lt h1, adr_lt h2] at h3
    omega
  · obtain ⟨h1, rfl⟩ := mk_at hk
    show E.1 ≤ adr E k
    rw [adr_lt h1]
    omega
theorem jc_ne_I {E : En} {M : Wd} {c k : Nat} {v : Int32} : ∀ i, i ≠ c → jc E (upI M c k v) i = jc E M i := by
  intro i hi
  simp only [jc, upI, if_neg hi]
theorem jc_ne_R {E : En} {M : Wd} {c : Nat} {f : Nat → Int32} : ∀ i, i ≠ c → jc E (upR M c f) i = jc E M i := by
  intro i hi
  simp only [jc, upR, if_neg hi]
theorem jc_ne_L {E : En} {M : Wd} {c k : Nat} {v : Int64} : ∀ i, i ≠ c → jc E (upL M c k v) i = jc E M i := by
  intro i hi
  simp only [jc, upL, if_neg hi]
theorem jc_ne_P {E : En} {M : Wd} {k : Nat} {v : Nat} : ∀ i, i ≠ 13 → jc E (upP M k v) i = jc E M i := by
  intro i hi
  simp only [jc, upP, jcR, if_neg hi]
abbrev tysE (E : En) : List (ClassId × FieldType) := [(E.2.2.1 0, FieldType.int), (E.2.2.1 1, FieldType.boolean), (E.2.2.1 2, FieldType.long), (E.2.2.1 3, FieldType.object "CarTangos$Park")]
/-- the texts of the exceptions -/
def strL : List (String × Nat × String) := [("CarTangos", 313, "there is no such lane, cell or car"), ("CarTangos", 315, "an argument is out of range"), ("CarTangos", 317, "the park does not allow it"), ("CarTangos", 64, "there is no car"), ("CarTangos", 88, "the log is full"), ("CarTangos", 93, "the log is empty"), ("CarTangos", 101, "there is no plan that the log has room for"), ("CarTangos", 108, "no such character code"), ("CarTangos", 114, "the buffer is full"), ("CarTangos", 129, "the buffer is not complete works"), ("CarTangos", 143, "the latest work did not stop"), ("CarTangos", 145, "there is no saved state"), ("CarTangos", 151, "there is no snapshot"), ("CarTangos", 166, "there is no such car"), ("CarTangos", 182, "there is no such cell"), ("CarTangos", 202, "there is no such slide"), ("CarTangos", 240, "there is no next slide"), ("CarTangos", 269, "there are fewer than 2 cars"), ("CarTangos", 275, "a car or a wall is on the cell")]
/-- classes of exceptions that aren't castable to others -/
def ncL : List (String × String) := [("java/lang/IllegalArgumentException", "java/lang/IndexOutOfBoundsException"), ("java/lang/IllegalStateException", "java/lang/IndexOutOfBoundsException"), ("java/lang/IllegalStateException", "java/lang/IllegalArgumentException")]
/-- what stays: classes, the two statics of Throwable, texts, the script -/
def Sx (E : En) (U : State) : Prop := va_K E.2.1 vwCl (tysE E) U ∧ vx_Zq Bundle.tN "UNASSIGNED_STACK" Bundle.steD (Ar E) U U.heap ∧ vx_Zq Bundle.tN "SUPPRESSED_SENTINEL" Bundle.listD (Ar E) U U.heap ∧ (∀ t ∈ strL, ∃ a, vk_R t.1 t.2.1 t.2.2 a U) ∧ va_X E.2.2.2.1 E.2.2.2.2.1 E.2.2.2.2.2 U U.heap ∧ E.2.2.2.1 < E.1 ∧ E.2.2.2.1 < U.heap.size ∧ ∀ t ∈ ncL, va_Nc t.1 t.2 U
def Rl (E : En) (M : Wd) (U : State) : Prop := va_P E.2.1 vwCl (mk E M) U.heap ∧ Sx E U
theorem Sx.to {E : En} {s U : State} {H : Heap} {locs : List Loc} (h : Sx E s) (hS : va_S (Ar E) s.heap H locs) (hU : U.heap = H) (hW : s.WarmedH U.vm) : Sx E U := by
  obtain ⟨h1, h2, h3, h4, h5, h6, h7, h8⟩ := h
  subst hU
  have hb : ¬ Ar E E.2.2.2.1 := fun q => by have : E.1 ≤ E.2.2.2.1 := q; omega
  refine ⟨va_K.moved hW.alike h1, vx_Zq.moved hW.alike (h2.kept hS.2.1), vx_Zq.moved hW.alike (h3.kept hS.2.1), fun t ht => ?_, va_X.moved hW.alike (h5.kept (hS.2.1 _ h7 hb)), h6, Nat.lt_of_lt_of_le h7 hS.1, fun t ht => va_Nc.moved hW.alike (h8 t ht)⟩
  obtain ⟨a, ha⟩ := h4 t ht
  exact ⟨a, vk_R.warm hW ha⟩
theorem Sx.calling {E : En} {U : State} (h : Sx E U) (g : JFrame) (mk' : MethodId) (a : Array Value) : Sx E (U.calling g mk' a) := by
  obtain ⟨h1, h2, h3, h4, h5, h6, h7, h8⟩ := h
  have hA : U.vm.Alike (U.calling g mk' a).vm := Vm.Alike.refl U.vm
  refine ⟨va_K.moved hA h1, vx_Zq.moved hA h2, vx_Zq.moved hA h3, fun t ht => ?_, va_X.moved hA h5, h6, h7, fun t ht => va_Nc.moved hA (h8 t ht)⟩
  obtain ⟨b, hb⟩ := h4 t ht
  exact ⟨b, vk_R.same rfl hb⟩
end
section
/-! ===== J: the judgement, contracts, entry, ends ===== -/
/-- a method: name, code, locals, answer; room: frames, locals' words, cells, slots; its table of handlers -/
abbrev MI : Type := MethodName × ByteArray × Nat × Option FieldType × Nat × Nat × Nat × Nat × List (Nat × Nat × Nat × Nat)
abbrev Kx : Type := Program × Launch × Env × Room × State × MethodId × Array Value × List Frame × Method × Code
abbrev rmf (f : MI) : Room := { frames := f.2.2.2.2.1, cells := f.2.2.2.2.2.2.1, slots := f.2.2.2.2.2.2.2.1, locals := f.2.2.2.2.2.1 }
def cdw (f : MI) : Cond := match f.2.2.2.2.2.2.2.2 with
  | [] => Cond.code f.1 f.2.1 f.2.2.1 f.2.2.2.1
  | hh => Cond.codeWith f.1 f.2.1 f.2.2.1 f.2.2.2.1 hh
abbrev wsf (f : MI) : List Cond := cdw f :: SWL
abbrev kS (κ : Kx) : State := κ.2.2.2.2.1
abbrev kA (κ : Kx) : Array Value := κ.2.2.2.2.2.2.1
/-- the context of a method's walk -/
def Cx (κ : Kx) (E : En) (f : MI) : Prop :=
  κ.1.tables.exec = Jvm.exec ∧ κ.2.2.2.2.2.2.2.2.2.code = f.2.1 ∧ κ.2.2.2.2.2.2.2.2.2.maxLocals = f.2.2.1 ∧ κ.2.2.2.2.2.2.2.2.1.sig.returnType = f.2.2.2.1 ∧ κ.2.2.2.2.1.vm.findClass f.1.cls = some κ.2.2.2.2.2.1.cls ∧
  (∀ w ∈ SWL, w.before κ.2.2.2.2.2.2.1 κ.2.2.2.2.1 = true) ∧ κ.2.2.2.2.2.2.2.2.1.locks = false ∧ κ.2.2.2.1 = rmf f ∧ Sx E κ.2.2.2.2.1 ∧ κ.2.1.stackTraces = false ∧ f.1.name = κ.2.2.2.2.2.2.2.2.1.name ∧ κ.2.2.2.2.2.2.2.2.2.exceptionTable.toList = tableOf f.2.2.2.2.2.2.2.2
abbrev lvm (E : En) (L : List (Nat × Value)) : List (Nat × Value) := L.map (fun q => (q.1, cv E q.2))
abbrev cvs (E : En) (st : List Value) : List Value := st.map (cv E)
def kW (κ : Kx) (H : Heap) (locs : List Loc) (k n : Nat) (Q : State → Prop) (g : JFrame) : Prop :=
  W κ.1 κ.2.1 κ.2.2.1 κ.2.2.2.1 κ.2.2.2.2.1 κ.2.2.2.2.2.1 κ.2.2.2.2.2.2.1 κ.2.2.2.2.2.2.2.1 κ.2.2.2.2.2.2.2.2.1 κ.2.2.2.2.2.2.2.2.2 H locs k n Q g
def J (κ : Kx) (E : En) (f : MI) (Q : State → Prop) (k n : Nat) (L : List (Nat × Value)) (M : Wd) (pc : Nat) (st : List Value) : Prop :=
  Cx κ E f → ∀ (H : Heap) (locs : List Loc) (ls : Array Slot), va_P E.2.1 vwCl (mk E M) H → va_S (Ar E) κ.2.2.2.2.1.heap H locs → lv_has ls f.2.2.1 (lvm E L) →
    kW κ H locs k n Q (F0 κ.2.2.2.2.2.1 pc ls (cvs E st))
/-- an outcome: a value (or none) is returned, or an exception of a class is thrown -/
abbrev Oc : Type := Option Value ⊕ String
def isB (x : Int32) : Prop := x = 0 ∨ x = 1
def okB (ret : Option FieldType) (v : Option Value) : Prop := ret = some .boolean → ∃ x : Int32, v = some (.int x) ∧ isB x
def QV (E : En) (f : MI) (o : Oc) (M' : Wd) : Array Value → State → Outcome → State → Prop := fun _ st oc t =>
  ∃ v : Option Value, o = .inl v ∧ oc = .returned (v.map (cv E)) ∧ okB f.2.2.2.1 v ∧ va_P E.2.1 vwCl (mk E M') t.heap ∧ va_F (Ar E) st t
def XV (E : En) (o : Oc) (M' : Wd) : String → State → State → Prop := fun X st t => o = .inr X ∧ va_P E.2.1 vwCl (mk E M') t.heap ∧ va_F (Ar E) st t
def Con (E : En) (f : MI) (av : List Value) (M : Wd) (o : Oc) (M' : Wd) : Prop :=
  ∀ l : Launch, l.stackTraces = false → vx_Met l f.1 (wsf f) (rmf f) (va_Pc (cvs E av) (Rl E M)) (QV E f o M') (XV E o M') f.2.2.2.2.2.2.1 f.2.2.2.2.2.2.2.1 (Ar E)
/-- what a walk of f owes at its end -/
abbrev Qm (κ : Kx) (E : En) (f : MI) (o : Oc) (M' : Wd) : State → Prop := vx_MQ κ.2.2.2.2.2.2.2.1 (QV E f o M') (XV E o M') κ.2.2.2.2.2.2.1 κ.2.2.2.2.1 f.2.2.2.2.2.2.1 f.2.2.2.2.2.2.2.1 (Ar E)
theorem lvm_args (E : En) : ∀ (av : List Value) (i : Nat), lv_args i (cvs E av) = lvm E (lv_args i av)
  | [], _ => rfl
  | v :: av, i => by
    have h := lvm_args E av
    cases v <;> simp only [cvs, lvm, List.map_cons, lv_args, cv, Value.category] at h ⊢ <;> first | (rw [h]; rfl) | simp [h]
theorem lg_cvs (E : En) (av : List Value) : (lg_sl (cvs E av)).length = (lg_sl av).length := by
  induction av with
  | nil => rfl
  | cons v av ih =>
    have ih' : (List.flatMap (fun v : Value => if v.category = 2 then [Slot.val v, Slot.second] else [Slot.val v]) (List.map (cv E) av)).length = (List.flatMap (fun v : Value => if v.category = 2 then [Slot.val v, Slot.second] else [Slot.val v]) av).length := ih
    simp only [lg_sl, cvs, List.map_cons, List.flatMap_cons, List.length_append, cv_cat, ih']
    by_cases hc : v.category = 2
    · simp [hc]
    · simp [hc]
/-- a contract out of a walk from the entry -/
theorem Con.of {E : En} {f : MI} {av : List Value} {M : Wd} {o : Oc} {M' : Wd} (hy : plainName f.1.cls = true) (hh0 : f.2.2.2.2.2.2.2.2 = []) (hlen : (lg_sl av).length ≤ f.2.2.1)
    (body : ∀ κ : Kx, J κ E f (Qm κ E f o M') 0 0 (lv_args 0 av) M 0 []) : Con E f av M o M' := by
  intro l hl
  have hcd : wsf f = Cond.code f.1 f.2.1 f.2.2.1 f.2.2.2.1 :: SWL := by simp only [wsf, cdw, hh0]
  refine vx_ofW (cc := f.2.1) (maxL := f.2.2.1) (ret := f.2.2.2.1) hy hcd ?_
  intro p e s m args below meth c s₁ B hml het hv
  obtain ⟨rfl, hP, hX⟩ := hv
  have hts : ∀ w ∈ SWL, w.before (cvs E av).toArray s = true := fun w h => atoms_spec (ws := wsf f) B.pre w (List.mem_cons_of_mem _ h)
  have hown : s.vm.findClass f.1.cls = some m.cls := findClass_of_methodNamed B.named
  have hnm : f.1.name = meth.name := (name_of_methodNamed B.named B.method).1.symm
  have hlc : (lg_sl (cvs E av)).length ≤ f.2.2.1 := by rw [lg_cvs]; exact hlen
  have hl0 := lv_entry (cvs E av) (n := f.2.2.1) hlc
  rw [lvm_args] at hl0
  rw [lg_entry_eq]
  exact body (p, l, e, (headSpec (wsf f) (rmf f)).room, s, m, (cvs E av).toArray, below, meth, c) ⟨B.exec, B.bytes, hml, B.returns, hown, hts, B.notSynchronized, rfl, hX, hl, hnm, by rw [hh0]; exact List.eq_nil_iff_forall_not_mem.mpr fun x hx => het x hx⟩ s.heap [] _ hP va_S.rf hl0
/-- the same of a method with handlers -/
theorem Con.ofH {E : En} {f : MI} {av : List Value} {M : Wd} {o : Oc} {M' : Wd} (hy : plainName f.1.cls = true) (hh0 : cdw f = Cond.codeWith f.1 f.2.1 f.2.2.1 f.2.2.2.1 f.2.2.2.2.2.2.2.2) (hlen : (lg_sl av).length ≤ f.2.2.1)
    (body : ∀ κ : Kx, J κ E f (Qm κ E f o M') 0 0 (lv_args 0 av) M 0 []) : Con E f av M o M' := by
  intro l hl
  have hcd : wsf f = Cond.codeWith f.1 f.2.1 f.2.2.1 f.2.2.2.1 f.2.2.2.2.2.2.2.2 :: SWL := by simp only [wsf, hh0]
  refine vx_ofWH (cc := f.2.1) (maxL := f.2.2.1) (ret := f.2.2.2.1) hy hcd ?_
  intro p e s m args below meth c s₁ B hml hv
  obtain ⟨rfl, hP, hX⟩ := hv
  have hts : ∀ w ∈ SWL, w.before (cvs E av).toArray s = true := fun w h => atoms_spec (ws := wsf f) B.pre w (List.mem_cons_of_mem _ h)
  have hcw : (Cond.codeWith f.1 f.2.1 f.2.2.1 f.2.2.2.1 f.2.2.2.2.2.2.2.2).before (cvs E av).toArray s = true := by rw [← hh0]; exact atoms_spec (ws := wsf f) B.pre _ List.mem_cons_self
  have hown : s.vm.findClass f.1.cls = some m.cls := findClass_of_methodNamed B.named
  have hnm : f.1.name = meth.name := (name_of_methodNamed B.named B.method).1.symm
  have hlc : (lg_sl (cvs E av)).length ≤ f.2.2.1 := by rw [lg_cvs]; exact hlen
  have hl0 := lv_entry (cvs E av) (n := f.2.2.1) hlc
  rw [lvm_args] at hl0
  rw [lg_entry_eq]
  exact body (p, l, e, (headSpec (wsf f) (rmf f)).room, s, m, (cvs E av).toArray, below, meth, c) ⟨B.exec, B.bytes, hml, B.returns, hown, hts, B.notSynchronized, rfl, hX, hl, hnm, vx_table (x := f.1) B hcw⟩ s.heap [] _ hP va_S.rf hl0
section JR
variable {κ : Kx} {E : En} {f : MI} {Q : State → Prop} {k n : Nat} {L : List (Nat × Value)} {M : Wd} {pc : Nat} {st : List Value}
/-- more words: fewer or other order of the locals listed -/
theorem J_sub {L' : List (Nat × Value)} (ks : List Nat) (hL : lv_pick L ks = L') (kk : J κ E f Q k n L' M pc st) : J κ E f Q k n L M pc st := by
  intro hC H locs ls hP hS hl
  refine kk hC H locs ls hP hS (lv_sub hl ks ?_)
  rw [← hL]
  simp only [lv_pick, lvm, List.map_filterMap, List.getElem?_map]
theorem J_eq {L' : List (Nat × Value)} {M' : Wd} {st' : List Value} {k' n' : Nat} (h1 : L = L') (h2 : M = M') (h3 : st = st') (hk : k = k') (hn : n = n') (kk : J κ E f Q k' n' L' M' pc st') : J κ E f Q k n L M pc st := by
  subst h1; subst h2; subst h3; subst hk; subst hn; exact kk
theorem J_wide {k' n' : Nat} (h1 : k ≤ k') (h2 : n ≤ n') (kk : J κ E f Q k' n' L M pc st) : J κ E f Q k n L M pc st := by
  intro hC H locs ls hP hS hl
  exact W.widen h1 h2 (kk hC H locs ls hP hS hl)
theorem J_end {o : Oc} {M' : Wd} {v : Option Value} (ho : o = .inl v) (hM : M = M') (hb : okB f.2.2.2.1 v)
    (row : ∀ {hq : ∀ (t : State), True}, Cx κ E f → ∀ (H : Heap) (locs : List Loc) (ls : Array Slot), (∀ t : State, t.heap = H → κ.2.2.2.2.1.WarmedH t.vm → QV E f o M' κ.2.2.2.2.2.2.1 κ.2.2.2.2.1 (.returned (v.map (cv E))) t) → (∀ q ∈ locs, Ar E q.base) →
      kW κ H locs k n (MQ κ.2.2.2.2.2.2.2.1 (QV E f o M') κ.2.2.2.2.2.2.1 κ.2.2.2.2.1 k n (Ar E)) (F0 κ.2.2.2.2.2.1 pc ls (cvs E st)))
    (hk : k = f.2.2.2.2.2.2.1) (hn : n = f.2.2.2.2.2.2.2.1) : J κ E f (Qm κ E f o M') k n L M pc st := by
  subst ho; subst hM; subst hk; subst hn
  intro hC H locs ls hP hS hl
  refine vx_ret (row (hq := fun _ => trivial) hC H locs ls (fun t ht _ => ⟨v, rfl, rfl, hb, by rw [ht]; exact hP, hS.F ht⟩) hS.2.2)
theorem J_ireturn {o : Oc} {M' : Wd} {x : Int32} (hd : decode f.2.1 pc = .ok (.ireturn, 1)) (hr : f.2.2.2.1 = some .int) (ho : o = .inl (some (.int x))) (hM : M = M') (hk : k = f.2.2.2.2.2.2.1) (hn : n = f.2.2.2.2.2.2.2.1) : J κ E f (Qm κ E f o M') k n L M pc [.int x] :=
  J_end ho hM (fun h => by rw [hr] at h; cases h) (fun hC H locs ls hq hf => W.iret (v := x) hC.1 hC.2.1 (by rw [hC.2.2.2.1, hr]) hq hf hd (hlocks := hC.2.2.2.2.2.2.1)) hk hn
theorem J_zreturn {o : Oc} {M' : Wd} {x : Int32} (hd : decode f.2.1 pc = .ok (.ireturn, 1)) (hr : f.2.2.2.1 = some .boolean) (hb : isB x) (ho : o = .inl (some (.int x))) (hM : M = M') (hk : k = f.2.2.2.2.2.2.1) (hn : n = f.2.2.2.2.2.2.2.1) : J κ E f (Qm κ E f o M') k n L M pc [.int x] :=
  J_end ho hM (fun _ => ⟨x, rfl, hb⟩) (fun hC H locs ls hq hf => W.zret (v := x) (ty := .boolean) hC.1 hC.2.1 (by rw [hC.2.2.2.1, hr]) (by rcases hb with h | h <;> rw [h] <;> rfl) hq hf hd (hlocks := hC.2.2.2.2.2.2.1)) hk hn
theorem J_lreturn {o : Oc} {M' : Wd} {x : Int64} (hd : decode f.2.1 pc = .ok (.lreturn, 1)) (hr : f.2.2.2.1 = some .long) (ho : o = .inl (some (.long x))) (hM : M = M') (hk : k = f.2.2.2.2.2.2.1) (hn : n = f.2.2.2.2.2.2.2.1) : J κ E f (Qm κ E f o M') k n L M pc [.long x] :=
  J_end ho hM (fun h => by rw [hr] at h; cases h) (fun hC H locs ls hq hf => W.lret (v := x) hC.1 hC.2.1 (by rw [hC.2.2.2.1, hr]) hq hf hd (hlocks := hC.2.2.2.2.2.2.1)) hk hn
theorem J_dreturn {o : Oc} {M' : Wd} {x : UInt64} (hd : decode f.2.1 pc = .ok (.dreturn, 1)) (hr : f.2.2.2.1 = some .double) (ho : o = .inl (some (.double x))) (hM : M = M') (hk : k = f.2.2.2.2.2.2.1) (hn : n = f.2.2.2.2.2.2.2.1) : J κ E f (Qm κ E f o M') k n L M pc [.double x] :=
  J_end ho hM (fun h => by rw [hr] at h; cases h) (fun hC H locs ls hq hf => W.dret (v := x) hC.1 hC.2.1 (by rw [hC.2.2.2.1, hr]) hq hf hd (hlocks := hC.2.2.2.2.2.2.1)) hk hn
theorem J_return {o : Oc} {M' : Wd} (hd : decode f.2.1 pc = .ok (.return_, 1)) (hr : f.2.2.2.1 = none) (ho : o = .inl none) (hM : M = M') (hk : k = f.2.2.2.2.2.2.1) (hn : n = f.2.2.2.2.2.2.2.1) : J κ E f (Qm κ E f o M') k n L M pc [] :=
  J_end ho hM (fun h => by rw [hr] at h; cases h) (fun hC H locs ls hq hf => W.vret hC.1 hC.2.1 (by rw [hC.2.2.2.1, hr]) hq hf hd (hlocks := hC.2.2.2.2.2.2.1)) hk hn
end JR
end
section
/-! ===== J: rows of single instructions ===== -/
section JI
variable {κ : Kx} {E : En} {f : MI} {Q : State → Prop} {k n : Nat} {L L' : List (Nat × Value)} {M : Wd} {pc : Nat} {st : List Value}
theorem J_iconst {q : Int} {v : Int32} (hd : decode f.2.1 pc = .ok (.iconst q, 1)) (hv : Int32.ofInt q = v) (kk : J κ E f Q k n L M (pc + 1) (.int v :: st)) : J κ E f Q k n L M pc st := fun hC H locs ls hP hS hl => lv_iconst hC.1 hC.2.1 hd hv (kk hC H locs ls hP hS hl)
theorem J_bipush {q : Int} {v : Int32} (hd : decode f.2.1 pc = .ok (.bipush q, 2)) (hv : (Int8.ofInt q).toInt32 = v) (kk : J κ E f Q k n L M (pc + 2) (.int v :: st)) : J κ E f Q k n L M pc st := fun hC H locs ls hP hS hl => lv_bipush hC.1 hC.2.1 hd hv (kk hC H locs ls hP hS hl)
theorem J_sipush {q : Int} {v : Int32} (hd : decode f.2.1 pc = .ok (.sipush q, 3)) (hv : (Int16.ofInt q).toInt32 = v) (kk : J κ E f Q k n L M (pc + 3) (.int v :: st)) : J κ E f Q k n L M pc st := fun hC H locs ls hP hS hl => lv_sipush hC.1 hC.2.1 hd hv (kk hC H locs ls hP hS hl)
theorem J_lconst {q : Fin 2} {v : Int64} (hd : decode f.2.1 pc = .ok (.lconst q, 1)) (hv : Int64.ofNat (q : Nat) = v) (kk : J κ E f Q k n L M (pc + 1) (.long v :: st)) : J κ E f Q k n L M pc st := fun hC H locs ls hP hS hl => lv_lconst hC.1 hC.2.1 hd hv (kk hC H locs ls hP hS hl)
theorem J_dconst1  (hd : decode f.2.1 pc = .ok (.dconst 1, 1))  (kk : J κ E f Q k n L M (pc + 1) (.double FP.dconst1 :: st)) : J κ E f Q k n L M pc st := fun hC H locs ls hP hS hl => lv_dconst1 hC.1 hC.2.1 hd  (kk hC H locs ls hP hS hl)
theorem J_dconst0  (hd : decode f.2.1 pc = .ok (.dconst 0, 1))  (kk : J κ E f Q k n L M (pc + 1) (.double FP.dconst0 :: st)) : J κ E f Q k n L M pc st := fun hC H locs ls hP hS hl => lv_dconst0 hC.1 hC.2.1 hd  (kk hC H locs ls hP hS hl)
theorem lv_lk {E : En} {ls : Array Slot} {nL : Nat} {L : List (Nat × Value)} (hl : lv_has ls nL (lvm E L)) (j : Nat) {i : Nat} {v : Value} (h : L[j]? = some (i, v)) : ls[i]? = some (.val (cv E v)) := lv_at hl j (by rw [List.getElem?_map, h]; rfl)
theorem J_iload_n {q : Fin 4} {i : Nat} {x : Int32} (hd : decode f.2.1 pc = .ok (.iload_n q, 1)) (hi : (q : Nat) = i) (j : Nat) (hj : L[j]? = some (i, .int x)) (kk : J κ E f Q k n L M (pc + 1) (.int x :: st)) : J κ E f Q k n L M pc st := fun hC H locs ls hP hS hl => lv_iload_n hC.1 hC.2.1 hd hi (lv_lk hl j hj) (kk hC H locs ls hP hS hl)
theorem J_iload {i : Nat} {x : Int32} (hd : decode f.2.1 pc = .ok (.iload i, 2)) (j : Nat) (hj : L[j]? = some (i, .int x)) (kk : J κ E f Q k n L M (pc + 2) (.int x :: st)) : J κ E f Q k n L M pc st := fun hC H locs ls hP hS hl => lv_iload hC.1 hC.2.1 hd (lv_lk hl j hj) (kk hC H locs ls hP hS hl)
theorem J_lload_n {q : Fin 4} {i : Nat} {x : Int64} (hd : decode f.2.1 pc = .ok (.lload_n q, 1)) (hi : (q : Nat) = i) (j : Nat) (hj : L[j]? = some (i, .long x)) (kk : J κ E f Q k n L M (pc + 1) (.long x :: st)) : J κ E f Q k n L M pc st := fun hC H locs ls hP hS hl => lv_lload_n hC.1 hC.2.1 hd hi (lv_lk hl j hj) (kk hC H locs ls hP hS hl)
theorem J_lload {i : Nat} {x : Int64} (hd : decode f.2.1 pc = .ok (.lload i, 2)) (j : Nat) (hj : L[j]? = some (i, .long x)) (kk : J κ E f Q k n L M (pc + 2) (.long x :: st)) : J κ E f Q k n L M pc st := fun hC H locs ls hP hS hl => lv_lload hC.1 hC.2.1 hd (lv_lk hl j hj) (kk hC H locs ls hP hS hl)
theorem J_aload_n {q : Fin 4} {i : Nat} {x : Nat} (hd : decode f.2.1 pc = .ok (.aload_n q, 1)) (hi : (q : Nat) = i) (j : Nat) (hj : L[j]? = some (i, .ref x)) (kk : J κ E f Q k n L M (pc + 1) (.ref x :: st)) : J κ E f Q k n L M pc st := fun hC H locs ls hP hS hl => lv_aload_n hC.1 hC.2.1 hd hi (lv_lk hl j hj) (kk hC H locs ls hP hS hl)
theorem J_aload {i : Nat} {x : Nat} (hd : decode f.2.1 pc = .ok (.aload i, 2)) (j : Nat) (hj : L[j]? = some (i, .ref x)) (kk : J κ E f Q k n L M (pc + 2) (.ref x :: st)) : J κ E f Q k n L M pc st := fun hC H locs ls hP hS hl => lv_aload hC.1 hC.2.1 hd (lv_lk hl j hj) (kk hC H locs ls hP hS hl)
theorem J_dload_n {q : Fin 4} {i : Nat} {x : UInt64} (hd : decode f.2.1 pc = .ok (.dload_n q, 1)) (hi : (q : Nat) = i) (j : Nat) (hj : L[j]? = some (i, .double x)) (kk : J κ E f Q k n L M (pc + 1) (.double x :: st)) : J κ E f Q k n L M pc st := fun hC H locs ls hP hS hl => lv_dload_n hC.1 hC.2.1 hd hi (lv_lk hl j hj) (kk hC H locs ls hP hS hl)
theorem J_dload {i : Nat} {x : UInt64} (hd : decode f.2.1 pc = .ok (.dload i, 2)) (j : Nat) (hj : L[j]? = some (i, .double x)) (kk : J κ E f Q k n L M (pc + 2) (.double x :: st)) : J κ E f Q k n L M pc st := fun hC H locs ls hP hS hl => lv_dload hC.1 hC.2.1 hd (lv_lk hl j hj) (kk hC H locs ls hP hS hl)
def fl1 (i : Nat) (q : Nat × Value) : Bool := !(q.1 == i) && !(q.1 + 1 == i && q.2.category == 2)
def fl2 (i : Nat) (q : Nat × Value) : Bool := !(q.1 == i) && (!(q.1 == i + 1) && !(q.1 + 1 == i && q.2.category == 2))
theorem lvm_fl1 (E : En) (i : Nat) (L : List (Nat × Value)) : (lvm E L).filter (fun q => !(q.1 == i) && !(q.1 + 1 == i && q.2.category == 2)) = lvm E (L.filter (fl1 i)) := by
  simp only [lvm, List.filter_map]
  congr 1
  apply List.filter_congr
  intro q _
  simp only [Function.comp, fl1, cv_cat]
theorem lvm_fl2 (E : En) (i : Nat) (L : List (Nat × Value)) : (lvm E L).filter (fun q => !(q.1 == i) && (!(q.1 == i + 1) && !(q.1 + 1 == i && q.2.category == 2))) = lvm E (L.filter (fl2 i)) := by
  simp only [lvm, List.filter_map]
  congr 1
  apply List.filter_congr
  intro q _
  simp only [Function.comp, fl2, cv_cat]
theorem lvm_pick (E : En) (L : List (Nat × Value)) (ks : List Nat) : lv_pick (lvm E L) ks = lvm E (lv_pick L ks) := by
  simp only [lv_pick, lvm, List.map_filterMap, List.getElem?_map]
theorem lv_st1 {E : En} {ls : Array Slot} {nL i : Nat} {v : Value} {L L' : List (Nat × Value)} {w : Value} (ks : List Nat) (hw : cv E v = w) (hp : lv_pick ((i, v) :: L.filter (fl1 i)) ks = L') (h : lv_has ls nL ((i, w) :: (lvm E L).filter (fun q => !(q.1 == i) && !(q.1 + 1 == i && q.2.category == 2)))) : lv_has ls nL (lvm E L') := by
  refine lv_sub h ks ?_
  rw [lvm_fl1, ← hw, ← hp, ← lvm_pick]
  rfl
theorem lv_st2 {E : En} {ls : Array Slot} {nL i : Nat} {v : Value} {L L' : List (Nat × Value)} {w : Value} (ks : List Nat) (hw : cv E v = w) (hp : lv_pick ((i, v) :: L.filter (fl2 i)) ks = L') (h : lv_has ls nL ((i, w) :: (lvm E L).filter (fun q => !(q.1 == i) && (!(q.1 == i + 1) && !(q.1 + 1 == i && q.2.category == 2))))) : lv_has ls nL (lvm E L') := by
  refine lv_sub h ks ?_
  rw [lvm_fl2, ← hw, ← hp, ← lvm_pick]
  rfl
theorem J_istore_n {q : Fin 4} {i : Nat} {x : Int32} (hd : decode f.2.1 pc = .ok (.istore_n q, 1)) (hi : (q : Nat) = i) (hn : i < f.2.2.1) (ks : List Nat) (hp : lv_pick ((i, .int x) :: L.filter (fl1 i)) ks = L') (kk : J κ E f Q k n L' M (pc + 1) st) : J κ E f Q k n L M pc (.int x :: st) := fun hC H locs ls hP hS hl => lv_istore_n hC.1 hC.2.1 hd hi hl hn rfl (fun ls' hl' => kk hC H locs ls' hP hS (lv_st1 ks rfl hp hl'))
theorem J_istore {i : Nat} {x : Int32} (hd : decode f.2.1 pc = .ok (.istore i, 2)) (hn : i < f.2.2.1) (ks : List Nat) (hp : lv_pick ((i, .int x) :: L.filter (fl1 i)) ks = L') (kk : J κ E f Q k n L' M (pc + 2) st) : J κ E f Q k n L M pc (.int x :: st) := fun hC H locs ls hP hS hl => lv_istore hC.1 hC.2.1 hd hl hn rfl (fun ls' hl' => kk hC H locs ls' hP hS (lv_st1 ks rfl hp hl'))
theorem J_lstore_n {q : Fin 4} {i : Nat} {x : Int64} (hd : decode f.2.1 pc = .ok (.lstore_n q, 1)) (hi : (q : Nat) = i) (hn : i + 1 < f.2.2.1) (ks : List Nat) (hp : lv_pick ((i, .long x) :: L.filter (fl2 i)) ks = L') (kk : J κ E f Q k n L' M (pc + 1) st) : J κ E f Q k n L M pc (.long x :: st) := fun hC H locs ls hP hS hl => lv_lstore_n hC.1 hC.2.1 hd hi hl hn rfl (fun ls' hl' => kk hC H locs ls' hP hS (lv_st2 ks rfl hp hl'))
theorem J_lstore {i : Nat} {x : Int64} (hd : decode f.2.1 pc = .ok (.lstore i, 2)) (hn : i + 1 < f.2.2.1) (ks : List Nat) (hp : lv_pick ((i, .long x) :: L.filter (fl2 i)) ks = L') (kk : J κ E f Q k n L' M (pc + 2) st) : J κ E f Q k n L M pc (.long x :: st) := fun hC H locs ls hP hS hl => lv_lstore hC.1 hC.2.1 hd hl hn rfl (fun ls' hl' => kk hC H locs ls' hP hS (lv_st2 ks rfl hp hl'))
theorem J_astore_n {q : Fin 4} {i : Nat} {x : Nat} (hd : decode f.2.1 pc = .ok (.astore_n q, 1)) (hi : (q : Nat) = i) (hn : i < f.2.2.1) (ks : List Nat) (hp : lv_pick ((i, .ref x) :: L.filter (fl1 i)) ks = L') (kk : J κ E f Q k n L' M (pc + 1) st) : J κ E f Q k n L M pc (.ref x :: st) := fun hC H locs ls hP hS hl => lv_astore_n hC.1 hC.2.1 hd hi hl hn rfl (fun ls' hl' => kk hC H locs ls' hP hS (lv_st1 ks rfl hp hl'))
theorem J_astore {i : Nat} {x : Nat} (hd : decode f.2.1 pc = .ok (.astore i, 2)) (hn : i < f.2.2.1) (ks : List Nat) (hp : lv_pick ((i, .ref x) :: L.filter (fl1 i)) ks = L') (kk : J κ E f Q k n L' M (pc + 2) st) : J κ E f Q k n L M pc (.ref x :: st) := fun hC H locs ls hP hS hl => lv_astore hC.1 hC.2.1 hd hl hn rfl (fun ls' hl' => kk hC H locs ls' hP hS (lv_st1 ks rfl hp hl'))
theorem J_dstore_n {q : Fin 4} {i : Nat} {x : UInt64} (hd : decode f.2.1 pc = .ok (.dstore_n q, 1)) (hi : (q : Nat) = i) (hn : i + 1 < f.2.2.1) (ks : List Nat) (hp : lv_pick ((i, .double x) :: L.filter (fl2 i)) ks = L') (kk : J κ E f Q k n L' M (pc + 1) st) : J κ E f Q k n L M pc (.double x :: st) := fun hC H locs ls hP hS hl => lv_dstore_n hC.1 hC.2.1 hd hi hl hn rfl (fun ls' hl' => kk hC H locs ls' hP hS (lv_st2 ks rfl hp hl'))
theorem J_dstore {i : Nat} {x : UInt64} (hd : decode f.2.1 pc = .ok (.dstore i, 2)) (hn : i + 1 < f.2.2.1) (ks : List Nat) (hp : lv_pick ((i, .double x) :: L.filter (fl2 i)) ks = L') (kk : J κ E f Q k n L' M (pc + 2) st) : J κ E f Q k n L M pc (.double x :: st) := fun hC H locs ls hP hS hl => lv_dstore hC.1 hC.2.1 hd hl hn rfl (fun ls' hl' => kk hC H locs ls' hP hS (lv_st2 ks rfl hp hl'))
theorem J_iinc {i : Nat} {q : Int} {x v : Int32} (hd : decode f.2.1 pc = .ok (.iinc i q, 3)) (j : Nat) (hj : L[j]? = some (i, .int x)) (hv : x + Int32.ofInt q = v) (hn : i < f.2.2.1) (ks : List Nat) (hp : lv_pick ((i, .int v) :: L.filter (fl1 i)) ks = L') (kk : J κ E f Q k n L' M (pc + 3) st) : J κ E f Q k n L M pc st := fun hC H locs ls hP hS hl => lv_iinc hC.1 hC.2.1 hd hl (k := j) (by rw [List.getElem?_map, hj]; rfl) hv hn rfl (fun ls' hl' => kk hC H locs ls' hP hS (lv_st1 ks rfl hp hl'))
theorem J_iadd {x y : Int32} (hd : decode f.2.1 pc = .ok (.iadd, 1))  (kk : J κ E f Q k n L M (pc + 1) (.int (x + y) :: st)) : J κ E f Q k n L M pc (.int y :: .int x :: st) := fun hC H locs ls hP hS hl => lv_iadd hC.1 hC.2.1 hd  (kk hC H locs ls hP hS hl)
theorem J_isub {x y : Int32} (hd : decode f.2.1 pc = .ok (.isub, 1))  (kk : J κ E f Q k n L M (pc + 1) (.int (x - y) :: st)) : J κ E f Q k n L M pc (.int y :: .int x :: st) := fun hC H locs ls hP hS hl => lv_isub hC.1 hC.2.1 hd  (kk hC H locs ls hP hS hl)
theorem J_imul {x y : Int32} (hd : decode f.2.1 pc = .ok (.imul, 1))  (kk : J κ E f Q k n L M (pc + 1) (.int (x * y) :: st)) : J κ E f Q k n L M pc (.int y :: .int x :: st) := fun hC H locs ls hP hS hl => lv_imul hC.1 hC.2.1 hd  (kk hC H locs ls hP hS hl)
theorem J_iand {x y : Int32} (hd : decode f.2.1 pc = .ok (.iand, 1))  (kk : J κ E f Q k n L M (pc + 1) (.int (x &&& y) :: st)) : J κ E f Q k n L M pc (.int y :: .int x :: st) := fun hC H locs ls hP hS hl => lv_iand hC.1 hC.2.1 hd  (kk hC H locs ls hP hS hl)
theorem J_ior {x y : Int32} (hd : decode f.2.1 pc = .ok (.ior, 1))  (kk : J κ E f Q k n L M (pc + 1) (.int (x ||| y) :: st)) : J κ E f Q k n L M pc (.int y :: .int x :: st) := fun hC H locs ls hP hS hl => lv_ior hC.1 hC.2.1 hd  (kk hC H locs ls hP hS hl)
theorem J_ixor {x y : Int32} (hd : decode f.2.1 pc = .ok (.ixor, 1))  (kk : J κ E f Q k n L M (pc + 1) (.int (x ^^^ y) :: st)) : J κ E f Q k n L M pc (.int y :: .int x :: st) := fun hC H locs ls hP hS hl => lv_ixor hC.1 hC.2.1 hd  (kk hC H locs ls hP hS hl)
theorem J_ishl {x y : Int32} (hd : decode f.2.1 pc = .ok (.ishl, 1))  (kk : J κ E f Q k n L M (pc + 1) (.int (x <<< (y &&& 31)) :: st)) : J κ E f Q k n L M pc (.int y :: .int x :: st) := fun hC H locs ls hP hS hl => lv_ishl hC.1 hC.2.1 hd  (kk hC H locs ls hP hS hl)
theorem J_ishr {x y : Int32} (hd : decode f.2.1 pc = .ok (.ishr, 1))  (kk : J κ E f Q k n L M (pc + 1) (.int (x >>> (y &&& 31)) :: st)) : J κ E f Q k n L M pc (.int y :: .int x :: st) := fun hC H locs ls hP hS hl => lv_ishr hC.1 hC.2.1 hd  (kk hC H locs ls hP hS hl)
theorem J_iushr {x y v : Int32} (hd : decode f.2.1 pc = .ok (.iushr, 1)) (hv : (x.toUInt32 >>> (y.toUInt32 &&& Int32.toUInt32 31)).toInt32 = v) (kk : J κ E f Q k n L M (pc + 1) (.int v :: st)) : J κ E f Q k n L M pc (.int y :: .int x :: st) := fun hC H locs ls hP hS hl => lv_iushr hC.1 hC.2.1 hd hv (kk hC H locs ls hP hS hl)
theorem J_idiv {x y : Int32} (hd : decode f.2.1 pc = .ok (.idiv, 1)) (hne : ¬ y = 0) (kk : J κ E f Q k n L M (pc + 1) (.int (x / y) :: st)) : J κ E f Q k n L M pc (.int y :: .int x :: st) := fun hC H locs ls hP hS hl => lv_idiv hC.1 hC.2.1 hd hne (kk hC H locs ls hP hS hl)
theorem J_irem {x y : Int32} (hd : decode f.2.1 pc = .ok (.irem, 1)) (hne : ¬ y = 0) (kk : J κ E f Q k n L M (pc + 1) (.int (x - x / y * y) :: st)) : J κ E f Q k n L M pc (.int y :: .int x :: st) := fun hC H locs ls hP hS hl => lv_irem hC.1 hC.2.1 hd hne (kk hC H locs ls hP hS hl)
theorem J_ineg {x : Int32} (hd : decode f.2.1 pc = .ok (.ineg, 1))  (kk : J κ E f Q k n L M (pc + 1) (.int (-x) :: st)) : J κ E f Q k n L M pc (.int x :: st) := fun hC H locs ls hP hS hl => lv_ineg hC.1 hC.2.1 hd  (kk hC H locs ls hP hS hl)
theorem J_ladd {x y : Int64} (hd : decode f.2.1 pc = .ok (.ladd, 1))  (kk : J κ E f Q k n L M (pc + 1) (.long (x + y) :: st)) : J κ E f Q k n L M pc (.long y :: .long x :: st) := fun hC H locs ls hP hS hl => lv_ladd hC.1 hC.2.1 hd  (kk hC H locs ls hP hS hl)
theorem J_lsub {x y : Int64} (hd : decode f.2.1 pc = .ok (.lsub, 1))  (kk : J κ E f Q k n L M (pc + 1) (.long (x - y) :: st)) : J κ E f Q k n L M pc (.long y :: .long x :: st) := fun hC H locs ls hP hS hl => lv_lsub hC.1 hC.2.1 hd  (kk hC H locs ls hP hS hl)
theorem J_lmul {x y : Int64} (hd : decode f.2.1 pc = .ok (.lmul, 1))  (kk : J κ E f Q k n L M (pc + 1) (.long (x * y) :: st)) : J κ E f Q k n L M pc (.long y :: .long x :: st) := fun hC H locs ls hP hS hl => lv_lmul hC.1 hC.2.1 hd  (kk hC H locs ls hP hS hl)
theorem J_lor {x y : Int64} (hd : decode f.2.1 pc = .ok (.lor, 1))  (kk : J κ E f Q k n L M (pc + 1) (.long (x ||| y) :: st)) : J κ E f Q k n L M pc (.long y :: .long x :: st) := fun hC H locs ls hP hS hl => lv_lor hC.1 hC.2.1 hd  (kk hC H locs ls hP hS hl)
theorem J_lshl {x v : Int64} {y : Int32} (hd : decode f.2.1 pc = .ok (.lshl, 1)) (hv : x <<< (y.toInt64 &&& 63) = v) (kk : J κ E f Q k n L M (pc + 1) (.long v :: st)) : J κ E f Q k n L M pc (.int y :: .long x :: st) := fun hC H locs ls hP hS hl => lv_lshl hC.1 hC.2.1 hd hv (kk hC H locs ls hP hS hl)
theorem J_i2l {x : Int32} (hd : decode f.2.1 pc = .ok (.i2l, 1))  (kk : J κ E f Q k n L M (pc + 1) (.long x.toInt64 :: st)) : J κ E f Q k n L M pc (.int x :: st) := fun hC H locs ls hP hS hl => lv_i2l hC.1 hC.2.1 hd rfl (kk hC H locs ls hP hS hl)
theorem J_l2i {x : Int64} (hd : decode f.2.1 pc = .ok (.l2i, 1))  (kk : J κ E f Q k n L M (pc + 1) (.int x.toInt32 :: st)) : J κ E f Q k n L M pc (.long x :: st) := fun hC H locs ls hP hS hl => lv_l2i hC.1 hC.2.1 hd rfl (kk hC H locs ls hP hS hl)
theorem J_i2d {x : Int32} (hd : decode f.2.1 pc = .ok (.i2d, 1))  (kk : J κ E f Q k n L M (pc + 1) (.double (FP.i2d x) :: st)) : J κ E f Q k n L M pc (.int x :: st) := fun hC H locs ls hP hS hl => lv_i2d hC.1 hC.2.1 hd  (kk hC H locs ls hP hS hl)
theorem J_d2l {x : UInt64} (hd : decode f.2.1 pc = .ok (.d2l, 1))  (kk : J κ E f Q k n L M (pc + 1) (.long (FP.d2l x) :: st)) : J κ E f Q k n L M pc (.double x :: st) := fun hC H locs ls hP hS hl => lv_d2l hC.1 hC.2.1 hd  (kk hC H locs ls hP hS hl)
theorem J_dmul {x y : UInt64} (hd : decode f.2.1 pc = .ok (.dmul, 1)) (hne : vf_n64 (FP.dmul x y)) (kk : J κ E f Q k n L M (pc + 1) (.double (FP.dmul x y) :: st)) : J κ E f Q k n L M pc (.double y :: .double x :: st) := fun hC H locs ls hP hS hl => lv_dmul hC.1 hC.2.1 hd hne (kk hC H locs ls hP hS hl)
theorem J_dsub {x y : UInt64} (hd : decode f.2.1 pc = .ok (.dsub, 1)) (hne : vf_n64 (FP.dsub x y)) (kk : J κ E f Q k n L M (pc + 1) (.double (FP.dsub x y) :: st)) : J κ E f Q k n L M pc (.double y :: .double x :: st) := fun hC H locs ls hP hS hl => lv_dsub hC.1 hC.2.1 hd hne (kk hC H locs ls hP hS hl)
theorem J_ddiv {x y : UInt64} (hd : decode f.2.1 pc = .ok (.ddiv, 1)) (hne : vf_n64 (FP.ddiv x y)) (kk : J κ E f Q k n L M (pc + 1) (.double (FP.ddiv x y) :: st)) : J κ E f Q k n L M pc (.double y :: .double x :: st) := fun hC H locs ls hP hS hl => lv_ddiv hC.1 hC.2.1 hd hne (kk hC H locs ls hP hS hl)
theorem J_dcmp {x y : UInt64} {op : CmpOp} (hd : decode f.2.1 pc = .ok (.dcmp op, 1))  (kk : J κ E f Q k n L M (pc + 1) (.int (Op.cmpValue (FP.dcmp x y) op) :: st)) : J κ E f Q k n L M pc (.double y :: .double x :: st) := fun hC H locs ls hP hS hl => lv_dcmp hC.1 hC.2.1 hd  (kk hC H locs ls hP hS hl)
theorem J_lcmp {x y : Int64} (hd : decode f.2.1 pc = .ok (.lcmp, 1)) (kk : J κ E f Q k n L M (pc + 1) (.int (lg_cmp x y) :: st)) : J κ E f Q k n L M pc (.long y :: .long x :: st) := fun hC H locs ls hP hS hl => W.lcmp hC.1 hC.2.1 hd (kk hC H locs ls hP hS hl)
theorem J_dup {v : Value} (hd : decode f.2.1 pc = .ok (.dup, 1)) (hv : v.category = 1) (kk : J κ E f Q k n L M (pc + 1) (v :: v :: st)) : J κ E f Q k n L M pc (v :: st) := fun hC H locs ls hP hS hl => lv_dup hC.1 hC.2.1 hd (by rw [cv_cat]; exact hv) (kk hC H locs ls hP hS hl)
theorem J_pop {v : Value} (hd : decode f.2.1 pc = .ok (.pop, 1)) (hv : v.category = 1) (kk : J κ E f Q k n L M (pc + 1) st) : J κ E f Q k n L M pc (v :: st) := fun hC H locs ls hP hS hl => lv_pop hC.1 hC.2.1 hd (by rw [cv_cat]; exact hv) (kk hC H locs ls hP hS hl)
theorem J_dup2 {v w : Value} (hd : decode f.2.1 pc = .ok (.dup2, 1)) (hv : v.category = 1) (hw : w.category = 1) (kk : J κ E f Q k n L M (pc + 1) (v :: w :: v :: w :: st)) : J κ E f Q k n L M pc (v :: w :: st) := fun hC H locs ls hP hS hl => lv_dup2_11 hC.1 hC.2.1 hd (by rw [cv_cat]; exact hv) (by rw [cv_cat]; exact hw) (kk hC H locs ls hP hS hl)
theorem J_if_eq {x : Int32} {off : Int} {tgt : Nat} (hd : decode f.2.1 pc = .ok (.ifCond .eq off, 3)) (ht : (pc : Int) + off = (tgt : Int)) (kt : x = 0 → J κ E f Q k n L M tgt st) (kf : ¬ x = 0 → J κ E f Q k n L M (pc + 3) st) : J κ E f Q k n L M pc (.int x :: st) := fun hC H locs ls hP hS hl => lv_if_eq hC.1 hC.2.1 hd ht (fun h => kt h hC H locs ls hP hS hl) (fun h => kf h hC H locs ls hP hS hl)
theorem J_if_ne {x : Int32} {off : Int} {tgt : Nat} (hd : decode f.2.1 pc = .ok (.ifCond .ne off, 3)) (ht : (pc : Int) + off = (tgt : Int)) (kt : x ≠ 0 → J κ E f Q k n L M tgt st) (kf : x = 0 → J κ E f Q k n L M (pc + 3) st) : J κ E f Q k n L M pc (.int x :: st) := fun hC H locs ls hP hS hl => lv_if_ne hC.1 hC.2.1 hd ht (fun h => kt h hC H locs ls hP hS hl) (fun h => kf h hC H locs ls hP hS hl)
theorem J_if_lt {x : Int32} {off : Int} {tgt : Nat} (hd : decode f.2.1 pc = .ok (.ifCond .lt off, 3)) (ht : (pc : Int) + off = (tgt : Int)) (kt : x < 0 → J κ E f Q k n L M tgt st) (kf : ¬ x < 0 → J κ E f Q k n L M (pc + 3) st) : J κ E f Q k n L M pc (.int x :: st) := fun hC H locs ls hP hS hl => lv_if_lt hC.1 hC.2.1 hd ht (fun h => kt h hC H locs ls hP hS hl) (fun h => kf h hC H locs ls hP hS hl)
theorem J_if_ge {x : Int32} {off : Int} {tgt : Nat} (hd : decode f.2.1 pc = .ok (.ifCond .ge off, 3)) (ht : (pc : Int) + off = (tgt : Int)) (kt : 0 ≤ x → J κ E f Q k n L M tgt st) (kf : ¬ 0 ≤ x → J κ E f Q k n L M (pc + 3) st) : J κ E f Q k n L M pc (.int x :: st) := fun hC H locs ls hP hS hl => lv_if_ge hC.1 hC.2.1 hd ht (fun h => kt h hC H locs ls hP hS hl) (fun h => kf h hC H locs ls hP hS hl)
theorem J_if_gt {x : Int32} {off : Int} {tgt : Nat} (hd : decode f.2.1 pc = .ok (.ifCond .gt off, 3)) (ht : (pc : Int) + off = (tgt : Int)) (kt : 0 < x → J κ E f Q k n L M tgt st) (kf : ¬ 0 < x → J κ E f Q k n L M (pc + 3) st) : J κ E f Q k n L M pc (.int x :: st) := fun hC H locs ls hP hS hl => lv_if_gt hC.1 hC.2.1 hd ht (fun h => kt h hC H locs ls hP hS hl) (fun h => kf h hC H locs ls hP hS hl)
theorem J_if_le {x : Int32} {off : Int} {tgt : Nat} (hd : decode f.2.1 pc = .ok (.ifCond .le off, 3)) (ht : (pc : Int) + off = (tgt : Int)) (kt : x ≤ 0 → J κ E f Q k n L M tgt st) (kf : ¬ x ≤ 0 → J κ E f Q k n L M (pc + 3) st) : J κ E f Q k n L M pc (.int x :: st) := fun hC H locs ls hP hS hl => lv_if_le hC.1 hC.2.1 hd ht (fun h => kt h hC H locs ls hP hS hl) (fun h => kf h hC H locs ls hP hS hl)
theorem J_icmp_eq {x y : Int32} {off : Int} {tgt : Nat} (hd : decode f.2.1 pc = .ok (.if_icmp .eq off, 3)) (ht : (pc : Int) + off = (tgt : Int)) (kt : x = y → J κ E f Q k n L M tgt st) (kf : ¬ x = y → J κ E f Q k n L M (pc + 3) st) : J κ E f Q k n L M pc (.int y :: .int x :: st) := fun hC H locs ls hP hS hl => lv_icmp_eq hC.1 hC.2.1 hd ht (fun h => kt h hC H locs ls hP hS hl) (fun h => kf h hC H locs ls hP hS hl)
theorem J_icmp_ne {x y : Int32} {off : Int} {tgt : Nat} (hd : decode f.2.1 pc = .ok (.if_icmp .ne off, 3)) (ht : (pc : Int) + off = (tgt : Int)) (kt : x ≠ y → J κ E f Q k n L M tgt st) (kf : x = y → J κ E f Q k n L M (pc + 3) st) : J κ E f Q k n L M pc (.int y :: .int x :: st) := fun hC H locs ls hP hS hl => lv_icmp_ne hC.1 hC.2.1 hd ht (fun h => kt h hC H locs ls hP hS hl) (fun h => kf h hC H locs ls hP hS hl)
theorem J_icmp_lt {x y : Int32} {off : Int} {tgt : Nat} (hd : decode f.2.1 pc = .ok (.if_icmp .lt off, 3)) (ht : (pc : Int) + off = (tgt : Int)) (kt : x < y → J κ E f Q k n L M tgt st) (kf : ¬ x < y → J κ E f Q k n L M (pc + 3) st) : J κ E f Q k n L M pc (.int y :: .int x :: st) := fun hC H locs ls hP hS hl => lv_icmp_lt hC.1 hC.2.1 hd ht (fun h => kt h hC H locs ls hP hS hl) (fun h => kf h hC H locs ls hP hS hl)
theorem J_icmp_ge {x y : Int32} {off : Int} {tgt : Nat} (hd : decode f.2.1 pc = .ok (.if_icmp .ge off, 3)) (ht : (pc : Int) + off = (tgt : Int)) (kt : y ≤ x → J κ E f Q k n L M tgt st) (kf : ¬ y ≤ x → J κ E f Q k n L M (pc + 3) st) : J κ E f Q k n L M pc (.int y :: .int x :: st) := fun hC H locs ls hP hS hl => lv_icmp_ge hC.1 hC.2.1 hd ht (fun h => kt h hC H locs ls hP hS hl) (fun h => kf h hC H locs ls hP hS hl)
theorem J_icmp_gt {x y : Int32} {off : Int} {tgt : Nat} (hd : decode f.2.1 pc = .ok (.if_icmp .gt off, 3)) (ht : (pc : Int) + off = (tgt : Int)) (kt : y < x → J κ E f Q k n L M tgt st) (kf : ¬ y < x → J κ E f Q k n L M (pc + 3) st) : J κ E f Q k n L M pc (.int y :: .int x :: st) := fun hC H locs ls hP hS hl => lv_icmp_gt hC.1 hC.2.1 hd ht (fun h => kt h hC H locs ls hP hS hl) (fun h => kf h hC H locs ls hP hS hl)
theorem J_icmp_le {x y : Int32} {off : Int} {tgt : Nat} (hd : decode f.2.1 pc = .ok (.if_icmp .le off, 3)) (ht : (pc : Int) + off = (tgt : Int)) (kt : x ≤ y → J κ E f Q k n L M tgt st) (kf : ¬ x ≤ y → J κ E f Q k n L M (pc + 3) st) : J κ E f Q k n L M pc (.int y :: .int x :: st) := fun hC H locs ls hP hS hl => lv_icmp_le hC.1 hC.2.1 hd ht (fun h => kt h hC H locs ls hP hS hl) (fun h => kf h hC H locs ls hP hS hl)
theorem J_goto {off : Int} {tgt : Nat} (hd : decode f.2.1 pc = .ok (.goto off, 3)) (ht : (pc : Int) + off = (tgt : Int)) (kk : J κ E f Q k n L M tgt st) : J κ E f Q k n L M pc st := fun hC H locs ls hP hS hl => lv_goto hC.1 hC.2.1 hd ht (kk hC H locs ls hP hS hl)
theorem J_ifnull {x : Nat} {off : Int} (hd : decode f.2.1 pc = .ok (.ifnull off, 3)) (kk : J κ E f Q k n L M (pc + 3) st) : J κ E f Q k n L M pc (.ref x :: st) := fun hC H locs ls hP hS hl => lv_ifnull hC.1 hC.2.1 hd (kk hC H locs ls hP hS hl)
theorem J_ldc {i : Nat} {v : Int32} (hw : Cond.constant f.1.cls i v ∈ SWL) (hd : decode f.2.1 pc = .ok (.ldc i, 2)) (kk : J κ E f Q k n L M (pc + 2) (.int v :: st)) : J κ E f Q k n L M pc st := fun hC H locs ls hP hS hl => lv_ldc hC.1 hC.2.1 hC.2.2.2.2.1 (hC.2.2.2.2.2.1 _ hw) hd (kk hC H locs ls hP hS hl)
theorem J_ldcw {i : Nat} {v : Int32} (hw : Cond.constant f.1.cls i v ∈ SWL) (hd : decode f.2.1 pc = .ok (.ldc_w i, 3)) (kk : J κ E f Q k n L M (pc + 3) (.int v :: st)) : J κ E f Q k n L M pc st := fun hC H locs ls hP hS hl => lv_ldcw hC.1 hC.2.1 hC.2.2.2.2.1 (hC.2.2.2.2.2.1 _ hw) hd (kk hC H locs ls hP hS hl)
theorem J_ldc2 {i : Nat} {v : Int64} (hw : Cond.constantLong f.1.cls i v ∈ SWL) (hd : decode f.2.1 pc = .ok (.ldc2_w i, 3)) (kk : J κ E f Q k n L M (pc + 3) (.long v :: st)) : J κ E f Q k n L M pc st := fun hC H locs ls hP hS hl => lv_ldc2 hC.1 hC.2.1 hC.2.2.2.2.1 (hC.2.2.2.2.2.1 _ hw) hd (kk hC H locs ls hP hS hl)
theorem J_ldc2d {i : Nat} {v : UInt64} (hw : Cond.constantDouble f.1.cls i v ∈ SWL) (hd : decode f.2.1 pc = .ok (.ldc2_w i, 3)) (kk : J κ E f Q k n L M (pc + 3) (.double v :: st)) : J κ E f Q k n L M pc st := fun hC H locs ls hP hS hl => lv_ldc2d hC.1 hC.2.1 hC.2.2.2.2.1 (hC.2.2.2.2.2.1 _ hw) hd (kk hC H locs ls hP hS hl)
theorem J_lookup {dflt : Int} {ps : Array (Int × Int)} {len : Nat} {x : Int32} {off : Int} {tgt : Nat} (hd : decode f.2.1 pc = .ok (.lookupswitch dflt ps, len)) (hp : (ps.toList.zip (ps.toList.drop 1)).all (fun (a, next) => a.1 < next.1) = true) (ho : Op.lookupswitch.offset ps.toList dflt x.toInt = off) (ht : (pc : Int) + off = (tgt : Int)) (kk : J κ E f Q k n L M tgt st) : J κ E f Q k n L M pc (.int x :: st) := fun hC H locs ls hP hS hl => lv_lookup hC.1 hC.2.1 hd hp ho ht (kk hC H locs ls hP hS hl)
theorem J_tableIn {dflt lo hi : Int} {offs : Array Int} {len : Nat} {x : Int32} {off : Int} {tgt : Nat} (hd : decode f.2.1 pc = .ok (.tableswitch dflt lo hi offs, len)) (h1 : ¬ x.toInt < lo) (h2 : ¬ hi < x.toInt) (ho : offs[(x.toInt - lo).toNat]? = some off) (ht : (pc : Int) + off = (tgt : Int)) (kk : J κ E f Q k n L M tgt st) : J κ E f Q k n L M pc (.int x :: st) := fun hC H locs ls hP hS hl => lv_tableIn hC.1 hC.2.1 hd h1 h2 ho ht (kk hC H locs ls hP hS hl)
theorem J_tableOut {dflt lo hi : Int} {offs : Array Int} {len : Nat} {x : Int32} {tgt : Nat} (hd : decode f.2.1 pc = .ok (.tableswitch dflt lo hi offs, len)) (h : x.toInt < lo ∨ hi < x.toInt) (ht : (pc : Int) + dflt = (tgt : Int)) (kk : J κ E f Q k n L M tgt st) : J κ E f Q k n L M pc (.int x :: st) := fun hC H locs ls hP hS hl => lv_tableOut hC.1 hC.2.1 hd h ht (kk hC H locs ls hP hS hl)
end JI
end
section
/-! ===== J: rows of fields, arrays, calls, throws ===== -/
section JF
variable {κ : Kx} {E : En} {f : MI} {Q : State → Prop} {k n : Nat} {L L' : List (Nat × Value)} {M M' : Wd} {pc : Nat} {st : List Value}
/-- getfield: the cell c is an object of the class ci, its field j holds v -/
theorem J_get {c ci i : Nat} {C ref : String} {T : u_T} {N : Nat} {fs : List Value} {v : Value} (hj : jc E M c = .inr (ci, fs)) (hc : c < 63) (hcl : vwCl[ci]? = some (C, T, N)) (hlay : ∀ w ∈ u_ws C T N, w ∈ SWL) (j : Nat) (hk : j < N) (hlink : Cond.fieldLink f.1.cls i ref (T j).2.1 (T j).2.2.1 ∈ SWL) (hsame : (T j).1 = ref) (hv : fs[j]? = some (cv E v)) (hd : decode f.2.1 pc = .ok (.getfield i, 3))
    (kk : J κ E f Q k n L M (pc + 3) (v :: st)) : J κ E f Q k n L M pc (.ref c :: st) := by
  intro hC H locs ls hP hS hl
  exact va_get hC.1 hC.2.1 hC.2.2.2.2.2.1 hlay hC.2.2.2.2.1 hC.2.2.2.2.2.2.2.2.1.1 hP c (by rw [mk_get hc, hj]) hcl j hk (hC.2.2.2.2.2.1 _ hlink) (fun x h => by rw [← hsame]; exact h) hv hd (kk hC H locs ls hP hS hl)
/-- putfield of a field that is not final -/
theorem J_put {c ci i : Nat} {C ref : String} {T : u_T} {N : Nat} {fs : List Value} {v : Value} (hj : jc E M c = .inr (ci, fs)) (hc : c < 63) (hcl : vwCl[ci]? = some (C, T, N)) (hlay : ∀ w ∈ u_ws C T N, w ∈ SWL) (ty0 : Nat → FieldType) (hty : ∀ k, k < N → parseFieldDescriptor (T k).2.2.1 = some (ty0 k)) (hnm : ∀ a, a < N → ∀ b, b < N → a ≠ b → (T a).2.1 ≠ (T b).2.1) (j : Nat) (hk : j < N) (hlink : Cond.fieldLink f.1.cls i ref (T j).2.1 (T j).2.2.1 ∈ SWL) (hsame : (T j).1 = ref) (hfin : (T j).2.2.2 = false) (hn : narrow (ty0 j) (cv E v) = cv E v) (hfit : fits (ty0 j) (cv E v) = true) (hlen : j < fs.length) (hj' : jc E M' c = .inr (ci, fs.set j (cv E v))) (hne : ∀ i, i ≠ c → jc E M' i = jc E M i) (hd : decode f.2.1 pc = .ok (.putfield i, 3))
    (kk : J κ E f Q k n L M' (pc + 3) st) : J κ E f Q k n L M pc (v :: .ref c :: st) := by
  intro hC H locs ls hP hS hl
  refine va_put hC.1 hC.2.1 hC.2.2.2.2.2.1 hlay ty0 hty hnm hC.2.2.2.2.1 hC.2.2.2.2.2.2.2.2.1.1 hP mk_D hS c (by rw [mk_get hc, hj]) hcl j hk (hC.2.2.2.2.2.1 _ hlink) (fun x h => by rw [← hsame]; exact h) hfin (hty j hk) hn hfit hlen hd (fun H1 locs1 hP1 _ hS1 => ?_)
  rw [mk_set hc hj' hne] at hP1
  exact kk hC H1 locs1 ls hP1 hS1 hl
theorem jc_iarr {c N : Nat} (hj : jc E M c = .inl (E.2.2.1 0, N, .inl (M.1 c))) (hc : c < 63) : (mk E M)[c]? = some (adr E c, .inl (E.2.2.1 0, N, .inl (M.1 c))) := by rw [mk_get hc, hj]
theorem J_iald {c N : Nat} {i : Int32} (hj : jc E M c = .inl (E.2.2.1 0, N, .inl (M.1 c))) (hc : c < 63) (hin : vp_in i N) (hd : decode f.2.1 pc = .ok (.iaload, 1))
    (kk : J κ E f Q k n L M (pc + 1) (.int (M.1 c i.toNatClampNeg) :: st)) : J κ E f Q k n L M pc (.int i :: .ref c :: st) := by
  intro hC H locs ls hP hS hl
  exact va_iald hC.1 hC.2.1 hC.2.2.2.2.2.2.2.2.1.1 hP c 0 (jc_iarr hj hc) rfl hin hd (kk hC H locs ls hP hS hl)
theorem upI_row {c j : Nat} {v : Int32} : (upI M c j v).1 c = upd (M.1 c) j v := if_pos rfl
theorem upI_row_ne {c c' j : Nat} {v : Int32} (h : c' ≠ c) : (upI M c j v).1 c' = M.1 c' := if_neg h
theorem J_iast {c N : Nat} {i x : Int32} (hj : ∀ M : Wd, jc E M c = .inl (E.2.2.1 0, N, .inl (M.1 c))) (hc : c < 63) (hin : vp_in i N) (hd : decode f.2.1 pc = .ok (.iastore, 1))
    (kk : J κ E f Q k n L (upI M c i.toNatClampNeg x) (pc + 1) st) : J κ E f Q k n L M pc (.int x :: .int i :: .ref c :: st) := by
  intro hC H locs ls hP hS hl
  refine va_iast hC.1 hC.2.1 hC.2.2.2.2.2.2.2.2.1.1 hP mk_D hS c 0 (jc_iarr (hj M) hc) rfl hin hd (fun H1 locs1 hP1 _ hS1 => ?_)
  rw [mk_set hc (M' := upI M c i.toNatClampNeg x) (by rw [hj, upI_row]) jc_ne_I] at hP1
  exact kk hC H1 locs1 ls hP1 hS1 hl
/-- the boolean array isQueued (61) -/
theorem J_zald {i : Int32} (hin : vp_in i 4096) (hd : decode f.2.1 pc = .ok (.baload, 1))
    (kk : J κ E f Q k n L M (pc + 1) (.int (M.1 61 i.toNatClampNeg) :: st)) : J κ E f Q k n L M pc (.int i :: .ref 61 :: st) := by
  intro hC H locs ls hP hS hl
  exact va_zald hC.1 hC.2.1 hC.2.2.2.2.2.2.2.2.1.1 hP 61 1 (cA := E.2.2.1 1) (n := 4096) (f := M.1 61) (by rw [mk_get (by decide)]; rfl) rfl hin hd (kk hC H locs ls hP hS hl)
theorem J_zast {i x : Int32} (hx : vp_nar .boolean x = x) (hin : vp_in i 4096) (hd : decode f.2.1 pc = .ok (.bastore, 1))
    (kk : J κ E f Q k n L (upI M 61 i.toNatClampNeg x) (pc + 1) st) : J κ E f Q k n L M pc (.int x :: .int i :: .ref 61 :: st) := by
  intro hC H locs ls hP hS hl
  refine va_zast hC.1 hC.2.1 hC.2.2.2.2.2.2.2.2.1.1 hP mk_D hS 61 1 (cA := E.2.2.1 1) (n := 4096) (f := M.1 61) (by rw [mk_get (by decide)]; rfl) rfl hin hd (fun H1 locs1 hP1 _ hS1 => ?_)
  rw [hx] at hP1
  have h9 := mk_set (E := E) (M := M) (M' := upI M 61 i.toNatClampNeg x) (c := 61) (e := .inl (E.2.2.1 1, 4096, .inl (upd (M.1 61) i.toNatClampNeg x))) (by decide) rfl jc_ne_I
  rw [h9] at hP1
  exact kk hC H1 locs1 ls hP1 hS1 hl
/-- the law's long array (62) -/
theorem J_lald {i : Int32} (hin : vp_in i 1) (hd : decode f.2.1 pc = .ok (.laload, 1))
    (kk : J κ E f Q k n L M (pc + 1) (.long (M.2.1 62 i.toNatClampNeg) :: st)) : J κ E f Q k n L M pc (.int i :: .ref 62 :: st) := by
  intro hC H locs ls hP hS hl
  exact va_lald hC.1 hC.2.1 hC.2.2.2.2.2.2.2.2.1.1 hP 62 2 (cA := E.2.2.1 2) (n := 1) (f := M.2.1 62) (by rw [mk_get (by decide)]; rfl) rfl hin hd (kk hC H locs ls hP hS hl)
theorem J_last {i : Int32} {x : Int64} (hin : vp_in i 1) (hd : decode f.2.1 pc = .ok (.lastore, 1))
    (kk : J κ E f Q k n L (upL M 62 i.toNatClampNeg x) (pc + 1) st) : J κ E f Q k n L M pc (.long x :: .int i :: .ref 62 :: st) := by
  intro hC H locs ls hP hS hl
  refine va_last hC.1 hC.2.1 hC.2.2.2.2.2.2.2.2.1.1 hP mk_D hS 62 2 (cA := E.2.2.1 2) (n := 1) (f := M.2.1 62) (by rw [mk_get (by decide)]; rfl) rfl hin hd (fun H1 locs1 hP1 _ hS1 => ?_)
  have h9 := mk_set (E := E) (M := M) (M' := upL M 62 i.toNatClampNeg x) (c := 62) (e := .inl (E.2.2.1 2, 1, .inr (.inl (vp_updL (M.2.1 62) i.toNatClampNeg x)))) (by decide) rfl jc_ne_L
  rw [h9] at hP1
  exact kk hC H1 locs1 ls hP1 hS1 hl
/-- the saved parks (13) -/
theorem J_aald {i : Int32} (hin : vp_in i 5) (hd : decode f.2.1 pc = .ok (.aaload, 1))
    (kk : J κ E f Q k n L M (pc + 1) (.ref (M.2.2 i.toNatClampNeg) :: st)) : J κ E f Q k n L M pc (.int i :: .ref 13 :: st) := by
  intro hC H locs ls hP hS hl
  exact va_aldq hC.1 hC.2.1 hC.2.2.2.2.2.2.2.2.1.1 hP 13 3 (cA := E.2.2.1 3) (n := 5) (C := "CarTangos$Park") (f := fun j => some (adr E (M.2.2 j))) (by rw [mk_get (by decide)]; rfl) rfl hin hd (kk hC H locs ls hP hS hl)
theorem jc_pk {b : Nat} (hb : isPk b = true) : jc E M b = .inr (1, [.ref (adr E (b + 1)), .ref (adr E (b + 2)), .ref (adr E (b + 3)), .ref (adr E (b + 4)), .ref (adr E (b + 5)), .int (M.1 b 5), .int (M.1 b 6), .int (M.1 b 7), .int (M.1 b 8), .int (M.1 b 9)]) := by
  simp only [isPk, Bool.or_eq_true, beq_iff_eq] at hb
  rcases hb with (((((rfl | rfl) | rfl) | rfl) | rfl) | rfl) | rfl <;> rfl
theorem jpk_lt {b : Nat} (hb : isPk b = true) : b < 39 := by
  simp only [isPk, Bool.or_eq_true, beq_iff_eq] at hb
  omega
theorem J_aast {i : Int32} {b : Nat} (hb : isPk b = true) (hin : vp_in i 5) (hd : decode f.2.1 pc = .ok (.aastore, 1))
    (kk : J κ E f Q k n L (upP M i.toNatClampNeg b) (pc + 1) st) : J κ E f Q k n L M pc (.ref b :: .int i :: .ref 13 :: st) := by
  intro hC H locs ls hP hS hl
  have hb' := jpk_lt hb
  refine va_astq hC.1 hC.2.1 hC.2.2.2.2.2.2.2.2.1.1 hP mk_D hS 13 3 b 1 (cA := E.2.2.1 3) (n := 5) (r := (RX1, TX1, 10)) (f := fun j => some (adr E (M.2.2 j))) (by rw [mk_get (by decide)]; rfl) rfl (by rw [mk_get (by omega), jc_pk hb]) rfl hin hd (fun H1 locs1 hP1 _ hS1 => ?_)
  have h9 := mk_set (E := E) (M := M) (M' := upP M i.toNatClampNeg b) (c := 13) (e := .inl (E.2.2.1 3, 5, .inr (.inr (.inr (.inr (va_up (fun j => some (adr E (M.2.2 j))) i.toNatClampNeg (some (adr E b)))))))) (by decide) (by
    have h8 : (fun j => some (adr E ((upP M i.toNatClampNeg b).2.2 j))) = va_up (fun j => some (adr E (M.2.2 j))) i.toNatClampNeg (some (adr E b)) := by
      funext j
      simp only [upP, va_up]
      by_cases hj : j = i.toNatClampNeg
      · rw [if_pos hj, if_pos hj]
      · rw [if_neg hj, if_neg hj]
    rw [← h8]
    rfl) jc_ne_P
  rw [h9] at hP1
  exact kk hC H1 locs1 ls hP1 hS1 hl
/-- the script -/
theorem J_sld {i : Int32} (hin : vp_in i E.2.2.2.2.1) (hd : decode f.2.1 pc = .ok (.iaload, 1))
    (kk : J κ E f Q k n L M (pc + 1) (.int (E.2.2.2.2.2 i.toNatClampNeg) :: st)) : J κ E f Q k n L M pc (.int i :: .ref 63 :: st) := by
  intro hC H locs ls hP hS hl
  obtain ⟨-, -, -, -, hX, hb, hlt, -⟩ := hC.2.2.2.2.2.2.2.2.1
  exact va_sld hC.1 hC.2.1 hX hlt (fun q => by have : E.1 ≤ E.2.2.2.1 := q; omega) hS hin hd (kk hC H locs ls hP hS hl)
theorem J_slen (hd : decode f.2.1 pc = .ok (.arraylength, 1))
    (kk : J κ E f Q k n L M (pc + 1) (.int (Int32.ofNat E.2.2.2.2.1) :: st)) : J κ E f Q k n L M pc (.ref 63 :: st) := by
  intro hC H locs ls hP hS hl
  obtain ⟨-, -, -, -, hX, hb, hlt, -⟩ := hC.2.2.2.2.2.2.2.2.1
  exact va_slen hC.1 hC.2.1 hX hlt (fun q => by have : E.1 ≤ E.2.2.2.1 := q; omega) hS hd (kk hC H locs ls hP hS hl)
end JF
end
section
/-! ===== J: calls, throws, catches ===== -/
theorem FB_Rl {E : En} {av : List Value} {M : Wd} : FrameBlind (va_Pc (cvs E av) (Rl E M)) := fun a _ g mk' q => ⟨q.1, q.2.1, q.2.2.calling g mk' a⟩
section JK
variable {p : Program} {l : Launch} {e : Env} {R : Room} {s : State} {m : MethodId} {args : Array Value} {below : List Frame} {meth : Method} {c : Code} {H : Heap} {locs : List Loc} {k n : Nat} {Q : State → Prop}
theorem jrun {E : En} {g : MI} {o : Oc} {M' : Wd} {mc ms pc : Nat} {ls : Array Slot} {st0 rest : List Value} {a : Array Value}
    (hr : vx_Run p l e R s m args below meth c H locs k n mc ms (F0 m pc ls st0) rest (QV E g o M' a) (XV E o M') (Ar E)) (hS : va_S (Ar E) s.heap H locs)
    (kk : ∀ v, o = .inl v → okB g.2.2.2.1 v → ∀ (H1 : Heap) (locs1 : List Loc), va_P E.2.1 vwCl (mk E M') H1 → va_S (Ar E) s.heap H1 locs1 → W p l e R s m args below meth c H1 locs1 (k + mc) (n + ms) Q (F0 m (pc + 3) ls ((v.map (cv E)).toList ++ rest)))
    (kx : ∀ X, o = .inr X → ∀ (ce : Cell) (q : Addr) (H1 : Heap) (locs1 : List Loc), va_P E.2.1 vwCl (mk E M') H1 → va_S (Ar E) s.heap H1 locs1 → H1[q]? = some ce → ce.vm = .none → s.vm.findClass X = some ce.cls → vx_W p l e R s m args below meth c H1 locs1 (k + mc) (n + ms) Q (F0 m pc ls rest) q) :
    W p l e R s m args below meth c H locs k n Q (F0 m pc ls st0) := by
  intro T hT X
  rcases hr T hT X with ⟨v, st₀, t, T', L, h0, X', hL, e1, e2, ⟨v2, ho, hoc, hb, hP1, hF⟩, st⟩ | ⟨q, st₀, t, T', L, E', ce, h0, X', hL, e1, e2, ⟨ho, hP1, hF⟩, hce, hcv, hcl, st⟩
  · cases hoc
    obtain ⟨k1, k2, k3⟩ := vx_keep h0 e1 hS (fun _ _ h => h) (fun _ h => h) hL hF
    obtain ⟨t2, a1, b1⟩ := kk v2 ho hb T'.heap (locs ++ L) (by rw [e1]; exact hP1) k3 T' rfl X'
    exact ⟨t2, st t2 a1, b1⟩
  · obtain ⟨k1, k2, k3⟩ := vx_keep h0 e1 hS (fun _ _ h => h) (fun _ h => h) hL hF
    obtain ⟨t2, a1, b1⟩ := kx E' ho ce q T'.heap (locs ++ L) (by rw [e1]; exact hP1) k3 (by rw [e1]; exact hce) hcv hcl T' rfl X'
    exact ⟨t2, st.trans a1, b1⟩
end JK
/-- the words of a call of g, with np parameters: of an instance's method -/
def MV (g : MI) (np : Nat) : Prop := cdw g = Cond.code g.1 g.2.1 g.2.2.1 g.2.2.2.1 ∧ Cond.code g.1 g.2.1 g.2.2.1 g.2.2.2.1 ∈ SWL ∧ Cond.initialized g.1.cls ∈ SWL ∧ (g.1.cls ≠ "java/lang/invoke/MethodHandle" ∧ g.1.cls ≠ "java/lang/invoke/VarHandle") ∧ (parseMethodDescriptor g.1.desc).map (fun d => d.parameters.length) = some np ∧ Cond.instanceMethod g.1 ∈ SWL ∧ Cond.selects g.1.cls g.1 g.1 ∈ SWL
/-- of a static method -/
def MS (g : MI) (np : Nat) : Prop := cdw g = Cond.code g.1 g.2.1 g.2.2.1 g.2.2.2.1 ∧ Cond.code g.1 g.2.1 g.2.2.1 g.2.2.2.1 ∈ SWL ∧ Cond.initialized g.1.cls ∈ SWL ∧ (g.1.cls ≠ "java/lang/invoke/MethodHandle" ∧ g.1.cls ≠ "java/lang/invoke/VarHandle") ∧ (parseMethodDescriptor g.1.desc).map (fun d => d.parameters.length) = some np ∧ Cond.static g.1 ∈ SWL
/-- of a static method with handlers -/
def MSH (g : MI) (np : Nat) : Prop := cdw g = Cond.codeWith g.1 g.2.1 g.2.2.1 g.2.2.2.1 g.2.2.2.2.2.2.2.2 ∧ Cond.codeWith g.1 g.2.1 g.2.2.1 g.2.2.2.1 g.2.2.2.2.2.2.2.2 ∈ SWL ∧ Cond.initialized g.1.cls ∈ SWL ∧ (g.1.cls ≠ "java/lang/invoke/MethodHandle" ∧ g.1.cls ≠ "java/lang/invoke/VarHandle") ∧ (parseMethodDescriptor g.1.desc).map (fun d => d.parameters.length) = some np ∧ Cond.static g.1 ∈ SWL
/-- the room of a call of g by f, with k cells and n slots made -/
def RM (f g : MI) (k n : Nat) : Prop := (g.2.2.2.2.1 + 1 ≤ f.2.2.2.2.1 ∧ 8 + (g.2.2.1 + 11) + g.2.2.2.2.2.1 ≤ f.2.2.2.2.2.1) ∧ (k + g.2.2.2.2.2.2.1 ≤ f.2.2.2.2.2.2.1 ∧ n + g.2.2.2.2.2.2.2.1 ≤ f.2.2.2.2.2.2.2.1)
theorem np_of {d : String} {np : Nat} (h : (parseMethodDescriptor d).map (fun d => d.parameters.length) = some np) : ∀ sig, parseMethodDescriptor d = some sig → np = sig.parameters.length := by
  intro sig hs
  rw [hs] at h
  exact (Option.some.inj h).symm
theorem wsf_warm {g : MI} {a : Array Value} {s : State} (h : ∀ w ∈ SWL, w.before a s = true) (hg : cdw g ∈ SWL) : ∀ w ∈ wsf g, ∀ (a' : Array Value) (U : State), s.WarmedH U.vm → w.before a' U = true := by
  intro w hw a' U hW
  rcases List.mem_cons.mp hw with rfl | hw
  · exact SWL_warm h _ hg a' U hW
  · exact SWL_warm h w hw a' U hW
theorem cvs_sum (E : En) (st : List Value) : ((cvs E st).map fun v => v.category).sum = (st.map fun v => v.category).sum := by
  rw [List.map_map]
  congr 1
  apply List.map_congr_left
  intro v _
  exact cv_cat E v
section JC
variable {κ : Kx} {E : En} {f : MI} {Q : State → Prop} {k n : Nat} {L : List (Nat × Value)} {M : Wd} {pc : Nat}
/-- what comes behind a call: the answer, or the exception -/
def Jk (κ : Kx) (E : En) (f g : MI) (Q : State → Prop) (k n : Nat) (L : List (Nat × Value)) (M' : Wd) (pc : Nat) (rest : List Value) (o : Oc) : Prop :=
  Cx κ E f → (∀ v, o = .inl v → okB g.2.2.2.1 v → J κ E f Q (k + g.2.2.2.2.2.2.1) (n + g.2.2.2.2.2.2.2.1) L M' (pc + 3) (v.toList ++ rest)) ∧
  (∀ X, o = .inr X → ∀ (ce : Cell) (q : Addr) (H1 : Heap) (locs1 : List Loc) (ls : Array Slot), va_P E.2.1 vwCl (mk E M') H1 → va_S (Ar E) κ.2.2.2.2.1.heap H1 locs1 → lv_has ls f.2.2.1 (lvm E L) → H1[q]? = some ce → ce.vm = .none → κ.2.2.2.2.1.vm.findClass X = some ce.cls →
    vx_W κ.1 κ.2.1 κ.2.2.1 κ.2.2.2.1 κ.2.2.2.2.1 κ.2.2.2.2.2.1 κ.2.2.2.2.2.2.1 κ.2.2.2.2.2.2.2.1 κ.2.2.2.2.2.2.2.2.1 κ.2.2.2.2.2.2.2.2.2 H1 locs1 (k + g.2.2.2.2.2.2.1) (n + g.2.2.2.2.2.2.2.1) Q (F0 κ.2.2.2.2.2.1 pc ls (cvs E rest)) q)
theorem J_callV {g : MI} {np idx ci b : Nat} {o : Oc} {M' : Wd} {T : u_T} {N : Nat} {fs : List Value} {st0 : List Value} (av rest : List Value) (hg : MV g np) (hlink : Cond.methodLink f.1.cls idx g.1 ∈ SWL) (hcon : Con E g (.ref b :: av) M o M') (hj : jc E M b = .inr (ci, fs)) (hb : b < 63) (hcl : vwCl[ci]? = some (g.1.cls, T, N)) (hn : av.length = np) (hst : st0 = av.reverse ++ .ref b :: rest) (hrm : RM f g k n) (hsum : (rest.map fun v => v.category).sum ≤ 8) (hd : decode f.2.1 pc = .ok (.invokevirtual idx, 3))
    (kk : Jk κ E f g Q k n L M' pc rest o) : J κ E f Q k n L M pc st0 := by
  intro hC H locs ls hP hS hl
  obtain ⟨g1, g2, g3, g4, g5, g6, g7⟩ := hg
  obtain ⟨hx, hbt, hml, hrt, hown, hts, hlk, hR, hSx, hl0, -⟩ := id hC
  obtain ⟨kv, kx⟩ := kk hC
  subst hst
  have hrun := vx_runV (p := κ.1) (l := κ.2.1) (e := κ.2.2.1) (R := κ.2.2.2.1) (s := κ.2.2.2.2.1) (m := κ.2.2.2.2.2.1) (args := κ.2.2.2.2.2.2.1) (below := κ.2.2.2.2.2.2.2.1) (meth := κ.2.2.2.2.2.2.2.2.1) (c := κ.2.2.2.2.2.2.2.2.2) (H := H) (locs := locs) (cells := k) (slots := n)
    (C := g.1.cls) (b := adr E b) (As := cvs E av) (rest := cvs E rest) (g := F0 κ.2.2.2.2.2.1 pc ls (cvs E (av.reverse ++ .ref b :: rest))) (Ts := SWL) (own := f.1.cls) (nL := f.2.2.1) (index := idx) (maxL := g.2.2.1) (bytes := g.2.1) (ret := g.2.2.2.1)
    ⟨hx, hbt, hml, hown, hts⟩ (hcon κ.2.1 hl0) ⟨⟨rfl, rfl, by rw [hR]; exact hrm.1.1, by rw [hR]; exact hrm.1.2, wsf_warm hts (by rw [g1]; exact g2), by rw [← g1]; exact List.mem_cons_self, hts _ g2, hts _ g3, g4, np_of g5, hts _ hlink⟩, hts _ g6, hts _ g7⟩
    ⟨FB_Rl (av := .ref b :: av), va_recv hSx.1 hP hcl (by rw [mk_get hb, hj]), fun U hU hW => ⟨rfl, by rw [hU]; exact hP, hSx.to hS hU hW⟩⟩ rfl (by rw [List.length_map]; exact hn) hl.1 (by simp only [cvs, List.map_append, List.map_reverse, List.map_cons]; rfl) (lv_room (by rw [cvs_sum]; exact hsum)) hd ⟨by rw [hR]; exact hrm.2.1, by rw [hR]; exact hrm.2.2⟩
  refine jrun hrun hS (fun v ho hok H1 locs1 hP1 hS1 => ?_) (fun X ho ce q H1 locs1 hP1 hS1 h1 h2 h3 => kx X ho ce q H1 locs1 ls hP1 hS1 hl h1 h2 h3)
  have h9 := kv v ho hok hC H1 locs1 ls hP1 hS1 hl
  cases v <;> exact h9
theorem J_callS {g : MI} {np idx : Nat} {o : Oc} {M' : Wd} {st0 : List Value} (av rest : List Value) (hg : MS g np) (hlink : Cond.methodLink f.1.cls idx g.1 ∈ SWL) (hcon : Con E g av M o M') (hn : av.length = np) (hst : st0 = av.reverse ++ rest) (hrm : RM f g k n) (hsum : (rest.map fun v => v.category).sum ≤ 8) (hd : decode f.2.1 pc = .ok (.invokestatic idx, 3))
    (kk : Jk κ E f g Q k n L M' pc rest o) : J κ E f Q k n L M pc st0 := by
  intro hC H locs ls hP hS hl
  obtain ⟨g1, g2, g3, g4, g5, g6⟩ := hg
  obtain ⟨hx, hbt, hml, hrt, hown, hts, hlk, hR, hSx, hl0, -⟩ := id hC
  obtain ⟨kv, kx⟩ := kk hC
  subst hst
  have hrun := vx_runS (p := κ.1) (l := κ.2.1) (e := κ.2.2.1) (R := κ.2.2.2.1) (s := κ.2.2.2.2.1) (m := κ.2.2.2.2.2.1) (args := κ.2.2.2.2.2.2.1) (below := κ.2.2.2.2.2.2.2.1) (meth := κ.2.2.2.2.2.2.2.2.1) (c := κ.2.2.2.2.2.2.2.2.2) (H := H) (locs := locs) (cells := k) (slots := n)
    (As := cvs E av) (rest := cvs E rest) (g := F0 κ.2.2.2.2.2.1 pc ls (cvs E (av.reverse ++ rest))) (Ts := SWL) (own := f.1.cls) (nL := f.2.2.1) (index := idx) (maxL := g.2.2.1) (bytes := g.2.1) (ret := g.2.2.2.1)
    ⟨hx, hbt, hml, hown, hts⟩ (hcon κ.2.1 hl0) ⟨⟨rfl, rfl, by rw [hR]; exact hrm.1.1, by rw [hR]; exact hrm.1.2, wsf_warm hts (by rw [g1]; exact g2), by rw [← g1]; exact List.mem_cons_self, hts _ g2, hts _ g3, g4, np_of g5, hts _ hlink⟩, hts _ g6⟩
    ⟨FB_Rl (av := av), fun U hU hW => ⟨rfl, by rw [hU]; exact hP, hSx.to hS hU hW⟩⟩ rfl (by rw [List.length_map]; exact hn) hl.1 (by simp only [cvs, List.map_append, List.map_reverse]) (lv_room (by rw [cvs_sum]; exact hsum)) hd ⟨by rw [hR]; exact hrm.2.1, by rw [hR]; exact hrm.2.2⟩
  refine jrun hrun hS (fun v ho hok H1 locs1 hP1 hS1 => ?_) (fun X ho ce q H1 locs1 hP1 hS1 h1 h2 h3 => kx X ho ce q H1 locs1 ls hP1 hS1 hl h1 h2 h3)
  have h9 := kv v ho hok hC H1 locs1 ls hP1 hS1 hl
  cases v <;> exact h9
/-- a static method with handlers -/
theorem J_callSX {g : MI} {np idx : Nat} {o : Oc} {M' : Wd} {st0 : List Value} (av rest : List Value) (hg : MSH g np) (hlink : Cond.methodLink f.1.cls idx g.1 ∈ SWL) (hcon : Con E g av M o M') (hn : av.length = np) (hst : st0 = av.reverse ++ rest) (hrm : RM f g k n) (hsum : (rest.map fun v => v.category).sum ≤ 8) (hd : decode f.2.1 pc = .ok (.invokestatic idx, 3))
    (kk : Jk κ E f g Q k n L M' pc rest o) : J κ E f Q k n L M pc st0 := by
  intro hC H locs ls hP hS hl
  obtain ⟨g1, g2, g3, g4, g5, g6⟩ := hg
  obtain ⟨hx, hbt, hml, hrt, hown, hts, hlk, hR, hSx, hl0, -⟩ := id hC
  obtain ⟨kv, kx⟩ := kk hC
  subst hst
  have hrun := vx_runSX (p := κ.1) (l := κ.2.1) (e := κ.2.2.1) (R := κ.2.2.2.1) (s := κ.2.2.2.2.1) (m := κ.2.2.2.2.2.1) (args := κ.2.2.2.2.2.2.1) (below := κ.2.2.2.2.2.2.2.1) (meth := κ.2.2.2.2.2.2.2.2.1) (c := κ.2.2.2.2.2.2.2.2.2) (H := H) (locs := locs) (cells := k) (slots := n)
    (As := cvs E av) (rest := cvs E rest) (g := F0 κ.2.2.2.2.2.1 pc ls (cvs E (av.reverse ++ rest))) (Ts := SWL) (own := f.1.cls) (nL := f.2.2.1) (index := idx) (maxL := g.2.2.1) (bytes := g.2.1) (ret := g.2.2.2.1) (hh := g.2.2.2.2.2.2.2.2)
    ⟨hx, hbt, hml, hown, hts⟩ (hcon κ.2.1 hl0) ⟨⟨rfl, rfl, by rw [hR]; exact hrm.1.1, by rw [hR]; exact hrm.1.2, wsf_warm hts (by rw [g1]; exact g2), by rw [← g1]; exact List.mem_cons_self⟩, hts _ g2, hts _ g3, g4, np_of g5, hts _ hlink, hts _ g6⟩
    ⟨FB_Rl (av := av), fun U hU hW => ⟨rfl, by rw [hU]; exact hP, hSx.to hS hU hW⟩⟩ rfl (by rw [List.length_map]; exact hn) hl.1 (by simp only [cvs, List.map_append, List.map_reverse]) (lv_room (by rw [cvs_sum]; exact hsum)) hd ⟨by rw [hR]; exact hrm.2.1, by rw [hR]; exact hrm.2.2⟩
  refine jrun hrun hS (fun v ho hok H1 locs1 hP1 hS1 => ?_) (fun X ho ce q H1 locs1 hP1 hS1 h1 h2 h3 => kx X ho ce q H1 locs1 ls hP1 hS1 hl h1 h2 h3)
  have h9 := kv v ho hok hC H1 locs1 ls hP1 hS1 hl
  cases v <;> exact h9
/-- a nest mate's private static method -/
theorem J_callSN {g : MI} {np idx : Nat} {host : String} {o : Oc} {M' : Wd} {st0 : List Value} (av rest : List Value) (hg : MS g np) (hlink : Cond.methodLinkNest f.1.cls idx g.1 host ∈ SWL) (hcon : Con E g av M o M') (hn : av.length = np) (hst : st0 = av.reverse ++ rest) (hrm : RM f g k n) (hsum : (rest.map fun v => v.category).sum ≤ 8) (hd : decode f.2.1 pc = .ok (.invokestatic idx, 3))
    (kk : Jk κ E f g Q k n L M' pc rest o) : J κ E f Q k n L M pc st0 := by
  intro hC H locs ls hP hS hl
  obtain ⟨g1, g2, g3, g4, g5, g6⟩ := hg
  obtain ⟨hx, hbt, hml, hrt, hown, hts, hlk, hR, hSx, hl0, -⟩ := id hC
  obtain ⟨kv, kx⟩ := kk hC
  subst hst
  have hrun := vx_runSN (p := κ.1) (l := κ.2.1) (e := κ.2.2.1) (R := κ.2.2.2.1) (s := κ.2.2.2.2.1) (m := κ.2.2.2.2.2.1) (args := κ.2.2.2.2.2.2.1) (below := κ.2.2.2.2.2.2.2.1) (meth := κ.2.2.2.2.2.2.2.2.1) (c := κ.2.2.2.2.2.2.2.2.2) (H := H) (locs := locs) (cells := k) (slots := n)
    (As := cvs E av) (rest := cvs E rest) (g := F0 κ.2.2.2.2.2.1 pc ls (cvs E (av.reverse ++ rest))) (Ts := SWL) (own := f.1.cls) (nL := f.2.2.1) (index := idx) (maxL := g.2.2.1) (bytes := g.2.1) (ret := g.2.2.2.1) (host := host)
    ⟨hx, hbt, hml, hown, hts⟩ (hcon κ.2.1 hl0) ⟨⟨⟨rfl, rfl, by rw [hR]; exact hrm.1.1, by rw [hR]; exact hrm.1.2, wsf_warm hts (by rw [g1]; exact g2), by rw [← g1]; exact List.mem_cons_self⟩, hts _ g2, hts _ g3, g4, np_of g5, hts _ hlink⟩, hts _ g6, trivial⟩
    ⟨FB_Rl (av := av), fun U hU hW => ⟨rfl, by rw [hU]; exact hP, hSx.to hS hU hW⟩⟩ rfl (by rw [List.length_map]; exact hn) hl.1 (by simp only [cvs, List.map_append, List.map_reverse]) (lv_room (by rw [cvs_sum]; exact hsum)) hd ⟨by rw [hR]; exact hrm.2.1, by rw [hR]; exact hrm.2.2⟩
  refine jrun hrun hS (fun v ho hok H1 locs1 hP1 hS1 => ?_) (fun X ho ce q H1 locs1 hP1 hS1 h1 h2 h3 => kx X ho ce q H1 locs1 ls hP1 hS1 hl h1 h2 h3)
  have h9 := kv v ho hok hC H1 locs1 ls hP1 hS1 hl
  cases v <;> exact h9
/-- it returned -/
theorem Jk_ret {g : MI} {M' : Wd} {rest : List Value} {v : Option Value} (kk : okB g.2.2.2.1 v → J κ E f Q (k + g.2.2.2.2.2.2.1) (n + g.2.2.2.2.2.2.2.1) L M' (pc + 3) (v.toList ++ rest)) : Jk κ E f g Q k n L M' pc rest (.inl v) :=
  fun _ => ⟨fun _ ho hok => by cases ho; exact kk hok, fun _ ho => by cases ho⟩
/-- it threw, and f has no handlers -/
theorem Jk_out {g : MI} {M' M'' : Wd} {rest : List Value} {o : Oc} {X : String} (hh0 : f.2.2.2.2.2.2.2.2 = []) (ho : o = .inr X) (hM : M' = M'') (hrm : RM f g k n) : Jk κ E f g (Qm κ E f o M'') k n L M' pc rest (.inr X) := by
  subst ho; subst hM
  intro hC
  refine ⟨fun _ ho => (by cases ho), fun X' ho ce q H1 locs1 ls hP1 hS1 hl h1 h2 h3 => ?_⟩
  cases ho
  obtain ⟨-, -, -, -, -, -, hlk, -, -, -, -, het⟩ := hC
  refine vx_out (fun x hx => ?_) hlk h1 h2 h3 (fun t ht _ => ⟨rfl, by rw [ht]; exact hP1, hS1.F ht⟩) hS1.2.2 hrm.2.1 hrm.2.2
  rw [het, hh0] at hx
  cases hx
end JC
end
section
/-! ===== J: throws, catches ===== -/
theorem stW_ot {w : Cond} (h : stW w = true) : vx_ot w = true := by
  unfold stW at h
  split at h
  · rfl
  · rfl
  · rfl
  · simp only [vx_ot, h, Bool.or_true]
section JT
variable {κ : Kx} {E : En} {f : MI} {Q : State → Prop} {k n : Nat} {L : List (Nat × Value)} {M M' : Wd} {pc : Nat} {st : List Value}
theorem J_thrown {o : Oc} {X : String} {H : Heap} {locs : List Loc} (ho : o = .inr X) (hP : va_P E.2.1 vwCl (mk E M) H) (hS : va_S (Ar E) κ.2.2.2.2.1.heap H locs) : ∀ t : State, κ.2.2.2.2.1.vm.Alike t.vm → H.size ≤ t.heap.size → (∀ q : Nat, q < H.size → t.heap[q]? = H[q]?) → XV E o M X κ.2.2.2.2.1 t :=
  fun t _ hz hq => ⟨ho, hP.kept fun _ _ hk => hq _ (vx_lt hP hk), Nat.le_trans hS.1 hz, fun q h1 h2 => by rw [hq q (Nat.lt_of_lt_of_le h1 hS.1)]; exact hS.2.1 q h1 h2⟩
/-- throw new X("text") -/
theorem J_throwS {o : Oc} {X text : String} {ik is ic : Nat} (ho : o = .inr X) (hM : M = M') (hh0 : f.2.2.2.2.2.2.2.2 = []) (hcls : Bundle.fit X = true) (hk : Cond.classLink f.1.cls ik X ∈ SWL) (hini : Cond.initialized X ∈ SWL) (hstr : (f.1.cls, is, text) ∈ strL) (hat : ∀ w ∈ vx_atS f.1.cls ic X ["java/lang/RuntimeException", "java/lang/Exception"], w ∈ SWL)
    (d0 : decode f.2.1 pc = .ok (.new ik, 3)) (d3 : decode f.2.1 (pc + 3) = .ok (.dup, 1)) (d4 : decode f.2.1 (pc + 4) = .ok (.ldc is, 2)) (d6 : decode f.2.1 (pc + 6) = .ok (.invokespecial ic, 3)) (d9 : decode f.2.1 (pc + 9) = .ok (.athrow, 1))
    (hrm : (5 < f.2.2.2.2.1 ∧ (st.map fun v => v.category).sum + 82 ≤ f.2.2.2.2.2.1) ∧ k + 1 ≤ f.2.2.2.2.2.2.1 ∧ n + 6 ≤ f.2.2.2.2.2.2.2.1) : J κ E f (Qm κ E f o M') k n L M pc st := by
  subst hM
  intro hC H locs ls hP hS hl
  obtain ⟨hx, hb, hml, hrt, hown, hts, hlk, hR, hSx, hl0, -, het⟩ := hC
  obtain ⟨sa, hsa⟩ := hSx.2.2.2.1 _ hstr
  exact vx_throwS (names := ["java/lang/RuntimeException", "java/lang/Exception"]) hx hb hl0 hown hcls (by decide +kernel) (hts _ hk) (hts _ hini) hsa (fun w hw => hts w (hat w hw))
    (fun w hw => by
      rcases List.mem_cons.mp hw with rfl | hw
      · exact stW_ot (List.mem_filter.mp hk).2
      · rcases List.mem_cons.mp hw with rfl | hw
        · exact stW_ot (List.mem_filter.mp hini).2
        · exact stW_ot (List.mem_filter.mp (hat w hw)).2)
    hSx.2.1 hSx.2.2.1 hS (by rw [hl.1, hml]) d0 d3 d4 d6 d9 (fun x h => by rw [het, hh0] at h; cases h) (by rw [hR]; exact hrm.1.1) (by rw [hR, cvs_sum]; exact hrm.1.2) (by rw [hR]; exact hrm.2.1) (by rw [hR]; exact hrm.2.2) hlk (J_thrown ho hP hS) hS.2.2 hrm.2.1 hrm.2.2
/-- the same, the text by a wide index -/
theorem J_throwSW {o : Oc} {X text : String} {ik is ic : Nat} (ho : o = .inr X) (hM : M = M') (hh0 : f.2.2.2.2.2.2.2.2 = []) (hcls : Bundle.fit X = true) (hk : Cond.classLink f.1.cls ik X ∈ SWL) (hini : Cond.initialized X ∈ SWL) (hstr : (f.1.cls, is, text) ∈ strL) (hat : ∀ w ∈ vx_atS f.1.cls ic X ["java/lang/RuntimeException", "java/lang/Exception"], w ∈ SWL)
    (d0 : decode f.2.1 pc = .ok (.new ik, 3)) (d3 : decode f.2.1 (pc + 3) = .ok (.dup, 1)) (d4 : decode f.2.1 (pc + 4) = .ok (.ldc_w is, 3)) (d7 : decode f.2.1 (pc + 7) = .ok (.invokespecial ic, 3)) (d10 : decode f.2.1 (pc + 10) = .ok (.athrow, 1))
    (hrm : (5 < f.2.2.2.2.1 ∧ (st.map fun v => v.category).sum + 82 ≤ f.2.2.2.2.2.1) ∧ k + 1 ≤ f.2.2.2.2.2.2.1 ∧ n + 6 ≤ f.2.2.2.2.2.2.2.1) : J κ E f (Qm κ E f o M') k n L M pc st := by
  subst hM
  intro hC H locs ls hP hS hl
  obtain ⟨hx, hb, hml, hrt, hown, hts, hlk, hR, hSx, hl0, -, het⟩ := hC
  obtain ⟨sa, hsa⟩ := hSx.2.2.2.1 _ hstr
  exact vx_throwSW (names := ["java/lang/RuntimeException", "java/lang/Exception"]) hx hb hl0 hown hcls (by decide +kernel) (hts _ hk) (hts _ hini) hsa (fun w hw => hts w (hat w hw))
    (fun w hw => by
      rcases List.mem_cons.mp hw with rfl | hw
      · exact stW_ot (List.mem_filter.mp hk).2
      · rcases List.mem_cons.mp hw with rfl | hw
        · exact stW_ot (List.mem_filter.mp hini).2
        · exact stW_ot (List.mem_filter.mp (hat w hw)).2)
    hSx.2.1 hSx.2.2.1 hS (by rw [hl.1, hml]) d0 d3 d4 d7 d10 (fun x h => by rw [het, hh0] at h; cases h) (by rw [hR]; exact hrm.1.1) (by rw [hR, cvs_sum]; exact hrm.1.2) (by rw [hR]; exact hrm.2.1) (by rw [hR]; exact hrm.2.2) hlk (J_thrown ho hP hS) hS.2.2 hrm.2.1 hrm.2.2
theorem adr_raw (E : En) (q : Nat) : adr E (q + 64) = q := by
  unfold adr
  rw [if_neg (by omega), if_neg (by omega)]
  omega
/-- caught by the row x of f's table -/
theorem Jk_catch {g : MI} {rest : List Value} {X : String} (pre suf : List (Nat × Nat × Nat × Nat)) (x : Nat × Nat × Nat × Nat) (hsplit : f.2.2.2.2.2.2.2.2 = pre ++ x :: suf) (hpass : ∀ z ∈ pre, z.2.2.2 ≠ 0 ∧ ∃ nm : String, Cond.classLink f.1.cls z.2.2.2 nm ∈ SWL ∧ (X, nm) ∈ ncL) (hx : covers ⟨x.1, x.2.1, x.2.2.1, x.2.2.2⟩ pc = true) (h0 : x.2.2.2 ≠ 0) (hlink : Cond.classLink f.1.cls x.2.2.2 X ∈ SWL) (hcast : Cond.castable X X ∈ SWL)
    (kk : ∀ q : Nat, J κ E f Q (k + g.2.2.2.2.2.2.1) (n + g.2.2.2.2.2.2.2.1) L M' x.2.2.1 [.ref (q + 64)]) : Jk κ E f g Q k n L M' pc rest (.inr X) := by
  intro hC
  refine ⟨fun _ ho => (by cases ho), fun X' ho ce q H1 locs1 ls hP1 hS1 hl h1 h2 h3 => ?_⟩
  cases ho
  have h9 := kk q hC H1 locs1 ls hP1 hS1 hl
  obtain ⟨hx0, hb, hml, hrt, hown, hts, hlk, hR, hSx, hl0, -, het⟩ := hC
  refine vx_catch hown (pre.map fun q => ⟨q.1, q.2.1, q.2.2.1, q.2.2.2⟩) ⟨x.1, x.2.1, x.2.2.1, x.2.2.2⟩ (suf.map fun q => ⟨q.1, q.2.1, q.2.2.1, q.2.2.2⟩) (by rw [het, hsplit]; simp [tableOf]) (fun z hz => ?_) hx h0 (hts _ hlink) (hts _ hcast) h1 h2 h3 ?_
  · obtain ⟨z', hz', rfl⟩ := List.mem_map.mp hz
    obtain ⟨e1, nm, e2, e3⟩ := hpass z' hz'
    exact Or.inr ⟨e1, nm, hts _ e2, hSx.2.2.2.2.2.2.2 _ e3⟩
  · have h8 : cvs E [Value.ref (q + 64)] = [.ref q] := by
      show [Value.ref (adr E (q + 64))] = [.ref q]
      rw [adr_raw]
    rw [h8] at h9
    exact h9
end JT
end
section
/-! ===== what the decompiled functions are written in ===== -/
def bnd {α β : Type} (a : α) (g : α → β) : β := g a
theorem bnd_e {α β : Type} {a : α} {g : α → β} {r : β} (h : bnd a g = r) : ∃ v, v = a ∧ g v = r := ⟨a, rfl, h⟩
def obind {α β : Type} (a : Option α) (g : α → Option β) : Option β := match a with
  | some v => g v
  | none => none
theorem obind_e {α β : Type} {a : Option α} {g : α → Option β} {r : β} (h : obind a g = some r) : ∃ v, a = some v ∧ g v = some r := by
  cases a with
  | none => cases h
  | some v => exact ⟨v, rfl, h⟩
def obind2 {α β γ : Type} (a : Option (α × β)) (g : α → β → Option γ) : Option γ := match a with
  | some (v, w) => g v w
  | none => none
theorem obind2_e {α β γ : Type} {a : Option (α × β)} {g : α → β → Option γ} {r : γ} (h : obind2 a g = some r) : ∃ v w, a = some (v, w) ∧ g v w = some r := by
  cases a with
  | none => cases h
  | some v => exact ⟨v.1, v.2, rfl, h⟩
def obind3 {α β γ δ : Type} (a : Option (α × β × γ)) (g : α → β → γ → Option δ) : Option δ := match a with
  | some (u, v, w) => g u v w
  | none => none
theorem obind3_e {α β γ δ : Type} {a : Option (α × β × γ)} {g : α → β → γ → Option δ} {r : δ} (h : obind3 a g = some r) : ∃ u v w, a = some (u, v, w) ∧ g u v w = some r := by
  cases a with
  | none => cases h
  | some v => exact ⟨v.1, v.2.1, v.2.2, rfl, h⟩
def obind4 {α β γ δ ε : Type} (a : Option (α × β × γ × δ)) (g : α → β → γ → δ → Option ε) : Option ε := match a with
  | some (u, v, w, x) => g u v w x
  | none => none
theorem obind4_e {α β γ δ ε : Type} {a : Option (α × β × γ × δ)} {g : α → β → γ → δ → Option ε} {r : ε} (h : obind4 a g = some r) : ∃ u v w x, a = some (u, v, w, x) ∧ g u v w x = some r := by
  cases a with
  | none => cases h
  | some v => exact ⟨v.1, v.2.1, v.2.2.1, v.2.2.2, rfl, h⟩
/-- a call that may throw: its value and world, or the exception's number (1 index, 2 argument, 3 state) and world -/
def obindX {α γ : Type} (a : Option ((α ⊕ Nat) × Wd)) (g : α → Wd → Option γ) (gx : Nat → Wd → Option γ) : Option γ := match a with
  | some (.inl v, M) => g v M
  | some (.inr x, M) => gx x M
  | none => none
theorem obindX_e {α γ : Type} {a : Option ((α ⊕ Nat) × Wd)} {g : α → Wd → Option γ} {gx : Nat → Wd → Option γ} {r : γ} (h : obindX a g gx = some r) : (∃ v M, a = some (.inl v, M) ∧ g v M = some r) ∨ ∃ x M, a = some (.inr x, M) ∧ gx x M = some r := by
  match a, h with
  | some (.inl v, M), h => exact Or.inl ⟨v, M, rfl, h⟩
  | some (.inr x, M), h => exact Or.inr ⟨x, M, rfl, h⟩
/-- a load from an int array of N places -/
def ldi {β : Type} (a : Nat → Int32) (N : Nat) (i : Int32) (g : Int32 → Option β) : Option β := if i < 0 ∨ N ≤ i.toNatClampNeg then none else g (a i.toNatClampNeg)
theorem ldi_e {β : Type} {a : Nat → Int32} {N : Nat} {i : Int32} {g : Int32 → Option β} {r : β} (h : ldi a N i g = some r) : ∃ v, v = a i.toNatClampNeg ∧ vp_in i N ∧ g v = some r := by
  unfold ldi at h
  by_cases c : i < 0 ∨ N ≤ i.toNatClampNeg
  · rw [if_pos c] at h; cases h
  · rw [if_neg c] at h; exact ⟨_, rfl, c, h⟩
/-- an index within -/
def inb {β : Type} (N : Nat) (i : Int32) (k : Option β) : Option β := if i < 0 ∨ N ≤ i.toNatClampNeg then none else k
theorem inb_e {β : Type} {N : Nat} {i : Int32} {k : Option β} {r : β} (h : inb N i k = some r) : vp_in i N ∧ k = some r := by
  unfold inb at h
  by_cases c : i < 0 ∨ N ≤ i.toNatClampNeg
  · rw [if_pos c] at h; cases h
  · rw [if_neg c] at h; exact ⟨c, h⟩
/-- a truth value -/
def chB {β : Type} (x : Int32) (k : Option β) : Option β := if x = 0 ∨ x = 1 then k else none
theorem chB_e {β : Type} {x : Int32} {k : Option β} {r : β} (h : chB x k = some r) : isB x ∧ k = some r := by
  unfold chB at h
  by_cases c : x = 0 ∨ x = 1
  · rw [if_pos c] at h; exact ⟨c, h⟩
  · rw [if_neg c] at h; cases h
/-- what must hold -/
def grd {β : Type} (c : Prop) [Decidable c] (k : Option β) : Option β := if c then k else none
theorem grd_e {β : Type} {c : Prop} [Decidable c] {k : Option β} {r : β} (h : grd c k = some r) : c ∧ k = some r := by
  unfold grd at h
  by_cases hc : c
  · rw [if_pos hc] at h; exact ⟨hc, h⟩
  · rw [if_neg hc] at h; cases h
theorem isB_ite {c : Prop} [Decidable c] {x y : Int32} (hx : isB x) (hy : isB y) : isB (if c then x else y) := by
  by_cases h : c
  · rw [if_pos h]; exact hx
  · rw [if_neg h]; exact hy
theorem okB_b {x : Int32} (h : okB (some .boolean) (some (.int x))) : isB x := by
  obtain ⟨y, h1, h2⟩ := h rfl
  cases h1
  exact h2
theorem nar_b {x : Int32} (E : En) (h : isB x) : narrow .boolean (cv E (.int x)) = cv E (.int x) := by rcases h with h | h <;> rw [h] <;> rfl
theorem fit_b {x : Int32} (E : En) (h : isB x) : fits .boolean (cv E (.int x)) = true := by rcases h with h | h <;> rw [h] <;> rfl
theorem vp_b {x : Int32} (h : isB x) : vp_nar .boolean x = x := by rcases h with h | h <;> rw [h] <;> rfl
theorem vpc {i : Int32} {N : Nat} (h : (decide (i < 0) || decide (N ≤ i.toNatClampNeg)) = false) : vp_in i N := by
  simp only [Bool.or_eq_false_iff, decide_eq_false_iff_not] at h
  exact fun q => q.elim h.1 h.2
def fuelN : Nat := 1000000000000
section JX
variable {κ : Kx} {E : En} {f : MI} {Q : State → Prop} {k n : Nat} {L L' : List (Nat × Value)} {M M' : Wd} {pc : Nat} {st : List Value}
theorem J_topi {x y : Int32} (h : y = x) (kk : J κ E f Q k n L M pc (.int y :: st)) : J κ E f Q k n L M pc (.int x :: st) := h ▸ kk
theorem J_topl {x y : Int64} (h : y = x) (kk : J κ E f Q k n L M pc (.long y :: st)) : J κ E f Q k n L M pc (.long x :: st) := h ▸ kk
theorem J_topd {x y : UInt64} (h : y = x) (kk : J κ E f Q k n L M pc (.double y :: st)) : J κ E f Q k n L M pc (.double x :: st) := h ▸ kk
theorem J_topa {x y : Nat} (h : y = x) (kk : J κ E f Q k n L M pc (.ref y :: st)) : J κ E f Q k n L M pc (.ref x :: st) := h ▸ kk
theorem J_M (M' : Wd) (h : M = M') (kk : J κ E f Q k n L M' pc st) : J κ E f Q k n L M pc st := h ▸ kk
/-- it returned a value, and made nothing -/
theorem Jk_v {g : MI} {rest : List Value} {v : Value} (h1 : g.2.2.2.2.2.2.1 = 0) (h2 : g.2.2.2.2.2.2.2.1 = 0) (kk : okB g.2.2.2.1 (some v) → J κ E f Q k n L M' (pc + 3) (v :: rest)) : Jk κ E f g Q k n L M' pc rest (.inl (some v)) :=
  Jk_ret fun hok => by rw [h1, h2]; exact kk hok
theorem Jk_0 {g : MI} {rest : List Value} (h1 : g.2.2.2.2.2.2.1 = 0) (h2 : g.2.2.2.2.2.2.2.1 = 0) (kk : J κ E f Q k n L M' (pc + 3) rest) : Jk κ E f g Q k n L M' pc rest (.inl none) :=
  Jk_ret fun _ => by rw [h1, h2]; exact kk
/-- it returned, and may have made something -/
theorem Jk_vk {g : MI} {rest : List Value} {v : Value} (k' n' : Nat) (h1 : k + g.2.2.2.2.2.2.1 = k') (h2 : n + g.2.2.2.2.2.2.2.1 = n') (kk : okB g.2.2.2.1 (some v) → J κ E f Q k' n' L M' (pc + 3) (v :: rest)) : Jk κ E f g Q k n L M' pc rest (.inl (some v)) :=
  Jk_ret fun hok => by rw [h1, h2]; exact kk hok
theorem Jk_0k {g : MI} {rest : List Value} (k' n' : Nat) (h1 : k + g.2.2.2.2.2.2.1 = k') (h2 : n + g.2.2.2.2.2.2.2.1 = n') (kk : J κ E f Q k' n' L M' (pc + 3) rest) : Jk κ E f g Q k n L M' pc rest (.inl none) :=
  Jk_ret fun _ => by rw [h1, h2]; exact kk
end JX
/-- exceptions by number -/
def xcls (x : Nat) : String := if x = 1 then "java/lang/IndexOutOfBoundsException" else if x = 2 then "java/lang/IllegalArgumentException" else "java/lang/IllegalStateException"
theorem ifp {c : Prop} [Decidable c] {α : Type} {a b r : α} (hc : c) (h : (if c then a else b) = r) : a = r := by rw [if_pos hc] at h; exact h
theorem ifn {c : Prop} [Decidable c] {α : Type} {a b r : α} (hc : ¬ c) (h : (if c then a else b) = r) : b = r := by rw [if_neg hc] at h; exact h
def ocI (r : Int32 ⊕ Nat) : Oc := match r with
  | .inl v => .inl (some (.int v))
  | .inr x => .inr (xcls x)
def ocL (r : Int64 ⊕ Nat) : Oc := match r with
  | .inl v => .inl (some (.long v))
  | .inr x => .inr (xcls x)
def ocD (r : UInt64 ⊕ Nat) : Oc := match r with
  | .inl v => .inl (some (.double v))
  | .inr x => .inr (xcls x)
def ocV (r : Unit ⊕ Nat) : Oc := match r with
  | .inl _ => .inl none
  | .inr x => .inr (xcls x)
section JY
variable {κ : Kx} {E : En} {f : MI} {Q : State → Prop} {k n : Nat} {L : List (Nat × Value)} {M : Wd} {pc : Nat} {st : List Value}
theorem J_join (L' : List (Nat × Value)) (M' : Wd) (pc' : Nat) (st' : List Value) (hJ : J κ E f Q k n L' M' pc' st') (kk : J κ E f Q k n L' M' pc' st' → J κ E f Q k n L M pc st) : J κ E f Q k n L M pc st := kk hJ
theorem J_LS (L' : List (Nat × Value)) (st' : List Value) (h1 : L = L') (h2 : st = st') (kk : J κ E f Q k n L' M pc st') : J κ E f Q k n L M pc st := by subst h1; subst h2; exact kk
theorem J_d2raw {i : Nat} {b : UInt64} (hlink : Cond.methodLink f.1.cls i ⟨"java/lang/Double", "doubleToRawLongBits", "(D)J"⟩ ∈ SWL) (hnat : Cond.native ⟨"java/lang/Double", "doubleToRawLongBits", "(D)J"⟩ ∈ SWL) (hstat : Cond.static ⟨"java/lang/Double", "doubleToRawLongBits", "(D)J"⟩ ∈ SWL) (hini : Cond.initialized "java/lang/Double" ∈ SWL) (hf : 1 ≤ f.2.2.2.2.1) (hl2 : (st.map fun v => v.category).sum + 15 ≤ f.2.2.2.2.2.1) (hd : decode f.2.1 pc = .ok (.invokestatic i, 3))
    (kk : J κ E f Q k n L M (pc + 3) (.long b.toInt64 :: st)) : J κ E f Q k n L M pc (.double b :: st) := by
  intro hC H locs ls hP hS hl
  obtain ⟨hx, hbt, hml, hrt, hown, hts, hlk, hR, hSx, hl0, -⟩ := id hC
  exact vn_d2l hx hbt (by rw [hml, hl.1]) hown (hts _ hlink) (hts _ hnat) (hts _ hstat) (hts _ hini) hd (by rw [hR]; exact hf) (by rw [hR, cvs_sum]; exact hl2) (kk hC H locs ls hP hS hl)
end JY
end
