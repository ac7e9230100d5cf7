section
-- ===== PART A: goes FIRST, ahead of the names: the tables' words, and 'selects' of the private methods out of them =====
/-- a private method of a class that the tables say can be made, by its rows of tables_1 -/
def lw_okq (q : MethodName × Nat) : Prop := (q.1.cls ≠ "java/lang/invoke/MethodHandle" ∧ q.1.cls ≠ "java/lang/invoke/VarHandle") ∧ Cond.instantiable q.1.cls q.2 ∈ tables_1 ∧ Cond.privateMethod q.1 ∈ tables_1 ∧ Cond.instanceMethod q.1 ∈ tables_1
theorem lw_p0 : lw_okq (⟨"DriverBook$Chip", "sortIn", "(ILDriverBook$Field;)V"⟩, 7) := ⟨⟨by decide +kernel, by decide +kernel⟩, List.mem_of_getElem? (i := 329) (by decide +kernel), List.mem_of_getElem? (i := 516) (by decide +kernel), List.mem_of_getElem? (i := 517) (by decide +kernel)⟩
theorem lw_p1 : lw_okq (⟨"DriverBook", "isStepNumber", "(III)Z"⟩, 7) := ⟨⟨by decide +kernel, by decide +kernel⟩, List.mem_of_getElem? (i := 22) (by decide +kernel), List.mem_of_getElem? (i := 587) (by decide +kernel), List.mem_of_getElem? (i := 588) (by decide +kernel)⟩
theorem lw_p2 : lw_okq (⟨"DriverBook$Code", "joinsGroup", "(ILDriverBook$Book;)Z"⟩, 6) := ⟨⟨by decide +kernel, by decide +kernel⟩, List.mem_of_getElem? (i := 128) (by decide +kernel), List.mem_of_getElem? (i := 638) (by decide +kernel), List.mem_of_getElem? (i := 639) (by decide +kernel)⟩
theorem lw_p3 : lw_okq (⟨"DriverBook$Code", "endGroup", "(LDriverBook$Book;)V"⟩, 6) := ⟨⟨by decide +kernel, by decide +kernel⟩, List.mem_of_getElem? (i := 128) (by decide +kernel), List.mem_of_getElem? (i := 654) (by decide +kernel), List.mem_of_getElem? (i := 655) (by decide +kernel)⟩
theorem lw_p4 : lw_okq (⟨"DriverBook$Code", "add", "(IIIIII)V"⟩, 6) := ⟨⟨by decide +kernel, by decide +kernel⟩, List.mem_of_getElem? (i := 128) (by decide +kernel), List.mem_of_getElem? (i := 663) (by decide +kernel), List.mem_of_getElem? (i := 664) (by decide +kernel)⟩
theorem lw_p5 : lw_okq (⟨"DriverBook$Code", "addReadAndWrite", "(IIZ)V"⟩, 6) := ⟨⟨by decide +kernel, by decide +kernel⟩, List.mem_of_getElem? (i := 128) (by decide +kernel), List.mem_of_getElem? (i := 675) (by decide +kernel), List.mem_of_getElem? (i := 676) (by decide +kernel)⟩
theorem lw_p6 : lw_okq (⟨"DriverBook$Code", "join", "(IILDriverBook$Book;)V"⟩, 6) := ⟨⟨by decide +kernel, by decide +kernel⟩, List.mem_of_getElem? (i := 128) (by decide +kernel), List.mem_of_getElem? (i := 679) (by decide +kernel), List.mem_of_getElem? (i := 680) (by decide +kernel)⟩
theorem lw_p7 : lw_okq (⟨"DriverBook$Code", "addStep", "(LDriverBook$Act;ILDriverBook$Book;)V"⟩, 6) := ⟨⟨by decide +kernel, by decide +kernel⟩, List.mem_of_getElem? (i := 128) (by decide +kernel), List.mem_of_getElem? (i := 683) (by decide +kernel), List.mem_of_getElem? (i := 684) (by decide +kernel)⟩
theorem lw_p8 : lw_okq (⟨"DriverBook$Driver", "serve", "()V"⟩, 6) := ⟨⟨by decide +kernel, by decide +kernel⟩, List.mem_of_getElem? (i := 360) (by decide +kernel), List.mem_of_getElem? (i := 732) (by decide +kernel), List.mem_of_getElem? (i := 733) (by decide +kernel)⟩
theorem lw_p9 : lw_okq (⟨"DriverBook$Driver", "calledAct", "()I"⟩, 6) := ⟨⟨by decide +kernel, by decide +kernel⟩, List.mem_of_getElem? (i := 360) (by decide +kernel), List.mem_of_getElem? (i := 736) (by decide +kernel), List.mem_of_getElem? (i := 737) (by decide +kernel)⟩
theorem lw_p10 : lw_okq (⟨"DriverBook$Driver", "beat", "(LDriverBook$Code;LDriverBook$Course;)V"⟩, 6) := ⟨⟨by decide +kernel, by decide +kernel⟩, List.mem_of_getElem? (i := 360) (by decide +kernel), List.mem_of_getElem? (i := 741) (by decide +kernel), List.mem_of_getElem? (i := 742) (by decide +kernel)⟩
theorem lw_p11 : lw_okq (⟨"DriverBook$Chip", "endPulse", "(I)V"⟩, 7) := ⟨⟨by decide +kernel, by decide +kernel⟩, List.mem_of_getElem? (i := 329) (by decide +kernel), List.mem_of_getElem? (i := 754) (by decide +kernel), List.mem_of_getElem? (i := 755) (by decide +kernel)⟩
theorem lw_p12 : lw_okq (⟨"DriverBook$Chip", "fireEvents", "()V"⟩, 7) := ⟨⟨by decide +kernel, by decide +kernel⟩, List.mem_of_getElem? (i := 329) (by decide +kernel), List.mem_of_getElem? (i := 758) (by decide +kernel), List.mem_of_getElem? (i := 759) (by decide +kernel)⟩
theorem lw_p13 : lw_okq (⟨"DriverBook$Driver", "numberToWrite", "(LDriverBook$Code;LDriverBook$Course;)I"⟩, 6) := ⟨⟨by decide +kernel, by decide +kernel⟩, List.mem_of_getElem? (i := 360) (by decide +kernel), List.mem_of_getElem? (i := 766) (by decide +kernel), List.mem_of_getElem? (i := 767) (by decide +kernel)⟩
theorem lw_p14 : lw_okq (⟨"DriverBook$Chip", "hitsOf", "(II)I"⟩, 7) := ⟨⟨by decide +kernel, by decide +kernel⟩, List.mem_of_getElem? (i := 329) (by decide +kernel), List.mem_of_getElem? (i := 774) (by decide +kernel), List.mem_of_getElem? (i := 775) (by decide +kernel)⟩
theorem lw_p15 : lw_okq (⟨"DriverBook$Chip", "isHit", "(II)Z"⟩, 7) := ⟨⟨by decide +kernel, by decide +kernel⟩, List.mem_of_getElem? (i := 329) (by decide +kernel), List.mem_of_getElem? (i := 782) (by decide +kernel), List.mem_of_getElem? (i := 783) (by decide +kernel)⟩
def lw_privs_1 : List (MethodName × Nat) := [(⟨"DriverBook$Chip", "sortIn", "(ILDriverBook$Field;)V"⟩, 7), (⟨"DriverBook", "isStepNumber", "(III)Z"⟩, 7), (⟨"DriverBook$Code", "joinsGroup", "(ILDriverBook$Book;)Z"⟩, 6), (⟨"DriverBook$Code", "endGroup", "(LDriverBook$Book;)V"⟩, 6), (⟨"DriverBook$Code", "add", "(IIIIII)V"⟩, 6), (⟨"DriverBook$Code", "addReadAndWrite", "(IIZ)V"⟩, 6), (⟨"DriverBook$Code", "join", "(IILDriverBook$Book;)V"⟩, 6), (⟨"DriverBook$Code", "addStep", "(LDriverBook$Act;ILDriverBook$Book;)V"⟩, 6), (⟨"DriverBook$Driver", "serve", "()V"⟩, 6), (⟨"DriverBook$Driver", "calledAct", "()I"⟩, 6), (⟨"DriverBook$Driver", "beat", "(LDriverBook$Code;LDriverBook$Course;)V"⟩, 6), (⟨"DriverBook$Chip", "endPulse", "(I)V"⟩, 7), (⟨"DriverBook$Chip", "fireEvents", "()V"⟩, 7), (⟨"DriverBook$Driver", "numberToWrite", "(LDriverBook$Code;LDriverBook$Course;)I"⟩, 6), (⟨"DriverBook$Chip", "hitsOf", "(II)I"⟩, 7), (⟨"DriverBook$Chip", "isHit", "(II)Z"⟩, 7)]
theorem lw_r1 : ∀ q ∈ lw_privs_1, lw_okq q := List.forall_mem_cons.mpr ⟨lw_p0, List.forall_mem_cons.mpr ⟨lw_p1, List.forall_mem_cons.mpr ⟨lw_p2, List.forall_mem_cons.mpr ⟨lw_p3, List.forall_mem_cons.mpr ⟨lw_p4, List.forall_mem_cons.mpr ⟨lw_p5, List.forall_mem_cons.mpr ⟨lw_p6, List.forall_mem_cons.mpr ⟨lw_p7, List.forall_mem_cons.mpr ⟨lw_p8, List.forall_mem_cons.mpr ⟨lw_p9, List.forall_mem_cons.mpr ⟨lw_p10, List.forall_mem_cons.mpr ⟨lw_p11, List.forall_mem_cons.mpr ⟨lw_p12, List.forall_mem_cons.mpr ⟨lw_p13, List.forall_mem_cons.mpr ⟨lw_p14, List.forall_mem_cons.mpr ⟨lw_p15, fun _ h => absurd h List.not_mem_nil⟩⟩⟩⟩⟩⟩⟩⟩⟩⟩⟩⟩⟩⟩⟩⟩
theorem lw_p16 : lw_okq (⟨"DriverBook$Chip", "lookAtLaws", "(I)V"⟩, 7) := ⟨⟨by decide +kernel, by decide +kernel⟩, List.mem_of_getElem? (i := 329) (by decide +kernel), List.mem_of_getElem? (i := 786) (by decide +kernel), List.mem_of_getElem? (i := 787) (by decide +kernel)⟩
theorem lw_p17 : lw_okq (⟨"DriverBook$Chip", "isBroken", "(LDriverBook$Law;)Z"⟩, 7) := ⟨⟨by decide +kernel, by decide +kernel⟩, List.mem_of_getElem? (i := 329) (by decide +kernel), List.mem_of_getElem? (i := 791) (by decide +kernel), List.mem_of_getElem? (i := 792) (by decide +kernel)⟩
theorem lw_p18 : lw_okq (⟨"DriverBook$Chip", "writeField", "(II)V"⟩, 7) := ⟨⟨by decide +kernel, by decide +kernel⟩, List.mem_of_getElem? (i := 329) (by decide +kernel), List.mem_of_getElem? (i := 799) (by decide +kernel), List.mem_of_getElem? (i := 800) (by decide +kernel)⟩
theorem lw_p19 : lw_okq (⟨"DriverBook$Chip", "loadHeld", "()V"⟩, 7) := ⟨⟨by decide +kernel, by decide +kernel⟩, List.mem_of_getElem? (i := 329) (by decide +kernel), List.mem_of_getElem? (i := 803) (by decide +kernel), List.mem_of_getElem? (i := 804) (by decide +kernel)⟩
theorem lw_p20 : lw_okq (⟨"DriverBook$Driver", "endPollBeat", "(LDriverBook$Code;LDriverBook$Course;)V"⟩, 6) := ⟨⟨by decide +kernel, by decide +kernel⟩, List.mem_of_getElem? (i := 360) (by decide +kernel), List.mem_of_getElem? (i := 807) (by decide +kernel), List.mem_of_getElem? (i := 808) (by decide +kernel)⟩
theorem lw_p21 : lw_okq (⟨"DriverBook$Driver", "pick", "(II)V"⟩, 6) := ⟨⟨by decide +kernel, by decide +kernel⟩, List.mem_of_getElem? (i := 360) (by decide +kernel), List.mem_of_getElem? (i := 812) (by decide +kernel), List.mem_of_getElem? (i := 813) (by decide +kernel)⟩
theorem lw_p22 : lw_okq (⟨"DriverBook$Walker", "noteSets", "(LDriverBook$Act;LDriverBook$Act;)V"⟩, 8) := ⟨⟨by decide +kernel, by decide +kernel⟩, List.mem_of_getElem? (i := 408) (by decide +kernel), List.mem_of_getElem? (i := 868) (by decide +kernel), List.mem_of_getElem? (i := 869) (by decide +kernel)⟩
theorem lw_p23 : lw_okq (⟨"DriverBook$Walker", "brokenRule", "(ZI)I"⟩, 8) := ⟨⟨by decide +kernel, by decide +kernel⟩, List.mem_of_getElem? (i := 408) (by decide +kernel), List.mem_of_getElem? (i := 881) (by decide +kernel), List.mem_of_getElem? (i := 882) (by decide +kernel)⟩
theorem lw_p24 : lw_okq (⟨"DriverBook$Walker", "wrongField", "()I"⟩, 8) := ⟨⟨by decide +kernel, by decide +kernel⟩, List.mem_of_getElem? (i := 408) (by decide +kernel), List.mem_of_getElem? (i := 885) (by decide +kernel), List.mem_of_getElem? (i := 886) (by decide +kernel)⟩
theorem lw_p25 : lw_okq (⟨"DriverBook$Walker", "isRight", "(I)Z"⟩, 8) := ⟨⟨by decide +kernel, by decide +kernel⟩, List.mem_of_getElem? (i := 408) (by decide +kernel), List.mem_of_getElem? (i := 890) (by decide +kernel), List.mem_of_getElem? (i := 891) (by decide +kernel)⟩
theorem lw_p26 : lw_okq (⟨"DriverBook", "hostRefuses", "(I)I"⟩, 7) := ⟨⟨by decide +kernel, by decide +kernel⟩, List.mem_of_getElem? (i := 22) (by decide +kernel), List.mem_of_getElem? (i := 906) (by decide +kernel), List.mem_of_getElem? (i := 907) (by decide +kernel)⟩
theorem lw_p27 : lw_okq (⟨"java/lang/Throwable", "fillInStackTrace", "(I)Ljava/lang/Throwable;"⟩, 6) := ⟨⟨by decide +kernel, by decide +kernel⟩, List.mem_of_getElem? (i := 977) (by decide +kernel), List.mem_of_getElem? (i := 975) (by decide +kernel), List.mem_of_getElem? (i := 976) (by decide +kernel)⟩
theorem lw_p28 : lw_okq (⟨"DriverBookModel", "changed", "()V"⟩, 69) := ⟨⟨by decide +kernel, by decide +kernel⟩, List.mem_of_getElem? (i := 1071) (by decide +kernel), List.mem_of_getElem? (i := 1297) (by decide +kernel), List.mem_of_getElem? (i := 1298) (by decide +kernel)⟩
theorem lw_p29 : lw_okq (⟨"DriverBookModel", "powers", "()V"⟩, 69) := ⟨⟨by decide +kernel, by decide +kernel⟩, List.mem_of_getElem? (i := 1071) (by decide +kernel), List.mem_of_getElem? (i := 1301) (by decide +kernel), List.mem_of_getElem? (i := 1302) (by decide +kernel)⟩
theorem lw_p30 : lw_okq (⟨"DriverBookModel", "isRegister", "(I)Z"⟩, 69) := ⟨⟨by decide +kernel, by decide +kernel⟩, List.mem_of_getElem? (i := 1071) (by decide +kernel), List.mem_of_getElem? (i := 1309) (by decide +kernel), List.mem_of_getElem? (i := 1310) (by decide +kernel)⟩
theorem lw_p31 : lw_okq (⟨"DriverBookModel", "mask", "(I)I"⟩, 69) := ⟨⟨by decide +kernel, by decide +kernel⟩, List.mem_of_getElem? (i := 1071) (by decide +kernel), List.mem_of_getElem? (i := 1313) (by decide +kernel), List.mem_of_getElem? (i := 1314) (by decide +kernel)⟩
def lw_privs_2 : List (MethodName × Nat) := [(⟨"DriverBook$Chip", "lookAtLaws", "(I)V"⟩, 7), (⟨"DriverBook$Chip", "isBroken", "(LDriverBook$Law;)Z"⟩, 7), (⟨"DriverBook$Chip", "writeField", "(II)V"⟩, 7), (⟨"DriverBook$Chip", "loadHeld", "()V"⟩, 7), (⟨"DriverBook$Driver", "endPollBeat", "(LDriverBook$Code;LDriverBook$Course;)V"⟩, 6), (⟨"DriverBook$Driver", "pick", "(II)V"⟩, 6), (⟨"DriverBook$Walker", "noteSets", "(LDriverBook$Act;LDriverBook$Act;)V"⟩, 8), (⟨"DriverBook$Walker", "brokenRule", "(ZI)I"⟩, 8), (⟨"DriverBook$Walker", "wrongField", "()I"⟩, 8), (⟨"DriverBook$Walker", "isRight", "(I)Z"⟩, 8), (⟨"DriverBook", "hostRefuses", "(I)I"⟩, 7), (⟨"java/lang/Throwable", "fillInStackTrace", "(I)Ljava/lang/Throwable;"⟩, 6), (⟨"DriverBookModel", "changed", "()V"⟩, 69), (⟨"DriverBookModel", "powers", "()V"⟩, 69), (⟨"DriverBookModel", "isRegister", "(I)Z"⟩, 69), (⟨"DriverBookModel", "mask", "(I)I"⟩, 69)]
theorem lw_r2 : ∀ q ∈ lw_privs_2, lw_okq q := List.forall_mem_cons.mpr ⟨lw_p16, List.forall_mem_cons.mpr ⟨lw_p17, List.forall_mem_cons.mpr ⟨lw_p18, List.forall_mem_cons.mpr ⟨lw_p19, List.forall_mem_cons.mpr ⟨lw_p20, List.forall_mem_cons.mpr ⟨lw_p21, List.forall_mem_cons.mpr ⟨lw_p22, List.forall_mem_cons.mpr ⟨lw_p23, List.forall_mem_cons.mpr ⟨lw_p24, List.forall_mem_cons.mpr ⟨lw_p25, List.forall_mem_cons.mpr ⟨lw_p26, List.forall_mem_cons.mpr ⟨lw_p27, List.forall_mem_cons.mpr ⟨lw_p28, List.forall_mem_cons.mpr ⟨lw_p29, List.forall_mem_cons.mpr ⟨lw_p30, List.forall_mem_cons.mpr ⟨lw_p31, fun _ h => absurd h List.not_mem_nil⟩⟩⟩⟩⟩⟩⟩⟩⟩⟩⟩⟩⟩⟩⟩⟩
theorem lw_p32 : lw_okq (⟨"DriverBookModel", "most", "(I)I"⟩, 69) := ⟨⟨by decide +kernel, by decide +kernel⟩, List.mem_of_getElem? (i := 1071) (by decide +kernel), List.mem_of_getElem? (i := 1317) (by decide +kernel), List.mem_of_getElem? (i := 1318) (by decide +kernel)⟩
theorem lw_p33 : lw_okq (⟨"DriverBookModel", "isField", "(I)Z"⟩, 69) := ⟨⟨by decide +kernel, by decide +kernel⟩, List.mem_of_getElem? (i := 1071) (by decide +kernel), List.mem_of_getElem? (i := 1325) (by decide +kernel), List.mem_of_getElem? (i := 1326) (by decide +kernel)⟩
theorem lw_p34 : lw_okq (⟨"DriverBookModel", "isAct", "(I)Z"⟩, 69) := ⟨⟨by decide +kernel, by decide +kernel⟩, List.mem_of_getElem? (i := 1071) (by decide +kernel), List.mem_of_getElem? (i := 1345) (by decide +kernel), List.mem_of_getElem? (i := 1346) (by decide +kernel)⟩
theorem lw_p35 : lw_okq (⟨"DriverBookModel", "makes", "(II)V"⟩, 69) := ⟨⟨by decide +kernel, by decide +kernel⟩, List.mem_of_getElem? (i := 1071) (by decide +kernel), List.mem_of_getElem? (i := 1365) (by decide +kernel), List.mem_of_getElem? (i := 1366) (by decide +kernel)⟩
theorem lw_p36 : lw_okq (⟨"DriverBookModel", "joins", "(II)Z"⟩, 69) := ⟨⟨by decide +kernel, by decide +kernel⟩, List.mem_of_getElem? (i := 1071) (by decide +kernel), List.mem_of_getElem? (i := 1369) (by decide +kernel), List.mem_of_getElem? (i := 1370) (by decide +kernel)⟩
theorem lw_p37 : lw_okq (⟨"DriverBookModel", "isBound", "(II)Z"⟩, 69) := ⟨⟨by decide +kernel, by decide +kernel⟩, List.mem_of_getElem? (i := 1071) (by decide +kernel), List.mem_of_getElem? (i := 1373) (by decide +kernel), List.mem_of_getElem? (i := 1374) (by decide +kernel)⟩
theorem lw_p38 : lw_okq (⟨"DriverBookModel", "groups", "(III)V"⟩, 69) := ⟨⟨by decide +kernel, by decide +kernel⟩, List.mem_of_getElem? (i := 1071) (by decide +kernel), List.mem_of_getElem? (i := 1377) (by decide +kernel), List.mem_of_getElem? (i := 1378) (by decide +kernel)⟩
theorem lw_p39 : lw_okq (⟨"DriverBookModel", "isShadowed", "(I)Z"⟩, 69) := ⟨⟨by decide +kernel, by decide +kernel⟩, List.mem_of_getElem? (i := 1071) (by decide +kernel), List.mem_of_getElem? (i := 1381) (by decide +kernel), List.mem_of_getElem? (i := 1382) (by decide +kernel)⟩
theorem lw_p40 : lw_okq (⟨"DriverBookModel", "emit", "(IIIIIII)V"⟩, 69) := ⟨⟨by decide +kernel, by decide +kernel⟩, List.mem_of_getElem? (i := 1071) (by decide +kernel), List.mem_of_getElem? (i := 1385) (by decide +kernel), List.mem_of_getElem? (i := 1386) (by decide +kernel)⟩
theorem lw_p41 : lw_okq (⟨"DriverBookModel", "hasHandler", "()Z"⟩, 69) := ⟨⟨by decide +kernel, by decide +kernel⟩, List.mem_of_getElem? (i := 1071) (by decide +kernel), List.mem_of_getElem? (i := 1389) (by decide +kernel), List.mem_of_getElem? (i := 1390) (by decide +kernel)⟩
theorem lw_p42 : lw_okq (⟨"DriverBookModel", "comes", "(III)V"⟩, 69) := ⟨⟨by decide +kernel, by decide +kernel⟩, List.mem_of_getElem? (i := 1071) (by decide +kernel), List.mem_of_getElem? (i := 1409) (by decide +kernel), List.mem_of_getElem? (i := 1410) (by decide +kernel)⟩
theorem lw_p43 : lw_okq (⟨"DriverBookModel", "runs", "(II)Z"⟩, 69) := ⟨⟨by decide +kernel, by decide +kernel⟩, List.mem_of_getElem? (i := 1071) (by decide +kernel), List.mem_of_getElem? (i := 1417) (by decide +kernel), List.mem_of_getElem? (i := 1418) (by decide +kernel)⟩
theorem lw_p44 : lw_okq (⟨"DriverBookModel", "handles", "(I)V"⟩, 69) := ⟨⟨by decide +kernel, by decide +kernel⟩, List.mem_of_getElem? (i := 1071) (by decide +kernel), List.mem_of_getElem? (i := 1421) (by decide +kernel), List.mem_of_getElem? (i := 1422) (by decide +kernel)⟩
theorem lw_p45 : lw_okq (⟨"DriverBookModel", "flagUp", "()I"⟩, 69) := ⟨⟨by decide +kernel, by decide +kernel⟩, List.mem_of_getElem? (i := 1071) (by decide +kernel), List.mem_of_getElem? (i := 1425) (by decide +kernel), List.mem_of_getElem? (i := 1426) (by decide +kernel)⟩
theorem lw_p46 : lw_okq (⟨"DriverBookModel", "reads", "(IZ)I"⟩, 69) := ⟨⟨by decide +kernel, by decide +kernel⟩, List.mem_of_getElem? (i := 1071) (by decide +kernel), List.mem_of_getElem? (i := 1429) (by decide +kernel), List.mem_of_getElem? (i := 1430) (by decide +kernel)⟩
theorem lw_p47 : lw_okq (⟨"DriverBookModel", "ticks", "()V"⟩, 69) := ⟨⟨by decide +kernel, by decide +kernel⟩, List.mem_of_getElem? (i := 1071) (by decide +kernel), List.mem_of_getElem? (i := 1433) (by decide +kernel), List.mem_of_getElem? (i := 1434) (by decide +kernel)⟩
def lw_privs_3 : List (MethodName × Nat) := [(⟨"DriverBookModel", "most", "(I)I"⟩, 69), (⟨"DriverBookModel", "isField", "(I)Z"⟩, 69), (⟨"DriverBookModel", "isAct", "(I)Z"⟩, 69), (⟨"DriverBookModel", "makes", "(II)V"⟩, 69), (⟨"DriverBookModel", "joins", "(II)Z"⟩, 69), (⟨"DriverBookModel", "isBound", "(II)Z"⟩, 69), (⟨"DriverBookModel", "groups", "(III)V"⟩, 69), (⟨"DriverBookModel", "isShadowed", "(I)Z"⟩, 69), (⟨"DriverBookModel", "emit", "(IIIIIII)V"⟩, 69), (⟨"DriverBookModel", "hasHandler", "()Z"⟩, 69), (⟨"DriverBookModel", "comes", "(III)V"⟩, 69), (⟨"DriverBookModel", "runs", "(II)Z"⟩, 69), (⟨"DriverBookModel", "handles", "(I)V"⟩, 69), (⟨"DriverBookModel", "flagUp", "()I"⟩, 69), (⟨"DriverBookModel", "reads", "(IZ)I"⟩, 69), (⟨"DriverBookModel", "ticks", "()V"⟩, 69)]
theorem lw_r3 : ∀ q ∈ lw_privs_3, lw_okq q := List.forall_mem_cons.mpr ⟨lw_p32, List.forall_mem_cons.mpr ⟨lw_p33, List.forall_mem_cons.mpr ⟨lw_p34, List.forall_mem_cons.mpr ⟨lw_p35, List.forall_mem_cons.mpr ⟨lw_p36, List.forall_mem_cons.mpr ⟨lw_p37, List.forall_mem_cons.mpr ⟨lw_p38, List.forall_mem_cons.mpr ⟨lw_p39, List.forall_mem_cons.mpr ⟨lw_p40, List.forall_mem_cons.mpr ⟨lw_p41, List.forall_mem_cons.mpr ⟨lw_p42, List.forall_mem_cons.mpr ⟨lw_p43, List.forall_mem_cons.mpr ⟨lw_p44, List.forall_mem_cons.mpr ⟨lw_p45, List.forall_mem_cons.mpr ⟨lw_p46, List.forall_mem_cons.mpr ⟨lw_p47, fun _ h => absurd h List.not_mem_nil⟩⟩⟩⟩⟩⟩⟩⟩⟩⟩⟩⟩⟩⟩⟩⟩
theorem lw_p48 : lw_okq (⟨"DriverBookModel", "puts", "(II)V"⟩, 69) := ⟨⟨by decide +kernel, by decide +kernel⟩, List.mem_of_getElem? (i := 1071) (by decide +kernel), List.mem_of_getElem? (i := 1437) (by decide +kernel), List.mem_of_getElem? (i := 1438) (by decide +kernel)⟩
theorem lw_p49 : lw_okq (⟨"DriverBookModel", "writes", "(II)V"⟩, 69) := ⟨⟨by decide +kernel, by decide +kernel⟩, List.mem_of_getElem? (i := 1071) (by decide +kernel), List.mem_of_getElem? (i := 1441) (by decide +kernel), List.mem_of_getElem? (i := 1442) (by decide +kernel)⟩
theorem lw_p50 : lw_okq (⟨"DriverBookModel", "judges", "(II)V"⟩, 69) := ⟨⟨by decide +kernel, by decide +kernel⟩, List.mem_of_getElem? (i := 1071) (by decide +kernel), List.mem_of_getElem? (i := 1445) (by decide +kernel), List.mem_of_getElem? (i := 1446) (by decide +kernel)⟩
theorem lw_p51 : lw_okq (⟨"DriverBookModel", "hits", "(III)Z"⟩, 69) := ⟨⟨by decide +kernel, by decide +kernel⟩, List.mem_of_getElem? (i := 1071) (by decide +kernel), List.mem_of_getElem? (i := 1449) (by decide +kernel), List.mem_of_getElem? (i := 1450) (by decide +kernel)⟩
theorem lw_p52 : lw_okq (⟨"DriverBookModel", "bitsOf", "(II)I"⟩, 69) := ⟨⟨by decide +kernel, by decide +kernel⟩, List.mem_of_getElem? (i := 1071) (by decide +kernel), List.mem_of_getElem? (i := 1453) (by decide +kernel), List.mem_of_getElem? (i := 1454) (by decide +kernel)⟩
theorem lw_p53 : lw_okq (⟨"DriverBookModel", "isBroken", "(I)Z"⟩, 69) := ⟨⟨by decide +kernel, by decide +kernel⟩, List.mem_of_getElem? (i := 1071) (by decide +kernel), List.mem_of_getElem? (i := 1457) (by decide +kernel), List.mem_of_getElem? (i := 1458) (by decide +kernel)⟩
theorem lw_p54 : lw_okq (⟨"DriverBookModel", "takes", "(II)V"⟩, 69) := ⟨⟨by decide +kernel, by decide +kernel⟩, List.mem_of_getElem? (i := 1071) (by decide +kernel), List.mem_of_getElem? (i := 1461) (by decide +kernel), List.mem_of_getElem? (i := 1462) (by decide +kernel)⟩
theorem lw_p55 : lw_okq (⟨"DriverBookModel", "polls", "(II)Z"⟩, 69) := ⟨⟨by decide +kernel, by decide +kernel⟩, List.mem_of_getElem? (i := 1071) (by decide +kernel), List.mem_of_getElem? (i := 1465) (by decide +kernel), List.mem_of_getElem? (i := 1466) (by decide +kernel)⟩
theorem lw_p56 : lw_okq (⟨"DriverBookModel", "pauses", "(II)V"⟩, 69) := ⟨⟨by decide +kernel, by decide +kernel⟩, List.mem_of_getElem? (i := 1071) (by decide +kernel), List.mem_of_getElem? (i := 1469) (by decide +kernel), List.mem_of_getElem? (i := 1470) (by decide +kernel)⟩
theorem lw_p57 : lw_okq (⟨"DriverBookModel", "picks", "(II)V"⟩, 69) := ⟨⟨by decide +kernel, by decide +kernel⟩, List.mem_of_getElem? (i := 1071) (by decide +kernel), List.mem_of_getElem? (i := 1473) (by decide +kernel), List.mem_of_getElem? (i := 1474) (by decide +kernel)⟩
theorem lw_p58 : lw_okq (⟨"DriverBookModel", "stores", "(I)V"⟩, 69) := ⟨⟨by decide +kernel, by decide +kernel⟩, List.mem_of_getElem? (i := 1071) (by decide +kernel), List.mem_of_getElem? (i := 1510) (by decide +kernel), List.mem_of_getElem? (i := 1511) (by decide +kernel)⟩
theorem lw_p59 : lw_okq (⟨"DriverBookModel", "brings", "(I)V"⟩, 69) := ⟨⟨by decide +kernel, by decide +kernel⟩, List.mem_of_getElem? (i := 1071) (by decide +kernel), List.mem_of_getElem? (i := 1514) (by decide +kernel), List.mem_of_getElem? (i := 1515) (by decide +kernel)⟩
theorem lw_p60 : lw_okq (⟨"DriverBookModel", "fails", "(IIZI)I"⟩, 69) := ⟨⟨by decide +kernel, by decide +kernel⟩, List.mem_of_getElem? (i := 1071) (by decide +kernel), List.mem_of_getElem? (i := 1518) (by decide +kernel), List.mem_of_getElem? (i := 1519) (by decide +kernel)⟩
theorem lw_p61 : lw_okq (⟨"DriverBookModel", "astray", "(II)I"⟩, 69) := ⟨⟨by decide +kernel, by decide +kernel⟩, List.mem_of_getElem? (i := 1071) (by decide +kernel), List.mem_of_getElem? (i := 1522) (by decide +kernel), List.mem_of_getElem? (i := 1523) (by decide +kernel)⟩
theorem lw_p62 : lw_okq (⟨"DriverBookModel", "setTo", "(II)I"⟩, 69) := ⟨⟨by decide +kernel, by decide +kernel⟩, List.mem_of_getElem? (i := 1071) (by decide +kernel), List.mem_of_getElem? (i := 1526) (by decide +kernel), List.mem_of_getElem? (i := 1527) (by decide +kernel)⟩
theorem lw_p63 : lw_okq (⟨"DriverBookModel", "refuse", "(I)I"⟩, 69) := ⟨⟨by decide +kernel, by decide +kernel⟩, List.mem_of_getElem? (i := 1071) (by decide +kernel), List.mem_of_getElem? (i := 1541) (by decide +kernel), List.mem_of_getElem? (i := 1542) (by decide +kernel)⟩
def lw_privs_4 : List (MethodName × Nat) := [(⟨"DriverBookModel", "puts", "(II)V"⟩, 69), (⟨"DriverBookModel", "writes", "(II)V"⟩, 69), (⟨"DriverBookModel", "judges", "(II)V"⟩, 69), (⟨"DriverBookModel", "hits", "(III)Z"⟩, 69), (⟨"DriverBookModel", "bitsOf", "(II)I"⟩, 69), (⟨"DriverBookModel", "isBroken", "(I)Z"⟩, 69), (⟨"DriverBookModel", "takes", "(II)V"⟩, 69), (⟨"DriverBookModel", "polls", "(II)Z"⟩, 69), (⟨"DriverBookModel", "pauses", "(II)V"⟩, 69), (⟨"DriverBookModel", "picks", "(II)V"⟩, 69), (⟨"DriverBookModel", "stores", "(I)V"⟩, 69), (⟨"DriverBookModel", "brings", "(I)V"⟩, 69), (⟨"DriverBookModel", "fails", "(IIZI)I"⟩, 69), (⟨"DriverBookModel", "astray", "(II)I"⟩, 69), (⟨"DriverBookModel", "setTo", "(II)I"⟩, 69), (⟨"DriverBookModel", "refuse", "(I)I"⟩, 69)]
theorem lw_r4 : ∀ q ∈ lw_privs_4, lw_okq q := List.forall_mem_cons.mpr ⟨lw_p48, List.forall_mem_cons.mpr ⟨lw_p49, List.forall_mem_cons.mpr ⟨lw_p50, List.forall_mem_cons.mpr ⟨lw_p51, List.forall_mem_cons.mpr ⟨lw_p52, List.forall_mem_cons.mpr ⟨lw_p53, List.forall_mem_cons.mpr ⟨lw_p54, List.forall_mem_cons.mpr ⟨lw_p55, List.forall_mem_cons.mpr ⟨lw_p56, List.forall_mem_cons.mpr ⟨lw_p57, List.forall_mem_cons.mpr ⟨lw_p58, List.forall_mem_cons.mpr ⟨lw_p59, List.forall_mem_cons.mpr ⟨lw_p60, List.forall_mem_cons.mpr ⟨lw_p61, List.forall_mem_cons.mpr ⟨lw_p62, List.forall_mem_cons.mpr ⟨lw_p63, fun _ h => absurd h List.not_mem_nil⟩⟩⟩⟩⟩⟩⟩⟩⟩⟩⟩⟩⟩⟩⟩⟩
theorem lw_p64 : lw_okq (⟨"DriverBookModel", "lacks", "(I)I"⟩, 69) := ⟨⟨by decide +kernel, by decide +kernel⟩, List.mem_of_getElem? (i := 1071) (by decide +kernel), List.mem_of_getElem? (i := 1553) (by decide +kernel), List.mem_of_getElem? (i := 1554) (by decide +kernel)⟩
def lw_privs_5 : List (MethodName × Nat) := [(⟨"DriverBookModel", "lacks", "(I)I"⟩, 69)]
theorem lw_r5 : ∀ q ∈ lw_privs_5, lw_okq q := List.forall_mem_cons.mpr ⟨lw_p64, fun _ h => absurd h List.not_mem_nil⟩
def lw_privs : List (MethodName × Nat) := lw_privs_1 ++ (lw_privs_2 ++ (lw_privs_3 ++ (lw_privs_4 ++ (lw_privs_5))))
def lw_tbl : List Cond := k2_sels lw_privs ++ tables_1
theorem lw_privs_ok : ∀ q ∈ lw_privs, lw_okq q := by
  show ∀ q ∈ lw_privs_1 ++ (lw_privs_2 ++ (lw_privs_3 ++ (lw_privs_4 ++ (lw_privs_5)))), lw_okq q
  exact List.forall_mem_append.mpr ⟨lw_r1, List.forall_mem_append.mpr ⟨lw_r2, List.forall_mem_append.mpr ⟨lw_r3, List.forall_mem_append.mpr ⟨lw_r4, lw_r5⟩⟩⟩⟩
end
section
def RX0 : String := "DriverBook$Act"
def TX0 : u_T := fun k => match k with
  | 0 => ("DriverBook$Act", "kinds", "[I", true)
  | 1 => ("DriverBook$Act", "stepFields", "[I", true)
  | 2 => ("DriverBook$Act", "numbers", "[I", true)
  | 3 => ("DriverBook$Act", "limits", "[I", true)
  | 4 => ("DriverBook$Act", "code", "LDriverBook$Code;", true)
  | _ => ("DriverBook$Act", "stepCount", "I", false)
def tyX0 : Nat → FieldType := fun k => match k with
  | 0 => .array .int
  | 1 => .array .int
  | 2 => .array .int
  | 3 => .array .int
  | 4 => .object "DriverBook$Code"
  | _ => .int
abbrev wsX00 : List Cond := u_ws RX0 TX0 6
theorem nmX0 : ∀ a, a < 6 → ∀ b, b < 6 → a ≠ b → (TX0 a).2.1 ≠ (TX0 b).2.1 := by decide +kernel
theorem tyX0_ok : ∀ k, k < 6 → parseFieldDescriptor (TX0 k).2.2.1 = some (tyX0 k) := by decide +kernel
abbrev cX0_init : ByteArray := prog_2_method_1_code
def yX0_init : MethodName := ⟨RX0, "<init>", "()V"⟩
abbrev cX0_append : ByteArray := prog_2_method_2_code
def yX0_append : MethodName := ⟨RX0, "append", "(IIII)I"⟩
abbrev cX0_lastSet : ByteArray := prog_2_method_3_code
def yX0_lastSet : MethodName := ⟨RX0, "lastSet", "(I)I"⟩
def RX1 : String := "DriverBook$Book"
def TX1 : u_T := fun k => match k with
  | 0 => ("DriverBook$Book", "fields", "[LDriverBook$Field;", true)
  | 1 => ("DriverBook$Book", "laws", "[LDriverBook$Law;", true)
  | 2 => ("DriverBook$Book", "acts", "[LDriverBook$Act;", true)
  | 3 => ("DriverBook$Book", "registerCount", "I", false)
  | 4 => ("DriverBook$Book", "fieldCount", "I", false)
  | 5 => ("DriverBook$Book", "lawCount", "I", false)
  | 6 => ("DriverBook$Book", "actCount", "I", false)
  | 7 => ("DriverBook$Book", "locks", "I", false)
  | 8 => ("DriverBook$Book", "age", "I", false)
  | _ => ("DriverBook$Book", "codeIsMade", "Z", false)
def tyX1 : Nat → FieldType := fun k => match k with
  | 0 => .array (.object "DriverBook$Field")
  | 1 => .array (.object "DriverBook$Law")
  | 2 => .array (.object "DriverBook$Act")
  | 3 => .int
  | 4 => .int
  | 5 => .int
  | 6 => .int
  | 7 => .int
  | 8 => .int
  | _ => .boolean
abbrev wsX10 : List Cond := u_ws RX1 TX1 10
theorem nmX1 : ∀ a, a < 10 → ∀ b, b < 10 → a ≠ b → (TX1 a).2.1 ≠ (TX1 b).2.1 := by decide +kernel
theorem tyX1_ok : ∀ k, k < 10 → parseFieldDescriptor (TX1 k).2.2.1 = some (tyX1 k) := by decide +kernel
abbrev cX1_init : ByteArray := prog_3_method_1_code
def yX1_init : MethodName := ⟨RX1, "<init>", "()V"⟩
abbrev cX1_startAnew : ByteArray := prog_3_method_2_code
def yX1_startAnew : MethodName := ⟨RX1, "startAnew", "(I)V"⟩
abbrev cX1_hasRegister : ByteArray := prog_3_method_3_code
def yX1_hasRegister : MethodName := ⟨RX1, "hasRegister", "(I)Z"⟩
abbrev cX1_hasField : ByteArray := prog_3_method_4_code
def yX1_hasField : MethodName := ⟨RX1, "hasField", "(I)Z"⟩
abbrev cX1_hasAct : ByteArray := prog_3_method_5_code
def yX1_hasAct : MethodName := ⟨RX1, "hasAct", "(I)Z"⟩
abbrev cX1_hasHandlers : ByteArray := prog_3_method_6_code
def yX1_hasHandlers : MethodName := ⟨RX1, "hasHandlers", "()Z"⟩
abbrev cX1_tellField : ByteArray := prog_3_method_7_code
def yX1_tellField : MethodName := ⟨RX1, "tellField", "(IIIII)I"⟩
abbrev cX1_tellLaw : ByteArray := prog_3_method_8_code
def yX1_tellLaw : MethodName := ⟨RX1, "tellLaw", "(IIII)I"⟩
abbrev cX1_changePeriod : ByteArray := prog_3_method_9_code
def yX1_changePeriod : MethodName := ⟨RX1, "changePeriod", "(II)I"⟩
abbrev cX1_changeDone : ByteArray := prog_3_method_10_code
def yX1_changeDone : MethodName := ⟨RX1, "changeDone", "(II)I"⟩
abbrev cX1_changeHandler : ByteArray := prog_3_method_11_code
def yX1_changeHandler : MethodName := ⟨RX1, "changeHandler", "(II)I"⟩
abbrev cX1_changeLocks : ByteArray := prog_3_method_12_code
def yX1_changeLocks : MethodName := ⟨RX1, "changeLocks", "(I)I"⟩
abbrev cX1_tellAct : ByteArray := prog_3_method_13_code
def yX1_tellAct : MethodName := ⟨RX1, "tellAct", "()I"⟩
abbrev cX1_tellStep : ByteArray := prog_3_method_14_code
def yX1_tellStep : MethodName := ⟨RX1, "tellStep", "(IIIII)I"⟩
abbrev cX1_dropSteps : ByteArray := prog_3_method_15_code
def yX1_dropSteps : MethodName := ⟨RX1, "dropSteps", "(I)I"⟩
abbrev cX1_bitsOfAll : ByteArray := prog_3_method_16_code
def yX1_bitsOfAll : MethodName := ⟨RX1, "bitsOfAll", "(I)I"⟩
abbrev cX1_bitsOfKept : ByteArray := prog_3_method_17_code
def yX1_bitsOfKept : MethodName := ⟨RX1, "bitsOfKept", "(I)I"⟩
abbrev cX1_isShadowed : ByteArray := prog_3_method_18_code
def yX1_isShadowed : MethodName := ⟨RX1, "isShadowed", "(I)Z"⟩
abbrev cX1_isBound : ByteArray := prog_3_method_19_code
def yX1_isBound : MethodName := ⟨RX1, "isBound", "(II)Z"⟩
abbrev cX1_makeCode : ByteArray := prog_3_method_20_code
def yX1_makeCode : MethodName := ⟨RX1, "makeCode", "()V"⟩
def RX2 : String := "DriverBook$Chip"
def TX2 : u_T := fun k => match k with
  | 0 => ("DriverBook$Chip", "book", "LDriverBook$Book;", true)
  | 1 => ("DriverBook$Chip", "state", "LDriverBook$State;", true)
  | 2 => ("DriverBook$Chip", "fieldsIn", "[[I", true)
  | 3 => ("DriverBook$Chip", "fieldsInCount", "[I", true)
  | 4 => ("DriverBook$Chip", "keptBits", "[I", true)
  | 5 => ("DriverBook$Chip", "pulses", "[I", true)
  | _ => ("DriverBook$Chip", "pulseCount", "I", false)
def tyX2 : Nat → FieldType := fun k => match k with
  | 0 => .object "DriverBook$Book"
  | 1 => .object "DriverBook$State"
  | 2 => .array (.array .int)
  | 3 => .array .int
  | 4 => .array .int
  | 5 => .array .int
  | _ => .int
abbrev wsX20 : List Cond := u_ws RX2 TX2 7
theorem nmX2 : ∀ a, a < 7 → ∀ b, b < 7 → a ≠ b → (TX2 a).2.1 ≠ (TX2 b).2.1 := by decide +kernel
theorem tyX2_ok : ∀ k, k < 7 → parseFieldDescriptor (TX2 k).2.2.1 = some (tyX2 k) := by decide +kernel
abbrev cX2_init : ByteArray := prog_4_method_1_code
def yX2_init : MethodName := ⟨RX2, "<init>", "(LDriverBook$Book;LDriverBook$State;)V"⟩
abbrev cX2_powerUp : ByteArray := prog_4_method_2_code
def yX2_powerUp : MethodName := ⟨RX2, "powerUp", "()V"⟩
abbrev cX2_sortIn : ByteArray := prog_4_method_3_code
def yX2_sortIn : MethodName := ⟨RX2, "sortIn", "(ILDriverBook$Field;)V"⟩
abbrev cX2_tick : ByteArray := prog_4_method_4_code
def yX2_tick : MethodName := ⟨RX2, "tick", "()V"⟩
abbrev cX2_endPulse : ByteArray := prog_4_method_5_code
def yX2_endPulse : MethodName := ⟨RX2, "endPulse", "(I)V"⟩
abbrev cX2_fireEvents : ByteArray := prog_4_method_6_code
def yX2_fireEvents : MethodName := ⟨RX2, "fireEvents", "()V"⟩
abbrev cX2_readRegister : ByteArray := prog_4_method_7_code
def yX2_readRegister : MethodName := ⟨RX2, "readRegister", "(IZ)I"⟩
abbrev cX2_writeRegister : ByteArray := prog_4_method_8_code
def yX2_writeRegister : MethodName := ⟨RX2, "writeRegister", "(II)V"⟩
abbrev cX2_hitsOf : ByteArray := prog_4_method_9_code
def yX2_hitsOf : MethodName := ⟨RX2, "hitsOf", "(II)I"⟩
abbrev cX2_isHit : ByteArray := prog_4_method_10_code
def yX2_isHit : MethodName := ⟨RX2, "isHit", "(II)Z"⟩
abbrev cX2_lookAtLaws : ByteArray := prog_4_method_11_code
def yX2_lookAtLaws : MethodName := ⟨RX2, "lookAtLaws", "(I)V"⟩
abbrev cX2_isBroken : ByteArray := prog_4_method_12_code
def yX2_isBroken : MethodName := ⟨RX2, "isBroken", "(LDriverBook$Law;)Z"⟩
abbrev cX2_writeField : ByteArray := prog_4_method_13_code
def yX2_writeField : MethodName := ⟨RX2, "writeField", "(II)V"⟩
abbrev cX2_loadHeld : ByteArray := prog_4_method_14_code
def yX2_loadHeld : MethodName := ⟨RX2, "loadHeld", "()V"⟩
def RX3 : String := "DriverBook$Code"
def TX3 : u_T := fun k => match k with
  | 0 => ("DriverBook$Code", "parts", "[I", true)
  | 1 => ("DriverBook$Code", "size", "I", false)
  | 2 => ("DriverBook$Code", "groupSet", "I", false)
  | 3 => ("DriverBook$Code", "groupRegister", "I", false)
  | 4 => ("DriverBook$Code", "groupMask", "I", false)
  | _ => ("DriverBook$Code", "groupBits", "I", false)
def tyX3 : Nat → FieldType := fun k => match k with
  | 0 => .array .int
  | 1 => .int
  | 2 => .int
  | 3 => .int
  | 4 => .int
  | _ => .int
abbrev wsX30 : List Cond := u_ws RX3 TX3 6
theorem nmX3 : ∀ a, a < 6 → ∀ b, b < 6 → a ≠ b → (TX3 a).2.1 ≠ (TX3 b).2.1 := by decide +kernel
theorem tyX3_ok : ∀ k, k < 6 → parseFieldDescriptor (TX3 k).2.2.1 = some (tyX3 k) := by decide +kernel
abbrev cX3_init : ByteArray := prog_5_method_1_code
def yX3_init : MethodName := ⟨RX3, "<init>", "()V"⟩
abbrev cX3_part : ByteArray := prog_5_method_2_code
def yX3_part : MethodName := ⟨RX3, "part", "(II)I"⟩
abbrev cX3_isLike : ByteArray := prog_5_method_3_code
def yX3_isLike : MethodName := ⟨RX3, "isLike", "(LDriverBook$Code;)Z"⟩
abbrev cX3_makeFrom : ByteArray := prog_5_method_4_code
def yX3_makeFrom : MethodName := ⟨RX3, "makeFrom", "(LDriverBook$Act;LDriverBook$Book;)V"⟩
abbrev cX3_joinsGroup : ByteArray := prog_5_method_5_code
def yX3_joinsGroup : MethodName := ⟨RX3, "joinsGroup", "(ILDriverBook$Book;)Z"⟩
abbrev cX3_join : ByteArray := prog_5_method_6_code
def yX3_join : MethodName := ⟨RX3, "join", "(IILDriverBook$Book;)V"⟩
abbrev cX3_endGroup : ByteArray := prog_5_method_7_code
def yX3_endGroup : MethodName := ⟨RX3, "endGroup", "(LDriverBook$Book;)V"⟩
abbrev cX3_addReadAndWrite : ByteArray := prog_5_method_8_code
def yX3_addReadAndWrite : MethodName := ⟨RX3, "addReadAndWrite", "(IIZ)V"⟩
abbrev cX3_addStep : ByteArray := prog_5_method_9_code
def yX3_addStep : MethodName := ⟨RX3, "addStep", "(LDriverBook$Act;ILDriverBook$Book;)V"⟩
abbrev cX3_add : ByteArray := prog_5_method_10_code
def yX3_add : MethodName := ⟨RX3, "add", "(IIIIII)V"⟩
def RX4 : String := "DriverBook$Course"
def TX4 : u_T := fun k => match k with
  | 0 => ("DriverBook$Course", "at", "I", false)
  | 1 => ("DriverBook$Course", "beats", "I", false)
  | 2 => ("DriverBook$Course", "acc", "I", false)
  | _ => ("DriverBook$Course", "timedOut", "Z", false)
def tyX4 : Nat → FieldType := fun k => match k with
  | 0 => .int
  | 1 => .int
  | 2 => .int
  | _ => .boolean
abbrev wsX40 : List Cond := u_ws RX4 TX4 4
theorem nmX4 : ∀ a, a < 4 → ∀ b, b < 4 → a ≠ b → (TX4 a).2.1 ≠ (TX4 b).2.1 := by decide +kernel
theorem tyX4_ok : ∀ k, k < 4 → parseFieldDescriptor (TX4 k).2.2.1 = some (tyX4 k) := by decide +kernel
abbrev cX4_init : ByteArray := prog_6_method_1_code
def yX4_init : MethodName := ⟨RX4, "<init>", "()V"⟩
abbrev cX4_start : ByteArray := prog_6_method_2_code
def yX4_start : MethodName := ⟨RX4, "start", "()V"⟩
abbrev cX4_goesOn : ByteArray := prog_6_method_3_code
def yX4_goesOn : MethodName := ⟨RX4, "goesOn", "(LDriverBook$Code;)Z"⟩
abbrev cX4_next : ByteArray := prog_6_method_4_code
def yX4_next : MethodName := ⟨RX4, "next", "()V"⟩
def RX5 : String := "DriverBook$Driver"
def TX5 : u_T := fun k => match k with
  | 0 => ("DriverBook$Driver", "book", "LDriverBook$Book;", true)
  | 1 => ("DriverBook$Driver", "state", "LDriverBook$State;", true)
  | 2 => ("DriverBook$Driver", "chip", "LDriverBook$Chip;", true)
  | 3 => ("DriverBook$Driver", "actCourse", "LDriverBook$Course;", true)
  | 4 => ("DriverBook$Driver", "handlerCourse", "LDriverBook$Course;", true)
  | _ => ("DriverBook$Driver", "locked", "Z", false)
def tyX5 : Nat → FieldType := fun k => match k with
  | 0 => .object "DriverBook$Book"
  | 1 => .object "DriverBook$State"
  | 2 => .object "DriverBook$Chip"
  | 3 => .object "DriverBook$Course"
  | 4 => .object "DriverBook$Course"
  | _ => .boolean
abbrev wsX50 : List Cond := u_ws RX5 TX5 6
theorem nmX5 : ∀ a, a < 6 → ∀ b, b < 6 → a ≠ b → (TX5 a).2.1 ≠ (TX5 b).2.1 := by decide +kernel
theorem tyX5_ok : ∀ k, k < 6 → parseFieldDescriptor (TX5 k).2.2.1 = some (tyX5 k) := by decide +kernel
abbrev cX5_init : ByteArray := prog_7_method_1_code
def yX5_init : MethodName := ⟨RX5, "<init>", "(LDriverBook$Book;LDriverBook$State;LDriverBook$Chip;)V"⟩
abbrev cX5_runAct : ByteArray := prog_7_method_2_code
def yX5_runAct : MethodName := ⟨RX5, "runAct", "(I)Z"⟩
abbrev cX5_serve : ByteArray := prog_7_method_3_code
def yX5_serve : MethodName := ⟨RX5, "serve", "()V"⟩
abbrev cX5_calledAct : ByteArray := prog_7_method_4_code
def yX5_calledAct : MethodName := ⟨RX5, "calledAct", "()I"⟩
abbrev cX5_beat : ByteArray := prog_7_method_5_code
def yX5_beat : MethodName := ⟨RX5, "beat", "(LDriverBook$Code;LDriverBook$Course;)V"⟩
abbrev cX5_numberToWrite : ByteArray := prog_7_method_6_code
def yX5_numberToWrite : MethodName := ⟨RX5, "numberToWrite", "(LDriverBook$Code;LDriverBook$Course;)I"⟩
abbrev cX5_endPollBeat : ByteArray := prog_7_method_7_code
def yX5_endPollBeat : MethodName := ⟨RX5, "endPollBeat", "(LDriverBook$Code;LDriverBook$Course;)V"⟩
abbrev cX5_pick : ByteArray := prog_7_method_8_code
def yX5_pick : MethodName := ⟨RX5, "pick", "(II)V"⟩
def RX6 : String := "DriverBook$Field"
def TX6 : u_T := fun k => match k with
  | 0 => ("DriverBook$Field", "register", "I", false)
  | 1 => ("DriverBook$Field", "low", "I", false)
  | 2 => ("DriverBook$Field", "width", "I", false)
  | 3 => ("DriverBook$Field", "kind", "I", false)
  | 4 => ("DriverBook$Field", "reset", "I", false)
  | 5 => ("DriverBook$Field", "ones", "I", false)
  | 6 => ("DriverBook$Field", "mask", "I", false)
  | 7 => ("DriverBook$Field", "period", "I", false)
  | 8 => ("DriverBook$Field", "done", "I", false)
  | _ => ("DriverBook$Field", "handler", "I", false)
def tyX6 : Nat → FieldType := fun k => match k with
  | 0 => .int
  | 1 => .int
  | 2 => .int
  | 3 => .int
  | 4 => .int
  | 5 => .int
  | 6 => .int
  | 7 => .int
  | 8 => .int
  | _ => .int
abbrev wsX60 : List Cond := u_ws RX6 TX6 10
theorem nmX6 : ∀ a, a < 10 → ∀ b, b < 10 → a ≠ b → (TX6 a).2.1 ≠ (TX6 b).2.1 := by decide +kernel
theorem tyX6_ok : ∀ k, k < 10 → parseFieldDescriptor (TX6 k).2.2.1 = some (tyX6 k) := by decide +kernel
abbrev cX6_init : ByteArray := prog_8_method_1_code
def yX6_init : MethodName := ⟨RX6, "<init>", "()V"⟩
abbrev cX6_bitsIn : ByteArray := prog_8_method_2_code
def yX6_bitsIn : MethodName := ⟨RX6, "bitsIn", "(I)I"⟩
abbrev cX6_isKept : ByteArray := prog_8_method_3_code
def yX6_isKept : MethodName := ⟨RX6, "isKept", "()Z"⟩
def RX7 : String := "DriverBook$Law"
def TX7 : u_T := fun k => match k with
  | 0 => ("DriverBook$Law", "kind", "I", false)
  | 1 => ("DriverBook$Law", "f", "I", false)
  | 2 => ("DriverBook$Law", "g", "I", false)
  | _ => ("DriverBook$Law", "v", "I", false)
def tyX7 : Nat → FieldType := fun k => match k with
  | 0 => .int
  | 1 => .int
  | 2 => .int
  | _ => .int
abbrev wsX70 : List Cond := u_ws RX7 TX7 4
theorem nmX7 : ∀ a, a < 4 → ∀ b, b < 4 → a ≠ b → (TX7 a).2.1 ≠ (TX7 b).2.1 := by decide +kernel
theorem tyX7_ok : ∀ k, k < 4 → parseFieldDescriptor (TX7 k).2.2.1 = some (tyX7 k) := by decide +kernel
abbrev cX7_init : ByteArray := prog_9_method_1_code
def yX7_init : MethodName := ⟨RX7, "<init>", "()V"⟩
abbrev cX7_binds : ByteArray := prog_9_method_2_code
def yX7_binds : MethodName := ⟨RX7, "binds", "(II)Z"⟩
def RX8 : String := "DriverBook$State"
def TX8 : u_T := fun k => match k with
  | 0 => ("DriverBook$State", "value", "[I", true)
  | 1 => ("DriverBook$State", "pending", "[I", true)
  | 2 => ("DriverBook$State", "timer", "[I", true)
  | 3 => ("DriverBook$State", "soft", "[I", true)
  | 4 => ("DriverBook$State", "lastHit", "[I", true)
  | 5 => ("DriverBook$State", "shadow", "[I", true)
  | 6 => ("DriverBook$State", "eventField", "[I", true)
  | 7 => ("DriverBook$State", "eventValue", "[I", true)
  | 8 => ("DriverBook$State", "eventTick", "[I", true)
  | 9 => ("DriverBook$State", "eventCount", "I", false)
  | 10 => ("DriverBook$State", "now", "I", false)
  | 11 => ("DriverBook$State", "result", "I", false)
  | 12 => ("DriverBook$State", "served", "I", false)
  | 13 => ("DriverBook$State", "breakCount", "I", false)
  | 14 => ("DriverBook$State", "firstLaw", "I", false)
  | _ => ("DriverBook$State", "firstNow", "I", false)
def tyX8 : Nat → FieldType := fun k => match k with
  | 0 => .array .int
  | 1 => .array .int
  | 2 => .array .int
  | 3 => .array .int
  | 4 => .array .int
  | 5 => .array .int
  | 6 => .array .int
  | 7 => .array .int
  | 8 => .array .int
  | 9 => .int
  | 10 => .int
  | 11 => .int
  | 12 => .int
  | 13 => .int
  | 14 => .int
  | _ => .int
abbrev wsX80 : List Cond := u_ws RX8 TX8 16
theorem nmX8 : ∀ a, a < 16 → ∀ b, b < 16 → a ≠ b → (TX8 a).2.1 ≠ (TX8 b).2.1 := by decide +kernel
theorem tyX8_ok : ∀ k, k < 16 → parseFieldDescriptor (TX8 k).2.2.1 = some (tyX8 k) := by decide +kernel
abbrev cX8_init : ByteArray := prog_10_method_1_code
def yX8_init : MethodName := ⟨RX8, "<init>", "()V"⟩
abbrev cX8_blank : ByteArray := prog_10_method_2_code
def yX8_blank : MethodName := ⟨RX8, "blank", "()V"⟩
abbrev cX8_takeFrom : ByteArray := prog_10_method_3_code
def yX8_takeFrom : MethodName := ⟨RX8, "takeFrom", "(LDriverBook$State;)V"⟩
abbrev cX8_tellEvent : ByteArray := prog_10_method_4_code
def yX8_tellEvent : MethodName := ⟨RX8, "tellEvent", "(III)V"⟩
abbrev cX8_countBreak : ByteArray := prog_10_method_5_code
def yX8_countBreak : MethodName := ⟨RX8, "countBreak", "(I)V"⟩
def RX9 : String := "DriverBook$Tape"
def TX9 : u_T := fun k => match k with
  | 0 => ("DriverBook$Tape", "sort", "I", false)
  | 1 => ("DriverBook$Tape", "length", "I", false)
  | 2 => ("DriverBook$Tape", "row", "[J", true)
  | 3 => ("DriverBook$Tape", "image", "LDriverBook$State;", true)
  | _ => ("DriverBook$Tape", "age", "I", false)
def tyX9 : Nat → FieldType := fun k => match k with
  | 0 => .int
  | 1 => .int
  | 2 => .array .long
  | 3 => .object "DriverBook$State"
  | _ => .int
abbrev wsX90 : List Cond := u_ws RX9 TX9 5
theorem nmX9 : ∀ a, a < 5 → ∀ b, b < 5 → a ≠ b → (TX9 a).2.1 ≠ (TX9 b).2.1 := by decide +kernel
theorem tyX9_ok : ∀ k, k < 5 → parseFieldDescriptor (TX9 k).2.2.1 = some (tyX9 k) := by decide +kernel
abbrev cX9_init : ByteArray := prog_11_method_1_code
def yX9_init : MethodName := ⟨RX9, "<init>", "()V"⟩
abbrev cX9_takeRow : ByteArray := prog_11_method_2_code
def yX9_takeRow : MethodName := ⟨RX9, "takeRow", "(II)V"⟩
abbrev cX9_takeImage : ByteArray := prog_11_method_3_code
def yX9_takeImage : MethodName := ⟨RX9, "takeImage", "(LDriverBook$State;I)V"⟩
abbrev cX9_holdsRow : ByteArray := prog_11_method_4_code
def yX9_holdsRow : MethodName := ⟨RX9, "holdsRow", "()Z"⟩
abbrev cX9_hasPlace : ByteArray := prog_11_method_5_code
def yX9_hasPlace : MethodName := ⟨RX9, "hasPlace", "(I)Z"⟩
abbrev cX9_hasPlaces : ByteArray := prog_11_method_6_code
def yX9_hasPlaces : MethodName := ⟨RX9, "hasPlaces", "(II)Z"⟩
abbrev cX9_narrowed : ByteArray := prog_11_method_7_code
def yX9_narrowed : MethodName := ⟨RX9, "narrowed", "(J)J"⟩
abbrev cX9_throwFailure : ByteArray := prog_11_method_8_code
def yX9_throwFailure : MethodName := ⟨RX9, "throwFailure", "()V"⟩
def RX10 : String := "DriverBook$Walker"
def TX10 : u_T := fun k => match k with
  | 0 => ("DriverBook$Walker", "book", "LDriverBook$Book;", true)
  | 1 => ("DriverBook$Walker", "state", "LDriverBook$State;", true)
  | 2 => ("DriverBook$Walker", "driver", "LDriverBook$Driver;", true)
  | 3 => ("DriverBook$Walker", "start", "LDriverBook$State;", true)
  | 4 => ("DriverBook$Walker", "byAct", "[I", true)
  | 5 => ("DriverBook$Walker", "byHandler", "[I", true)
  | 6 => ("DriverBook$Walker", "rule", "I", false)
  | _ => ("DriverBook$Walker", "ruleField", "I", false)
def tyX10 : Nat → FieldType := fun k => match k with
  | 0 => .object "DriverBook$Book"
  | 1 => .object "DriverBook$State"
  | 2 => .object "DriverBook$Driver"
  | 3 => .object "DriverBook$State"
  | 4 => .array .int
  | 5 => .array .int
  | 6 => .int
  | _ => .int
abbrev wsX100 : List Cond := u_ws RX10 TX10 8
theorem nmX10 : ∀ a, a < 8 → ∀ b, b < 8 → a ≠ b → (TX10 a).2.1 ≠ (TX10 b).2.1 := by decide +kernel
theorem tyX10_ok : ∀ k, k < 8 → parseFieldDescriptor (TX10 k).2.2.1 = some (tyX10 k) := by decide +kernel
abbrev cX10_init : ByteArray := prog_12_method_1_code
def yX10_init : MethodName := ⟨RX10, "<init>", "(LDriverBook$Book;LDriverBook$State;LDriverBook$Driver;)V"⟩
abbrev cX10_forget : ByteArray := prog_12_method_2_code
def yX10_forget : MethodName := ⟨RX10, "forget", "()V"⟩
abbrev cX10_keepStart : ByteArray := prog_12_method_3_code
def yX10_keepStart : MethodName := ⟨RX10, "keepStart", "()V"⟩
abbrev cX10_restoreStart : ByteArray := prog_12_method_4_code
def yX10_restoreStart : MethodName := ⟨RX10, "restoreStart", "()V"⟩
abbrev cX10_firstUnwell : ByteArray := prog_12_method_5_code
def yX10_firstUnwell : MethodName := ⟨RX10, "firstUnwell", "(II)I"⟩
abbrev cX10_noteSets : ByteArray := prog_12_method_6_code
def yX10_noteSets : MethodName := ⟨RX10, "noteSets", "(LDriverBook$Act;LDriverBook$Act;)V"⟩
abbrev cX10_brokenRule : ByteArray := prog_12_method_7_code
def yX10_brokenRule : MethodName := ⟨RX10, "brokenRule", "(ZI)I"⟩
abbrev cX10_wrongField : ByteArray := prog_12_method_8_code
def yX10_wrongField : MethodName := ⟨RX10, "wrongField", "()I"⟩
abbrev cX10_isRight : ByteArray := prog_12_method_9_code
def yX10_isRight : MethodName := ⟨RX10, "isRight", "(I)Z"⟩
def RX11 : String := "DriverBook"
def TX11 : u_T := fun k => match k with
  | 0 => ("DriverBook", "book", "LDriverBook$Book;", true)
  | 1 => ("DriverBook", "state", "LDriverBook$State;", true)
  | 2 => ("DriverBook", "chip", "LDriverBook$Chip;", true)
  | 3 => ("DriverBook", "driver", "LDriverBook$Driver;", true)
  | 4 => ("DriverBook", "walker", "LDriverBook$Walker;", true)
  | 5 => ("DriverBook", "tapes", "[LDriverBook$Tape;", true)
  | _ => ("DriverBook", "hostRefusals", "I", false)
def tyX11 : Nat → FieldType := fun k => match k with
  | 0 => .object "DriverBook$Book"
  | 1 => .object "DriverBook$State"
  | 2 => .object "DriverBook$Chip"
  | 3 => .object "DriverBook$Driver"
  | 4 => .object "DriverBook$Walker"
  | 5 => .array (.object "DriverBook$Tape")
  | _ => .int
abbrev wsX110 : List Cond := u_ws RX11 TX11 7
theorem nmX11 : ∀ a, a < 7 → ∀ b, b < 7 → a ≠ b → (TX11 a).2.1 ≠ (TX11 b).2.1 := by decide +kernel
theorem tyX11_ok : ∀ k, k < 7 → parseFieldDescriptor (TX11 k).2.2.1 = some (tyX11 k) := by decide +kernel
abbrev cX11_init : ByteArray := prog_1_method_1_code
def yX11_init : MethodName := ⟨RX11, "<init>", "()V"⟩
abbrev cX11_begin : ByteArray := prog_1_method_2_code
def yX11_begin : MethodName := ⟨RX11, "begin", "(I)I"⟩
abbrev cX11_field : ByteArray := prog_1_method_3_code
def yX11_field : MethodName := ⟨RX11, "field", "(IIIII)I"⟩
abbrev cX11_period : ByteArray := prog_1_method_4_code
def yX11_period : MethodName := ⟨RX11, "period", "(II)I"⟩
abbrev cX11_done : ByteArray := prog_1_method_5_code
def yX11_done : MethodName := ⟨RX11, "done", "(II)I"⟩
abbrev cX11_law : ByteArray := prog_1_method_6_code
def yX11_law : MethodName := ⟨RX11, "law", "(IIII)I"⟩
abbrev cX11_act : ByteArray := prog_1_method_7_code
def yX11_act : MethodName := ⟨RX11, "act", "()I"⟩
abbrev cX11_step : ByteArray := prog_1_method_8_code
def yX11_step : MethodName := ⟨RX11, "step", "(IIIII)I"⟩
abbrev cX11_bare : ByteArray := prog_1_method_9_code
def yX11_bare : MethodName := ⟨RX11, "bare", "(I)I"⟩
abbrev cX11_handler : ByteArray := prog_1_method_10_code
def yX11_handler : MethodName := ⟨RX11, "handler", "(II)I"⟩
abbrev cX11_locks : ByteArray := prog_1_method_11_code
def yX11_locks : MethodName := ⟨RX11, "locks", "(I)I"⟩
abbrev cX11_code : ByteArray := prog_1_method_12_code
def yX11_code : MethodName := ⟨RX11, "code", "(I)I"⟩
abbrev cX11_op : ByteArray := prog_1_method_13_code
def yX11_op : MethodName := ⟨RX11, "op", "(III)I"⟩
abbrev cX11_same : ByteArray := prog_1_method_14_code
def yX11_same : MethodName := ⟨RX11, "same", "(II)I"⟩
abbrev cX11_power : ByteArray := prog_1_method_15_code
def yX11_power : MethodName := ⟨RX11, "power", "()I"⟩
abbrev cX11_event : ByteArray := prog_1_method_16_code
def yX11_event : MethodName := ⟨RX11, "event", "(III)I"⟩
abbrev cX11_run : ByteArray := prog_1_method_17_code
def yX11_run : MethodName := ⟨RX11, "run", "(I)I"⟩
abbrev cX11_read : ByteArray := prog_1_method_18_code
def yX11_read : MethodName := ⟨RX11, "read", "(I)I"⟩
abbrev cX11_write : ByteArray := prog_1_method_19_code
def yX11_write : MethodName := ⟨RX11, "write", "(II)I"⟩
abbrev cX11_wait : ByteArray := prog_1_method_20_code
def yX11_wait : MethodName := ⟨RX11, "wait", "(I)I"⟩
abbrev cX11_peek : ByteArray := prog_1_method_21_code
def yX11_peek : MethodName := ⟨RX11, "peek", "(II)I"⟩
abbrev cX11_shadow : ByteArray := prog_1_method_22_code
def yX11_shadow : MethodName := ⟨RX11, "shadow", "(I)I"⟩
abbrev cX11_result : ByteArray := prog_1_method_23_code
def yX11_result : MethodName := ⟨RX11, "result", "()I"⟩
abbrev cX11_breaks : ByteArray := prog_1_method_24_code
def yX11_breaks : MethodName := ⟨RX11, "breaks", "(I)I"⟩
abbrev cX11_walk : ByteArray := prog_1_method_25_code
def yX11_walk : MethodName := ⟨RX11, "walk", "(II)I"⟩
abbrev cX11_why : ByteArray := prog_1_method_26_code
def yX11_why : MethodName := ⟨RX11, "why", "(I)I"⟩
abbrev cX11_tape : ByteArray := prog_1_method_27_code
def yX11_tape : MethodName := ⟨RX11, "tape", "(III)I"⟩
abbrev cX11_image : ByteArray := prog_1_method_28_code
def yX11_image : MethodName := ⟨RX11, "image", "(I)I"⟩
abbrev cX11_back : ByteArray := prog_1_method_29_code
def yX11_back : MethodName := ⟨RX11, "back", "(I)I"⟩
abbrev cX11_toss : ByteArray := prog_1_method_30_code
def yX11_toss : MethodName := ⟨RX11, "toss", "(I)I"⟩
abbrev cX11_play : ByteArray := prog_1_method_31_code
def yX11_play : MethodName := ⟨RX11, "play", "(III)I"⟩
abbrev cX11_clear : ByteArray := prog_1_method_32_code
def yX11_clear : MethodName := ⟨RX11, "clear", "(I)I"⟩
abbrev cX11_put : ByteArray := prog_1_method_33_code
def yX11_put : MethodName := ⟨RX11, "put", "(IIJ)I"⟩
abbrev cX11_at : ByteArray := prog_1_method_34_code
def yX11_at : MethodName := ⟨RX11, "at", "(II)J"⟩
abbrev cX11_copy : ByteArray := prog_1_method_35_code
def yX11_copy : MethodName := ⟨RX11, "copy", "(IIIII)I"⟩
abbrev cX11_count : ByteArray := prog_1_method_36_code
def yX11_count : MethodName := ⟨RX11, "count", "(I)I"⟩
abbrev cX11_fits : ByteArray := prog_1_method_37_code
def yX11_fits : MethodName := ⟨RX11, "fits", "(II)Z"⟩
abbrev cX11_isIn : ByteArray := prog_1_method_38_code
def yX11_isIn : MethodName := ⟨RX11, "isIn", "(II)Z"⟩
abbrev cX11_isTape : ByteArray := prog_1_method_39_code
def yX11_isTape : MethodName := ⟨RX11, "isTape", "(I)Z"⟩
abbrev cX11_hostRefuses : ByteArray := prog_1_method_40_code
def yX11_hostRefuses : MethodName := ⟨RX11, "hostRefuses", "(I)I"⟩
abbrev cX11_isStepNumber : ByteArray := prog_1_method_41_code
def yX11_isStepNumber : MethodName := ⟨RX11, "isStepNumber", "(III)Z"⟩
abbrev cX11_allowsStep : ByteArray := prog_1_method_42_code
def yX11_allowsStep : MethodName := ⟨RX11, "allowsStep", "(II)Z"⟩
def RX12 : String := "DriverBookModel"
def TX12 : u_T := fun k => match k with
  | 0 => ("DriverBookModel", "thrown", "I", false)
  | 1 => ("DriverBookModel", "registers", "I", false)
  | 2 => ("DriverBookModel", "fields", "I", false)
  | 3 => ("DriverBookModel", "register", "[I", true)
  | 4 => ("DriverBookModel", "low", "[I", true)
  | 5 => ("DriverBookModel", "width", "[I", true)
  | 6 => ("DriverBookModel", "kind", "[I", true)
  | 7 => ("DriverBookModel", "reset", "[I", true)
  | 8 => ("DriverBookModel", "period", "[I", true)
  | 9 => ("DriverBookModel", "done", "[I", true)
  | 10 => ("DriverBookModel", "handler", "[I", true)
  | 11 => ("DriverBookModel", "laws", "I", false)
  | 12 => ("DriverBookModel", "lawKind", "[I", true)
  | 13 => ("DriverBookModel", "lawF", "[I", true)
  | 14 => ("DriverBookModel", "lawG", "[I", true)
  | 15 => ("DriverBookModel", "lawV", "[I", true)
  | 16 => ("DriverBookModel", "acts", "I", false)
  | 17 => ("DriverBookModel", "steps", "[I", true)
  | 18 => ("DriverBookModel", "stepKind", "[I", true)
  | 19 => ("DriverBookModel", "stepField", "[I", true)
  | 20 => ("DriverBookModel", "stepV", "[I", true)
  | 21 => ("DriverBookModel", "stepLimit", "[I", true)
  | 22 => ("DriverBookModel", "locksOn", "I", false)
  | 23 => ("DriverBookModel", "now", "I", false)
  | 24 => ("DriverBookModel", "value", "[I", true)
  | 25 => ("DriverBookModel", "pending", "[I", true)
  | 26 => ("DriverBookModel", "timer", "[I", true)
  | 27 => ("DriverBookModel", "soft", "[I", true)
  | 28 => ("DriverBookModel", "hit", "[I", true)
  | 29 => ("DriverBookModel", "shadow", "[I", true)
  | 30 => ("DriverBookModel", "events", "I", false)
  | 31 => ("DriverBookModel", "eventField", "[I", true)
  | 32 => ("DriverBookModel", "eventV", "[I", true)
  | 33 => ("DriverBookModel", "eventTick", "[I", true)
  | 34 => ("DriverBookModel", "breaks", "I", false)
  | 35 => ("DriverBookModel", "breakLaw", "I", false)
  | 36 => ("DriverBookModel", "breakNow", "I", false)
  | 37 => ("DriverBookModel", "served", "I", false)
  | 38 => ("DriverBookModel", "result", "I", false)
  | 39 => ("DriverBookModel", "sNow", "[I", true)
  | 40 => ("DriverBookModel", "sValue", "[I", true)
  | 41 => ("DriverBookModel", "sPending", "[I", true)
  | 42 => ("DriverBookModel", "sTimer", "[I", true)
  | 43 => ("DriverBookModel", "sSoft", "[I", true)
  | 44 => ("DriverBookModel", "sHit", "[I", true)
  | 45 => ("DriverBookModel", "sShadow", "[I", true)
  | 46 => ("DriverBookModel", "sEvents", "[I", true)
  | 47 => ("DriverBookModel", "sField", "[I", true)
  | 48 => ("DriverBookModel", "sV", "[I", true)
  | 49 => ("DriverBookModel", "sTick", "[I", true)
  | 50 => ("DriverBookModel", "sBreaks", "[I", true)
  | 51 => ("DriverBookModel", "sLaw", "[I", true)
  | 52 => ("DriverBookModel", "sBreakNow", "[I", true)
  | 53 => ("DriverBookModel", "sServed", "[I", true)
  | 54 => ("DriverBookModel", "sResult", "[I", true)
  | 55 => ("DriverBookModel", "version", "I", false)
  | 56 => ("DriverBookModel", "sVersion", "[I", true)
  | 57 => ("DriverBookModel", "whyWhich", "I", false)
  | 58 => ("DriverBookModel", "whyField", "I", false)
  | 59 => ("DriverBookModel", "sort", "[I", true)
  | 60 => ("DriverBookModel", "size", "[I", true)
  | 61 => ("DriverBookModel", "cells", "[J", true)
  | 62 => ("DriverBookModel", "refusals", "I", false)
  | 63 => ("DriverBookModel", "isHit", "[Z", true)
  | 64 => ("DriverBookModel", "ops", "[I", true)
  | 65 => ("DriverBookModel", "op", "[I", true)
  | 66 => ("DriverBookModel", "acc", "[I", true)
  | 67 => ("DriverBookModel", "isLocked", "Z", false)
  | _ => ("DriverBookModel", "moved", "[J", true)
def tyX12 : Nat → FieldType := fun k => match k with
  | 0 => .int
  | 1 => .int
  | 2 => .int
  | 3 => .array .int
  | 4 => .array .int
  | 5 => .array .int
  | 6 => .array .int
  | 7 => .array .int
  | 8 => .array .int
  | 9 => .array .int
  | 10 => .array .int
  | 11 => .int
  | 12 => .array .int
  | 13 => .array .int
  | 14 => .array .int
  | 15 => .array .int
  | 16 => .int
  | 17 => .array .int
  | 18 => .array .int
  | 19 => .array .int
  | 20 => .array .int
  | 21 => .array .int
  | 22 => .int
  | 23 => .int
  | 24 => .array .int
  | 25 => .array .int
  | 26 => .array .int
  | 27 => .array .int
  | 28 => .array .int
  | 29 => .array .int
  | 30 => .int
  | 31 => .array .int
  | 32 => .array .int
  | 33 => .array .int
  | 34 => .int
  | 35 => .int
  | 36 => .int
  | 37 => .int
  | 38 => .int
  | 39 => .array .int
  | 40 => .array .int
  | 41 => .array .int
  | 42 => .array .int
  | 43 => .array .int
  | 44 => .array .int
  | 45 => .array .int
  | 46 => .array .int
  | 47 => .array .int
  | 48 => .array .int
  | 49 => .array .int
  | 50 => .array .int
  | 51 => .array .int
  | 52 => .array .int
  | 53 => .array .int
  | 54 => .array .int
  | 55 => .int
  | 56 => .array .int
  | 57 => .int
  | 58 => .int
  | 59 => .array .int
  | 60 => .array .int
  | 61 => .array .long
  | 62 => .int
  | 63 => .array .boolean
  | 64 => .array .int
  | 65 => .array .int
  | 66 => .array .int
  | 67 => .boolean
  | _ => .array .long
abbrev wsX120 : List Cond := u_ws RX12 TX12 69
theorem nmX12 : ∀ a, a < 69 → ∀ b, b < 69 → a ≠ b → (TX12 a).2.1 ≠ (TX12 b).2.1 := by decide +kernel
theorem tyX12_ok : ∀ k, k < 69 → parseFieldDescriptor (TX12 k).2.2.1 = some (tyX12 k) := by decide +kernel
abbrev cX12_init : ByteArray := prog_14_method_1_code
def yX12_init : MethodName := ⟨RX12, "<init>", "()V"⟩
abbrev cX12_thrown : ByteArray := prog_14_method_2_code
def yX12_thrown : MethodName := ⟨RX12, "thrown", "()I"⟩
abbrev cX12_in : ByteArray := prog_14_method_3_code
def yX12_in : MethodName := ⟨RX12, "in", "(III)Z"⟩
abbrev cX12_isField : ByteArray := prog_14_method_4_code
def yX12_isField : MethodName := ⟨RX12, "isField", "(I)Z"⟩
abbrev cX12_isAct : ByteArray := prog_14_method_5_code
def yX12_isAct : MethodName := ⟨RX12, "isAct", "(I)Z"⟩
abbrev cX12_isRegister : ByteArray := prog_14_method_6_code
def yX12_isRegister : MethodName := ⟨RX12, "isRegister", "(I)Z"⟩
abbrev cX12_most : ByteArray := prog_14_method_7_code
def yX12_most : MethodName := ⟨RX12, "most", "(I)I"⟩
abbrev cX12_mask : ByteArray := prog_14_method_8_code
def yX12_mask : MethodName := ⟨RX12, "mask", "(I)I"⟩
abbrev cX12_refuse : ByteArray := prog_14_method_9_code
def yX12_refuse : MethodName := ⟨RX12, "refuse", "(I)I"⟩
abbrev cX12_powers : ByteArray := prog_14_method_10_code
def yX12_powers : MethodName := ⟨RX12, "powers", "()V"⟩
abbrev cX12_changed : ByteArray := prog_14_method_11_code
def yX12_changed : MethodName := ⟨RX12, "changed", "()V"⟩
abbrev cX12_begin : ByteArray := prog_14_method_12_code
def yX12_begin : MethodName := ⟨RX12, "begin", "(I)I"⟩
abbrev cX12_field : ByteArray := prog_14_method_13_code
def yX12_field : MethodName := ⟨RX12, "field", "(IIIII)I"⟩
abbrev cX12_period : ByteArray := prog_14_method_14_code
def yX12_period : MethodName := ⟨RX12, "period", "(II)I"⟩
abbrev cX12_done : ByteArray := prog_14_method_15_code
def yX12_done : MethodName := ⟨RX12, "done", "(II)I"⟩
abbrev cX12_law : ByteArray := prog_14_method_16_code
def yX12_law : MethodName := ⟨RX12, "law", "(IIII)I"⟩
abbrev cX12_act : ByteArray := prog_14_method_17_code
def yX12_act : MethodName := ⟨RX12, "act", "()I"⟩
abbrev cX12_step : ByteArray := prog_14_method_18_code
def yX12_step : MethodName := ⟨RX12, "step", "(IIIII)I"⟩
abbrev cX12_bare : ByteArray := prog_14_method_19_code
def yX12_bare : MethodName := ⟨RX12, "bare", "(I)I"⟩
abbrev cX12_handler : ByteArray := prog_14_method_20_code
def yX12_handler : MethodName := ⟨RX12, "handler", "(II)I"⟩
abbrev cX12_locks : ByteArray := prog_14_method_21_code
def yX12_locks : MethodName := ⟨RX12, "locks", "(I)I"⟩
abbrev cX12_ticks : ByteArray := prog_14_method_22_code
def yX12_ticks : MethodName := ⟨RX12, "ticks", "()V"⟩
abbrev cX12_reads : ByteArray := prog_14_method_23_code
def yX12_reads : MethodName := ⟨RX12, "reads", "(IZ)I"⟩
abbrev cX12_bitsOf : ByteArray := prog_14_method_24_code
def yX12_bitsOf : MethodName := ⟨RX12, "bitsOf", "(II)I"⟩
abbrev cX12_hits : ByteArray := prog_14_method_25_code
def yX12_hits : MethodName := ⟨RX12, "hits", "(III)Z"⟩
abbrev cX12_isBroken : ByteArray := prog_14_method_26_code
def yX12_isBroken : MethodName := ⟨RX12, "isBroken", "(I)Z"⟩
abbrev cX12_judges : ByteArray := prog_14_method_27_code
def yX12_judges : MethodName := ⟨RX12, "judges", "(II)V"⟩
abbrev cX12_writes : ByteArray := prog_14_method_28_code
def yX12_writes : MethodName := ⟨RX12, "writes", "(II)V"⟩
abbrev cX12_takes : ByteArray := prog_14_method_29_code
def yX12_takes : MethodName := ⟨RX12, "takes", "(II)V"⟩
abbrev cX12_emit : ByteArray := prog_14_method_30_code
def yX12_emit : MethodName := ⟨RX12, "emit", "(IIIIIII)V"⟩
abbrev cX12_isBound : ByteArray := prog_14_method_31_code
def yX12_isBound : MethodName := ⟨RX12, "isBound", "(II)Z"⟩
abbrev cX12_isShadowed : ByteArray := prog_14_method_32_code
def yX12_isShadowed : MethodName := ⟨RX12, "isShadowed", "(I)Z"⟩
abbrev cX12_hasHandler : ByteArray := prog_14_method_33_code
def yX12_hasHandler : MethodName := ⟨RX12, "hasHandler", "()Z"⟩
abbrev cX12_joins : ByteArray := prog_14_method_34_code
def yX12_joins : MethodName := ⟨RX12, "joins", "(II)Z"⟩
abbrev cX12_groups : ByteArray := prog_14_method_35_code
def yX12_groups : MethodName := ⟨RX12, "groups", "(III)V"⟩
abbrev cX12_makes : ByteArray := prog_14_method_36_code
def yX12_makes : MethodName := ⟨RX12, "makes", "(II)V"⟩
abbrev cX12_code : ByteArray := prog_14_method_37_code
def yX12_code : MethodName := ⟨RX12, "code", "(I)I"⟩
abbrev cX12_op : ByteArray := prog_14_method_38_code
def yX12_op : MethodName := ⟨RX12, "op", "(III)I"⟩
abbrev cX12_same : ByteArray := prog_14_method_39_code
def yX12_same : MethodName := ⟨RX12, "same", "(II)I"⟩
abbrev cX12_power : ByteArray := prog_14_method_40_code
def yX12_power : MethodName := ⟨RX12, "power", "()I"⟩
abbrev cX12_event : ByteArray := prog_14_method_41_code
def yX12_event : MethodName := ⟨RX12, "event", "(III)I"⟩
abbrev cX12_comes : ByteArray := prog_14_method_42_code
def yX12_comes : MethodName := ⟨RX12, "comes", "(III)V"⟩
abbrev cX12_flagUp : ByteArray := prog_14_method_43_code
def yX12_flagUp : MethodName := ⟨RX12, "flagUp", "()I"⟩
abbrev cX12_handles : ByteArray := prog_14_method_44_code
def yX12_handles : MethodName := ⟨RX12, "handles", "(I)V"⟩
abbrev cX12_polls : ByteArray := prog_14_method_45_code
def yX12_polls : MethodName := ⟨RX12, "polls", "(II)Z"⟩
abbrev cX12_puts : ByteArray := prog_14_method_46_code
def yX12_puts : MethodName := ⟨RX12, "puts", "(II)V"⟩
abbrev cX12_picks : ByteArray := prog_14_method_47_code
def yX12_picks : MethodName := ⟨RX12, "picks", "(II)V"⟩
abbrev cX12_pauses : ByteArray := prog_14_method_48_code
def yX12_pauses : MethodName := ⟨RX12, "pauses", "(II)V"⟩
abbrev cX12_runs : ByteArray := prog_14_method_49_code
def yX12_runs : MethodName := ⟨RX12, "runs", "(II)Z"⟩
abbrev cX12_run : ByteArray := prog_14_method_50_code
def yX12_run : MethodName := ⟨RX12, "run", "(I)I"⟩
abbrev cX12_read : ByteArray := prog_14_method_51_code
def yX12_read : MethodName := ⟨RX12, "read", "(I)I"⟩
abbrev cX12_write : ByteArray := prog_14_method_52_code
def yX12_write : MethodName := ⟨RX12, "write", "(II)I"⟩
abbrev cX12_wait : ByteArray := prog_14_method_53_code
def yX12_wait : MethodName := ⟨RX12, "wait", "(I)I"⟩
abbrev cX12_peek : ByteArray := prog_14_method_54_code
def yX12_peek : MethodName := ⟨RX12, "peek", "(II)I"⟩
abbrev cX12_shadow : ByteArray := prog_14_method_55_code
def yX12_shadow : MethodName := ⟨RX12, "shadow", "(I)I"⟩
abbrev cX12_result : ByteArray := prog_14_method_56_code
def yX12_result : MethodName := ⟨RX12, "result", "()I"⟩
abbrev cX12_breaks : ByteArray := prog_14_method_57_code
def yX12_breaks : MethodName := ⟨RX12, "breaks", "(I)I"⟩
abbrev cX12_stores : ByteArray := prog_14_method_58_code
def yX12_stores : MethodName := ⟨RX12, "stores", "(I)V"⟩
abbrev cX12_brings : ByteArray := prog_14_method_59_code
def yX12_brings : MethodName := ⟨RX12, "brings", "(I)V"⟩
abbrev cX12_setTo : ByteArray := prog_14_method_60_code
def yX12_setTo : MethodName := ⟨RX12, "setTo", "(II)I"⟩
abbrev cX12_astray : ByteArray := prog_14_method_61_code
def yX12_astray : MethodName := ⟨RX12, "astray", "(II)I"⟩
abbrev cX12_fails : ByteArray := prog_14_method_62_code
def yX12_fails : MethodName := ⟨RX12, "fails", "(IIZI)I"⟩
abbrev cX12_walk : ByteArray := prog_14_method_63_code
def yX12_walk : MethodName := ⟨RX12, "walk", "(II)I"⟩
abbrev cX12_why : ByteArray := prog_14_method_64_code
def yX12_why : MethodName := ⟨RX12, "why", "(I)I"⟩
abbrev cX12_isTape : ByteArray := prog_14_method_65_code
def yX12_isTape : MethodName := ⟨RX12, "isTape", "(I)Z"⟩
abbrev cX12_tape : ByteArray := prog_14_method_66_code
def yX12_tape : MethodName := ⟨RX12, "tape", "(III)I"⟩
abbrev cX12_image : ByteArray := prog_14_method_67_code
def yX12_image : MethodName := ⟨RX12, "image", "(I)I"⟩
abbrev cX12_lacks : ByteArray := prog_14_method_68_code
def yX12_lacks : MethodName := ⟨RX12, "lacks", "(I)I"⟩
abbrev cX12_back : ByteArray := prog_14_method_69_code
def yX12_back : MethodName := ⟨RX12, "back", "(I)I"⟩
abbrev cX12_toss : ByteArray := prog_14_method_70_code
def yX12_toss : MethodName := ⟨RX12, "toss", "(I)I"⟩
abbrev cX12_play : ByteArray := prog_14_method_71_code
def yX12_play : MethodName := ⟨RX12, "play", "(III)I"⟩
abbrev cX12_clear : ByteArray := prog_14_method_72_code
def yX12_clear : MethodName := ⟨RX12, "clear", "(I)I"⟩
abbrev cX12_narrowed : ByteArray := prog_14_method_73_code
def yX12_narrowed : MethodName := ⟨RX12, "narrowed", "(IJ)J"⟩
abbrev cX12_put : ByteArray := prog_14_method_74_code
def yX12_put : MethodName := ⟨RX12, "put", "(IIJ)I"⟩
abbrev cX12_at : ByteArray := prog_14_method_75_code
def yX12_at : MethodName := ⟨RX12, "at", "(II)J"⟩
abbrev cX12_copy : ByteArray := prog_14_method_76_code
def yX12_copy : MethodName := ⟨RX12, "copy", "(IIIII)I"⟩
abbrev cX12_count : ByteArray := prog_14_method_77_code
def yX12_count : MethodName := ⟨RX12, "count", "(I)I"⟩
def RJ0 : String := "java/lang/String"
def TJ0 : u_T := fun k => match k with
  | _ => ("", "", "", false)
def tyJ0 : Nat → FieldType := fun k => match k with
  | _ => .int
abbrev wsJ00 : List Cond := u_ws RJ0 TJ0 0
theorem nmJ0 : ∀ a, a < 0 → ∀ b, b < 0 → a ≠ b → (TJ0 a).2.1 ≠ (TJ0 b).2.1 := by decide +kernel
theorem tyJ0_ok : ∀ k, k < 0 → parseFieldDescriptor (TJ0 k).2.2.1 = some (tyJ0 k) := by decide +kernel
def RJ10 : String := "java/lang/System"
def TJ10 : u_T := fun k => match k with
  | _ => ("", "", "", false)
def tyJ10 : Nat → FieldType := fun k => match k with
  | _ => .int
abbrev wsJ100 : List Cond := u_ws RJ10 TJ10 0
theorem nmJ10 : ∀ a, a < 0 → ∀ b, b < 0 → a ≠ b → (TJ10 a).2.1 ≠ (TJ10 b).2.1 := by decide +kernel
theorem tyJ10_ok : ∀ k, k < 0 → parseFieldDescriptor (TJ10 k).2.2.1 = some (tyJ10 k) := by decide +kernel
def RJ7 : String := "java/util/Arrays"
def TJ7 : u_T := fun k => match k with
  | _ => ("", "", "", false)
def tyJ7 : Nat → FieldType := fun k => match k with
  | _ => .int
abbrev wsJ70 : List Cond := u_ws RJ7 TJ7 0
theorem nmJ7 : ∀ a, a < 0 → ∀ b, b < 0 → a ≠ b → (TJ7 a).2.1 ≠ (TJ7 b).2.1 := by decide +kernel
theorem tyJ7_ok : ∀ k, k < 0 → parseFieldDescriptor (TJ7 k).2.2.1 = some (tyJ7 k) := by decide +kernel
abbrev cJ7_fill_d0a16 : ByteArray := prog_22_method_101_code
def yJ7_fill_d0a16 : MethodName := ⟨RJ7, "fill", "([JJ)V"⟩
abbrev cJ7_fill_53178 : ByteArray := prog_22_method_103_code
def yJ7_fill_53178 : MethodName := ⟨RJ7, "fill", "([II)V"⟩
def RL : String := "DriverBookLaw"
abbrev cL_at : ByteArray := method_3_code
def yL_at : MethodName := ⟨RL, "at", "(LDriverBook;II[J)I"⟩
abbrev cL_law : ByteArray := code
def yL_law : MethodName := ⟨RL, "law", "([I)Z"⟩
abbrev vwCl : List vw_C := [(RX0, TX0, 6), (RX1, TX1, 10), (RX2, TX2, 7), (RX3, TX3, 6), (RX4, TX4, 4), (RX5, TX5, 6), (RX6, TX6, 10), (RX7, TX7, 4), (RX8, TX8, 16), (RX9, TX9, 5), (RX10, TX10, 8), (RX11, TX11, 7), (RX12, TX12, 69)]
end
section
/-! ===== the world's shape: tags of objects (0 .. 12, as vwCl has them) and arrays (20 ..): how many, of what, which refer to which ===== -/
-- tag 20: Act.kinds, 6 of length 12
-- tag 21: Act.stepFields, 6 of length 12
-- tag 22: Act.numbers, 6 of length 12
-- tag 23: Act.limits, 6 of length 12
-- tag 24: Book.fields, 1 of length 24
-- tag 25: Book.laws, 1 of length 12
-- tag 26: Book.acts, 1 of length 6
-- tag 27: Chip.fieldsIn, 1 of length 8
-- tag 28: Chip.fieldsIn[], 8 of length 16
-- tag 29: Chip.fieldsInCount, 1 of length 8
-- tag 30: Chip.keptBits, 1 of length 8
-- tag 31: Chip.pulses, 1 of length 24
-- tag 32: Code.parts, 6 of length 288
-- tag 33: State.value, 8 of length 24
-- tag 34: State.pending, 8 of length 24
-- tag 35: State.timer, 8 of length 24
-- tag 36: State.soft, 8 of length 24
-- tag 37: State.lastHit, 8 of length 24
-- tag 38: State.shadow, 8 of length 8
-- tag 39: State.eventField, 8 of length 16
-- tag 40: State.eventValue, 8 of length 16
-- tag 41: State.eventTick, 8 of length 16
-- tag 42: Tape.row, 6 of length 64
-- tag 43: Walker.byAct, 1 of length 24
-- tag 44: Walker.byHandler, 1 of length 24
-- tag 45: DriverBook.tapes, 1 of length 6
-- tag 46: DriverBookModel.register, 1 of length 24
-- tag 47: DriverBookModel.low, 1 of length 24
-- tag 48: DriverBookModel.width, 1 of length 24
-- tag 49: DriverBookModel.kind, 1 of length 24
-- tag 50: DriverBookModel.reset, 1 of length 24
-- tag 51: DriverBookModel.period, 1 of length 24
-- tag 52: DriverBookModel.done, 1 of length 24
-- tag 53: DriverBookModel.handler, 1 of length 24
-- tag 54: DriverBookModel.lawKind, 1 of length 12
-- tag 55: DriverBookModel.lawF, 1 of length 12
-- tag 56: DriverBookModel.lawG, 1 of length 12
-- tag 57: DriverBookModel.lawV, 1 of length 12
-- tag 58: DriverBookModel.steps, 1 of length 6
-- tag 59: DriverBookModel.stepKind, 1 of length 72
-- tag 60: DriverBookModel.stepField, 1 of length 72
-- tag 61: DriverBookModel.stepV, 1 of length 72
-- tag 62: DriverBookModel.stepLimit, 1 of length 72
-- tag 63: DriverBookModel.value, 1 of length 24
-- tag 64: DriverBookModel.pending, 1 of length 24
-- tag 65: DriverBookModel.timer, 1 of length 24
-- tag 66: DriverBookModel.soft, 1 of length 24
-- tag 67: DriverBookModel.hit, 1 of length 24
-- tag 68: DriverBookModel.shadow, 1 of length 8
-- tag 69: DriverBookModel.eventField, 1 of length 17
-- tag 70: DriverBookModel.eventV, 1 of length 17
-- tag 71: DriverBookModel.eventTick, 1 of length 17
-- tag 72: DriverBookModel.sNow, 1 of length 8
-- tag 73: DriverBookModel.sValue, 1 of length 192
-- tag 74: DriverBookModel.sPending, 1 of length 192
-- tag 75: DriverBookModel.sTimer, 1 of length 192
-- tag 76: DriverBookModel.sSoft, 1 of length 192
-- tag 77: DriverBookModel.sHit, 1 of length 192
-- tag 78: DriverBookModel.sShadow, 1 of length 64
-- tag 79: DriverBookModel.sEvents, 1 of length 8
-- tag 80: DriverBookModel.sField, 1 of length 136
-- tag 81: DriverBookModel.sV, 1 of length 136
-- tag 82: DriverBookModel.sTick, 1 of length 136
-- tag 83: DriverBookModel.sBreaks, 1 of length 8
-- tag 84: DriverBookModel.sLaw, 1 of length 8
-- tag 85: DriverBookModel.sBreakNow, 1 of length 8
-- tag 86: DriverBookModel.sServed, 1 of length 8
-- tag 87: DriverBookModel.sResult, 1 of length 8
-- tag 88: DriverBookModel.sVersion, 1 of length 8
-- tag 89: DriverBookModel.sort, 1 of length 6
-- tag 90: DriverBookModel.size, 1 of length 6
-- tag 91: DriverBookModel.cells, 1 of length 384
-- tag 92: DriverBookModel.isHit, 1 of length 24
-- tag 93: DriverBookModel.ops, 1 of length 2
-- tag 94: DriverBookModel.op, 1 of length 600
-- tag 95: DriverBookModel.acc, 1 of length 2
-- tag 96: DriverBookModel.moved, 1 of length 64
def mCn (t : Nat) : Nat := match t with
  | 0 => 6
  | 1 => 1
  | 2 => 1
  | 3 => 6
  | 4 => 2
  | 5 => 1
  | 6 => 24
  | 7 => 12
  | 8 => 8
  | 9 => 6
  | 10 => 1
  | 11 => 1
  | 12 => 1
  | 20 => 6
  | 21 => 6
  | 22 => 6
  | 23 => 6
  | 24 => 1
  | 25 => 1
  | 26 => 1
  | 27 => 1
  | 28 => 8
  | 29 => 1
  | 30 => 1
  | 31 => 1
  | 32 => 6
  | 33 => 8
  | 34 => 8
  | 35 => 8
  | 36 => 8
  | 37 => 8
  | 38 => 8
  | 39 => 8
  | 40 => 8
  | 41 => 8
  | 42 => 6
  | 43 => 1
  | 44 => 1
  | 45 => 1
  | 46 => 1
  | 47 => 1
  | 48 => 1
  | 49 => 1
  | 50 => 1
  | 51 => 1
  | 52 => 1
  | 53 => 1
  | 54 => 1
  | 55 => 1
  | 56 => 1
  | 57 => 1
  | 58 => 1
  | 59 => 1
  | 60 => 1
  | 61 => 1
  | 62 => 1
  | 63 => 1
  | 64 => 1
  | 65 => 1
  | 66 => 1
  | 67 => 1
  | 68 => 1
  | 69 => 1
  | 70 => 1
  | 71 => 1
  | 72 => 1
  | 73 => 1
  | 74 => 1
  | 75 => 1
  | 76 => 1
  | 77 => 1
  | 78 => 1
  | 79 => 1
  | 80 => 1
  | 81 => 1
  | 82 => 1
  | 83 => 1
  | 84 => 1
  | 85 => 1
  | 86 => 1
  | 87 => 1
  | 88 => 1
  | 89 => 1
  | 90 => 1
  | 91 => 1
  | 92 => 1
  | 93 => 1
  | 94 => 1
  | 95 => 1
  | 96 => 1
  | 98 => 1
  | _ => 0
def mSh (t : Nat) : Nat ⊕ (FieldType × Nat) := match t with
  | 0 => .inl 0
  | 1 => .inl 1
  | 2 => .inl 2
  | 3 => .inl 3
  | 4 => .inl 4
  | 5 => .inl 5
  | 6 => .inl 6
  | 7 => .inl 7
  | 8 => .inl 8
  | 9 => .inl 9
  | 10 => .inl 10
  | 11 => .inl 11
  | 12 => .inl 12
  | 20 => .inr (.int, 12)
  | 21 => .inr (.int, 12)
  | 22 => .inr (.int, 12)
  | 23 => .inr (.int, 12)
  | 24 => .inr ((.object "DriverBook$Field"), 24)
  | 25 => .inr ((.object "DriverBook$Law"), 12)
  | 26 => .inr ((.object "DriverBook$Act"), 6)
  | 27 => .inr ((.array .int), 8)
  | 28 => .inr (.int, 16)
  | 29 => .inr (.int, 8)
  | 30 => .inr (.int, 8)
  | 31 => .inr (.int, 24)
  | 32 => .inr (.int, 288)
  | 33 => .inr (.int, 24)
  | 34 => .inr (.int, 24)
  | 35 => .inr (.int, 24)
  | 36 => .inr (.int, 24)
  | 37 => .inr (.int, 24)
  | 38 => .inr (.int, 8)
  | 39 => .inr (.int, 16)
  | 40 => .inr (.int, 16)
  | 41 => .inr (.int, 16)
  | 42 => .inr (.long, 64)
  | 43 => .inr (.int, 24)
  | 44 => .inr (.int, 24)
  | 45 => .inr ((.object "DriverBook$Tape"), 6)
  | 46 => .inr (.int, 24)
  | 47 => .inr (.int, 24)
  | 48 => .inr (.int, 24)
  | 49 => .inr (.int, 24)
  | 50 => .inr (.int, 24)
  | 51 => .inr (.int, 24)
  | 52 => .inr (.int, 24)
  | 53 => .inr (.int, 24)
  | 54 => .inr (.int, 12)
  | 55 => .inr (.int, 12)
  | 56 => .inr (.int, 12)
  | 57 => .inr (.int, 12)
  | 58 => .inr (.int, 6)
  | 59 => .inr (.int, 72)
  | 60 => .inr (.int, 72)
  | 61 => .inr (.int, 72)
  | 62 => .inr (.int, 72)
  | 63 => .inr (.int, 24)
  | 64 => .inr (.int, 24)
  | 65 => .inr (.int, 24)
  | 66 => .inr (.int, 24)
  | 67 => .inr (.int, 24)
  | 68 => .inr (.int, 8)
  | 69 => .inr (.int, 17)
  | 70 => .inr (.int, 17)
  | 71 => .inr (.int, 17)
  | 72 => .inr (.int, 8)
  | 73 => .inr (.int, 192)
  | 74 => .inr (.int, 192)
  | 75 => .inr (.int, 192)
  | 76 => .inr (.int, 192)
  | 77 => .inr (.int, 192)
  | 78 => .inr (.int, 64)
  | 79 => .inr (.int, 8)
  | 80 => .inr (.int, 136)
  | 81 => .inr (.int, 136)
  | 82 => .inr (.int, 136)
  | 83 => .inr (.int, 8)
  | 84 => .inr (.int, 8)
  | 85 => .inr (.int, 8)
  | 86 => .inr (.int, 8)
  | 87 => .inr (.int, 8)
  | 88 => .inr (.int, 8)
  | 89 => .inr (.int, 6)
  | 90 => .inr (.int, 6)
  | 91 => .inr (.long, 384)
  | 92 => .inr (.boolean, 24)
  | 93 => .inr (.int, 2)
  | 94 => .inr (.int, 600)
  | 95 => .inr (.int, 2)
  | 96 => .inr (.long, 64)
  | 98 => .inr (.long, 1)
  | _ => .inl 1000
def mNs (c : Nat) : Nat := match c with
  | 0 => 6
  | 1 => 10
  | 2 => 7
  | 3 => 6
  | 4 => 4
  | 5 => 6
  | 6 => 10
  | 7 => 4
  | 8 => 16
  | 9 => 5
  | 10 => 8
  | 11 => 7
  | 12 => 69
  | _ => 0
def mTy (c k : Nat) : FieldType := match c with
  | 0 => tyX0 k
  | 1 => tyX1 k
  | 2 => tyX2 k
  | 3 => tyX3 k
  | 4 => tyX4 k
  | 5 => tyX5 k
  | 6 => tyX6 k
  | 7 => tyX7 k
  | 8 => tyX8 k
  | 9 => tyX9 k
  | 10 => tyX10 k
  | 11 => tyX11 k
  | 12 => tyX12 k
  | _ => .int
def mRf0 (i k : Nat) : Option (Nat × Nat) := match k with
  | 0 => some (20, i)
  | 1 => some (21, i)
  | 2 => some (22, i)
  | 3 => some (23, i)
  | 4 => some (3, i)
  | _ => none
def mRf1 (i k : Nat) : Option (Nat × Nat) := match k with
  | 0 => some (24, i)
  | 1 => some (25, i)
  | 2 => some (26, i)
  | _ => none
def mRf2 (i k : Nat) : Option (Nat × Nat) := match k with
  | 0 => some (1, 0)
  | 1 => some (8, 0)
  | 2 => some (27, i)
  | 3 => some (29, i)
  | 4 => some (30, i)
  | 5 => some (31, i)
  | _ => none
def mRf3 (i k : Nat) : Option (Nat × Nat) := match k with
  | 0 => some (32, i)
  | _ => none
def mRf5 (i k : Nat) : Option (Nat × Nat) := match k with
  | 0 => some (1, 0)
  | 1 => some (8, 0)
  | 2 => some (2, 0)
  | 3 => some (4, 0)
  | 4 => some (4, 1)
  | _ => none
def mRf8 (i k : Nat) : Option (Nat × Nat) := match k with
  | 0 => some (33, i)
  | 1 => some (34, i)
  | 2 => some (35, i)
  | 3 => some (36, i)
  | 4 => some (37, i)
  | 5 => some (38, i)
  | 6 => some (39, i)
  | 7 => some (40, i)
  | 8 => some (41, i)
  | _ => none
def mRf9 (i k : Nat) : Option (Nat × Nat) := match k with
  | 2 => some (42, i)
  | 3 => some (8, i + 2)
  | _ => none
def mRf10 (i k : Nat) : Option (Nat × Nat) := match k with
  | 0 => some (1, 0)
  | 1 => some (8, 0)
  | 2 => some (5, 0)
  | 3 => some (8, 1)
  | 4 => some (43, i)
  | 5 => some (44, i)
  | _ => none
def mRf11 (i k : Nat) : Option (Nat × Nat) := match k with
  | 0 => some (1, 0)
  | 1 => some (8, 0)
  | 2 => some (2, 0)
  | 3 => some (5, 0)
  | 4 => some (10, 0)
  | 5 => some (45, i)
  | _ => none
def mRf12 (i k : Nat) : Option (Nat × Nat) := match k with
  | 3 => some (46, i)
  | 4 => some (47, i)
  | 5 => some (48, i)
  | 6 => some (49, i)
  | 7 => some (50, i)
  | 8 => some (51, i)
  | 9 => some (52, i)
  | 10 => some (53, i)
  | 12 => some (54, i)
  | 13 => some (55, i)
  | 14 => some (56, i)
  | 15 => some (57, i)
  | 17 => some (58, i)
  | 18 => some (59, i)
  | 19 => some (60, i)
  | 20 => some (61, i)
  | 21 => some (62, i)
  | 24 => some (63, i)
  | 25 => some (64, i)
  | 26 => some (65, i)
  | 27 => some (66, i)
  | 28 => some (67, i)
  | 29 => some (68, i)
  | 31 => some (69, i)
  | 32 => some (70, i)
  | 33 => some (71, i)
  | 39 => some (72, i)
  | 40 => some (73, i)
  | 41 => some (74, i)
  | 42 => some (75, i)
  | 43 => some (76, i)
  | 44 => some (77, i)
  | 45 => some (78, i)
  | 46 => some (79, i)
  | 47 => some (80, i)
  | 48 => some (81, i)
  | 49 => some (82, i)
  | 50 => some (83, i)
  | 51 => some (84, i)
  | 52 => some (85, i)
  | 53 => some (86, i)
  | 54 => some (87, i)
  | 56 => some (88, i)
  | 59 => some (89, i)
  | 60 => some (90, i)
  | 61 => some (91, i)
  | 63 => some (92, i)
  | 64 => some (93, i)
  | 65 => some (94, i)
  | 66 => some (95, i)
  | 68 => some (96, i)
  | _ => none
def mRf24 (_ k : Nat) : Option (Nat × Nat) := some (6, k)
def mRf25 (_ k : Nat) : Option (Nat × Nat) := some (7, k)
def mRf26 (_ k : Nat) : Option (Nat × Nat) := some (0, k)
def mRf27 (_ k : Nat) : Option (Nat × Nat) := some (28, k)
def mRf45 (_ k : Nat) : Option (Nat × Nat) := some (9, k)
def mRf (t i k : Nat) : Option (Nat × Nat) := match t with
  | 0 => mRf0 i k
  | 1 => mRf1 i k
  | 2 => mRf2 i k
  | 3 => mRf3 i k
  | 5 => mRf5 i k
  | 8 => mRf8 i k
  | 9 => mRf9 i k
  | 10 => mRf10 i k
  | 11 => mRf11 i k
  | 12 => mRf12 i k
  | 24 => mRf24 i k
  | 25 => mRf25 i k
  | 26 => mRf26 i k
  | 27 => mRf27 i k
  | 45 => mRf45 i k
  | _ => none
abbrev mCl : List vw_C := vwCl
def mTyL : List FieldType := [.int, .long, .boolean, (.array .int), (.object "DriverBook$Act"), (.object "DriverBook$Field"), (.object "DriverBook$Law"), (.object "DriverBook$Tape")]
def mTb : List Cond := lw_tbl.filter goodWord
def mNw : List Cond := [.methodLinkNest "DriverBook$Book" 52 ⟨"DriverBook$Field", "<init>", "()V"⟩ "DriverBook", .methodLinkNest "DriverBook$Book" 53 ⟨"DriverBook$Law", "<init>", "()V"⟩ "DriverBook", .methodLinkNest "DriverBook$Book" 54 ⟨"DriverBook$Act", "<init>", "()V"⟩ "DriverBook", .methodLinkNest "DriverBook$Act" 26 ⟨"DriverBook$Code", "<init>", "()V"⟩ "DriverBook", .methodLinkNest "DriverBook$Driver" 13 ⟨"DriverBook$Course", "<init>", "()V"⟩ "DriverBook", .methodLinkNest "DriverBook" 56 ⟨"DriverBook$Tape", "<init>", "()V"⟩ "DriverBook", .methodLinkNest "DriverBook$Code" 72 ⟨"DriverBook", "isIn", "(II)Z"⟩ "DriverBook", .methodLinkNest "DriverBook$Law" 16 ⟨"DriverBook", "isIn", "(II)Z"⟩ "DriverBook", .methodLinkNest "DriverBook$Chip" 136 ⟨"DriverBook", "isIn", "(II)Z"⟩ "DriverBook"]
end
section
/-! ===== THE WORLD, and the judgement Sm: a frame of a method over it; Sim: a function of the world that tells what the frame comes to ===== -/
abbrev mR : Type := Nat × Nat
/-- an int, a long, a reference -/
abbrev mV : Type := Int32 ⊕ (Int64 ⊕ mR)
/-- what changes: ints and longs, by tag, number, slot -/
abbrev mH : Type := (Nat → Nat → Nat → Int32) × (Nat → Nat → Nat → Int64)
/-- what the launch gives: numbers of classes and slots; classes of arrays; addresses; where new cells begin -/
abbrev mG : Type := va_G × (FieldType → ClassId) × (Nat → Nat → Nat) × Nat
def mC (G : mG) (v : mV) : Value := match v with
  | .inl x => .int x
  | .inr (.inl x) => .long x
  | .inr (.inr r) => .ref (G.2.2.1 r.1 r.2)
def mCat (v : mV) : Nat := match v with
  | .inr (.inl _) => 2
  | _ => 1
theorem mC_cat (G : mG) (v : mV) : (mC G v).category = mCat v := by
  rcases v with x | x | r <;> rfl
def mLi (v : mV) : Prop := match v with
  | .inr (.inr r) => r.2 < mCn r.1 ∨ r.1 = 99
  | _ => True
def mIsRf (ty : FieldType) : Bool := match ty with
  | .object _ => true
  | .array _ => true
  | _ => false
def mAd (G : mG) (r : mR) : Nat := G.2.2.1 r.1 r.2
def mSl (G : mG) (h : mH) (t i k : Nat) (ty : FieldType) : Value := if mIsRf ty then va_rf ((mRf t i k).map (mAd G)) else .int (h.1 t i k)
def mAr (G : mG) (h : mH) (t i : Nat) (ty : FieldType) : ((Nat → Int32) ⊕ (Nat → Int64) ⊕ (Nat → UInt32) ⊕ (Nat → UInt64) ⊕ (Nat → Option Nat)) :=
  if mIsRf ty then .inr (.inr (.inr (.inr fun k => (mRf t i k).map (mAd G)))) else if ty = .long then .inr (.inl (h.2 t i)) else .inl (h.1 t i)
def mFs (G : mG) (h : mH) (t i c : Nat) : List Value := (List.range (mNs c)).map fun k => mSl G h t i k (mTy c k)
def mE (G : mG) (h : mH) (t i : Nat) : va_E := match mSh t with
  | .inl c => .inr (c, mFs G h t i c)
  | .inr q => .inl (G.2.1 q.1, q.2, mAr G h t i q.1)
def mTys (G : mG) : List (ClassId × FieldType) := mTyL.map fun ty => (G.2.1 ty, ty)
/-- what the tables say -/
def mKT (G : mG) (U : State) : Prop := va_K G.1 mCl (mTys G) U ∧ ∀ w ∈ mNw, va_Nw w U
/-- the heap holds the world h -/
def mW (G : mG) (h : mH) (H : Heap) : Prop := (∀ t i, i < mCn t → va_at G.1 mCl (G.2.2.1 t i, mE G h t i) H) ∧ (∀ t i t' i', i < mCn t → i' < mCn t' → G.2.2.1 t i = G.2.2.1 t' i' → t = t' ∧ i = i') ∧ ∀ t i, i < mCn t → G.2.2.2 ≤ G.2.2.1 t i
def mA (G : mG) : Nat → Prop := fun q => G.2.2.2 ≤ q
abbrev mX : Type := Program × Launch × Env × Room × State × MethodId × Array Value × List Frame × Method × Code
abbrev mX.p (X : mX) : Program := X.1
def mFr (G : mG) (X : mX) (cc : ByteArray) (nL : Nat) (own : String) (rt : Option FieldType) (rm : Room) : Prop := match X with
  | (p, _, _, R, s, m, args, _, meth, c) => p.tables.exec = Jvm.exec ∧ c.code = cc ∧ c.maxLocals = nL ∧ s.vm.findClass own = some m.cls ∧ (∀ w ∈ mTb, w.before args s = true) ∧ meth.sig.returnType = rt ∧ meth.locks = false ∧ mKT G s ∧ R = rm
def mLs (G : mG) (L : List (Nat × mV)) : List (Nat × Value) := L.map fun q => (q.1, mC G q.2)
abbrev mRes : Type := Option mV × mH
def mQ (G : mG) (r : mRes) : Array Value → State → Outcome → State → Prop := fun _ st oc t => oc = .returned (r.1.map (mC G)) ∧ (∀ v, r.1 = some v → mLi v) ∧ mW G r.2 t.heap ∧ va_F (mA G) st t
def Sm (G : mG) (X : mX) (cc : ByteArray) (nL : Nat) (own : String) (rt : Option FieldType) (rm : Room) (r : mRes) (pc : Nat) (L : List (Nat × mV)) (st : List mV) (h : mH) : Prop := match X with
  | (p, l, e, R, s, m, args, below, meth, c) => mFr G (p, l, e, R, s, m, args, below, meth, c) cc nL own rt rm → ∀ (H : Heap) (locs : List Loc) (ls : Array Slot), mW G h H → va_S (mA G) s.heap H locs → lv_has ls nL (mLs G L) → (∀ q ∈ L, mLi q.2) → (∀ v ∈ st, mLi v) →
      W p l e R s m args below meth c H locs 0 0 (MQ below (mQ G r) args s 0 0 (mA G)) (F0 m pc ls (st.map (mC G)))
def Sim {α : Type} (G : mG) (X : mX) (cc : ByteArray) (nL : Nat) (own : String) (rt : Option FieldType) (rm : Room) (em : α → mRes) (f : Option α) (pc : Nat) (L : List (Nat × mV)) (st : List mV) (h : mH) : Prop := ∀ a, f = some a → Sm G X cc nL own rt rm (em a) pc L st h
def eI (r : Int32 × mH) : mRes := (some (.inl r.1), r.2)
def eJ (r : Int64 × mH) : mRes := (some (.inr (.inl r.1)), r.2)
def eV (r : mH) : mRes := (none, r)
def uI (h : mH) (t i k : Nat) (x : Int32) : mH := (fun t' i' k' => if t' = t ∧ i' = i ∧ k' = k then x else h.1 t' i' k', h.2)
def uJ (h : mH) (t i k : Nat) (x : Int64) : mH := (h.1, fun t' i' k' => if t' = t ∧ i' = i ∧ k' = k then x else h.2 t' i' k')
/-- a place within a row -/
def mIn (x : Int32) (n : Nat) : Bool := !(decide (x < 0) || decide (n ≤ x.toNatClampNeg))
theorem mIn_vp {x : Int32} {n : Nat} (h : mIn x n = true) : vp_in x n := by
  unfold vp_in
  simp [mIn] at h
  intro q
  rcases q with q | q
  · exact absurd q (Int32.not_lt.mpr h.1)
  · omega
theorem mKT.warm {G : mG} {u U : State} (hW : u.WarmedH U.vm) (h : mKT G u) : mKT G U := by
  refine ⟨va_K.moved hW.alike h.1, fun w hw => ?_⟩
  have h2 := h.2 w hw
  simp only [mNw, List.mem_cons, List.not_mem_nil, or_false] at hw
  rcases hw with rfl | rfl | rfl | rfl | rfl | rfl | rfl | rfl | rfl <;> exact va_Nw.warmM hW h2
theorem mKT.same {G : mG} {u U : State} (hv : u.vm = U.vm) (h : mKT G u) : mKT G U := by
  refine ⟨va_K.moved (by rw [hv]; exact Vm.Alike.refl _) h.1, fun w hw => ?_⟩
  have h2 := h.2 w hw
  simp only [mNw, List.mem_cons, List.not_mem_nil, or_false] at hw
  rcases hw with rfl | rfl | rfl | rfl | rfl | rfl | rfl | rfl | rfl <;> exact va_Nw.same rfl hv h2
/-- other cells stay -/
theorem mW.upd {G : mG} {h h' : mH} {H H1 : Heap} {t i : Nat} (hw : mW G h H) (hi : i < mCn t) (he : va_at G.1 mCl (G.2.2.1 t i, mE G h' t i) H1) (oq : ∀ q : Nat, q ≠ G.2.2.1 t i → H1[q]? = H[q]?) (hh : ∀ t' i', ¬ (t' = t ∧ i' = i) → mE G h' t' i' = mE G h t' i') : mW G h' H1 := by
  refine ⟨fun t' i' hi' => ?_, hw.2.1, hw.2.2⟩
  by_cases e : t' = t ∧ i' = i
  · obtain ⟨rfl, rfl⟩ := e
    exact he
  · rw [hh t' i' e]
    refine (hw.1 t' i' hi').kept (oq _ fun q => e ?_)
    exact hw.2.1 t' i' t i hi' hi q
theorem mE_ne {G : mG} {h h' : mH} {t i : Nat} (h1 : h'.1 t i = h.1 t i) (h2 : h'.2 t i = h.2 t i) : mE G h' t i = mE G h t i := by
  unfold mE mFs mAr mSl
  rw [h1, h2]
theorem uI_ne {h : mH} {t i k : Nat} {x : Int32} {t' i' : Nat} (e : ¬ (t' = t ∧ i' = i)) : (uI h t i k x).1 t' i' = h.1 t' i' := by
  funext k'
  show (if t' = t ∧ i' = i ∧ k' = k then x else h.1 t' i' k') = _
  rw [if_neg (fun q => e ⟨q.1, q.2.1⟩)]
theorem uJ_ne {h : mH} {t i k : Nat} {x : Int64} {t' i' : Nat} (e : ¬ (t' = t ∧ i' = i)) : (uJ h t i k x).2 t' i' = h.2 t' i' := by
  funext k'
  show (if t' = t ∧ i' = i ∧ k' = k then x else h.2 t' i' k') = _
  rw [if_neg (fun q => e ⟨q.1, q.2.1⟩)]
theorem uI_eq {h : mH} {t i k : Nat} {x : Int32} : (uI h t i k x).1 t i = upd (h.1 t i) k x := by
  funext k'
  show (if t = t ∧ i = i ∧ k' = k then x else h.1 t i k') = upd (h.1 t i) k x k'
  by_cases e : k' = k
  · subst e
    simp [upd]
  · simp [upd, e]
end
section
/-! ===== a row an instruction, over Sim ===== -/
section MR
variable {α : Type} {G : mG} {X : mX} {cc : ByteArray} {nL : Nat} {own : String} {rt : Option FieldType} {rm : Room} {em : α → mRes} {f : Option α} {pc : Nat} {L : List (Nat × mV)} {st : List mV} {h : mH}

theorem mLs_st {i : Nat} {v : mV} {L' : List (Nat × mV)} (hL' : (i, v) :: L.filter (fun q => !(q.1 == i) && !(q.1 + 1 == i && mCat q.2 == 2)) = L') : (i, mC G v) :: (mLs G L).filter (fun q => !(q.1 == i) && !(q.1 + 1 == i && q.2.category == 2)) = mLs G L' := by
  subst hL'
  show _ = (i, mC G v) :: (L.filter _).map _
  congr 1
  unfold mLs
  rw [List.filter_map]
  congr 1
  apply List.filter_congr
  intro q _
  simp [Function.comp, mC_cat]
theorem mLs_st2 {i : Nat} {v : mV} {L' : List (Nat × mV)} (hL' : (i, v) :: L.filter (fun q => !(q.1 == i) && (!(q.1 == i + 1) && !(q.1 + 1 == i && mCat q.2 == 2))) = L') : (i, mC G v) :: (mLs G L).filter (fun q => !(q.1 == i) && (!(q.1 == i + 1) && !(q.1 + 1 == i && q.2.category == 2))) = mLs G L' := by
  subst hL'
  show _ = (i, mC G v) :: (L.filter _).map _
  congr 1
  unfold mLs
  rw [List.filter_map]
  congr 1
  apply List.filter_congr
  intro q _
  simp [Function.comp, mC_cat]
theorem s_iconst {n : Int} {v : Int32} (hv : Int32.ofInt n = v) (hd : decode cc pc = .ok (.iconst n, 1))
    (k : Sim G X cc nL own rt rm em f (pc + 1) L (.inl v :: st) h) : Sim G X cc nL own rt rm em f pc L st h := by
  intro a ha
  have k := k a ha
  obtain ⟨p, l, e, R, s, m, args, below, meth, c⟩ := X
  intro F H locs ls hw hS hl hL hst
  have k := k F H locs ls hw hS hl hL
  obtain ⟨hx, hb, hml, hown, hts, hr, hlk, hK, hrm⟩ := id F
  exact lv_iconst hx hb hd hv (k (fun w hq => by rcases List.mem_cons.mp hq with rfl | hq; exact trivial; exact hst w hq))
theorem s_bipush {n : Int} {v : Int32} (hv : (Int8.ofInt n).toInt32 = v) (hd : decode cc pc = .ok (.bipush n, 2))
    (k : Sim G X cc nL own rt rm em f (pc + 2) L (.inl v :: st) h) : Sim G X cc nL own rt rm em f pc L st h := by
  intro a ha
  have k := k a ha
  obtain ⟨p, l, e, R, s, m, args, below, meth, c⟩ := X
  intro F H locs ls hw hS hl hL hst
  have k := k F H locs ls hw hS hl hL
  obtain ⟨hx, hb, hml, hown, hts, hr, hlk, hK, hrm⟩ := id F
  exact lv_bipush hx hb hd hv (k (fun w hq => by rcases List.mem_cons.mp hq with rfl | hq; exact trivial; exact hst w hq))
theorem s_sipush {n : Int} {v : Int32} (hv : (Int16.ofInt n).toInt32 = v) (hd : decode cc pc = .ok (.sipush n, 3))
    (k : Sim G X cc nL own rt rm em f (pc + 3) L (.inl v :: st) h) : Sim G X cc nL own rt rm em f pc L st h := by
  intro a ha
  have k := k a ha
  obtain ⟨p, l, e, R, s, m, args, below, meth, c⟩ := X
  intro F H locs ls hw hS hl hL hst
  have k := k F H locs ls hw hS hl hL
  obtain ⟨hx, hb, hml, hown, hts, hr, hlk, hK, hrm⟩ := id F
  exact lv_sipush hx hb hd hv (k (fun w hq => by rcases List.mem_cons.mp hq with rfl | hq; exact trivial; exact hst w hq))
theorem s_lconst {n : Fin 2} {v : Int64} (hv : Int64.ofNat (n : Nat) = v) (hd : decode cc pc = .ok (.lconst n, 1))
    (k : Sim G X cc nL own rt rm em f (pc + 1) L (.inr (.inl v) :: st) h) : Sim G X cc nL own rt rm em f pc L st h := by
  intro a ha
  have k := k a ha
  obtain ⟨p, l, e, R, s, m, args, below, meth, c⟩ := X
  intro F H locs ls hw hS hl hL hst
  have k := k F H locs ls hw hS hl hL
  obtain ⟨hx, hb, hml, hown, hts, hr, hlk, hK, hrm⟩ := id F
  exact lv_lconst hx hb hd hv (k (fun w hq => by rcases List.mem_cons.mp hq with rfl | hq; exact trivial; exact hst w hq))
theorem s_ldc {i : Nat} {v : Int32} (hw1 : Cond.constant own i v ∈ mTb) (hd : decode cc pc = .ok (.ldc i, 2))
    (k : Sim G X cc nL own rt rm em f (pc + 2) L (.inl v :: st) h) : Sim G X cc nL own rt rm em f pc L st h := by
  intro a ha
  have k := k a ha
  obtain ⟨p, l, e, R, s, m, args, below, meth, c⟩ := X
  intro F H locs ls hw hS hl hL hst
  have k := k F H locs ls hw hS hl hL
  obtain ⟨hx, hb, hml, hown, hts, hr, hlk, hK, hrm⟩ := id F
  exact lv_ldc hx hb hown (hts _ hw1) hd (k (fun w hq => by rcases List.mem_cons.mp hq with rfl | hq; exact trivial; exact hst w hq))
theorem s_ldcw {i : Nat} {v : Int32} (hw1 : Cond.constant own i v ∈ mTb) (hd : decode cc pc = .ok (.ldc_w i, 3))
    (k : Sim G X cc nL own rt rm em f (pc + 3) L (.inl v :: st) h) : Sim G X cc nL own rt rm em f pc L st h := by
  intro a ha
  have k := k a ha
  obtain ⟨p, l, e, R, s, m, args, below, meth, c⟩ := X
  intro F H locs ls hw hS hl hL hst
  have k := k F H locs ls hw hS hl hL
  obtain ⟨hx, hb, hml, hown, hts, hr, hlk, hK, hrm⟩ := id F
  exact lv_ldcw hx hb hown (hts _ hw1) hd (k (fun w hq => by rcases List.mem_cons.mp hq with rfl | hq; exact trivial; exact hst w hq))
theorem s_ldc2 {i : Nat} {v : Int64} (hw1 : Cond.constantLong own i v ∈ mTb) (hd : decode cc pc = .ok (.ldc2_w i, 3))
    (k : Sim G X cc nL own rt rm em f (pc + 3) L (.inr (.inl v) :: st) h) : Sim G X cc nL own rt rm em f pc L st h := by
  intro a ha
  have k := k a ha
  obtain ⟨p, l, e, R, s, m, args, below, meth, c⟩ := X
  intro F H locs ls hw hS hl hL hst
  have k := k F H locs ls hw hS hl hL
  obtain ⟨hx, hb, hml, hown, hts, hr, hlk, hK, hrm⟩ := id F
  exact lv_ldc2 hx hb hown (hts _ hw1) hd (k (fun w hq => by rcases List.mem_cons.mp hq with rfl | hq; exact trivial; exact hst w hq))
theorem s_iload_n {n : Fin 4} {i : Nat} {x : Int32} (hi : (n : Nat) = i) (q : Nat) (hq : L[q]? = some (i, .inl x)) (hd : decode cc pc = .ok (.iload_n n, 1))
    (k : Sim G X cc nL own rt rm em f (pc + 1) L (.inl x :: st) h) : Sim G X cc nL own rt rm em f pc L st h := by
  intro a ha
  have k := k a ha
  obtain ⟨p, l, e, R, s, m, args, below, meth, c⟩ := X
  intro F H locs ls hw hS hl hL hst
  have k := k F H locs ls hw hS hl hL
  obtain ⟨hx, hb, hml, hown, hts, hr, hlk, hK, hrm⟩ := id F
  exact lv_iload_n hx hb hd hi (lv_at hl q (by rw [mLs, List.getElem?_map, hq]; rfl)) (k (fun w hq2 => by rcases List.mem_cons.mp hq2 with rfl | hq2; exact hL _ (List.mem_of_getElem? hq); exact hst w hq2))
theorem s_iload {i : Nat} {x : Int32} (q : Nat) (hq : L[q]? = some (i, .inl x)) (hd : decode cc pc = .ok (.iload i, 2))
    (k : Sim G X cc nL own rt rm em f (pc + 2) L (.inl x :: st) h) : Sim G X cc nL own rt rm em f pc L st h := by
  intro a ha
  have k := k a ha
  obtain ⟨p, l, e, R, s, m, args, below, meth, c⟩ := X
  intro F H locs ls hw hS hl hL hst
  have k := k F H locs ls hw hS hl hL
  obtain ⟨hx, hb, hml, hown, hts, hr, hlk, hK, hrm⟩ := id F
  exact lv_iload hx hb hd (lv_at hl q (by rw [mLs, List.getElem?_map, hq]; rfl)) (k (fun w hq2 => by rcases List.mem_cons.mp hq2 with rfl | hq2; exact hL _ (List.mem_of_getElem? hq); exact hst w hq2))
theorem s_lload_n {n : Fin 4} {i : Nat} {x : Int64} (hi : (n : Nat) = i) (q : Nat) (hq : L[q]? = some (i, .inr (.inl x))) (hd : decode cc pc = .ok (.lload_n n, 1))
    (k : Sim G X cc nL own rt rm em f (pc + 1) L (.inr (.inl x) :: st) h) : Sim G X cc nL own rt rm em f pc L st h := by
  intro a ha
  have k := k a ha
  obtain ⟨p, l, e, R, s, m, args, below, meth, c⟩ := X
  intro F H locs ls hw hS hl hL hst
  have k := k F H locs ls hw hS hl hL
  obtain ⟨hx, hb, hml, hown, hts, hr, hlk, hK, hrm⟩ := id F
  exact lv_lload_n hx hb hd hi (lv_at hl q (by rw [mLs, List.getElem?_map, hq]; rfl)) (k (fun w hq2 => by rcases List.mem_cons.mp hq2 with rfl | hq2; exact hL _ (List.mem_of_getElem? hq); exact hst w hq2))
theorem s_lload {i : Nat} {x : Int64} (q : Nat) (hq : L[q]? = some (i, .inr (.inl x))) (hd : decode cc pc = .ok (.lload i, 2))
    (k : Sim G X cc nL own rt rm em f (pc + 2) L (.inr (.inl x) :: st) h) : Sim G X cc nL own rt rm em f pc L st h := by
  intro a ha
  have k := k a ha
  obtain ⟨p, l, e, R, s, m, args, below, meth, c⟩ := X
  intro F H locs ls hw hS hl hL hst
  have k := k F H locs ls hw hS hl hL
  obtain ⟨hx, hb, hml, hown, hts, hr, hlk, hK, hrm⟩ := id F
  exact lv_lload hx hb hd (lv_at hl q (by rw [mLs, List.getElem?_map, hq]; rfl)) (k (fun w hq2 => by rcases List.mem_cons.mp hq2 with rfl | hq2; exact hL _ (List.mem_of_getElem? hq); exact hst w hq2))
theorem s_aload_n {n : Fin 4} {i : Nat} {x : mR} (hi : (n : Nat) = i) (q : Nat) (hq : L[q]? = some (i, .inr (.inr x))) (hd : decode cc pc = .ok (.aload_n n, 1))
    (k : Sim G X cc nL own rt rm em f (pc + 1) L (.inr (.inr x) :: st) h) : Sim G X cc nL own rt rm em f pc L st h := by
  intro a ha
  have k := k a ha
  obtain ⟨p, l, e, R, s, m, args, below, meth, c⟩ := X
  intro F H locs ls hw hS hl hL hst
  have k := k F H locs ls hw hS hl hL
  obtain ⟨hx, hb, hml, hown, hts, hr, hlk, hK, hrm⟩ := id F
  exact lv_aload_n hx hb hd hi (lv_at hl q (by rw [mLs, List.getElem?_map, hq]; rfl)) (k (fun w hq2 => by rcases List.mem_cons.mp hq2 with rfl | hq2; exact hL _ (List.mem_of_getElem? hq); exact hst w hq2))
theorem s_aload {i : Nat} {x : mR} (q : Nat) (hq : L[q]? = some (i, .inr (.inr x))) (hd : decode cc pc = .ok (.aload i, 2))
    (k : Sim G X cc nL own rt rm em f (pc + 2) L (.inr (.inr x) :: st) h) : Sim G X cc nL own rt rm em f pc L st h := by
  intro a ha
  have k := k a ha
  obtain ⟨p, l, e, R, s, m, args, below, meth, c⟩ := X
  intro F H locs ls hw hS hl hL hst
  have k := k F H locs ls hw hS hl hL
  obtain ⟨hx, hb, hml, hown, hts, hr, hlk, hK, hrm⟩ := id F
  exact lv_aload hx hb hd (lv_at hl q (by rw [mLs, List.getElem?_map, hq]; rfl)) (k (fun w hq2 => by rcases List.mem_cons.mp hq2 with rfl | hq2; exact hL _ (List.mem_of_getElem? hq); exact hst w hq2))
theorem s_istore_n {n : Fin 4} {i : Nat} {x : Int32} {L' : List (Nat × mV)} (hi : (n : Nat) = i) (hn : i < nL) (hL' : (i, .inl x) :: L.filter (fun q => !(q.1 == i) && !(q.1 + 1 == i && mCat q.2 == 2)) = L') (hd : decode cc pc = .ok (.istore_n n, 1))
    (k : Sim G X cc nL own rt rm em f (pc + 1) L' st h) : Sim G X cc nL own rt rm em f pc L (.inl x :: st) h := by
  intro a ha
  have k := k a ha
  obtain ⟨p, l, e, R, s, m, args, below, meth, c⟩ := X
  intro F H locs ls hw hS hl hL hst
  obtain ⟨hx, hb, hml, hown, hts, hr, hlk, hK, hrm⟩ := id F
  refine lv_istore_n hx hb hd hi hl hn (mLs_st hL') (fun ls' hl' => ?_)
  exact k F H locs ls' hw hS hl' (fun q hq => by
    rw [← hL'] at hq
    rcases List.mem_cons.mp hq with rfl | hq
    · exact hst _ List.mem_cons_self
    · exact hL q (List.mem_filter.mp hq).1) (fun w hq => hst w (List.mem_cons_of_mem _ hq))
theorem s_istore {i : Nat} {x : Int32} {L' : List (Nat × mV)} (hn : i < nL) (hL' : (i, .inl x) :: L.filter (fun q => !(q.1 == i) && !(q.1 + 1 == i && mCat q.2 == 2)) = L') (hd : decode cc pc = .ok (.istore i, 2))
    (k : Sim G X cc nL own rt rm em f (pc + 2) L' st h) : Sim G X cc nL own rt rm em f pc L (.inl x :: st) h := by
  intro a ha
  have k := k a ha
  obtain ⟨p, l, e, R, s, m, args, below, meth, c⟩ := X
  intro F H locs ls hw hS hl hL hst
  obtain ⟨hx, hb, hml, hown, hts, hr, hlk, hK, hrm⟩ := id F
  refine lv_istore hx hb hd hl hn (mLs_st hL') (fun ls' hl' => ?_)
  exact k F H locs ls' hw hS hl' (fun q hq => by
    rw [← hL'] at hq
    rcases List.mem_cons.mp hq with rfl | hq
    · exact hst _ List.mem_cons_self
    · exact hL q (List.mem_filter.mp hq).1) (fun w hq => hst w (List.mem_cons_of_mem _ hq))
theorem s_astore_n {n : Fin 4} {i : Nat} {x : mR} {L' : List (Nat × mV)} (hi : (n : Nat) = i) (hn : i < nL) (hL' : (i, .inr (.inr x)) :: L.filter (fun q => !(q.1 == i) && !(q.1 + 1 == i && mCat q.2 == 2)) = L') (hd : decode cc pc = .ok (.astore_n n, 1))
    (k : Sim G X cc nL own rt rm em f (pc + 1) L' st h) : Sim G X cc nL own rt rm em f pc L (.inr (.inr x) :: st) h := by
  intro a ha
  have k := k a ha
  obtain ⟨p, l, e, R, s, m, args, below, meth, c⟩ := X
  intro F H locs ls hw hS hl hL hst
  obtain ⟨hx, hb, hml, hown, hts, hr, hlk, hK, hrm⟩ := id F
  refine lv_astore_n hx hb hd hi hl hn (mLs_st hL') (fun ls' hl' => ?_)
  exact k F H locs ls' hw hS hl' (fun q hq => by
    rw [← hL'] at hq
    rcases List.mem_cons.mp hq with rfl | hq
    · exact hst _ List.mem_cons_self
    · exact hL q (List.mem_filter.mp hq).1) (fun w hq => hst w (List.mem_cons_of_mem _ hq))
theorem s_astore {i : Nat} {x : mR} {L' : List (Nat × mV)} (hn : i < nL) (hL' : (i, .inr (.inr x)) :: L.filter (fun q => !(q.1 == i) && !(q.1 + 1 == i && mCat q.2 == 2)) = L') (hd : decode cc pc = .ok (.astore i, 2))
    (k : Sim G X cc nL own rt rm em f (pc + 2) L' st h) : Sim G X cc nL own rt rm em f pc L (.inr (.inr x) :: st) h := by
  intro a ha
  have k := k a ha
  obtain ⟨p, l, e, R, s, m, args, below, meth, c⟩ := X
  intro F H locs ls hw hS hl hL hst
  obtain ⟨hx, hb, hml, hown, hts, hr, hlk, hK, hrm⟩ := id F
  refine lv_astore hx hb hd hl hn (mLs_st hL') (fun ls' hl' => ?_)
  exact k F H locs ls' hw hS hl' (fun q hq => by
    rw [← hL'] at hq
    rcases List.mem_cons.mp hq with rfl | hq
    · exact hst _ List.mem_cons_self
    · exact hL q (List.mem_filter.mp hq).1) (fun w hq => hst w (List.mem_cons_of_mem _ hq))
theorem s_lstore_n {n : Fin 4} {i : Nat} {x : Int64} {L' : List (Nat × mV)} (hi : (n : Nat) = i) (hn : i + 1 < nL) (hL' : (i, .inr (.inl x)) :: L.filter (fun q => !(q.1 == i) && (!(q.1 == i + 1) && !(q.1 + 1 == i && mCat q.2 == 2))) = L') (hd : decode cc pc = .ok (.lstore_n n, 1))
    (k : Sim G X cc nL own rt rm em f (pc + 1) L' st h) : Sim G X cc nL own rt rm em f pc L (.inr (.inl x) :: st) h := by
  intro a ha
  have k := k a ha
  obtain ⟨p, l, e, R, s, m, args, below, meth, c⟩ := X
  intro F H locs ls hw hS hl hL hst
  obtain ⟨hx, hb, hml, hown, hts, hr, hlk, hK, hrm⟩ := id F
  refine lv_lstore_n hx hb hd hi hl hn (mLs_st2 hL') (fun ls' hl' => ?_)
  exact k F H locs ls' hw hS hl' (fun q hq => by
    rw [← hL'] at hq
    rcases List.mem_cons.mp hq with rfl | hq
    · exact hst _ List.mem_cons_self
    · exact hL q (List.mem_filter.mp hq).1) (fun w hq => hst w (List.mem_cons_of_mem _ hq))
theorem s_lstore {i : Nat} {x : Int64} {L' : List (Nat × mV)} (hn : i + 1 < nL) (hL' : (i, .inr (.inl x)) :: L.filter (fun q => !(q.1 == i) && (!(q.1 == i + 1) && !(q.1 + 1 == i && mCat q.2 == 2))) = L') (hd : decode cc pc = .ok (.lstore i, 2))
    (k : Sim G X cc nL own rt rm em f (pc + 2) L' st h) : Sim G X cc nL own rt rm em f pc L (.inr (.inl x) :: st) h := by
  intro a ha
  have k := k a ha
  obtain ⟨p, l, e, R, s, m, args, below, meth, c⟩ := X
  intro F H locs ls hw hS hl hL hst
  obtain ⟨hx, hb, hml, hown, hts, hr, hlk, hK, hrm⟩ := id F
  refine lv_lstore hx hb hd hl hn (mLs_st2 hL') (fun ls' hl' => ?_)
  exact k F H locs ls' hw hS hl' (fun q hq => by
    rw [← hL'] at hq
    rcases List.mem_cons.mp hq with rfl | hq
    · exact hst _ List.mem_cons_self
    · exact hL q (List.mem_filter.mp hq).1) (fun w hq => hst w (List.mem_cons_of_mem _ hq))
theorem s_iinc {i : Nat} {n : Int} {x v : Int32} {L' : List (Nat × mV)} (q : Nat) (hq : L[q]? = some (i, .inl x)) (hv : Int32.ofInt n = v) (hn : i < nL) (hL' : (i, .inl (x + v)) :: L.filter (fun q => !(q.1 == i) && !(q.1 + 1 == i && mCat q.2 == 2)) = L') (hd : decode cc pc = .ok (.iinc i n, 3))
    (k : Sim G X cc nL own rt rm em f (pc + 3) L' st h) : Sim G X cc nL own rt rm em f pc L st h := by
  intro a ha
  have k := k a ha
  obtain ⟨p, l, e, R, s, m, args, below, meth, c⟩ := X
  intro F H locs ls hw hS hl hL hst
  obtain ⟨hx, hb, hml, hown, hts, hr, hlk, hK, hrm⟩ := id F
  subst hv
  refine lv_iinc (k := q) hx hb hd hl (by rw [mLs, List.getElem?_map, hq]; rfl) rfl hn (mLs_st hL') (fun ls' hl' => ?_)
  exact k F H locs ls' hw hS hl' (fun q hq => by
    rw [← hL'] at hq
    rcases List.mem_cons.mp hq with rfl | hq
    · exact trivial
    · exact hL q (List.mem_filter.mp hq).1) hst
theorem s_iadd {x y : Int32} (hd : decode cc pc = .ok (.iadd, 1))
    (k : Sim G X cc nL own rt rm em f (pc + 1) L (.inl (x + y) :: st) h) : Sim G X cc nL own rt rm em f pc L (.inl y :: .inl x :: st) h := by
  intro a ha
  have k := k a ha
  obtain ⟨p, l, e, R, s, m, args, below, meth, c⟩ := X
  intro F H locs ls hw hS hl hL hst
  have k := k F H locs ls hw hS hl hL
  obtain ⟨hx, hb, hml, hown, hts, hr, hlk, hK, hrm⟩ := id F
  exact lv_iadd hx hb hd (k (fun w hq => by rcases List.mem_cons.mp hq with rfl | hq; exact trivial; exact hst w (List.mem_cons_of_mem _ (List.mem_cons_of_mem _ (hq)))))
theorem s_isub {x y : Int32} (hd : decode cc pc = .ok (.isub, 1))
    (k : Sim G X cc nL own rt rm em f (pc + 1) L (.inl (x - y) :: st) h) : Sim G X cc nL own rt rm em f pc L (.inl y :: .inl x :: st) h := by
  intro a ha
  have k := k a ha
  obtain ⟨p, l, e, R, s, m, args, below, meth, c⟩ := X
  intro F H locs ls hw hS hl hL hst
  have k := k F H locs ls hw hS hl hL
  obtain ⟨hx, hb, hml, hown, hts, hr, hlk, hK, hrm⟩ := id F
  exact lv_isub hx hb hd (k (fun w hq => by rcases List.mem_cons.mp hq with rfl | hq; exact trivial; exact hst w (List.mem_cons_of_mem _ (List.mem_cons_of_mem _ (hq)))))
theorem s_imul {x y : Int32} (hd : decode cc pc = .ok (.imul, 1))
    (k : Sim G X cc nL own rt rm em f (pc + 1) L (.inl (x * y) :: st) h) : Sim G X cc nL own rt rm em f pc L (.inl y :: .inl x :: st) h := by
  intro a ha
  have k := k a ha
  obtain ⟨p, l, e, R, s, m, args, below, meth, c⟩ := X
  intro F H locs ls hw hS hl hL hst
  have k := k F H locs ls hw hS hl hL
  obtain ⟨hx, hb, hml, hown, hts, hr, hlk, hK, hrm⟩ := id F
  exact lv_imul hx hb hd (k (fun w hq => by rcases List.mem_cons.mp hq with rfl | hq; exact trivial; exact hst w (List.mem_cons_of_mem _ (List.mem_cons_of_mem _ (hq)))))
theorem s_iand {x y : Int32} (hd : decode cc pc = .ok (.iand, 1))
    (k : Sim G X cc nL own rt rm em f (pc + 1) L (.inl (x &&& y) :: st) h) : Sim G X cc nL own rt rm em f pc L (.inl y :: .inl x :: st) h := by
  intro a ha
  have k := k a ha
  obtain ⟨p, l, e, R, s, m, args, below, meth, c⟩ := X
  intro F H locs ls hw hS hl hL hst
  have k := k F H locs ls hw hS hl hL
  obtain ⟨hx, hb, hml, hown, hts, hr, hlk, hK, hrm⟩ := id F
  exact lv_iand hx hb hd (k (fun w hq => by rcases List.mem_cons.mp hq with rfl | hq; exact trivial; exact hst w (List.mem_cons_of_mem _ (List.mem_cons_of_mem _ (hq)))))
theorem s_ior {x y : Int32} (hd : decode cc pc = .ok (.ior, 1))
    (k : Sim G X cc nL own rt rm em f (pc + 1) L (.inl (x ||| y) :: st) h) : Sim G X cc nL own rt rm em f pc L (.inl y :: .inl x :: st) h := by
  intro a ha
  have k := k a ha
  obtain ⟨p, l, e, R, s, m, args, below, meth, c⟩ := X
  intro F H locs ls hw hS hl hL hst
  have k := k F H locs ls hw hS hl hL
  obtain ⟨hx, hb, hml, hown, hts, hr, hlk, hK, hrm⟩ := id F
  exact lv_ior hx hb hd (k (fun w hq => by rcases List.mem_cons.mp hq with rfl | hq; exact trivial; exact hst w (List.mem_cons_of_mem _ (List.mem_cons_of_mem _ (hq)))))
theorem s_ixor {x y : Int32} (hd : decode cc pc = .ok (.ixor, 1))
    (k : Sim G X cc nL own rt rm em f (pc + 1) L (.inl (x ^^^ y) :: st) h) : Sim G X cc nL own rt rm em f pc L (.inl y :: .inl x :: st) h := by
  intro a ha
  have k := k a ha
  obtain ⟨p, l, e, R, s, m, args, below, meth, c⟩ := X
  intro F H locs ls hw hS hl hL hst
  have k := k F H locs ls hw hS hl hL
  obtain ⟨hx, hb, hml, hown, hts, hr, hlk, hK, hrm⟩ := id F
  exact lv_ixor hx hb hd (k (fun w hq => by rcases List.mem_cons.mp hq with rfl | hq; exact trivial; exact hst w (List.mem_cons_of_mem _ (List.mem_cons_of_mem _ (hq)))))
theorem s_ishl {x y : Int32} (hd : decode cc pc = .ok (.ishl, 1))
    (k : Sim G X cc nL own rt rm em f (pc + 1) L (.inl (x <<< (y &&& 31)) :: st) h) : Sim G X cc nL own rt rm em f pc L (.inl y :: .inl x :: st) h := by
  intro a ha
  have k := k a ha
  obtain ⟨p, l, e, R, s, m, args, below, meth, c⟩ := X
  intro F H locs ls hw hS hl hL hst
  have k := k F H locs ls hw hS hl hL
  obtain ⟨hx, hb, hml, hown, hts, hr, hlk, hK, hrm⟩ := id F
  exact lv_ishl hx hb hd (k (fun w hq => by rcases List.mem_cons.mp hq with rfl | hq; exact trivial; exact hst w (List.mem_cons_of_mem _ (List.mem_cons_of_mem _ (hq)))))
theorem s_ishr {x y : Int32} (hd : decode cc pc = .ok (.ishr, 1))
    (k : Sim G X cc nL own rt rm em f (pc + 1) L (.inl (x >>> (y &&& 31)) :: st) h) : Sim G X cc nL own rt rm em f pc L (.inl y :: .inl x :: st) h := by
  intro a ha
  have k := k a ha
  obtain ⟨p, l, e, R, s, m, args, below, meth, c⟩ := X
  intro F H locs ls hw hS hl hL hst
  have k := k F H locs ls hw hS hl hL
  obtain ⟨hx, hb, hml, hown, hts, hr, hlk, hK, hrm⟩ := id F
  exact lv_ishr hx hb hd (k (fun w hq => by rcases List.mem_cons.mp hq with rfl | hq; exact trivial; exact hst w (List.mem_cons_of_mem _ (List.mem_cons_of_mem _ (hq)))))
theorem s_land {x y : Int64} (hd : decode cc pc = .ok (.land, 1))
    (k : Sim G X cc nL own rt rm em f (pc + 1) L (.inr (.inl (x &&& y)) :: st) h) : Sim G X cc nL own rt rm em f pc L (.inr (.inl y) :: .inr (.inl x) :: st) h := by
  intro a ha
  have k := k a ha
  obtain ⟨p, l, e, R, s, m, args, below, meth, c⟩ := X
  intro F H locs ls hw hS hl hL hst
  have k := k F H locs ls hw hS hl hL
  obtain ⟨hx, hb, hml, hown, hts, hr, hlk, hK, hrm⟩ := id F
  exact lv_land hx hb hd (k (fun w hq => by rcases List.mem_cons.mp hq with rfl | hq; exact trivial; exact hst w (List.mem_cons_of_mem _ (List.mem_cons_of_mem _ (hq)))))
theorem s_lor {x y : Int64} (hd : decode cc pc = .ok (.lor, 1))
    (k : Sim G X cc nL own rt rm em f (pc + 1) L (.inr (.inl (x ||| y)) :: st) h) : Sim G X cc nL own rt rm em f pc L (.inr (.inl y) :: .inr (.inl x) :: st) h := by
  intro a ha
  have k := k a ha
  obtain ⟨p, l, e, R, s, m, args, below, meth, c⟩ := X
  intro F H locs ls hw hS hl hL hst
  have k := k F H locs ls hw hS hl hL
  obtain ⟨hx, hb, hml, hown, hts, hr, hlk, hK, hrm⟩ := id F
  exact lv_lor hx hb hd (k (fun w hq => by rcases List.mem_cons.mp hq with rfl | hq; exact trivial; exact hst w (List.mem_cons_of_mem _ (List.mem_cons_of_mem _ (hq)))))
theorem s_lshl {x : Int64} {y : Int32} (hd : decode cc pc = .ok (.lshl, 1))
    (k : Sim G X cc nL own rt rm em f (pc + 1) L (.inr (.inl (x <<< (y.toInt64 &&& 63))) :: st) h) : Sim G X cc nL own rt rm em f pc L (.inl y :: .inr (.inl x) :: st) h := by
  intro a ha
  have k := k a ha
  obtain ⟨p, l, e, R, s, m, args, below, meth, c⟩ := X
  intro F H locs ls hw hS hl hL hst
  have k := k F H locs ls hw hS hl hL
  obtain ⟨hx, hb, hml, hown, hts, hr, hlk, hK, hrm⟩ := id F
  exact lv_lshl hx hb hd rfl (k (fun w hq => by rcases List.mem_cons.mp hq with rfl | hq; exact trivial; exact hst w (List.mem_cons_of_mem _ (List.mem_cons_of_mem _ (hq)))))
theorem s_lcmp {x y : Int64} (hd : decode cc pc = .ok (.lcmp, 1))
    (k : Sim G X cc nL own rt rm em f (pc + 1) L (.inl (lg_cmp x y) :: st) h) : Sim G X cc nL own rt rm em f pc L (.inr (.inl y) :: .inr (.inl x) :: st) h := by
  intro a ha
  have k := k a ha
  obtain ⟨p, l, e, R, s, m, args, below, meth, c⟩ := X
  intro F H locs ls hw hS hl hL hst
  have k := k F H locs ls hw hS hl hL
  obtain ⟨hx, hb, hml, hown, hts, hr, hlk, hK, hrm⟩ := id F
  exact W.lcmp hx hb hd (k (fun w hq => by rcases List.mem_cons.mp hq with rfl | hq; exact trivial; exact hst w (List.mem_cons_of_mem _ (List.mem_cons_of_mem _ (hq)))))
theorem s_i2l {x : Int32} (hd : decode cc pc = .ok (.i2l, 1))
    (k : Sim G X cc nL own rt rm em f (pc + 1) L (.inr (.inl x.toInt64) :: st) h) : Sim G X cc nL own rt rm em f pc L (.inl x :: st) h := by
  intro a ha
  have k := k a ha
  obtain ⟨p, l, e, R, s, m, args, below, meth, c⟩ := X
  intro F H locs ls hw hS hl hL hst
  have k := k F H locs ls hw hS hl hL
  obtain ⟨hx, hb, hml, hown, hts, hr, hlk, hK, hrm⟩ := id F
  exact lv_i2l hx hb hd rfl (k (fun w hq => by rcases List.mem_cons.mp hq with rfl | hq; exact trivial; exact hst w (List.mem_cons_of_mem _ (hq))))
theorem s_l2i {x : Int64} (hd : decode cc pc = .ok (.l2i, 1))
    (k : Sim G X cc nL own rt rm em f (pc + 1) L (.inl x.toInt32 :: st) h) : Sim G X cc nL own rt rm em f pc L (.inr (.inl x) :: st) h := by
  intro a ha
  have k := k a ha
  obtain ⟨p, l, e, R, s, m, args, below, meth, c⟩ := X
  intro F H locs ls hw hS hl hL hst
  have k := k F H locs ls hw hS hl hL
  obtain ⟨hx, hb, hml, hown, hts, hr, hlk, hK, hrm⟩ := id F
  exact lv_l2i hx hb hd rfl (k (fun w hq => by rcases List.mem_cons.mp hq with rfl | hq; exact trivial; exact hst w (List.mem_cons_of_mem _ (hq))))
theorem s_i2b {x : Int32} (hd : decode cc pc = .ok (.i2b, 1))
    (k : Sim G X cc nL own rt rm em f (pc + 1) L (.inl x.toInt8.toInt32 :: st) h) : Sim G X cc nL own rt rm em f pc L (.inl x :: st) h := by
  intro a ha
  have k := k a ha
  obtain ⟨p, l, e, R, s, m, args, below, meth, c⟩ := X
  intro F H locs ls hw hS hl hL hst
  have k := k F H locs ls hw hS hl hL
  obtain ⟨hx, hb, hml, hown, hts, hr, hlk, hK, hrm⟩ := id F
  exact lv_i2b hx hb hd rfl (k (fun w hq => by rcases List.mem_cons.mp hq with rfl | hq; exact trivial; exact hst w (List.mem_cons_of_mem _ (hq))))
theorem s_i2s {x : Int32} (hd : decode cc pc = .ok (.i2s, 1))
    (k : Sim G X cc nL own rt rm em f (pc + 1) L (.inl x.toInt16.toInt32 :: st) h) : Sim G X cc nL own rt rm em f pc L (.inl x :: st) h := by
  intro a ha
  have k := k a ha
  obtain ⟨p, l, e, R, s, m, args, below, meth, c⟩ := X
  intro F H locs ls hw hS hl hL hst
  have k := k F H locs ls hw hS hl hL
  obtain ⟨hx, hb, hml, hown, hts, hr, hlk, hK, hrm⟩ := id F
  exact lv_i2s hx hb hd rfl (k (fun w hq => by rcases List.mem_cons.mp hq with rfl | hq; exact trivial; exact hst w (List.mem_cons_of_mem _ (hq))))
theorem s_dup {v : mV} (hv : mCat v = 1) (hd : decode cc pc = .ok (.dup, 1))
    (k : Sim G X cc nL own rt rm em f (pc + 1) L (v :: v :: st) h) : Sim G X cc nL own rt rm em f pc L (v :: st) h := by
  intro a ha
  have k := k a ha
  obtain ⟨p, l, e, R, s, m, args, below, meth, c⟩ := X
  intro F H locs ls hw hS hl hL hst
  have k := k F H locs ls hw hS hl hL
  obtain ⟨hx, hb, hml, hown, hts, hr, hlk, hK, hrm⟩ := id F
  exact lv_dup hx hb hd (by rw [mC_cat]; exact hv) (k (fun w hq => by rcases List.mem_cons.mp hq with rfl | hq; exact hst _ List.mem_cons_self; exact hst w hq))
theorem s_dup2 {v w : mV} (hv : mCat v = 1) (hv2 : mCat w = 1) (hd : decode cc pc = .ok (.dup2, 1))
    (k : Sim G X cc nL own rt rm em f (pc + 1) L (v :: w :: v :: w :: st) h) : Sim G X cc nL own rt rm em f pc L (v :: w :: st) h := by
  intro a ha
  have k := k a ha
  obtain ⟨p, l, e, R, s, m, args, below, meth, c⟩ := X
  intro F H locs ls hw hS hl hL hst
  have k := k F H locs ls hw hS hl hL
  obtain ⟨hx, hb, hml, hown, hts, hr, hlk, hK, hrm⟩ := id F
  exact lv_dup2_11 hx hb hd (by rw [mC_cat]; exact hv) (by rw [mC_cat]; exact hv2) (k (fun u hq => by rcases List.mem_cons.mp hq with rfl | hq; exact hst _ List.mem_cons_self; rcases List.mem_cons.mp hq with rfl | hq; exact hst _ (List.mem_cons_of_mem _ List.mem_cons_self); exact hst u hq))
theorem s_goto {off : Int} {tgt : Nat} (hd : decode cc pc = .ok (.goto off, 3)) (ht : (pc : Int) + off = (tgt : Int))
    (k : Sim G X cc nL own rt rm em f tgt L st h) : Sim G X cc nL own rt rm em f pc L st h := by
  intro a ha
  have k := k a ha
  obtain ⟨p, l, e, R, s, m, args, below, meth, c⟩ := X
  intro F H locs ls hw hS hl hL hst
  obtain ⟨hx, hb, hml, hown, hts, hr, hlk, hK, hrm⟩ := id F
  exact lv_goto hx hb hd ht (k F H locs ls hw hS hl hL hst)
theorem s_if_eq {x : Int32} {ft ff : Option α} {off : Int} {tgt : Nat} (hd : decode cc pc = .ok (.ifCond .eq off, 3)) (ht : (pc : Int) + off = (tgt : Int))
    (kt : x = 0 → Sim G X cc nL own rt rm em ft tgt L st h) (kf : ¬ (x = 0) → Sim G X cc nL own rt rm em ff (pc + 3) L st h) : Sim G X cc nL own rt rm em (if x = 0 then ft else ff) pc L (.inl x :: st) h := by
  intro a ha
  obtain ⟨p, l, e, R, s, m, args, below, meth, c⟩ := X
  intro F H locs ls hw hS hl hL hst
  obtain ⟨hx, hb, hml, hown, hts, hr, hlk, hK, hrm⟩ := id F
  refine lv_if_eq hx hb hd ht (fun q => ?_) (fun q => ?_)
  · have q2 : x = 0 := by first | exact q | exact Int32.not_lt.mp q | exact Int32.not_le.mp q | exact Int32.not_lt.mpr q | exact Int32.not_le.mpr q | exact not_not_intro q
    exact kt q2 a (by rw [if_pos q2] at ha; exact ha) F H locs ls hw hS hl hL (fun w hq => hst w (List.mem_cons_of_mem _ hq))
  · have q2 : ¬ (x = 0) := by first | exact q | exact Int32.not_lt.mp q | exact Int32.not_le.mp q | exact Int32.not_lt.mpr q | exact Int32.not_le.mpr q | exact not_not_intro q
    exact kf q2 a (by rw [if_neg q2] at ha; exact ha) F H locs ls hw hS hl hL (fun w hq => hst w (List.mem_cons_of_mem _ hq))
theorem s_if_ne {x : Int32} {ft ff : Option α} {off : Int} {tgt : Nat} (hd : decode cc pc = .ok (.ifCond .ne off, 3)) (ht : (pc : Int) + off = (tgt : Int))
    (kt : ¬ (x = 0) → Sim G X cc nL own rt rm em ft tgt L st h) (kf : x = 0 → Sim G X cc nL own rt rm em ff (pc + 3) L st h) : Sim G X cc nL own rt rm em (if x = 0 then ff else ft) pc L (.inl x :: st) h := by
  intro a ha
  obtain ⟨p, l, e, R, s, m, args, below, meth, c⟩ := X
  intro F H locs ls hw hS hl hL hst
  obtain ⟨hx, hb, hml, hown, hts, hr, hlk, hK, hrm⟩ := id F
  refine lv_if_ne hx hb hd ht (fun q => ?_) (fun q => ?_)
  · have q2 : ¬ (x = 0) := by first | exact q | exact Int32.not_lt.mp q | exact Int32.not_le.mp q | exact Int32.not_lt.mpr q | exact Int32.not_le.mpr q | exact not_not_intro q
    exact kt q2 a (by rw [if_neg q2] at ha; exact ha) F H locs ls hw hS hl hL (fun w hq => hst w (List.mem_cons_of_mem _ hq))
  · have q2 : x = 0 := by first | exact q | exact Int32.not_lt.mp q | exact Int32.not_le.mp q | exact Int32.not_lt.mpr q | exact Int32.not_le.mpr q | exact not_not_intro q
    exact kf q2 a (by rw [if_pos q2] at ha; exact ha) F H locs ls hw hS hl hL (fun w hq => hst w (List.mem_cons_of_mem _ hq))
theorem s_if_lt {x : Int32} {ft ff : Option α} {off : Int} {tgt : Nat} (hd : decode cc pc = .ok (.ifCond .lt off, 3)) (ht : (pc : Int) + off = (tgt : Int))
    (kt : x < 0 → Sim G X cc nL own rt rm em ft tgt L st h) (kf : ¬ (x < 0) → Sim G X cc nL own rt rm em ff (pc + 3) L st h) : Sim G X cc nL own rt rm em (if x < 0 then ft else ff) pc L (.inl x :: st) h := by
  intro a ha
  obtain ⟨p, l, e, R, s, m, args, below, meth, c⟩ := X
  intro F H locs ls hw hS hl hL hst
  obtain ⟨hx, hb, hml, hown, hts, hr, hlk, hK, hrm⟩ := id F
  refine lv_if_lt hx hb hd ht (fun q => ?_) (fun q => ?_)
  · have q2 : x < 0 := by first | exact q | exact Int32.not_lt.mp q | exact Int32.not_le.mp q | exact Int32.not_lt.mpr q | exact Int32.not_le.mpr q | exact not_not_intro q
    exact kt q2 a (by rw [if_pos q2] at ha; exact ha) F H locs ls hw hS hl hL (fun w hq => hst w (List.mem_cons_of_mem _ hq))
  · have q2 : ¬ (x < 0) := by first | exact q | exact Int32.not_lt.mp q | exact Int32.not_le.mp q | exact Int32.not_lt.mpr q | exact Int32.not_le.mpr q | exact not_not_intro q
    exact kf q2 a (by rw [if_neg q2] at ha; exact ha) F H locs ls hw hS hl hL (fun w hq => hst w (List.mem_cons_of_mem _ hq))
theorem s_if_ge {x : Int32} {ft ff : Option α} {off : Int} {tgt : Nat} (hd : decode cc pc = .ok (.ifCond .ge off, 3)) (ht : (pc : Int) + off = (tgt : Int))
    (kt : ¬ (x < 0) → Sim G X cc nL own rt rm em ft tgt L st h) (kf : x < 0 → Sim G X cc nL own rt rm em ff (pc + 3) L st h) : Sim G X cc nL own rt rm em (if x < 0 then ff else ft) pc L (.inl x :: st) h := by
  intro a ha
  obtain ⟨p, l, e, R, s, m, args, below, meth, c⟩ := X
  intro F H locs ls hw hS hl hL hst
  obtain ⟨hx, hb, hml, hown, hts, hr, hlk, hK, hrm⟩ := id F
  refine lv_if_ge hx hb hd ht (fun q => ?_) (fun q => ?_)
  · have q2 : ¬ (x < 0) := by first | exact q | exact Int32.not_lt.mp q | exact Int32.not_le.mp q | exact Int32.not_lt.mpr q | exact Int32.not_le.mpr q | exact not_not_intro q
    exact kt q2 a (by rw [if_neg q2] at ha; exact ha) F H locs ls hw hS hl hL (fun w hq => hst w (List.mem_cons_of_mem _ hq))
  · have q2 : x < 0 := by first | exact q | exact Int32.not_lt.mp q | exact Int32.not_le.mp q | exact Int32.not_lt.mpr q | exact Int32.not_le.mpr q | exact not_not_intro q
    exact kf q2 a (by rw [if_pos q2] at ha; exact ha) F H locs ls hw hS hl hL (fun w hq => hst w (List.mem_cons_of_mem _ hq))
theorem s_if_gt {x : Int32} {ft ff : Option α} {off : Int} {tgt : Nat} (hd : decode cc pc = .ok (.ifCond .gt off, 3)) (ht : (pc : Int) + off = (tgt : Int))
    (kt : ¬ (x ≤ 0) → Sim G X cc nL own rt rm em ft tgt L st h) (kf : x ≤ 0 → Sim G X cc nL own rt rm em ff (pc + 3) L st h) : Sim G X cc nL own rt rm em (if x ≤ 0 then ff else ft) pc L (.inl x :: st) h := by
  intro a ha
  obtain ⟨p, l, e, R, s, m, args, below, meth, c⟩ := X
  intro F H locs ls hw hS hl hL hst
  obtain ⟨hx, hb, hml, hown, hts, hr, hlk, hK, hrm⟩ := id F
  refine lv_if_gt hx hb hd ht (fun q => ?_) (fun q => ?_)
  · have q2 : ¬ (x ≤ 0) := by first | exact q | exact Int32.not_lt.mp q | exact Int32.not_le.mp q | exact Int32.not_lt.mpr q | exact Int32.not_le.mpr q | exact not_not_intro q
    exact kt q2 a (by rw [if_neg q2] at ha; exact ha) F H locs ls hw hS hl hL (fun w hq => hst w (List.mem_cons_of_mem _ hq))
  · have q2 : x ≤ 0 := by first | exact q | exact Int32.not_lt.mp q | exact Int32.not_le.mp q | exact Int32.not_lt.mpr q | exact Int32.not_le.mpr q | exact not_not_intro q
    exact kf q2 a (by rw [if_pos q2] at ha; exact ha) F H locs ls hw hS hl hL (fun w hq => hst w (List.mem_cons_of_mem _ hq))
theorem s_if_le {x : Int32} {ft ff : Option α} {off : Int} {tgt : Nat} (hd : decode cc pc = .ok (.ifCond .le off, 3)) (ht : (pc : Int) + off = (tgt : Int))
    (kt : x ≤ 0 → Sim G X cc nL own rt rm em ft tgt L st h) (kf : ¬ (x ≤ 0) → Sim G X cc nL own rt rm em ff (pc + 3) L st h) : Sim G X cc nL own rt rm em (if x ≤ 0 then ft else ff) pc L (.inl x :: st) h := by
  intro a ha
  obtain ⟨p, l, e, R, s, m, args, below, meth, c⟩ := X
  intro F H locs ls hw hS hl hL hst
  obtain ⟨hx, hb, hml, hown, hts, hr, hlk, hK, hrm⟩ := id F
  refine lv_if_le hx hb hd ht (fun q => ?_) (fun q => ?_)
  · have q2 : x ≤ 0 := by first | exact q | exact Int32.not_lt.mp q | exact Int32.not_le.mp q | exact Int32.not_lt.mpr q | exact Int32.not_le.mpr q | exact not_not_intro q
    exact kt q2 a (by rw [if_pos q2] at ha; exact ha) F H locs ls hw hS hl hL (fun w hq => hst w (List.mem_cons_of_mem _ hq))
  · have q2 : ¬ (x ≤ 0) := by first | exact q | exact Int32.not_lt.mp q | exact Int32.not_le.mp q | exact Int32.not_lt.mpr q | exact Int32.not_le.mpr q | exact not_not_intro q
    exact kf q2 a (by rw [if_neg q2] at ha; exact ha) F H locs ls hw hS hl hL (fun w hq => hst w (List.mem_cons_of_mem _ hq))
theorem s_ic_eq {x y : Int32} {ft ff : Option α} {off : Int} {tgt : Nat} (hd : decode cc pc = .ok (.if_icmp .eq off, 3)) (ht : (pc : Int) + off = (tgt : Int))
    (kt : x = y → Sim G X cc nL own rt rm em ft tgt L st h) (kf : ¬ (x = y) → Sim G X cc nL own rt rm em ff (pc + 3) L st h) : Sim G X cc nL own rt rm em (if x = y then ft else ff) pc L (.inl y :: .inl x :: st) h := by
  intro a ha
  obtain ⟨p, l, e, R, s, m, args, below, meth, c⟩ := X
  intro F H locs ls hw hS hl hL hst
  obtain ⟨hx, hb, hml, hown, hts, hr, hlk, hK, hrm⟩ := id F
  refine lv_icmp_eq hx hb hd ht (fun q => ?_) (fun q => ?_)
  · have q2 : x = y := by first | exact q | exact Int32.not_lt.mp q | exact Int32.not_le.mp q | exact Int32.not_lt.mpr q | exact Int32.not_le.mpr q | exact not_not_intro q
    exact kt q2 a (by rw [if_pos q2] at ha; exact ha) F H locs ls hw hS hl hL (fun w hq => hst w (List.mem_cons_of_mem _ (List.mem_cons_of_mem _ hq)))
  · have q2 : ¬ (x = y) := by first | exact q | exact Int32.not_lt.mp q | exact Int32.not_le.mp q | exact Int32.not_lt.mpr q | exact Int32.not_le.mpr q | exact not_not_intro q
    exact kf q2 a (by rw [if_neg q2] at ha; exact ha) F H locs ls hw hS hl hL (fun w hq => hst w (List.mem_cons_of_mem _ (List.mem_cons_of_mem _ hq)))
theorem s_ic_ne {x y : Int32} {ft ff : Option α} {off : Int} {tgt : Nat} (hd : decode cc pc = .ok (.if_icmp .ne off, 3)) (ht : (pc : Int) + off = (tgt : Int))
    (kt : ¬ (x = y) → Sim G X cc nL own rt rm em ft tgt L st h) (kf : x = y → Sim G X cc nL own rt rm em ff (pc + 3) L st h) : Sim G X cc nL own rt rm em (if x = y then ff else ft) pc L (.inl y :: .inl x :: st) h := by
  intro a ha
  obtain ⟨p, l, e, R, s, m, args, below, meth, c⟩ := X
  intro F H locs ls hw hS hl hL hst
  obtain ⟨hx, hb, hml, hown, hts, hr, hlk, hK, hrm⟩ := id F
  refine lv_icmp_ne hx hb hd ht (fun q => ?_) (fun q => ?_)
  · have q2 : ¬ (x = y) := by first | exact q | exact Int32.not_lt.mp q | exact Int32.not_le.mp q | exact Int32.not_lt.mpr q | exact Int32.not_le.mpr q | exact not_not_intro q
    exact kt q2 a (by rw [if_neg q2] at ha; exact ha) F H locs ls hw hS hl hL (fun w hq => hst w (List.mem_cons_of_mem _ (List.mem_cons_of_mem _ hq)))
  · have q2 : x = y := by first | exact q | exact Int32.not_lt.mp q | exact Int32.not_le.mp q | exact Int32.not_lt.mpr q | exact Int32.not_le.mpr q | exact not_not_intro q
    exact kf q2 a (by rw [if_pos q2] at ha; exact ha) F H locs ls hw hS hl hL (fun w hq => hst w (List.mem_cons_of_mem _ (List.mem_cons_of_mem _ hq)))
theorem s_ic_lt {x y : Int32} {ft ff : Option α} {off : Int} {tgt : Nat} (hd : decode cc pc = .ok (.if_icmp .lt off, 3)) (ht : (pc : Int) + off = (tgt : Int))
    (kt : x < y → Sim G X cc nL own rt rm em ft tgt L st h) (kf : ¬ (x < y) → Sim G X cc nL own rt rm em ff (pc + 3) L st h) : Sim G X cc nL own rt rm em (if x < y then ft else ff) pc L (.inl y :: .inl x :: st) h := by
  intro a ha
  obtain ⟨p, l, e, R, s, m, args, below, meth, c⟩ := X
  intro F H locs ls hw hS hl hL hst
  obtain ⟨hx, hb, hml, hown, hts, hr, hlk, hK, hrm⟩ := id F
  refine lv_icmp_lt hx hb hd ht (fun q => ?_) (fun q => ?_)
  · have q2 : x < y := by first | exact q | exact Int32.not_lt.mp q | exact Int32.not_le.mp q | exact Int32.not_lt.mpr q | exact Int32.not_le.mpr q | exact not_not_intro q
    exact kt q2 a (by rw [if_pos q2] at ha; exact ha) F H locs ls hw hS hl hL (fun w hq => hst w (List.mem_cons_of_mem _ (List.mem_cons_of_mem _ hq)))
  · have q2 : ¬ (x < y) := by first | exact q | exact Int32.not_lt.mp q | exact Int32.not_le.mp q | exact Int32.not_lt.mpr q | exact Int32.not_le.mpr q | exact not_not_intro q
    exact kf q2 a (by rw [if_neg q2] at ha; exact ha) F H locs ls hw hS hl hL (fun w hq => hst w (List.mem_cons_of_mem _ (List.mem_cons_of_mem _ hq)))
theorem s_ic_ge {x y : Int32} {ft ff : Option α} {off : Int} {tgt : Nat} (hd : decode cc pc = .ok (.if_icmp .ge off, 3)) (ht : (pc : Int) + off = (tgt : Int))
    (kt : ¬ (x < y) → Sim G X cc nL own rt rm em ft tgt L st h) (kf : x < y → Sim G X cc nL own rt rm em ff (pc + 3) L st h) : Sim G X cc nL own rt rm em (if x < y then ff else ft) pc L (.inl y :: .inl x :: st) h := by
  intro a ha
  obtain ⟨p, l, e, R, s, m, args, below, meth, c⟩ := X
  intro F H locs ls hw hS hl hL hst
  obtain ⟨hx, hb, hml, hown, hts, hr, hlk, hK, hrm⟩ := id F
  refine lv_icmp_ge hx hb hd ht (fun q => ?_) (fun q => ?_)
  · have q2 : ¬ (x < y) := by first | exact q | exact Int32.not_lt.mp q | exact Int32.not_le.mp q | exact Int32.not_lt.mpr q | exact Int32.not_le.mpr q | exact not_not_intro q
    exact kt q2 a (by rw [if_neg q2] at ha; exact ha) F H locs ls hw hS hl hL (fun w hq => hst w (List.mem_cons_of_mem _ (List.mem_cons_of_mem _ hq)))
  · have q2 : x < y := by first | exact q | exact Int32.not_lt.mp q | exact Int32.not_le.mp q | exact Int32.not_lt.mpr q | exact Int32.not_le.mpr q | exact not_not_intro q
    exact kf q2 a (by rw [if_pos q2] at ha; exact ha) F H locs ls hw hS hl hL (fun w hq => hst w (List.mem_cons_of_mem _ (List.mem_cons_of_mem _ hq)))
theorem s_ic_gt {x y : Int32} {ft ff : Option α} {off : Int} {tgt : Nat} (hd : decode cc pc = .ok (.if_icmp .gt off, 3)) (ht : (pc : Int) + off = (tgt : Int))
    (kt : ¬ (x ≤ y) → Sim G X cc nL own rt rm em ft tgt L st h) (kf : x ≤ y → Sim G X cc nL own rt rm em ff (pc + 3) L st h) : Sim G X cc nL own rt rm em (if x ≤ y then ff else ft) pc L (.inl y :: .inl x :: st) h := by
  intro a ha
  obtain ⟨p, l, e, R, s, m, args, below, meth, c⟩ := X
  intro F H locs ls hw hS hl hL hst
  obtain ⟨hx, hb, hml, hown, hts, hr, hlk, hK, hrm⟩ := id F
  refine lv_icmp_gt hx hb hd ht (fun q => ?_) (fun q => ?_)
  · have q2 : ¬ (x ≤ y) := by first | exact q | exact Int32.not_lt.mp q | exact Int32.not_le.mp q | exact Int32.not_lt.mpr q | exact Int32.not_le.mpr q | exact not_not_intro q
    exact kt q2 a (by rw [if_neg q2] at ha; exact ha) F H locs ls hw hS hl hL (fun w hq => hst w (List.mem_cons_of_mem _ (List.mem_cons_of_mem _ hq)))
  · have q2 : x ≤ y := by first | exact q | exact Int32.not_lt.mp q | exact Int32.not_le.mp q | exact Int32.not_lt.mpr q | exact Int32.not_le.mpr q | exact not_not_intro q
    exact kf q2 a (by rw [if_pos q2] at ha; exact ha) F H locs ls hw hS hl hL (fun w hq => hst w (List.mem_cons_of_mem _ (List.mem_cons_of_mem _ hq)))
theorem s_ic_le {x y : Int32} {ft ff : Option α} {off : Int} {tgt : Nat} (hd : decode cc pc = .ok (.if_icmp .le off, 3)) (ht : (pc : Int) + off = (tgt : Int))
    (kt : x ≤ y → Sim G X cc nL own rt rm em ft tgt L st h) (kf : ¬ (x ≤ y) → Sim G X cc nL own rt rm em ff (pc + 3) L st h) : Sim G X cc nL own rt rm em (if x ≤ y then ft else ff) pc L (.inl y :: .inl x :: st) h := by
  intro a ha
  obtain ⟨p, l, e, R, s, m, args, below, meth, c⟩ := X
  intro F H locs ls hw hS hl hL hst
  obtain ⟨hx, hb, hml, hown, hts, hr, hlk, hK, hrm⟩ := id F
  refine lv_icmp_le hx hb hd ht (fun q => ?_) (fun q => ?_)
  · have q2 : x ≤ y := by first | exact q | exact Int32.not_lt.mp q | exact Int32.not_le.mp q | exact Int32.not_lt.mpr q | exact Int32.not_le.mpr q | exact not_not_intro q
    exact kt q2 a (by rw [if_pos q2] at ha; exact ha) F H locs ls hw hS hl hL (fun w hq => hst w (List.mem_cons_of_mem _ (List.mem_cons_of_mem _ hq)))
  · have q2 : ¬ (x ≤ y) := by first | exact q | exact Int32.not_lt.mp q | exact Int32.not_le.mp q | exact Int32.not_lt.mpr q | exact Int32.not_le.mpr q | exact not_not_intro q
    exact kf q2 a (by rw [if_neg q2] at ha; exact ha) F H locs ls hw hS hl hL (fun w hq => hst w (List.mem_cons_of_mem _ (List.mem_cons_of_mem _ hq)))
/-- a check of the function's own: the machine does nothing there -/
theorem s_chk {c : Prop} {_hc : Decidable c} (k : c → Sim G X cc nL own rt rm em f pc L st h) : Sim G X cc nL own rt rm em (if c then f else none) pc L st h := by
  intro a ha
  by_cases q : c
  · rw [if_pos q] at ha
    exact k q a ha
  · rw [if_neg q] at ha
    cases ha
theorem s_none : Sim G X cc nL own rt rm em (none : Option α) pc L st h := fun a ha => by cases ha
/-- what is so already is chosen -/
theorem s_pos {c : Prop} {_hc : Decidable c} {g : Option α} (q : c) (k : Sim G X cc nL own rt rm em f pc L st h) : Sim G X cc nL own rt rm em (if c then f else g) pc L st h := by rw [if_pos q]; exact k
theorem s_neg {c : Prop} {_hc : Decidable c} {g : Option α} (q : ¬ c) (k : Sim G X cc nL own rt rm em f pc L st h) : Sim G X cc nL own rt rm em (if c then g else f) pc L st h := by rw [if_neg q]; exact k
/-- fewer locals, in another order -/
theorem s_loc {L' : List (Nat × mV)} (ks : List Nat) (hk : ks.filterMap (fun i => L[i]?) = L') (k : Sim G X cc nL own rt rm em f pc L' st h) : Sim G X cc nL own rt rm em f pc L st h := by
  intro a ha
  have k := k a ha
  obtain ⟨p, l, e, R, s, m, args, below, meth, c⟩ := X
  intro F H locs ls hw hS hl hL hst
  have hs : ∀ q ∈ L', q ∈ L := fun q hq => by
    rw [← hk] at hq
    obtain ⟨i, -, hi⟩ := List.mem_filterMap.mp hq
    exact List.mem_of_getElem? hi
  exact k F H locs ls hw hS ⟨hl.1, hl.2.1, fun q hq => by
    obtain ⟨r, hr, rfl⟩ := List.mem_map.mp hq
    exact hl.2.2 _ (List.mem_map.mpr ⟨r, hs r hr, rfl⟩)⟩ (fun q hq => hL q (hs q hq)) hst
theorem s_ireturn {em : Int32 × mH → mRes} {x : Int32} (hem : em = eI) (hrt : rt = some .int) (hd : decode cc pc = .ok (.ireturn, 1)) : Sim G X cc nL own rt rm em (some (x, h)) pc L [.inl x] h := by
  intro a ha
  cases ha
  subst hem
  obtain ⟨p, l, e, R, s, m, args, below, meth, c⟩ := X
  intro F H locs ls hw hS hl hL hst
  obtain ⟨hx, hb, hml, hown, hts, hr, hlk, hK, hrm⟩ := id F
  exact W.iret hx hb (hr.trans hrt) (fun t ht _ => ⟨rfl, fun v hv => (by cases hv; exact trivial), ht ▸ hw, hS.F ht⟩) hS.2.2 hd hlk
theorem s_zreturn {em : Int32 × mH → mRes} {x : Int32} (hem : em = eI) (hrt : rt = some .boolean) (hx01 : x = 0 ∨ x = 1) (hd : decode cc pc = .ok (.ireturn, 1)) : Sim G X cc nL own rt rm em (some (x, h)) pc L [.inl x] h := by
  intro a ha
  cases ha
  subst hem
  obtain ⟨p, l, e, R, s, m, args, below, meth, c⟩ := X
  intro F H locs ls hw hS hl hL hst
  obtain ⟨hx, hb, hml, hown, hts, hr, hlk, hK, hrm⟩ := id F
  exact W.zret hx hb (hr.trans hrt) (by rcases hx01 with rfl | rfl <;> decide) (fun t ht _ => ⟨rfl, fun v hv => (by cases hv; exact trivial), ht ▸ hw, hS.F ht⟩) hS.2.2 hd hlk
theorem s_lreturn {em : Int64 × mH → mRes} {x : Int64} (hem : em = eJ) (hrt : rt = some .long) (hd : decode cc pc = .ok (.lreturn, 1)) : Sim G X cc nL own rt rm em (some (x, h)) pc L [.inr (.inl x)] h := by
  intro a ha
  cases ha
  subst hem
  obtain ⟨p, l, e, R, s, m, args, below, meth, c⟩ := X
  intro F H locs ls hw hS hl hL hst
  obtain ⟨hx, hb, hml, hown, hts, hr, hlk, hK, hrm⟩ := id F
  exact W.lret hx hb (hr.trans hrt) (fun t ht _ => ⟨rfl, fun v hv => (by cases hv; exact trivial), ht ▸ hw, hS.F ht⟩) hS.2.2 hd hlk
theorem s_return {em : mH → mRes} (hem : em = eV) (hrt : rt = none) (hd : decode cc pc = .ok (.return_, 1)) : Sim G X cc nL own rt rm em (some h) pc L [] h := by
  intro a ha
  cases ha
  subst hem
  obtain ⟨p, l, e, R, s, m, args, below, meth, c⟩ := X
  intro F H locs ls hw hS hl hL hst
  obtain ⟨hx, hb, hml, hown, hts, hr, hlk, hK, hrm⟩ := id F
  exact W.vret hx hb (hr.trans hrt) (fun t ht _ => ⟨rfl, fun v hv => (by cases hv), ht ▸ hw, hS.F ht⟩) hS.2.2 hd hlk
/-- a tableswitch: the function tells the same place -/
theorem s_table {x : Int32} {dflt lo hi : Int} {offs : Array Int} {len : Nat} (hd : decode cc pc = .ok (.tableswitch dflt lo hi offs, len))
    (tg : Nat) (ht : (pc : Int) + (if x.toInt < lo ∨ hi < x.toInt then dflt else offs.getD (x.toInt - lo).toNat 0) = (tg : Int)) (hz : (offs.size : Int) = hi - lo + 1)
    (k : Sim G X cc nL own rt rm em f tg L st h) : Sim G X cc nL own rt rm em f pc L (.inl x :: st) h := by
  intro a ha
  have k := k a ha
  obtain ⟨p, l, e, R, s, m, args, below, meth, c⟩ := X
  intro F H locs ls hw hS hl hL hst
  obtain ⟨hx, hb, hml, hown, hts, hr, hlk, hK, hrm⟩ := id F
  have k := k F H locs ls hw hS hl hL (fun w hq => hst w (List.mem_cons_of_mem _ hq))
  by_cases q : x.toInt < lo ∨ hi < x.toInt
  · rw [if_pos q] at ht
    exact lv_tableOut hx hb hd q ht k
  · rw [if_neg q] at ht
    have q1 : ¬ x.toInt < lo := fun z => q (Or.inl z)
    have q2 : ¬ hi < x.toInt := fun z => q (Or.inr z)
    have hlt : (x.toInt - lo).toNat < offs.size := by omega
    refine lv_tableIn hx hb hd q1 q2 (off := offs.getD (x.toInt - lo).toNat 0) ?_ ht k
    simp [Array.getD, hlt]
theorem s_lookup {x : Int32} {dflt : Int} {ps : Array (Int × Int)} {len : Nat} (hd : decode cc pc = .ok (.lookupswitch dflt ps, len)) (hp : (ps.toList.zip (ps.toList.drop 1)).all (fun (a, next) => a.1 < next.1) = true)
    (tg : Nat) (ht : (pc : Int) + Op.lookupswitch.offset ps.toList dflt x.toInt = (tg : Int))
    (k : Sim G X cc nL own rt rm em f tg L st h) : Sim G X cc nL own rt rm em f pc L (.inl x :: st) h := by
  intro a ha
  have k := k a ha
  obtain ⟨p, l, e, R, s, m, args, below, meth, c⟩ := X
  intro F H locs ls hw hS hl hL hst
  obtain ⟨hx, hb, hml, hown, hts, hr, hlk, hK, hrm⟩ := id F
  exact lv_lookup hx hb hd hp rfl ht (k F H locs ls hw hS hl hL (fun w hq => hst w (List.mem_cons_of_mem _ hq)))
end MR
end
section
/-! ===== rows that read and write cells, over Sim ===== -/
def mCls (c : Nat) (C : String) (T : u_T) : Prop := mCl[c]? = some (C, T, mNs c) ∧ (∀ w ∈ u_ws C T (mNs c), w ∈ mTb) ∧ (∀ a, a < mNs c → ∀ b, b < mNs c → a ≠ b → (T a).2.1 ≠ (T b).2.1) ∧ ∀ k, k < mNs c → parseFieldDescriptor (T k).2.2.1 = some (mTy c k)
theorem va_P_one {D : va_G} {cl : List vw_C} {q : Nat × va_E} {H : Heap} (h : va_at D cl q H) : va_P D cl [q] H := fun k r hk => by
  match k, hk with
  | 0, hk => cases hk; exact h
  | k + 1, hk => simp at hk
theorem mFs_at {G : mG} {h : mH} {t i c k : Nat} (hk : k < mNs c) : (mFs G h t i c)[k]? = some (mSl G h t i k (mTy c k)) := by
  unfold mFs
  rw [List.getElem?_map, List.getElem?_range hk]
  rfl
theorem mAr_int {G : mG} {h : mH} {t i : Nat} : mAr G h t i .int = .inl (h.1 t i) := by simp [mAr, mIsRf]
theorem mAr_bool {G : mG} {h : mH} {t i : Nat} : mAr G h t i .boolean = .inl (h.1 t i) := by simp [mAr, mIsRf]
theorem mAr_long {G : mG} {h : mH} {t i : Nat} : mAr G h t i .long = .inr (.inl (h.2 t i)) := by simp [mAr, mIsRf]
theorem mAr_ref {G : mG} {h : mH} {t i : Nat} {ty : FieldType} (hy : mIsRf ty = true) : mAr G h t i ty = .inr (.inr (.inr (.inr fun k => (mRf t i k).map (mAd G)))) := by simp [mAr, hy]
theorem mE_obj {G : mG} {h : mH} {t i c : Nat} (hs : mSh t = .inl c) : mE G h t i = .inr (c, mFs G h t i c) := by simp [mE, hs]
theorem mE_arr {G : mG} {h : mH} {t i n : Nat} {ty : FieldType} (hs : mSh t = .inr (ty, n)) : mE G h t i = .inl (G.2.1 ty, n, mAr G h t i ty) := by simp [mE, hs]
theorem mLi_ref {t i : Nat} (h : mLi (.inr (.inr (t, i)))) (h9 : t ≠ 99) : i < mCn t := h.resolve_right h9
section MC
variable {α : Type} {G : mG} {X : mX} {cc : ByteArray} {nL : Nat} {own : String} {rt : Option FieldType} {rm : Room} {em : α → mRes} {f : Option α} {pc : Nat} {L : List (Nat × mV)} {st : List mV} {h : mH}
theorem s_geti {C : String} {T : u_T} {t i c k idx : Nat} (hc : mCls c C T) (hs : mSh t = .inl c) (h9 : t ≠ 99) (hk : k < mNs c) (hy : mIsRf (mTy c k) = false) (hw1 : Cond.fieldLink own idx (T k).1 (T k).2.1 (T k).2.2.1 ∈ mTb) (hd : decode cc pc = .ok (.getfield idx, 3))
    (kk : Sim G X cc nL own rt rm em f (pc + 3) L (.inl (h.1 t i k) :: st) h) : Sim G X cc nL own rt rm em f pc L (.inr (.inr (t, i)) :: st) h := by
  intro a ha
  have kk := kk a ha
  obtain ⟨p, l, e, R, s, m, args, below, meth, c0⟩ := X
  intro F H locs ls hw hS hl hL hst
  obtain ⟨hx, hb, hml, hown, hts, hr, hlk, hK, hrm⟩ := id F
  have hi := mLi_ref (hst _ List.mem_cons_self) h9
  have hat := hw.1 t i hi
  rw [mE_obj hs] at hat
  have hv : (mFs G h t i c)[k]? = some (.int (h.1 t i k)) := by
    rw [mFs_at hk, mSl, hy]
    rfl
  exact va_get hx hb hts hc.2.1 hown hK.1 (va_P_one hat) 0 rfl hc.1 k hk (hts _ hw1) (fun _ q => q) hv hd (kk F H locs ls hw hS hl hL (fun w hq => by
    rcases List.mem_cons.mp hq with rfl | hq
    · exact trivial
    · exact hst w (List.mem_cons_of_mem _ hq)))
theorem s_getr {C : String} {T : u_T} {t i c k idx : Nat} {r : mR} (hc : mCls c C T) (hs : mSh t = .inl c) (h9 : t ≠ 99) (hk : k < mNs c) (hy : mIsRf (mTy c k) = true) (hw1 : Cond.fieldLink own idx (T k).1 (T k).2.1 (T k).2.2.1 ∈ mTb) (hrf : mRf t i k = some r) (hlr : i < mCn t → r.2 < mCn r.1) (hd : decode cc pc = .ok (.getfield idx, 3))
    (kk : Sim G X cc nL own rt rm em f (pc + 3) L (.inr (.inr r) :: st) h) : Sim G X cc nL own rt rm em f pc L (.inr (.inr (t, i)) :: st) h := by
  intro a ha
  have kk := kk a ha
  obtain ⟨p, l, e, R, s, m, args, below, meth, c0⟩ := X
  intro F H locs ls hw hS hl hL hst
  obtain ⟨hx, hb, hml, hown, hts, hr, hlk, hK, hrm⟩ := id F
  have hi := mLi_ref (hst _ List.mem_cons_self) h9
  have hat := hw.1 t i hi
  rw [mE_obj hs] at hat
  have hv : (mFs G h t i c)[k]? = some (.ref (mAd G r)) := by
    rw [mFs_at hk, mSl, hy, hrf]
    rfl
  exact va_get hx hb hts hc.2.1 hown hK.1 (va_P_one hat) 0 rfl hc.1 k hk (hts _ hw1) (fun _ q => q) hv hd (kk F H locs ls hw hS hl hL (fun w hq => by
    rcases List.mem_cons.mp hq with rfl | hq
    · exact Or.inl (hlr hi)
    · exact hst w (List.mem_cons_of_mem _ hq)))
/-- an int, or a boolean that is one, into a field -/
theorem s_puti {C : String} {T : u_T} {t i c k idx : Nat} {x : Int32} {ty : FieldType} (hc : mCls c C T) (hs : mSh t = .inl c) (h9 : t ≠ 99) (hk : k < mNs c) (hy : mTy c k = ty) (hnr : mIsRf ty = false) (hn : narrow ty (.int x) = .int x) (hfit : fits ty (.int x) = true) (hfin : (T k).2.2.2 = false) (hw1 : Cond.fieldLink own idx (T k).1 (T k).2.1 (T k).2.2.1 ∈ mTb) (hd : decode cc pc = .ok (.putfield idx, 3))
    (kk : Sim G X cc nL own rt rm em f (pc + 3) L st (uI h t i k x)) : Sim G X cc nL own rt rm em f pc L (.inl x :: .inr (.inr (t, i)) :: st) h := by
  intro a ha
  have kk := kk a ha
  obtain ⟨p, l, e, R, s, m, args, below, meth, c0⟩ := X
  intro F H locs ls hw hS hl hL hst
  obtain ⟨hx, hb, hml, hown, hts, hr, hlk, hK, hrm⟩ := id F
  have hi := mLi_ref (hst _ (List.mem_cons_of_mem _ List.mem_cons_self)) h9
  have hat := hw.1 t i hi
  rw [mE_obj hs] at hat
  obtain ⟨hcl, hin, hnm, hty⟩ := hc
  have hap := va_apart (own := own) hts hin (mTy c) hty hnm hK.1 hcl
  obtain ⟨r, h1, cell, q1, q2, q3, q4⟩ := hat
  have hr2 : r = (C, T, mNs c) := Option.some.inj (h1.symm.trans hcl)
  subst hr2
  obtain ⟨hSl, hfc, kC, hkC, hkind⟩ := hK.1.1 c _ hcl
  obtain ⟨cf, kf, fi, fl, hi2, hsl⟩ := hSl k hk
  have hlay := hts _ (hin _ (u_in_lay hk))
  unfold u_lay at hlay
  rw [if_neg (by rw [hfin]; decide)] at hlay
  have hstt := (u_facts hfc hkC (u_lays hts hin hk) hi2).1
  have hdty : parseFieldDescriptor (T k).2.2.1 = some ty := by rw [hty k hk, hy]
  have h6 := u_store hfc hkC hkind hlay hi2 hdty hn hfit
  refine W.putK hx hb (f := fl) ⟨hown, hts _ hw1, ⟨_, _, _, hi2⟩, hstt⟩ (by rw [q2]; exact h6) q1 q3 (by rw [hsl]; exact k2_hasslot (q4 k hk)) rfl rfl hd fun H' e1 e2 e3 => ?_
  rw [hsl] at e1 ⊢
  have hw' : mW G (uI h t i k x) H' := by
    refine hw.upd hi ?_ e3 (fun t' i' e => mE_ne (uI_ne e) rfl)
    rw [mE_obj hs]
    refine ⟨_, hcl, t_OB.to (V := updV (vp_V (mFs G h t i c)) k (.int x)) ⟨_, e1, q2, q3, t_set q4 hap hk _⟩ (fun j hj => ?_)⟩
    have hj : j < mNs c := hj
    have a1 : vp_V (mFs G h t i c) j = mSl G h t i j (mTy c j) := by simp [vp_V, mFs_at hj]
    have a2 : vp_V (mFs G (uI h t i k x) t i c) j = mSl G (uI h t i k x) t i j (mTy c j) := by simp [vp_V, mFs_at hj]
    rw [a2]
    by_cases e : j = k
    · subst e
      rw [hy]
      simp [updV, mSl, hnr, uI_eq, upd]
    · show (if j = k then _ else vp_V (mFs G h t i c) j) = _
      rw [if_neg e, a1]
      simp [mSl, uI_eq, upd, e]
  exact kk F H' _ ls hw' (hS.put e2 e3 (hw.2.2 t i hi)) hl hL (fun w hq => hst w (List.mem_cons_of_mem _ (List.mem_cons_of_mem _ hq)))
theorem s_iaload {t i n : Nat} {x : Int32} (hs : mSh t = .inr (.int, n)) (h9 : t ≠ 99) (hin : mIn x n = true) (hd : decode cc pc = .ok (.iaload, 1))
    (kk : Sim G X cc nL own rt rm em f (pc + 1) L (.inl (h.1 t i x.toNatClampNeg) :: st) h) : Sim G X cc nL own rt rm em f pc L (.inl x :: .inr (.inr (t, i)) :: st) h := by
  intro a ha
  have kk := kk a ha
  obtain ⟨p, l, e, R, s, m, args, below, meth, c0⟩ := X
  intro F H locs ls hw hS hl hL hst
  obtain ⟨hx, hb, hml, hown, hts, hr, hlk, hK, hrm⟩ := id F
  have hi := mLi_ref (hst _ (List.mem_cons_of_mem _ List.mem_cons_self)) h9
  have hat := hw.1 t i hi
  rw [mE_arr hs, mAr_int] at hat
  exact va_iald hx hb hK.1 (va_P_one hat) 0 0 rfl rfl (mIn_vp hin) hd (kk F H locs ls hw hS hl hL (fun w hq => by
    rcases List.mem_cons.mp hq with rfl | hq
    · exact trivial
    · exact hst w (List.mem_cons_of_mem _ (List.mem_cons_of_mem _ hq))))
theorem s_baload {t i n : Nat} {x : Int32} (hs : mSh t = .inr (.boolean, n)) (h9 : t ≠ 99) (hin : mIn x n = true) (hd : decode cc pc = .ok (.baload, 1))
    (kk : Sim G X cc nL own rt rm em f (pc + 1) L (.inl (h.1 t i x.toNatClampNeg) :: st) h) : Sim G X cc nL own rt rm em f pc L (.inl x :: .inr (.inr (t, i)) :: st) h := by
  intro a ha
  have kk := kk a ha
  obtain ⟨p, l, e, R, s, m, args, below, meth, c0⟩ := X
  intro F H locs ls hw hS hl hL hst
  obtain ⟨hx, hb, hml, hown, hts, hr, hlk, hK, hrm⟩ := id F
  have hi := mLi_ref (hst _ (List.mem_cons_of_mem _ List.mem_cons_self)) h9
  have hat := hw.1 t i hi
  rw [mE_arr hs, mAr_bool] at hat
  exact va_zald hx hb hK.1 (va_P_one hat) 0 2 rfl rfl (mIn_vp hin) hd (kk F H locs ls hw hS hl hL (fun w hq => by
    rcases List.mem_cons.mp hq with rfl | hq
    · exact trivial
    · exact hst w (List.mem_cons_of_mem _ (List.mem_cons_of_mem _ hq))))
theorem s_laload {t i n : Nat} {x : Int32} (hs : mSh t = .inr (.long, n)) (h9 : t ≠ 99) (hin : mIn x n = true) (hd : decode cc pc = .ok (.laload, 1))
    (kk : Sim G X cc nL own rt rm em f (pc + 1) L (.inr (.inl (h.2 t i x.toNatClampNeg)) :: st) h) : Sim G X cc nL own rt rm em f pc L (.inl x :: .inr (.inr (t, i)) :: st) h := by
  intro a ha
  have kk := kk a ha
  obtain ⟨p, l, e, R, s, m, args, below, meth, c0⟩ := X
  intro F H locs ls hw hS hl hL hst
  obtain ⟨hx, hb, hml, hown, hts, hr, hlk, hK, hrm⟩ := id F
  have hi := mLi_ref (hst _ (List.mem_cons_of_mem _ List.mem_cons_self)) h9
  have hat := hw.1 t i hi
  rw [mE_arr hs, mAr_long] at hat
  exact va_lald hx hb hK.1 (va_P_one hat) 0 1 rfl rfl (mIn_vp hin) hd (kk F H locs ls hw hS hl hL (fun w hq => by
    rcases List.mem_cons.mp hq with rfl | hq
    · exact trivial
    · exact hst w (List.mem_cons_of_mem _ (List.mem_cons_of_mem _ hq))))
theorem s_aaload {t i n t0 : Nat} {ty : FieldType} {x : Int32} {r : mR} (hs : mSh t = .inr (ty, n)) (h9 : t ≠ 99) (hy : mIsRf ty = true) (ht0 : mTyL[t0]? = some ty) (hin : mIn x n = true) (hrf : mRf t i x.toNatClampNeg = some r) (hlr : i < mCn t → x.toNatClampNeg < n → r.2 < mCn r.1) (hd : decode cc pc = .ok (.aaload, 1))
    (kk : Sim G X cc nL own rt rm em f (pc + 1) L (.inr (.inr r) :: st) h) : Sim G X cc nL own rt rm em f pc L (.inl x :: .inr (.inr (t, i)) :: st) h := by
  intro a ha
  have kk := kk a ha
  obtain ⟨p, l, e, R, s, m, args, below, meth, c0⟩ := X
  intro F H locs ls hw hS hl hL hst
  obtain ⟨hx, hb, hml, hown, hts, hr, hlk, hK, hrm⟩ := id F
  have hi := mLi_ref (hst _ (List.mem_cons_of_mem _ List.mem_cons_self)) h9
  have hat := hw.1 t i hi
  rw [mE_arr hs, mAr_ref hy] at hat
  have hlt : x.toNatClampNeg < n := Nat.not_le.mp fun q => mIn_vp hin (Or.inr q)
  have ht1 : (mTys G)[t0]? = some (G.2.1 ty, ty) := by rw [mTys, List.getElem?_map, ht0]; rfl
  refine W.aald (v := .ref (mAd G r)) (ty := ty) hx hb hat ((hK.1.2 t0 _ ht1).1 n (fun j => va_rf ((mRf t i j).map (mAd G)))) (by cases ty <;> simp [mIsRf] at hy <;> rfl) (fun q => by cases q) (by show ¬ (x < 0 ∨ (arrV _ _ _).slots.size ≤ _); rw [arrV_size]; exact mIn_vp hin) (by show (arrV _ _ _).slots[_]? = _; rw [arrV_read _ _ hlt]; show some (va_rf ((mRf t i x.toNatClampNeg).map (mAd G))) = _; rw [hrf]; rfl) rfl rfl hd (kk F H locs ls hw hS hl hL (fun w hq => ?_))
  rcases List.mem_cons.mp hq with rfl | hq
  · exact Or.inl (hlr hi hlt)
  · exact hst w (List.mem_cons_of_mem _ (List.mem_cons_of_mem _ hq))
theorem s_iastore {t i n : Nat} {x v : Int32} (hs : mSh t = .inr (.int, n)) (h9 : t ≠ 99) (hin : mIn x n = true) (hd : decode cc pc = .ok (.iastore, 1))
    (kk : Sim G X cc nL own rt rm em f (pc + 1) L st (uI h t i x.toNatClampNeg v)) : Sim G X cc nL own rt rm em f pc L (.inl v :: .inl x :: .inr (.inr (t, i)) :: st) h := by
  intro a ha
  have kk := kk a ha
  obtain ⟨p, l, e, R, s, m, args, below, meth, c0⟩ := X
  intro F H locs ls hw hS hl hL hst
  obtain ⟨hx, hb, hml, hown, hts, hr, hlk, hK, hrm⟩ := id F
  have hi := mLi_ref (hst _ (List.mem_cons_of_mem _ (List.mem_cons_of_mem _ List.mem_cons_self))) h9
  have hat := hw.1 t i hi
  rw [mE_arr hs, mAr_int] at hat
  refine W.iast hx hb hat ((hK.1.2 0 _ rfl).1 n (fun j => .int (h.1 t i j))) (fun q => by cases q) (by show ¬ (x < 0 ∨ (arrV _ _ _).slots.size ≤ _); rw [arrV_size]; exact mIn_vp hin) rfl rfl hd fun H1 e1 z oq => ?_
  have hw' : mW G (uI h t i x.toNatClampNeg v) H1 := by
    refine hw.upd hi ?_ oq (fun t' i' e => mE_ne (uI_ne e) rfl)
    rw [mE_arr hs, mAr_int, uI_eq]
    show H1[_]? = some (vp_cell _ _)
    rw [e1, vp_cell_i, vp_cell_i, arrV_store]
    congr 2
    funext q
    by_cases hq : q = x.toNatClampNeg
    · subst hq
      simp [updV, upd]
    · simp [updV, upd, hq]
  exact kk F H1 _ ls hw' (hS.put z oq (hw.2.2 t i hi)) hl hL (fun w hq => hst w (List.mem_cons_of_mem _ (List.mem_cons_of_mem _ (List.mem_cons_of_mem _ hq))))
theorem s_bastore {t i n : Nat} {x v : Int32} (hs : mSh t = .inr (.boolean, n)) (h9 : t ≠ 99) (hin : mIn x n = true) (hv : v = 0 ∨ v = 1) (hd : decode cc pc = .ok (.bastore, 1))
    (kk : Sim G X cc nL own rt rm em f (pc + 1) L st (uI h t i x.toNatClampNeg v)) : Sim G X cc nL own rt rm em f pc L (.inl v :: .inl x :: .inr (.inr (t, i)) :: st) h := by
  intro a ha
  have kk := kk a ha
  obtain ⟨p, l, e, R, s, m, args, below, meth, c0⟩ := X
  intro F H locs ls hw hS hl hL hst
  obtain ⟨hx, hb, hml, hown, hts, hr, hlk, hK, hrm⟩ := id F
  have hi := mLi_ref (hst _ (List.mem_cons_of_mem _ (List.mem_cons_of_mem _ List.mem_cons_self))) h9
  have hat := hw.1 t i hi
  rw [mE_arr hs, mAr_bool] at hat
  have hnv : narrow .boolean (.int v) = .int v := by rcases hv with rfl | rfl <;> decide
  refine W.zast hx hb hat ((hK.1.2 2 _ rfl).1 n (fun j => .int (h.1 t i j))) (fun q => by cases q) (by show ¬ (x < 0 ∨ (arrV _ _ _).slots.size ≤ _); rw [arrV_size]; exact mIn_vp hin) rfl rfl hd fun H1 e1 z oq => ?_
  rw [hnv] at e1
  have hw' : mW G (uI h t i x.toNatClampNeg v) H1 := by
    refine hw.upd hi ?_ oq (fun t' i' e => mE_ne (uI_ne e) rfl)
    rw [mE_arr hs, mAr_bool, uI_eq]
    show H1[_]? = some (vp_cell _ _)
    rw [e1, vp_cell_i, vp_cell_i, arrV_store]
    congr 2
    funext q
    by_cases hq : q = x.toNatClampNeg
    · subst hq
      simp [updV, upd]
    · simp [updV, upd, hq]
  exact kk F H1 _ ls hw' (hS.put z oq (hw.2.2 t i hi)) hl hL (fun w hq => hst w (List.mem_cons_of_mem _ (List.mem_cons_of_mem _ (List.mem_cons_of_mem _ hq))))
theorem s_lastore {t i n : Nat} {x : Int32} {v : Int64} (hs : mSh t = .inr (.long, n)) (h9 : t ≠ 99) (hin : mIn x n = true) (hd : decode cc pc = .ok (.lastore, 1))
    (kk : Sim G X cc nL own rt rm em f (pc + 1) L st (uJ h t i x.toNatClampNeg v)) : Sim G X cc nL own rt rm em f pc L (.inr (.inl v) :: .inl x :: .inr (.inr (t, i)) :: st) h := by
  intro a ha
  have kk := kk a ha
  obtain ⟨p, l, e, R, s, m, args, below, meth, c0⟩ := X
  intro F H locs ls hw hS hl hL hst
  obtain ⟨hx, hb, hml, hown, hts, hr, hlk, hK, hrm⟩ := id F
  have hi := mLi_ref (hst _ (List.mem_cons_of_mem _ (List.mem_cons_of_mem _ List.mem_cons_self))) h9
  have hat := hw.1 t i hi
  rw [mE_arr hs, mAr_long] at hat
  refine W.last hx hb hat ((hK.1.2 1 _ rfl).1 n (fun j => .long (h.2 t i j))) (fun q => by cases q) (by show ¬ (x < 0 ∨ (arrV _ _ _).slots.size ≤ _); rw [arrV_size]; exact mIn_vp hin) rfl rfl hd fun H1 e1 z oq => ?_
  have hw' : mW G (uJ h t i x.toNatClampNeg v) H1 := by
    refine hw.upd hi ?_ oq (fun t' i' e => mE_ne rfl (uJ_ne e))
    rw [mE_arr hs, mAr_long]
    show H1[_]? = some (vp_cell _ _)
    rw [e1, vp_cell_l, vp_cell_l, arrV_store]
    congr 2
    funext q
    show updV _ _ _ q = Value.long (if t = t ∧ i = i ∧ q = x.toNatClampNeg then v else h.2 t i q)
    by_cases hq : q = x.toNatClampNeg
    · subst hq
      simp [updV]
    · simp [updV, hq]
  exact kk F H1 _ ls hw' (hS.put z oq (hw.2.2 t i hi)) hl hL (fun w hq => hst w (List.mem_cons_of_mem _ (List.mem_cons_of_mem _ (List.mem_cons_of_mem _ hq))))
theorem s_alen {t i n t0 : Nat} {ty : FieldType} {v : Int32} (hs : mSh t = .inr (ty, n)) (h9 : t ≠ 99) (ht0 : mTyL[t0]? = some ty) (hv : Int32.ofNat n = v) (hd : decode cc pc = .ok (.arraylength, 1))
    (kk : Sim G X cc nL own rt rm em f (pc + 1) L (.inl v :: st) h) : Sim G X cc nL own rt rm em f pc L (.inr (.inr (t, i)) :: st) h := by
  intro a ha
  have kk := kk a ha
  obtain ⟨p, l, e, R, s, m, args, below, meth, c0⟩ := X
  intro F H locs ls hw hS hl hL hst
  obtain ⟨hx, hb, hml, hown, hts, hr, hlk, hK, hrm⟩ := id F
  have hi := mLi_ref (hst _ List.mem_cons_self) h9
  have hat := hw.1 t i hi
  rw [mE_arr hs] at hat
  have ht1 : (mTys G)[t0]? = some (G.2.1 ty, ty) := by rw [mTys, List.getElem?_map, ht0]; rfl
  exact va_alen hx hb hK.1 (va_P_one hat) 0 t0 rfl ht1 hv hd (kk F H locs ls hw hS hl hL (fun w hq => by
    rcases List.mem_cons.mp hq with rfl | hq
    · exact trivial
    · exact hst w (List.mem_cons_of_mem _ hq)))
end MC
end
section
/-! ===== contracts out of Sim, and calls ===== -/
def mArg : Nat → List mV → List (Nat × mV)
  | _, [] => []
  | i, v :: vs => (i, v) :: mArg (if mCat v = 2 then i + 2 else i + 1) vs
theorem mArg_lv (G : mG) : ∀ (vs : List mV) (i : Nat), lv_args i (vs.map (mC G)) = mLs G (mArg i vs)
  | [], _ => rfl
  | v :: vs, i => by
    show (i, mC G v) :: lv_args (if (mC G v).category = 2 then i + 2 else i + 1) (vs.map (mC G)) = (i, mC G v) :: mLs G (mArg (if mCat v = 2 then i + 2 else i + 1) vs)
    rw [mC_cat, mArg_lv G vs]
theorem mArg_li : ∀ (vs : List mV) (i : Nat), (∀ v ∈ vs, mLi v) → ∀ q ∈ mArg i vs, mLi q.2
  | [], _, _, q, hq => by cases hq
  | v :: vs, i, h, q, hq => by
    rcases List.mem_cons.mp hq with rfl | hq
    · exact h v List.mem_cons_self
    · exact mArg_li vs _ (fun w hw => h w (List.mem_cons_of_mem _ hw)) q hq
def mPre (G : mG) (h : mH) : State → Prop := fun U => mKT G U ∧ mW G h U.heap
def mMet (G : mG) (l : Launch) (y : MethodName) (cc : ByteArray) (nL : Nat) (rt : Option FieldType) (rm : Room) (as : List mV) (h : mH) (r : mRes) : Prop :=
  Met l y (.code y cc nL rt :: mTb) rm (va_Pc (as.map (mC G)) (mPre G h)) (mQ G r) 0 0 (mA G)
def mSz (vs : List mV) : Nat := (vs.map mCat).sum
theorem mSz_sl (G : mG) : ∀ vs : List mV, (lg_sl (vs.map (mC G))).length = mSz vs
  | [] => rfl
  | v :: vs => by
    have ih := mSz_sl G vs
    have e : lg_sl ((v :: vs).map (mC G)) = (if (mC G v).category = 2 then [Slot.val (mC G v), .second] else [Slot.val (mC G v)]) ++ lg_sl (vs.map (mC G)) := rfl
    rw [e, List.length_append, ih, mC_cat]
    show _ = mCat v + mSz vs
    rcases v with x | x | x <;> simp [mCat]
/-- THE CONTRACT of a method, out of its function -/
theorem mMet.of {α : Type} {em : α → mRes} {f : Option α} {G : mG} {l : Launch} {y : MethodName} {cc : ByteArray} {nL : Nat} {rt : Option FieldType} {rm : Room} {as : List mV} {h : mH} (hy : plainName y.cls = true) (hz : mSz as ≤ nL)
    (k : ∀ X : mX, Sim G X cc nL y.cls rt rm em f 0 (mArg 0 as) [] h) (hli : ∀ v ∈ as, mLi v) (a : α) (ha : f = some a) : mMet G l y cc nL rt rm as h (em a) := by
  refine Met.ofW (cc := cc) (maxL := nL) (ret := rt) hy rfl ?_
  intro p e s m args below meth c s₁ B hml hv
  obtain ⟨rfl, hKT, hw⟩ := hv
  have hts := atoms_spec (ws := Cond.code y cc nL rt :: mTb) B.pre
  have hown : s.vm.findClass y.cls = some m.cls := findClass_of_methodNamed B.named
  have hl := lv_entry (as.map (mC G)) (n := nL) (by rw [mSz_sl]; exact hz)
  rw [mArg_lv] at hl
  rw [lg_entry_eq]
  exact k (p, l, e, rm, s, m, _, below, meth, c) a ha ⟨B.exec, B.bytes, hml, hown, fun w hw => hts w (List.mem_cons_of_mem _ hw), B.returns, B.notSynchronized, hKT, rfl⟩ s.heap [] _ hw va_S.rf hl (mArg_li as 0 hli) (fun v hv => by cases hv)
theorem mGood {y : MethodName} {cc : ByteArray} {nL : Nat} {rt : Option FieldType} (hc : Cond.code y cc nL rt ∈ mTb) : GoodIn mTb (.code y cc nL rt :: mTb) := fun w hw => by
  have hm : w ∈ mTb := by
    rcases List.mem_cons.mp hw with rfl | hw
    · exact hc
    · exact hw
  exact ⟨hm, good_of_word (List.mem_filter.mp hm).2⟩
theorem mPre_blind (G : mG) (h : mH) (av : List Value) : FrameBlind (va_Pc av (mPre G h)) := fun a U g mk q => ⟨q.1, mKT.same (u := U) (U := U.calling g mk a) rfl q.2.1, q.2.2⟩
/-- what is fixed of a method that is called -/
def mMe (y : MethodName) (cc : ByteArray) (nL : Nat) (rt : Option FieldType) (n : Nat) : Prop := Cond.code y cc nL rt ∈ mTb ∧ Cond.initialized y.cls ∈ mTb ∧ y.cls ≠ "java/lang/invoke/MethodHandle" ∧ y.cls ≠ "java/lang/invoke/VarHandle" ∧ (parseMethodDescriptor y.desc).map (fun d => d.parameters.length) = some n
section MK
variable {p : Program} {l : Launch} {e : Env} {R : Room} {s : State} {m : MethodId} {args : Array Value} {below : List Frame} {meth : Method} {c : Code} {H : Heap} {locs : List Loc} {Q : State → Prop}
theorem mCall {G : mG} {r : mRes} {pc : Nat} {ls : Array Slot} {st0 rest : List Value} {a : Array Value} (hr : va_Run p l e R s m args below meth c H locs 0 0 0 0 (F0 m pc ls st0) rest (mQ G r a) (mA G)) (hS : va_S (mA G) s.heap H locs)
    (kk : ∀ (H1 : Heap) (locs1 : List Loc), (∀ v, r.1 = some v → mLi v) → mW G r.2 H1 → va_S (mA G) s.heap H1 locs1 → W p l e R s m args below meth c H1 locs1 0 0 Q (F0 m (pc + 3) ls ((r.1.map (mC G)).toList ++ rest))) : W p l e R s m args below meth c H locs 0 0 Q (F0 m pc ls st0) := by
  intro T hT X
  obtain ⟨v, st₀, t, T', Lc, h0, X', hL, e1, e2, ⟨hv, hli, hw, hz, hk⟩, st⟩ := hr T hT X
  cases hv
  rw [h0] at hz hk
  obtain ⟨t2, a1, b1⟩ := kk T'.heap (locs ++ Lc) hli (by rw [e1]; exact hw)
    ⟨Nat.le_trans hS.1 (by rw [e1]; exact hz), fun q h1 h2 => by rw [e1, hk q (Nat.lt_of_lt_of_le h1 hS.1) h2]; exact hS.2.1 q h1 h2, fun q hq => by
      rcases List.mem_append.mp hq with h | h
      · exact hS.2.2 q h
      · exact hL q h⟩ T' rfl X'
  exact ⟨t2, st t2 a1, b1⟩
end MK
section MV
variable {α β : Type} {G : mG} {X : mX} {cc : ByteArray} {nL : Nat} {own : String} {rt : Option FieldType} {rm : Room} {em : α → mRes} {pc : Nat} {L : List (Nat × mV)} {st : List mV} {h : mH}
/-- a call of an instance's method -/
theorem s_invv {emc : β → mRes} {fc : Option β} {kf : β → Option α} {y : MethodName} {cy : ByteArray} {ny n idx t i c : Nat} {ry : Option FieldType} {rmy : Room} {T : u_T} {as st0 : List mV}
    (hM : ∀ (l : Launch) (b : β), fc = some b → (∀ v ∈ (.inr (.inr (t, i)) :: as : List mV), mLi v) → mMet G l y cy ny ry rmy (.inr (.inr (t, i)) :: as) h (emc b)) (hme : mMe y cy ny ry n) (hrc : rmy.cells = 0) (hrs : rmy.slots = 0)
    (hcl : mCls c y.cls T) (hs : mSh t = .inl c) (h9 : t ≠ 99) (hlink : Cond.methodLink own idx y ∈ mTb) (hin : Cond.instanceMethod y ∈ mTb) (hse : Cond.selects y.cls y y ∈ mTb)
    (hR : rmy.frames + 1 ≤ rm.frames ∧ 8 + (ny + 11) + rmy.locals ≤ rm.locals) (hn : as.length = n) (hst0 : as.reverse ++ .inr (.inr (t, i)) :: st = st0) (hsz : mSz st ≤ 8) (hd : decode cc pc = .ok (.invokevirtual idx, 3))
    (k : ∀ b, fc = some b → Sim G X cc nL own rt rm em (kf b) (pc + 3) L ((emc b).1.toList ++ st) (emc b).2) : Sim G X cc nL own rt rm em (fc.bind kf) pc L st0 h := by
  intro a ha
  subst hst0
  match fc, ha, hM, k with
  | none, ha, _, _ => cases ha
  | some b, ha, hM, k =>
    have hfc : (some b : Option β) = some b := rfl
    have k := k b hfc a ha
    have hM := fun l => hM l b hfc
    obtain ⟨p, l, e, R, s, m, args, below, meth, c0⟩ := X
    intro F H locs ls hw hS hl hL hst
    obtain ⟨hx, hb, hml, hown, hts, hr, hlk, hK, rfl⟩ := id F
    have hla : ∀ v ∈ (.inr (.inr (t, i)) :: as : List mV), mLi v := fun v hv => by
      refine hst v ?_
      rcases List.mem_cons.mp hv with rfl | hv
      · exact List.mem_append_right _ List.mem_cons_self
      · exact List.mem_append_left _ (List.mem_reverse.mpr hv)
    have hi := mLi_ref (hla _ List.mem_cons_self) h9
    have hat := hw.1 t i hi
    rw [mE_obj hs] at hat
    have hM := hM l hla
    have hrun := va_runV (p := p) (e := e) (m := m) (args := args) (below := below) (meth := meth) (c := c0) (locs := locs) (cells := 0) (slots := 0) (g := F0 m pc ls ((as.reverse ++ .inr (.inr (t, i)) :: st).map (mC G))) (b := G.2.2.1 t i) (As := as.map (mC G)) (rest := st.map (mC G)) (index := idx) (n := n) (C := y.cls)
      ⟨hx, hb, hml, hown, hts⟩ hM ⟨callB_of n hts (mGood hme.1) rfl hrc hrs (hts _ hme.2.1) (hts _ hlink) hme.2.2 hR, hts _ hin, hts _ hse⟩
      ⟨mPre_blind G h _, va_recv hK.1 (va_P_one hat) hcl.1 (q0 := 0) rfl, fun U hU hW => ⟨rfl, hK.warm hW, by rw [hU]; exact hw⟩⟩ rfl (by rw [List.length_map]; exact hn) hl.1 (by simp [mC]) (lv_room (by
        have e : ((st.map (mC G)).map fun v => v.category).sum = mSz st := by
          simp [mSz, List.map_map, Function.comp_def, mC_cat]
        rw [e]; exact hsz)) hd ⟨Nat.zero_le _, Nat.zero_le _⟩
    refine mCall hrun hS (fun H1 locs1 hli hw1 hS1 => ?_)
    have k := k F H1 locs1 ls hw1 hS1 hl hL (fun v hv => by
      rcases List.mem_append.mp hv with hv | hv
      · exact hli v (by revert hv; cases (emc b).1 <;> simp; exact fun e => e.symm)
      · exact hst v (List.mem_append_right _ (List.mem_cons_of_mem _ hv)))
    rw [List.map_append] at k
    have e : ((emc b).1.toList.map (mC G)) = ((emc b).1.map (mC G)).toList := by cases (emc b).1 <;> rfl
    rw [e] at k
    exact k
/-- a call of a static method -/
theorem s_invs {emc : β → mRes} {fc : Option β} {kf : β → Option α} {y : MethodName} {cy : ByteArray} {ny n idx : Nat} {ry : Option FieldType} {rmy : Room} {as st0 : List mV}
    (hM : ∀ (l : Launch) (b : β), fc = some b → (∀ v ∈ as, mLi v) → mMet G l y cy ny ry rmy as h (emc b)) (hme : mMe y cy ny ry n) (hrc : rmy.cells = 0) (hrs : rmy.slots = 0)
    (hlink : Cond.methodLink own idx y ∈ mTb ∨ ∃ host, Cond.methodLinkNest own idx y host ∈ mNw) (hin : Cond.static y ∈ mTb)
    (hR : rmy.frames + 1 ≤ rm.frames ∧ 8 + (ny + 11) + rmy.locals ≤ rm.locals) (hn : as.length = n) (hst0 : as.reverse ++ st = st0) (hsz : mSz st ≤ 8) (hd : decode cc pc = .ok (.invokestatic idx, 3))
    (k : ∀ b, fc = some b → Sim G X cc nL own rt rm em (kf b) (pc + 3) L ((emc b).1.toList ++ st) (emc b).2) : Sim G X cc nL own rt rm em (fc.bind kf) pc L st0 h := by
  intro a ha
  subst hst0
  match fc, ha, hM, k with
  | none, ha, _, _ => cases ha
  | some b, ha, hM, k =>
    have hfc : (some b : Option β) = some b := rfl
    have k := k b hfc a ha
    have hM := fun l => hM l b hfc
    obtain ⟨p, l, e, R, s, m, args, below, meth, c0⟩ := X
    intro F H locs ls hw hS hl hL hst
    obtain ⟨hx, hb, hml, hown, hts, hr, hlk, hK, rfl⟩ := id F
    have hla : ∀ v ∈ as, mLi v := fun v hv => hst v (List.mem_append_left _ (List.mem_reverse.mpr hv))
    have hM := hM l hla
    have hroom : (((st.map (mC G)).map fun v => v.category).sum) ≤ 8 := by
      have e : ((st.map (mC G)).map fun v => v.category).sum = mSz st := by
        simp [mSz, List.map_map, Function.comp_def, mC_cat]
      rw [e]; exact hsz
    have hpre : PreS s H (va_Pc (as.map (mC G)) (mPre G h)) (as.map (mC G)) := ⟨mPre_blind G h _, fun U hU hW => ⟨rfl, hK.warm hW, by rw [hU]; exact hw⟩⟩
    have hrun : va_Run p l e R s m args below meth c0 H locs 0 0 0 0 (F0 m pc ls ((as.reverse ++ st).map (mC G))) (st.map (mC G)) (mQ G (emc b) (as.map (mC G)).toArray) (mA G) := by
      rcases hlink with hlink | ⟨host, hlink⟩
      · exact va_runS (index := idx) (n := n) ⟨hx, hb, hml, hown, hts⟩ hM ⟨callB_of n hts (mGood hme.1) rfl hrc hrs (hts _ hme.2.1) (hts _ hlink) hme.2.2 hR, hts _ hin⟩ hpre rfl (by rw [List.length_map]; exact hn) hl.1 (by simp) (lv_room hroom) hd ⟨Nat.zero_le _, Nat.zero_le _⟩
      · exact va_runSN (index := idx) (n := n) ⟨hx, hb, hml, hown, hts⟩ hM ⟨va_cnB n hts (mGood hme.1) rfl hrc hrs (hK.2 _ hlink) (hts _ hme.2.1) hme.2.2 hR, hts _ hin, trivial⟩ hpre rfl (by rw [List.length_map]; exact hn) hl.1 (by simp) (lv_room hroom) hd ⟨Nat.zero_le _, Nat.zero_le _⟩
    refine mCall hrun hS (fun H1 locs1 hli hw1 hS1 => ?_)
    have k := k F H1 locs1 ls hw1 hS1 hl hL (fun v hv => by
      rcases List.mem_append.mp hv with hv | hv
      · exact hli v (by revert hv; cases (emc b).1 <;> simp; exact fun e => e.symm)
      · exact hst v (List.mem_append_right _ hv))
    rw [List.map_append] at k
    have e : ((emc b).1.toList.map (mC G)) = ((emc b).1.map (mC G)).toList := by cases (emc b).1 <;> rfl
    rw [e] at k
    exact k
end MV
end
