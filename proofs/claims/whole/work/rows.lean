section
-- ===== PART A: goes FIRST, ahead of the names: the tables' words, and 'selects' of the private methods out of them =====
/-- a private method of a class that the tables say can be made, by its rows of tables_1 -/
def lw_okq (q : MethodName × Nat) : Prop := (q.1.cls ≠ "java/lang/invoke/MethodHandle" ∧ q.1.cls ≠ "java/lang/invoke/VarHandle") ∧ Cond.instantiable q.1.cls q.2 ∈ tables_1 ∧ Cond.privateMethod q.1 ∈ tables_1 ∧ Cond.instanceMethod q.1 ∈ tables_1
theorem lw_p0 : lw_okq (⟨"FieldPost", "refuse", "(I)I"⟩, 10) := ⟨⟨by decide +kernel, by decide +kernel⟩, List.mem_of_getElem? (i := 20) (by decide +kernel), List.mem_of_getElem? (i := 396) (by decide +kernel), List.mem_of_getElem? (i := 397) (by decide +kernel)⟩
theorem lw_p1 : lw_okq (⟨"FieldPost$Net", "shorten", "(III)V"⟩, 14) := ⟨⟨by decide +kernel, by decide +kernel⟩, List.mem_of_getElem? (i := 34) (by decide +kernel), List.mem_of_getElem? (i := 427) (by decide +kernel), List.mem_of_getElem? (i := 428) (by decide +kernel)⟩
theorem lw_p2 : lw_okq (⟨"FieldPost$Course", "come", "(I)V"⟩, 8) := ⟨⟨by decide +kernel, by decide +kernel⟩, List.mem_of_getElem? (i := 284) (by decide +kernel), List.mem_of_getElem? (i := 479) (by decide +kernel), List.mem_of_getElem? (i := 480) (by decide +kernel)⟩
theorem lw_p3 : lw_okq (⟨"FieldPost$Post", "lineUp", "(LFieldPost$Course;)I"⟩, 8) := ⟨⟨by decide +kernel, by decide +kernel⟩, List.mem_of_getElem? (i := 28) (by decide +kernel), List.mem_of_getElem? (i := 483) (by decide +kernel), List.mem_of_getElem? (i := 484) (by decide +kernel)⟩
theorem lw_p4 : lw_okq (⟨"FieldPost$Post", "see", "(LFieldPost$Course;II)V"⟩, 8) := ⟨⟨by decide +kernel, by decide +kernel⟩, List.mem_of_getElem? (i := 28) (by decide +kernel), List.mem_of_getElem? (i := 488) (by decide +kernel), List.mem_of_getElem? (i := 489) (by decide +kernel)⟩
theorem lw_p5 : lw_okq (⟨"FieldPost$Post", "turnBack", "(LFieldPost$Course;II)V"⟩, 8) := ⟨⟨by decide +kernel, by decide +kernel⟩, List.mem_of_getElem? (i := 28) (by decide +kernel), List.mem_of_getElem? (i := 527) (by decide +kernel), List.mem_of_getElem? (i := 528) (by decide +kernel)⟩
theorem lw_p6 : lw_okq (⟨"FieldPost$Post", "handle", "(LFieldPost$Course;II)V"⟩, 8) := ⟨⟨by decide +kernel, by decide +kernel⟩, List.mem_of_getElem? (i := 28) (by decide +kernel), List.mem_of_getElem? (i := 535) (by decide +kernel), List.mem_of_getElem? (i := 536) (by decide +kernel)⟩
theorem lw_p7 : lw_okq (⟨"FieldPost$Post", "give", "(LFieldPost$Course;II)V"⟩, 8) := ⟨⟨by decide +kernel, by decide +kernel⟩, List.mem_of_getElem? (i := 28) (by decide +kernel), List.mem_of_getElem? (i := 553) (by decide +kernel), List.mem_of_getElem? (i := 554) (by decide +kernel)⟩
theorem lw_p8 : lw_okq (⟨"FieldPost$Post", "sendOn", "(LFieldPost$Course;III)V"⟩, 8) := ⟨⟨by decide +kernel, by decide +kernel⟩, List.mem_of_getElem? (i := 28) (by decide +kernel), List.mem_of_getElem? (i := 557) (by decide +kernel), List.mem_of_getElem? (i := 558) (by decide +kernel)⟩
theorem lw_p9 : lw_okq (⟨"FieldPost$Reader", "goTo", "(I)V"⟩, 7) := ⟨⟨by decide +kernel, by decide +kernel⟩, List.mem_of_getElem? (i := 152) (by decide +kernel), List.mem_of_getElem? (i := 669) (by decide +kernel), List.mem_of_getElem? (i := 670) (by decide +kernel)⟩
theorem lw_p10 : lw_okq (⟨"FieldPost$Reader", "ors", "(I)V"⟩, 7) := ⟨⟨by decide +kernel, by decide +kernel⟩, List.mem_of_getElem? (i := 152) (by decide +kernel), List.mem_of_getElem? (i := 673) (by decide +kernel), List.mem_of_getElem? (i := 674) (by decide +kernel)⟩
theorem lw_p11 : lw_okq (⟨"FieldPost$Reader", "ands", "(I)V"⟩, 7) := ⟨⟨by decide +kernel, by decide +kernel⟩, List.mem_of_getElem? (i := 152) (by decide +kernel), List.mem_of_getElem? (i := 677) (by decide +kernel), List.mem_of_getElem? (i := 678) (by decide +kernel)⟩
theorem lw_p12 : lw_okq (⟨"FieldPost$Reader", "test", "(I)V"⟩, 7) := ⟨⟨by decide +kernel, by decide +kernel⟩, List.mem_of_getElem? (i := 152) (by decide +kernel), List.mem_of_getElem? (i := 681) (by decide +kernel), List.mem_of_getElem? (i := 682) (by decide +kernel)⟩
theorem lw_p13 : lw_okq (⟨"FieldPost$Reader", "fail", "()V"⟩, 7) := ⟨⟨by decide +kernel, by decide +kernel⟩, List.mem_of_getElem? (i := 152) (by decide +kernel), List.mem_of_getElem? (i := 685) (by decide +kernel), List.mem_of_getElem? (i := 686) (by decide +kernel)⟩
theorem lw_p14 : lw_okq (⟨"FieldPost$Reader", "take", "(C)Z"⟩, 7) := ⟨⟨by decide +kernel, by decide +kernel⟩, List.mem_of_getElem? (i := 152) (by decide +kernel), List.mem_of_getElem? (i := 689) (by decide +kernel), List.mem_of_getElem? (i := 690) (by decide +kernel)⟩
theorem lw_p15 : lw_okq (⟨"FieldPost$Reader", "write", "(I)V"⟩, 7) := ⟨⟨by decide +kernel, by decide +kernel⟩, List.mem_of_getElem? (i := 152) (by decide +kernel), List.mem_of_getElem? (i := 693) (by decide +kernel), List.mem_of_getElem? (i := 694) (by decide +kernel)⟩
def lw_privs_1 : List (MethodName × Nat) := [(⟨"FieldPost", "refuse", "(I)I"⟩, 10), (⟨"FieldPost$Net", "shorten", "(III)V"⟩, 14), (⟨"FieldPost$Course", "come", "(I)V"⟩, 8), (⟨"FieldPost$Post", "lineUp", "(LFieldPost$Course;)I"⟩, 8), (⟨"FieldPost$Post", "see", "(LFieldPost$Course;II)V"⟩, 8), (⟨"FieldPost$Post", "turnBack", "(LFieldPost$Course;II)V"⟩, 8), (⟨"FieldPost$Post", "handle", "(LFieldPost$Course;II)V"⟩, 8), (⟨"FieldPost$Post", "give", "(LFieldPost$Course;II)V"⟩, 8), (⟨"FieldPost$Post", "sendOn", "(LFieldPost$Course;III)V"⟩, 8), (⟨"FieldPost$Reader", "goTo", "(I)V"⟩, 7), (⟨"FieldPost$Reader", "ors", "(I)V"⟩, 7), (⟨"FieldPost$Reader", "ands", "(I)V"⟩, 7), (⟨"FieldPost$Reader", "test", "(I)V"⟩, 7), (⟨"FieldPost$Reader", "fail", "()V"⟩, 7), (⟨"FieldPost$Reader", "take", "(C)Z"⟩, 7), (⟨"FieldPost$Reader", "write", "(I)V"⟩, 7)]
theorem lw_r1 : ∀ q ∈ lw_privs_1, lw_okq q := List.forall_mem_cons.mpr ⟨lw_p0, List.forall_mem_cons.mpr ⟨lw_p1, List.forall_mem_cons.mpr ⟨lw_p2, List.forall_mem_cons.mpr ⟨lw_p3, List.forall_mem_cons.mpr ⟨lw_p4, List.forall_mem_cons.mpr ⟨lw_p5, List.forall_mem_cons.mpr ⟨lw_p6, List.forall_mem_cons.mpr ⟨lw_p7, List.forall_mem_cons.mpr ⟨lw_p8, List.forall_mem_cons.mpr ⟨lw_p9, List.forall_mem_cons.mpr ⟨lw_p10, List.forall_mem_cons.mpr ⟨lw_p11, List.forall_mem_cons.mpr ⟨lw_p12, List.forall_mem_cons.mpr ⟨lw_p13, List.forall_mem_cons.mpr ⟨lw_p14, List.forall_mem_cons.mpr ⟨lw_p15, fun _ h => absurd h List.not_mem_nil⟩⟩⟩⟩⟩⟩⟩⟩⟩⟩⟩⟩⟩⟩⟩⟩
theorem lw_p16 : lw_okq (⟨"FieldPost$Reader", "unit", "()I"⟩, 7) := ⟨⟨by decide +kernel, by decide +kernel⟩, List.mem_of_getElem? (i := 152) (by decide +kernel), List.mem_of_getElem? (i := 697) (by decide +kernel), List.mem_of_getElem? (i := 698) (by decide +kernel)⟩
theorem lw_p17 : lw_okq (⟨"FieldPost$Reader", "sign", "()I"⟩, 7) := ⟨⟨by decide +kernel, by decide +kernel⟩, List.mem_of_getElem? (i := 152) (by decide +kernel), List.mem_of_getElem? (i := 775) (by decide +kernel), List.mem_of_getElem? (i := 776) (by decide +kernel)⟩
theorem lw_p18 : lw_okq (⟨"FieldPost", "notAtOffice", "(I)I"⟩, 10) := ⟨⟨by decide +kernel, by decide +kernel⟩, List.mem_of_getElem? (i := 20) (by decide +kernel), List.mem_of_getElem? (i := 787) (by decide +kernel), List.mem_of_getElem? (i := 788) (by decide +kernel)⟩
theorem lw_p19 : lw_okq (⟨"FieldPost$Roll", "fits", "(III)Z"⟩, 13) := ⟨⟨by decide +kernel, by decide +kernel⟩, List.mem_of_getElem? (i := 94) (by decide +kernel), List.mem_of_getElem? (i := 864) (by decide +kernel), List.mem_of_getElem? (i := 865) (by decide +kernel)⟩
theorem lw_p20 : lw_okq (⟨"FieldPost$Shed", "canBeMade", "(I)Z"⟩, 7) := ⟨⟨by decide +kernel, by decide +kernel⟩, List.mem_of_getElem? (i := 331) (by decide +kernel), List.mem_of_getElem? (i := 892) (by decide +kernel), List.mem_of_getElem? (i := 893) (by decide +kernel)⟩
theorem lw_p21 : lw_okq (⟨"FieldPost$Shed", "isBetter", "(II)Z"⟩, 7) := ⟨⟨by decide +kernel, by decide +kernel⟩, List.mem_of_getElem? (i := 331) (by decide +kernel), List.mem_of_getElem? (i := 899) (by decide +kernel), List.mem_of_getElem? (i := 900) (by decide +kernel)⟩
theorem lw_p22 : lw_okq (⟨"FieldPost$Shed", "sumOf", "([II)I"⟩, 7) := ⟨⟨by decide +kernel, by decide +kernel⟩, List.mem_of_getElem? (i := 331) (by decide +kernel), List.mem_of_getElem? (i := 907) (by decide +kernel), List.mem_of_getElem? (i := 908) (by decide +kernel)⟩
theorem lw_p23 : lw_okq (⟨"FieldPostModel", "no", "(I)I"⟩, 77) := ⟨⟨by decide +kernel, by decide +kernel⟩, List.mem_of_getElem? (i := 953) (by decide +kernel), List.mem_of_getElem? (i := 1199) (by decide +kernel), List.mem_of_getElem? (i := 1200) (by decide +kernel)⟩
theorem lw_p24 : lw_okq (⟨"FieldPostModel", "isOffice", "(I)Z"⟩, 77) := ⟨⟨by decide +kernel, by decide +kernel⟩, List.mem_of_getElem? (i := 953) (by decide +kernel), List.mem_of_getElem? (i := 1207) (by decide +kernel), List.mem_of_getElem? (i := 1208) (by decide +kernel)⟩
theorem lw_p25 : lw_okq (⟨"FieldPostModel", "findFar", "()V"⟩, 77) := ⟨⟨by decide +kernel, by decide +kernel⟩, List.mem_of_getElem? (i := 953) (by decide +kernel), List.mem_of_getElem? (i := 1226) (by decide +kernel), List.mem_of_getElem? (i := 1227) (by decide +kernel)⟩
theorem lw_p26 : lw_okq (⟨"FieldPostModel", "lateOf", "(I)I"⟩, 77) := ⟨⟨by decide +kernel, by decide +kernel⟩, List.mem_of_getElem? (i := 953) (by decide +kernel), List.mem_of_getElem? (i := 1235) (by decide +kernel), List.mem_of_getElem? (i := 1236) (by decide +kernel)⟩
theorem lw_p27 : lw_okq (⟨"FieldPostModel", "unitAt", "(III)I"⟩, 77) := ⟨⟨by decide +kernel, by decide +kernel⟩, List.mem_of_getElem? (i := 953) (by decide +kernel), List.mem_of_getElem? (i := 1251) (by decide +kernel), List.mem_of_getElem? (i := 1252) (by decide +kernel)⟩
theorem lw_p28 : lw_okq (⟨"FieldPostModel", "isHeard", "(III)Z"⟩, 77) := ⟨⟨by decide +kernel, by decide +kernel⟩, List.mem_of_getElem? (i := 953) (by decide +kernel), List.mem_of_getElem? (i := 1255) (by decide +kernel), List.mem_of_getElem? (i := 1256) (by decide +kernel)⟩
theorem lw_p29 : lw_okq (⟨"FieldPostModel", "isMan", "(I)Z"⟩, 77) := ⟨⟨by decide +kernel, by decide +kernel⟩, List.mem_of_getElem? (i := 953) (by decide +kernel), List.mem_of_getElem? (i := 1272) (by decide +kernel), List.mem_of_getElem? (i := 1273) (by decide +kernel)⟩
theorem lw_p30 : lw_okq (⟨"FieldPostModel", "stateAt", "(III)I"⟩, 77) := ⟨⟨by decide +kernel, by decide +kernel⟩, List.mem_of_getElem? (i := 953) (by decide +kernel), List.mem_of_getElem? (i := 1281) (by decide +kernel), List.mem_of_getElem? (i := 1282) (by decide +kernel)⟩
theorem lw_p31 : lw_okq (⟨"FieldPostModel", "latest", "(III)I"⟩, 77) := ⟨⟨by decide +kernel, by decide +kernel⟩, List.mem_of_getElem? (i := 953) (by decide +kernel), List.mem_of_getElem? (i := 1285) (by decide +kernel), List.mem_of_getElem? (i := 1286) (by decide +kernel)⟩
def lw_privs_2 : List (MethodName × Nat) := [(⟨"FieldPost$Reader", "unit", "()I"⟩, 7), (⟨"FieldPost$Reader", "sign", "()I"⟩, 7), (⟨"FieldPost", "notAtOffice", "(I)I"⟩, 10), (⟨"FieldPost$Roll", "fits", "(III)Z"⟩, 13), (⟨"FieldPost$Shed", "canBeMade", "(I)Z"⟩, 7), (⟨"FieldPost$Shed", "isBetter", "(II)Z"⟩, 7), (⟨"FieldPost$Shed", "sumOf", "([II)I"⟩, 7), (⟨"FieldPostModel", "no", "(I)I"⟩, 77), (⟨"FieldPostModel", "isOffice", "(I)Z"⟩, 77), (⟨"FieldPostModel", "findFar", "()V"⟩, 77), (⟨"FieldPostModel", "lateOf", "(I)I"⟩, 77), (⟨"FieldPostModel", "unitAt", "(III)I"⟩, 77), (⟨"FieldPostModel", "isHeard", "(III)Z"⟩, 77), (⟨"FieldPostModel", "isMan", "(I)Z"⟩, 77), (⟨"FieldPostModel", "stateAt", "(III)I"⟩, 77), (⟨"FieldPostModel", "latest", "(III)I"⟩, 77)]
theorem lw_r2 : ∀ q ∈ lw_privs_2, lw_okq q := List.forall_mem_cons.mpr ⟨lw_p16, List.forall_mem_cons.mpr ⟨lw_p17, List.forall_mem_cons.mpr ⟨lw_p18, List.forall_mem_cons.mpr ⟨lw_p19, List.forall_mem_cons.mpr ⟨lw_p20, List.forall_mem_cons.mpr ⟨lw_p21, List.forall_mem_cons.mpr ⟨lw_p22, List.forall_mem_cons.mpr ⟨lw_p23, List.forall_mem_cons.mpr ⟨lw_p24, List.forall_mem_cons.mpr ⟨lw_p25, List.forall_mem_cons.mpr ⟨lw_p26, List.forall_mem_cons.mpr ⟨lw_p27, List.forall_mem_cons.mpr ⟨lw_p28, List.forall_mem_cons.mpr ⟨lw_p29, List.forall_mem_cons.mpr ⟨lw_p30, List.forall_mem_cons.mpr ⟨lw_p31, fun _ h => absurd h List.not_mem_nil⟩⟩⟩⟩⟩⟩⟩⟩⟩⟩⟩⟩⟩⟩⟩⟩
theorem lw_p32 : lw_okq (⟨"FieldPostModel", "whereIs", "(II)I"⟩, 77) := ⟨⟨by decide +kernel, by decide +kernel⟩, List.mem_of_getElem? (i := 953) (by decide +kernel), List.mem_of_getElem? (i := 1293) (by decide +kernel), List.mem_of_getElem? (i := 1294) (by decide +kernel)⟩
theorem lw_p33 : lw_okq (⟨"FieldPostModel", "comes", "(III)V"⟩, 77) := ⟨⟨by decide +kernel, by decide +kernel⟩, List.mem_of_getElem? (i := 953) (by decide +kernel), List.mem_of_getElem? (i := 1302) (by decide +kernel), List.mem_of_getElem? (i := 1303) (by decide +kernel)⟩
theorem lw_p34 : lw_okq (⟨"FieldPostModel", "parses", "()Z"⟩, 77) := ⟨⟨by decide +kernel, by decide +kernel⟩, List.mem_of_getElem? (i := 953) (by decide +kernel), List.mem_of_getElem? (i := 1316) (by decide +kernel), List.mem_of_getElem? (i := 1317) (by decide +kernel)⟩
theorem lw_p35 : lw_okq (⟨"FieldPostModel", "sign", "()I"⟩, 77) := ⟨⟨by decide +kernel, by decide +kernel⟩, List.mem_of_getElem? (i := 953) (by decide +kernel), List.mem_of_getElem? (i := 1320) (by decide +kernel), List.mem_of_getElem? (i := 1321) (by decide +kernel)⟩
theorem lw_p36 : lw_okq (⟨"FieldPostModel", "unit", "()Z"⟩, 77) := ⟨⟨by decide +kernel, by decide +kernel⟩, List.mem_of_getElem? (i := 953) (by decide +kernel), List.mem_of_getElem? (i := 1324) (by decide +kernel), List.mem_of_getElem? (i := 1325) (by decide +kernel)⟩
theorem lw_p37 : lw_okq (⟨"FieldPostModel", "closes", "()V"⟩, 77) := ⟨⟨by decide +kernel, by decide +kernel⟩, List.mem_of_getElem? (i := 953) (by decide +kernel), List.mem_of_getElem? (i := 1334) (by decide +kernel), List.mem_of_getElem? (i := 1335) (by decide +kernel)⟩
theorem lw_p38 : lw_okq (⟨"FieldPostModel", "isMail", "(I)Z"⟩, 77) := ⟨⟨by decide +kernel, by decide +kernel⟩, List.mem_of_getElem? (i := 953) (by decide +kernel), List.mem_of_getElem? (i := 1342) (by decide +kernel), List.mem_of_getElem? (i := 1343) (by decide +kernel)⟩
theorem lw_p39 : lw_okq (⟨"FieldPostModel", "holdsFor", "(III)Z"⟩, 77) := ⟨⟨by decide +kernel, by decide +kernel⟩, List.mem_of_getElem? (i := 953) (by decide +kernel), List.mem_of_getElem? (i := 1346) (by decide +kernel), List.mem_of_getElem? (i := 1347) (by decide +kernel)⟩
theorem lw_p40 : lw_okq (⟨"FieldPostModel", "holdsText", "(I)Z"⟩, 77) := ⟨⟨by decide +kernel, by decide +kernel⟩, List.mem_of_getElem? (i := 953) (by decide +kernel), List.mem_of_getElem? (i := 1350) (by decide +kernel), List.mem_of_getElem? (i := 1351) (by decide +kernel)⟩
theorem lw_p41 : lw_okq (⟨"FieldPostModel", "signOf", "(I)I"⟩, 77) := ⟨⟨by decide +kernel, by decide +kernel⟩, List.mem_of_getElem? (i := 953) (by decide +kernel), List.mem_of_getElem? (i := 1354) (by decide +kernel), List.mem_of_getElem? (i := 1355) (by decide +kernel)⟩
theorem lw_p42 : lw_okq (⟨"FieldPostModel", "waitsFor", "(I)V"⟩, 77) := ⟨⟨by decide +kernel, by decide +kernel⟩, List.mem_of_getElem? (i := 953) (by decide +kernel), List.mem_of_getElem? (i := 1358) (by decide +kernel), List.mem_of_getElem? (i := 1359) (by decide +kernel)⟩
theorem lw_p43 : lw_okq (⟨"FieldPostModel", "unitOf", "(I)I"⟩, 77) := ⟨⟨by decide +kernel, by decide +kernel⟩, List.mem_of_getElem? (i := 953) (by decide +kernel), List.mem_of_getElem? (i := 1362) (by decide +kernel), List.mem_of_getElem? (i := 1363) (by decide +kernel)⟩
theorem lw_p44 : lw_okq (⟨"FieldPostModel", "works", "(I)V"⟩, 77) := ⟨⟨by decide +kernel, by decide +kernel⟩, List.mem_of_getElem? (i := 953) (by decide +kernel), List.mem_of_getElem? (i := 1366) (by decide +kernel), List.mem_of_getElem? (i := 1367) (by decide +kernel)⟩
theorem lw_p45 : lw_okq (⟨"FieldPostModel", "passes", "(I)V"⟩, 77) := ⟨⟨by decide +kernel, by decide +kernel⟩, List.mem_of_getElem? (i := 953) (by decide +kernel), List.mem_of_getElem? (i := 1379) (by decide +kernel), List.mem_of_getElem? (i := 1380) (by decide +kernel)⟩
theorem lw_p46 : lw_okq (⟨"FieldPostModel", "nextAt", "(I)I"⟩, 77) := ⟨⟨by decide +kernel, by decide +kernel⟩, List.mem_of_getElem? (i := 953) (by decide +kernel), List.mem_of_getElem? (i := 1383) (by decide +kernel), List.mem_of_getElem? (i := 1384) (by decide +kernel)⟩
theorem lw_p47 : lw_okq (⟨"FieldPostModel", "sees", "(II)V"⟩, 77) := ⟨⟨by decide +kernel, by decide +kernel⟩, List.mem_of_getElem? (i := 953) (by decide +kernel), List.mem_of_getElem? (i := 1387) (by decide +kernel), List.mem_of_getElem? (i := 1388) (by decide +kernel)⟩
def lw_privs_3 : List (MethodName × Nat) := [(⟨"FieldPostModel", "whereIs", "(II)I"⟩, 77), (⟨"FieldPostModel", "comes", "(III)V"⟩, 77), (⟨"FieldPostModel", "parses", "()Z"⟩, 77), (⟨"FieldPostModel", "sign", "()I"⟩, 77), (⟨"FieldPostModel", "unit", "()Z"⟩, 77), (⟨"FieldPostModel", "closes", "()V"⟩, 77), (⟨"FieldPostModel", "isMail", "(I)Z"⟩, 77), (⟨"FieldPostModel", "holdsFor", "(III)Z"⟩, 77), (⟨"FieldPostModel", "holdsText", "(I)Z"⟩, 77), (⟨"FieldPostModel", "signOf", "(I)I"⟩, 77), (⟨"FieldPostModel", "waitsFor", "(I)V"⟩, 77), (⟨"FieldPostModel", "unitOf", "(I)I"⟩, 77), (⟨"FieldPostModel", "works", "(I)V"⟩, 77), (⟨"FieldPostModel", "passes", "(I)V"⟩, 77), (⟨"FieldPostModel", "nextAt", "(I)I"⟩, 77), (⟨"FieldPostModel", "sees", "(II)V"⟩, 77)]
theorem lw_r3 : ∀ q ∈ lw_privs_3, lw_okq q := List.forall_mem_cons.mpr ⟨lw_p32, List.forall_mem_cons.mpr ⟨lw_p33, List.forall_mem_cons.mpr ⟨lw_p34, List.forall_mem_cons.mpr ⟨lw_p35, List.forall_mem_cons.mpr ⟨lw_p36, List.forall_mem_cons.mpr ⟨lw_p37, List.forall_mem_cons.mpr ⟨lw_p38, List.forall_mem_cons.mpr ⟨lw_p39, List.forall_mem_cons.mpr ⟨lw_p40, List.forall_mem_cons.mpr ⟨lw_p41, List.forall_mem_cons.mpr ⟨lw_p42, List.forall_mem_cons.mpr ⟨lw_p43, List.forall_mem_cons.mpr ⟨lw_p44, List.forall_mem_cons.mpr ⟨lw_p45, List.forall_mem_cons.mpr ⟨lw_p46, List.forall_mem_cons.mpr ⟨lw_p47, fun _ h => absurd h List.not_mem_nil⟩⟩⟩⟩⟩⟩⟩⟩⟩⟩⟩⟩⟩⟩⟩⟩
theorem lw_p48 : lw_okq (⟨"FieldPostModel", "ends", "(III)V"⟩, 77) := ⟨⟨by decide +kernel, by decide +kernel⟩, List.mem_of_getElem? (i := 953) (by decide +kernel), List.mem_of_getElem? (i := 1391) (by decide +kernel), List.mem_of_getElem? (i := 1392) (by decide +kernel)⟩
theorem lw_p49 : lw_okq (⟨"FieldPostModel", "turns", "(II)V"⟩, 77) := ⟨⟨by decide +kernel, by decide +kernel⟩, List.mem_of_getElem? (i := 953) (by decide +kernel), List.mem_of_getElem? (i := 1395) (by decide +kernel), List.mem_of_getElem? (i := 1396) (by decide +kernel)⟩
theorem lw_p50 : lw_okq (⟨"FieldPostModel", "goalOf", "(II)I"⟩, 77) := ⟨⟨by decide +kernel, by decide +kernel⟩, List.mem_of_getElem? (i := 953) (by decide +kernel), List.mem_of_getElem? (i := 1399) (by decide +kernel), List.mem_of_getElem? (i := 1400) (by decide +kernel)⟩
theorem lw_p51 : lw_okq (⟨"FieldPostModel", "wayOn", "(II)I"⟩, 77) := ⟨⟨by decide +kernel, by decide +kernel⟩, List.mem_of_getElem? (i := 953) (by decide +kernel), List.mem_of_getElem? (i := 1403) (by decide +kernel), List.mem_of_getElem? (i := 1404) (by decide +kernel)⟩
theorem lw_p52 : lw_okq (⟨"FieldPostModel", "leaves", "(II)Z"⟩, 77) := ⟨⟨by decide +kernel, by decide +kernel⟩, List.mem_of_getElem? (i := 953) (by decide +kernel), List.mem_of_getElem? (i := 1407) (by decide +kernel), List.mem_of_getElem? (i := 1408) (by decide +kernel)⟩
theorem lw_p53 : lw_okq (⟨"FieldPostModel", "traced", "(I)I"⟩, 77) := ⟨⟨by decide +kernel, by decide +kernel⟩, List.mem_of_getElem? (i := 953) (by decide +kernel), List.mem_of_getElem? (i := 1427) (by decide +kernel), List.mem_of_getElem? (i := 1428) (by decide +kernel)⟩
theorem lw_p54 : lw_okq (⟨"FieldPostModel", "keeps", "()V"⟩, 77) := ⟨⟨by decide +kernel, by decide +kernel⟩, List.mem_of_getElem? (i := 953) (by decide +kernel), List.mem_of_getElem? (i := 1439) (by decide +kernel), List.mem_of_getElem? (i := 1440) (by decide +kernel)⟩
theorem lw_p55 : lw_okq (⟨"FieldPostModel", "putsBack", "()V"⟩, 77) := ⟨⟨by decide +kernel, by decide +kernel⟩, List.mem_of_getElem? (i := 953) (by decide +kernel), List.mem_of_getElem? (i := 1443) (by decide +kernel), List.mem_of_getElem? (i := 1444) (by decide +kernel)⟩
theorem lw_p56 : lw_okq (⟨"FieldPostModel", "notCover", "(II)I"⟩, 77) := ⟨⟨by decide +kernel, by decide +kernel⟩, List.mem_of_getElem? (i := 953) (by decide +kernel), List.mem_of_getElem? (i := 1455) (by decide +kernel), List.mem_of_getElem? (i := 1456) (by decide +kernel)⟩
theorem lw_p57 : lw_okq (⟨"FieldPostModel", "fits", "(III)Z"⟩, 77) := ⟨⟨by decide +kernel, by decide +kernel⟩, List.mem_of_getElem? (i := 953) (by decide +kernel), List.mem_of_getElem? (i := 1462) (by decide +kernel), List.mem_of_getElem? (i := 1463) (by decide +kernel)⟩
theorem lw_p58 : lw_okq (⟨"FieldPostModel", "findBest", "()V"⟩, 77) := ⟨⟨by decide +kernel, by decide +kernel⟩, List.mem_of_getElem? (i := 953) (by decide +kernel), List.mem_of_getElem? (i := 1478) (by decide +kernel), List.mem_of_getElem? (i := 1479) (by decide +kernel)⟩
theorem lw_p59 : lw_okq (⟨"FieldPostModel", "canBe", "(I)Z"⟩, 77) := ⟨⟨by decide +kernel, by decide +kernel⟩, List.mem_of_getElem? (i := 953) (by decide +kernel), List.mem_of_getElem? (i := 1482) (by decide +kernel), List.mem_of_getElem? (i := 1483) (by decide +kernel)⟩
def lw_privs_4 : List (MethodName × Nat) := [(⟨"FieldPostModel", "ends", "(III)V"⟩, 77), (⟨"FieldPostModel", "turns", "(II)V"⟩, 77), (⟨"FieldPostModel", "goalOf", "(II)I"⟩, 77), (⟨"FieldPostModel", "wayOn", "(II)I"⟩, 77), (⟨"FieldPostModel", "leaves", "(II)Z"⟩, 77), (⟨"FieldPostModel", "traced", "(I)I"⟩, 77), (⟨"FieldPostModel", "keeps", "()V"⟩, 77), (⟨"FieldPostModel", "putsBack", "()V"⟩, 77), (⟨"FieldPostModel", "notCover", "(II)I"⟩, 77), (⟨"FieldPostModel", "fits", "(III)Z"⟩, 77), (⟨"FieldPostModel", "findBest", "()V"⟩, 77), (⟨"FieldPostModel", "canBe", "(I)Z"⟩, 77)]
theorem lw_r4 : ∀ q ∈ lw_privs_4, lw_okq q := List.forall_mem_cons.mpr ⟨lw_p48, List.forall_mem_cons.mpr ⟨lw_p49, List.forall_mem_cons.mpr ⟨lw_p50, List.forall_mem_cons.mpr ⟨lw_p51, List.forall_mem_cons.mpr ⟨lw_p52, List.forall_mem_cons.mpr ⟨lw_p53, List.forall_mem_cons.mpr ⟨lw_p54, List.forall_mem_cons.mpr ⟨lw_p55, List.forall_mem_cons.mpr ⟨lw_p56, List.forall_mem_cons.mpr ⟨lw_p57, List.forall_mem_cons.mpr ⟨lw_p58, List.forall_mem_cons.mpr ⟨lw_p59, fun _ h => absurd h List.not_mem_nil⟩⟩⟩⟩⟩⟩⟩⟩⟩⟩⟩⟩
def lw_privs : List (MethodName × Nat) := lw_privs_1 ++ (lw_privs_2 ++ (lw_privs_3 ++ (lw_privs_4)))
def lw_tbl : List Cond := k2_sels lw_privs ++ tables_1
theorem lw_privs_ok : ∀ q ∈ lw_privs, lw_okq q := by
  show ∀ q ∈ lw_privs_1 ++ (lw_privs_2 ++ (lw_privs_3 ++ (lw_privs_4))), lw_okq q
  exact List.forall_mem_append.mpr ⟨lw_r1, List.forall_mem_append.mpr ⟨lw_r2, List.forall_mem_append.mpr ⟨lw_r3, lw_r4⟩⟩⟩
end
section
theorem goodIn_r {big : List Cond} (ws : List Cond) (ps : List Nat) (hp : ws = ps.filterMap (fun i => big[i]?)) (h : ws.all goodWord = true) : GoodIn big ws := by
  intro w hw
  have h1 := List.all_eq_true.mp h w hw
  rw [hp] at hw
  obtain ⟨i, -, hi⟩ := List.mem_filterMap.mp hw
  have hm : w ∈ big := by first | exact List.mem_of_getElem? hi | exact List.getElem?_mem hi
  exact ⟨hm, good_of_word h1⟩
theorem goodIn_app {big a b : List Cond} (ha : GoodIn big a) (hb : GoodIn big b) : GoodIn big (a ++ b) := fun w h => (List.mem_append.mp h).elim (ha w) (hb w)
theorem goodIn_ca {big a b : List Cond} {c : Cond} (ha : GoodIn big (c :: a)) (hb : GoodIn big b) : GoodIn big (c :: (a ++ b)) := fun w h => (List.mem_cons.mp h).elim (fun e => ha w (List.mem_cons.mpr (Or.inl e))) (fun h => (List.mem_append.mp h).elim (fun h => ha w (List.mem_cons.mpr (Or.inr h))) (hb w))
theorem goodIn_sub {big ws : List Cond} (hm : ∀ w ∈ ws, w ∈ big) (h : ws.all goodWord = true) : GoodIn big ws := fun w hw => ⟨hm w hw, good_of_word (List.all_eq_true.mp h w hw)⟩
def RX0 : String := "FieldPost$Course"
def TX0 : u_T := fun k => match k with
  | 0 => ("FieldPost$Course", "where", "[I", true)
  | 1 => ("FieldPost$Course", "office", "[I", true)
  | 2 => ("FieldPost$Course", "hour", "[I", true)
  | 3 => ("FieldPost$Course", "turned", "[Z", true)
  | 4 => ("FieldPost$Course", "word", "[I", true)
  | 5 => ("FieldPost$Course", "came", "[I", true)
  | 6 => ("FieldPost$Course", "spoilt", "[Z", true)
  | _ => ("FieldPost$Course", "traces", "[B", true)
def tyX0 : Nat → FieldType := fun k => match k with
  | 0 => .array .int
  | 1 => .array .int
  | 2 => .array .int
  | 3 => .array .boolean
  | 4 => .array .int
  | 5 => .array .int
  | 6 => .array .boolean
  | _ => .array .byte
abbrev wsX00 : List Cond := u_ws RX0 TX0 8
theorem nmX0 : ∀ a, a < 8 → ∀ b, b < 8 → a ≠ b → (TX0 a).2.1 ≠ (TX0 b).2.1 := by decide +kernel
theorem tyX0_ok : ∀ k, k < 8 → parseFieldDescriptor (TX0 k).2.2.1 = some (tyX0 k) := by decide +kernel
abbrev cX0_init : ByteArray := prog_2_method_1_code
def yX0_init : MethodName := ⟨RX0, "<init>", "(I)V"⟩
abbrev cX0_copyFrom : ByteArray := prog_2_method_2_code
def yX0_copyFrom : MethodName := ⟨RX0, "copyFrom", "(LFieldPost$Course;I)V"⟩
abbrev cX0_begin : ByteArray := prog_2_method_3_code
def yX0_begin : MethodName := ⟨RX0, "begin", "(III)V"⟩
abbrev cX0_arrive : ByteArray := prog_2_method_4_code
def yX0_arrive : MethodName := ⟨RX0, "arrive", "(II)V"⟩
abbrev cX0_come : ByteArray := prog_2_method_5_code
def yX0_come : MethodName := ⟨RX0, "come", "(I)V"⟩
abbrev cX0_send : ByteArray := prog_2_method_6_code
def yX0_send : MethodName := ⟨RX0, "send", "(III)V"⟩
abbrev cX0_turn : ByteArray := prog_2_method_7_code
def yX0_turn : MethodName := ⟨RX0, "turn", "(II)V"⟩
abbrev cX0_finish : ByteArray := prog_2_method_8_code
def yX0_finish : MethodName := ⟨RX0, "finish", "(III)V"⟩
abbrev cX0_ended : ByteArray := prog_2_method_9_code
def yX0_ended : MethodName := ⟨RX0, "ended", "(I)Z"⟩
abbrev cX0_howMany : ByteArray := prog_2_method_10_code
def yX0_howMany : MethodName := ⟨RX0, "howMany", "(II)I"⟩
abbrev cX0_howManySpoilt : ByteArray := prog_2_method_11_code
def yX0_howManySpoilt : MethodName := ⟨RX0, "howManySpoilt", "(I)I"⟩
abbrev cX0_traced : ByteArray := prog_2_method_12_code
def yX0_traced : MethodName := ⟨RX0, "traced", "(II)I"⟩
abbrev cX0_toAndFro : ByteArray := prog_2_method_13_code
def yX0_toAndFro : MethodName := ⟨RX0, "toAndFro", "(I)I"⟩
def RX1 : String := "FieldPost$Mails"
def TX1 : u_T := fun k => match k with
  | 0 => ("FieldPost$Mails", "kind", "[I", true)
  | 1 => ("FieldPost$Mails", "origin", "[I", true)
  | 2 => ("FieldPost$Mails", "man", "[I", true)
  | 3 => ("FieldPost$Mails", "weight", "[I", true)
  | 4 => ("FieldPost$Mails", "posted", "[I", true)
  | _ => ("FieldPost$Mails", "count", "I", false)
def tyX1 : Nat → FieldType := fun k => match k with
  | 0 => .array .int
  | 1 => .array .int
  | 2 => .array .int
  | 3 => .array .int
  | 4 => .array .int
  | _ => .int
abbrev wsX10 : List Cond := u_ws RX1 TX1 6
theorem nmX1 : ∀ a, a < 6 → ∀ b, b < 6 → a ≠ b → (TX1 a).2.1 ≠ (TX1 b).2.1 := by decide +kernel
theorem tyX1_ok : ∀ k, k < 6 → parseFieldDescriptor (TX1 k).2.2.1 = some (tyX1 k) := by decide +kernel
abbrev cX1_init : ByteArray := prog_3_method_1_code
def yX1_init : MethodName := ⟨RX1, "<init>", "()V"⟩
abbrev cX1_has : ByteArray := prog_3_method_2_code
def yX1_has : MethodName := ⟨RX1, "has", "(I)Z"⟩
abbrev cX1_add : ByteArray := prog_3_method_3_code
def yX1_add : MethodName := ⟨RX1, "add", "(IIIII)I"⟩
def RX2 : String := "FieldPost$Net"
def TX2 : u_T := fun k => match k with
  | 0 => ("FieldPost$Net", "hands", "[I", true)
  | 1 => ("FieldPost$Net", "wired", "[Z", true)
  | 2 => ("FieldPost$Net", "far", "[I", true)
  | 3 => ("FieldPost$Net", "offices", "I", false)
  | 4 => ("FieldPost$Net", "endA", "[I", true)
  | 5 => ("FieldPost$Net", "endB", "[I", true)
  | 6 => ("FieldPost$Net", "length", "[I", true)
  | 7 => ("FieldPost$Net", "first", "[I", true)
  | 8 => ("FieldPost$Net", "every", "[I", true)
  | 9 => ("FieldPost$Net", "ways", "I", false)
  | 10 => ("FieldPost$Net", "shutWay", "[I", true)
  | 11 => ("FieldPost$Net", "shutFrom", "[I", true)
  | 12 => ("FieldPost$Net", "shutTo", "[I", true)
  | _ => ("FieldPost$Net", "shuts", "I", false)
def tyX2 : Nat → FieldType := fun k => match k with
  | 0 => .array .int
  | 1 => .array .boolean
  | 2 => .array .int
  | 3 => .int
  | 4 => .array .int
  | 5 => .array .int
  | 6 => .array .int
  | 7 => .array .int
  | 8 => .array .int
  | 9 => .int
  | 10 => .array .int
  | 11 => .array .int
  | 12 => .array .int
  | _ => .int
abbrev wsX20 : List Cond := u_ws RX2 TX2 14
theorem nmX2 : ∀ a, a < 14 → ∀ b, b < 14 → a ≠ b → (TX2 a).2.1 ≠ (TX2 b).2.1 := by decide +kernel
theorem tyX2_ok : ∀ k, k < 14 → parseFieldDescriptor (TX2 k).2.2.1 = some (tyX2 k) := by decide +kernel
abbrev cX2_init : ByteArray := prog_4_method_1_code
def yX2_init : MethodName := ⟨RX2, "<init>", "()V"⟩
abbrev cX2_hasOffice : ByteArray := prog_4_method_2_code
def yX2_hasOffice : MethodName := ⟨RX2, "hasOffice", "(I)Z"⟩
abbrev cX2_hasWay : ByteArray := prog_4_method_3_code
def yX2_hasWay : MethodName := ⟨RX2, "hasWay", "(I)Z"⟩
abbrev cX2_addOffice : ByteArray := prog_4_method_4_code
def yX2_addOffice : MethodName := ⟨RX2, "addOffice", "(IZ)I"⟩
abbrev cX2_setOffice : ByteArray := prog_4_method_5_code
def yX2_setOffice : MethodName := ⟨RX2, "setOffice", "(IIZ)I"⟩
abbrev cX2_addWay : ByteArray := prog_4_method_6_code
def yX2_addWay : MethodName := ⟨RX2, "addWay", "(IIIII)I"⟩
abbrev cX2_shorten : ByteArray := prog_4_method_7_code
def yX2_shorten : MethodName := ⟨RX2, "shorten", "(III)V"⟩
abbrev cX2_addShut : ByteArray := prog_4_method_8_code
def yX2_addShut : MethodName := ⟨RX2, "addShut", "(III)I"⟩
abbrev cX2_farBetween : ByteArray := prog_4_method_9_code
def yX2_farBetween : MethodName := ⟨RX2, "farBetween", "(II)I"⟩
abbrev cX2_lateAt : ByteArray := prog_4_method_10_code
def yX2_lateAt : MethodName := ⟨RX2, "lateAt", "(I)I"⟩
abbrev cX2_leaves : ByteArray := prog_4_method_11_code
def yX2_leaves : MethodName := ⟨RX2, "leaves", "(II)Z"⟩
abbrev cX2_wayTo : ByteArray := prog_4_method_12_code
def yX2_wayTo : MethodName := ⟨RX2, "wayTo", "(II)I"⟩
abbrev cX2_otherEnd : ByteArray := prog_4_method_13_code
def yX2_otherEnd : MethodName := ⟨RX2, "otherEnd", "(II)I"⟩
def RX3 : String := "FieldPost$Orders"
def TX3 : u_T := fun k => match k with
  | 0 => ("FieldPost$Orders", "reader", "LFieldPost$Reader;", true)
  | 1 => ("FieldPost$Orders", "taped", "I", false)
  | 2 => ("FieldPost$Orders", "purposes", "[I", true)
  | 3 => ("FieldPost$Orders", "told", "[I", true)
  | 4 => ("FieldPost$Orders", "sizes", "[I", true)
  | 5 => ("FieldPost$Orders", "steps", "[I", true)
  | _ => ("FieldPost$Orders", "count", "I", false)
def tyX3 : Nat → FieldType := fun k => match k with
  | 0 => .object "FieldPost$Reader"
  | 1 => .int
  | 2 => .array .int
  | 3 => .array .int
  | 4 => .array .int
  | 5 => .array .int
  | _ => .int
abbrev wsX30 : List Cond := u_ws RX3 TX3 7
theorem nmX3 : ∀ a, a < 7 → ∀ b, b < 7 → a ≠ b → (TX3 a).2.1 ≠ (TX3 b).2.1 := by decide +kernel
theorem tyX3_ok : ∀ k, k < 7 → parseFieldDescriptor (TX3 k).2.2.1 = some (tyX3 k) := by decide +kernel
abbrev cX3_init : ByteArray := prog_5_method_1_code
def yX3_init : MethodName := ⟨RX3, "<init>", "()V"⟩
abbrev cX3_addBytes : ByteArray := prog_5_method_2_code
def yX3_addBytes : MethodName := ⟨RX3, "addBytes", "(IJ)I"⟩
abbrev cX3_addOrder : ByteArray := prog_5_method_3_code
def yX3_addOrder : MethodName := ⟨RX3, "addOrder", "(II)I"⟩
abbrev cX3_inForce : ByteArray := prog_5_method_4_code
def yX3_inForce : MethodName := ⟨RX3, "inForce", "(III)I"⟩
abbrev cX3_isTrue : ByteArray := prog_5_method_5_code
def yX3_isTrue : MethodName := ⟨RX3, "isTrue", "(I[I)Z"⟩
abbrev cX3_isTrueStep : ByteArray := prog_5_method_6_code
def yX3_isTrueStep : MethodName := ⟨RX3, "isTrueStep", "(I[I)Z"⟩
abbrev cX3_valueOf : ByteArray := prog_5_method_7_code
def yX3_valueOf : MethodName := ⟨RX3, "valueOf", "(I[I)I"⟩
def RX4 : String := "FieldPost$Post"
def TX4 : u_T := fun k => match k with
  | 0 => ("FieldPost$Post", "net", "LFieldPost$Net;", true)
  | 1 => ("FieldPost$Post", "roll", "LFieldPost$Roll;", true)
  | 2 => ("FieldPost$Post", "orders", "LFieldPost$Orders;", true)
  | 3 => ("FieldPost$Post", "mails", "LFieldPost$Mails;", true)
  | 4 => ("FieldPost$Post", "queue", "[I", true)
  | 5 => ("FieldPost$Post", "seen", "[I", true)
  | 6 => ("FieldPost$Post", "facts", "[I", true)
  | _ => ("FieldPost$Post", "keepHours", "I", false)
def tyX4 : Nat → FieldType := fun k => match k with
  | 0 => .object "FieldPost$Net"
  | 1 => .object "FieldPost$Roll"
  | 2 => .object "FieldPost$Orders"
  | 3 => .object "FieldPost$Mails"
  | 4 => .array .int
  | 5 => .array .int
  | 6 => .array .int
  | _ => .int
abbrev wsX40 : List Cond := u_ws RX4 TX4 8
theorem nmX4 : ∀ a, a < 8 → ∀ b, b < 8 → a ≠ b → (TX4 a).2.1 ≠ (TX4 b).2.1 := by decide +kernel
theorem tyX4_ok : ∀ k, k < 8 → parseFieldDescriptor (TX4 k).2.2.1 = some (tyX4 k) := by decide +kernel
abbrev cX4_init : ByteArray := prog_6_method_1_code
def yX4_init : MethodName := ⟨RX4, "<init>", "()V"⟩
abbrev cX4_passHour : ByteArray := prog_6_method_2_code
def yX4_passHour : MethodName := ⟨RX4, "passHour", "(LFieldPost$Course;I)V"⟩
abbrev cX4_lineUp : ByteArray := prog_6_method_3_code
def yX4_lineUp : MethodName := ⟨RX4, "lineUp", "(LFieldPost$Course;)I"⟩
abbrev cX4_see : ByteArray := prog_6_method_4_code
def yX4_see : MethodName := ⟨RX4, "see", "(LFieldPost$Course;II)V"⟩
abbrev cX4_turnBack : ByteArray := prog_6_method_5_code
def yX4_turnBack : MethodName := ⟨RX4, "turnBack", "(LFieldPost$Course;II)V"⟩
abbrev cX4_handle : ByteArray := prog_6_method_6_code
def yX4_handle : MethodName := ⟨RX4, "handle", "(LFieldPost$Course;II)V"⟩
abbrev cX4_give : ByteArray := prog_6_method_7_code
def yX4_give : MethodName := ⟨RX4, "give", "(LFieldPost$Course;II)V"⟩
abbrev cX4_sendOn : ByteArray := prog_6_method_8_code
def yX4_sendOn : MethodName := ⟨RX4, "sendOn", "(LFieldPost$Course;III)V"⟩
abbrev cX4_goalOf : ByteArray := prog_6_method_9_code
def yX4_goalOf : MethodName := ⟨RX4, "goalOf", "(LFieldPost$Course;II)I"⟩
abbrev cX4_takeFacts : ByteArray := prog_6_method_10_code
def yX4_takeFacts : MethodName := ⟨RX4, "takeFacts", "(LFieldPost$Course;II)V"⟩
abbrev cX4_purposeHolds : ByteArray := prog_6_method_11_code
def yX4_purposeHolds : MethodName := ⟨RX4, "purposeHolds", "(III)Z"⟩
def RX5 : String := "FieldPost$Reader"
def TX5 : u_T := fun k => match k with
  | 0 => ("FieldPost$Reader", "text", "[B", true)
  | 1 => ("FieldPost$Reader", "steps", "[I", true)
  | 2 => ("FieldPost$Reader", "size", "I", false)
  | 3 => ("FieldPost$Reader", "length", "I", false)
  | 4 => ("FieldPost$Reader", "place", "I", false)
  | 5 => ("FieldPost$Reader", "fault", "I", false)
  | _ => ("FieldPost$Reader", "here", "C", false)
def tyX5 : Nat → FieldType := fun k => match k with
  | 0 => .array .byte
  | 1 => .array .int
  | 2 => .int
  | 3 => .int
  | 4 => .int
  | 5 => .int
  | _ => .char
abbrev wsX50 : List Cond := u_ws RX5 TX5 7
theorem nmX5 : ∀ a, a < 7 → ∀ b, b < 7 → a ≠ b → (TX5 a).2.1 ≠ (TX5 b).2.1 := by decide +kernel
theorem tyX5_ok : ∀ k, k < 7 → parseFieldDescriptor (TX5 k).2.2.1 = some (tyX5 k) := by decide +kernel
abbrev cX5_init : ByteArray := prog_7_method_1_code
def yX5_init : MethodName := ⟨RX5, "<init>", "()V"⟩
abbrev cX5_readText : ByteArray := prog_7_method_2_code
def yX5_readText : MethodName := ⟨RX5, "readText", "(I)I"⟩
abbrev cX5_ors : ByteArray := prog_7_method_3_code
def yX5_ors : MethodName := ⟨RX5, "ors", "(I)V"⟩
abbrev cX5_ands : ByteArray := prog_7_method_4_code
def yX5_ands : MethodName := ⟨RX5, "ands", "(I)V"⟩
abbrev cX5_test : ByteArray := prog_7_method_5_code
def yX5_test : MethodName := ⟨RX5, "test", "(I)V"⟩
abbrev cX5_unit : ByteArray := prog_7_method_6_code
def yX5_unit : MethodName := ⟨RX5, "unit", "()I"⟩
abbrev cX5_sign : ByteArray := prog_7_method_7_code
def yX5_sign : MethodName := ⟨RX5, "sign", "()I"⟩
abbrev cX5_take : ByteArray := prog_7_method_8_code
def yX5_take : MethodName := ⟨RX5, "take", "(C)Z"⟩
abbrev cX5_goTo : ByteArray := prog_7_method_9_code
def yX5_goTo : MethodName := ⟨RX5, "goTo", "(I)V"⟩
abbrev cX5_fail : ByteArray := prog_7_method_10_code
def yX5_fail : MethodName := ⟨RX5, "fail", "()V"⟩
abbrev cX5_write : ByteArray := prog_7_method_11_code
def yX5_write : MethodName := ⟨RX5, "write", "(I)V"⟩
def RX6 : String := "FieldPost$Roll"
def TX6 : u_T := fun k => match k with
  | 0 => ("FieldPost$Roll", "moveUnit", "[I", true)
  | 1 => ("FieldPost$Roll", "moveOffice", "[I", true)
  | 2 => ("FieldPost$Roll", "moveFrom", "[I", true)
  | 3 => ("FieldPost$Roll", "moveTold", "[I", true)
  | 4 => ("FieldPost$Roll", "moves", "I", false)
  | 5 => ("FieldPost$Roll", "manUnit", "[I", true)
  | 6 => ("FieldPost$Roll", "manName", "[I", true)
  | 7 => ("FieldPost$Roll", "men", "I", false)
  | 8 => ("FieldPost$Roll", "stateMan", "[I", true)
  | 9 => ("FieldPost$Roll", "stateNumber", "[I", true)
  | 10 => ("FieldPost$Roll", "stateOffice", "[I", true)
  | 11 => ("FieldPost$Roll", "stateTold", "[I", true)
  | _ => ("FieldPost$Roll", "states", "I", false)
def tyX6 : Nat → FieldType := fun k => match k with
  | 0 => .array .int
  | 1 => .array .int
  | 2 => .array .int
  | 3 => .array .int
  | 4 => .int
  | 5 => .array .int
  | 6 => .array .int
  | 7 => .int
  | 8 => .array .int
  | 9 => .array .int
  | 10 => .array .int
  | 11 => .array .int
  | _ => .int
abbrev wsX60 : List Cond := u_ws RX6 TX6 13
theorem nmX6 : ∀ a, a < 13 → ∀ b, b < 13 → a ≠ b → (TX6 a).2.1 ≠ (TX6 b).2.1 := by decide +kernel
theorem tyX6_ok : ∀ k, k < 13 → parseFieldDescriptor (TX6 k).2.2.1 = some (tyX6 k) := by decide +kernel
abbrev cX6_init : ByteArray := prog_8_method_1_code
def yX6_init : MethodName := ⟨RX6, "<init>", "()V"⟩
abbrev cX6_hasMan : ByteArray := prog_8_method_2_code
def yX6_hasMan : MethodName := ⟨RX6, "hasMan", "(I)Z"⟩
abbrev cX6_addMove : ByteArray := prog_8_method_3_code
def yX6_addMove : MethodName := ⟨RX6, "addMove", "(IIII)I"⟩
abbrev cX6_addMan : ByteArray := prog_8_method_4_code
def yX6_addMan : MethodName := ⟨RX6, "addMan", "(II)I"⟩
abbrev cX6_addState : ByteArray := prog_8_method_5_code
def yX6_addState : MethodName := ⟨RX6, "addState", "(IIII)I"⟩
abbrev cX6_unitAt : ByteArray := prog_8_method_6_code
def yX6_unitAt : MethodName := ⟨RX6, "unitAt", "(III)I"⟩
abbrev cX6_lastState : ByteArray := prog_8_method_7_code
def yX6_lastState : MethodName := ⟨RX6, "lastState", "(III)I"⟩
abbrev cX6_stateBy : ByteArray := prog_8_method_8_code
def yX6_stateBy : MethodName := ⟨RX6, "stateBy", "(III)I"⟩
abbrev cX6_manIsAt : ByteArray := prog_8_method_9_code
def yX6_manIsAt : MethodName := ⟨RX6, "manIsAt", "(II)I"⟩
abbrev cX6_fitting : ByteArray := prog_8_method_10_code
def yX6_fitting : MethodName := ⟨RX6, "fitting", "(II)I"⟩
abbrev cX6_firstFitting : ByteArray := prog_8_method_11_code
def yX6_firstFitting : MethodName := ⟨RX6, "firstFitting", "(II)I"⟩
abbrev cX6_fits : ByteArray := prog_8_method_12_code
def yX6_fits : MethodName := ⟨RX6, "fits", "(III)Z"⟩
def RX7 : String := "FieldPost$Shed"
def TX7 : u_T := fun k => match k with
  | 0 => ("FieldPost$Shed", "times", "[I", true)
  | 1 => ("FieldPost$Shed", "trains", "[I", true)
  | 2 => ("FieldPost$Shed", "letters", "[I", true)
  | 3 => ("FieldPost$Shed", "sacks", "I", false)
  | 4 => ("FieldPost$Shed", "byTrain", "[I", true)
  | 5 => ("FieldPost$Shed", "row", "[I", true)
  | _ => ("FieldPost$Shed", "rowSize", "I", false)
def tyX7 : Nat → FieldType := fun k => match k with
  | 0 => .array .int
  | 1 => .array .int
  | 2 => .array .int
  | 3 => .int
  | 4 => .array .int
  | 5 => .array .int
  | _ => .int
abbrev wsX70 : List Cond := u_ws RX7 TX7 7
theorem nmX7 : ∀ a, a < 7 → ∀ b, b < 7 → a ≠ b → (TX7 a).2.1 ≠ (TX7 b).2.1 := by decide +kernel
theorem tyX7_ok : ∀ k, k < 7 → parseFieldDescriptor (TX7 k).2.2.1 = some (tyX7 k) := by decide +kernel
abbrev cX7_init : ByteArray := prog_9_method_1_code
def yX7_init : MethodName := ⟨RX7, "<init>", "()V"⟩
abbrev cX7_addSack : ByteArray := prog_9_method_2_code
def yX7_addSack : MethodName := ⟨RX7, "addSack", "(III)I"⟩
abbrev cX7_addToRow : ByteArray := prog_9_method_3_code
def yX7_addToRow : MethodName := ⟨RX7, "addToRow", "(I)I"⟩
abbrev cX7_bestSet : ByteArray := prog_9_method_4_code
def yX7_bestSet : MethodName := ⟨RX7, "bestSet", "()I"⟩
abbrev cX7_isBetter : ByteArray := prog_9_method_5_code
def yX7_isBetter : MethodName := ⟨RX7, "isBetter", "(II)Z"⟩
abbrev cX7_canBeMade : ByteArray := prog_9_method_6_code
def yX7_canBeMade : MethodName := ⟨RX7, "canBeMade", "(I)Z"⟩
abbrev cX7_isIn : ByteArray := prog_9_method_7_code
def yX7_isIn : MethodName := ⟨RX7, "isIn", "(II)Z"⟩
abbrev cX7_lettersOf : ByteArray := prog_9_method_8_code
def yX7_lettersOf : MethodName := ⟨RX7, "lettersOf", "(I)I"⟩
abbrev cX7_hoursOf : ByteArray := prog_9_method_9_code
def yX7_hoursOf : MethodName := ⟨RX7, "hoursOf", "(I)I"⟩
abbrev cX7_sumOf : ByteArray := prog_9_method_10_code
def yX7_sumOf : MethodName := ⟨RX7, "sumOf", "([II)I"⟩
abbrev cX7_rowMade : ByteArray := prog_9_method_11_code
def yX7_rowMade : MethodName := ⟨RX7, "rowMade", "()I"⟩
abbrev cX7_rowLetters : ByteArray := prog_9_method_12_code
def yX7_rowLetters : MethodName := ⟨RX7, "rowLetters", "(I)I"⟩
def RX8 : String := "FieldPost"
def TX8 : u_T := fun k => match k with
  | 0 => ("FieldPost", "post", "LFieldPost$Post;", true)
  | 1 => ("FieldPost", "net", "LFieldPost$Net;", true)
  | 2 => ("FieldPost", "roll", "LFieldPost$Roll;", true)
  | 3 => ("FieldPost", "orders", "LFieldPost$Orders;", true)
  | 4 => ("FieldPost", "mails", "LFieldPost$Mails;", true)
  | 5 => ("FieldPost", "course", "LFieldPost$Course;", true)
  | 6 => ("FieldPost", "glass", "LFieldPost$Course;", true)
  | 7 => ("FieldPost", "shed", "LFieldPost$Shed;", true)
  | 8 => ("FieldPost", "refusals", "[I", true)
  | _ => ("FieldPost", "now", "I", false)
def tyX8 : Nat → FieldType := fun k => match k with
  | 0 => .object "FieldPost$Post"
  | 1 => .object "FieldPost$Net"
  | 2 => .object "FieldPost$Roll"
  | 3 => .object "FieldPost$Orders"
  | 4 => .object "FieldPost$Mails"
  | 5 => .object "FieldPost$Course"
  | 6 => .object "FieldPost$Course"
  | 7 => .object "FieldPost$Shed"
  | 8 => .array .int
  | _ => .int
abbrev wsX80 : List Cond := u_ws RX8 TX8 10
theorem nmX8 : ∀ a, a < 10 → ∀ b, b < 10 → a ≠ b → (TX8 a).2.1 ≠ (TX8 b).2.1 := by decide +kernel
theorem tyX8_ok : ∀ k, k < 10 → parseFieldDescriptor (TX8 k).2.2.1 = some (tyX8 k) := by decide +kernel
abbrev cX8_init : ByteArray := prog_1_method_1_code
def yX8_init : MethodName := ⟨RX8, "<init>", "()V"⟩
abbrev cX8_office : ByteArray := prog_1_method_2_code
def yX8_office : MethodName := ⟨RX8, "office", "(IZ)I"⟩
abbrev cX8_staff : ByteArray := prog_1_method_3_code
def yX8_staff : MethodName := ⟨RX8, "staff", "(IIZ)I"⟩
abbrev cX8_way : ByteArray := prog_1_method_4_code
def yX8_way : MethodName := ⟨RX8, "way", "(IIIII)I"⟩
abbrev cX8_shut : ByteArray := prog_1_method_5_code
def yX8_shut : MethodName := ⟨RX8, "shut", "(III)I"⟩
abbrev cX8_far : ByteArray := prog_1_method_6_code
def yX8_far : MethodName := ⟨RX8, "far", "(II)I"⟩
abbrev cX8_late : ByteArray := prog_1_method_7_code
def yX8_late : MethodName := ⟨RX8, "late", "(I)I"⟩
abbrev cX8_hours : ByteArray := prog_1_method_8_code
def yX8_hours : MethodName := ⟨RX8, "hours", "(I)I"⟩
abbrev cX8_move : ByteArray := prog_1_method_9_code
def yX8_move : MethodName := ⟨RX8, "move", "(III)I"⟩
abbrev cX8_is : ByteArray := prog_1_method_10_code
def yX8_is : MethodName := ⟨RX8, "is", "(II)I"⟩
abbrev cX8_list : ByteArray := prog_1_method_11_code
def yX8_list : MethodName := ⟨RX8, "list", "(III)I"⟩
abbrev cX8_man : ByteArray := prog_1_method_12_code
def yX8_man : MethodName := ⟨RX8, "man", "(II)I"⟩
abbrev cX8_state : ByteArray := prog_1_method_13_code
def yX8_state : MethodName := ⟨RX8, "state", "(III)I"⟩
abbrev cX8_stateOf : ByteArray := prog_1_method_14_code
def yX8_stateOf : MethodName := ⟨RX8, "stateOf", "(III)I"⟩
abbrev cX8_manAt : ByteArray := prog_1_method_15_code
def yX8_manAt : MethodName := ⟨RX8, "manAt", "(I)I"⟩
abbrev cX8_mail : ByteArray := prog_1_method_16_code
def yX8_mail : MethodName := ⟨RX8, "mail", "(IIII)I"⟩
abbrev cX8_feed : ByteArray := prog_1_method_17_code
def yX8_feed : MethodName := ⟨RX8, "feed", "(IJ)I"⟩
abbrev cX8_order : ByteArray := prog_1_method_18_code
def yX8_order : MethodName := ⟨RX8, "order", "(I)I"⟩
abbrev cX8_holds : ByteArray := prog_1_method_19_code
def yX8_holds : MethodName := ⟨RX8, "holds", "(II)I"⟩
abbrev cX8_keep : ByteArray := prog_1_method_20_code
def yX8_keep : MethodName := ⟨RX8, "keep", "(I)I"⟩
abbrev cX8_mailOf : ByteArray := prog_1_method_21_code
def yX8_mailOf : MethodName := ⟨RX8, "mailOf", "(II)I"⟩
abbrev cX8_goal : ByteArray := prog_1_method_22_code
def yX8_goal : MethodName := ⟨RX8, "goal", "(I)I"⟩
abbrev cX8_next : ByteArray := prog_1_method_23_code
def yX8_next : MethodName := ⟨RX8, "next", "(I)I"⟩
abbrev cX8_trace : ByteArray := prog_1_method_24_code
def yX8_trace : MethodName := ⟨RX8, "trace", "(II)I"⟩
abbrev cX8_fro : ByteArray := prog_1_method_25_code
def yX8_fro : MethodName := ⟨RX8, "fro", "(I)I"⟩
abbrev cX8_after : ByteArray := prog_1_method_26_code
def yX8_after : MethodName := ⟨RX8, "after", "(II)I"⟩
abbrev cX8_paid : ByteArray := prog_1_method_27_code
def yX8_paid : MethodName := ⟨RX8, "paid", "(I)I"⟩
abbrev cX8_cover : ByteArray := prog_1_method_28_code
def yX8_cover : MethodName := ⟨RX8, "cover", "(II)I"⟩
abbrev cX8_sure : ByteArray := prog_1_method_29_code
def yX8_sure : MethodName := ⟨RX8, "sure", "(II)I"⟩
abbrev cX8_sack : ByteArray := prog_1_method_30_code
def yX8_sack : MethodName := ⟨RX8, "sack", "(III)I"⟩
abbrev cX8_best : ByteArray := prog_1_method_31_code
def yX8_best : MethodName := ⟨RX8, "best", "(I)I"⟩
abbrev cX8_put : ByteArray := prog_1_method_32_code
def yX8_put : MethodName := ⟨RX8, "put", "(I)I"⟩
abbrev cX8_judge : ByteArray := prog_1_method_33_code
def yX8_judge : MethodName := ⟨RX8, "judge", "(I)I"⟩
abbrev cX8_waiting : ByteArray := prog_1_method_34_code
def yX8_waiting : MethodName := ⟨RX8, "waiting", "(I)I"⟩
abbrev cX8_count : ByteArray := prog_1_method_35_code
def yX8_count : MethodName := ⟨RX8, "count", "(I)I"⟩
abbrev cX8_refuse : ByteArray := prog_1_method_36_code
def yX8_refuse : MethodName := ⟨RX8, "refuse", "(I)I"⟩
abbrev cX8_isUnit : ByteArray := prog_1_method_37_code
def yX8_isUnit : MethodName := ⟨RX8, "isUnit", "(I)Z"⟩
abbrev cX8_isPurpose : ByteArray := prog_1_method_38_code
def yX8_isPurpose : MethodName := ⟨RX8, "isPurpose", "(I)Z"⟩
abbrev cX8_reachedOrNone : ByteArray := prog_1_method_39_code
def yX8_reachedOrNone : MethodName := ⟨RX8, "reachedOrNone", "(I)I"⟩
abbrev cX8_mostWeight : ByteArray := prog_1_method_40_code
def yX8_mostWeight : MethodName := ⟨RX8, "mostWeight", "(I)I"⟩
abbrev cX8_endOf : ByteArray := prog_1_method_41_code
def yX8_endOf : MethodName := ⟨RX8, "endOf", "(LFieldPost$Course;II)I"⟩
abbrev cX8_outside : ByteArray := prog_1_method_42_code
def yX8_outside : MethodName := ⟨RX8, "outside", "(III)I"⟩
abbrev cX8_notACover : ByteArray := prog_1_method_43_code
def yX8_notACover : MethodName := ⟨RX8, "notACover", "(II)I"⟩
abbrev cX8_notAtOffice : ByteArray := prog_1_method_44_code
def yX8_notAtOffice : MethodName := ⟨RX8, "notAtOffice", "(I)I"⟩
def RX9 : String := "FieldPostModel"
def TX9 : u_T := fun k => match k with
  | 0 => ("FieldPostModel", "refused", "[I", true)
  | 1 => ("FieldPostModel", "hands", "[I", true)
  | 2 => ("FieldPostModel", "wayA", "[I", true)
  | 3 => ("FieldPostModel", "wayB", "[I", true)
  | 4 => ("FieldPostModel", "length", "[I", true)
  | 5 => ("FieldPostModel", "first", "[I", true)
  | 6 => ("FieldPostModel", "every", "[I", true)
  | 7 => ("FieldPostModel", "shutWay", "[I", true)
  | 8 => ("FieldPostModel", "shutFrom", "[I", true)
  | 9 => ("FieldPostModel", "shutTo", "[I", true)
  | 10 => ("FieldPostModel", "far", "[I", true)
  | 11 => ("FieldPostModel", "isWired", "[Z", true)
  | 12 => ("FieldPostModel", "offices", "I", false)
  | 13 => ("FieldPostModel", "ways", "I", false)
  | 14 => ("FieldPostModel", "shuts", "I", false)
  | 15 => ("FieldPostModel", "now", "I", false)
  | 16 => ("FieldPostModel", "moveUnit", "[I", true)
  | 17 => ("FieldPostModel", "moveTo", "[I", true)
  | 18 => ("FieldPostModel", "moveFrom", "[I", true)
  | 19 => ("FieldPostModel", "moveTold", "[I", true)
  | 20 => ("FieldPostModel", "manUnit", "[I", true)
  | 21 => ("FieldPostModel", "manName", "[I", true)
  | 22 => ("FieldPostModel", "stateMan", "[I", true)
  | 23 => ("FieldPostModel", "stateAs", "[I", true)
  | 24 => ("FieldPostModel", "stateIn", "[I", true)
  | 25 => ("FieldPostModel", "stateTold", "[I", true)
  | 26 => ("FieldPostModel", "moves", "I", false)
  | 27 => ("FieldPostModel", "men", "I", false)
  | 28 => ("FieldPostModel", "states", "I", false)
  | 29 => ("FieldPostModel", "kind", "[I", true)
  | 30 => ("FieldPostModel", "postedAt", "[I", true)
  | 31 => ("FieldPostModel", "posted", "[I", true)
  | 32 => ("FieldPostModel", "to", "[I", true)
  | 33 => ("FieldPostModel", "weight", "[I", true)
  | 34 => ("FieldPostModel", "where", "[I", true)
  | 35 => ("FieldPostModel", "place", "[I", true)
  | 36 => ("FieldPostModel", "hour", "[I", true)
  | 37 => ("FieldPostModel", "word", "[I", true)
  | 38 => ("FieldPostModel", "came", "[I", true)
  | 39 => ("FieldPostModel", "trace", "[I", true)
  | 40 => ("FieldPostModel", "isTurned", "[Z", true)
  | 41 => ("FieldPostModel", "isSpoilt", "[Z", true)
  | 42 => ("FieldPostModel", "mails", "I", false)
  | 43 => ("FieldPostModel", "keep", "I", false)
  | 44 => ("FieldPostModel", "tape", "[I", true)
  | 45 => ("FieldPostModel", "text", "[I", true)
  | 46 => ("FieldPostModel", "textSize", "[I", true)
  | 47 => ("FieldPostModel", "purpose", "[I", true)
  | 48 => ("FieldPostModel", "orderTold", "[I", true)
  | 49 => ("FieldPostModel", "stack", "[I", true)
  | 50 => ("FieldPostModel", "fact", "[I", true)
  | 51 => ("FieldPostModel", "taped", "I", false)
  | 52 => ("FieldPostModel", "orders", "I", false)
  | 53 => ("FieldPostModel", "at", "I", false)
  | 54 => ("FieldPostModel", "top", "I", false)
  | 55 => ("FieldPostModel", "waits", "[I", true)
  | 56 => ("FieldPostModel", "values", "[I", true)
  | 57 => ("FieldPostModel", "read", "I", false)
  | 58 => ("FieldPostModel", "waiting", "I", false)
  | 59 => ("FieldPostModel", "valued", "I", false)
  | 60 => ("FieldPostModel", "isSeen", "[Z", true)
  | 61 => ("FieldPostModel", "keptWhere", "[I", true)
  | 62 => ("FieldPostModel", "keptPlace", "[I", true)
  | 63 => ("FieldPostModel", "keptHour", "[I", true)
  | 64 => ("FieldPostModel", "keptWord", "[I", true)
  | 65 => ("FieldPostModel", "keptCame", "[I", true)
  | 66 => ("FieldPostModel", "keptTurned", "[Z", true)
  | 67 => ("FieldPostModel", "keptSpoilt", "[Z", true)
  | 68 => ("FieldPostModel", "time", "[I", true)
  | 69 => ("FieldPostModel", "train", "[I", true)
  | 70 => ("FieldPostModel", "letters", "[I", true)
  | 71 => ("FieldPostModel", "row", "[I", true)
  | 72 => ("FieldPostModel", "sacks", "I", false)
  | 73 => ("FieldPostModel", "rowMany", "I", false)
  | 74 => ("FieldPostModel", "bestSet", "I", false)
  | 75 => ("FieldPostModel", "bestLetters", "I", false)
  | _ => ("FieldPostModel", "bestHours", "I", false)
def tyX9 : Nat → FieldType := fun k => match k with
  | 0 => .array .int
  | 1 => .array .int
  | 2 => .array .int
  | 3 => .array .int
  | 4 => .array .int
  | 5 => .array .int
  | 6 => .array .int
  | 7 => .array .int
  | 8 => .array .int
  | 9 => .array .int
  | 10 => .array .int
  | 11 => .array .boolean
  | 12 => .int
  | 13 => .int
  | 14 => .int
  | 15 => .int
  | 16 => .array .int
  | 17 => .array .int
  | 18 => .array .int
  | 19 => .array .int
  | 20 => .array .int
  | 21 => .array .int
  | 22 => .array .int
  | 23 => .array .int
  | 24 => .array .int
  | 25 => .array .int
  | 26 => .int
  | 27 => .int
  | 28 => .int
  | 29 => .array .int
  | 30 => .array .int
  | 31 => .array .int
  | 32 => .array .int
  | 33 => .array .int
  | 34 => .array .int
  | 35 => .array .int
  | 36 => .array .int
  | 37 => .array .int
  | 38 => .array .int
  | 39 => .array .int
  | 40 => .array .boolean
  | 41 => .array .boolean
  | 42 => .int
  | 43 => .int
  | 44 => .array .int
  | 45 => .array .int
  | 46 => .array .int
  | 47 => .array .int
  | 48 => .array .int
  | 49 => .array .int
  | 50 => .array .int
  | 51 => .int
  | 52 => .int
  | 53 => .int
  | 54 => .int
  | 55 => .array .int
  | 56 => .array .int
  | 57 => .int
  | 58 => .int
  | 59 => .int
  | 60 => .array .boolean
  | 61 => .array .int
  | 62 => .array .int
  | 63 => .array .int
  | 64 => .array .int
  | 65 => .array .int
  | 66 => .array .boolean
  | 67 => .array .boolean
  | 68 => .array .int
  | 69 => .array .int
  | 70 => .array .int
  | 71 => .array .int
  | 72 => .int
  | 73 => .int
  | 74 => .int
  | 75 => .int
  | _ => .int
abbrev wsX90 : List Cond := u_ws RX9 TX9 77
theorem nmX9 : ∀ a, a < 77 → ∀ b, b < 77 → a ≠ b → (TX9 a).2.1 ≠ (TX9 b).2.1 := by decide +kernel
theorem tyX9_ok : ∀ k, k < 77 → parseFieldDescriptor (TX9 k).2.2.1 = some (tyX9 k) := by decide +kernel
abbrev cX9_init : ByteArray := prog_11_method_1_code
def yX9_init : MethodName := ⟨RX9, "<init>", "()V"⟩
abbrev cX9_no : ByteArray := prog_11_method_2_code
def yX9_no : MethodName := ⟨RX9, "no", "(I)I"⟩
abbrev cX9_isIn : ByteArray := prog_11_method_3_code
def yX9_isIn : MethodName := ⟨RX9, "isIn", "(JJJ)Z"⟩
abbrev cX9_out : ByteArray := prog_11_method_4_code
def yX9_out : MethodName := ⟨RX9, "out", "(JJJ)I"⟩
abbrev cX9_isOffice : ByteArray := prog_11_method_5_code
def yX9_isOffice : MethodName := ⟨RX9, "isOffice", "(I)Z"⟩
abbrev cX9_office : ByteArray := prog_11_method_6_code
def yX9_office : MethodName := ⟨RX9, "office", "(IZ)I"⟩
abbrev cX9_staff : ByteArray := prog_11_method_7_code
def yX9_staff : MethodName := ⟨RX9, "staff", "(IIZ)I"⟩
abbrev cX9_way : ByteArray := prog_11_method_8_code
def yX9_way : MethodName := ⟨RX9, "way", "(IIIII)I"⟩
abbrev cX9_shut : ByteArray := prog_11_method_9_code
def yX9_shut : MethodName := ⟨RX9, "shut", "(III)I"⟩
abbrev cX9_leaves : ByteArray := prog_11_method_10_code
def yX9_leaves : MethodName := ⟨RX9, "leaves", "(II)Z"⟩
abbrev cX9_findFar : ByteArray := prog_11_method_11_code
def yX9_findFar : MethodName := ⟨RX9, "findFar", "()V"⟩
abbrev cX9_far : ByteArray := prog_11_method_12_code
def yX9_far : MethodName := ⟨RX9, "far", "(II)I"⟩
abbrev cX9_lateOf : ByteArray := prog_11_method_13_code
def yX9_lateOf : MethodName := ⟨RX9, "lateOf", "(I)I"⟩
abbrev cX9_late : ByteArray := prog_11_method_14_code
def yX9_late : MethodName := ⟨RX9, "late", "(I)I"⟩
abbrev cX9_isHeard : ByteArray := prog_11_method_15_code
def yX9_isHeard : MethodName := ⟨RX9, "isHeard", "(III)Z"⟩
abbrev cX9_isUnit : ByteArray := prog_11_method_16_code
def yX9_isUnit : MethodName := ⟨RX9, "isUnit", "(I)Z"⟩
abbrev cX9_isMan : ByteArray := prog_11_method_17_code
def yX9_isMan : MethodName := ⟨RX9, "isMan", "(I)Z"⟩
abbrev cX9_move : ByteArray := prog_11_method_18_code
def yX9_move : MethodName := ⟨RX9, "move", "(III)I"⟩
abbrev cX9_unitAt : ByteArray := prog_11_method_19_code
def yX9_unitAt : MethodName := ⟨RX9, "unitAt", "(III)I"⟩
abbrev cX9_is : ByteArray := prog_11_method_20_code
def yX9_is : MethodName := ⟨RX9, "is", "(II)I"⟩
abbrev cX9_list : ByteArray := prog_11_method_21_code
def yX9_list : MethodName := ⟨RX9, "list", "(III)I"⟩
abbrev cX9_man : ByteArray := prog_11_method_22_code
def yX9_man : MethodName := ⟨RX9, "man", "(II)I"⟩
abbrev cX9_state : ByteArray := prog_11_method_23_code
def yX9_state : MethodName := ⟨RX9, "state", "(III)I"⟩
abbrev cX9_latest : ByteArray := prog_11_method_24_code
def yX9_latest : MethodName := ⟨RX9, "latest", "(III)I"⟩
abbrev cX9_stateAt : ByteArray := prog_11_method_25_code
def yX9_stateAt : MethodName := ⟨RX9, "stateAt", "(III)I"⟩
abbrev cX9_stateOf : ByteArray := prog_11_method_26_code
def yX9_stateOf : MethodName := ⟨RX9, "stateOf", "(III)I"⟩
abbrev cX9_whereIs : ByteArray := prog_11_method_27_code
def yX9_whereIs : MethodName := ⟨RX9, "whereIs", "(II)I"⟩
abbrev cX9_manAt : ByteArray := prog_11_method_28_code
def yX9_manAt : MethodName := ⟨RX9, "manAt", "(I)I"⟩
abbrev cX9_isMail : ByteArray := prog_11_method_29_code
def yX9_isMail : MethodName := ⟨RX9, "isMail", "(I)Z"⟩
abbrev cX9_mail : ByteArray := prog_11_method_30_code
def yX9_mail : MethodName := ⟨RX9, "mail", "(IIII)I"⟩
abbrev cX9_comes : ByteArray := prog_11_method_31_code
def yX9_comes : MethodName := ⟨RX9, "comes", "(III)V"⟩
abbrev cX9_feed : ByteArray := prog_11_method_32_code
def yX9_feed : MethodName := ⟨RX9, "feed", "(IJ)I"⟩
abbrev cX9_sign : ByteArray := prog_11_method_33_code
def yX9_sign : MethodName := ⟨RX9, "sign", "()I"⟩
abbrev cX9_isDigit : ByteArray := prog_11_method_34_code
def yX9_isDigit : MethodName := ⟨RX9, "isDigit", "(I)Z"⟩
abbrev cX9_isFact : ByteArray := prog_11_method_35_code
def yX9_isFact : MethodName := ⟨RX9, "isFact", "(I)Z"⟩
abbrev cX9_unit : ByteArray := prog_11_method_36_code
def yX9_unit : MethodName := ⟨RX9, "unit", "()Z"⟩
abbrev cX9_closes : ByteArray := prog_11_method_37_code
def yX9_closes : MethodName := ⟨RX9, "closes", "()V"⟩
abbrev cX9_parses : ByteArray := prog_11_method_38_code
def yX9_parses : MethodName := ⟨RX9, "parses", "()Z"⟩
abbrev cX9_order : ByteArray := prog_11_method_39_code
def yX9_order : MethodName := ⟨RX9, "order", "(I)I"⟩
abbrev cX9_signOf : ByteArray := prog_11_method_40_code
def yX9_signOf : MethodName := ⟨RX9, "signOf", "(I)I"⟩
abbrev cX9_unitOf : ByteArray := prog_11_method_41_code
def yX9_unitOf : MethodName := ⟨RX9, "unitOf", "(I)I"⟩
abbrev cX9_works : ByteArray := prog_11_method_42_code
def yX9_works : MethodName := ⟨RX9, "works", "(I)V"⟩
abbrev cX9_waitsFor : ByteArray := prog_11_method_43_code
def yX9_waitsFor : MethodName := ⟨RX9, "waitsFor", "(I)V"⟩
abbrev cX9_holdsText : ByteArray := prog_11_method_44_code
def yX9_holdsText : MethodName := ⟨RX9, "holdsText", "(I)Z"⟩
abbrev cX9_holdsFor : ByteArray := prog_11_method_45_code
def yX9_holdsFor : MethodName := ⟨RX9, "holdsFor", "(III)Z"⟩
abbrev cX9_holds : ByteArray := prog_11_method_46_code
def yX9_holds : MethodName := ⟨RX9, "holds", "(II)I"⟩
abbrev cX9_keep : ByteArray := prog_11_method_47_code
def yX9_keep : MethodName := ⟨RX9, "keep", "(I)I"⟩
abbrev cX9_goalOf : ByteArray := prog_11_method_48_code
def yX9_goalOf : MethodName := ⟨RX9, "goalOf", "(II)I"⟩
abbrev cX9_wayOn : ByteArray := prog_11_method_49_code
def yX9_wayOn : MethodName := ⟨RX9, "wayOn", "(II)I"⟩
abbrev cX9_ends : ByteArray := prog_11_method_50_code
def yX9_ends : MethodName := ⟨RX9, "ends", "(III)V"⟩
abbrev cX9_turns : ByteArray := prog_11_method_51_code
def yX9_turns : MethodName := ⟨RX9, "turns", "(II)V"⟩
abbrev cX9_sees : ByteArray := prog_11_method_52_code
def yX9_sees : MethodName := ⟨RX9, "sees", "(II)V"⟩
abbrev cX9_nextAt : ByteArray := prog_11_method_53_code
def yX9_nextAt : MethodName := ⟨RX9, "nextAt", "(I)I"⟩
abbrev cX9_passes : ByteArray := prog_11_method_54_code
def yX9_passes : MethodName := ⟨RX9, "passes", "(I)V"⟩
abbrev cX9_hours : ByteArray := prog_11_method_55_code
def yX9_hours : MethodName := ⟨RX9, "hours", "(I)I"⟩
abbrev cX9_mailOf : ByteArray := prog_11_method_56_code
def yX9_mailOf : MethodName := ⟨RX9, "mailOf", "(II)I"⟩
abbrev cX9_goal : ByteArray := prog_11_method_57_code
def yX9_goal : MethodName := ⟨RX9, "goal", "(I)I"⟩
abbrev cX9_next : ByteArray := prog_11_method_58_code
def yX9_next : MethodName := ⟨RX9, "next", "(I)I"⟩
abbrev cX9_traced : ByteArray := prog_11_method_59_code
def yX9_traced : MethodName := ⟨RX9, "traced", "(I)I"⟩
abbrev cX9_trace : ByteArray := prog_11_method_60_code
def yX9_trace : MethodName := ⟨RX9, "trace", "(II)I"⟩
abbrev cX9_fro : ByteArray := prog_11_method_61_code
def yX9_fro : MethodName := ⟨RX9, "fro", "(I)I"⟩
abbrev cX9_keeps : ByteArray := prog_11_method_62_code
def yX9_keeps : MethodName := ⟨RX9, "keeps", "()V"⟩
abbrev cX9_putsBack : ByteArray := prog_11_method_63_code
def yX9_putsBack : MethodName := ⟨RX9, "putsBack", "()V"⟩
abbrev cX9_after : ByteArray := prog_11_method_64_code
def yX9_after : MethodName := ⟨RX9, "after", "(II)I"⟩
abbrev cX9_paid : ByteArray := prog_11_method_65_code
def yX9_paid : MethodName := ⟨RX9, "paid", "(I)I"⟩
abbrev cX9_fits : ByteArray := prog_11_method_66_code
def yX9_fits : MethodName := ⟨RX9, "fits", "(III)Z"⟩
abbrev cX9_notCover : ByteArray := prog_11_method_67_code
def yX9_notCover : MethodName := ⟨RX9, "notCover", "(II)I"⟩
abbrev cX9_cover : ByteArray := prog_11_method_68_code
def yX9_cover : MethodName := ⟨RX9, "cover", "(II)I"⟩
abbrev cX9_sure : ByteArray := prog_11_method_69_code
def yX9_sure : MethodName := ⟨RX9, "sure", "(II)I"⟩
abbrev cX9_sack : ByteArray := prog_11_method_70_code
def yX9_sack : MethodName := ⟨RX9, "sack", "(III)I"⟩
abbrev cX9_canBe : ByteArray := prog_11_method_71_code
def yX9_canBe : MethodName := ⟨RX9, "canBe", "(I)Z"⟩
abbrev cX9_findBest : ByteArray := prog_11_method_72_code
def yX9_findBest : MethodName := ⟨RX9, "findBest", "()V"⟩
abbrev cX9_best : ByteArray := prog_11_method_73_code
def yX9_best : MethodName := ⟨RX9, "best", "(I)I"⟩
abbrev cX9_put : ByteArray := prog_11_method_74_code
def yX9_put : MethodName := ⟨RX9, "put", "(I)I"⟩
abbrev cX9_judge : ByteArray := prog_11_method_75_code
def yX9_judge : MethodName := ⟨RX9, "judge", "(I)I"⟩
abbrev cX9_waiting : ByteArray := prog_11_method_76_code
def yX9_waiting : MethodName := ⟨RX9, "waiting", "(I)I"⟩
abbrev cX9_count : ByteArray := prog_11_method_77_code
def yX9_count : MethodName := ⟨RX9, "count", "(I)I"⟩
def RJ11 : String := "java/lang/Character"
def TJ11 : u_T := fun k => match k with
  | _ => ("", "", "", false)
def tyJ11 : Nat → FieldType := fun k => match k with
  | _ => .int
abbrev wsJ110 : List Cond := u_ws RJ11 TJ11 0
theorem nmJ11 : ∀ a, a < 0 → ∀ b, b < 0 → a ≠ b → (TJ11 a).2.1 ≠ (TJ11 b).2.1 := by decide +kernel
theorem tyJ11_ok : ∀ k, k < 0 → parseFieldDescriptor (TJ11 k).2.2.1 = some (tyJ11 k) := by decide +kernel
abbrev cJ11_isValidCodePoint_9a6ad : ByteArray := prog_12_method_11_code
def yJ11_isValidCodePoint_9a6ad : MethodName := ⟨RJ11, "isValidCodePoint", "(I)Z"⟩
abbrev cJ11_highSurrogate_5068e : ByteArray := prog_12_method_28_code
def yJ11_highSurrogate_5068e : MethodName := ⟨RJ11, "highSurrogate", "(I)C"⟩
abbrev cJ11_lowSurrogate_5068e : ByteArray := prog_12_method_29_code
def yJ11_lowSurrogate_5068e : MethodName := ⟨RJ11, "lowSurrogate", "(I)C"⟩
def RJ9 : String := "java/lang/Math"
def TJ9 : u_T := fun k => match k with
  | _ => ("", "", "", false)
def tyJ9 : Nat → FieldType := fun k => match k with
  | _ => .int
abbrev wsJ90 : List Cond := u_ws RJ9 TJ9 0
theorem nmJ9 : ∀ a, a < 0 → ∀ b, b < 0 → a ≠ b → (TJ9 a).2.1 ≠ (TJ9 b).2.1 := by decide +kernel
theorem tyJ9_ok : ∀ k, k < 0 → parseFieldDescriptor (TJ9 k).2.2.1 = some (tyJ9 k) := by decide +kernel
abbrev cJ9_max_7cf53 : ByteArray := prog_13_method_65_code
def yJ9_max_7cf53 : MethodName := ⟨RJ9, "max", "(II)I"⟩
abbrev cJ9_min_7cf53 : ByteArray := prog_13_method_69_code
def yJ9_min_7cf53 : MethodName := ⟨RJ9, "min", "(II)I"⟩
def RJ0 : String := "java/lang/String"
def TJ0 : u_T := fun k => match k with
  | _ => ("", "", "", false)
def tyJ0 : Nat → FieldType := fun k => match k with
  | _ => .int
abbrev wsJ00 : List Cond := u_ws RJ0 TJ0 0
theorem nmJ0 : ∀ a, a < 0 → ∀ b, b < 0 → a ≠ b → (TJ0 a).2.1 ≠ (TJ0 b).2.1 := by decide +kernel
theorem tyJ0_ok : ∀ k, k < 0 → parseFieldDescriptor (TJ0 k).2.2.1 = some (tyJ0 k) := by decide +kernel
abbrev cJ0_length_8abf5 : ByteArray := prog_14_method_54_code
def yJ0_length_8abf5 : MethodName := ⟨RJ0, "length", "()I"⟩
abbrev cJ0_indexOf_0f7a4 : ByteArray := prog_14_method_79_code
def yJ0_indexOf_0f7a4 : MethodName := ⟨RJ0, "indexOf", "(I)I"⟩
abbrev cJ0_indexOf_7cf53 : ByteArray := prog_14_method_80_code
def yJ0_indexOf_7cf53 : MethodName := ⟨RJ0, "indexOf", "(II)I"⟩
abbrev cJ0_coder_7d493 : ByteArray := prog_14_method_152_code
def yJ0_coder_7d493 : MethodName := ⟨RJ0, "coder", "()B"⟩
abbrev cJ0_isLatin1_aae02 : ByteArray := prog_14_method_154_code
def yJ0_isLatin1_aae02 : MethodName := ⟨RJ0, "isLatin1", "()Z"⟩
abbrev cJ0_checkBoundsBeginEnd_23922 : ByteArray := prog_14_method_158_code
def yJ0_checkBoundsBeginEnd_23922 : MethodName := ⟨RJ0, "checkBoundsBeginEnd", "(III)V"⟩
def RJ1 : String := "java/lang/StringLatin1"
def TJ1 : u_T := fun k => match k with
  | _ => ("", "", "", false)
def tyJ1 : Nat → FieldType := fun k => match k with
  | _ => .int
abbrev wsJ10 : List Cond := u_ws RJ1 TJ1 0
theorem nmJ1 : ∀ a, a < 0 → ∀ b, b < 0 → a ≠ b → (TJ1 a).2.1 ≠ (TJ1 b).2.1 := by decide +kernel
theorem tyJ1_ok : ∀ k, k < 0 → parseFieldDescriptor (TJ1 k).2.2.1 = some (tyJ1 k) := by decide +kernel
abbrev cJ1_canEncode_9a6ad : ByteArray := prog_15_method_4_code
def yJ1_canEncode_9a6ad : MethodName := ⟨RJ1, "canEncode", "(I)Z"⟩
abbrev cJ1_indexOf_4cfef : ByteArray := prog_15_method_22_code
def yJ1_indexOf_4cfef : MethodName := ⟨RJ1, "indexOf", "([BIII)I"⟩
abbrev cJ1_indexOfChar_4cfef : ByteArray := prog_15_method_23_code
def yJ1_indexOfChar_4cfef : MethodName := ⟨RJ1, "indexOfChar", "([BIII)I"⟩
def RJ2 : String := "java/lang/StringUTF16"
def TJ2 : u_T := fun k => match k with
  | _ => ("", "", "", false)
def tyJ2 : Nat → FieldType := fun k => match k with
  | _ => .int
abbrev wsJ20 : List Cond := u_ws RJ2 TJ2 0
theorem nmJ2 : ∀ a, a < 0 → ∀ b, b < 0 → a ≠ b → (TJ2 a).2.1 ≠ (TJ2 b).2.1 := by decide +kernel
theorem tyJ2_ok : ∀ k, k < 0 → parseFieldDescriptor (TJ2 k).2.2.1 = some (tyJ2 k) := by decide +kernel
abbrev cJ2_getChar_3b067 : ByteArray := prog_16_method_5_code
def yJ2_getChar_3b067 : MethodName := ⟨RJ2, "getChar", "([BI)C"⟩
abbrev cJ2_length_9d52b : ByteArray := prog_16_method_6_code
def yJ2_length_9d52b : MethodName := ⟨RJ2, "length", "([B)I"⟩
abbrev cJ2_indexOf_4cfef : ByteArray := prog_16_method_40_code
def yJ2_indexOf_4cfef : MethodName := ⟨RJ2, "indexOf", "([BIII)I"⟩
abbrev cJ2_indexOfChar_4cfef : ByteArray := prog_16_method_47_code
def yJ2_indexOfChar_4cfef : MethodName := ⟨RJ2, "indexOfChar", "([BIII)I"⟩
abbrev cJ2_indexOfCharUnsafe_4cfef : ByteArray := prog_16_method_48_code
def yJ2_indexOfCharUnsafe_4cfef : MethodName := ⟨RJ2, "indexOfCharUnsafe", "([BIII)I"⟩
abbrev cJ2_indexOfSupplementary_4cfef : ByteArray := prog_16_method_49_code
def yJ2_indexOfSupplementary_4cfef : MethodName := ⟨RJ2, "indexOfSupplementary", "([BIII)I"⟩
abbrev cJ2_checkBoundsBeginEnd_d044e : ByteArray := prog_16_method_93_code
def yJ2_checkBoundsBeginEnd_d044e : MethodName := ⟨RJ2, "checkBoundsBeginEnd", "(II[B)V"⟩
def RJ10 : String := "java/lang/System"
def TJ10 : u_T := fun k => match k with
  | _ => ("", "", "", false)
def tyJ10 : Nat → FieldType := fun k => match k with
  | _ => .int
abbrev wsJ100 : List Cond := u_ws RJ10 TJ10 0
theorem nmJ10 : ∀ a, a < 0 → ∀ b, b < 0 → a ≠ b → (TJ10 a).2.1 ≠ (TJ10 b).2.1 := by decide +kernel
theorem tyJ10_ok : ∀ k, k < 0 → parseFieldDescriptor (TJ10 k).2.2.1 = some (tyJ10 k) := by decide +kernel
def RJ7 : String := "java/util/Arrays"
def TJ7 : u_T := fun k => match k with
  | _ => ("", "", "", false)
def tyJ7 : Nat → FieldType := fun k => match k with
  | _ => .int
abbrev wsJ70 : List Cond := u_ws RJ7 TJ7 0
theorem nmJ7 : ∀ a, a < 0 → ∀ b, b < 0 → a ≠ b → (TJ7 a).2.1 ≠ (TJ7 b).2.1 := by decide +kernel
theorem tyJ7_ok : ∀ k, k < 0 → parseFieldDescriptor (TJ7 k).2.2.1 = some (tyJ7 k) := by decide +kernel
abbrev cJ7_fill_53178 : ByteArray := prog_18_method_103_code
def yJ7_fill_53178 : MethodName := ⟨RJ7, "fill", "([II)V"⟩
def RJ3 : String := "jdk/internal/util/Preconditions"
def TJ3 : u_T := fun k => match k with
  | _ => ("", "", "", false)
def tyJ3 : Nat → FieldType := fun k => match k with
  | _ => .int
abbrev wsJ30 : List Cond := u_ws RJ3 TJ3 0
theorem nmJ3 : ∀ a, a < 0 → ∀ b, b < 0 → a ≠ b → (TJ3 a).2.1 ≠ (TJ3 b).2.1 := by decide +kernel
theorem tyJ3_ok : ∀ k, k < 0 → parseFieldDescriptor (TJ3 k).2.2.1 = some (tyJ3 k) := by decide +kernel
abbrev cJ3_checkFromToIndex_8c36e : ByteArray := prog_19_method_12_code
def yJ3_checkFromToIndex_8c36e : MethodName := ⟨RJ3, "checkFromToIndex", "(IIILjava/util/function/BiFunction;)I"⟩
def RL : String := "FieldPostLaw"
abbrev cL_law : ByteArray := code
def yL_law : MethodName := ⟨RL, "law", "([I)Z"⟩
abbrev vwCl : List vw_C := [(RX0, TX0, 8), (RX1, TX1, 6), (RX2, TX2, 14), (RX3, TX3, 7), (RX4, TX4, 8), (RX5, TX5, 7), (RX6, TX6, 13), (RX7, TX7, 7), (RX8, TX8, 10), (RX9, TX9, 77)]
end
section
theorem dX0_init_0 : decode cX0_init 0 = .ok (.aload_n 0, 1) := by decide +kernel
theorem dX0_init_1 : decode cX0_init 1 = .ok (.invokespecial 3, 3) := by decide +kernel
theorem dX0_init_4 : decode cX0_init 4 = .ok (.aload_n 0, 1) := by decide +kernel
theorem dX0_init_5 : decode cX0_init 5 = .ok (.bipush 60, 2) := by decide +kernel
theorem dX0_init_7 : decode cX0_init 7 = .ok (.newarray .int, 2) := by decide +kernel
theorem dX0_init_9 : decode cX0_init 9 = .ok (.putfield 9, 3) := by decide +kernel
theorem dX0_init_12 : decode cX0_init 12 = .ok (.aload_n 0, 1) := by decide +kernel
theorem dX0_init_13 : decode cX0_init 13 = .ok (.bipush 60, 2) := by decide +kernel
theorem dX0_init_15 : decode cX0_init 15 = .ok (.newarray .int, 2) := by decide +kernel
theorem dX0_init_17 : decode cX0_init 17 = .ok (.putfield 15, 3) := by decide +kernel
theorem dX0_init_20 : decode cX0_init 20 = .ok (.aload_n 0, 1) := by decide +kernel
theorem dX0_init_21 : decode cX0_init 21 = .ok (.bipush 60, 2) := by decide +kernel
theorem dX0_init_23 : decode cX0_init 23 = .ok (.newarray .int, 2) := by decide +kernel
theorem dX0_init_25 : decode cX0_init 25 = .ok (.putfield 18, 3) := by decide +kernel
theorem dX0_init_28 : decode cX0_init 28 = .ok (.aload_n 0, 1) := by decide +kernel
theorem dX0_init_29 : decode cX0_init 29 = .ok (.bipush 60, 2) := by decide +kernel
theorem dX0_init_31 : decode cX0_init 31 = .ok (.newarray .boolean, 2) := by decide +kernel
theorem dX0_init_33 : decode cX0_init 33 = .ok (.putfield 21, 3) := by decide +kernel
theorem dX0_init_36 : decode cX0_init 36 = .ok (.aload_n 0, 1) := by decide +kernel
theorem dX0_init_37 : decode cX0_init 37 = .ok (.bipush 60, 2) := by decide +kernel
theorem dX0_init_39 : decode cX0_init 39 = .ok (.newarray .int, 2) := by decide +kernel
theorem dX0_init_41 : decode cX0_init 41 = .ok (.putfield 25, 3) := by decide +kernel
theorem dX0_init_44 : decode cX0_init 44 = .ok (.aload_n 0, 1) := by decide +kernel
theorem dX0_init_45 : decode cX0_init 45 = .ok (.bipush 60, 2) := by decide +kernel
theorem dX0_init_47 : decode cX0_init 47 = .ok (.newarray .int, 2) := by decide +kernel
theorem dX0_init_49 : decode cX0_init 49 = .ok (.putfield 28, 3) := by decide +kernel
theorem dX0_init_52 : decode cX0_init 52 = .ok (.aload_n 0, 1) := by decide +kernel
theorem dX0_init_53 : decode cX0_init 53 = .ok (.bipush 60, 2) := by decide +kernel
theorem dX0_init_55 : decode cX0_init 55 = .ok (.newarray .boolean, 2) := by decide +kernel
theorem dX0_init_57 : decode cX0_init 57 = .ok (.putfield 31, 3) := by decide +kernel
theorem dX0_init_60 : decode cX0_init 60 = .ok (.aload_n 0, 1) := by decide +kernel
theorem dX0_init_61 : decode cX0_init 61 = .ok (.iload_n 1, 1) := by decide +kernel
theorem dX0_init_62 : decode cX0_init 62 = .ok (.iconst 0, 1) := by decide +kernel
theorem dX0_init_63 : decode cX0_init 63 = .ok (.invokestatic 34, 3) := by decide +kernel
theorem dX0_init_66 : decode cX0_init 66 = .ok (.newarray .byte, 2) := by decide +kernel
theorem dX0_init_68 : decode cX0_init 68 = .ok (.putfield 40, 3) := by decide +kernel
theorem dX0_init_71 : decode cX0_init 71 = .ok (.return_, 1) := by decide +kernel
theorem dX0_copyFrom_0 : decode cX0_copyFrom 0 = .ok (.aload_n 1, 1) := by decide +kernel
theorem dX0_copyFrom_1 : decode cX0_copyFrom 1 = .ok (.getfield 9, 3) := by decide +kernel
theorem dX0_copyFrom_4 : decode cX0_copyFrom 4 = .ok (.iconst 0, 1) := by decide +kernel
theorem dX0_copyFrom_5 : decode cX0_copyFrom 5 = .ok (.aload_n 0, 1) := by decide +kernel
theorem dX0_copyFrom_6 : decode cX0_copyFrom 6 = .ok (.getfield 9, 3) := by decide +kernel
theorem dX0_copyFrom_9 : decode cX0_copyFrom 9 = .ok (.iconst 0, 1) := by decide +kernel
theorem dX0_copyFrom_10 : decode cX0_copyFrom 10 = .ok (.iload_n 2, 1) := by decide +kernel
theorem dX0_copyFrom_11 : decode cX0_copyFrom 11 = .ok (.invokestatic 44, 3) := by decide +kernel
theorem dX0_copyFrom_14 : decode cX0_copyFrom 14 = .ok (.aload_n 1, 1) := by decide +kernel
theorem dX0_copyFrom_15 : decode cX0_copyFrom 15 = .ok (.getfield 15, 3) := by decide +kernel
theorem dX0_copyFrom_18 : decode cX0_copyFrom 18 = .ok (.iconst 0, 1) := by decide +kernel
theorem dX0_copyFrom_19 : decode cX0_copyFrom 19 = .ok (.aload_n 0, 1) := by decide +kernel
theorem dX0_copyFrom_20 : decode cX0_copyFrom 20 = .ok (.getfield 15, 3) := by decide +kernel
theorem dX0_copyFrom_23 : decode cX0_copyFrom 23 = .ok (.iconst 0, 1) := by decide +kernel
theorem dX0_copyFrom_24 : decode cX0_copyFrom 24 = .ok (.iload_n 2, 1) := by decide +kernel
theorem dX0_copyFrom_25 : decode cX0_copyFrom 25 = .ok (.invokestatic 44, 3) := by decide +kernel
theorem dX0_copyFrom_28 : decode cX0_copyFrom 28 = .ok (.aload_n 1, 1) := by decide +kernel
theorem dX0_copyFrom_29 : decode cX0_copyFrom 29 = .ok (.getfield 18, 3) := by decide +kernel
theorem dX0_copyFrom_32 : decode cX0_copyFrom 32 = .ok (.iconst 0, 1) := by decide +kernel
theorem dX0_copyFrom_33 : decode cX0_copyFrom 33 = .ok (.aload_n 0, 1) := by decide +kernel
theorem dX0_copyFrom_34 : decode cX0_copyFrom 34 = .ok (.getfield 18, 3) := by decide +kernel
theorem dX0_copyFrom_37 : decode cX0_copyFrom 37 = .ok (.iconst 0, 1) := by decide +kernel
theorem dX0_copyFrom_38 : decode cX0_copyFrom 38 = .ok (.iload_n 2, 1) := by decide +kernel
theorem dX0_copyFrom_39 : decode cX0_copyFrom 39 = .ok (.invokestatic 44, 3) := by decide +kernel
theorem dX0_copyFrom_42 : decode cX0_copyFrom 42 = .ok (.aload_n 1, 1) := by decide +kernel
theorem dX0_copyFrom_43 : decode cX0_copyFrom 43 = .ok (.getfield 21, 3) := by decide +kernel
theorem dX0_copyFrom_46 : decode cX0_copyFrom 46 = .ok (.iconst 0, 1) := by decide +kernel
theorem dX0_copyFrom_47 : decode cX0_copyFrom 47 = .ok (.aload_n 0, 1) := by decide +kernel
theorem dX0_copyFrom_48 : decode cX0_copyFrom 48 = .ok (.getfield 21, 3) := by decide +kernel
theorem dX0_copyFrom_51 : decode cX0_copyFrom 51 = .ok (.iconst 0, 1) := by decide +kernel
theorem dX0_copyFrom_52 : decode cX0_copyFrom 52 = .ok (.iload_n 2, 1) := by decide +kernel
theorem dX0_copyFrom_53 : decode cX0_copyFrom 53 = .ok (.invokestatic 44, 3) := by decide +kernel
theorem dX0_copyFrom_56 : decode cX0_copyFrom 56 = .ok (.aload_n 1, 1) := by decide +kernel
theorem dX0_copyFrom_57 : decode cX0_copyFrom 57 = .ok (.getfield 25, 3) := by decide +kernel
theorem dX0_copyFrom_60 : decode cX0_copyFrom 60 = .ok (.iconst 0, 1) := by decide +kernel
theorem dX0_copyFrom_61 : decode cX0_copyFrom 61 = .ok (.aload_n 0, 1) := by decide +kernel
theorem dX0_copyFrom_62 : decode cX0_copyFrom 62 = .ok (.getfield 25, 3) := by decide +kernel
theorem dX0_copyFrom_65 : decode cX0_copyFrom 65 = .ok (.iconst 0, 1) := by decide +kernel
theorem dX0_copyFrom_66 : decode cX0_copyFrom 66 = .ok (.iload_n 2, 1) := by decide +kernel
theorem dX0_copyFrom_67 : decode cX0_copyFrom 67 = .ok (.invokestatic 44, 3) := by decide +kernel
theorem dX0_copyFrom_70 : decode cX0_copyFrom 70 = .ok (.aload_n 1, 1) := by decide +kernel
theorem dX0_copyFrom_71 : decode cX0_copyFrom 71 = .ok (.getfield 28, 3) := by decide +kernel
theorem dX0_copyFrom_74 : decode cX0_copyFrom 74 = .ok (.iconst 0, 1) := by decide +kernel
theorem dX0_copyFrom_75 : decode cX0_copyFrom 75 = .ok (.aload_n 0, 1) := by decide +kernel
theorem dX0_copyFrom_76 : decode cX0_copyFrom 76 = .ok (.getfield 28, 3) := by decide +kernel
theorem dX0_copyFrom_79 : decode cX0_copyFrom 79 = .ok (.iconst 0, 1) := by decide +kernel
theorem dX0_copyFrom_80 : decode cX0_copyFrom 80 = .ok (.iload_n 2, 1) := by decide +kernel
theorem dX0_copyFrom_81 : decode cX0_copyFrom 81 = .ok (.invokestatic 44, 3) := by decide +kernel
theorem dX0_copyFrom_84 : decode cX0_copyFrom 84 = .ok (.aload_n 1, 1) := by decide +kernel
theorem dX0_copyFrom_85 : decode cX0_copyFrom 85 = .ok (.getfield 31, 3) := by decide +kernel
theorem dX0_copyFrom_88 : decode cX0_copyFrom 88 = .ok (.iconst 0, 1) := by decide +kernel
theorem dX0_copyFrom_89 : decode cX0_copyFrom 89 = .ok (.aload_n 0, 1) := by decide +kernel
theorem dX0_copyFrom_90 : decode cX0_copyFrom 90 = .ok (.getfield 31, 3) := by decide +kernel
theorem dX0_copyFrom_93 : decode cX0_copyFrom 93 = .ok (.iconst 0, 1) := by decide +kernel
theorem dX0_copyFrom_94 : decode cX0_copyFrom 94 = .ok (.iload_n 2, 1) := by decide +kernel
theorem dX0_copyFrom_95 : decode cX0_copyFrom 95 = .ok (.invokestatic 44, 3) := by decide +kernel
theorem dX0_copyFrom_98 : decode cX0_copyFrom 98 = .ok (.return_, 1) := by decide +kernel
theorem dX0_begin_0 : decode cX0_begin 0 = .ok (.aload_n 0, 1) := by decide +kernel
theorem dX0_begin_1 : decode cX0_begin 1 = .ok (.getfield 15, 3) := by decide +kernel
theorem dX0_begin_4 : decode cX0_begin 4 = .ok (.iload_n 1, 1) := by decide +kernel
theorem dX0_begin_5 : decode cX0_begin 5 = .ok (.iload_n 2, 1) := by decide +kernel
theorem dX0_begin_6 : decode cX0_begin 6 = .ok (.iastore, 1) := by decide +kernel
theorem dX0_begin_7 : decode cX0_begin 7 = .ok (.aload_n 0, 1) := by decide +kernel
theorem dX0_begin_8 : decode cX0_begin 8 = .ok (.getfield 18, 3) := by decide +kernel
theorem dX0_begin_11 : decode cX0_begin 11 = .ok (.iload_n 1, 1) := by decide +kernel
theorem dX0_begin_12 : decode cX0_begin 12 = .ok (.iload_n 3, 1) := by decide +kernel
theorem dX0_begin_13 : decode cX0_begin 13 = .ok (.iastore, 1) := by decide +kernel
theorem dX0_begin_14 : decode cX0_begin 14 = .ok (.aload_n 0, 1) := by decide +kernel
theorem dX0_begin_15 : decode cX0_begin 15 = .ok (.iload_n 1, 1) := by decide +kernel
theorem dX0_begin_16 : decode cX0_begin 16 = .ok (.invokevirtual 50, 3) := by decide +kernel
theorem dX0_begin_19 : decode cX0_begin 19 = .ok (.return_, 1) := by decide +kernel
theorem dX0_arrive_0 : decode cX0_arrive 0 = .ok (.iconst 0, 1) := by decide +kernel
theorem dX0_arrive_1 : decode cX0_arrive 1 = .ok (.istore_n 3, 1) := by decide +kernel
theorem dX0_arrive_2 : decode cX0_arrive 2 = .ok (.iload_n 3, 1) := by decide +kernel
theorem dX0_arrive_3 : decode cX0_arrive 3 = .ok (.iload_n 1, 1) := by decide +kernel
theorem dX0_arrive_4 : decode cX0_arrive 4 = .ok (.if_icmp .ge 34, 3) := by decide +kernel
theorem dX0_arrive_7 : decode cX0_arrive 7 = .ok (.aload_n 0, 1) := by decide +kernel
theorem dX0_arrive_8 : decode cX0_arrive 8 = .ok (.getfield 9, 3) := by decide +kernel
theorem dX0_arrive_11 : decode cX0_arrive 11 = .ok (.iload_n 3, 1) := by decide +kernel
theorem dX0_arrive_12 : decode cX0_arrive 12 = .ok (.iaload, 1) := by decide +kernel
theorem dX0_arrive_13 : decode cX0_arrive 13 = .ok (.iconst 1, 1) := by decide +kernel
theorem dX0_arrive_14 : decode cX0_arrive 14 = .ok (.if_icmp .ne 18, 3) := by decide +kernel
theorem dX0_arrive_17 : decode cX0_arrive 17 = .ok (.aload_n 0, 1) := by decide +kernel
theorem dX0_arrive_18 : decode cX0_arrive 18 = .ok (.getfield 18, 3) := by decide +kernel
theorem dX0_arrive_21 : decode cX0_arrive 21 = .ok (.iload_n 3, 1) := by decide +kernel
theorem dX0_arrive_22 : decode cX0_arrive 22 = .ok (.iaload, 1) := by decide +kernel
theorem dX0_arrive_23 : decode cX0_arrive 23 = .ok (.iload_n 2, 1) := by decide +kernel
theorem dX0_arrive_24 : decode cX0_arrive 24 = .ok (.if_icmp .ne 8, 3) := by decide +kernel
theorem dX0_arrive_27 : decode cX0_arrive 27 = .ok (.aload_n 0, 1) := by decide +kernel
theorem dX0_arrive_28 : decode cX0_arrive 28 = .ok (.iload_n 3, 1) := by decide +kernel
theorem dX0_arrive_29 : decode cX0_arrive 29 = .ok (.invokevirtual 50, 3) := by decide +kernel
theorem dX0_arrive_32 : decode cX0_arrive 32 = .ok (.iinc 3 1, 3) := by decide +kernel
theorem dX0_arrive_35 : decode cX0_arrive 35 = .ok (.goto (-33), 3) := by decide +kernel
theorem dX0_arrive_38 : decode cX0_arrive 38 = .ok (.return_, 1) := by decide +kernel
theorem dX0_come_0 : decode cX0_come 0 = .ok (.aload_n 0, 1) := by decide +kernel
theorem dX0_come_1 : decode cX0_come 1 = .ok (.getfield 9, 3) := by decide +kernel
theorem dX0_come_4 : decode cX0_come 4 = .ok (.iload_n 1, 1) := by decide +kernel
theorem dX0_come_5 : decode cX0_come 5 = .ok (.iconst 0, 1) := by decide +kernel
theorem dX0_come_6 : decode cX0_come 6 = .ok (.iastore, 1) := by decide +kernel
theorem dX0_come_7 : decode cX0_come 7 = .ok (.iload_n 1, 1) := by decide +kernel
theorem dX0_come_8 : decode cX0_come 8 = .ok (.bipush 40, 2) := by decide +kernel
theorem dX0_come_10 : decode cX0_come 10 = .ok (.imul, 1) := by decide +kernel
theorem dX0_come_11 : decode cX0_come 11 = .ok (.aload_n 0, 1) := by decide +kernel
theorem dX0_come_12 : decode cX0_come 12 = .ok (.getfield 28, 3) := by decide +kernel
theorem dX0_come_15 : decode cX0_come 15 = .ok (.iload_n 1, 1) := by decide +kernel
theorem dX0_come_16 : decode cX0_come 16 = .ok (.iaload, 1) := by decide +kernel
theorem dX0_come_17 : decode cX0_come 17 = .ok (.iadd, 1) := by decide +kernel
theorem dX0_come_18 : decode cX0_come 18 = .ok (.istore_n 2, 1) := by decide +kernel
theorem dX0_come_19 : decode cX0_come 19 = .ok (.aload_n 0, 1) := by decide +kernel
theorem dX0_come_20 : decode cX0_come 20 = .ok (.getfield 28, 3) := by decide +kernel
theorem dX0_come_23 : decode cX0_come 23 = .ok (.iload_n 1, 1) := by decide +kernel
theorem dX0_come_24 : decode cX0_come 24 = .ok (.iaload, 1) := by decide +kernel
theorem dX0_come_25 : decode cX0_come 25 = .ok (.bipush 40, 2) := by decide +kernel
theorem dX0_come_27 : decode cX0_come 27 = .ok (.if_icmp .ge 25, 3) := by decide +kernel
theorem dX0_come_30 : decode cX0_come 30 = .ok (.iload_n 2, 1) := by decide +kernel
theorem dX0_come_31 : decode cX0_come 31 = .ok (.aload_n 0, 1) := by decide +kernel
theorem dX0_come_32 : decode cX0_come 32 = .ok (.getfield 40, 3) := by decide +kernel
theorem dX0_come_35 : decode cX0_come 35 = .ok (.arraylength, 1) := by decide +kernel
theorem dX0_come_36 : decode cX0_come 36 = .ok (.if_icmp .ge 16, 3) := by decide +kernel
theorem dX0_come_39 : decode cX0_come 39 = .ok (.aload_n 0, 1) := by decide +kernel
theorem dX0_come_40 : decode cX0_come 40 = .ok (.getfield 40, 3) := by decide +kernel
theorem dX0_come_43 : decode cX0_come 43 = .ok (.iload_n 2, 1) := by decide +kernel
theorem dX0_come_44 : decode cX0_come 44 = .ok (.aload_n 0, 1) := by decide +kernel
theorem dX0_come_45 : decode cX0_come 45 = .ok (.getfield 15, 3) := by decide +kernel
theorem dX0_come_48 : decode cX0_come 48 = .ok (.iload_n 1, 1) := by decide +kernel
theorem dX0_come_49 : decode cX0_come 49 = .ok (.iaload, 1) := by decide +kernel
theorem dX0_come_50 : decode cX0_come 50 = .ok (.i2b, 1) := by decide +kernel
theorem dX0_come_51 : decode cX0_come 51 = .ok (.bastore, 1) := by decide +kernel
theorem dX0_come_52 : decode cX0_come 52 = .ok (.aload_n 0, 1) := by decide +kernel
theorem dX0_come_53 : decode cX0_come 53 = .ok (.getfield 28, 3) := by decide +kernel
theorem dX0_come_56 : decode cX0_come 56 = .ok (.iload_n 1, 1) := by decide +kernel
theorem dX0_come_57 : decode cX0_come 57 = .ok (.dup2, 1) := by decide +kernel
theorem dX0_come_58 : decode cX0_come 58 = .ok (.iaload, 1) := by decide +kernel
theorem dX0_come_59 : decode cX0_come 59 = .ok (.iconst 1, 1) := by decide +kernel
theorem dX0_come_60 : decode cX0_come 60 = .ok (.iadd, 1) := by decide +kernel
theorem dX0_come_61 : decode cX0_come 61 = .ok (.iastore, 1) := by decide +kernel
theorem dX0_come_62 : decode cX0_come 62 = .ok (.return_, 1) := by decide +kernel
theorem dX0_send_0 : decode cX0_send 0 = .ok (.aload_n 0, 1) := by decide +kernel
theorem dX0_send_1 : decode cX0_send 1 = .ok (.getfield 9, 3) := by decide +kernel
theorem dX0_send_4 : decode cX0_send 4 = .ok (.iload_n 1, 1) := by decide +kernel
theorem dX0_send_5 : decode cX0_send 5 = .ok (.iconst 1, 1) := by decide +kernel
theorem dX0_send_6 : decode cX0_send 6 = .ok (.iastore, 1) := by decide +kernel
theorem dX0_send_7 : decode cX0_send 7 = .ok (.aload_n 0, 1) := by decide +kernel
theorem dX0_send_8 : decode cX0_send 8 = .ok (.getfield 15, 3) := by decide +kernel
theorem dX0_send_11 : decode cX0_send 11 = .ok (.iload_n 1, 1) := by decide +kernel
theorem dX0_send_12 : decode cX0_send 12 = .ok (.iload_n 2, 1) := by decide +kernel
theorem dX0_send_13 : decode cX0_send 13 = .ok (.iastore, 1) := by decide +kernel
theorem dX0_send_14 : decode cX0_send 14 = .ok (.aload_n 0, 1) := by decide +kernel
theorem dX0_send_15 : decode cX0_send 15 = .ok (.getfield 18, 3) := by decide +kernel
theorem dX0_send_18 : decode cX0_send 18 = .ok (.iload_n 1, 1) := by decide +kernel
theorem dX0_send_19 : decode cX0_send 19 = .ok (.iload_n 3, 1) := by decide +kernel
theorem dX0_send_20 : decode cX0_send 20 = .ok (.iastore, 1) := by decide +kernel
theorem dX0_send_21 : decode cX0_send 21 = .ok (.return_, 1) := by decide +kernel
theorem dX0_turn_0 : decode cX0_turn 0 = .ok (.aload_n 0, 1) := by decide +kernel
theorem dX0_turn_1 : decode cX0_turn 1 = .ok (.getfield 21, 3) := by decide +kernel
theorem dX0_turn_4 : decode cX0_turn 4 = .ok (.iload_n 1, 1) := by decide +kernel
theorem dX0_turn_5 : decode cX0_turn 5 = .ok (.iconst 1, 1) := by decide +kernel
theorem dX0_turn_6 : decode cX0_turn 6 = .ok (.bastore, 1) := by decide +kernel
theorem dX0_turn_7 : decode cX0_turn 7 = .ok (.aload_n 0, 1) := by decide +kernel
theorem dX0_turn_8 : decode cX0_turn 8 = .ok (.getfield 25, 3) := by decide +kernel
theorem dX0_turn_11 : decode cX0_turn 11 = .ok (.iload_n 1, 1) := by decide +kernel
theorem dX0_turn_12 : decode cX0_turn 12 = .ok (.iload_n 2, 1) := by decide +kernel
theorem dX0_turn_13 : decode cX0_turn 13 = .ok (.iastore, 1) := by decide +kernel
theorem dX0_turn_14 : decode cX0_turn 14 = .ok (.return_, 1) := by decide +kernel
theorem dX0_finish_0 : decode cX0_finish 0 = .ok (.aload_n 0, 1) := by decide +kernel
theorem dX0_finish_1 : decode cX0_finish 1 = .ok (.getfield 9, 3) := by decide +kernel
theorem dX0_finish_4 : decode cX0_finish 4 = .ok (.iload_n 1, 1) := by decide +kernel
theorem dX0_finish_5 : decode cX0_finish 5 = .ok (.iload_n 2, 1) := by decide +kernel
theorem dX0_finish_6 : decode cX0_finish 6 = .ok (.iastore, 1) := by decide +kernel
theorem dX0_finish_7 : decode cX0_finish 7 = .ok (.aload_n 0, 1) := by decide +kernel
theorem dX0_finish_8 : decode cX0_finish 8 = .ok (.getfield 18, 3) := by decide +kernel
theorem dX0_finish_11 : decode cX0_finish 11 = .ok (.iload_n 1, 1) := by decide +kernel
theorem dX0_finish_12 : decode cX0_finish 12 = .ok (.iload_n 3, 1) := by decide +kernel
theorem dX0_finish_13 : decode cX0_finish 13 = .ok (.iastore, 1) := by decide +kernel
theorem dX0_finish_14 : decode cX0_finish 14 = .ok (.return_, 1) := by decide +kernel
theorem dX0_ended_0 : decode cX0_ended 0 = .ok (.aload_n 0, 1) := by decide +kernel
theorem dX0_ended_1 : decode cX0_ended 1 = .ok (.getfield 9, 3) := by decide +kernel
theorem dX0_ended_4 : decode cX0_ended 4 = .ok (.iload_n 1, 1) := by decide +kernel
theorem dX0_ended_5 : decode cX0_ended 5 = .ok (.iaload, 1) := by decide +kernel
theorem dX0_ended_6 : decode cX0_ended 6 = .ok (.iconst 2, 1) := by decide +kernel
theorem dX0_ended_7 : decode cX0_ended 7 = .ok (.if_icmp .lt 7, 3) := by decide +kernel
theorem dX0_ended_10 : decode cX0_ended 10 = .ok (.iconst 1, 1) := by decide +kernel
theorem dX0_ended_11 : decode cX0_ended 11 = .ok (.goto 4, 3) := by decide +kernel
theorem dX0_ended_14 : decode cX0_ended 14 = .ok (.iconst 0, 1) := by decide +kernel
theorem dX0_ended_15 : decode cX0_ended 15 = .ok (.ireturn, 1) := by decide +kernel
theorem dX0_howMany_0 : decode cX0_howMany 0 = .ok (.iconst 0, 1) := by decide +kernel
theorem dX0_howMany_1 : decode cX0_howMany 1 = .ok (.istore_n 3, 1) := by decide +kernel
theorem dX0_howMany_2 : decode cX0_howMany 2 = .ok (.iconst 0, 1) := by decide +kernel
theorem dX0_howMany_3 : decode cX0_howMany 3 = .ok (.istore 4, 2) := by decide +kernel
theorem dX0_howMany_5 : decode cX0_howMany 5 = .ok (.iload 4, 2) := by decide +kernel
theorem dX0_howMany_7 : decode cX0_howMany 7 = .ok (.iload_n 2, 1) := by decide +kernel
theorem dX0_howMany_8 : decode cX0_howMany 8 = .ok (.if_icmp .ge 23, 3) := by decide +kernel
theorem dX0_howMany_11 : decode cX0_howMany 11 = .ok (.aload_n 0, 1) := by decide +kernel
theorem dX0_howMany_12 : decode cX0_howMany 12 = .ok (.getfield 9, 3) := by decide +kernel
theorem dX0_howMany_15 : decode cX0_howMany 15 = .ok (.iload 4, 2) := by decide +kernel
theorem dX0_howMany_17 : decode cX0_howMany 17 = .ok (.iaload, 1) := by decide +kernel
theorem dX0_howMany_18 : decode cX0_howMany 18 = .ok (.iload_n 1, 1) := by decide +kernel
theorem dX0_howMany_19 : decode cX0_howMany 19 = .ok (.if_icmp .ne 6, 3) := by decide +kernel
theorem dX0_howMany_22 : decode cX0_howMany 22 = .ok (.iinc 3 1, 3) := by decide +kernel
theorem dX0_howMany_25 : decode cX0_howMany 25 = .ok (.iinc 4 1, 3) := by decide +kernel
theorem dX0_howMany_28 : decode cX0_howMany 28 = .ok (.goto (-23), 3) := by decide +kernel
theorem dX0_howMany_31 : decode cX0_howMany 31 = .ok (.iload_n 3, 1) := by decide +kernel
theorem dX0_howMany_32 : decode cX0_howMany 32 = .ok (.ireturn, 1) := by decide +kernel
theorem dX0_howManySpoilt_0 : decode cX0_howManySpoilt 0 = .ok (.iconst 0, 1) := by decide +kernel
theorem dX0_howManySpoilt_1 : decode cX0_howManySpoilt 1 = .ok (.istore_n 2, 1) := by decide +kernel
theorem dX0_howManySpoilt_2 : decode cX0_howManySpoilt 2 = .ok (.iconst 0, 1) := by decide +kernel
theorem dX0_howManySpoilt_3 : decode cX0_howManySpoilt 3 = .ok (.istore_n 3, 1) := by decide +kernel
theorem dX0_howManySpoilt_4 : decode cX0_howManySpoilt 4 = .ok (.iload_n 3, 1) := by decide +kernel
theorem dX0_howManySpoilt_5 : decode cX0_howManySpoilt 5 = .ok (.iload_n 1, 1) := by decide +kernel
theorem dX0_howManySpoilt_6 : decode cX0_howManySpoilt 6 = .ok (.if_icmp .ge 21, 3) := by decide +kernel
theorem dX0_howManySpoilt_9 : decode cX0_howManySpoilt 9 = .ok (.aload_n 0, 1) := by decide +kernel
theorem dX0_howManySpoilt_10 : decode cX0_howManySpoilt 10 = .ok (.getfield 31, 3) := by decide +kernel
theorem dX0_howManySpoilt_13 : decode cX0_howManySpoilt 13 = .ok (.iload_n 3, 1) := by decide +kernel
theorem dX0_howManySpoilt_14 : decode cX0_howManySpoilt 14 = .ok (.baload, 1) := by decide +kernel
theorem dX0_howManySpoilt_15 : decode cX0_howManySpoilt 15 = .ok (.ifCond .eq 6, 3) := by decide +kernel
theorem dX0_howManySpoilt_18 : decode cX0_howManySpoilt 18 = .ok (.iinc 2 1, 3) := by decide +kernel
theorem dX0_howManySpoilt_21 : decode cX0_howManySpoilt 21 = .ok (.iinc 3 1, 3) := by decide +kernel
theorem dX0_howManySpoilt_24 : decode cX0_howManySpoilt 24 = .ok (.goto (-20), 3) := by decide +kernel
theorem dX0_howManySpoilt_27 : decode cX0_howManySpoilt 27 = .ok (.iload_n 2, 1) := by decide +kernel
theorem dX0_howManySpoilt_28 : decode cX0_howManySpoilt 28 = .ok (.ireturn, 1) := by decide +kernel
theorem dX0_traced_0 : decode cX0_traced 0 = .ok (.iload_n 1, 1) := by decide +kernel
theorem dX0_traced_1 : decode cX0_traced 1 = .ok (.bipush 40, 2) := by decide +kernel
theorem dX0_traced_3 : decode cX0_traced 3 = .ok (.imul, 1) := by decide +kernel
theorem dX0_traced_4 : decode cX0_traced 4 = .ok (.iload_n 2, 1) := by decide +kernel
theorem dX0_traced_5 : decode cX0_traced 5 = .ok (.iadd, 1) := by decide +kernel
theorem dX0_traced_6 : decode cX0_traced 6 = .ok (.istore_n 3, 1) := by decide +kernel
theorem dX0_traced_7 : decode cX0_traced 7 = .ok (.iload_n 2, 1) := by decide +kernel
theorem dX0_traced_8 : decode cX0_traced 8 = .ok (.ifCond .lt 28, 3) := by decide +kernel
theorem dX0_traced_11 : decode cX0_traced 11 = .ok (.iload_n 2, 1) := by decide +kernel
theorem dX0_traced_12 : decode cX0_traced 12 = .ok (.aload_n 0, 1) := by decide +kernel
theorem dX0_traced_13 : decode cX0_traced 13 = .ok (.getfield 28, 3) := by decide +kernel
theorem dX0_traced_16 : decode cX0_traced 16 = .ok (.iload_n 1, 1) := by decide +kernel
theorem dX0_traced_17 : decode cX0_traced 17 = .ok (.iaload, 1) := by decide +kernel
theorem dX0_traced_18 : decode cX0_traced 18 = .ok (.if_icmp .ge 18, 3) := by decide +kernel
theorem dX0_traced_21 : decode cX0_traced 21 = .ok (.iload_n 2, 1) := by decide +kernel
theorem dX0_traced_22 : decode cX0_traced 22 = .ok (.bipush 40, 2) := by decide +kernel
theorem dX0_traced_24 : decode cX0_traced 24 = .ok (.if_icmp .ge 12, 3) := by decide +kernel
theorem dX0_traced_27 : decode cX0_traced 27 = .ok (.iload_n 3, 1) := by decide +kernel
theorem dX0_traced_28 : decode cX0_traced 28 = .ok (.aload_n 0, 1) := by decide +kernel
theorem dX0_traced_29 : decode cX0_traced 29 = .ok (.getfield 40, 3) := by decide +kernel
theorem dX0_traced_32 : decode cX0_traced 32 = .ok (.arraylength, 1) := by decide +kernel
theorem dX0_traced_33 : decode cX0_traced 33 = .ok (.if_icmp .lt 6, 3) := by decide +kernel
theorem dX0_traced_36 : decode cX0_traced 36 = .ok (.bipush (-9), 2) := by decide +kernel
theorem dX0_traced_38 : decode cX0_traced 38 = .ok (.ireturn, 1) := by decide +kernel
theorem dX0_traced_39 : decode cX0_traced 39 = .ok (.aload_n 0, 1) := by decide +kernel
theorem dX0_traced_40 : decode cX0_traced 40 = .ok (.getfield 40, 3) := by decide +kernel
theorem dX0_traced_43 : decode cX0_traced 43 = .ok (.iload_n 3, 1) := by decide +kernel
theorem dX0_traced_44 : decode cX0_traced 44 = .ok (.baload, 1) := by decide +kernel
theorem dX0_traced_45 : decode cX0_traced 45 = .ok (.ireturn, 1) := by decide +kernel
theorem dX0_toAndFro_0 : decode cX0_toAndFro 0 = .ok (.aload_n 0, 1) := by decide +kernel
theorem dX0_toAndFro_1 : decode cX0_toAndFro 1 = .ok (.getfield 28, 3) := by decide +kernel
theorem dX0_toAndFro_4 : decode cX0_toAndFro 4 = .ok (.iload_n 1, 1) := by decide +kernel
theorem dX0_toAndFro_5 : decode cX0_toAndFro 5 = .ok (.iaload, 1) := by decide +kernel
theorem dX0_toAndFro_6 : decode cX0_toAndFro 6 = .ok (.bipush 40, 2) := by decide +kernel
theorem dX0_toAndFro_8 : decode cX0_toAndFro 8 = .ok (.invokestatic 54, 3) := by decide +kernel
theorem dX0_toAndFro_11 : decode cX0_toAndFro 11 = .ok (.istore_n 2, 1) := by decide +kernel
theorem dX0_toAndFro_12 : decode cX0_toAndFro 12 = .ok (.iconst 0, 1) := by decide +kernel
theorem dX0_toAndFro_13 : decode cX0_toAndFro 13 = .ok (.istore_n 3, 1) := by decide +kernel
theorem dX0_toAndFro_14 : decode cX0_toAndFro 14 = .ok (.iload_n 3, 1) := by decide +kernel
theorem dX0_toAndFro_15 : decode cX0_toAndFro 15 = .ok (.iconst 3, 1) := by decide +kernel
theorem dX0_toAndFro_16 : decode cX0_toAndFro 16 = .ok (.iadd, 1) := by decide +kernel
theorem dX0_toAndFro_17 : decode cX0_toAndFro 17 = .ok (.iload_n 2, 1) := by decide +kernel
theorem dX0_toAndFro_18 : decode cX0_toAndFro 18 = .ok (.if_icmp .ge 59, 3) := by decide +kernel
theorem dX0_toAndFro_21 : decode cX0_toAndFro 21 = .ok (.aload_n 0, 1) := by decide +kernel
theorem dX0_toAndFro_22 : decode cX0_toAndFro 22 = .ok (.iload_n 1, 1) := by decide +kernel
theorem dX0_toAndFro_23 : decode cX0_toAndFro 23 = .ok (.iload_n 3, 1) := by decide +kernel
theorem dX0_toAndFro_24 : decode cX0_toAndFro 24 = .ok (.invokevirtual 57, 3) := by decide +kernel
theorem dX0_toAndFro_27 : decode cX0_toAndFro 27 = .ok (.aload_n 0, 1) := by decide +kernel
theorem dX0_toAndFro_28 : decode cX0_toAndFro 28 = .ok (.iload_n 1, 1) := by decide +kernel
theorem dX0_toAndFro_29 : decode cX0_toAndFro 29 = .ok (.iload_n 3, 1) := by decide +kernel
theorem dX0_toAndFro_30 : decode cX0_toAndFro 30 = .ok (.iconst 2, 1) := by decide +kernel
theorem dX0_toAndFro_31 : decode cX0_toAndFro 31 = .ok (.iadd, 1) := by decide +kernel
theorem dX0_toAndFro_32 : decode cX0_toAndFro 32 = .ok (.invokevirtual 57, 3) := by decide +kernel
theorem dX0_toAndFro_35 : decode cX0_toAndFro 35 = .ok (.if_icmp .ne 7, 3) := by decide +kernel
theorem dX0_toAndFro_38 : decode cX0_toAndFro 38 = .ok (.iconst 1, 1) := by decide +kernel
theorem dX0_toAndFro_39 : decode cX0_toAndFro 39 = .ok (.goto 4, 3) := by decide +kernel
theorem dX0_toAndFro_42 : decode cX0_toAndFro 42 = .ok (.iconst 0, 1) := by decide +kernel
theorem dX0_toAndFro_43 : decode cX0_toAndFro 43 = .ok (.istore 4, 2) := by decide +kernel
theorem dX0_toAndFro_45 : decode cX0_toAndFro 45 = .ok (.iload 4, 2) := by decide +kernel
theorem dX0_toAndFro_47 : decode cX0_toAndFro 47 = .ok (.ifCond .eq 24, 3) := by decide +kernel
theorem dX0_toAndFro_50 : decode cX0_toAndFro 50 = .ok (.aload_n 0, 1) := by decide +kernel
theorem dX0_toAndFro_51 : decode cX0_toAndFro 51 = .ok (.iload_n 1, 1) := by decide +kernel
theorem dX0_toAndFro_52 : decode cX0_toAndFro 52 = .ok (.iload_n 3, 1) := by decide +kernel
theorem dX0_toAndFro_53 : decode cX0_toAndFro 53 = .ok (.iconst 1, 1) := by decide +kernel
theorem dX0_toAndFro_54 : decode cX0_toAndFro 54 = .ok (.iadd, 1) := by decide +kernel
theorem dX0_toAndFro_55 : decode cX0_toAndFro 55 = .ok (.invokevirtual 57, 3) := by decide +kernel
theorem dX0_toAndFro_58 : decode cX0_toAndFro 58 = .ok (.aload_n 0, 1) := by decide +kernel
theorem dX0_toAndFro_59 : decode cX0_toAndFro 59 = .ok (.iload_n 1, 1) := by decide +kernel
theorem dX0_toAndFro_60 : decode cX0_toAndFro 60 = .ok (.iload_n 3, 1) := by decide +kernel
theorem dX0_toAndFro_61 : decode cX0_toAndFro 61 = .ok (.iconst 3, 1) := by decide +kernel
theorem dX0_toAndFro_62 : decode cX0_toAndFro 62 = .ok (.iadd, 1) := by decide +kernel
theorem dX0_toAndFro_63 : decode cX0_toAndFro 63 = .ok (.invokevirtual 57, 3) := by decide +kernel
theorem dX0_toAndFro_66 : decode cX0_toAndFro 66 = .ok (.if_icmp .ne 5, 3) := by decide +kernel
theorem dX0_toAndFro_69 : decode cX0_toAndFro 69 = .ok (.iload_n 3, 1) := by decide +kernel
theorem dX0_toAndFro_70 : decode cX0_toAndFro 70 = .ok (.ireturn, 1) := by decide +kernel
theorem dX0_toAndFro_71 : decode cX0_toAndFro 71 = .ok (.iinc 3 1, 3) := by decide +kernel
theorem dX0_toAndFro_74 : decode cX0_toAndFro 74 = .ok (.goto (-60), 3) := by decide +kernel
theorem dX0_toAndFro_77 : decode cX0_toAndFro 77 = .ok (.bipush (-9), 2) := by decide +kernel
theorem dX0_toAndFro_79 : decode cX0_toAndFro 79 = .ok (.ireturn, 1) := by decide +kernel
theorem dX1_init_0 : decode cX1_init 0 = .ok (.aload_n 0, 1) := by decide +kernel
theorem dX1_init_1 : decode cX1_init 1 = .ok (.invokespecial 3, 3) := by decide +kernel
theorem dX1_init_4 : decode cX1_init 4 = .ok (.aload_n 0, 1) := by decide +kernel
theorem dX1_init_5 : decode cX1_init 5 = .ok (.bipush 60, 2) := by decide +kernel
theorem dX1_init_7 : decode cX1_init 7 = .ok (.newarray .int, 2) := by decide +kernel
theorem dX1_init_9 : decode cX1_init 9 = .ok (.putfield 9, 3) := by decide +kernel
theorem dX1_init_12 : decode cX1_init 12 = .ok (.aload_n 0, 1) := by decide +kernel
theorem dX1_init_13 : decode cX1_init 13 = .ok (.bipush 60, 2) := by decide +kernel
theorem dX1_init_15 : decode cX1_init 15 = .ok (.newarray .int, 2) := by decide +kernel
theorem dX1_init_17 : decode cX1_init 17 = .ok (.putfield 15, 3) := by decide +kernel
theorem dX1_init_20 : decode cX1_init 20 = .ok (.aload_n 0, 1) := by decide +kernel
theorem dX1_init_21 : decode cX1_init 21 = .ok (.bipush 60, 2) := by decide +kernel
theorem dX1_init_23 : decode cX1_init 23 = .ok (.newarray .int, 2) := by decide +kernel
theorem dX1_init_25 : decode cX1_init 25 = .ok (.putfield 18, 3) := by decide +kernel
theorem dX1_init_28 : decode cX1_init 28 = .ok (.aload_n 0, 1) := by decide +kernel
theorem dX1_init_29 : decode cX1_init 29 = .ok (.bipush 60, 2) := by decide +kernel
theorem dX1_init_31 : decode cX1_init 31 = .ok (.newarray .int, 2) := by decide +kernel
theorem dX1_init_33 : decode cX1_init 33 = .ok (.putfield 21, 3) := by decide +kernel
theorem dX1_init_36 : decode cX1_init 36 = .ok (.aload_n 0, 1) := by decide +kernel
theorem dX1_init_37 : decode cX1_init 37 = .ok (.bipush 60, 2) := by decide +kernel
theorem dX1_init_39 : decode cX1_init 39 = .ok (.newarray .int, 2) := by decide +kernel
theorem dX1_init_41 : decode cX1_init 41 = .ok (.putfield 24, 3) := by decide +kernel
theorem dX1_init_44 : decode cX1_init 44 = .ok (.return_, 1) := by decide +kernel
theorem dX1_has_0 : decode cX1_has 0 = .ok (.iload_n 1, 1) := by decide +kernel
theorem dX1_has_1 : decode cX1_has 1 = .ok (.ifCond .lt 15, 3) := by decide +kernel
theorem dX1_has_4 : decode cX1_has 4 = .ok (.iload_n 1, 1) := by decide +kernel
theorem dX1_has_5 : decode cX1_has 5 = .ok (.aload_n 0, 1) := by decide +kernel
theorem dX1_has_6 : decode cX1_has 6 = .ok (.getfield 27, 3) := by decide +kernel
theorem dX1_has_9 : decode cX1_has 9 = .ok (.if_icmp .ge 7, 3) := by decide +kernel
theorem dX1_has_12 : decode cX1_has 12 = .ok (.iconst 1, 1) := by decide +kernel
theorem dX1_has_13 : decode cX1_has 13 = .ok (.goto 4, 3) := by decide +kernel
theorem dX1_has_16 : decode cX1_has 16 = .ok (.iconst 0, 1) := by decide +kernel
theorem dX1_has_17 : decode cX1_has 17 = .ok (.ireturn, 1) := by decide +kernel
theorem dX1_add_0 : decode cX1_add 0 = .ok (.aload_n 0, 1) := by decide +kernel
theorem dX1_add_1 : decode cX1_add 1 = .ok (.getfield 9, 3) := by decide +kernel
theorem dX1_add_4 : decode cX1_add 4 = .ok (.aload_n 0, 1) := by decide +kernel
theorem dX1_add_5 : decode cX1_add 5 = .ok (.getfield 27, 3) := by decide +kernel
theorem dX1_add_8 : decode cX1_add 8 = .ok (.iload_n 1, 1) := by decide +kernel
theorem dX1_add_9 : decode cX1_add 9 = .ok (.iastore, 1) := by decide +kernel
theorem dX1_add_10 : decode cX1_add 10 = .ok (.aload_n 0, 1) := by decide +kernel
theorem dX1_add_11 : decode cX1_add 11 = .ok (.getfield 15, 3) := by decide +kernel
theorem dX1_add_14 : decode cX1_add 14 = .ok (.aload_n 0, 1) := by decide +kernel
theorem dX1_add_15 : decode cX1_add 15 = .ok (.getfield 27, 3) := by decide +kernel
theorem dX1_add_18 : decode cX1_add 18 = .ok (.iload_n 2, 1) := by decide +kernel
theorem dX1_add_19 : decode cX1_add 19 = .ok (.iastore, 1) := by decide +kernel
theorem dX1_add_20 : decode cX1_add 20 = .ok (.aload_n 0, 1) := by decide +kernel
theorem dX1_add_21 : decode cX1_add 21 = .ok (.getfield 18, 3) := by decide +kernel
theorem dX1_add_24 : decode cX1_add 24 = .ok (.aload_n 0, 1) := by decide +kernel
theorem dX1_add_25 : decode cX1_add 25 = .ok (.getfield 27, 3) := by decide +kernel
theorem dX1_add_28 : decode cX1_add 28 = .ok (.iload_n 3, 1) := by decide +kernel
theorem dX1_add_29 : decode cX1_add 29 = .ok (.iastore, 1) := by decide +kernel
theorem dX1_add_30 : decode cX1_add 30 = .ok (.aload_n 0, 1) := by decide +kernel
theorem dX1_add_31 : decode cX1_add 31 = .ok (.getfield 21, 3) := by decide +kernel
theorem dX1_add_34 : decode cX1_add 34 = .ok (.aload_n 0, 1) := by decide +kernel
theorem dX1_add_35 : decode cX1_add 35 = .ok (.getfield 27, 3) := by decide +kernel
theorem dX1_add_38 : decode cX1_add 38 = .ok (.iload 4, 2) := by decide +kernel
theorem dX1_add_40 : decode cX1_add 40 = .ok (.iastore, 1) := by decide +kernel
theorem dX1_add_41 : decode cX1_add 41 = .ok (.aload_n 0, 1) := by decide +kernel
theorem dX1_add_42 : decode cX1_add 42 = .ok (.getfield 24, 3) := by decide +kernel
theorem dX1_add_45 : decode cX1_add 45 = .ok (.aload_n 0, 1) := by decide +kernel
theorem dX1_add_46 : decode cX1_add 46 = .ok (.getfield 27, 3) := by decide +kernel
theorem dX1_add_49 : decode cX1_add 49 = .ok (.iload 5, 2) := by decide +kernel
theorem dX1_add_51 : decode cX1_add 51 = .ok (.iastore, 1) := by decide +kernel
theorem dX1_add_52 : decode cX1_add 52 = .ok (.aload_n 0, 1) := by decide +kernel
theorem dX1_add_53 : decode cX1_add 53 = .ok (.dup, 1) := by decide +kernel
theorem dX1_add_54 : decode cX1_add 54 = .ok (.getfield 27, 3) := by decide +kernel
theorem dX1_add_57 : decode cX1_add 57 = .ok (.iconst 1, 1) := by decide +kernel
theorem dX1_add_58 : decode cX1_add 58 = .ok (.iadd, 1) := by decide +kernel
theorem dX1_add_59 : decode cX1_add 59 = .ok (.putfield 27, 3) := by decide +kernel
theorem dX1_add_62 : decode cX1_add 62 = .ok (.aload_n 0, 1) := by decide +kernel
theorem dX1_add_63 : decode cX1_add 63 = .ok (.getfield 27, 3) := by decide +kernel
theorem dX1_add_66 : decode cX1_add 66 = .ok (.iconst 1, 1) := by decide +kernel
theorem dX1_add_67 : decode cX1_add 67 = .ok (.isub, 1) := by decide +kernel
theorem dX1_add_68 : decode cX1_add 68 = .ok (.ireturn, 1) := by decide +kernel
theorem dX2_init_0 : decode cX2_init 0 = .ok (.aload_n 0, 1) := by decide +kernel
theorem dX2_init_1 : decode cX2_init 1 = .ok (.invokespecial 3, 3) := by decide +kernel
theorem dX2_init_4 : decode cX2_init 4 = .ok (.aload_n 0, 1) := by decide +kernel
theorem dX2_init_5 : decode cX2_init 5 = .ok (.bipush 12, 2) := by decide +kernel
theorem dX2_init_7 : decode cX2_init 7 = .ok (.newarray .int, 2) := by decide +kernel
theorem dX2_init_9 : decode cX2_init 9 = .ok (.putfield 9, 3) := by decide +kernel
theorem dX2_init_12 : decode cX2_init 12 = .ok (.aload_n 0, 1) := by decide +kernel
theorem dX2_init_13 : decode cX2_init 13 = .ok (.bipush 12, 2) := by decide +kernel
theorem dX2_init_15 : decode cX2_init 15 = .ok (.newarray .boolean, 2) := by decide +kernel
theorem dX2_init_17 : decode cX2_init 17 = .ok (.putfield 15, 3) := by decide +kernel
theorem dX2_init_20 : decode cX2_init 20 = .ok (.aload_n 0, 1) := by decide +kernel
theorem dX2_init_21 : decode cX2_init 21 = .ok (.sipush 144, 3) := by decide +kernel
theorem dX2_init_24 : decode cX2_init 24 = .ok (.newarray .int, 2) := by decide +kernel
theorem dX2_init_26 : decode cX2_init 26 = .ok (.putfield 19, 3) := by decide +kernel
theorem dX2_init_29 : decode cX2_init 29 = .ok (.aload_n 0, 1) := by decide +kernel
theorem dX2_init_30 : decode cX2_init 30 = .ok (.bipush 24, 2) := by decide +kernel
theorem dX2_init_32 : decode cX2_init 32 = .ok (.newarray .int, 2) := by decide +kernel
theorem dX2_init_34 : decode cX2_init 34 = .ok (.putfield 22, 3) := by decide +kernel
theorem dX2_init_37 : decode cX2_init 37 = .ok (.aload_n 0, 1) := by decide +kernel
theorem dX2_init_38 : decode cX2_init 38 = .ok (.bipush 24, 2) := by decide +kernel
theorem dX2_init_40 : decode cX2_init 40 = .ok (.newarray .int, 2) := by decide +kernel
theorem dX2_init_42 : decode cX2_init 42 = .ok (.putfield 25, 3) := by decide +kernel
theorem dX2_init_45 : decode cX2_init 45 = .ok (.aload_n 0, 1) := by decide +kernel
theorem dX2_init_46 : decode cX2_init 46 = .ok (.bipush 24, 2) := by decide +kernel
theorem dX2_init_48 : decode cX2_init 48 = .ok (.newarray .int, 2) := by decide +kernel
theorem dX2_init_50 : decode cX2_init 50 = .ok (.putfield 28, 3) := by decide +kernel
theorem dX2_init_53 : decode cX2_init 53 = .ok (.aload_n 0, 1) := by decide +kernel
theorem dX2_init_54 : decode cX2_init 54 = .ok (.bipush 24, 2) := by decide +kernel
theorem dX2_init_56 : decode cX2_init 56 = .ok (.newarray .int, 2) := by decide +kernel
theorem dX2_init_58 : decode cX2_init 58 = .ok (.putfield 31, 3) := by decide +kernel
theorem dX2_init_61 : decode cX2_init 61 = .ok (.aload_n 0, 1) := by decide +kernel
theorem dX2_init_62 : decode cX2_init 62 = .ok (.bipush 24, 2) := by decide +kernel
theorem dX2_init_64 : decode cX2_init 64 = .ok (.newarray .int, 2) := by decide +kernel
theorem dX2_init_66 : decode cX2_init 66 = .ok (.putfield 34, 3) := by decide +kernel
theorem dX2_init_69 : decode cX2_init 69 = .ok (.aload_n 0, 1) := by decide +kernel
theorem dX2_init_70 : decode cX2_init 70 = .ok (.bipush 40, 2) := by decide +kernel
theorem dX2_init_72 : decode cX2_init 72 = .ok (.newarray .int, 2) := by decide +kernel
theorem dX2_init_74 : decode cX2_init 74 = .ok (.putfield 37, 3) := by decide +kernel
theorem dX2_init_77 : decode cX2_init 77 = .ok (.aload_n 0, 1) := by decide +kernel
theorem dX2_init_78 : decode cX2_init 78 = .ok (.bipush 40, 2) := by decide +kernel
theorem dX2_init_80 : decode cX2_init 80 = .ok (.newarray .int, 2) := by decide +kernel
theorem dX2_init_82 : decode cX2_init 82 = .ok (.putfield 40, 3) := by decide +kernel
theorem dX2_init_85 : decode cX2_init 85 = .ok (.aload_n 0, 1) := by decide +kernel
theorem dX2_init_86 : decode cX2_init 86 = .ok (.bipush 40, 2) := by decide +kernel
theorem dX2_init_88 : decode cX2_init 88 = .ok (.newarray .int, 2) := by decide +kernel
theorem dX2_init_90 : decode cX2_init 90 = .ok (.putfield 43, 3) := by decide +kernel
theorem dX2_init_93 : decode cX2_init 93 = .ok (.aload_n 0, 1) := by decide +kernel
theorem dX2_init_94 : decode cX2_init 94 = .ok (.getfield 19, 3) := by decide +kernel
theorem dX2_init_97 : decode cX2_init 97 = .ok (.ldc 46, 2) := by decide +kernel
theorem dX2_init_99 : decode cX2_init 99 = .ok (.invokestatic 47, 3) := by decide +kernel
theorem dX2_init_102 : decode cX2_init 102 = .ok (.iconst 0, 1) := by decide +kernel
theorem dX2_init_103 : decode cX2_init 103 = .ok (.istore_n 1, 1) := by decide +kernel
theorem dX2_init_104 : decode cX2_init 104 = .ok (.iload_n 1, 1) := by decide +kernel
theorem dX2_init_105 : decode cX2_init 105 = .ok (.bipush 12, 2) := by decide +kernel
theorem dX2_init_107 : decode cX2_init 107 = .ok (.if_icmp .ge 21, 3) := by decide +kernel
theorem dX2_init_110 : decode cX2_init 110 = .ok (.aload_n 0, 1) := by decide +kernel
theorem dX2_init_111 : decode cX2_init 111 = .ok (.getfield 19, 3) := by decide +kernel
theorem dX2_init_114 : decode cX2_init 114 = .ok (.iload_n 1, 1) := by decide +kernel
theorem dX2_init_115 : decode cX2_init 115 = .ok (.bipush 12, 2) := by decide +kernel
theorem dX2_init_117 : decode cX2_init 117 = .ok (.imul, 1) := by decide +kernel
theorem dX2_init_118 : decode cX2_init 118 = .ok (.iload_n 1, 1) := by decide +kernel
theorem dX2_init_119 : decode cX2_init 119 = .ok (.iadd, 1) := by decide +kernel
theorem dX2_init_120 : decode cX2_init 120 = .ok (.iconst 0, 1) := by decide +kernel
theorem dX2_init_121 : decode cX2_init 121 = .ok (.iastore, 1) := by decide +kernel
theorem dX2_init_122 : decode cX2_init 122 = .ok (.iinc 1 1, 3) := by decide +kernel
theorem dX2_init_125 : decode cX2_init 125 = .ok (.goto (-21), 3) := by decide +kernel
theorem dX2_init_128 : decode cX2_init 128 = .ok (.return_, 1) := by decide +kernel
theorem dX2_hasOffice_0 : decode cX2_hasOffice 0 = .ok (.iload_n 1, 1) := by decide +kernel
theorem dX2_hasOffice_1 : decode cX2_hasOffice 1 = .ok (.ifCond .lt 15, 3) := by decide +kernel
theorem dX2_hasOffice_4 : decode cX2_hasOffice 4 = .ok (.iload_n 1, 1) := by decide +kernel
theorem dX2_hasOffice_5 : decode cX2_hasOffice 5 = .ok (.aload_n 0, 1) := by decide +kernel
theorem dX2_hasOffice_6 : decode cX2_hasOffice 6 = .ok (.getfield 53, 3) := by decide +kernel
theorem dX2_hasOffice_9 : decode cX2_hasOffice 9 = .ok (.if_icmp .ge 7, 3) := by decide +kernel
theorem dX2_hasOffice_12 : decode cX2_hasOffice 12 = .ok (.iconst 1, 1) := by decide +kernel
theorem dX2_hasOffice_13 : decode cX2_hasOffice 13 = .ok (.goto 4, 3) := by decide +kernel
theorem dX2_hasOffice_16 : decode cX2_hasOffice 16 = .ok (.iconst 0, 1) := by decide +kernel
theorem dX2_hasOffice_17 : decode cX2_hasOffice 17 = .ok (.ireturn, 1) := by decide +kernel
theorem dX2_hasWay_0 : decode cX2_hasWay 0 = .ok (.iload_n 1, 1) := by decide +kernel
theorem dX2_hasWay_1 : decode cX2_hasWay 1 = .ok (.ifCond .lt 15, 3) := by decide +kernel
theorem dX2_hasWay_4 : decode cX2_hasWay 4 = .ok (.iload_n 1, 1) := by decide +kernel
theorem dX2_hasWay_5 : decode cX2_hasWay 5 = .ok (.aload_n 0, 1) := by decide +kernel
theorem dX2_hasWay_6 : decode cX2_hasWay 6 = .ok (.getfield 57, 3) := by decide +kernel
theorem dX2_hasWay_9 : decode cX2_hasWay 9 = .ok (.if_icmp .ge 7, 3) := by decide +kernel
theorem dX2_hasWay_12 : decode cX2_hasWay 12 = .ok (.iconst 1, 1) := by decide +kernel
theorem dX2_hasWay_13 : decode cX2_hasWay 13 = .ok (.goto 4, 3) := by decide +kernel
theorem dX2_hasWay_16 : decode cX2_hasWay 16 = .ok (.iconst 0, 1) := by decide +kernel
theorem dX2_hasWay_17 : decode cX2_hasWay 17 = .ok (.ireturn, 1) := by decide +kernel
theorem dX2_addOffice_0 : decode cX2_addOffice 0 = .ok (.aload_n 0, 1) := by decide +kernel
theorem dX2_addOffice_1 : decode cX2_addOffice 1 = .ok (.getfield 9, 3) := by decide +kernel
theorem dX2_addOffice_4 : decode cX2_addOffice 4 = .ok (.aload_n 0, 1) := by decide +kernel
theorem dX2_addOffice_5 : decode cX2_addOffice 5 = .ok (.getfield 53, 3) := by decide +kernel
theorem dX2_addOffice_8 : decode cX2_addOffice 8 = .ok (.iload_n 1, 1) := by decide +kernel
theorem dX2_addOffice_9 : decode cX2_addOffice 9 = .ok (.iastore, 1) := by decide +kernel
theorem dX2_addOffice_10 : decode cX2_addOffice 10 = .ok (.aload_n 0, 1) := by decide +kernel
theorem dX2_addOffice_11 : decode cX2_addOffice 11 = .ok (.getfield 15, 3) := by decide +kernel
theorem dX2_addOffice_14 : decode cX2_addOffice 14 = .ok (.aload_n 0, 1) := by decide +kernel
theorem dX2_addOffice_15 : decode cX2_addOffice 15 = .ok (.getfield 53, 3) := by decide +kernel
theorem dX2_addOffice_18 : decode cX2_addOffice 18 = .ok (.iload_n 2, 1) := by decide +kernel
theorem dX2_addOffice_19 : decode cX2_addOffice 19 = .ok (.bastore, 1) := by decide +kernel
theorem dX2_addOffice_20 : decode cX2_addOffice 20 = .ok (.aload_n 0, 1) := by decide +kernel
theorem dX2_addOffice_21 : decode cX2_addOffice 21 = .ok (.dup, 1) := by decide +kernel
theorem dX2_addOffice_22 : decode cX2_addOffice 22 = .ok (.getfield 53, 3) := by decide +kernel
theorem dX2_addOffice_25 : decode cX2_addOffice 25 = .ok (.iconst 1, 1) := by decide +kernel
theorem dX2_addOffice_26 : decode cX2_addOffice 26 = .ok (.iadd, 1) := by decide +kernel
theorem dX2_addOffice_27 : decode cX2_addOffice 27 = .ok (.putfield 53, 3) := by decide +kernel
theorem dX2_addOffice_30 : decode cX2_addOffice 30 = .ok (.aload_n 0, 1) := by decide +kernel
theorem dX2_addOffice_31 : decode cX2_addOffice 31 = .ok (.getfield 53, 3) := by decide +kernel
theorem dX2_addOffice_34 : decode cX2_addOffice 34 = .ok (.iconst 1, 1) := by decide +kernel
theorem dX2_addOffice_35 : decode cX2_addOffice 35 = .ok (.isub, 1) := by decide +kernel
theorem dX2_addOffice_36 : decode cX2_addOffice 36 = .ok (.ireturn, 1) := by decide +kernel
theorem dX2_setOffice_0 : decode cX2_setOffice 0 = .ok (.aload_n 0, 1) := by decide +kernel
theorem dX2_setOffice_1 : decode cX2_setOffice 1 = .ok (.getfield 9, 3) := by decide +kernel
theorem dX2_setOffice_4 : decode cX2_setOffice 4 = .ok (.iload_n 1, 1) := by decide +kernel
theorem dX2_setOffice_5 : decode cX2_setOffice 5 = .ok (.iaload, 1) := by decide +kernel
theorem dX2_setOffice_6 : decode cX2_setOffice 6 = .ok (.istore 4, 2) := by decide +kernel
theorem dX2_setOffice_8 : decode cX2_setOffice 8 = .ok (.aload_n 0, 1) := by decide +kernel
theorem dX2_setOffice_9 : decode cX2_setOffice 9 = .ok (.getfield 9, 3) := by decide +kernel
theorem dX2_setOffice_12 : decode cX2_setOffice 12 = .ok (.iload_n 1, 1) := by decide +kernel
theorem dX2_setOffice_13 : decode cX2_setOffice 13 = .ok (.iload_n 2, 1) := by decide +kernel
theorem dX2_setOffice_14 : decode cX2_setOffice 14 = .ok (.iastore, 1) := by decide +kernel
theorem dX2_setOffice_15 : decode cX2_setOffice 15 = .ok (.aload_n 0, 1) := by decide +kernel
theorem dX2_setOffice_16 : decode cX2_setOffice 16 = .ok (.getfield 15, 3) := by decide +kernel
theorem dX2_setOffice_19 : decode cX2_setOffice 19 = .ok (.iload_n 1, 1) := by decide +kernel
theorem dX2_setOffice_20 : decode cX2_setOffice 20 = .ok (.iload_n 3, 1) := by decide +kernel
theorem dX2_setOffice_21 : decode cX2_setOffice 21 = .ok (.bastore, 1) := by decide +kernel
theorem dX2_setOffice_22 : decode cX2_setOffice 22 = .ok (.iload 4, 2) := by decide +kernel
theorem dX2_setOffice_24 : decode cX2_setOffice 24 = .ok (.ireturn, 1) := by decide +kernel
theorem dX2_addWay_0 : decode cX2_addWay 0 = .ok (.aload_n 0, 1) := by decide +kernel
theorem dX2_addWay_1 : decode cX2_addWay 1 = .ok (.getfield 22, 3) := by decide +kernel
theorem dX2_addWay_4 : decode cX2_addWay 4 = .ok (.aload_n 0, 1) := by decide +kernel
theorem dX2_addWay_5 : decode cX2_addWay 5 = .ok (.getfield 57, 3) := by decide +kernel
theorem dX2_addWay_8 : decode cX2_addWay 8 = .ok (.iload_n 1, 1) := by decide +kernel
theorem dX2_addWay_9 : decode cX2_addWay 9 = .ok (.iastore, 1) := by decide +kernel
theorem dX2_addWay_10 : decode cX2_addWay 10 = .ok (.aload_n 0, 1) := by decide +kernel
theorem dX2_addWay_11 : decode cX2_addWay 11 = .ok (.getfield 25, 3) := by decide +kernel
theorem dX2_addWay_14 : decode cX2_addWay 14 = .ok (.aload_n 0, 1) := by decide +kernel
theorem dX2_addWay_15 : decode cX2_addWay 15 = .ok (.getfield 57, 3) := by decide +kernel
theorem dX2_addWay_18 : decode cX2_addWay 18 = .ok (.iload_n 2, 1) := by decide +kernel
theorem dX2_addWay_19 : decode cX2_addWay 19 = .ok (.iastore, 1) := by decide +kernel
theorem dX2_addWay_20 : decode cX2_addWay 20 = .ok (.aload_n 0, 1) := by decide +kernel
theorem dX2_addWay_21 : decode cX2_addWay 21 = .ok (.getfield 28, 3) := by decide +kernel
theorem dX2_addWay_24 : decode cX2_addWay 24 = .ok (.aload_n 0, 1) := by decide +kernel
theorem dX2_addWay_25 : decode cX2_addWay 25 = .ok (.getfield 57, 3) := by decide +kernel
theorem dX2_addWay_28 : decode cX2_addWay 28 = .ok (.iload_n 3, 1) := by decide +kernel
theorem dX2_addWay_29 : decode cX2_addWay 29 = .ok (.iastore, 1) := by decide +kernel
theorem dX2_addWay_30 : decode cX2_addWay 30 = .ok (.aload_n 0, 1) := by decide +kernel
theorem dX2_addWay_31 : decode cX2_addWay 31 = .ok (.getfield 31, 3) := by decide +kernel
theorem dX2_addWay_34 : decode cX2_addWay 34 = .ok (.aload_n 0, 1) := by decide +kernel
theorem dX2_addWay_35 : decode cX2_addWay 35 = .ok (.getfield 57, 3) := by decide +kernel
theorem dX2_addWay_38 : decode cX2_addWay 38 = .ok (.iload 4, 2) := by decide +kernel
theorem dX2_addWay_40 : decode cX2_addWay 40 = .ok (.iastore, 1) := by decide +kernel
theorem dX2_addWay_41 : decode cX2_addWay 41 = .ok (.aload_n 0, 1) := by decide +kernel
theorem dX2_addWay_42 : decode cX2_addWay 42 = .ok (.getfield 34, 3) := by decide +kernel
theorem dX2_addWay_45 : decode cX2_addWay 45 = .ok (.aload_n 0, 1) := by decide +kernel
theorem dX2_addWay_46 : decode cX2_addWay 46 = .ok (.getfield 57, 3) := by decide +kernel
theorem dX2_addWay_49 : decode cX2_addWay 49 = .ok (.iload 5, 2) := by decide +kernel
theorem dX2_addWay_51 : decode cX2_addWay 51 = .ok (.iastore, 1) := by decide +kernel
theorem dX2_addWay_52 : decode cX2_addWay 52 = .ok (.aload_n 0, 1) := by decide +kernel
theorem dX2_addWay_53 : decode cX2_addWay 53 = .ok (.dup, 1) := by decide +kernel
theorem dX2_addWay_54 : decode cX2_addWay 54 = .ok (.getfield 57, 3) := by decide +kernel
theorem dX2_addWay_57 : decode cX2_addWay 57 = .ok (.iconst 1, 1) := by decide +kernel
theorem dX2_addWay_58 : decode cX2_addWay 58 = .ok (.iadd, 1) := by decide +kernel
theorem dX2_addWay_59 : decode cX2_addWay 59 = .ok (.putfield 57, 3) := by decide +kernel
theorem dX2_addWay_62 : decode cX2_addWay 62 = .ok (.aload_n 0, 1) := by decide +kernel
theorem dX2_addWay_63 : decode cX2_addWay 63 = .ok (.iload_n 1, 1) := by decide +kernel
theorem dX2_addWay_64 : decode cX2_addWay 64 = .ok (.iload_n 2, 1) := by decide +kernel
theorem dX2_addWay_65 : decode cX2_addWay 65 = .ok (.iload_n 3, 1) := by decide +kernel
theorem dX2_addWay_66 : decode cX2_addWay 66 = .ok (.invokevirtual 60, 3) := by decide +kernel
theorem dX2_addWay_69 : decode cX2_addWay 69 = .ok (.aload_n 0, 1) := by decide +kernel
theorem dX2_addWay_70 : decode cX2_addWay 70 = .ok (.getfield 57, 3) := by decide +kernel
theorem dX2_addWay_73 : decode cX2_addWay 73 = .ok (.iconst 1, 1) := by decide +kernel
theorem dX2_addWay_74 : decode cX2_addWay 74 = .ok (.isub, 1) := by decide +kernel
theorem dX2_addWay_75 : decode cX2_addWay 75 = .ok (.ireturn, 1) := by decide +kernel
theorem dX2_shorten_0 : decode cX2_shorten 0 = .ok (.iconst 0, 1) := by decide +kernel
theorem dX2_shorten_1 : decode cX2_shorten 1 = .ok (.istore 4, 2) := by decide +kernel
theorem dX2_shorten_3 : decode cX2_shorten 3 = .ok (.iload 4, 2) := by decide +kernel
theorem dX2_shorten_5 : decode cX2_shorten 5 = .ok (.aload_n 0, 1) := by decide +kernel
theorem dX2_shorten_6 : decode cX2_shorten 6 = .ok (.getfield 53, 3) := by decide +kernel
theorem dX2_shorten_9 : decode cX2_shorten 9 = .ok (.if_icmp .ge 102, 3) := by decide +kernel
theorem dX2_shorten_12 : decode cX2_shorten 12 = .ok (.iconst 0, 1) := by decide +kernel
theorem dX2_shorten_13 : decode cX2_shorten 13 = .ok (.istore 5, 2) := by decide +kernel
theorem dX2_shorten_15 : decode cX2_shorten 15 = .ok (.iload 5, 2) := by decide +kernel
theorem dX2_shorten_17 : decode cX2_shorten 17 = .ok (.aload_n 0, 1) := by decide +kernel
theorem dX2_shorten_18 : decode cX2_shorten 18 = .ok (.getfield 53, 3) := by decide +kernel
theorem dX2_shorten_21 : decode cX2_shorten 21 = .ok (.if_icmp .ge 84, 3) := by decide +kernel
theorem dX2_shorten_24 : decode cX2_shorten 24 = .ok (.aload_n 0, 1) := by decide +kernel
theorem dX2_shorten_25 : decode cX2_shorten 25 = .ok (.iload 4, 2) := by decide +kernel
theorem dX2_shorten_27 : decode cX2_shorten 27 = .ok (.iload_n 1, 1) := by decide +kernel
theorem dX2_shorten_28 : decode cX2_shorten 28 = .ok (.invokevirtual 64, 3) := by decide +kernel
theorem dX2_shorten_31 : decode cX2_shorten 31 = .ok (.iload_n 3, 1) := by decide +kernel
theorem dX2_shorten_32 : decode cX2_shorten 32 = .ok (.iadd, 1) := by decide +kernel
theorem dX2_shorten_33 : decode cX2_shorten 33 = .ok (.aload_n 0, 1) := by decide +kernel
theorem dX2_shorten_34 : decode cX2_shorten 34 = .ok (.iload_n 2, 1) := by decide +kernel
theorem dX2_shorten_35 : decode cX2_shorten 35 = .ok (.iload 5, 2) := by decide +kernel
theorem dX2_shorten_37 : decode cX2_shorten 37 = .ok (.invokevirtual 64, 3) := by decide +kernel
theorem dX2_shorten_40 : decode cX2_shorten 40 = .ok (.iadd, 1) := by decide +kernel
theorem dX2_shorten_41 : decode cX2_shorten 41 = .ok (.istore 6, 2) := by decide +kernel
theorem dX2_shorten_43 : decode cX2_shorten 43 = .ok (.aload_n 0, 1) := by decide +kernel
theorem dX2_shorten_44 : decode cX2_shorten 44 = .ok (.iload 4, 2) := by decide +kernel
theorem dX2_shorten_46 : decode cX2_shorten 46 = .ok (.iload_n 2, 1) := by decide +kernel
theorem dX2_shorten_47 : decode cX2_shorten 47 = .ok (.invokevirtual 64, 3) := by decide +kernel
theorem dX2_shorten_50 : decode cX2_shorten 50 = .ok (.iload_n 3, 1) := by decide +kernel
theorem dX2_shorten_51 : decode cX2_shorten 51 = .ok (.iadd, 1) := by decide +kernel
theorem dX2_shorten_52 : decode cX2_shorten 52 = .ok (.aload_n 0, 1) := by decide +kernel
theorem dX2_shorten_53 : decode cX2_shorten 53 = .ok (.iload_n 1, 1) := by decide +kernel
theorem dX2_shorten_54 : decode cX2_shorten 54 = .ok (.iload 5, 2) := by decide +kernel
theorem dX2_shorten_56 : decode cX2_shorten 56 = .ok (.invokevirtual 64, 3) := by decide +kernel
theorem dX2_shorten_59 : decode cX2_shorten 59 = .ok (.iadd, 1) := by decide +kernel
theorem dX2_shorten_60 : decode cX2_shorten 60 = .ok (.istore 7, 2) := by decide +kernel
theorem dX2_shorten_62 : decode cX2_shorten 62 = .ok (.iload 6, 2) := by decide +kernel
theorem dX2_shorten_64 : decode cX2_shorten 64 = .ok (.iload 7, 2) := by decide +kernel
theorem dX2_shorten_66 : decode cX2_shorten 66 = .ok (.invokestatic 68, 3) := by decide +kernel
theorem dX2_shorten_69 : decode cX2_shorten 69 = .ok (.istore 8, 2) := by decide +kernel
theorem dX2_shorten_71 : decode cX2_shorten 71 = .ok (.iload 8, 2) := by decide +kernel
theorem dX2_shorten_73 : decode cX2_shorten 73 = .ok (.aload_n 0, 1) := by decide +kernel
theorem dX2_shorten_74 : decode cX2_shorten 74 = .ok (.iload 4, 2) := by decide +kernel
theorem dX2_shorten_76 : decode cX2_shorten 76 = .ok (.iload 5, 2) := by decide +kernel
theorem dX2_shorten_78 : decode cX2_shorten 78 = .ok (.invokevirtual 64, 3) := by decide +kernel
theorem dX2_shorten_81 : decode cX2_shorten 81 = .ok (.if_icmp .ge 18, 3) := by decide +kernel
theorem dX2_shorten_84 : decode cX2_shorten 84 = .ok (.aload_n 0, 1) := by decide +kernel
theorem dX2_shorten_85 : decode cX2_shorten 85 = .ok (.getfield 19, 3) := by decide +kernel
theorem dX2_shorten_88 : decode cX2_shorten 88 = .ok (.iload 4, 2) := by decide +kernel
theorem dX2_shorten_90 : decode cX2_shorten 90 = .ok (.bipush 12, 2) := by decide +kernel
theorem dX2_shorten_92 : decode cX2_shorten 92 = .ok (.imul, 1) := by decide +kernel
theorem dX2_shorten_93 : decode cX2_shorten 93 = .ok (.iload 5, 2) := by decide +kernel
theorem dX2_shorten_95 : decode cX2_shorten 95 = .ok (.iadd, 1) := by decide +kernel
theorem dX2_shorten_96 : decode cX2_shorten 96 = .ok (.iload 8, 2) := by decide +kernel
theorem dX2_shorten_98 : decode cX2_shorten 98 = .ok (.iastore, 1) := by decide +kernel
theorem dX2_shorten_99 : decode cX2_shorten 99 = .ok (.iinc 5 1, 3) := by decide +kernel
theorem dX2_shorten_102 : decode cX2_shorten 102 = .ok (.goto (-87), 3) := by decide +kernel
theorem dX2_shorten_105 : decode cX2_shorten 105 = .ok (.iinc 4 1, 3) := by decide +kernel
theorem dX2_shorten_108 : decode cX2_shorten 108 = .ok (.goto (-105), 3) := by decide +kernel
theorem dX2_shorten_111 : decode cX2_shorten 111 = .ok (.return_, 1) := by decide +kernel
theorem dX2_addShut_0 : decode cX2_addShut 0 = .ok (.aload_n 0, 1) := by decide +kernel
theorem dX2_addShut_1 : decode cX2_addShut 1 = .ok (.getfield 37, 3) := by decide +kernel
theorem dX2_addShut_4 : decode cX2_addShut 4 = .ok (.aload_n 0, 1) := by decide +kernel
theorem dX2_addShut_5 : decode cX2_addShut 5 = .ok (.getfield 73, 3) := by decide +kernel
theorem dX2_addShut_8 : decode cX2_addShut 8 = .ok (.iload_n 1, 1) := by decide +kernel
theorem dX2_addShut_9 : decode cX2_addShut 9 = .ok (.iastore, 1) := by decide +kernel
theorem dX2_addShut_10 : decode cX2_addShut 10 = .ok (.aload_n 0, 1) := by decide +kernel
theorem dX2_addShut_11 : decode cX2_addShut 11 = .ok (.getfield 40, 3) := by decide +kernel
theorem dX2_addShut_14 : decode cX2_addShut 14 = .ok (.aload_n 0, 1) := by decide +kernel
theorem dX2_addShut_15 : decode cX2_addShut 15 = .ok (.getfield 73, 3) := by decide +kernel
theorem dX2_addShut_18 : decode cX2_addShut 18 = .ok (.iload_n 2, 1) := by decide +kernel
theorem dX2_addShut_19 : decode cX2_addShut 19 = .ok (.iastore, 1) := by decide +kernel
theorem dX2_addShut_20 : decode cX2_addShut 20 = .ok (.aload_n 0, 1) := by decide +kernel
theorem dX2_addShut_21 : decode cX2_addShut 21 = .ok (.getfield 43, 3) := by decide +kernel
theorem dX2_addShut_24 : decode cX2_addShut 24 = .ok (.aload_n 0, 1) := by decide +kernel
theorem dX2_addShut_25 : decode cX2_addShut 25 = .ok (.getfield 73, 3) := by decide +kernel
theorem dX2_addShut_28 : decode cX2_addShut 28 = .ok (.iload_n 3, 1) := by decide +kernel
theorem dX2_addShut_29 : decode cX2_addShut 29 = .ok (.iastore, 1) := by decide +kernel
theorem dX2_addShut_30 : decode cX2_addShut 30 = .ok (.aload_n 0, 1) := by decide +kernel
theorem dX2_addShut_31 : decode cX2_addShut 31 = .ok (.dup, 1) := by decide +kernel
theorem dX2_addShut_32 : decode cX2_addShut 32 = .ok (.getfield 73, 3) := by decide +kernel
theorem dX2_addShut_35 : decode cX2_addShut 35 = .ok (.iconst 1, 1) := by decide +kernel
theorem dX2_addShut_36 : decode cX2_addShut 36 = .ok (.iadd, 1) := by decide +kernel
theorem dX2_addShut_37 : decode cX2_addShut 37 = .ok (.putfield 73, 3) := by decide +kernel
theorem dX2_addShut_40 : decode cX2_addShut 40 = .ok (.aload_n 0, 1) := by decide +kernel
theorem dX2_addShut_41 : decode cX2_addShut 41 = .ok (.getfield 73, 3) := by decide +kernel
theorem dX2_addShut_44 : decode cX2_addShut 44 = .ok (.ireturn, 1) := by decide +kernel
theorem dX2_farBetween_0 : decode cX2_farBetween 0 = .ok (.aload_n 0, 1) := by decide +kernel
theorem dX2_farBetween_1 : decode cX2_farBetween 1 = .ok (.getfield 19, 3) := by decide +kernel
theorem dX2_farBetween_4 : decode cX2_farBetween 4 = .ok (.iload_n 1, 1) := by decide +kernel
theorem dX2_farBetween_5 : decode cX2_farBetween 5 = .ok (.bipush 12, 2) := by decide +kernel
theorem dX2_farBetween_7 : decode cX2_farBetween 7 = .ok (.imul, 1) := by decide +kernel
theorem dX2_farBetween_8 : decode cX2_farBetween 8 = .ok (.iload_n 2, 1) := by decide +kernel
theorem dX2_farBetween_9 : decode cX2_farBetween 9 = .ok (.iadd, 1) := by decide +kernel
theorem dX2_farBetween_10 : decode cX2_farBetween 10 = .ok (.iaload, 1) := by decide +kernel
theorem dX2_farBetween_11 : decode cX2_farBetween 11 = .ok (.ireturn, 1) := by decide +kernel
theorem dX2_lateAt_0 : decode cX2_lateAt 0 = .ok (.aload_n 0, 1) := by decide +kernel
theorem dX2_lateAt_1 : decode cX2_lateAt 1 = .ok (.getfield 15, 3) := by decide +kernel
theorem dX2_lateAt_4 : decode cX2_lateAt 4 = .ok (.iload_n 1, 1) := by decide +kernel
theorem dX2_lateAt_5 : decode cX2_lateAt 5 = .ok (.baload, 1) := by decide +kernel
theorem dX2_lateAt_6 : decode cX2_lateAt 6 = .ok (.ifCond .eq 7, 3) := by decide +kernel
theorem dX2_lateAt_9 : decode cX2_lateAt 9 = .ok (.iconst 0, 1) := by decide +kernel
theorem dX2_lateAt_10 : decode cX2_lateAt 10 = .ok (.goto 9, 3) := by decide +kernel
theorem dX2_lateAt_13 : decode cX2_lateAt 13 = .ok (.aload_n 0, 1) := by decide +kernel
theorem dX2_lateAt_14 : decode cX2_lateAt 14 = .ok (.iconst 0, 1) := by decide +kernel
theorem dX2_lateAt_15 : decode cX2_lateAt 15 = .ok (.iload_n 1, 1) := by decide +kernel
theorem dX2_lateAt_16 : decode cX2_lateAt 16 = .ok (.invokevirtual 64, 3) := by decide +kernel
theorem dX2_lateAt_19 : decode cX2_lateAt 19 = .ok (.ireturn, 1) := by decide +kernel
theorem dX2_leaves_0 : decode cX2_leaves 0 = .ok (.aload_n 0, 1) := by decide +kernel
theorem dX2_leaves_1 : decode cX2_leaves 1 = .ok (.getfield 34, 3) := by decide +kernel
theorem dX2_leaves_4 : decode cX2_leaves 4 = .ok (.iload_n 1, 1) := by decide +kernel
theorem dX2_leaves_5 : decode cX2_leaves 5 = .ok (.iaload, 1) := by decide +kernel
theorem dX2_leaves_6 : decode cX2_leaves 6 = .ok (.istore_n 3, 1) := by decide +kernel
theorem dX2_leaves_7 : decode cX2_leaves 7 = .ok (.iload_n 3, 1) := by decide +kernel
theorem dX2_leaves_8 : decode cX2_leaves 8 = .ok (.iconst 1, 1) := by decide +kernel
theorem dX2_leaves_9 : decode cX2_leaves 9 = .ok (.if_icmp .lt 26, 3) := by decide +kernel
theorem dX2_leaves_12 : decode cX2_leaves 12 = .ok (.iload_n 2, 1) := by decide +kernel
theorem dX2_leaves_13 : decode cX2_leaves 13 = .ok (.aload_n 0, 1) := by decide +kernel
theorem dX2_leaves_14 : decode cX2_leaves 14 = .ok (.getfield 31, 3) := by decide +kernel
theorem dX2_leaves_17 : decode cX2_leaves 17 = .ok (.iload_n 1, 1) := by decide +kernel
theorem dX2_leaves_18 : decode cX2_leaves 18 = .ok (.iaload, 1) := by decide +kernel
theorem dX2_leaves_19 : decode cX2_leaves 19 = .ok (.if_icmp .lt 16, 3) := by decide +kernel
theorem dX2_leaves_22 : decode cX2_leaves 22 = .ok (.iload_n 2, 1) := by decide +kernel
theorem dX2_leaves_23 : decode cX2_leaves 23 = .ok (.aload_n 0, 1) := by decide +kernel
theorem dX2_leaves_24 : decode cX2_leaves 24 = .ok (.getfield 31, 3) := by decide +kernel
theorem dX2_leaves_27 : decode cX2_leaves 27 = .ok (.iload_n 1, 1) := by decide +kernel
theorem dX2_leaves_28 : decode cX2_leaves 28 = .ok (.iaload, 1) := by decide +kernel
theorem dX2_leaves_29 : decode cX2_leaves 29 = .ok (.isub, 1) := by decide +kernel
theorem dX2_leaves_30 : decode cX2_leaves 30 = .ok (.iload_n 3, 1) := by decide +kernel
theorem dX2_leaves_31 : decode cX2_leaves 31 = .ok (.irem, 1) := by decide +kernel
theorem dX2_leaves_32 : decode cX2_leaves 32 = .ok (.ifCond .eq 5, 3) := by decide +kernel
theorem dX2_leaves_35 : decode cX2_leaves 35 = .ok (.iconst 0, 1) := by decide +kernel
theorem dX2_leaves_36 : decode cX2_leaves 36 = .ok (.ireturn, 1) := by decide +kernel
theorem dX2_leaves_37 : decode cX2_leaves 37 = .ok (.iconst 0, 1) := by decide +kernel
theorem dX2_leaves_38 : decode cX2_leaves 38 = .ok (.istore 4, 2) := by decide +kernel
theorem dX2_leaves_40 : decode cX2_leaves 40 = .ok (.iload 4, 2) := by decide +kernel
theorem dX2_leaves_42 : decode cX2_leaves 42 = .ok (.aload_n 0, 1) := by decide +kernel
theorem dX2_leaves_43 : decode cX2_leaves 43 = .ok (.getfield 73, 3) := by decide +kernel
theorem dX2_leaves_46 : decode cX2_leaves 46 = .ok (.if_icmp .ge 44, 3) := by decide +kernel
theorem dX2_leaves_49 : decode cX2_leaves 49 = .ok (.aload_n 0, 1) := by decide +kernel
theorem dX2_leaves_50 : decode cX2_leaves 50 = .ok (.getfield 37, 3) := by decide +kernel
theorem dX2_leaves_53 : decode cX2_leaves 53 = .ok (.iload 4, 2) := by decide +kernel
theorem dX2_leaves_55 : decode cX2_leaves 55 = .ok (.iaload, 1) := by decide +kernel
theorem dX2_leaves_56 : decode cX2_leaves 56 = .ok (.iload_n 1, 1) := by decide +kernel
theorem dX2_leaves_57 : decode cX2_leaves 57 = .ok (.if_icmp .ne 27, 3) := by decide +kernel
theorem dX2_leaves_60 : decode cX2_leaves 60 = .ok (.aload_n 0, 1) := by decide +kernel
theorem dX2_leaves_61 : decode cX2_leaves 61 = .ok (.getfield 40, 3) := by decide +kernel
theorem dX2_leaves_64 : decode cX2_leaves 64 = .ok (.iload 4, 2) := by decide +kernel
theorem dX2_leaves_66 : decode cX2_leaves 66 = .ok (.iaload, 1) := by decide +kernel
theorem dX2_leaves_67 : decode cX2_leaves 67 = .ok (.iload_n 2, 1) := by decide +kernel
theorem dX2_leaves_68 : decode cX2_leaves 68 = .ok (.if_icmp .gt 16, 3) := by decide +kernel
theorem dX2_leaves_71 : decode cX2_leaves 71 = .ok (.iload_n 2, 1) := by decide +kernel
theorem dX2_leaves_72 : decode cX2_leaves 72 = .ok (.aload_n 0, 1) := by decide +kernel
theorem dX2_leaves_73 : decode cX2_leaves 73 = .ok (.getfield 43, 3) := by decide +kernel
theorem dX2_leaves_76 : decode cX2_leaves 76 = .ok (.iload 4, 2) := by decide +kernel
theorem dX2_leaves_78 : decode cX2_leaves 78 = .ok (.iaload, 1) := by decide +kernel
theorem dX2_leaves_79 : decode cX2_leaves 79 = .ok (.if_icmp .gt 5, 3) := by decide +kernel
theorem dX2_leaves_82 : decode cX2_leaves 82 = .ok (.iconst 0, 1) := by decide +kernel
theorem dX2_leaves_83 : decode cX2_leaves 83 = .ok (.ireturn, 1) := by decide +kernel
theorem dX2_leaves_84 : decode cX2_leaves 84 = .ok (.iinc 4 1, 3) := by decide +kernel
theorem dX2_leaves_87 : decode cX2_leaves 87 = .ok (.goto (-47), 3) := by decide +kernel
theorem dX2_leaves_90 : decode cX2_leaves 90 = .ok (.iconst 1, 1) := by decide +kernel
theorem dX2_leaves_91 : decode cX2_leaves 91 = .ok (.ireturn, 1) := by decide +kernel
theorem dX2_wayTo_0 : decode cX2_wayTo 0 = .ok (.aload_n 0, 1) := by decide +kernel
theorem dX2_wayTo_1 : decode cX2_wayTo 1 = .ok (.iload_n 2, 1) := by decide +kernel
theorem dX2_wayTo_2 : decode cX2_wayTo 2 = .ok (.invokevirtual 76, 3) := by decide +kernel
theorem dX2_wayTo_5 : decode cX2_wayTo 5 = .ok (.ifCond .eq 19, 3) := by decide +kernel
theorem dX2_wayTo_8 : decode cX2_wayTo 8 = .ok (.iload_n 2, 1) := by decide +kernel
theorem dX2_wayTo_9 : decode cX2_wayTo 9 = .ok (.iload_n 1, 1) := by decide +kernel
theorem dX2_wayTo_10 : decode cX2_wayTo 10 = .ok (.if_icmp .eq 14, 3) := by decide +kernel
theorem dX2_wayTo_13 : decode cX2_wayTo 13 = .ok (.aload_n 0, 1) := by decide +kernel
theorem dX2_wayTo_14 : decode cX2_wayTo 14 = .ok (.iload_n 1, 1) := by decide +kernel
theorem dX2_wayTo_15 : decode cX2_wayTo 15 = .ok (.iload_n 2, 1) := by decide +kernel
theorem dX2_wayTo_16 : decode cX2_wayTo 16 = .ok (.invokevirtual 64, 3) := by decide +kernel
theorem dX2_wayTo_19 : decode cX2_wayTo 19 = .ok (.ldc 46, 2) := by decide +kernel
theorem dX2_wayTo_21 : decode cX2_wayTo 21 = .ok (.if_icmp .lt 6, 3) := by decide +kernel
theorem dX2_wayTo_24 : decode cX2_wayTo 24 = .ok (.bipush (-9), 2) := by decide +kernel
theorem dX2_wayTo_26 : decode cX2_wayTo 26 = .ok (.ireturn, 1) := by decide +kernel
theorem dX2_wayTo_27 : decode cX2_wayTo 27 = .ok (.iconst 0, 1) := by decide +kernel
theorem dX2_wayTo_28 : decode cX2_wayTo 28 = .ok (.istore_n 3, 1) := by decide +kernel
theorem dX2_wayTo_29 : decode cX2_wayTo 29 = .ok (.iload_n 3, 1) := by decide +kernel
theorem dX2_wayTo_30 : decode cX2_wayTo 30 = .ok (.aload_n 0, 1) := by decide +kernel
theorem dX2_wayTo_31 : decode cX2_wayTo 31 = .ok (.getfield 57, 3) := by decide +kernel
theorem dX2_wayTo_34 : decode cX2_wayTo 34 = .ok (.if_icmp .ge 58, 3) := by decide +kernel
theorem dX2_wayTo_37 : decode cX2_wayTo 37 = .ok (.aload_n 0, 1) := by decide +kernel
theorem dX2_wayTo_38 : decode cX2_wayTo 38 = .ok (.getfield 22, 3) := by decide +kernel
theorem dX2_wayTo_41 : decode cX2_wayTo 41 = .ok (.iload_n 3, 1) := by decide +kernel
theorem dX2_wayTo_42 : decode cX2_wayTo 42 = .ok (.iaload, 1) := by decide +kernel
theorem dX2_wayTo_43 : decode cX2_wayTo 43 = .ok (.iload_n 1, 1) := by decide +kernel
theorem dX2_wayTo_44 : decode cX2_wayTo 44 = .ok (.if_icmp .eq 13, 3) := by decide +kernel
theorem dX2_wayTo_47 : decode cX2_wayTo 47 = .ok (.aload_n 0, 1) := by decide +kernel
theorem dX2_wayTo_48 : decode cX2_wayTo 48 = .ok (.getfield 25, 3) := by decide +kernel
theorem dX2_wayTo_51 : decode cX2_wayTo 51 = .ok (.iload_n 3, 1) := by decide +kernel
theorem dX2_wayTo_52 : decode cX2_wayTo 52 = .ok (.iaload, 1) := by decide +kernel
theorem dX2_wayTo_53 : decode cX2_wayTo 53 = .ok (.iload_n 1, 1) := by decide +kernel
theorem dX2_wayTo_54 : decode cX2_wayTo 54 = .ok (.if_icmp .ne 32, 3) := by decide +kernel
theorem dX2_wayTo_57 : decode cX2_wayTo 57 = .ok (.aload_n 0, 1) := by decide +kernel
theorem dX2_wayTo_58 : decode cX2_wayTo 58 = .ok (.getfield 28, 3) := by decide +kernel
theorem dX2_wayTo_61 : decode cX2_wayTo 61 = .ok (.iload_n 3, 1) := by decide +kernel
theorem dX2_wayTo_62 : decode cX2_wayTo 62 = .ok (.iaload, 1) := by decide +kernel
theorem dX2_wayTo_63 : decode cX2_wayTo 63 = .ok (.aload_n 0, 1) := by decide +kernel
theorem dX2_wayTo_64 : decode cX2_wayTo 64 = .ok (.aload_n 0, 1) := by decide +kernel
theorem dX2_wayTo_65 : decode cX2_wayTo 65 = .ok (.iload_n 3, 1) := by decide +kernel
theorem dX2_wayTo_66 : decode cX2_wayTo 66 = .ok (.iload_n 1, 1) := by decide +kernel
theorem dX2_wayTo_67 : decode cX2_wayTo 67 = .ok (.invokevirtual 80, 3) := by decide +kernel
theorem dX2_wayTo_70 : decode cX2_wayTo 70 = .ok (.iload_n 2, 1) := by decide +kernel
theorem dX2_wayTo_71 : decode cX2_wayTo 71 = .ok (.invokevirtual 64, 3) := by decide +kernel
theorem dX2_wayTo_74 : decode cX2_wayTo 74 = .ok (.iadd, 1) := by decide +kernel
theorem dX2_wayTo_75 : decode cX2_wayTo 75 = .ok (.aload_n 0, 1) := by decide +kernel
theorem dX2_wayTo_76 : decode cX2_wayTo 76 = .ok (.iload_n 1, 1) := by decide +kernel
theorem dX2_wayTo_77 : decode cX2_wayTo 77 = .ok (.iload_n 2, 1) := by decide +kernel
theorem dX2_wayTo_78 : decode cX2_wayTo 78 = .ok (.invokevirtual 64, 3) := by decide +kernel
theorem dX2_wayTo_81 : decode cX2_wayTo 81 = .ok (.if_icmp .ne 5, 3) := by decide +kernel
theorem dX2_wayTo_84 : decode cX2_wayTo 84 = .ok (.iload_n 3, 1) := by decide +kernel
theorem dX2_wayTo_85 : decode cX2_wayTo 85 = .ok (.ireturn, 1) := by decide +kernel
theorem dX2_wayTo_86 : decode cX2_wayTo 86 = .ok (.iinc 3 1, 3) := by decide +kernel
theorem dX2_wayTo_89 : decode cX2_wayTo 89 = .ok (.goto (-60), 3) := by decide +kernel
theorem dX2_wayTo_92 : decode cX2_wayTo 92 = .ok (.bipush (-9), 2) := by decide +kernel
theorem dX2_wayTo_94 : decode cX2_wayTo 94 = .ok (.ireturn, 1) := by decide +kernel
theorem dX2_otherEnd_0 : decode cX2_otherEnd 0 = .ok (.aload_n 0, 1) := by decide +kernel
theorem dX2_otherEnd_1 : decode cX2_otherEnd 1 = .ok (.getfield 22, 3) := by decide +kernel
theorem dX2_otherEnd_4 : decode cX2_otherEnd 4 = .ok (.iload_n 1, 1) := by decide +kernel
theorem dX2_otherEnd_5 : decode cX2_otherEnd 5 = .ok (.iaload, 1) := by decide +kernel
theorem dX2_otherEnd_6 : decode cX2_otherEnd 6 = .ok (.iload_n 2, 1) := by decide +kernel
theorem dX2_otherEnd_7 : decode cX2_otherEnd 7 = .ok (.if_icmp .ne 12, 3) := by decide +kernel
theorem dX2_otherEnd_10 : decode cX2_otherEnd 10 = .ok (.aload_n 0, 1) := by decide +kernel
theorem dX2_otherEnd_11 : decode cX2_otherEnd 11 = .ok (.getfield 25, 3) := by decide +kernel
theorem dX2_otherEnd_14 : decode cX2_otherEnd 14 = .ok (.iload_n 1, 1) := by decide +kernel
theorem dX2_otherEnd_15 : decode cX2_otherEnd 15 = .ok (.iaload, 1) := by decide +kernel
theorem dX2_otherEnd_16 : decode cX2_otherEnd 16 = .ok (.goto 9, 3) := by decide +kernel
theorem dX2_otherEnd_19 : decode cX2_otherEnd 19 = .ok (.aload_n 0, 1) := by decide +kernel
theorem dX2_otherEnd_20 : decode cX2_otherEnd 20 = .ok (.getfield 22, 3) := by decide +kernel
theorem dX2_otherEnd_23 : decode cX2_otherEnd 23 = .ok (.iload_n 1, 1) := by decide +kernel
theorem dX2_otherEnd_24 : decode cX2_otherEnd 24 = .ok (.iaload, 1) := by decide +kernel
theorem dX2_otherEnd_25 : decode cX2_otherEnd 25 = .ok (.ireturn, 1) := by decide +kernel
theorem dX3_init_0 : decode cX3_init 0 = .ok (.aload_n 0, 1) := by decide +kernel
theorem dX3_init_1 : decode cX3_init 1 = .ok (.invokespecial 3, 3) := by decide +kernel
theorem dX3_init_4 : decode cX3_init 4 = .ok (.aload_n 0, 1) := by decide +kernel
theorem dX3_init_5 : decode cX3_init 5 = .ok (.new 9, 3) := by decide +kernel
theorem dX3_init_8 : decode cX3_init 8 = .ok (.dup, 1) := by decide +kernel
theorem dX3_init_9 : decode cX3_init 9 = .ok (.invokespecial 11, 3) := by decide +kernel
theorem dX3_init_12 : decode cX3_init 12 = .ok (.putfield 12, 3) := by decide +kernel
theorem dX3_init_15 : decode cX3_init 15 = .ok (.aload_n 0, 1) := by decide +kernel
theorem dX3_init_16 : decode cX3_init 16 = .ok (.bipush 30, 2) := by decide +kernel
theorem dX3_init_18 : decode cX3_init 18 = .ok (.newarray .int, 2) := by decide +kernel
theorem dX3_init_20 : decode cX3_init 20 = .ok (.putfield 18, 3) := by decide +kernel
theorem dX3_init_23 : decode cX3_init 23 = .ok (.aload_n 0, 1) := by decide +kernel
theorem dX3_init_24 : decode cX3_init 24 = .ok (.bipush 30, 2) := by decide +kernel
theorem dX3_init_26 : decode cX3_init 26 = .ok (.newarray .int, 2) := by decide +kernel
theorem dX3_init_28 : decode cX3_init 28 = .ok (.putfield 22, 3) := by decide +kernel
theorem dX3_init_31 : decode cX3_init 31 = .ok (.aload_n 0, 1) := by decide +kernel
theorem dX3_init_32 : decode cX3_init 32 = .ok (.bipush 30, 2) := by decide +kernel
theorem dX3_init_34 : decode cX3_init 34 = .ok (.newarray .int, 2) := by decide +kernel
theorem dX3_init_36 : decode cX3_init 36 = .ok (.putfield 25, 3) := by decide +kernel
theorem dX3_init_39 : decode cX3_init 39 = .ok (.aload_n 0, 1) := by decide +kernel
theorem dX3_init_40 : decode cX3_init 40 = .ok (.sipush 1800, 3) := by decide +kernel
theorem dX3_init_43 : decode cX3_init 43 = .ok (.newarray .int, 2) := by decide +kernel
theorem dX3_init_45 : decode cX3_init 45 = .ok (.putfield 28, 3) := by decide +kernel
theorem dX3_init_48 : decode cX3_init 48 = .ok (.return_, 1) := by decide +kernel
theorem dX3_addBytes_0 : decode cX3_addBytes 0 = .ok (.iconst 0, 1) := by decide +kernel
theorem dX3_addBytes_1 : decode cX3_addBytes 1 = .ok (.istore 4, 2) := by decide +kernel
theorem dX3_addBytes_3 : decode cX3_addBytes 3 = .ok (.iload 4, 2) := by decide +kernel
theorem dX3_addBytes_5 : decode cX3_addBytes 5 = .ok (.iload_n 1, 1) := by decide +kernel
theorem dX3_addBytes_6 : decode cX3_addBytes 6 = .ok (.if_icmp .ge 40, 3) := by decide +kernel
theorem dX3_addBytes_9 : decode cX3_addBytes 9 = .ok (.aload_n 0, 1) := by decide +kernel
theorem dX3_addBytes_10 : decode cX3_addBytes 10 = .ok (.getfield 12, 3) := by decide +kernel
theorem dX3_addBytes_13 : decode cX3_addBytes 13 = .ok (.getfield 31, 3) := by decide +kernel
theorem dX3_addBytes_16 : decode cX3_addBytes 16 = .ok (.aload_n 0, 1) := by decide +kernel
theorem dX3_addBytes_17 : decode cX3_addBytes 17 = .ok (.getfield 35, 3) := by decide +kernel
theorem dX3_addBytes_20 : decode cX3_addBytes 20 = .ok (.lload_n 2, 1) := by decide +kernel
theorem dX3_addBytes_21 : decode cX3_addBytes 21 = .ok (.bipush 8, 2) := by decide +kernel
theorem dX3_addBytes_23 : decode cX3_addBytes 23 = .ok (.iload 4, 2) := by decide +kernel
theorem dX3_addBytes_25 : decode cX3_addBytes 25 = .ok (.imul, 1) := by decide +kernel
theorem dX3_addBytes_26 : decode cX3_addBytes 26 = .ok (.lshr, 1) := by decide +kernel
theorem dX3_addBytes_27 : decode cX3_addBytes 27 = .ok (.l2i, 1) := by decide +kernel
theorem dX3_addBytes_28 : decode cX3_addBytes 28 = .ok (.i2b, 1) := by decide +kernel
theorem dX3_addBytes_29 : decode cX3_addBytes 29 = .ok (.bastore, 1) := by decide +kernel
theorem dX3_addBytes_30 : decode cX3_addBytes 30 = .ok (.aload_n 0, 1) := by decide +kernel
theorem dX3_addBytes_31 : decode cX3_addBytes 31 = .ok (.dup, 1) := by decide +kernel
theorem dX3_addBytes_32 : decode cX3_addBytes 32 = .ok (.getfield 35, 3) := by decide +kernel
theorem dX3_addBytes_35 : decode cX3_addBytes 35 = .ok (.iconst 1, 1) := by decide +kernel
theorem dX3_addBytes_36 : decode cX3_addBytes 36 = .ok (.iadd, 1) := by decide +kernel
theorem dX3_addBytes_37 : decode cX3_addBytes 37 = .ok (.putfield 35, 3) := by decide +kernel
theorem dX3_addBytes_40 : decode cX3_addBytes 40 = .ok (.iinc 4 1, 3) := by decide +kernel
theorem dX3_addBytes_43 : decode cX3_addBytes 43 = .ok (.goto (-40), 3) := by decide +kernel
theorem dX3_addBytes_46 : decode cX3_addBytes 46 = .ok (.aload_n 0, 1) := by decide +kernel
theorem dX3_addBytes_47 : decode cX3_addBytes 47 = .ok (.getfield 35, 3) := by decide +kernel
theorem dX3_addBytes_50 : decode cX3_addBytes 50 = .ok (.ireturn, 1) := by decide +kernel
theorem dX3_addOrder_0 : decode cX3_addOrder 0 = .ok (.aload_n 0, 1) := by decide +kernel
theorem dX3_addOrder_1 : decode cX3_addOrder 1 = .ok (.getfield 12, 3) := by decide +kernel
theorem dX3_addOrder_4 : decode cX3_addOrder 4 = .ok (.aload_n 0, 1) := by decide +kernel
theorem dX3_addOrder_5 : decode cX3_addOrder 5 = .ok (.getfield 35, 3) := by decide +kernel
theorem dX3_addOrder_8 : decode cX3_addOrder 8 = .ok (.invokevirtual 39, 3) := by decide +kernel
theorem dX3_addOrder_11 : decode cX3_addOrder 11 = .ok (.istore_n 3, 1) := by decide +kernel
theorem dX3_addOrder_12 : decode cX3_addOrder 12 = .ok (.aload_n 0, 1) := by decide +kernel
theorem dX3_addOrder_13 : decode cX3_addOrder 13 = .ok (.iconst 0, 1) := by decide +kernel
theorem dX3_addOrder_14 : decode cX3_addOrder 14 = .ok (.putfield 35, 3) := by decide +kernel
theorem dX3_addOrder_17 : decode cX3_addOrder 17 = .ok (.iload_n 3, 1) := by decide +kernel
theorem dX3_addOrder_18 : decode cX3_addOrder 18 = .ok (.ifCond .ge 78, 3) := by decide +kernel
theorem dX3_addOrder_21 : decode cX3_addOrder 21 = .ok (.aload_n 0, 1) := by decide +kernel
theorem dX3_addOrder_22 : decode cX3_addOrder 22 = .ok (.getfield 18, 3) := by decide +kernel
theorem dX3_addOrder_25 : decode cX3_addOrder 25 = .ok (.aload_n 0, 1) := by decide +kernel
theorem dX3_addOrder_26 : decode cX3_addOrder 26 = .ok (.getfield 43, 3) := by decide +kernel
theorem dX3_addOrder_29 : decode cX3_addOrder 29 = .ok (.iload_n 1, 1) := by decide +kernel
theorem dX3_addOrder_30 : decode cX3_addOrder 30 = .ok (.iastore, 1) := by decide +kernel
theorem dX3_addOrder_31 : decode cX3_addOrder 31 = .ok (.aload_n 0, 1) := by decide +kernel
theorem dX3_addOrder_32 : decode cX3_addOrder 32 = .ok (.getfield 22, 3) := by decide +kernel
theorem dX3_addOrder_35 : decode cX3_addOrder 35 = .ok (.aload_n 0, 1) := by decide +kernel
theorem dX3_addOrder_36 : decode cX3_addOrder 36 = .ok (.getfield 43, 3) := by decide +kernel
theorem dX3_addOrder_39 : decode cX3_addOrder 39 = .ok (.iload_n 2, 1) := by decide +kernel
theorem dX3_addOrder_40 : decode cX3_addOrder 40 = .ok (.iastore, 1) := by decide +kernel
theorem dX3_addOrder_41 : decode cX3_addOrder 41 = .ok (.aload_n 0, 1) := by decide +kernel
theorem dX3_addOrder_42 : decode cX3_addOrder 42 = .ok (.getfield 25, 3) := by decide +kernel
theorem dX3_addOrder_45 : decode cX3_addOrder 45 = .ok (.aload_n 0, 1) := by decide +kernel
theorem dX3_addOrder_46 : decode cX3_addOrder 46 = .ok (.getfield 43, 3) := by decide +kernel
theorem dX3_addOrder_49 : decode cX3_addOrder 49 = .ok (.aload_n 0, 1) := by decide +kernel
theorem dX3_addOrder_50 : decode cX3_addOrder 50 = .ok (.getfield 12, 3) := by decide +kernel
theorem dX3_addOrder_53 : decode cX3_addOrder 53 = .ok (.getfield 46, 3) := by decide +kernel
theorem dX3_addOrder_56 : decode cX3_addOrder 56 = .ok (.iastore, 1) := by decide +kernel
theorem dX3_addOrder_57 : decode cX3_addOrder 57 = .ok (.aload_n 0, 1) := by decide +kernel
theorem dX3_addOrder_58 : decode cX3_addOrder 58 = .ok (.getfield 12, 3) := by decide +kernel
theorem dX3_addOrder_61 : decode cX3_addOrder 61 = .ok (.getfield 49, 3) := by decide +kernel
theorem dX3_addOrder_64 : decode cX3_addOrder 64 = .ok (.iconst 0, 1) := by decide +kernel
theorem dX3_addOrder_65 : decode cX3_addOrder 65 = .ok (.aload_n 0, 1) := by decide +kernel
theorem dX3_addOrder_66 : decode cX3_addOrder 66 = .ok (.getfield 28, 3) := by decide +kernel
theorem dX3_addOrder_69 : decode cX3_addOrder 69 = .ok (.aload_n 0, 1) := by decide +kernel
theorem dX3_addOrder_70 : decode cX3_addOrder 70 = .ok (.getfield 43, 3) := by decide +kernel
theorem dX3_addOrder_73 : decode cX3_addOrder 73 = .ok (.bipush 60, 2) := by decide +kernel
theorem dX3_addOrder_75 : decode cX3_addOrder 75 = .ok (.imul, 1) := by decide +kernel
theorem dX3_addOrder_76 : decode cX3_addOrder 76 = .ok (.aload_n 0, 1) := by decide +kernel
theorem dX3_addOrder_77 : decode cX3_addOrder 77 = .ok (.getfield 12, 3) := by decide +kernel
theorem dX3_addOrder_80 : decode cX3_addOrder 80 = .ok (.getfield 46, 3) := by decide +kernel
theorem dX3_addOrder_83 : decode cX3_addOrder 83 = .ok (.invokestatic 50, 3) := by decide +kernel
theorem dX3_addOrder_86 : decode cX3_addOrder 86 = .ok (.aload_n 0, 1) := by decide +kernel
theorem dX3_addOrder_87 : decode cX3_addOrder 87 = .ok (.dup, 1) := by decide +kernel
theorem dX3_addOrder_88 : decode cX3_addOrder 88 = .ok (.getfield 43, 3) := by decide +kernel
theorem dX3_addOrder_91 : decode cX3_addOrder 91 = .ok (.iconst 1, 1) := by decide +kernel
theorem dX3_addOrder_92 : decode cX3_addOrder 92 = .ok (.iadd, 1) := by decide +kernel
theorem dX3_addOrder_93 : decode cX3_addOrder 93 = .ok (.putfield 43, 3) := by decide +kernel
theorem dX3_addOrder_96 : decode cX3_addOrder 96 = .ok (.iload_n 3, 1) := by decide +kernel
theorem dX3_addOrder_97 : decode cX3_addOrder 97 = .ok (.ireturn, 1) := by decide +kernel
theorem dX3_inForce_0 : decode cX3_inForce 0 = .ok (.aload_n 0, 1) := by decide +kernel
theorem dX3_inForce_1 : decode cX3_inForce 1 = .ok (.getfield 43, 3) := by decide +kernel
theorem dX3_inForce_4 : decode cX3_inForce 4 = .ok (.iconst 1, 1) := by decide +kernel
theorem dX3_inForce_5 : decode cX3_inForce 5 = .ok (.isub, 1) := by decide +kernel
theorem dX3_inForce_6 : decode cX3_inForce 6 = .ok (.istore 4, 2) := by decide +kernel
theorem dX3_inForce_8 : decode cX3_inForce 8 = .ok (.iload 4, 2) := by decide +kernel
theorem dX3_inForce_10 : decode cX3_inForce 10 = .ok (.ifCond .lt 36, 3) := by decide +kernel
theorem dX3_inForce_13 : decode cX3_inForce 13 = .ok (.aload_n 0, 1) := by decide +kernel
theorem dX3_inForce_14 : decode cX3_inForce 14 = .ok (.getfield 18, 3) := by decide +kernel
theorem dX3_inForce_17 : decode cX3_inForce 17 = .ok (.iload 4, 2) := by decide +kernel
theorem dX3_inForce_19 : decode cX3_inForce 19 = .ok (.iaload, 1) := by decide +kernel
theorem dX3_inForce_20 : decode cX3_inForce 20 = .ok (.iload_n 1, 1) := by decide +kernel
theorem dX3_inForce_21 : decode cX3_inForce 21 = .ok (.if_icmp .ne 19, 3) := by decide +kernel
theorem dX3_inForce_24 : decode cX3_inForce 24 = .ok (.aload_n 0, 1) := by decide +kernel
theorem dX3_inForce_25 : decode cX3_inForce 25 = .ok (.getfield 22, 3) := by decide +kernel
theorem dX3_inForce_28 : decode cX3_inForce 28 = .ok (.iload 4, 2) := by decide +kernel
theorem dX3_inForce_30 : decode cX3_inForce 30 = .ok (.iaload, 1) := by decide +kernel
theorem dX3_inForce_31 : decode cX3_inForce 31 = .ok (.iload_n 3, 1) := by decide +kernel
theorem dX3_inForce_32 : decode cX3_inForce 32 = .ok (.iadd, 1) := by decide +kernel
theorem dX3_inForce_33 : decode cX3_inForce 33 = .ok (.iload_n 2, 1) := by decide +kernel
theorem dX3_inForce_34 : decode cX3_inForce 34 = .ok (.if_icmp .gt 6, 3) := by decide +kernel
theorem dX3_inForce_37 : decode cX3_inForce 37 = .ok (.iload 4, 2) := by decide +kernel
theorem dX3_inForce_39 : decode cX3_inForce 39 = .ok (.ireturn, 1) := by decide +kernel
theorem dX3_inForce_40 : decode cX3_inForce 40 = .ok (.iinc 4 (-1), 3) := by decide +kernel
theorem dX3_inForce_43 : decode cX3_inForce 43 = .ok (.goto (-35), 3) := by decide +kernel
theorem dX3_inForce_46 : decode cX3_inForce 46 = .ok (.iconst (-1), 1) := by decide +kernel
theorem dX3_inForce_47 : decode cX3_inForce 47 = .ok (.ireturn, 1) := by decide +kernel
theorem dX3_isTrue_0 : decode cX3_isTrue 0 = .ok (.iconst 0, 1) := by decide +kernel
theorem dX3_isTrue_1 : decode cX3_isTrue 1 = .ok (.istore_n 3, 1) := by decide +kernel
theorem dX3_isTrue_2 : decode cX3_isTrue 2 = .ok (.iload_n 1, 1) := by decide +kernel
theorem dX3_isTrue_3 : decode cX3_isTrue 3 = .ok (.bipush 60, 2) := by decide +kernel
theorem dX3_isTrue_5 : decode cX3_isTrue 5 = .ok (.imul, 1) := by decide +kernel
theorem dX3_isTrue_6 : decode cX3_isTrue 6 = .ok (.istore 4, 2) := by decide +kernel
theorem dX3_isTrue_8 : decode cX3_isTrue 8 = .ok (.iconst 0, 1) := by decide +kernel
theorem dX3_isTrue_9 : decode cX3_isTrue 9 = .ok (.istore 5, 2) := by decide +kernel
theorem dX3_isTrue_11 : decode cX3_isTrue 11 = .ok (.iload 5, 2) := by decide +kernel
theorem dX3_isTrue_13 : decode cX3_isTrue 13 = .ok (.aload_n 0, 1) := by decide +kernel
theorem dX3_isTrue_14 : decode cX3_isTrue 14 = .ok (.getfield 25, 3) := by decide +kernel
theorem dX3_isTrue_17 : decode cX3_isTrue 17 = .ok (.iload_n 1, 1) := by decide +kernel
theorem dX3_isTrue_18 : decode cX3_isTrue 18 = .ok (.iaload, 1) := by decide +kernel
theorem dX3_isTrue_19 : decode cX3_isTrue 19 = .ok (.if_icmp .ge 104, 3) := by decide +kernel
theorem dX3_isTrue_22 : decode cX3_isTrue 22 = .ok (.aload_n 0, 1) := by decide +kernel
theorem dX3_isTrue_23 : decode cX3_isTrue 23 = .ok (.getfield 28, 3) := by decide +kernel
theorem dX3_isTrue_26 : decode cX3_isTrue 26 = .ok (.iload 4, 2) := by decide +kernel
theorem dX3_isTrue_28 : decode cX3_isTrue 28 = .ok (.iload 5, 2) := by decide +kernel
theorem dX3_isTrue_30 : decode cX3_isTrue 30 = .ok (.iadd, 1) := by decide +kernel
theorem dX3_isTrue_31 : decode cX3_isTrue 31 = .ok (.iaload, 1) := by decide +kernel
theorem dX3_isTrue_32 : decode cX3_isTrue 32 = .ok (.istore 6, 2) := by decide +kernel
theorem dX3_isTrue_34 : decode cX3_isTrue 34 = .ok (.iload_n 3, 1) := by decide +kernel
theorem dX3_isTrue_35 : decode cX3_isTrue 35 = .ok (.iconst 1, 1) := by decide +kernel
theorem dX3_isTrue_36 : decode cX3_isTrue 36 = .ok (.iand, 1) := by decide +kernel
theorem dX3_isTrue_37 : decode cX3_isTrue 37 = .ok (.istore 7, 2) := by decide +kernel
theorem dX3_isTrue_39 : decode cX3_isTrue 39 = .ok (.iload 6, 2) := by decide +kernel
theorem dX3_isTrue_41 : decode cX3_isTrue 41 = .ok (.iconst (-1), 1) := by decide +kernel
theorem dX3_isTrue_42 : decode cX3_isTrue 42 = .ok (.if_icmp .ne 10, 3) := by decide +kernel
theorem dX3_isTrue_45 : decode cX3_isTrue 45 = .ok (.iload_n 3, 1) := by decide +kernel
theorem dX3_isTrue_46 : decode cX3_isTrue 46 = .ok (.iconst 1, 1) := by decide +kernel
theorem dX3_isTrue_47 : decode cX3_isTrue 47 = .ok (.ixor, 1) := by decide +kernel
theorem dX3_isTrue_48 : decode cX3_isTrue 48 = .ok (.istore_n 3, 1) := by decide +kernel
theorem dX3_isTrue_49 : decode cX3_isTrue 49 = .ok (.goto 68, 3) := by decide +kernel
theorem dX3_isTrue_52 : decode cX3_isTrue 52 = .ok (.iload 6, 2) := by decide +kernel
theorem dX3_isTrue_54 : decode cX3_isTrue 54 = .ok (.bipush (-2), 2) := by decide +kernel
theorem dX3_isTrue_56 : decode cX3_isTrue 56 = .ok (.if_icmp .ne 25, 3) := by decide +kernel
theorem dX3_isTrue_59 : decode cX3_isTrue 59 = .ok (.iload 7, 2) := by decide +kernel
theorem dX3_isTrue_61 : decode cX3_isTrue 61 = .ok (.iconst 1, 1) := by decide +kernel
theorem dX3_isTrue_62 : decode cX3_isTrue 62 = .ok (.if_icmp .ne 9, 3) := by decide +kernel
theorem dX3_isTrue_65 : decode cX3_isTrue 65 = .ok (.iload_n 3, 1) := by decide +kernel
theorem dX3_isTrue_66 : decode cX3_isTrue 66 = .ok (.iconst 1, 1) := by decide +kernel
theorem dX3_isTrue_67 : decode cX3_isTrue 67 = .ok (.ishr, 1) := by decide +kernel
theorem dX3_isTrue_68 : decode cX3_isTrue 68 = .ok (.goto 9, 3) := by decide +kernel
theorem dX3_isTrue_71 : decode cX3_isTrue 71 = .ok (.iload_n 3, 1) := by decide +kernel
theorem dX3_isTrue_72 : decode cX3_isTrue 72 = .ok (.iconst 1, 1) := by decide +kernel
theorem dX3_isTrue_73 : decode cX3_isTrue 73 = .ok (.ishr, 1) := by decide +kernel
theorem dX3_isTrue_74 : decode cX3_isTrue 74 = .ok (.bipush (-2), 2) := by decide +kernel
theorem dX3_isTrue_76 : decode cX3_isTrue 76 = .ok (.iand, 1) := by decide +kernel
theorem dX3_isTrue_77 : decode cX3_isTrue 77 = .ok (.istore_n 3, 1) := by decide +kernel
theorem dX3_isTrue_78 : decode cX3_isTrue 78 = .ok (.goto 39, 3) := by decide +kernel
theorem dX3_isTrue_81 : decode cX3_isTrue 81 = .ok (.iload 6, 2) := by decide +kernel
theorem dX3_isTrue_83 : decode cX3_isTrue 83 = .ok (.bipush (-3), 2) := by decide +kernel
theorem dX3_isTrue_85 : decode cX3_isTrue 85 = .ok (.if_icmp .ne 13, 3) := by decide +kernel
theorem dX3_isTrue_88 : decode cX3_isTrue 88 = .ok (.iload_n 3, 1) := by decide +kernel
theorem dX3_isTrue_89 : decode cX3_isTrue 89 = .ok (.iconst 1, 1) := by decide +kernel
theorem dX3_isTrue_90 : decode cX3_isTrue 90 = .ok (.ishr, 1) := by decide +kernel
theorem dX3_isTrue_91 : decode cX3_isTrue 91 = .ok (.iload 7, 2) := by decide +kernel
theorem dX3_isTrue_93 : decode cX3_isTrue 93 = .ok (.ior, 1) := by decide +kernel
theorem dX3_isTrue_94 : decode cX3_isTrue 94 = .ok (.istore_n 3, 1) := by decide +kernel
theorem dX3_isTrue_95 : decode cX3_isTrue 95 = .ok (.goto 22, 3) := by decide +kernel
theorem dX3_isTrue_98 : decode cX3_isTrue 98 = .ok (.iload_n 3, 1) := by decide +kernel
theorem dX3_isTrue_99 : decode cX3_isTrue 99 = .ok (.iconst 1, 1) := by decide +kernel
theorem dX3_isTrue_100 : decode cX3_isTrue 100 = .ok (.ishl, 1) := by decide +kernel
theorem dX3_isTrue_101 : decode cX3_isTrue 101 = .ok (.iload 6, 2) := by decide +kernel
theorem dX3_isTrue_103 : decode cX3_isTrue 103 = .ok (.aload_n 2, 1) := by decide +kernel
theorem dX3_isTrue_104 : decode cX3_isTrue 104 = .ok (.invokestatic 56, 3) := by decide +kernel
theorem dX3_isTrue_107 : decode cX3_isTrue 107 = .ok (.ifCond .eq 7, 3) := by decide +kernel
theorem dX3_isTrue_110 : decode cX3_isTrue 110 = .ok (.iconst 1, 1) := by decide +kernel
theorem dX3_isTrue_111 : decode cX3_isTrue 111 = .ok (.goto 4, 3) := by decide +kernel
theorem dX3_isTrue_114 : decode cX3_isTrue 114 = .ok (.iconst 0, 1) := by decide +kernel
theorem dX3_isTrue_115 : decode cX3_isTrue 115 = .ok (.ior, 1) := by decide +kernel
theorem dX3_isTrue_116 : decode cX3_isTrue 116 = .ok (.istore_n 3, 1) := by decide +kernel
theorem dX3_isTrue_117 : decode cX3_isTrue 117 = .ok (.iinc 5 1, 3) := by decide +kernel
theorem dX3_isTrue_120 : decode cX3_isTrue 120 = .ok (.goto (-109), 3) := by decide +kernel
theorem dX3_isTrue_123 : decode cX3_isTrue 123 = .ok (.iload_n 3, 1) := by decide +kernel
theorem dX3_isTrue_124 : decode cX3_isTrue 124 = .ok (.iconst 1, 1) := by decide +kernel
theorem dX3_isTrue_125 : decode cX3_isTrue 125 = .ok (.iand, 1) := by decide +kernel
theorem dX3_isTrue_126 : decode cX3_isTrue 126 = .ok (.iconst 1, 1) := by decide +kernel
theorem dX3_isTrue_127 : decode cX3_isTrue 127 = .ok (.if_icmp .ne 7, 3) := by decide +kernel
theorem dX3_isTrue_130 : decode cX3_isTrue 130 = .ok (.iconst 1, 1) := by decide +kernel
theorem dX3_isTrue_131 : decode cX3_isTrue 131 = .ok (.goto 4, 3) := by decide +kernel
theorem dX3_isTrue_134 : decode cX3_isTrue 134 = .ok (.iconst 0, 1) := by decide +kernel
theorem dX3_isTrue_135 : decode cX3_isTrue 135 = .ok (.ireturn, 1) := by decide +kernel
theorem dX3_isTrueStep_0 : decode cX3_isTrueStep 0 = .ok (.iload_n 0, 1) := by decide +kernel
theorem dX3_isTrueStep_1 : decode cX3_isTrueStep 1 = .ok (.bipush 16, 2) := by decide +kernel
theorem dX3_isTrueStep_3 : decode cX3_isTrueStep 3 = .ok (.ishr, 1) := by decide +kernel
theorem dX3_isTrueStep_4 : decode cX3_isTrueStep 4 = .ok (.aload_n 1, 1) := by decide +kernel
theorem dX3_isTrueStep_5 : decode cX3_isTrueStep 5 = .ok (.invokestatic 60, 3) := by decide +kernel
theorem dX3_isTrueStep_8 : decode cX3_isTrueStep 8 = .ok (.istore_n 2, 1) := by decide +kernel
theorem dX3_isTrueStep_9 : decode cX3_isTrueStep 9 = .ok (.iload_n 0, 1) := by decide +kernel
theorem dX3_isTrueStep_10 : decode cX3_isTrueStep 10 = .ok (.sipush 16383, 3) := by decide +kernel
theorem dX3_isTrueStep_13 : decode cX3_isTrueStep 13 = .ok (.iand, 1) := by decide +kernel
theorem dX3_isTrueStep_14 : decode cX3_isTrueStep 14 = .ok (.aload_n 1, 1) := by decide +kernel
theorem dX3_isTrueStep_15 : decode cX3_isTrueStep 15 = .ok (.invokestatic 60, 3) := by decide +kernel
theorem dX3_isTrueStep_18 : decode cX3_isTrueStep 18 = .ok (.istore_n 3, 1) := by decide +kernel
theorem dX3_isTrueStep_19 : decode cX3_isTrueStep 19 = .ok (.iload_n 0, 1) := by decide +kernel
theorem dX3_isTrueStep_20 : decode cX3_isTrueStep 20 = .ok (.bipush 14, 2) := by decide +kernel
theorem dX3_isTrueStep_22 : decode cX3_isTrueStep 22 = .ok (.ishr, 1) := by decide +kernel
theorem dX3_isTrueStep_23 : decode cX3_isTrueStep 23 = .ok (.iconst 3, 1) := by decide +kernel
theorem dX3_isTrueStep_24 : decode cX3_isTrueStep 24 = .ok (.iand, 1) := by decide +kernel
theorem dX3_isTrueStep_25 : decode cX3_isTrueStep 25 = .ok (.istore 4, 2) := by decide +kernel
theorem dX3_isTrueStep_27 : decode cX3_isTrueStep 27 = .ok (.iload 4, 2) := by decide +kernel
theorem dX3_isTrueStep_29 : decode cX3_isTrueStep 29 = .ok (.ifCond .ne 14, 3) := by decide +kernel
theorem dX3_isTrueStep_32 : decode cX3_isTrueStep 32 = .ok (.iload_n 2, 1) := by decide +kernel
theorem dX3_isTrueStep_33 : decode cX3_isTrueStep 33 = .ok (.iload_n 3, 1) := by decide +kernel
theorem dX3_isTrueStep_34 : decode cX3_isTrueStep 34 = .ok (.if_icmp .ge 7, 3) := by decide +kernel
theorem dX3_isTrueStep_37 : decode cX3_isTrueStep 37 = .ok (.iconst 1, 1) := by decide +kernel
theorem dX3_isTrueStep_38 : decode cX3_isTrueStep 38 = .ok (.goto 4, 3) := by decide +kernel
theorem dX3_isTrueStep_41 : decode cX3_isTrueStep 41 = .ok (.iconst 0, 1) := by decide +kernel
theorem dX3_isTrueStep_42 : decode cX3_isTrueStep 42 = .ok (.ireturn, 1) := by decide +kernel
theorem dX3_isTrueStep_43 : decode cX3_isTrueStep 43 = .ok (.iload 4, 2) := by decide +kernel
theorem dX3_isTrueStep_45 : decode cX3_isTrueStep 45 = .ok (.iconst 1, 1) := by decide +kernel
theorem dX3_isTrueStep_46 : decode cX3_isTrueStep 46 = .ok (.if_icmp .ne 16, 3) := by decide +kernel
theorem dX3_isTrueStep_49 : decode cX3_isTrueStep 49 = .ok (.iload_n 2, 1) := by decide +kernel
theorem dX3_isTrueStep_50 : decode cX3_isTrueStep 50 = .ok (.iload_n 3, 1) := by decide +kernel
theorem dX3_isTrueStep_51 : decode cX3_isTrueStep 51 = .ok (.if_icmp .ne 7, 3) := by decide +kernel
theorem dX3_isTrueStep_54 : decode cX3_isTrueStep 54 = .ok (.iconst 1, 1) := by decide +kernel
theorem dX3_isTrueStep_55 : decode cX3_isTrueStep 55 = .ok (.goto 17, 3) := by decide +kernel
theorem dX3_isTrueStep_58 : decode cX3_isTrueStep 58 = .ok (.iconst 0, 1) := by decide +kernel
theorem dX3_isTrueStep_59 : decode cX3_isTrueStep 59 = .ok (.goto 13, 3) := by decide +kernel
theorem dX3_isTrueStep_62 : decode cX3_isTrueStep 62 = .ok (.iload_n 2, 1) := by decide +kernel
theorem dX3_isTrueStep_63 : decode cX3_isTrueStep 63 = .ok (.iload_n 3, 1) := by decide +kernel
theorem dX3_isTrueStep_64 : decode cX3_isTrueStep 64 = .ok (.if_icmp .le 7, 3) := by decide +kernel
theorem dX3_isTrueStep_67 : decode cX3_isTrueStep 67 = .ok (.iconst 1, 1) := by decide +kernel
theorem dX3_isTrueStep_68 : decode cX3_isTrueStep 68 = .ok (.goto 4, 3) := by decide +kernel
theorem dX3_isTrueStep_71 : decode cX3_isTrueStep 71 = .ok (.iconst 0, 1) := by decide +kernel
theorem dX3_isTrueStep_72 : decode cX3_isTrueStep 72 = .ok (.ireturn, 1) := by decide +kernel
theorem dX3_valueOf_0 : decode cX3_valueOf 0 = .ok (.iload_n 0, 1) := by decide +kernel
theorem dX3_valueOf_1 : decode cX3_valueOf 1 = .ok (.sipush 10000, 3) := by decide +kernel
theorem dX3_valueOf_4 : decode cX3_valueOf 4 = .ok (.isub, 1) := by decide +kernel
theorem dX3_valueOf_5 : decode cX3_valueOf 5 = .ok (.istore_n 2, 1) := by decide +kernel
theorem dX3_valueOf_6 : decode cX3_valueOf 6 = .ok (.iload_n 2, 1) := by decide +kernel
theorem dX3_valueOf_7 : decode cX3_valueOf 7 = .ok (.ifCond .lt 15, 3) := by decide +kernel
theorem dX3_valueOf_10 : decode cX3_valueOf 10 = .ok (.iload_n 2, 1) := by decide +kernel
theorem dX3_valueOf_11 : decode cX3_valueOf 11 = .ok (.aload_n 1, 1) := by decide +kernel
theorem dX3_valueOf_12 : decode cX3_valueOf 12 = .ok (.arraylength, 1) := by decide +kernel
theorem dX3_valueOf_13 : decode cX3_valueOf 13 = .ok (.if_icmp .ge 9, 3) := by decide +kernel
theorem dX3_valueOf_16 : decode cX3_valueOf 16 = .ok (.aload_n 1, 1) := by decide +kernel
theorem dX3_valueOf_17 : decode cX3_valueOf 17 = .ok (.iload_n 2, 1) := by decide +kernel
theorem dX3_valueOf_18 : decode cX3_valueOf 18 = .ok (.iaload, 1) := by decide +kernel
theorem dX3_valueOf_19 : decode cX3_valueOf 19 = .ok (.goto 4, 3) := by decide +kernel
theorem dX3_valueOf_22 : decode cX3_valueOf 22 = .ok (.iload_n 0, 1) := by decide +kernel
theorem dX3_valueOf_23 : decode cX3_valueOf 23 = .ok (.ireturn, 1) := by decide +kernel
theorem dX4_init_0 : decode cX4_init 0 = .ok (.aload_n 0, 1) := by decide +kernel
theorem dX4_init_1 : decode cX4_init 1 = .ok (.invokespecial 3, 3) := by decide +kernel
theorem dX4_init_4 : decode cX4_init 4 = .ok (.aload_n 0, 1) := by decide +kernel
theorem dX4_init_5 : decode cX4_init 5 = .ok (.new 9, 3) := by decide +kernel
theorem dX4_init_8 : decode cX4_init 8 = .ok (.dup, 1) := by decide +kernel
theorem dX4_init_9 : decode cX4_init 9 = .ok (.invokespecial 11, 3) := by decide +kernel
theorem dX4_init_12 : decode cX4_init 12 = .ok (.putfield 12, 3) := by decide +kernel
theorem dX4_init_15 : decode cX4_init 15 = .ok (.aload_n 0, 1) := by decide +kernel
theorem dX4_init_16 : decode cX4_init 16 = .ok (.new 18, 3) := by decide +kernel
theorem dX4_init_19 : decode cX4_init 19 = .ok (.dup, 1) := by decide +kernel
theorem dX4_init_20 : decode cX4_init 20 = .ok (.invokespecial 20, 3) := by decide +kernel
theorem dX4_init_23 : decode cX4_init 23 = .ok (.putfield 21, 3) := by decide +kernel
theorem dX4_init_26 : decode cX4_init 26 = .ok (.aload_n 0, 1) := by decide +kernel
theorem dX4_init_27 : decode cX4_init 27 = .ok (.new 25, 3) := by decide +kernel
theorem dX4_init_30 : decode cX4_init 30 = .ok (.dup, 1) := by decide +kernel
theorem dX4_init_31 : decode cX4_init 31 = .ok (.invokespecial 27, 3) := by decide +kernel
theorem dX4_init_34 : decode cX4_init 34 = .ok (.putfield 28, 3) := by decide +kernel
theorem dX4_init_37 : decode cX4_init 37 = .ok (.aload_n 0, 1) := by decide +kernel
theorem dX4_init_38 : decode cX4_init 38 = .ok (.new 32, 3) := by decide +kernel
theorem dX4_init_41 : decode cX4_init 41 = .ok (.dup, 1) := by decide +kernel
theorem dX4_init_42 : decode cX4_init 42 = .ok (.invokespecial 34, 3) := by decide +kernel
theorem dX4_init_45 : decode cX4_init 45 = .ok (.putfield 35, 3) := by decide +kernel
theorem dX4_init_48 : decode cX4_init 48 = .ok (.aload_n 0, 1) := by decide +kernel
theorem dX4_init_49 : decode cX4_init 49 = .ok (.bipush 60, 2) := by decide +kernel
theorem dX4_init_51 : decode cX4_init 51 = .ok (.newarray .int, 2) := by decide +kernel
theorem dX4_init_53 : decode cX4_init 53 = .ok (.putfield 39, 3) := by decide +kernel
theorem dX4_init_56 : decode cX4_init 56 = .ok (.aload_n 0, 1) := by decide +kernel
theorem dX4_init_57 : decode cX4_init 57 = .ok (.bipush 12, 2) := by decide +kernel
theorem dX4_init_59 : decode cX4_init 59 = .ok (.newarray .int, 2) := by decide +kernel
theorem dX4_init_61 : decode cX4_init 61 = .ok (.putfield 43, 3) := by decide +kernel
theorem dX4_init_64 : decode cX4_init 64 = .ok (.aload_n 0, 1) := by decide +kernel
theorem dX4_init_65 : decode cX4_init 65 = .ok (.ldc 48, 2) := by decide +kernel
theorem dX4_init_67 : decode cX4_init 67 = .ok (.invokevirtual 50, 3) := by decide +kernel
theorem dX4_init_70 : decode cX4_init 70 = .ok (.newarray .int, 2) := by decide +kernel
theorem dX4_init_72 : decode cX4_init 72 = .ok (.putfield 56, 3) := by decide +kernel
theorem dX4_init_75 : decode cX4_init 75 = .ok (.aload_n 0, 1) := by decide +kernel
theorem dX4_init_76 : decode cX4_init 76 = .ok (.bipush 72, 2) := by decide +kernel
theorem dX4_init_78 : decode cX4_init 78 = .ok (.putfield 59, 3) := by decide +kernel
theorem dX4_init_81 : decode cX4_init 81 = .ok (.return_, 1) := by decide +kernel
theorem dX4_passHour_0 : decode cX4_passHour 0 = .ok (.aload_n 1, 1) := by decide +kernel
theorem dX4_passHour_1 : decode cX4_passHour 1 = .ok (.aload_n 0, 1) := by decide +kernel
theorem dX4_passHour_2 : decode cX4_passHour 2 = .ok (.getfield 35, 3) := by decide +kernel
theorem dX4_passHour_5 : decode cX4_passHour 5 = .ok (.getfield 63, 3) := by decide +kernel
theorem dX4_passHour_8 : decode cX4_passHour 8 = .ok (.iload_n 2, 1) := by decide +kernel
theorem dX4_passHour_9 : decode cX4_passHour 9 = .ok (.invokevirtual 66, 3) := by decide +kernel
theorem dX4_passHour_12 : decode cX4_passHour 12 = .ok (.aload_n 0, 1) := by decide +kernel
theorem dX4_passHour_13 : decode cX4_passHour 13 = .ok (.aload_n 1, 1) := by decide +kernel
theorem dX4_passHour_14 : decode cX4_passHour 14 = .ok (.invokevirtual 72, 3) := by decide +kernel
theorem dX4_passHour_17 : decode cX4_passHour 17 = .ok (.istore_n 3, 1) := by decide +kernel
theorem dX4_passHour_18 : decode cX4_passHour 18 = .ok (.aload_n 0, 1) := by decide +kernel
theorem dX4_passHour_19 : decode cX4_passHour 19 = .ok (.getfield 43, 3) := by decide +kernel
theorem dX4_passHour_22 : decode cX4_passHour 22 = .ok (.iconst 0, 1) := by decide +kernel
theorem dX4_passHour_23 : decode cX4_passHour 23 = .ok (.invokestatic 76, 3) := by decide +kernel
theorem dX4_passHour_26 : decode cX4_passHour 26 = .ok (.iconst 0, 1) := by decide +kernel
theorem dX4_passHour_27 : decode cX4_passHour 27 = .ok (.istore 4, 2) := by decide +kernel
theorem dX4_passHour_29 : decode cX4_passHour 29 = .ok (.iload 4, 2) := by decide +kernel
theorem dX4_passHour_31 : decode cX4_passHour 31 = .ok (.iload_n 3, 1) := by decide +kernel
theorem dX4_passHour_32 : decode cX4_passHour 32 = .ok (.if_icmp .ge 66, 3) := by decide +kernel
theorem dX4_passHour_35 : decode cX4_passHour 35 = .ok (.aload_n 0, 1) := by decide +kernel
theorem dX4_passHour_36 : decode cX4_passHour 36 = .ok (.getfield 39, 3) := by decide +kernel
theorem dX4_passHour_39 : decode cX4_passHour 39 = .ok (.iload 4, 2) := by decide +kernel
theorem dX4_passHour_41 : decode cX4_passHour 41 = .ok (.iaload, 1) := by decide +kernel
theorem dX4_passHour_42 : decode cX4_passHour 42 = .ok (.istore 5, 2) := by decide +kernel
theorem dX4_passHour_44 : decode cX4_passHour 44 = .ok (.aload_n 1, 1) := by decide +kernel
theorem dX4_passHour_45 : decode cX4_passHour 45 = .ok (.getfield 82, 3) := by decide +kernel
theorem dX4_passHour_48 : decode cX4_passHour 48 = .ok (.iload 5, 2) := by decide +kernel
theorem dX4_passHour_50 : decode cX4_passHour 50 = .ok (.iaload, 1) := by decide +kernel
theorem dX4_passHour_51 : decode cX4_passHour 51 = .ok (.istore 6, 2) := by decide +kernel
theorem dX4_passHour_53 : decode cX4_passHour 53 = .ok (.aload_n 0, 1) := by decide +kernel
theorem dX4_passHour_54 : decode cX4_passHour 54 = .ok (.getfield 43, 3) := by decide +kernel
theorem dX4_passHour_57 : decode cX4_passHour 57 = .ok (.iload 6, 2) := by decide +kernel
theorem dX4_passHour_59 : decode cX4_passHour 59 = .ok (.iaload, 1) := by decide +kernel
theorem dX4_passHour_60 : decode cX4_passHour 60 = .ok (.aload_n 0, 1) := by decide +kernel
theorem dX4_passHour_61 : decode cX4_passHour 61 = .ok (.getfield 12, 3) := by decide +kernel
theorem dX4_passHour_64 : decode cX4_passHour 64 = .ok (.getfield 85, 3) := by decide +kernel
theorem dX4_passHour_67 : decode cX4_passHour 67 = .ok (.iload 6, 2) := by decide +kernel
theorem dX4_passHour_69 : decode cX4_passHour 69 = .ok (.iaload, 1) := by decide +kernel
theorem dX4_passHour_70 : decode cX4_passHour 70 = .ok (.if_icmp .ge 22, 3) := by decide +kernel
theorem dX4_passHour_73 : decode cX4_passHour 73 = .ok (.aload_n 0, 1) := by decide +kernel
theorem dX4_passHour_74 : decode cX4_passHour 74 = .ok (.getfield 43, 3) := by decide +kernel
theorem dX4_passHour_77 : decode cX4_passHour 77 = .ok (.iload 6, 2) := by decide +kernel
theorem dX4_passHour_79 : decode cX4_passHour 79 = .ok (.dup2, 1) := by decide +kernel
theorem dX4_passHour_80 : decode cX4_passHour 80 = .ok (.iaload, 1) := by decide +kernel
theorem dX4_passHour_81 : decode cX4_passHour 81 = .ok (.iconst 1, 1) := by decide +kernel
theorem dX4_passHour_82 : decode cX4_passHour 82 = .ok (.iadd, 1) := by decide +kernel
theorem dX4_passHour_83 : decode cX4_passHour 83 = .ok (.iastore, 1) := by decide +kernel
theorem dX4_passHour_84 : decode cX4_passHour 84 = .ok (.aload_n 0, 1) := by decide +kernel
theorem dX4_passHour_85 : decode cX4_passHour 85 = .ok (.aload_n 1, 1) := by decide +kernel
theorem dX4_passHour_86 : decode cX4_passHour 86 = .ok (.iload 5, 2) := by decide +kernel
theorem dX4_passHour_88 : decode cX4_passHour 88 = .ok (.iload_n 2, 1) := by decide +kernel
theorem dX4_passHour_89 : decode cX4_passHour 89 = .ok (.invokevirtual 88, 3) := by decide +kernel
theorem dX4_passHour_92 : decode cX4_passHour 92 = .ok (.iinc 4 1, 3) := by decide +kernel
theorem dX4_passHour_95 : decode cX4_passHour 95 = .ok (.goto (-66), 3) := by decide +kernel
theorem dX4_passHour_98 : decode cX4_passHour 98 = .ok (.return_, 1) := by decide +kernel
theorem dX4_lineUp_0 : decode cX4_lineUp 0 = .ok (.iconst 0, 1) := by decide +kernel
theorem dX4_lineUp_1 : decode cX4_lineUp 1 = .ok (.istore_n 2, 1) := by decide +kernel
theorem dX4_lineUp_2 : decode cX4_lineUp 2 = .ok (.iconst 0, 1) := by decide +kernel
theorem dX4_lineUp_3 : decode cX4_lineUp 3 = .ok (.istore_n 3, 1) := by decide +kernel
theorem dX4_lineUp_4 : decode cX4_lineUp 4 = .ok (.iload_n 3, 1) := by decide +kernel
theorem dX4_lineUp_5 : decode cX4_lineUp 5 = .ok (.aload_n 0, 1) := by decide +kernel
theorem dX4_lineUp_6 : decode cX4_lineUp 6 = .ok (.getfield 35, 3) := by decide +kernel
theorem dX4_lineUp_9 : decode cX4_lineUp 9 = .ok (.getfield 63, 3) := by decide +kernel
theorem dX4_lineUp_12 : decode cX4_lineUp 12 = .ok (.if_icmp .ge 82, 3) := by decide +kernel
theorem dX4_lineUp_15 : decode cX4_lineUp 15 = .ok (.aload_n 1, 1) := by decide +kernel
theorem dX4_lineUp_16 : decode cX4_lineUp 16 = .ok (.getfield 92, 3) := by decide +kernel
theorem dX4_lineUp_19 : decode cX4_lineUp 19 = .ok (.iload_n 3, 1) := by decide +kernel
theorem dX4_lineUp_20 : decode cX4_lineUp 20 = .ok (.iaload, 1) := by decide +kernel
theorem dX4_lineUp_21 : decode cX4_lineUp 21 = .ok (.ifCond .ne 67, 3) := by decide +kernel
theorem dX4_lineUp_24 : decode cX4_lineUp 24 = .ok (.iload_n 2, 1) := by decide +kernel
theorem dX4_lineUp_25 : decode cX4_lineUp 25 = .ok (.istore 4, 2) := by decide +kernel
theorem dX4_lineUp_27 : decode cX4_lineUp 27 = .ok (.iload 4, 2) := by decide +kernel
theorem dX4_lineUp_29 : decode cX4_lineUp 29 = .ok (.ifCond .le 48, 3) := by decide +kernel
theorem dX4_lineUp_32 : decode cX4_lineUp 32 = .ok (.aload_n 1, 1) := by decide +kernel
theorem dX4_lineUp_33 : decode cX4_lineUp 33 = .ok (.getfield 95, 3) := by decide +kernel
theorem dX4_lineUp_36 : decode cX4_lineUp 36 = .ok (.aload_n 0, 1) := by decide +kernel
theorem dX4_lineUp_37 : decode cX4_lineUp 37 = .ok (.getfield 39, 3) := by decide +kernel
theorem dX4_lineUp_40 : decode cX4_lineUp 40 = .ok (.iload 4, 2) := by decide +kernel
theorem dX4_lineUp_42 : decode cX4_lineUp 42 = .ok (.iconst 1, 1) := by decide +kernel
theorem dX4_lineUp_43 : decode cX4_lineUp 43 = .ok (.isub, 1) := by decide +kernel
theorem dX4_lineUp_44 : decode cX4_lineUp 44 = .ok (.iaload, 1) := by decide +kernel
theorem dX4_lineUp_45 : decode cX4_lineUp 45 = .ok (.iaload, 1) := by decide +kernel
theorem dX4_lineUp_46 : decode cX4_lineUp 46 = .ok (.aload_n 1, 1) := by decide +kernel
theorem dX4_lineUp_47 : decode cX4_lineUp 47 = .ok (.getfield 95, 3) := by decide +kernel
theorem dX4_lineUp_50 : decode cX4_lineUp 50 = .ok (.iload_n 3, 1) := by decide +kernel
theorem dX4_lineUp_51 : decode cX4_lineUp 51 = .ok (.iaload, 1) := by decide +kernel
theorem dX4_lineUp_52 : decode cX4_lineUp 52 = .ok (.if_icmp .le 25, 3) := by decide +kernel
theorem dX4_lineUp_55 : decode cX4_lineUp 55 = .ok (.aload_n 0, 1) := by decide +kernel
theorem dX4_lineUp_56 : decode cX4_lineUp 56 = .ok (.getfield 39, 3) := by decide +kernel
theorem dX4_lineUp_59 : decode cX4_lineUp 59 = .ok (.iload 4, 2) := by decide +kernel
theorem dX4_lineUp_61 : decode cX4_lineUp 61 = .ok (.aload_n 0, 1) := by decide +kernel
theorem dX4_lineUp_62 : decode cX4_lineUp 62 = .ok (.getfield 39, 3) := by decide +kernel
theorem dX4_lineUp_65 : decode cX4_lineUp 65 = .ok (.iload 4, 2) := by decide +kernel
theorem dX4_lineUp_67 : decode cX4_lineUp 67 = .ok (.iconst 1, 1) := by decide +kernel
theorem dX4_lineUp_68 : decode cX4_lineUp 68 = .ok (.isub, 1) := by decide +kernel
theorem dX4_lineUp_69 : decode cX4_lineUp 69 = .ok (.iaload, 1) := by decide +kernel
theorem dX4_lineUp_70 : decode cX4_lineUp 70 = .ok (.iastore, 1) := by decide +kernel
theorem dX4_lineUp_71 : decode cX4_lineUp 71 = .ok (.iinc 4 (-1), 3) := by decide +kernel
theorem dX4_lineUp_74 : decode cX4_lineUp 74 = .ok (.goto (-47), 3) := by decide +kernel
theorem dX4_lineUp_77 : decode cX4_lineUp 77 = .ok (.aload_n 0, 1) := by decide +kernel
theorem dX4_lineUp_78 : decode cX4_lineUp 78 = .ok (.getfield 39, 3) := by decide +kernel
theorem dX4_lineUp_81 : decode cX4_lineUp 81 = .ok (.iload 4, 2) := by decide +kernel
theorem dX4_lineUp_83 : decode cX4_lineUp 83 = .ok (.iload_n 3, 1) := by decide +kernel
theorem dX4_lineUp_84 : decode cX4_lineUp 84 = .ok (.iastore, 1) := by decide +kernel
theorem dX4_lineUp_85 : decode cX4_lineUp 85 = .ok (.iinc 2 1, 3) := by decide +kernel
theorem dX4_lineUp_88 : decode cX4_lineUp 88 = .ok (.iinc 3 1, 3) := by decide +kernel
theorem dX4_lineUp_91 : decode cX4_lineUp 91 = .ok (.goto (-87), 3) := by decide +kernel
theorem dX4_lineUp_94 : decode cX4_lineUp 94 = .ok (.iload_n 2, 1) := by decide +kernel
theorem dX4_lineUp_95 : decode cX4_lineUp 95 = .ok (.ireturn, 1) := by decide +kernel
theorem dX4_see_0 : decode cX4_see 0 = .ok (.aload_n 1, 1) := by decide +kernel
theorem dX4_see_1 : decode cX4_see 1 = .ok (.getfield 82, 3) := by decide +kernel
theorem dX4_see_4 : decode cX4_see 4 = .ok (.iload_n 2, 1) := by decide +kernel
theorem dX4_see_5 : decode cX4_see 5 = .ok (.iaload, 1) := by decide +kernel
theorem dX4_see_6 : decode cX4_see 6 = .ok (.istore 4, 2) := by decide +kernel
theorem dX4_see_8 : decode cX4_see 8 = .ok (.aload_n 0, 1) := by decide +kernel
theorem dX4_see_9 : decode cX4_see 9 = .ok (.aload_n 1, 1) := by decide +kernel
theorem dX4_see_10 : decode cX4_see 10 = .ok (.iload_n 2, 1) := by decide +kernel
theorem dX4_see_11 : decode cX4_see 11 = .ok (.iload_n 3, 1) := by decide +kernel
theorem dX4_see_12 : decode cX4_see 12 = .ok (.invokevirtual 98, 3) := by decide +kernel
theorem dX4_see_15 : decode cX4_see 15 = .ok (.aload_n 0, 1) := by decide +kernel
theorem dX4_see_16 : decode cX4_see 16 = .ok (.iconst 0, 1) := by decide +kernel
theorem dX4_see_17 : decode cX4_see 17 = .ok (.iload 4, 2) := by decide +kernel
theorem dX4_see_19 : decode cX4_see 19 = .ok (.iload_n 3, 1) := by decide +kernel
theorem dX4_see_20 : decode cX4_see 20 = .ok (.invokevirtual 101, 3) := by decide +kernel
theorem dX4_see_23 : decode cX4_see 23 = .ok (.ifCond .eq 13, 3) := by decide +kernel
theorem dX4_see_26 : decode cX4_see 26 = .ok (.aload_n 1, 1) := by decide +kernel
theorem dX4_see_27 : decode cX4_see 27 = .ok (.iload_n 2, 1) := by decide +kernel
theorem dX4_see_28 : decode cX4_see 28 = .ok (.iconst 4, 1) := by decide +kernel
theorem dX4_see_29 : decode cX4_see 29 = .ok (.iload_n 3, 1) := by decide +kernel
theorem dX4_see_30 : decode cX4_see 30 = .ok (.invokevirtual 105, 3) := by decide +kernel
theorem dX4_see_33 : decode cX4_see 33 = .ok (.goto 28, 3) := by decide +kernel
theorem dX4_see_36 : decode cX4_see 36 = .ok (.aload_n 0, 1) := by decide +kernel
theorem dX4_see_37 : decode cX4_see 37 = .ok (.iconst 1, 1) := by decide +kernel
theorem dX4_see_38 : decode cX4_see 38 = .ok (.iload 4, 2) := by decide +kernel
theorem dX4_see_40 : decode cX4_see 40 = .ok (.iload_n 3, 1) := by decide +kernel
theorem dX4_see_41 : decode cX4_see 41 = .ok (.invokevirtual 101, 3) := by decide +kernel
theorem dX4_see_44 : decode cX4_see 44 = .ok (.ifCond .ne 17, 3) := by decide +kernel
theorem dX4_see_47 : decode cX4_see 47 = .ok (.aload_n 0, 1) := by decide +kernel
theorem dX4_see_48 : decode cX4_see 48 = .ok (.aload_n 1, 1) := by decide +kernel
theorem dX4_see_49 : decode cX4_see 49 = .ok (.iload_n 2, 1) := by decide +kernel
theorem dX4_see_50 : decode cX4_see 50 = .ok (.iload_n 3, 1) := by decide +kernel
theorem dX4_see_51 : decode cX4_see 51 = .ok (.invokevirtual 109, 3) := by decide +kernel
theorem dX4_see_54 : decode cX4_see 54 = .ok (.aload_n 0, 1) := by decide +kernel
theorem dX4_see_55 : decode cX4_see 55 = .ok (.aload_n 1, 1) := by decide +kernel
theorem dX4_see_56 : decode cX4_see 56 = .ok (.iload_n 2, 1) := by decide +kernel
theorem dX4_see_57 : decode cX4_see 57 = .ok (.iload_n 3, 1) := by decide +kernel
theorem dX4_see_58 : decode cX4_see 58 = .ok (.invokevirtual 112, 3) := by decide +kernel
theorem dX4_see_61 : decode cX4_see 61 = .ok (.return_, 1) := by decide +kernel
theorem dX4_turnBack_0 : decode cX4_turnBack 0 = .ok (.aload_n 1, 1) := by decide +kernel
theorem dX4_turnBack_1 : decode cX4_turnBack 1 = .ok (.getfield 115, 3) := by decide +kernel
theorem dX4_turnBack_4 : decode cX4_turnBack 4 = .ok (.iload_n 2, 1) := by decide +kernel
theorem dX4_turnBack_5 : decode cX4_turnBack 5 = .ok (.baload, 1) := by decide +kernel
theorem dX4_turnBack_6 : decode cX4_turnBack 6 = .ok (.ifCond .eq 4, 3) := by decide +kernel
theorem dX4_turnBack_9 : decode cX4_turnBack 9 = .ok (.return_, 1) := by decide +kernel
theorem dX4_turnBack_10 : decode cX4_turnBack 10 = .ok (.aload_n 0, 1) := by decide +kernel
theorem dX4_turnBack_11 : decode cX4_turnBack 11 = .ok (.getfield 56, 3) := by decide +kernel
theorem dX4_turnBack_14 : decode cX4_turnBack 14 = .ok (.iconst 4, 1) := by decide +kernel
theorem dX4_turnBack_15 : decode cX4_turnBack 15 = .ok (.iaload, 1) := by decide +kernel
theorem dX4_turnBack_16 : decode cX4_turnBack 16 = .ok (.istore 4, 2) := by decide +kernel
theorem dX4_turnBack_18 : decode cX4_turnBack 18 = .ok (.aload_n 0, 1) := by decide +kernel
theorem dX4_turnBack_19 : decode cX4_turnBack 19 = .ok (.iconst 2, 1) := by decide +kernel
theorem dX4_turnBack_20 : decode cX4_turnBack 20 = .ok (.aload_n 1, 1) := by decide +kernel
theorem dX4_turnBack_21 : decode cX4_turnBack 21 = .ok (.getfield 82, 3) := by decide +kernel
theorem dX4_turnBack_24 : decode cX4_turnBack 24 = .ok (.iload_n 2, 1) := by decide +kernel
theorem dX4_turnBack_25 : decode cX4_turnBack 25 = .ok (.iaload, 1) := by decide +kernel
theorem dX4_turnBack_26 : decode cX4_turnBack 26 = .ok (.iload_n 3, 1) := by decide +kernel
theorem dX4_turnBack_27 : decode cX4_turnBack 27 = .ok (.invokevirtual 101, 3) := by decide +kernel
theorem dX4_turnBack_30 : decode cX4_turnBack 30 = .ok (.ifCond .eq 12, 3) := by decide +kernel
theorem dX4_turnBack_33 : decode cX4_turnBack 33 = .ok (.aload_n 1, 1) := by decide +kernel
theorem dX4_turnBack_34 : decode cX4_turnBack 34 = .ok (.iload_n 2, 1) := by decide +kernel
theorem dX4_turnBack_35 : decode cX4_turnBack 35 = .ok (.iconst 4, 1) := by decide +kernel
theorem dX4_turnBack_36 : decode cX4_turnBack 36 = .ok (.invokevirtual 119, 3) := by decide +kernel
theorem dX4_turnBack_39 : decode cX4_turnBack 39 = .ok (.goto 22, 3) := by decide +kernel
theorem dX4_turnBack_42 : decode cX4_turnBack 42 = .ok (.iload 4, 2) := by decide +kernel
theorem dX4_turnBack_44 : decode cX4_turnBack 44 = .ok (.iconst 2, 1) := by decide +kernel
theorem dX4_turnBack_45 : decode cX4_turnBack 45 = .ok (.if_icmp .eq 9, 3) := by decide +kernel
theorem dX4_turnBack_48 : decode cX4_turnBack 48 = .ok (.iload 4, 2) := by decide +kernel
theorem dX4_turnBack_50 : decode cX4_turnBack 50 = .ok (.iconst 3, 1) := by decide +kernel
theorem dX4_turnBack_51 : decode cX4_turnBack 51 = .ok (.if_icmp .ne 10, 3) := by decide +kernel
theorem dX4_turnBack_54 : decode cX4_turnBack 54 = .ok (.aload_n 1, 1) := by decide +kernel
theorem dX4_turnBack_55 : decode cX4_turnBack 55 = .ok (.iload_n 2, 1) := by decide +kernel
theorem dX4_turnBack_56 : decode cX4_turnBack 56 = .ok (.iload 4, 2) := by decide +kernel
theorem dX4_turnBack_58 : decode cX4_turnBack 58 = .ok (.invokevirtual 119, 3) := by decide +kernel
theorem dX4_turnBack_61 : decode cX4_turnBack 61 = .ok (.return_, 1) := by decide +kernel
theorem dX4_handle_0 : decode cX4_handle 0 = .ok (.aload_n 1, 1) := by decide +kernel
theorem dX4_handle_1 : decode cX4_handle 1 = .ok (.getfield 82, 3) := by decide +kernel
theorem dX4_handle_4 : decode cX4_handle 4 = .ok (.iload_n 2, 1) := by decide +kernel
theorem dX4_handle_5 : decode cX4_handle 5 = .ok (.iaload, 1) := by decide +kernel
theorem dX4_handle_6 : decode cX4_handle 6 = .ok (.istore 4, 2) := by decide +kernel
theorem dX4_handle_8 : decode cX4_handle 8 = .ok (.aload_n 0, 1) := by decide +kernel
theorem dX4_handle_9 : decode cX4_handle 9 = .ok (.aload_n 1, 1) := by decide +kernel
theorem dX4_handle_10 : decode cX4_handle 10 = .ok (.iload_n 2, 1) := by decide +kernel
theorem dX4_handle_11 : decode cX4_handle 11 = .ok (.iload_n 3, 1) := by decide +kernel
theorem dX4_handle_12 : decode cX4_handle 12 = .ok (.invokevirtual 122, 3) := by decide +kernel
theorem dX4_handle_15 : decode cX4_handle 15 = .ok (.istore 5, 2) := by decide +kernel
theorem dX4_handle_17 : decode cX4_handle 17 = .ok (.iload 5, 2) := by decide +kernel
theorem dX4_handle_19 : decode cX4_handle 19 = .ok (.iload 4, 2) := by decide +kernel
theorem dX4_handle_21 : decode cX4_handle 21 = .ok (.if_icmp .ne 22, 3) := by decide +kernel
theorem dX4_handle_24 : decode cX4_handle 24 = .ok (.aload_n 1, 1) := by decide +kernel
theorem dX4_handle_25 : decode cX4_handle 25 = .ok (.getfield 115, 3) := by decide +kernel
theorem dX4_handle_28 : decode cX4_handle 28 = .ok (.iload_n 2, 1) := by decide +kernel
theorem dX4_handle_29 : decode cX4_handle 29 = .ok (.baload, 1) := by decide +kernel
theorem dX4_handle_30 : decode cX4_handle 30 = .ok (.ifCond .eq 13, 3) := by decide +kernel
theorem dX4_handle_33 : decode cX4_handle 33 = .ok (.aload_n 1, 1) := by decide +kernel
theorem dX4_handle_34 : decode cX4_handle 34 = .ok (.iload_n 2, 1) := by decide +kernel
theorem dX4_handle_35 : decode cX4_handle 35 = .ok (.iconst 3, 1) := by decide +kernel
theorem dX4_handle_36 : decode cX4_handle 36 = .ok (.iload_n 3, 1) := by decide +kernel
theorem dX4_handle_37 : decode cX4_handle 37 = .ok (.invokevirtual 105, 3) := by decide +kernel
theorem dX4_handle_40 : decode cX4_handle 40 = .ok (.goto 89, 3) := by decide +kernel
theorem dX4_handle_43 : decode cX4_handle 43 = .ok (.iload 5, 2) := by decide +kernel
theorem dX4_handle_45 : decode cX4_handle 45 = .ok (.iload 4, 2) := by decide +kernel
theorem dX4_handle_47 : decode cX4_handle 47 = .ok (.if_icmp .ne 35, 3) := by decide +kernel
theorem dX4_handle_50 : decode cX4_handle 50 = .ok (.aload_n 0, 1) := by decide +kernel
theorem dX4_handle_51 : decode cX4_handle 51 = .ok (.getfield 21, 3) := by decide +kernel
theorem dX4_handle_54 : decode cX4_handle 54 = .ok (.aload_n 0, 1) := by decide +kernel
theorem dX4_handle_55 : decode cX4_handle 55 = .ok (.getfield 35, 3) := by decide +kernel
theorem dX4_handle_58 : decode cX4_handle 58 = .ok (.getfield 126, 3) := by decide +kernel
theorem dX4_handle_61 : decode cX4_handle 61 = .ok (.iload_n 2, 1) := by decide +kernel
theorem dX4_handle_62 : decode cX4_handle 62 = .ok (.iaload, 1) := by decide +kernel
theorem dX4_handle_63 : decode cX4_handle 63 = .ok (.iload_n 3, 1) := by decide +kernel
theorem dX4_handle_64 : decode cX4_handle 64 = .ok (.invokevirtual 129, 3) := by decide +kernel
theorem dX4_handle_67 : decode cX4_handle 67 = .ok (.iload 4, 2) := by decide +kernel
theorem dX4_handle_69 : decode cX4_handle 69 = .ok (.if_icmp .ne 13, 3) := by decide +kernel
theorem dX4_handle_72 : decode cX4_handle 72 = .ok (.aload_n 0, 1) := by decide +kernel
theorem dX4_handle_73 : decode cX4_handle 73 = .ok (.aload_n 1, 1) := by decide +kernel
theorem dX4_handle_74 : decode cX4_handle 74 = .ok (.iload_n 2, 1) := by decide +kernel
theorem dX4_handle_75 : decode cX4_handle 75 = .ok (.iload_n 3, 1) := by decide +kernel
theorem dX4_handle_76 : decode cX4_handle 76 = .ok (.invokevirtual 133, 3) := by decide +kernel
theorem dX4_handle_79 : decode cX4_handle 79 = .ok (.goto 50, 3) := by decide +kernel
theorem dX4_handle_82 : decode cX4_handle 82 = .ok (.iload 5, 2) := by decide +kernel
theorem dX4_handle_84 : decode cX4_handle 84 = .ok (.iload 4, 2) := by decide +kernel
theorem dX4_handle_86 : decode cX4_handle 86 = .ok (.if_icmp .eq 10, 3) := by decide +kernel
theorem dX4_handle_89 : decode cX4_handle 89 = .ok (.iload 5, 2) := by decide +kernel
theorem dX4_handle_91 : decode cX4_handle 91 = .ok (.bipush (-9), 2) := by decide +kernel
theorem dX4_handle_93 : decode cX4_handle 93 = .ok (.if_icmp .ne 27, 3) := by decide +kernel
theorem dX4_handle_96 : decode cX4_handle 96 = .ok (.iload_n 3, 1) := by decide +kernel
theorem dX4_handle_97 : decode cX4_handle 97 = .ok (.aload_n 1, 1) := by decide +kernel
theorem dX4_handle_98 : decode cX4_handle 98 = .ok (.getfield 95, 3) := by decide +kernel
theorem dX4_handle_101 : decode cX4_handle 101 = .ok (.iload_n 2, 1) := by decide +kernel
theorem dX4_handle_102 : decode cX4_handle 102 = .ok (.iaload, 1) := by decide +kernel
theorem dX4_handle_103 : decode cX4_handle 103 = .ok (.isub, 1) := by decide +kernel
theorem dX4_handle_104 : decode cX4_handle 104 = .ok (.aload_n 0, 1) := by decide +kernel
theorem dX4_handle_105 : decode cX4_handle 105 = .ok (.getfield 59, 3) := by decide +kernel
theorem dX4_handle_108 : decode cX4_handle 108 = .ok (.if_icmp .lt 21, 3) := by decide +kernel
theorem dX4_handle_111 : decode cX4_handle 111 = .ok (.aload_n 1, 1) := by decide +kernel
theorem dX4_handle_112 : decode cX4_handle 112 = .ok (.iload_n 2, 1) := by decide +kernel
theorem dX4_handle_113 : decode cX4_handle 113 = .ok (.iconst 1, 1) := by decide +kernel
theorem dX4_handle_114 : decode cX4_handle 114 = .ok (.invokevirtual 119, 3) := by decide +kernel
theorem dX4_handle_117 : decode cX4_handle 117 = .ok (.goto 12, 3) := by decide +kernel
theorem dX4_handle_120 : decode cX4_handle 120 = .ok (.aload_n 0, 1) := by decide +kernel
theorem dX4_handle_121 : decode cX4_handle 121 = .ok (.aload_n 1, 1) := by decide +kernel
theorem dX4_handle_122 : decode cX4_handle 122 = .ok (.iload_n 2, 1) := by decide +kernel
theorem dX4_handle_123 : decode cX4_handle 123 = .ok (.iload 5, 2) := by decide +kernel
theorem dX4_handle_125 : decode cX4_handle 125 = .ok (.iload_n 3, 1) := by decide +kernel
theorem dX4_handle_126 : decode cX4_handle 126 = .ok (.invokevirtual 136, 3) := by decide +kernel
theorem dX4_handle_129 : decode cX4_handle 129 = .ok (.return_, 1) := by decide +kernel
theorem dX4_give_0 : decode cX4_give 0 = .ok (.aload_n 0, 1) := by decide +kernel
theorem dX4_give_1 : decode cX4_give 1 = .ok (.getfield 35, 3) := by decide +kernel
theorem dX4_give_4 : decode cX4_give 4 = .ok (.getfield 140, 3) := by decide +kernel
theorem dX4_give_7 : decode cX4_give 7 = .ok (.iload_n 2, 1) := by decide +kernel
theorem dX4_give_8 : decode cX4_give 8 = .ok (.iaload, 1) := by decide +kernel
theorem dX4_give_9 : decode cX4_give 9 = .ok (.iconst 1, 1) := by decide +kernel
theorem dX4_give_10 : decode cX4_give 10 = .ok (.if_icmp .ne 7, 3) := by decide +kernel
theorem dX4_give_13 : decode cX4_give 13 = .ok (.iconst 1, 1) := by decide +kernel
theorem dX4_give_14 : decode cX4_give 14 = .ok (.goto 4, 3) := by decide +kernel
theorem dX4_give_17 : decode cX4_give 17 = .ok (.iconst 0, 1) := by decide +kernel
theorem dX4_give_18 : decode cX4_give 18 = .ok (.istore 4, 2) := by decide +kernel
end
section
theorem dX4_give_20 : decode cX4_give 20 = .ok (.aload_n 1, 1) := by decide +kernel
theorem dX4_give_21 : decode cX4_give 21 = .ok (.getfield 143, 3) := by decide +kernel
theorem dX4_give_24 : decode cX4_give 24 = .ok (.iload_n 2, 1) := by decide +kernel
theorem dX4_give_25 : decode cX4_give 25 = .ok (.iload 4, 2) := by decide +kernel
theorem dX4_give_27 : decode cX4_give 27 = .ok (.ifCond .eq 30, 3) := by decide +kernel
theorem dX4_give_30 : decode cX4_give 30 = .ok (.iload_n 3, 1) := by decide +kernel
theorem dX4_give_31 : decode cX4_give 31 = .ok (.aload_n 0, 1) := by decide +kernel
theorem dX4_give_32 : decode cX4_give 32 = .ok (.getfield 35, 3) := by decide +kernel
theorem dX4_give_35 : decode cX4_give 35 = .ok (.getfield 146, 3) := by decide +kernel
theorem dX4_give_38 : decode cX4_give 38 = .ok (.iload_n 2, 1) := by decide +kernel
theorem dX4_give_39 : decode cX4_give 39 = .ok (.iaload, 1) := by decide +kernel
theorem dX4_give_40 : decode cX4_give 40 = .ok (.isub, 1) := by decide +kernel
theorem dX4_give_41 : decode cX4_give 41 = .ok (.aload_n 0, 1) := by decide +kernel
theorem dX4_give_42 : decode cX4_give 42 = .ok (.getfield 35, 3) := by decide +kernel
theorem dX4_give_45 : decode cX4_give 45 = .ok (.getfield 149, 3) := by decide +kernel
theorem dX4_give_48 : decode cX4_give 48 = .ok (.iload_n 2, 1) := by decide +kernel
theorem dX4_give_49 : decode cX4_give 49 = .ok (.iaload, 1) := by decide +kernel
theorem dX4_give_50 : decode cX4_give 50 = .ok (.if_icmp .le 7, 3) := by decide +kernel
theorem dX4_give_53 : decode cX4_give 53 = .ok (.iconst 1, 1) := by decide +kernel
theorem dX4_give_54 : decode cX4_give 54 = .ok (.goto 4, 3) := by decide +kernel
theorem dX4_give_57 : decode cX4_give 57 = .ok (.iconst 0, 1) := by decide +kernel
theorem dX4_give_58 : decode cX4_give 58 = .ok (.bastore, 1) := by decide +kernel
theorem dX4_give_59 : decode cX4_give 59 = .ok (.aload_n 1, 1) := by decide +kernel
theorem dX4_give_60 : decode cX4_give 60 = .ok (.iload_n 2, 1) := by decide +kernel
theorem dX4_give_61 : decode cX4_give 61 = .ok (.iconst 2, 1) := by decide +kernel
theorem dX4_give_62 : decode cX4_give 62 = .ok (.iload_n 3, 1) := by decide +kernel
theorem dX4_give_63 : decode cX4_give 63 = .ok (.invokevirtual 105, 3) := by decide +kernel
theorem dX4_give_66 : decode cX4_give 66 = .ok (.return_, 1) := by decide +kernel
theorem dX4_sendOn_0 : decode cX4_sendOn 0 = .ok (.aload_n 1, 1) := by decide +kernel
theorem dX4_sendOn_1 : decode cX4_sendOn 1 = .ok (.getfield 82, 3) := by decide +kernel
theorem dX4_sendOn_4 : decode cX4_sendOn 4 = .ok (.iload_n 2, 1) := by decide +kernel
theorem dX4_sendOn_5 : decode cX4_sendOn 5 = .ok (.iaload, 1) := by decide +kernel
theorem dX4_sendOn_6 : decode cX4_sendOn 6 = .ok (.istore 5, 2) := by decide +kernel
theorem dX4_sendOn_8 : decode cX4_sendOn 8 = .ok (.aload_n 0, 1) := by decide +kernel
theorem dX4_sendOn_9 : decode cX4_sendOn 9 = .ok (.getfield 12, 3) := by decide +kernel
theorem dX4_sendOn_12 : decode cX4_sendOn 12 = .ok (.iload 5, 2) := by decide +kernel
theorem dX4_sendOn_14 : decode cX4_sendOn 14 = .ok (.iload_n 3, 1) := by decide +kernel
theorem dX4_sendOn_15 : decode cX4_sendOn 15 = .ok (.invokevirtual 152, 3) := by decide +kernel
theorem dX4_sendOn_18 : decode cX4_sendOn 18 = .ok (.istore 6, 2) := by decide +kernel
theorem dX4_sendOn_20 : decode cX4_sendOn 20 = .ok (.aload_n 0, 1) := by decide +kernel
theorem dX4_sendOn_21 : decode cX4_sendOn 21 = .ok (.getfield 12, 3) := by decide +kernel
theorem dX4_sendOn_24 : decode cX4_sendOn 24 = .ok (.iload 6, 2) := by decide +kernel
theorem dX4_sendOn_26 : decode cX4_sendOn 26 = .ok (.invokevirtual 155, 3) := by decide +kernel
theorem dX4_sendOn_29 : decode cX4_sendOn 29 = .ok (.ifCond .eq 46, 3) := by decide +kernel
theorem dX4_sendOn_32 : decode cX4_sendOn 32 = .ok (.aload_n 0, 1) := by decide +kernel
theorem dX4_sendOn_33 : decode cX4_sendOn 33 = .ok (.getfield 12, 3) := by decide +kernel
theorem dX4_sendOn_36 : decode cX4_sendOn 36 = .ok (.iload 6, 2) := by decide +kernel
theorem dX4_sendOn_38 : decode cX4_sendOn 38 = .ok (.iload 4, 2) := by decide +kernel
theorem dX4_sendOn_40 : decode cX4_sendOn 40 = .ok (.invokevirtual 159, 3) := by decide +kernel
theorem dX4_sendOn_43 : decode cX4_sendOn 43 = .ok (.ifCond .eq 32, 3) := by decide +kernel
theorem dX4_sendOn_46 : decode cX4_sendOn 46 = .ok (.aload_n 1, 1) := by decide +kernel
theorem dX4_sendOn_47 : decode cX4_sendOn 47 = .ok (.iload_n 2, 1) := by decide +kernel
theorem dX4_sendOn_48 : decode cX4_sendOn 48 = .ok (.aload_n 0, 1) := by decide +kernel
theorem dX4_sendOn_49 : decode cX4_sendOn 49 = .ok (.getfield 12, 3) := by decide +kernel
theorem dX4_sendOn_52 : decode cX4_sendOn 52 = .ok (.iload 6, 2) := by decide +kernel
theorem dX4_sendOn_54 : decode cX4_sendOn 54 = .ok (.iload 5, 2) := by decide +kernel
theorem dX4_sendOn_56 : decode cX4_sendOn 56 = .ok (.invokevirtual 163, 3) := by decide +kernel
theorem dX4_sendOn_59 : decode cX4_sendOn 59 = .ok (.iload 4, 2) := by decide +kernel
theorem dX4_sendOn_61 : decode cX4_sendOn 61 = .ok (.aload_n 0, 1) := by decide +kernel
theorem dX4_sendOn_62 : decode cX4_sendOn 62 = .ok (.getfield 12, 3) := by decide +kernel
theorem dX4_sendOn_65 : decode cX4_sendOn 65 = .ok (.getfield 166, 3) := by decide +kernel
theorem dX4_sendOn_68 : decode cX4_sendOn 68 = .ok (.iload 6, 2) := by decide +kernel
theorem dX4_sendOn_70 : decode cX4_sendOn 70 = .ok (.iaload, 1) := by decide +kernel
theorem dX4_sendOn_71 : decode cX4_sendOn 71 = .ok (.iadd, 1) := by decide +kernel
theorem dX4_sendOn_72 : decode cX4_sendOn 72 = .ok (.invokevirtual 168, 3) := by decide +kernel
theorem dX4_sendOn_75 : decode cX4_sendOn 75 = .ok (.return_, 1) := by decide +kernel
theorem dX4_goalOf_0 : decode cX4_goalOf 0 = .ok (.aload_n 1, 1) := by decide +kernel
theorem dX4_goalOf_1 : decode cX4_goalOf 1 = .ok (.getfield 115, 3) := by decide +kernel
theorem dX4_goalOf_4 : decode cX4_goalOf 4 = .ok (.iload_n 2, 1) := by decide +kernel
theorem dX4_goalOf_5 : decode cX4_goalOf 5 = .ok (.baload, 1) := by decide +kernel
theorem dX4_goalOf_6 : decode cX4_goalOf 6 = .ok (.ifCond .eq 13, 3) := by decide +kernel
theorem dX4_goalOf_9 : decode cX4_goalOf 9 = .ok (.aload_n 0, 1) := by decide +kernel
theorem dX4_goalOf_10 : decode cX4_goalOf 10 = .ok (.getfield 35, 3) := by decide +kernel
theorem dX4_goalOf_13 : decode cX4_goalOf 13 = .ok (.getfield 171, 3) := by decide +kernel
theorem dX4_goalOf_16 : decode cX4_goalOf 16 = .ok (.iload_n 2, 1) := by decide +kernel
theorem dX4_goalOf_17 : decode cX4_goalOf 17 = .ok (.iaload, 1) := by decide +kernel
theorem dX4_goalOf_18 : decode cX4_goalOf 18 = .ok (.ireturn, 1) := by decide +kernel
theorem dX4_goalOf_19 : decode cX4_goalOf 19 = .ok (.aload_n 0, 1) := by decide +kernel
theorem dX4_goalOf_20 : decode cX4_goalOf 20 = .ok (.getfield 35, 3) := by decide +kernel
theorem dX4_goalOf_23 : decode cX4_goalOf 23 = .ok (.getfield 126, 3) := by decide +kernel
theorem dX4_goalOf_26 : decode cX4_goalOf 26 = .ok (.iload_n 2, 1) := by decide +kernel
theorem dX4_goalOf_27 : decode cX4_goalOf 27 = .ok (.iaload, 1) := by decide +kernel
theorem dX4_goalOf_28 : decode cX4_goalOf 28 = .ok (.istore 4, 2) := by decide +kernel
theorem dX4_goalOf_30 : decode cX4_goalOf 30 = .ok (.aload_n 0, 1) := by decide +kernel
theorem dX4_goalOf_31 : decode cX4_goalOf 31 = .ok (.getfield 12, 3) := by decide +kernel
theorem dX4_goalOf_34 : decode cX4_goalOf 34 = .ok (.aload_n 1, 1) := by decide +kernel
theorem dX4_goalOf_35 : decode cX4_goalOf 35 = .ok (.getfield 82, 3) := by decide +kernel
theorem dX4_goalOf_38 : decode cX4_goalOf 38 = .ok (.iload_n 2, 1) := by decide +kernel
theorem dX4_goalOf_39 : decode cX4_goalOf 39 = .ok (.iaload, 1) := by decide +kernel
theorem dX4_goalOf_40 : decode cX4_goalOf 40 = .ok (.invokevirtual 174, 3) := by decide +kernel
theorem dX4_goalOf_43 : decode cX4_goalOf 43 = .ok (.istore 5, 2) := by decide +kernel
theorem dX4_goalOf_45 : decode cX4_goalOf 45 = .ok (.aload_n 0, 1) := by decide +kernel
theorem dX4_goalOf_46 : decode cX4_goalOf 46 = .ok (.getfield 21, 3) := by decide +kernel
theorem dX4_goalOf_49 : decode cX4_goalOf 49 = .ok (.iload 4, 2) := by decide +kernel
theorem dX4_goalOf_51 : decode cX4_goalOf 51 = .ok (.iload_n 3, 1) := by decide +kernel
theorem dX4_goalOf_52 : decode cX4_goalOf 52 = .ok (.iload 5, 2) := by decide +kernel
theorem dX4_goalOf_54 : decode cX4_goalOf 54 = .ok (.invokevirtual 178, 3) := by decide +kernel
theorem dX4_goalOf_57 : decode cX4_goalOf 57 = .ok (.istore 6, 2) := by decide +kernel
theorem dX4_goalOf_59 : decode cX4_goalOf 59 = .ok (.iload 6, 2) := by decide +kernel
theorem dX4_goalOf_61 : decode cX4_goalOf 61 = .ok (.ifCond .lt 28, 3) := by decide +kernel
theorem dX4_goalOf_64 : decode cX4_goalOf 64 = .ok (.aload_n 0, 1) := by decide +kernel
theorem dX4_goalOf_65 : decode cX4_goalOf 65 = .ok (.getfield 21, 3) := by decide +kernel
theorem dX4_goalOf_68 : decode cX4_goalOf 68 = .ok (.getfield 182, 3) := by decide +kernel
theorem dX4_goalOf_71 : decode cX4_goalOf 71 = .ok (.iload 6, 2) := by decide +kernel
theorem dX4_goalOf_73 : decode cX4_goalOf 73 = .ok (.iaload, 1) := by decide +kernel
theorem dX4_goalOf_74 : decode cX4_goalOf 74 = .ok (.iconst 1, 1) := by decide +kernel
theorem dX4_goalOf_75 : decode cX4_goalOf 75 = .ok (.if_icmp .ne 14, 3) := by decide +kernel
theorem dX4_goalOf_78 : decode cX4_goalOf 78 = .ok (.aload_n 0, 1) := by decide +kernel
theorem dX4_goalOf_79 : decode cX4_goalOf 79 = .ok (.getfield 21, 3) := by decide +kernel
theorem dX4_goalOf_82 : decode cX4_goalOf 82 = .ok (.getfield 185, 3) := by decide +kernel
theorem dX4_goalOf_85 : decode cX4_goalOf 85 = .ok (.iload 6, 2) := by decide +kernel
theorem dX4_goalOf_87 : decode cX4_goalOf 87 = .ok (.iaload, 1) := by decide +kernel
theorem dX4_goalOf_88 : decode cX4_goalOf 88 = .ok (.ireturn, 1) := by decide +kernel
theorem dX4_goalOf_89 : decode cX4_goalOf 89 = .ok (.aload_n 0, 1) := by decide +kernel
theorem dX4_goalOf_90 : decode cX4_goalOf 90 = .ok (.getfield 21, 3) := by decide +kernel
theorem dX4_goalOf_93 : decode cX4_goalOf 93 = .ok (.aload_n 0, 1) := by decide +kernel
theorem dX4_goalOf_94 : decode cX4_goalOf 94 = .ok (.getfield 21, 3) := by decide +kernel
theorem dX4_goalOf_97 : decode cX4_goalOf 97 = .ok (.getfield 188, 3) := by decide +kernel
theorem dX4_goalOf_100 : decode cX4_goalOf 100 = .ok (.iload 4, 2) := by decide +kernel
theorem dX4_goalOf_102 : decode cX4_goalOf 102 = .ok (.iaload, 1) := by decide +kernel
theorem dX4_goalOf_103 : decode cX4_goalOf 103 = .ok (.iload_n 3, 1) := by decide +kernel
theorem dX4_goalOf_104 : decode cX4_goalOf 104 = .ok (.iload 5, 2) := by decide +kernel
theorem dX4_goalOf_106 : decode cX4_goalOf 106 = .ok (.invokevirtual 191, 3) := by decide +kernel
theorem dX4_goalOf_109 : decode cX4_goalOf 109 = .ok (.ireturn, 1) := by decide +kernel
theorem dX4_takeFacts_0 : decode cX4_takeFacts 0 = .ok (.aload_n 1, 1) := by decide +kernel
theorem dX4_takeFacts_1 : decode cX4_takeFacts 1 = .ok (.getfield 82, 3) := by decide +kernel
theorem dX4_takeFacts_4 : decode cX4_takeFacts 4 = .ok (.iload_n 2, 1) := by decide +kernel
theorem dX4_takeFacts_5 : decode cX4_takeFacts 5 = .ok (.iaload, 1) := by decide +kernel
theorem dX4_takeFacts_6 : decode cX4_takeFacts 6 = .ok (.istore 4, 2) := by decide +kernel
theorem dX4_takeFacts_8 : decode cX4_takeFacts 8 = .ok (.aload_n 0, 1) := by decide +kernel
theorem dX4_takeFacts_9 : decode cX4_takeFacts 9 = .ok (.getfield 35, 3) := by decide +kernel
theorem dX4_takeFacts_12 : decode cX4_takeFacts 12 = .ok (.getfield 126, 3) := by decide +kernel
theorem dX4_takeFacts_15 : decode cX4_takeFacts 15 = .ok (.iload_n 2, 1) := by decide +kernel
theorem dX4_takeFacts_16 : decode cX4_takeFacts 16 = .ok (.iaload, 1) := by decide +kernel
theorem dX4_takeFacts_17 : decode cX4_takeFacts 17 = .ok (.istore 5, 2) := by decide +kernel
theorem dX4_takeFacts_19 : decode cX4_takeFacts 19 = .ok (.aload_n 0, 1) := by decide +kernel
theorem dX4_takeFacts_20 : decode cX4_takeFacts 20 = .ok (.getfield 56, 3) := by decide +kernel
theorem dX4_takeFacts_23 : decode cX4_takeFacts 23 = .ok (.iconst 0, 1) := by decide +kernel
theorem dX4_takeFacts_24 : decode cX4_takeFacts 24 = .ok (.aload_n 0, 1) := by decide +kernel
theorem dX4_takeFacts_25 : decode cX4_takeFacts 25 = .ok (.getfield 35, 3) := by decide +kernel
theorem dX4_takeFacts_28 : decode cX4_takeFacts 28 = .ok (.getfield 140, 3) := by decide +kernel
theorem dX4_takeFacts_31 : decode cX4_takeFacts 31 = .ok (.iload_n 2, 1) := by decide +kernel
theorem dX4_takeFacts_32 : decode cX4_takeFacts 32 = .ok (.iaload, 1) := by decide +kernel
theorem dX4_takeFacts_33 : decode cX4_takeFacts 33 = .ok (.iastore, 1) := by decide +kernel
theorem dX4_takeFacts_34 : decode cX4_takeFacts 34 = .ok (.aload_n 0, 1) := by decide +kernel
theorem dX4_takeFacts_35 : decode cX4_takeFacts 35 = .ok (.getfield 56, 3) := by decide +kernel
theorem dX4_takeFacts_38 : decode cX4_takeFacts 38 = .ok (.iconst 1, 1) := by decide +kernel
theorem dX4_takeFacts_39 : decode cX4_takeFacts 39 = .ok (.aload_n 0, 1) := by decide +kernel
theorem dX4_takeFacts_40 : decode cX4_takeFacts 40 = .ok (.getfield 35, 3) := by decide +kernel
theorem dX4_takeFacts_43 : decode cX4_takeFacts 43 = .ok (.getfield 149, 3) := by decide +kernel
theorem dX4_takeFacts_46 : decode cX4_takeFacts 46 = .ok (.iload_n 2, 1) := by decide +kernel
theorem dX4_takeFacts_47 : decode cX4_takeFacts 47 = .ok (.iaload, 1) := by decide +kernel
theorem dX4_takeFacts_48 : decode cX4_takeFacts 48 = .ok (.iastore, 1) := by decide +kernel
theorem dX4_takeFacts_49 : decode cX4_takeFacts 49 = .ok (.aload_n 0, 1) := by decide +kernel
theorem dX4_takeFacts_50 : decode cX4_takeFacts 50 = .ok (.getfield 56, 3) := by decide +kernel
theorem dX4_takeFacts_53 : decode cX4_takeFacts 53 = .ok (.iconst 2, 1) := by decide +kernel
theorem dX4_takeFacts_54 : decode cX4_takeFacts 54 = .ok (.iload_n 3, 1) := by decide +kernel
theorem dX4_takeFacts_55 : decode cX4_takeFacts 55 = .ok (.aload_n 0, 1) := by decide +kernel
theorem dX4_takeFacts_56 : decode cX4_takeFacts 56 = .ok (.getfield 35, 3) := by decide +kernel
theorem dX4_takeFacts_59 : decode cX4_takeFacts 59 = .ok (.getfield 146, 3) := by decide +kernel
theorem dX4_takeFacts_62 : decode cX4_takeFacts 62 = .ok (.iload_n 2, 1) := by decide +kernel
theorem dX4_takeFacts_63 : decode cX4_takeFacts 63 = .ok (.iaload, 1) := by decide +kernel
theorem dX4_takeFacts_64 : decode cX4_takeFacts 64 = .ok (.isub, 1) := by decide +kernel
theorem dX4_takeFacts_65 : decode cX4_takeFacts 65 = .ok (.iastore, 1) := by decide +kernel
theorem dX4_takeFacts_66 : decode cX4_takeFacts 66 = .ok (.aload_n 0, 1) := by decide +kernel
theorem dX4_takeFacts_67 : decode cX4_takeFacts 67 = .ok (.getfield 56, 3) := by decide +kernel
theorem dX4_takeFacts_70 : decode cX4_takeFacts 70 = .ok (.iconst 3, 1) := by decide +kernel
theorem dX4_takeFacts_71 : decode cX4_takeFacts 71 = .ok (.iload_n 3, 1) := by decide +kernel
theorem dX4_takeFacts_72 : decode cX4_takeFacts 72 = .ok (.aload_n 1, 1) := by decide +kernel
theorem dX4_takeFacts_73 : decode cX4_takeFacts 73 = .ok (.getfield 95, 3) := by decide +kernel
theorem dX4_takeFacts_76 : decode cX4_takeFacts 76 = .ok (.iload_n 2, 1) := by decide +kernel
theorem dX4_takeFacts_77 : decode cX4_takeFacts 77 = .ok (.iaload, 1) := by decide +kernel
theorem dX4_takeFacts_78 : decode cX4_takeFacts 78 = .ok (.isub, 1) := by decide +kernel
theorem dX4_takeFacts_79 : decode cX4_takeFacts 79 = .ok (.iastore, 1) := by decide +kernel
theorem dX4_takeFacts_80 : decode cX4_takeFacts 80 = .ok (.aload_n 0, 1) := by decide +kernel
theorem dX4_takeFacts_81 : decode cX4_takeFacts 81 = .ok (.getfield 56, 3) := by decide +kernel
theorem dX4_takeFacts_84 : decode cX4_takeFacts 84 = .ok (.iconst 4, 1) := by decide +kernel
theorem dX4_takeFacts_85 : decode cX4_takeFacts 85 = .ok (.aload_n 0, 1) := by decide +kernel
theorem dX4_takeFacts_86 : decode cX4_takeFacts 86 = .ok (.getfield 21, 3) := by decide +kernel
theorem dX4_takeFacts_89 : decode cX4_takeFacts 89 = .ok (.iload 5, 2) := by decide +kernel
theorem dX4_takeFacts_91 : decode cX4_takeFacts 91 = .ok (.iload_n 3, 1) := by decide +kernel
theorem dX4_takeFacts_92 : decode cX4_takeFacts 92 = .ok (.aload_n 0, 1) := by decide +kernel
theorem dX4_takeFacts_93 : decode cX4_takeFacts 93 = .ok (.getfield 12, 3) := by decide +kernel
theorem dX4_takeFacts_96 : decode cX4_takeFacts 96 = .ok (.iload 4, 2) := by decide +kernel
theorem dX4_takeFacts_98 : decode cX4_takeFacts 98 = .ok (.invokevirtual 174, 3) := by decide +kernel
theorem dX4_takeFacts_101 : decode cX4_takeFacts 101 = .ok (.invokevirtual 194, 3) := by decide +kernel
theorem dX4_takeFacts_104 : decode cX4_takeFacts 104 = .ok (.iastore, 1) := by decide +kernel
theorem dX4_takeFacts_105 : decode cX4_takeFacts 105 = .ok (.aload_n 0, 1) := by decide +kernel
theorem dX4_takeFacts_106 : decode cX4_takeFacts 106 = .ok (.getfield 56, 3) := by decide +kernel
theorem dX4_takeFacts_109 : decode cX4_takeFacts 109 = .ok (.iconst 5, 1) := by decide +kernel
theorem dX4_takeFacts_110 : decode cX4_takeFacts 110 = .ok (.aload_n 0, 1) := by decide +kernel
theorem dX4_takeFacts_111 : decode cX4_takeFacts 111 = .ok (.getfield 21, 3) := by decide +kernel
theorem dX4_takeFacts_114 : decode cX4_takeFacts 114 = .ok (.getfield 188, 3) := by decide +kernel
theorem dX4_takeFacts_117 : decode cX4_takeFacts 117 = .ok (.iload 5, 2) := by decide +kernel
theorem dX4_takeFacts_119 : decode cX4_takeFacts 119 = .ok (.iaload, 1) := by decide +kernel
theorem dX4_takeFacts_120 : decode cX4_takeFacts 120 = .ok (.iastore, 1) := by decide +kernel
theorem dX4_takeFacts_121 : decode cX4_takeFacts 121 = .ok (.aload_n 0, 1) := by decide +kernel
theorem dX4_takeFacts_122 : decode cX4_takeFacts 122 = .ok (.getfield 56, 3) := by decide +kernel
theorem dX4_takeFacts_125 : decode cX4_takeFacts 125 = .ok (.bipush 6, 2) := by decide +kernel
theorem dX4_takeFacts_127 : decode cX4_takeFacts 127 = .ok (.iload 4, 2) := by decide +kernel
theorem dX4_takeFacts_129 : decode cX4_takeFacts 129 = .ok (.iastore, 1) := by decide +kernel
theorem dX4_takeFacts_130 : decode cX4_takeFacts 130 = .ok (.aload_n 0, 1) := by decide +kernel
theorem dX4_takeFacts_131 : decode cX4_takeFacts 131 = .ok (.getfield 56, 3) := by decide +kernel
theorem dX4_takeFacts_134 : decode cX4_takeFacts 134 = .ok (.bipush 7, 2) := by decide +kernel
theorem dX4_takeFacts_136 : decode cX4_takeFacts 136 = .ok (.aload_n 1, 1) := by decide +kernel
theorem dX4_takeFacts_137 : decode cX4_takeFacts 137 = .ok (.getfield 115, 3) := by decide +kernel
theorem dX4_takeFacts_140 : decode cX4_takeFacts 140 = .ok (.iload_n 2, 1) := by decide +kernel
theorem dX4_takeFacts_141 : decode cX4_takeFacts 141 = .ok (.baload, 1) := by decide +kernel
theorem dX4_takeFacts_142 : decode cX4_takeFacts 142 = .ok (.ifCond .eq 7, 3) := by decide +kernel
theorem dX4_takeFacts_145 : decode cX4_takeFacts 145 = .ok (.iconst 1, 1) := by decide +kernel
theorem dX4_takeFacts_146 : decode cX4_takeFacts 146 = .ok (.goto 4, 3) := by decide +kernel
theorem dX4_takeFacts_149 : decode cX4_takeFacts 149 = .ok (.iconst 0, 1) := by decide +kernel
theorem dX4_takeFacts_150 : decode cX4_takeFacts 150 = .ok (.iastore, 1) := by decide +kernel
theorem dX4_takeFacts_151 : decode cX4_takeFacts 151 = .ok (.aload_n 0, 1) := by decide +kernel
theorem dX4_takeFacts_152 : decode cX4_takeFacts 152 = .ok (.getfield 56, 3) := by decide +kernel
theorem dX4_takeFacts_155 : decode cX4_takeFacts 155 = .ok (.bipush 8, 2) := by decide +kernel
theorem dX4_takeFacts_157 : decode cX4_takeFacts 157 = .ok (.aload_n 1, 1) := by decide +kernel
theorem dX4_takeFacts_158 : decode cX4_takeFacts 158 = .ok (.getfield 197, 3) := by decide +kernel
theorem dX4_takeFacts_161 : decode cX4_takeFacts 161 = .ok (.iload_n 2, 1) := by decide +kernel
theorem dX4_takeFacts_162 : decode cX4_takeFacts 162 = .ok (.iaload, 1) := by decide +kernel
theorem dX4_takeFacts_163 : decode cX4_takeFacts 163 = .ok (.iastore, 1) := by decide +kernel
theorem dX4_takeFacts_164 : decode cX4_takeFacts 164 = .ok (.return_, 1) := by decide +kernel
theorem dX4_purposeHolds_0 : decode cX4_purposeHolds 0 = .ok (.aload_n 0, 1) := by decide +kernel
theorem dX4_purposeHolds_1 : decode cX4_purposeHolds 1 = .ok (.getfield 28, 3) := by decide +kernel
theorem dX4_purposeHolds_4 : decode cX4_purposeHolds 4 = .ok (.iload_n 1, 1) := by decide +kernel
theorem dX4_purposeHolds_5 : decode cX4_purposeHolds 5 = .ok (.iload_n 3, 1) := by decide +kernel
theorem dX4_purposeHolds_6 : decode cX4_purposeHolds 6 = .ok (.aload_n 0, 1) := by decide +kernel
theorem dX4_purposeHolds_7 : decode cX4_purposeHolds 7 = .ok (.getfield 12, 3) := by decide +kernel
theorem dX4_purposeHolds_10 : decode cX4_purposeHolds 10 = .ok (.iload_n 2, 1) := by decide +kernel
theorem dX4_purposeHolds_11 : decode cX4_purposeHolds 11 = .ok (.invokevirtual 174, 3) := by decide +kernel
theorem dX4_purposeHolds_14 : decode cX4_purposeHolds 14 = .ok (.invokevirtual 200, 3) := by decide +kernel
theorem dX4_purposeHolds_17 : decode cX4_purposeHolds 17 = .ok (.istore 4, 2) := by decide +kernel
theorem dX4_purposeHolds_19 : decode cX4_purposeHolds 19 = .ok (.iload 4, 2) := by decide +kernel
theorem dX4_purposeHolds_21 : decode cX4_purposeHolds 21 = .ok (.ifCond .lt 23, 3) := by decide +kernel
theorem dX4_purposeHolds_24 : decode cX4_purposeHolds 24 = .ok (.aload_n 0, 1) := by decide +kernel
theorem dX4_purposeHolds_25 : decode cX4_purposeHolds 25 = .ok (.getfield 28, 3) := by decide +kernel
theorem dX4_purposeHolds_28 : decode cX4_purposeHolds 28 = .ok (.iload 4, 2) := by decide +kernel
theorem dX4_purposeHolds_30 : decode cX4_purposeHolds 30 = .ok (.aload_n 0, 1) := by decide +kernel
theorem dX4_purposeHolds_31 : decode cX4_purposeHolds 31 = .ok (.getfield 56, 3) := by decide +kernel
theorem dX4_purposeHolds_34 : decode cX4_purposeHolds 34 = .ok (.invokevirtual 203, 3) := by decide +kernel
theorem dX4_purposeHolds_37 : decode cX4_purposeHolds 37 = .ok (.ifCond .eq 7, 3) := by decide +kernel
theorem dX4_purposeHolds_40 : decode cX4_purposeHolds 40 = .ok (.iconst 1, 1) := by decide +kernel
theorem dX4_purposeHolds_41 : decode cX4_purposeHolds 41 = .ok (.goto 4, 3) := by decide +kernel
theorem dX4_purposeHolds_44 : decode cX4_purposeHolds 44 = .ok (.iconst 0, 1) := by decide +kernel
theorem dX4_purposeHolds_45 : decode cX4_purposeHolds 45 = .ok (.ireturn, 1) := by decide +kernel
theorem dX5_init_0 : decode cX5_init 0 = .ok (.aload_n 0, 1) := by decide +kernel
theorem dX5_init_1 : decode cX5_init 1 = .ok (.invokespecial 5, 3) := by decide +kernel
theorem dX5_init_4 : decode cX5_init 4 = .ok (.aload_n 0, 1) := by decide +kernel
theorem dX5_init_5 : decode cX5_init 5 = .ok (.bipush 60, 2) := by decide +kernel
theorem dX5_init_7 : decode cX5_init 7 = .ok (.newarray .byte, 2) := by decide +kernel
theorem dX5_init_9 : decode cX5_init 9 = .ok (.putfield 11, 3) := by decide +kernel
theorem dX5_init_12 : decode cX5_init 12 = .ok (.aload_n 0, 1) := by decide +kernel
theorem dX5_init_13 : decode cX5_init 13 = .ok (.bipush 60, 2) := by decide +kernel
theorem dX5_init_15 : decode cX5_init 15 = .ok (.newarray .int, 2) := by decide +kernel
theorem dX5_init_17 : decode cX5_init 17 = .ok (.putfield 15, 3) := by decide +kernel
theorem dX5_init_20 : decode cX5_init 20 = .ok (.return_, 1) := by decide +kernel
theorem dX5_readText_0 : decode cX5_readText 0 = .ok (.aload_n 0, 1) := by decide +kernel
theorem dX5_readText_1 : decode cX5_readText 1 = .ok (.iload_n 1, 1) := by decide +kernel
theorem dX5_readText_2 : decode cX5_readText 2 = .ok (.aload_n 0, 1) := by decide +kernel
theorem dX5_readText_3 : decode cX5_readText 3 = .ok (.getfield 11, 3) := by decide +kernel
theorem dX5_readText_6 : decode cX5_readText 6 = .ok (.arraylength, 1) := by decide +kernel
theorem dX5_readText_7 : decode cX5_readText 7 = .ok (.invokestatic 19, 3) := by decide +kernel
theorem dX5_readText_10 : decode cX5_readText 10 = .ok (.putfield 25, 3) := by decide +kernel
theorem dX5_readText_13 : decode cX5_readText 13 = .ok (.aload_n 0, 1) := by decide +kernel
theorem dX5_readText_14 : decode cX5_readText 14 = .ok (.iconst 0, 1) := by decide +kernel
theorem dX5_readText_15 : decode cX5_readText 15 = .ok (.putfield 29, 3) := by decide +kernel
theorem dX5_readText_18 : decode cX5_readText 18 = .ok (.aload_n 0, 1) := by decide +kernel
theorem dX5_readText_19 : decode cX5_readText 19 = .ok (.iconst (-1), 1) := by decide +kernel
theorem dX5_readText_20 : decode cX5_readText 20 = .ok (.putfield 32, 3) := by decide +kernel
theorem dX5_readText_23 : decode cX5_readText 23 = .ok (.aload_n 0, 1) := by decide +kernel
theorem dX5_readText_24 : decode cX5_readText 24 = .ok (.iconst 0, 1) := by decide +kernel
theorem dX5_readText_25 : decode cX5_readText 25 = .ok (.invokevirtual 35, 3) := by decide +kernel
theorem dX5_readText_28 : decode cX5_readText 28 = .ok (.aload_n 0, 1) := by decide +kernel
theorem dX5_readText_29 : decode cX5_readText 29 = .ok (.iconst 0, 1) := by decide +kernel
theorem dX5_readText_30 : decode cX5_readText 30 = .ok (.invokevirtual 39, 3) := by decide +kernel
theorem dX5_readText_33 : decode cX5_readText 33 = .ok (.aload_n 0, 1) := by decide +kernel
theorem dX5_readText_34 : decode cX5_readText 34 = .ok (.getfield 42, 3) := by decide +kernel
theorem dX5_readText_37 : decode cX5_readText 37 = .ok (.aload_n 0, 1) := by decide +kernel
theorem dX5_readText_38 : decode cX5_readText 38 = .ok (.getfield 25, 3) := by decide +kernel
theorem dX5_readText_41 : decode cX5_readText 41 = .ok (.if_icmp .ge 7, 3) := by decide +kernel
theorem dX5_readText_44 : decode cX5_readText 44 = .ok (.aload_n 0, 1) := by decide +kernel
theorem dX5_readText_45 : decode cX5_readText 45 = .ok (.invokevirtual 45, 3) := by decide +kernel
theorem dX5_readText_48 : decode cX5_readText 48 = .ok (.aload_n 0, 1) := by decide +kernel
theorem dX5_readText_49 : decode cX5_readText 49 = .ok (.getfield 32, 3) := by decide +kernel
theorem dX5_readText_52 : decode cX5_readText 52 = .ok (.ireturn, 1) := by decide +kernel
theorem dX5_ors_0 : decode cX5_ors 0 = .ok (.aload_n 0, 1) := by decide +kernel
theorem dX5_ors_1 : decode cX5_ors 1 = .ok (.iload_n 1, 1) := by decide +kernel
theorem dX5_ors_2 : decode cX5_ors 2 = .ok (.invokevirtual 48, 3) := by decide +kernel
theorem dX5_ors_5 : decode cX5_ors 5 = .ok (.iconst 0, 1) := by decide +kernel
theorem dX5_ors_6 : decode cX5_ors 6 = .ok (.istore_n 2, 1) := by decide +kernel
theorem dX5_ors_7 : decode cX5_ors 7 = .ok (.iload_n 2, 1) := by decide +kernel
theorem dX5_ors_8 : decode cX5_ors 8 = .ok (.bipush 60, 2) := by decide +kernel
theorem dX5_ors_10 : decode cX5_ors 10 = .ok (.if_icmp .ge 29, 3) := by decide +kernel
theorem dX5_ors_13 : decode cX5_ors 13 = .ok (.aload_n 0, 1) := by decide +kernel
theorem dX5_ors_14 : decode cX5_ors 14 = .ok (.bipush 124, 2) := by decide +kernel
theorem dX5_ors_16 : decode cX5_ors 16 = .ok (.invokevirtual 51, 3) := by decide +kernel
theorem dX5_ors_19 : decode cX5_ors 19 = .ok (.ifCond .eq 20, 3) := by decide +kernel
theorem dX5_ors_22 : decode cX5_ors 22 = .ok (.aload_n 0, 1) := by decide +kernel
theorem dX5_ors_23 : decode cX5_ors 23 = .ok (.iload_n 1, 1) := by decide +kernel
theorem dX5_ors_24 : decode cX5_ors 24 = .ok (.invokevirtual 48, 3) := by decide +kernel
theorem dX5_ors_27 : decode cX5_ors 27 = .ok (.aload_n 0, 1) := by decide +kernel
theorem dX5_ors_28 : decode cX5_ors 28 = .ok (.bipush (-3), 2) := by decide +kernel
theorem dX5_ors_30 : decode cX5_ors 30 = .ok (.invokevirtual 55, 3) := by decide +kernel
theorem dX5_ors_33 : decode cX5_ors 33 = .ok (.iinc 2 1, 3) := by decide +kernel
theorem dX5_ors_36 : decode cX5_ors 36 = .ok (.goto (-29), 3) := by decide +kernel
theorem dX5_ors_39 : decode cX5_ors 39 = .ok (.return_, 1) := by decide +kernel
theorem dX5_ands_0 : decode cX5_ands 0 = .ok (.aload_n 0, 1) := by decide +kernel
theorem dX5_ands_1 : decode cX5_ands 1 = .ok (.iload_n 1, 1) := by decide +kernel
theorem dX5_ands_2 : decode cX5_ands 2 = .ok (.invokevirtual 58, 3) := by decide +kernel
theorem dX5_ands_5 : decode cX5_ands 5 = .ok (.iconst 0, 1) := by decide +kernel
theorem dX5_ands_6 : decode cX5_ands 6 = .ok (.istore_n 2, 1) := by decide +kernel
theorem dX5_ands_7 : decode cX5_ands 7 = .ok (.iload_n 2, 1) := by decide +kernel
theorem dX5_ands_8 : decode cX5_ands 8 = .ok (.bipush 60, 2) := by decide +kernel
theorem dX5_ands_10 : decode cX5_ands 10 = .ok (.if_icmp .ge 29, 3) := by decide +kernel
theorem dX5_ands_13 : decode cX5_ands 13 = .ok (.aload_n 0, 1) := by decide +kernel
theorem dX5_ands_14 : decode cX5_ands 14 = .ok (.bipush 38, 2) := by decide +kernel
theorem dX5_ands_16 : decode cX5_ands 16 = .ok (.invokevirtual 51, 3) := by decide +kernel
theorem dX5_ands_19 : decode cX5_ands 19 = .ok (.ifCond .eq 20, 3) := by decide +kernel
theorem dX5_ands_22 : decode cX5_ands 22 = .ok (.aload_n 0, 1) := by decide +kernel
theorem dX5_ands_23 : decode cX5_ands 23 = .ok (.iload_n 1, 1) := by decide +kernel
theorem dX5_ands_24 : decode cX5_ands 24 = .ok (.invokevirtual 58, 3) := by decide +kernel
theorem dX5_ands_27 : decode cX5_ands 27 = .ok (.aload_n 0, 1) := by decide +kernel
theorem dX5_ands_28 : decode cX5_ands 28 = .ok (.bipush (-2), 2) := by decide +kernel
theorem dX5_ands_30 : decode cX5_ands 30 = .ok (.invokevirtual 55, 3) := by decide +kernel
theorem dX5_ands_33 : decode cX5_ands 33 = .ok (.iinc 2 1, 3) := by decide +kernel
theorem dX5_ands_36 : decode cX5_ands 36 = .ok (.goto (-29), 3) := by decide +kernel
theorem dX5_ands_39 : decode cX5_ands 39 = .ok (.return_, 1) := by decide +kernel
theorem dX5_test_0 : decode cX5_test 0 = .ok (.aload_n 0, 1) := by decide +kernel
theorem dX5_test_1 : decode cX5_test 1 = .ok (.getfield 61, 3) := by decide +kernel
theorem dX5_test_4 : decode cX5_test 4 = .ok (.bipush 33, 2) := by decide +kernel
theorem dX5_test_6 : decode cX5_test 6 = .ok (.if_icmp .eq 12, 3) := by decide +kernel
theorem dX5_test_9 : decode cX5_test 9 = .ok (.aload_n 0, 1) := by decide +kernel
theorem dX5_test_10 : decode cX5_test 10 = .ok (.getfield 61, 3) := by decide +kernel
theorem dX5_test_13 : decode cX5_test 13 = .ok (.bipush 40, 2) := by decide +kernel
theorem dX5_test_15 : decode cX5_test 15 = .ok (.if_icmp .ne 7, 3) := by decide +kernel
theorem dX5_test_18 : decode cX5_test 18 = .ok (.iconst 1, 1) := by decide +kernel
theorem dX5_test_19 : decode cX5_test 19 = .ok (.goto 4, 3) := by decide +kernel
theorem dX5_test_22 : decode cX5_test 22 = .ok (.iconst 0, 1) := by decide +kernel
theorem dX5_test_23 : decode cX5_test 23 = .ok (.istore_n 2, 1) := by decide +kernel
theorem dX5_test_24 : decode cX5_test 24 = .ok (.iload_n 2, 1) := by decide +kernel
theorem dX5_test_25 : decode cX5_test 25 = .ok (.ifCond .eq 15, 3) := by decide +kernel
theorem dX5_test_28 : decode cX5_test 28 = .ok (.iload_n 1, 1) := by decide +kernel
theorem dX5_test_29 : decode cX5_test 29 = .ok (.iconst 5, 1) := by decide +kernel
theorem dX5_test_30 : decode cX5_test 30 = .ok (.if_icmp .lt 10, 3) := by decide +kernel
theorem dX5_test_33 : decode cX5_test 33 = .ok (.aload_n 0, 1) := by decide +kernel
theorem dX5_test_34 : decode cX5_test 34 = .ok (.invokevirtual 45, 3) := by decide +kernel
theorem dX5_test_37 : decode cX5_test 37 = .ok (.goto 88, 3) := by decide +kernel
theorem dX5_test_40 : decode cX5_test 40 = .ok (.aload_n 0, 1) := by decide +kernel
theorem dX5_test_41 : decode cX5_test 41 = .ok (.bipush 33, 2) := by decide +kernel
theorem dX5_test_43 : decode cX5_test 43 = .ok (.invokevirtual 51, 3) := by decide +kernel
theorem dX5_test_46 : decode cX5_test 46 = .ok (.ifCond .eq 18, 3) := by decide +kernel
theorem dX5_test_49 : decode cX5_test 49 = .ok (.aload_n 0, 1) := by decide +kernel
theorem dX5_test_50 : decode cX5_test 50 = .ok (.iload_n 1, 1) := by decide +kernel
theorem dX5_test_51 : decode cX5_test 51 = .ok (.iconst 1, 1) := by decide +kernel
theorem dX5_test_52 : decode cX5_test 52 = .ok (.iadd, 1) := by decide +kernel
theorem dX5_test_53 : decode cX5_test 53 = .ok (.invokevirtual 58, 3) := by decide +kernel
theorem dX5_test_56 : decode cX5_test 56 = .ok (.aload_n 0, 1) := by decide +kernel
theorem dX5_test_57 : decode cX5_test 57 = .ok (.iconst (-1), 1) := by decide +kernel
theorem dX5_test_58 : decode cX5_test 58 = .ok (.invokevirtual 55, 3) := by decide +kernel
theorem dX5_test_61 : decode cX5_test 61 = .ok (.goto 64, 3) := by decide +kernel
theorem dX5_test_64 : decode cX5_test 64 = .ok (.aload_n 0, 1) := by decide +kernel
theorem dX5_test_65 : decode cX5_test 65 = .ok (.bipush 40, 2) := by decide +kernel
theorem dX5_test_67 : decode cX5_test 67 = .ok (.invokevirtual 51, 3) := by decide +kernel
theorem dX5_test_70 : decode cX5_test 70 = .ok (.ifCond .eq 26, 3) := by decide +kernel
theorem dX5_test_73 : decode cX5_test 73 = .ok (.aload_n 0, 1) := by decide +kernel
theorem dX5_test_74 : decode cX5_test 74 = .ok (.iload_n 1, 1) := by decide +kernel
theorem dX5_test_75 : decode cX5_test 75 = .ok (.iconst 1, 1) := by decide +kernel
theorem dX5_test_76 : decode cX5_test 76 = .ok (.iadd, 1) := by decide +kernel
theorem dX5_test_77 : decode cX5_test 77 = .ok (.invokevirtual 39, 3) := by decide +kernel
theorem dX5_test_80 : decode cX5_test 80 = .ok (.aload_n 0, 1) := by decide +kernel
theorem dX5_test_81 : decode cX5_test 81 = .ok (.bipush 41, 2) := by decide +kernel
theorem dX5_test_83 : decode cX5_test 83 = .ok (.invokevirtual 51, 3) := by decide +kernel
theorem dX5_test_86 : decode cX5_test 86 = .ok (.ifCond .ne 39, 3) := by decide +kernel
theorem dX5_test_89 : decode cX5_test 89 = .ok (.aload_n 0, 1) := by decide +kernel
theorem dX5_test_90 : decode cX5_test 90 = .ok (.invokevirtual 45, 3) := by decide +kernel
theorem dX5_test_93 : decode cX5_test 93 = .ok (.goto 32, 3) := by decide +kernel
theorem dX5_test_96 : decode cX5_test 96 = .ok (.aload_n 0, 1) := by decide +kernel
theorem dX5_test_97 : decode cX5_test 97 = .ok (.invokevirtual 65, 3) := by decide +kernel
theorem dX5_test_100 : decode cX5_test 100 = .ok (.istore_n 3, 1) := by decide +kernel
theorem dX5_test_101 : decode cX5_test 101 = .ok (.aload_n 0, 1) := by decide +kernel
theorem dX5_test_102 : decode cX5_test 102 = .ok (.invokevirtual 69, 3) := by decide +kernel
theorem dX5_test_105 : decode cX5_test 105 = .ok (.istore 4, 2) := by decide +kernel
theorem dX5_test_107 : decode cX5_test 107 = .ok (.aload_n 0, 1) := by decide +kernel
theorem dX5_test_108 : decode cX5_test 108 = .ok (.iload_n 3, 1) := by decide +kernel
theorem dX5_test_109 : decode cX5_test 109 = .ok (.iconst 2, 1) := by decide +kernel
theorem dX5_test_110 : decode cX5_test 110 = .ok (.ishl, 1) := by decide +kernel
theorem dX5_test_111 : decode cX5_test 111 = .ok (.iload 4, 2) := by decide +kernel
theorem dX5_test_113 : decode cX5_test 113 = .ok (.ior, 1) := by decide +kernel
theorem dX5_test_114 : decode cX5_test 114 = .ok (.bipush 14, 2) := by decide +kernel
theorem dX5_test_116 : decode cX5_test 116 = .ok (.ishl, 1) := by decide +kernel
theorem dX5_test_117 : decode cX5_test 117 = .ok (.aload_n 0, 1) := by decide +kernel
theorem dX5_test_118 : decode cX5_test 118 = .ok (.invokevirtual 65, 3) := by decide +kernel
theorem dX5_test_121 : decode cX5_test 121 = .ok (.ior, 1) := by decide +kernel
theorem dX5_test_122 : decode cX5_test 122 = .ok (.invokevirtual 55, 3) := by decide +kernel
theorem dX5_test_125 : decode cX5_test 125 = .ok (.return_, 1) := by decide +kernel
theorem dX5_unit_0 : decode cX5_unit 0 = .ok (.ldc 72, 2) := by decide +kernel
theorem dX5_unit_2 : decode cX5_unit 2 = .ok (.aload_n 0, 1) := by decide +kernel
theorem dX5_unit_3 : decode cX5_unit 3 = .ok (.getfield 61, 3) := by decide +kernel
theorem dX5_unit_6 : decode cX5_unit 6 = .ok (.invokevirtual 74, 3) := by decide +kernel
theorem dX5_unit_9 : decode cX5_unit 9 = .ok (.istore_n 1, 1) := by decide +kernel
theorem dX5_unit_10 : decode cX5_unit 10 = .ok (.iload_n 1, 1) := by decide +kernel
theorem dX5_unit_11 : decode cX5_unit 11 = .ok (.ifCond .lt 19, 3) := by decide +kernel
theorem dX5_unit_14 : decode cX5_unit 14 = .ok (.aload_n 0, 1) := by decide +kernel
theorem dX5_unit_15 : decode cX5_unit 15 = .ok (.aload_n 0, 1) := by decide +kernel
theorem dX5_unit_16 : decode cX5_unit 16 = .ok (.getfield 42, 3) := by decide +kernel
theorem dX5_unit_19 : decode cX5_unit 19 = .ok (.iconst 1, 1) := by decide +kernel
theorem dX5_unit_20 : decode cX5_unit 20 = .ok (.iadd, 1) := by decide +kernel
theorem dX5_unit_21 : decode cX5_unit 21 = .ok (.invokevirtual 35, 3) := by decide +kernel
theorem dX5_unit_24 : decode cX5_unit 24 = .ok (.sipush 10000, 3) := by decide +kernel
theorem dX5_unit_27 : decode cX5_unit 27 = .ok (.iload_n 1, 1) := by decide +kernel
theorem dX5_unit_28 : decode cX5_unit 28 = .ok (.iadd, 1) := by decide +kernel
theorem dX5_unit_29 : decode cX5_unit 29 = .ok (.ireturn, 1) := by decide +kernel
theorem dX5_unit_30 : decode cX5_unit 30 = .ok (.aload_n 0, 1) := by decide +kernel
theorem dX5_unit_31 : decode cX5_unit 31 = .ok (.getfield 61, 3) := by decide +kernel
theorem dX5_unit_34 : decode cX5_unit 34 = .ok (.bipush 48, 2) := by decide +kernel
theorem dX5_unit_36 : decode cX5_unit 36 = .ok (.if_icmp .lt 12, 3) := by decide +kernel
theorem dX5_unit_39 : decode cX5_unit 39 = .ok (.aload_n 0, 1) := by decide +kernel
theorem dX5_unit_40 : decode cX5_unit 40 = .ok (.getfield 61, 3) := by decide +kernel
theorem dX5_unit_43 : decode cX5_unit 43 = .ok (.bipush 57, 2) := by decide +kernel
theorem dX5_unit_45 : decode cX5_unit 45 = .ok (.if_icmp .le 7, 3) := by decide +kernel
theorem dX5_unit_48 : decode cX5_unit 48 = .ok (.aload_n 0, 1) := by decide +kernel
theorem dX5_unit_49 : decode cX5_unit 49 = .ok (.invokevirtual 45, 3) := by decide +kernel
theorem dX5_unit_52 : decode cX5_unit 52 = .ok (.iconst 0, 1) := by decide +kernel
theorem dX5_unit_53 : decode cX5_unit 53 = .ok (.istore_n 2, 1) := by decide +kernel
theorem dX5_unit_54 : decode cX5_unit 54 = .ok (.iconst 0, 1) := by decide +kernel
theorem dX5_unit_55 : decode cX5_unit 55 = .ok (.istore_n 3, 1) := by decide +kernel
theorem dX5_unit_56 : decode cX5_unit 56 = .ok (.iload_n 3, 1) := by decide +kernel
theorem dX5_unit_57 : decode cX5_unit 57 = .ok (.iconst 4, 1) := by decide +kernel
theorem dX5_unit_58 : decode cX5_unit 58 = .ok (.if_icmp .ge 50, 3) := by decide +kernel
theorem dX5_unit_61 : decode cX5_unit 61 = .ok (.aload_n 0, 1) := by decide +kernel
theorem dX5_unit_62 : decode cX5_unit 62 = .ok (.getfield 61, 3) := by decide +kernel
theorem dX5_unit_65 : decode cX5_unit 65 = .ok (.bipush 48, 2) := by decide +kernel
theorem dX5_unit_67 : decode cX5_unit 67 = .ok (.if_icmp .lt 41, 3) := by decide +kernel
theorem dX5_unit_70 : decode cX5_unit 70 = .ok (.aload_n 0, 1) := by decide +kernel
theorem dX5_unit_71 : decode cX5_unit 71 = .ok (.getfield 61, 3) := by decide +kernel
theorem dX5_unit_74 : decode cX5_unit 74 = .ok (.bipush 57, 2) := by decide +kernel
theorem dX5_unit_76 : decode cX5_unit 76 = .ok (.if_icmp .gt 32, 3) := by decide +kernel
theorem dX5_unit_79 : decode cX5_unit 79 = .ok (.iload_n 2, 1) := by decide +kernel
theorem dX5_unit_80 : decode cX5_unit 80 = .ok (.bipush 10, 2) := by decide +kernel
theorem dX5_unit_82 : decode cX5_unit 82 = .ok (.imul, 1) := by decide +kernel
theorem dX5_unit_83 : decode cX5_unit 83 = .ok (.aload_n 0, 1) := by decide +kernel
theorem dX5_unit_84 : decode cX5_unit 84 = .ok (.getfield 61, 3) := by decide +kernel
theorem dX5_unit_87 : decode cX5_unit 87 = .ok (.bipush 48, 2) := by decide +kernel
theorem dX5_unit_89 : decode cX5_unit 89 = .ok (.isub, 1) := by decide +kernel
theorem dX5_unit_90 : decode cX5_unit 90 = .ok (.iadd, 1) := by decide +kernel
theorem dX5_unit_91 : decode cX5_unit 91 = .ok (.istore_n 2, 1) := by decide +kernel
theorem dX5_unit_92 : decode cX5_unit 92 = .ok (.aload_n 0, 1) := by decide +kernel
theorem dX5_unit_93 : decode cX5_unit 93 = .ok (.aload_n 0, 1) := by decide +kernel
theorem dX5_unit_94 : decode cX5_unit 94 = .ok (.getfield 42, 3) := by decide +kernel
theorem dX5_unit_97 : decode cX5_unit 97 = .ok (.iconst 1, 1) := by decide +kernel
theorem dX5_unit_98 : decode cX5_unit 98 = .ok (.iadd, 1) := by decide +kernel
theorem dX5_unit_99 : decode cX5_unit 99 = .ok (.invokevirtual 35, 3) := by decide +kernel
theorem dX5_unit_102 : decode cX5_unit 102 = .ok (.iinc 3 1, 3) := by decide +kernel
theorem dX5_unit_105 : decode cX5_unit 105 = .ok (.goto (-49), 3) := by decide +kernel
theorem dX5_unit_108 : decode cX5_unit 108 = .ok (.iload_n 2, 1) := by decide +kernel
theorem dX5_unit_109 : decode cX5_unit 109 = .ok (.ireturn, 1) := by decide +kernel
theorem dX5_sign_0 : decode cX5_sign 0 = .ok (.ldc 80, 2) := by decide +kernel
theorem dX5_sign_2 : decode cX5_sign 2 = .ok (.aload_n 0, 1) := by decide +kernel
theorem dX5_sign_3 : decode cX5_sign 3 = .ok (.getfield 61, 3) := by decide +kernel
theorem dX5_sign_6 : decode cX5_sign 6 = .ok (.invokevirtual 74, 3) := by decide +kernel
theorem dX5_sign_9 : decode cX5_sign 9 = .ok (.istore_n 1, 1) := by decide +kernel
theorem dX5_sign_10 : decode cX5_sign 10 = .ok (.iload_n 1, 1) := by decide +kernel
theorem dX5_sign_11 : decode cX5_sign 11 = .ok (.ifCond .ge 9, 3) := by decide +kernel
theorem dX5_sign_14 : decode cX5_sign 14 = .ok (.aload_n 0, 1) := by decide +kernel
theorem dX5_sign_15 : decode cX5_sign 15 = .ok (.invokevirtual 45, 3) := by decide +kernel
theorem dX5_sign_18 : decode cX5_sign 18 = .ok (.iconst 0, 1) := by decide +kernel
theorem dX5_sign_19 : decode cX5_sign 19 = .ok (.ireturn, 1) := by decide +kernel
theorem dX5_sign_20 : decode cX5_sign 20 = .ok (.aload_n 0, 1) := by decide +kernel
theorem dX5_sign_21 : decode cX5_sign 21 = .ok (.aload_n 0, 1) := by decide +kernel
theorem dX5_sign_22 : decode cX5_sign 22 = .ok (.getfield 42, 3) := by decide +kernel
theorem dX5_sign_25 : decode cX5_sign 25 = .ok (.iconst 1, 1) := by decide +kernel
theorem dX5_sign_26 : decode cX5_sign 26 = .ok (.iadd, 1) := by decide +kernel
theorem dX5_sign_27 : decode cX5_sign 27 = .ok (.invokevirtual 35, 3) := by decide +kernel
theorem dX5_sign_30 : decode cX5_sign 30 = .ok (.iload_n 1, 1) := by decide +kernel
theorem dX5_sign_31 : decode cX5_sign 31 = .ok (.ireturn, 1) := by decide +kernel
theorem dX5_take_0 : decode cX5_take 0 = .ok (.aload_n 0, 1) := by decide +kernel
theorem dX5_take_1 : decode cX5_take 1 = .ok (.getfield 61, 3) := by decide +kernel
theorem dX5_take_4 : decode cX5_take 4 = .ok (.iload_n 1, 1) := by decide +kernel
theorem dX5_take_5 : decode cX5_take 5 = .ok (.if_icmp .eq 5, 3) := by decide +kernel
theorem dX5_take_8 : decode cX5_take 8 = .ok (.iconst 0, 1) := by decide +kernel
theorem dX5_take_9 : decode cX5_take 9 = .ok (.ireturn, 1) := by decide +kernel
theorem dX5_take_10 : decode cX5_take 10 = .ok (.aload_n 0, 1) := by decide +kernel
theorem dX5_take_11 : decode cX5_take 11 = .ok (.aload_n 0, 1) := by decide +kernel
theorem dX5_take_12 : decode cX5_take 12 = .ok (.getfield 42, 3) := by decide +kernel
theorem dX5_take_15 : decode cX5_take 15 = .ok (.iconst 1, 1) := by decide +kernel
theorem dX5_take_16 : decode cX5_take 16 = .ok (.iadd, 1) := by decide +kernel
theorem dX5_take_17 : decode cX5_take 17 = .ok (.invokevirtual 35, 3) := by decide +kernel
theorem dX5_take_20 : decode cX5_take 20 = .ok (.iconst 1, 1) := by decide +kernel
theorem dX5_take_21 : decode cX5_take 21 = .ok (.ireturn, 1) := by decide +kernel
theorem dX5_goTo_0 : decode cX5_goTo 0 = .ok (.aload_n 0, 1) := by decide +kernel
theorem dX5_goTo_1 : decode cX5_goTo 1 = .ok (.iload_n 1, 1) := by decide +kernel
theorem dX5_goTo_2 : decode cX5_goTo 2 = .ok (.putfield 42, 3) := by decide +kernel
theorem dX5_goTo_5 : decode cX5_goTo 5 = .ok (.aload_n 0, 1) := by decide +kernel
theorem dX5_goTo_6 : decode cX5_goTo 6 = .ok (.iload_n 1, 1) := by decide +kernel
theorem dX5_goTo_7 : decode cX5_goTo 7 = .ok (.ifCond .lt 25, 3) := by decide +kernel
theorem dX5_goTo_10 : decode cX5_goTo 10 = .ok (.iload_n 1, 1) := by decide +kernel
theorem dX5_goTo_11 : decode cX5_goTo 11 = .ok (.aload_n 0, 1) := by decide +kernel
theorem dX5_goTo_12 : decode cX5_goTo 12 = .ok (.getfield 25, 3) := by decide +kernel
theorem dX5_goTo_15 : decode cX5_goTo 15 = .ok (.if_icmp .ge 17, 3) := by decide +kernel
theorem dX5_goTo_18 : decode cX5_goTo 18 = .ok (.aload_n 0, 1) := by decide +kernel
theorem dX5_goTo_19 : decode cX5_goTo 19 = .ok (.getfield 11, 3) := by decide +kernel
theorem dX5_goTo_22 : decode cX5_goTo 22 = .ok (.iload_n 1, 1) := by decide +kernel
theorem dX5_goTo_23 : decode cX5_goTo 23 = .ok (.baload, 1) := by decide +kernel
theorem dX5_goTo_24 : decode cX5_goTo 24 = .ok (.sipush 255, 3) := by decide +kernel
theorem dX5_goTo_27 : decode cX5_goTo 27 = .ok (.iand, 1) := by decide +kernel
theorem dX5_goTo_28 : decode cX5_goTo 28 = .ok (.i2c, 1) := by decide +kernel
theorem dX5_goTo_29 : decode cX5_goTo 29 = .ok (.goto 4, 3) := by decide +kernel
theorem dX5_goTo_32 : decode cX5_goTo 32 = .ok (.iconst 0, 1) := by decide +kernel
theorem dX5_goTo_33 : decode cX5_goTo 33 = .ok (.putfield 61, 3) := by decide +kernel
theorem dX5_goTo_36 : decode cX5_goTo 36 = .ok (.return_, 1) := by decide +kernel
theorem dX5_fail_0 : decode cX5_fail 0 = .ok (.aload_n 0, 1) := by decide +kernel
theorem dX5_fail_1 : decode cX5_fail 1 = .ok (.getfield 32, 3) := by decide +kernel
theorem dX5_fail_4 : decode cX5_fail 4 = .ok (.ifCond .ge 11, 3) := by decide +kernel
theorem dX5_fail_7 : decode cX5_fail 7 = .ok (.aload_n 0, 1) := by decide +kernel
theorem dX5_fail_8 : decode cX5_fail 8 = .ok (.aload_n 0, 1) := by decide +kernel
theorem dX5_fail_9 : decode cX5_fail 9 = .ok (.getfield 42, 3) := by decide +kernel
theorem dX5_fail_12 : decode cX5_fail 12 = .ok (.putfield 32, 3) := by decide +kernel
theorem dX5_fail_15 : decode cX5_fail 15 = .ok (.aload_n 0, 1) := by decide +kernel
theorem dX5_fail_16 : decode cX5_fail 16 = .ok (.iconst 0, 1) := by decide +kernel
theorem dX5_fail_17 : decode cX5_fail 17 = .ok (.putfield 61, 3) := by decide +kernel
theorem dX5_fail_20 : decode cX5_fail 20 = .ok (.return_, 1) := by decide +kernel
theorem dX5_write_0 : decode cX5_write 0 = .ok (.aload_n 0, 1) := by decide +kernel
theorem dX5_write_1 : decode cX5_write 1 = .ok (.getfield 29, 3) := by decide +kernel
theorem dX5_write_4 : decode cX5_write 4 = .ok (.aload_n 0, 1) := by decide +kernel
theorem dX5_write_5 : decode cX5_write 5 = .ok (.getfield 15, 3) := by decide +kernel
theorem dX5_write_8 : decode cX5_write 8 = .ok (.arraylength, 1) := by decide +kernel
theorem dX5_write_9 : decode cX5_write 9 = .ok (.if_icmp .ge 23, 3) := by decide +kernel
theorem dX5_write_12 : decode cX5_write 12 = .ok (.aload_n 0, 1) := by decide +kernel
theorem dX5_write_13 : decode cX5_write 13 = .ok (.getfield 15, 3) := by decide +kernel
theorem dX5_write_16 : decode cX5_write 16 = .ok (.aload_n 0, 1) := by decide +kernel
theorem dX5_write_17 : decode cX5_write 17 = .ok (.getfield 29, 3) := by decide +kernel
theorem dX5_write_20 : decode cX5_write 20 = .ok (.iload_n 1, 1) := by decide +kernel
theorem dX5_write_21 : decode cX5_write 21 = .ok (.iastore, 1) := by decide +kernel
theorem dX5_write_22 : decode cX5_write 22 = .ok (.aload_n 0, 1) := by decide +kernel
theorem dX5_write_23 : decode cX5_write 23 = .ok (.dup, 1) := by decide +kernel
theorem dX5_write_24 : decode cX5_write 24 = .ok (.getfield 29, 3) := by decide +kernel
theorem dX5_write_27 : decode cX5_write 27 = .ok (.iconst 1, 1) := by decide +kernel
theorem dX5_write_28 : decode cX5_write 28 = .ok (.iadd, 1) := by decide +kernel
theorem dX5_write_29 : decode cX5_write 29 = .ok (.putfield 29, 3) := by decide +kernel
theorem dX5_write_32 : decode cX5_write 32 = .ok (.return_, 1) := by decide +kernel
theorem dX6_init_0 : decode cX6_init 0 = .ok (.aload_n 0, 1) := by decide +kernel
theorem dX6_init_1 : decode cX6_init 1 = .ok (.invokespecial 3, 3) := by decide +kernel
theorem dX6_init_4 : decode cX6_init 4 = .ok (.aload_n 0, 1) := by decide +kernel
theorem dX6_init_5 : decode cX6_init 5 = .ok (.bipush 60, 2) := by decide +kernel
theorem dX6_init_7 : decode cX6_init 7 = .ok (.newarray .int, 2) := by decide +kernel
theorem dX6_init_9 : decode cX6_init 9 = .ok (.putfield 9, 3) := by decide +kernel
theorem dX6_init_12 : decode cX6_init 12 = .ok (.aload_n 0, 1) := by decide +kernel
theorem dX6_init_13 : decode cX6_init 13 = .ok (.bipush 60, 2) := by decide +kernel
theorem dX6_init_15 : decode cX6_init 15 = .ok (.newarray .int, 2) := by decide +kernel
theorem dX6_init_17 : decode cX6_init 17 = .ok (.putfield 15, 3) := by decide +kernel
theorem dX6_init_20 : decode cX6_init 20 = .ok (.aload_n 0, 1) := by decide +kernel
theorem dX6_init_21 : decode cX6_init 21 = .ok (.bipush 60, 2) := by decide +kernel
theorem dX6_init_23 : decode cX6_init 23 = .ok (.newarray .int, 2) := by decide +kernel
theorem dX6_init_25 : decode cX6_init 25 = .ok (.putfield 18, 3) := by decide +kernel
theorem dX6_init_28 : decode cX6_init 28 = .ok (.aload_n 0, 1) := by decide +kernel
theorem dX6_init_29 : decode cX6_init 29 = .ok (.bipush 60, 2) := by decide +kernel
theorem dX6_init_31 : decode cX6_init 31 = .ok (.newarray .int, 2) := by decide +kernel
theorem dX6_init_33 : decode cX6_init 33 = .ok (.putfield 21, 3) := by decide +kernel
theorem dX6_init_36 : decode cX6_init 36 = .ok (.aload_n 0, 1) := by decide +kernel
theorem dX6_init_37 : decode cX6_init 37 = .ok (.bipush 40, 2) := by decide +kernel
theorem dX6_init_39 : decode cX6_init 39 = .ok (.newarray .int, 2) := by decide +kernel
theorem dX6_init_41 : decode cX6_init 41 = .ok (.putfield 24, 3) := by decide +kernel
theorem dX6_init_44 : decode cX6_init 44 = .ok (.aload_n 0, 1) := by decide +kernel
theorem dX6_init_45 : decode cX6_init 45 = .ok (.bipush 40, 2) := by decide +kernel
theorem dX6_init_47 : decode cX6_init 47 = .ok (.newarray .int, 2) := by decide +kernel
theorem dX6_init_49 : decode cX6_init 49 = .ok (.putfield 27, 3) := by decide +kernel
theorem dX6_init_52 : decode cX6_init 52 = .ok (.aload_n 0, 1) := by decide +kernel
theorem dX6_init_53 : decode cX6_init 53 = .ok (.bipush 80, 2) := by decide +kernel
theorem dX6_init_55 : decode cX6_init 55 = .ok (.newarray .int, 2) := by decide +kernel
theorem dX6_init_57 : decode cX6_init 57 = .ok (.putfield 30, 3) := by decide +kernel
theorem dX6_init_60 : decode cX6_init 60 = .ok (.aload_n 0, 1) := by decide +kernel
theorem dX6_init_61 : decode cX6_init 61 = .ok (.bipush 80, 2) := by decide +kernel
theorem dX6_init_63 : decode cX6_init 63 = .ok (.newarray .int, 2) := by decide +kernel
theorem dX6_init_65 : decode cX6_init 65 = .ok (.putfield 33, 3) := by decide +kernel
theorem dX6_init_68 : decode cX6_init 68 = .ok (.aload_n 0, 1) := by decide +kernel
theorem dX6_init_69 : decode cX6_init 69 = .ok (.bipush 80, 2) := by decide +kernel
theorem dX6_init_71 : decode cX6_init 71 = .ok (.newarray .int, 2) := by decide +kernel
theorem dX6_init_73 : decode cX6_init 73 = .ok (.putfield 36, 3) := by decide +kernel
theorem dX6_init_76 : decode cX6_init 76 = .ok (.aload_n 0, 1) := by decide +kernel
theorem dX6_init_77 : decode cX6_init 77 = .ok (.bipush 80, 2) := by decide +kernel
theorem dX6_init_79 : decode cX6_init 79 = .ok (.newarray .int, 2) := by decide +kernel
theorem dX6_init_81 : decode cX6_init 81 = .ok (.putfield 39, 3) := by decide +kernel
theorem dX6_init_84 : decode cX6_init 84 = .ok (.return_, 1) := by decide +kernel
theorem dX6_hasMan_0 : decode cX6_hasMan 0 = .ok (.iload_n 1, 1) := by decide +kernel
theorem dX6_hasMan_1 : decode cX6_hasMan 1 = .ok (.ifCond .lt 15, 3) := by decide +kernel
theorem dX6_hasMan_4 : decode cX6_hasMan 4 = .ok (.iload_n 1, 1) := by decide +kernel
theorem dX6_hasMan_5 : decode cX6_hasMan 5 = .ok (.aload_n 0, 1) := by decide +kernel
theorem dX6_hasMan_6 : decode cX6_hasMan 6 = .ok (.getfield 42, 3) := by decide +kernel
theorem dX6_hasMan_9 : decode cX6_hasMan 9 = .ok (.if_icmp .ge 7, 3) := by decide +kernel
theorem dX6_hasMan_12 : decode cX6_hasMan 12 = .ok (.iconst 1, 1) := by decide +kernel
theorem dX6_hasMan_13 : decode cX6_hasMan 13 = .ok (.goto 4, 3) := by decide +kernel
theorem dX6_hasMan_16 : decode cX6_hasMan 16 = .ok (.iconst 0, 1) := by decide +kernel
theorem dX6_hasMan_17 : decode cX6_hasMan 17 = .ok (.ireturn, 1) := by decide +kernel
theorem dX6_addMove_0 : decode cX6_addMove 0 = .ok (.aload_n 0, 1) := by decide +kernel
theorem dX6_addMove_1 : decode cX6_addMove 1 = .ok (.getfield 9, 3) := by decide +kernel
theorem dX6_addMove_4 : decode cX6_addMove 4 = .ok (.aload_n 0, 1) := by decide +kernel
theorem dX6_addMove_5 : decode cX6_addMove 5 = .ok (.getfield 46, 3) := by decide +kernel
theorem dX6_addMove_8 : decode cX6_addMove 8 = .ok (.iload_n 1, 1) := by decide +kernel
theorem dX6_addMove_9 : decode cX6_addMove 9 = .ok (.iastore, 1) := by decide +kernel
theorem dX6_addMove_10 : decode cX6_addMove 10 = .ok (.aload_n 0, 1) := by decide +kernel
theorem dX6_addMove_11 : decode cX6_addMove 11 = .ok (.getfield 15, 3) := by decide +kernel
theorem dX6_addMove_14 : decode cX6_addMove 14 = .ok (.aload_n 0, 1) := by decide +kernel
theorem dX6_addMove_15 : decode cX6_addMove 15 = .ok (.getfield 46, 3) := by decide +kernel
theorem dX6_addMove_18 : decode cX6_addMove 18 = .ok (.iload_n 2, 1) := by decide +kernel
theorem dX6_addMove_19 : decode cX6_addMove 19 = .ok (.iastore, 1) := by decide +kernel
theorem dX6_addMove_20 : decode cX6_addMove 20 = .ok (.aload_n 0, 1) := by decide +kernel
theorem dX6_addMove_21 : decode cX6_addMove 21 = .ok (.getfield 18, 3) := by decide +kernel
theorem dX6_addMove_24 : decode cX6_addMove 24 = .ok (.aload_n 0, 1) := by decide +kernel
theorem dX6_addMove_25 : decode cX6_addMove 25 = .ok (.getfield 46, 3) := by decide +kernel
theorem dX6_addMove_28 : decode cX6_addMove 28 = .ok (.iload_n 3, 1) := by decide +kernel
theorem dX6_addMove_29 : decode cX6_addMove 29 = .ok (.iastore, 1) := by decide +kernel
theorem dX6_addMove_30 : decode cX6_addMove 30 = .ok (.aload_n 0, 1) := by decide +kernel
theorem dX6_addMove_31 : decode cX6_addMove 31 = .ok (.getfield 21, 3) := by decide +kernel
theorem dX6_addMove_34 : decode cX6_addMove 34 = .ok (.aload_n 0, 1) := by decide +kernel
theorem dX6_addMove_35 : decode cX6_addMove 35 = .ok (.getfield 46, 3) := by decide +kernel
theorem dX6_addMove_38 : decode cX6_addMove 38 = .ok (.iload 4, 2) := by decide +kernel
theorem dX6_addMove_40 : decode cX6_addMove 40 = .ok (.iastore, 1) := by decide +kernel
theorem dX6_addMove_41 : decode cX6_addMove 41 = .ok (.aload_n 0, 1) := by decide +kernel
theorem dX6_addMove_42 : decode cX6_addMove 42 = .ok (.dup, 1) := by decide +kernel
theorem dX6_addMove_43 : decode cX6_addMove 43 = .ok (.getfield 46, 3) := by decide +kernel
theorem dX6_addMove_46 : decode cX6_addMove 46 = .ok (.iconst 1, 1) := by decide +kernel
theorem dX6_addMove_47 : decode cX6_addMove 47 = .ok (.iadd, 1) := by decide +kernel
theorem dX6_addMove_48 : decode cX6_addMove 48 = .ok (.putfield 46, 3) := by decide +kernel
theorem dX6_addMove_51 : decode cX6_addMove 51 = .ok (.aload_n 0, 1) := by decide +kernel
theorem dX6_addMove_52 : decode cX6_addMove 52 = .ok (.getfield 46, 3) := by decide +kernel
theorem dX6_addMove_55 : decode cX6_addMove 55 = .ok (.ireturn, 1) := by decide +kernel
theorem dX6_addMan_0 : decode cX6_addMan 0 = .ok (.aload_n 0, 1) := by decide +kernel
theorem dX6_addMan_1 : decode cX6_addMan 1 = .ok (.getfield 24, 3) := by decide +kernel
theorem dX6_addMan_4 : decode cX6_addMan 4 = .ok (.aload_n 0, 1) := by decide +kernel
theorem dX6_addMan_5 : decode cX6_addMan 5 = .ok (.getfield 42, 3) := by decide +kernel
theorem dX6_addMan_8 : decode cX6_addMan 8 = .ok (.iload_n 1, 1) := by decide +kernel
theorem dX6_addMan_9 : decode cX6_addMan 9 = .ok (.iastore, 1) := by decide +kernel
theorem dX6_addMan_10 : decode cX6_addMan 10 = .ok (.aload_n 0, 1) := by decide +kernel
theorem dX6_addMan_11 : decode cX6_addMan 11 = .ok (.getfield 27, 3) := by decide +kernel
theorem dX6_addMan_14 : decode cX6_addMan 14 = .ok (.aload_n 0, 1) := by decide +kernel
theorem dX6_addMan_15 : decode cX6_addMan 15 = .ok (.getfield 42, 3) := by decide +kernel
theorem dX6_addMan_18 : decode cX6_addMan 18 = .ok (.iload_n 2, 1) := by decide +kernel
theorem dX6_addMan_19 : decode cX6_addMan 19 = .ok (.iastore, 1) := by decide +kernel
theorem dX6_addMan_20 : decode cX6_addMan 20 = .ok (.aload_n 0, 1) := by decide +kernel
theorem dX6_addMan_21 : decode cX6_addMan 21 = .ok (.dup, 1) := by decide +kernel
theorem dX6_addMan_22 : decode cX6_addMan 22 = .ok (.getfield 42, 3) := by decide +kernel
theorem dX6_addMan_25 : decode cX6_addMan 25 = .ok (.iconst 1, 1) := by decide +kernel
theorem dX6_addMan_26 : decode cX6_addMan 26 = .ok (.iadd, 1) := by decide +kernel
theorem dX6_addMan_27 : decode cX6_addMan 27 = .ok (.putfield 42, 3) := by decide +kernel
theorem dX6_addMan_30 : decode cX6_addMan 30 = .ok (.aload_n 0, 1) := by decide +kernel
theorem dX6_addMan_31 : decode cX6_addMan 31 = .ok (.getfield 42, 3) := by decide +kernel
theorem dX6_addMan_34 : decode cX6_addMan 34 = .ok (.iconst 1, 1) := by decide +kernel
theorem dX6_addMan_35 : decode cX6_addMan 35 = .ok (.isub, 1) := by decide +kernel
theorem dX6_addMan_36 : decode cX6_addMan 36 = .ok (.ireturn, 1) := by decide +kernel
theorem dX6_addState_0 : decode cX6_addState 0 = .ok (.aload_n 0, 1) := by decide +kernel
theorem dX6_addState_1 : decode cX6_addState 1 = .ok (.getfield 30, 3) := by decide +kernel
theorem dX6_addState_4 : decode cX6_addState 4 = .ok (.aload_n 0, 1) := by decide +kernel
theorem dX6_addState_5 : decode cX6_addState 5 = .ok (.getfield 49, 3) := by decide +kernel
theorem dX6_addState_8 : decode cX6_addState 8 = .ok (.iload_n 1, 1) := by decide +kernel
theorem dX6_addState_9 : decode cX6_addState 9 = .ok (.iastore, 1) := by decide +kernel
theorem dX6_addState_10 : decode cX6_addState 10 = .ok (.aload_n 0, 1) := by decide +kernel
theorem dX6_addState_11 : decode cX6_addState 11 = .ok (.getfield 33, 3) := by decide +kernel
theorem dX6_addState_14 : decode cX6_addState 14 = .ok (.aload_n 0, 1) := by decide +kernel
theorem dX6_addState_15 : decode cX6_addState 15 = .ok (.getfield 49, 3) := by decide +kernel
theorem dX6_addState_18 : decode cX6_addState 18 = .ok (.iload_n 2, 1) := by decide +kernel
theorem dX6_addState_19 : decode cX6_addState 19 = .ok (.iastore, 1) := by decide +kernel
theorem dX6_addState_20 : decode cX6_addState 20 = .ok (.aload_n 0, 1) := by decide +kernel
theorem dX6_addState_21 : decode cX6_addState 21 = .ok (.getfield 36, 3) := by decide +kernel
theorem dX6_addState_24 : decode cX6_addState 24 = .ok (.aload_n 0, 1) := by decide +kernel
theorem dX6_addState_25 : decode cX6_addState 25 = .ok (.getfield 49, 3) := by decide +kernel
theorem dX6_addState_28 : decode cX6_addState 28 = .ok (.iload_n 3, 1) := by decide +kernel
theorem dX6_addState_29 : decode cX6_addState 29 = .ok (.iastore, 1) := by decide +kernel
theorem dX6_addState_30 : decode cX6_addState 30 = .ok (.aload_n 0, 1) := by decide +kernel
theorem dX6_addState_31 : decode cX6_addState 31 = .ok (.getfield 39, 3) := by decide +kernel
theorem dX6_addState_34 : decode cX6_addState 34 = .ok (.aload_n 0, 1) := by decide +kernel
theorem dX6_addState_35 : decode cX6_addState 35 = .ok (.getfield 49, 3) := by decide +kernel
theorem dX6_addState_38 : decode cX6_addState 38 = .ok (.iload 4, 2) := by decide +kernel
theorem dX6_addState_40 : decode cX6_addState 40 = .ok (.iastore, 1) := by decide +kernel
theorem dX6_addState_41 : decode cX6_addState 41 = .ok (.aload_n 0, 1) := by decide +kernel
theorem dX6_addState_42 : decode cX6_addState 42 = .ok (.dup, 1) := by decide +kernel
theorem dX6_addState_43 : decode cX6_addState 43 = .ok (.getfield 49, 3) := by decide +kernel
theorem dX6_addState_46 : decode cX6_addState 46 = .ok (.iconst 1, 1) := by decide +kernel
theorem dX6_addState_47 : decode cX6_addState 47 = .ok (.iadd, 1) := by decide +kernel
theorem dX6_addState_48 : decode cX6_addState 48 = .ok (.putfield 49, 3) := by decide +kernel
theorem dX6_addState_51 : decode cX6_addState 51 = .ok (.aload_n 0, 1) := by decide +kernel
theorem dX6_addState_52 : decode cX6_addState 52 = .ok (.getfield 49, 3) := by decide +kernel
theorem dX6_addState_55 : decode cX6_addState 55 = .ok (.ireturn, 1) := by decide +kernel
theorem dX6_unitAt_0 : decode cX6_unitAt 0 = .ok (.bipush (-9), 2) := by decide +kernel
theorem dX6_unitAt_2 : decode cX6_unitAt 2 = .ok (.istore 4, 2) := by decide +kernel
theorem dX6_unitAt_4 : decode cX6_unitAt 4 = .ok (.iconst 0, 1) := by decide +kernel
theorem dX6_unitAt_5 : decode cX6_unitAt 5 = .ok (.istore 5, 2) := by decide +kernel
theorem dX6_unitAt_7 : decode cX6_unitAt 7 = .ok (.iconst 0, 1) := by decide +kernel
theorem dX6_unitAt_8 : decode cX6_unitAt 8 = .ok (.istore 6, 2) := by decide +kernel
theorem dX6_unitAt_10 : decode cX6_unitAt 10 = .ok (.iload 6, 2) := by decide +kernel
theorem dX6_unitAt_12 : decode cX6_unitAt 12 = .ok (.aload_n 0, 1) := by decide +kernel
theorem dX6_unitAt_13 : decode cX6_unitAt 13 = .ok (.getfield 46, 3) := by decide +kernel
theorem dX6_unitAt_16 : decode cX6_unitAt 16 = .ok (.if_icmp .ge 86, 3) := by decide +kernel
theorem dX6_unitAt_19 : decode cX6_unitAt 19 = .ok (.aload_n 0, 1) := by decide +kernel
theorem dX6_unitAt_20 : decode cX6_unitAt 20 = .ok (.getfield 9, 3) := by decide +kernel
theorem dX6_unitAt_23 : decode cX6_unitAt 23 = .ok (.iload 6, 2) := by decide +kernel
theorem dX6_unitAt_25 : decode cX6_unitAt 25 = .ok (.iaload, 1) := by decide +kernel
theorem dX6_unitAt_26 : decode cX6_unitAt 26 = .ok (.iload_n 1, 1) := by decide +kernel
theorem dX6_unitAt_27 : decode cX6_unitAt 27 = .ok (.if_icmp .ne 31, 3) := by decide +kernel
theorem dX6_unitAt_30 : decode cX6_unitAt 30 = .ok (.aload_n 0, 1) := by decide +kernel
theorem dX6_unitAt_31 : decode cX6_unitAt 31 = .ok (.getfield 21, 3) := by decide +kernel
theorem dX6_unitAt_34 : decode cX6_unitAt 34 = .ok (.iload 6, 2) := by decide +kernel
theorem dX6_unitAt_36 : decode cX6_unitAt 36 = .ok (.iaload, 1) := by decide +kernel
theorem dX6_unitAt_37 : decode cX6_unitAt 37 = .ok (.iload_n 3, 1) := by decide +kernel
theorem dX6_unitAt_38 : decode cX6_unitAt 38 = .ok (.iadd, 1) := by decide +kernel
theorem dX6_unitAt_39 : decode cX6_unitAt 39 = .ok (.iload_n 2, 1) := by decide +kernel
theorem dX6_unitAt_40 : decode cX6_unitAt 40 = .ok (.if_icmp .gt 18, 3) := by decide +kernel
theorem dX6_unitAt_43 : decode cX6_unitAt 43 = .ok (.aload_n 0, 1) := by decide +kernel
theorem dX6_unitAt_44 : decode cX6_unitAt 44 = .ok (.getfield 18, 3) := by decide +kernel
theorem dX6_unitAt_47 : decode cX6_unitAt 47 = .ok (.iload 6, 2) := by decide +kernel
theorem dX6_unitAt_49 : decode cX6_unitAt 49 = .ok (.iaload, 1) := by decide +kernel
theorem dX6_unitAt_50 : decode cX6_unitAt 50 = .ok (.iload_n 2, 1) := by decide +kernel
theorem dX6_unitAt_51 : decode cX6_unitAt 51 = .ok (.if_icmp .gt 7, 3) := by decide +kernel
theorem dX6_unitAt_54 : decode cX6_unitAt 54 = .ok (.iconst 1, 1) := by decide +kernel
theorem dX6_unitAt_55 : decode cX6_unitAt 55 = .ok (.goto 4, 3) := by decide +kernel
theorem dX6_unitAt_58 : decode cX6_unitAt 58 = .ok (.iconst 0, 1) := by decide +kernel
theorem dX6_unitAt_59 : decode cX6_unitAt 59 = .ok (.istore 7, 2) := by decide +kernel
theorem dX6_unitAt_61 : decode cX6_unitAt 61 = .ok (.iload 7, 2) := by decide +kernel
theorem dX6_unitAt_63 : decode cX6_unitAt 63 = .ok (.ifCond .eq 33, 3) := by decide +kernel
theorem dX6_unitAt_66 : decode cX6_unitAt 66 = .ok (.aload_n 0, 1) := by decide +kernel
theorem dX6_unitAt_67 : decode cX6_unitAt 67 = .ok (.getfield 18, 3) := by decide +kernel
theorem dX6_unitAt_70 : decode cX6_unitAt 70 = .ok (.iload 6, 2) := by decide +kernel
theorem dX6_unitAt_72 : decode cX6_unitAt 72 = .ok (.iaload, 1) := by decide +kernel
theorem dX6_unitAt_73 : decode cX6_unitAt 73 = .ok (.iload 5, 2) := by decide +kernel
theorem dX6_unitAt_75 : decode cX6_unitAt 75 = .ok (.if_icmp .lt 21, 3) := by decide +kernel
theorem dX6_unitAt_78 : decode cX6_unitAt 78 = .ok (.aload_n 0, 1) := by decide +kernel
theorem dX6_unitAt_79 : decode cX6_unitAt 79 = .ok (.getfield 18, 3) := by decide +kernel
theorem dX6_unitAt_82 : decode cX6_unitAt 82 = .ok (.iload 6, 2) := by decide +kernel
theorem dX6_unitAt_84 : decode cX6_unitAt 84 = .ok (.iaload, 1) := by decide +kernel
theorem dX6_unitAt_85 : decode cX6_unitAt 85 = .ok (.istore 5, 2) := by decide +kernel
theorem dX6_unitAt_87 : decode cX6_unitAt 87 = .ok (.aload_n 0, 1) := by decide +kernel
theorem dX6_unitAt_88 : decode cX6_unitAt 88 = .ok (.getfield 15, 3) := by decide +kernel
theorem dX6_unitAt_91 : decode cX6_unitAt 91 = .ok (.iload 6, 2) := by decide +kernel
theorem dX6_unitAt_93 : decode cX6_unitAt 93 = .ok (.iaload, 1) := by decide +kernel
theorem dX6_unitAt_94 : decode cX6_unitAt 94 = .ok (.istore 4, 2) := by decide +kernel
theorem dX6_unitAt_96 : decode cX6_unitAt 96 = .ok (.iinc 6 1, 3) := by decide +kernel
theorem dX6_unitAt_99 : decode cX6_unitAt 99 = .ok (.goto (-89), 3) := by decide +kernel
theorem dX6_unitAt_102 : decode cX6_unitAt 102 = .ok (.iload 4, 2) := by decide +kernel
theorem dX6_unitAt_104 : decode cX6_unitAt 104 = .ok (.ireturn, 1) := by decide +kernel
theorem dX6_lastState_0 : decode cX6_lastState 0 = .ok (.aload_n 0, 1) := by decide +kernel
theorem dX6_lastState_1 : decode cX6_lastState 1 = .ok (.getfield 49, 3) := by decide +kernel
theorem dX6_lastState_4 : decode cX6_lastState 4 = .ok (.iconst 1, 1) := by decide +kernel
theorem dX6_lastState_5 : decode cX6_lastState 5 = .ok (.isub, 1) := by decide +kernel
theorem dX6_lastState_6 : decode cX6_lastState 6 = .ok (.istore 4, 2) := by decide +kernel
theorem dX6_lastState_8 : decode cX6_lastState 8 = .ok (.iload 4, 2) := by decide +kernel
theorem dX6_lastState_10 : decode cX6_lastState 10 = .ok (.ifCond .lt 36, 3) := by decide +kernel
theorem dX6_lastState_13 : decode cX6_lastState 13 = .ok (.aload_n 0, 1) := by decide +kernel
theorem dX6_lastState_14 : decode cX6_lastState 14 = .ok (.getfield 30, 3) := by decide +kernel
theorem dX6_lastState_17 : decode cX6_lastState 17 = .ok (.iload 4, 2) := by decide +kernel
theorem dX6_lastState_19 : decode cX6_lastState 19 = .ok (.iaload, 1) := by decide +kernel
theorem dX6_lastState_20 : decode cX6_lastState 20 = .ok (.iload_n 1, 1) := by decide +kernel
theorem dX6_lastState_21 : decode cX6_lastState 21 = .ok (.if_icmp .ne 19, 3) := by decide +kernel
theorem dX6_lastState_24 : decode cX6_lastState 24 = .ok (.aload_n 0, 1) := by decide +kernel
theorem dX6_lastState_25 : decode cX6_lastState 25 = .ok (.getfield 39, 3) := by decide +kernel
theorem dX6_lastState_28 : decode cX6_lastState 28 = .ok (.iload 4, 2) := by decide +kernel
theorem dX6_lastState_30 : decode cX6_lastState 30 = .ok (.iaload, 1) := by decide +kernel
theorem dX6_lastState_31 : decode cX6_lastState 31 = .ok (.iload_n 3, 1) := by decide +kernel
theorem dX6_lastState_32 : decode cX6_lastState 32 = .ok (.iadd, 1) := by decide +kernel
theorem dX6_lastState_33 : decode cX6_lastState 33 = .ok (.iload_n 2, 1) := by decide +kernel
theorem dX6_lastState_34 : decode cX6_lastState 34 = .ok (.if_icmp .gt 6, 3) := by decide +kernel
theorem dX6_lastState_37 : decode cX6_lastState 37 = .ok (.iload 4, 2) := by decide +kernel
theorem dX6_lastState_39 : decode cX6_lastState 39 = .ok (.ireturn, 1) := by decide +kernel
theorem dX6_lastState_40 : decode cX6_lastState 40 = .ok (.iinc 4 (-1), 3) := by decide +kernel
theorem dX6_lastState_43 : decode cX6_lastState 43 = .ok (.goto (-35), 3) := by decide +kernel
theorem dX6_lastState_46 : decode cX6_lastState 46 = .ok (.iconst (-1), 1) := by decide +kernel
theorem dX6_lastState_47 : decode cX6_lastState 47 = .ok (.ireturn, 1) := by decide +kernel
theorem dX6_stateBy_0 : decode cX6_stateBy 0 = .ok (.aload_n 0, 1) := by decide +kernel
theorem dX6_stateBy_1 : decode cX6_stateBy 1 = .ok (.iload_n 1, 1) := by decide +kernel
theorem dX6_stateBy_2 : decode cX6_stateBy 2 = .ok (.iload_n 2, 1) := by decide +kernel
theorem dX6_stateBy_3 : decode cX6_stateBy 3 = .ok (.iload_n 3, 1) := by decide +kernel
theorem dX6_stateBy_4 : decode cX6_stateBy 4 = .ok (.invokevirtual 52, 3) := by decide +kernel
theorem dX6_stateBy_7 : decode cX6_stateBy 7 = .ok (.istore 4, 2) := by decide +kernel
theorem dX6_stateBy_9 : decode cX6_stateBy 9 = .ok (.iload 4, 2) := by decide +kernel
theorem dX6_stateBy_11 : decode cX6_stateBy 11 = .ok (.ifCond .ge 7, 3) := by decide +kernel
theorem dX6_stateBy_14 : decode cX6_stateBy 14 = .ok (.iconst 0, 1) := by decide +kernel
theorem dX6_stateBy_15 : decode cX6_stateBy 15 = .ok (.goto 10, 3) := by decide +kernel
theorem dX6_stateBy_18 : decode cX6_stateBy 18 = .ok (.aload_n 0, 1) := by decide +kernel
theorem dX6_stateBy_19 : decode cX6_stateBy 19 = .ok (.getfield 33, 3) := by decide +kernel
theorem dX6_stateBy_22 : decode cX6_stateBy 22 = .ok (.iload 4, 2) := by decide +kernel
theorem dX6_stateBy_24 : decode cX6_stateBy 24 = .ok (.iaload, 1) := by decide +kernel
theorem dX6_stateBy_25 : decode cX6_stateBy 25 = .ok (.ireturn, 1) := by decide +kernel
theorem dX6_manIsAt_0 : decode cX6_manIsAt 0 = .ok (.aload_n 0, 1) := by decide +kernel
theorem dX6_manIsAt_1 : decode cX6_manIsAt 1 = .ok (.iload_n 1, 1) := by decide +kernel
theorem dX6_manIsAt_2 : decode cX6_manIsAt 2 = .ok (.iload_n 2, 1) := by decide +kernel
theorem dX6_manIsAt_3 : decode cX6_manIsAt 3 = .ok (.iconst 0, 1) := by decide +kernel
theorem dX6_manIsAt_4 : decode cX6_manIsAt 4 = .ok (.invokevirtual 52, 3) := by decide +kernel
theorem dX6_manIsAt_7 : decode cX6_manIsAt 7 = .ok (.istore_n 3, 1) := by decide +kernel
theorem dX6_manIsAt_8 : decode cX6_manIsAt 8 = .ok (.iload_n 3, 1) := by decide +kernel
theorem dX6_manIsAt_9 : decode cX6_manIsAt 9 = .ok (.ifCond .lt 12, 3) := by decide +kernel
theorem dX6_manIsAt_12 : decode cX6_manIsAt 12 = .ok (.aload_n 0, 1) := by decide +kernel
theorem dX6_manIsAt_13 : decode cX6_manIsAt 13 = .ok (.getfield 33, 3) := by decide +kernel
theorem dX6_manIsAt_16 : decode cX6_manIsAt 16 = .ok (.iload_n 3, 1) := by decide +kernel
theorem dX6_manIsAt_17 : decode cX6_manIsAt 17 = .ok (.iaload, 1) := by decide +kernel
theorem dX6_manIsAt_18 : decode cX6_manIsAt 18 = .ok (.ifCond .ne 16, 3) := by decide +kernel
theorem dX6_manIsAt_21 : decode cX6_manIsAt 21 = .ok (.aload_n 0, 1) := by decide +kernel
theorem dX6_manIsAt_22 : decode cX6_manIsAt 22 = .ok (.aload_n 0, 1) := by decide +kernel
theorem dX6_manIsAt_23 : decode cX6_manIsAt 23 = .ok (.getfield 24, 3) := by decide +kernel
theorem dX6_manIsAt_26 : decode cX6_manIsAt 26 = .ok (.iload_n 1, 1) := by decide +kernel
theorem dX6_manIsAt_27 : decode cX6_manIsAt 27 = .ok (.iaload, 1) := by decide +kernel
theorem dX6_manIsAt_28 : decode cX6_manIsAt 28 = .ok (.iload_n 2, 1) := by decide +kernel
theorem dX6_manIsAt_29 : decode cX6_manIsAt 29 = .ok (.iconst 0, 1) := by decide +kernel
theorem dX6_manIsAt_30 : decode cX6_manIsAt 30 = .ok (.invokevirtual 56, 3) := by decide +kernel
theorem dX6_manIsAt_33 : decode cX6_manIsAt 33 = .ok (.ireturn, 1) := by decide +kernel
theorem dX6_manIsAt_34 : decode cX6_manIsAt 34 = .ok (.aload_n 0, 1) := by decide +kernel
theorem dX6_manIsAt_35 : decode cX6_manIsAt 35 = .ok (.getfield 33, 3) := by decide +kernel
theorem dX6_manIsAt_38 : decode cX6_manIsAt 38 = .ok (.iload_n 3, 1) := by decide +kernel
theorem dX6_manIsAt_39 : decode cX6_manIsAt 39 = .ok (.iaload, 1) := by decide +kernel
theorem dX6_manIsAt_40 : decode cX6_manIsAt 40 = .ok (.iconst 1, 1) := by decide +kernel
theorem dX6_manIsAt_41 : decode cX6_manIsAt 41 = .ok (.if_icmp .ne 12, 3) := by decide +kernel
theorem dX6_manIsAt_44 : decode cX6_manIsAt 44 = .ok (.aload_n 0, 1) := by decide +kernel
theorem dX6_manIsAt_45 : decode cX6_manIsAt 45 = .ok (.getfield 36, 3) := by decide +kernel
theorem dX6_manIsAt_48 : decode cX6_manIsAt 48 = .ok (.iload_n 3, 1) := by decide +kernel
theorem dX6_manIsAt_49 : decode cX6_manIsAt 49 = .ok (.iaload, 1) := by decide +kernel
theorem dX6_manIsAt_50 : decode cX6_manIsAt 50 = .ok (.goto 5, 3) := by decide +kernel
theorem dX6_manIsAt_53 : decode cX6_manIsAt 53 = .ok (.bipush (-9), 2) := by decide +kernel
theorem dX6_manIsAt_55 : decode cX6_manIsAt 55 = .ok (.ireturn, 1) := by decide +kernel
theorem dX6_fitting_0 : decode cX6_fitting 0 = .ok (.iconst 0, 1) := by decide +kernel
theorem dX6_fitting_1 : decode cX6_fitting 1 = .ok (.istore_n 3, 1) := by decide +kernel
theorem dX6_fitting_2 : decode cX6_fitting 2 = .ok (.iconst 0, 1) := by decide +kernel
theorem dX6_fitting_3 : decode cX6_fitting 3 = .ok (.istore 4, 2) := by decide +kernel
theorem dX6_fitting_5 : decode cX6_fitting 5 = .ok (.iload 4, 2) := by decide +kernel
theorem dX6_fitting_7 : decode cX6_fitting 7 = .ok (.aload_n 0, 1) := by decide +kernel
theorem dX6_fitting_8 : decode cX6_fitting 8 = .ok (.getfield 42, 3) := by decide +kernel
theorem dX6_fitting_11 : decode cX6_fitting 11 = .ok (.if_icmp .ge 23, 3) := by decide +kernel
theorem dX6_fitting_14 : decode cX6_fitting 14 = .ok (.aload_n 0, 1) := by decide +kernel
theorem dX6_fitting_15 : decode cX6_fitting 15 = .ok (.iload 4, 2) := by decide +kernel
theorem dX6_fitting_17 : decode cX6_fitting 17 = .ok (.iload_n 1, 1) := by decide +kernel
theorem dX6_fitting_18 : decode cX6_fitting 18 = .ok (.iload_n 2, 1) := by decide +kernel
theorem dX6_fitting_19 : decode cX6_fitting 19 = .ok (.invokevirtual 59, 3) := by decide +kernel
theorem dX6_fitting_22 : decode cX6_fitting 22 = .ok (.ifCond .eq 6, 3) := by decide +kernel
theorem dX6_fitting_25 : decode cX6_fitting 25 = .ok (.iinc 3 1, 3) := by decide +kernel
theorem dX6_fitting_28 : decode cX6_fitting 28 = .ok (.iinc 4 1, 3) := by decide +kernel
theorem dX6_fitting_31 : decode cX6_fitting 31 = .ok (.goto (-26), 3) := by decide +kernel
theorem dX6_fitting_34 : decode cX6_fitting 34 = .ok (.iload_n 3, 1) := by decide +kernel
theorem dX6_fitting_35 : decode cX6_fitting 35 = .ok (.ireturn, 1) := by decide +kernel
theorem dX6_firstFitting_0 : decode cX6_firstFitting 0 = .ok (.iconst 0, 1) := by decide +kernel
theorem dX6_firstFitting_1 : decode cX6_firstFitting 1 = .ok (.istore_n 3, 1) := by decide +kernel
theorem dX6_firstFitting_2 : decode cX6_firstFitting 2 = .ok (.iload_n 3, 1) := by decide +kernel
theorem dX6_firstFitting_3 : decode cX6_firstFitting 3 = .ok (.aload_n 0, 1) := by decide +kernel
theorem dX6_firstFitting_4 : decode cX6_firstFitting 4 = .ok (.getfield 42, 3) := by decide +kernel
theorem dX6_firstFitting_7 : decode cX6_firstFitting 7 = .ok (.if_icmp .ge 21, 3) := by decide +kernel
theorem dX6_firstFitting_10 : decode cX6_firstFitting 10 = .ok (.aload_n 0, 1) := by decide +kernel
theorem dX6_firstFitting_11 : decode cX6_firstFitting 11 = .ok (.iload_n 3, 1) := by decide +kernel
theorem dX6_firstFitting_12 : decode cX6_firstFitting 12 = .ok (.iload_n 1, 1) := by decide +kernel
theorem dX6_firstFitting_13 : decode cX6_firstFitting 13 = .ok (.iload_n 2, 1) := by decide +kernel
theorem dX6_firstFitting_14 : decode cX6_firstFitting 14 = .ok (.invokevirtual 59, 3) := by decide +kernel
theorem dX6_firstFitting_17 : decode cX6_firstFitting 17 = .ok (.ifCond .eq 5, 3) := by decide +kernel
theorem dX6_firstFitting_20 : decode cX6_firstFitting 20 = .ok (.iload_n 3, 1) := by decide +kernel
theorem dX6_firstFitting_21 : decode cX6_firstFitting 21 = .ok (.ireturn, 1) := by decide +kernel
theorem dX6_firstFitting_22 : decode cX6_firstFitting 22 = .ok (.iinc 3 1, 3) := by decide +kernel
theorem dX6_firstFitting_25 : decode cX6_firstFitting 25 = .ok (.goto (-23), 3) := by decide +kernel
theorem dX6_firstFitting_28 : decode cX6_firstFitting 28 = .ok (.bipush (-9), 2) := by decide +kernel
theorem dX6_firstFitting_30 : decode cX6_firstFitting 30 = .ok (.ireturn, 1) := by decide +kernel
theorem dX6_fits_0 : decode cX6_fits 0 = .ok (.iload_n 2, 1) := by decide +kernel
theorem dX6_fits_1 : decode cX6_fits 1 = .ok (.iconst (-1), 1) := by decide +kernel
theorem dX6_fits_2 : decode cX6_fits 2 = .ok (.if_icmp .eq 15, 3) := by decide +kernel
theorem dX6_fits_5 : decode cX6_fits 5 = .ok (.aload_n 0, 1) := by decide +kernel
theorem dX6_fits_6 : decode cX6_fits 6 = .ok (.getfield 24, 3) := by decide +kernel
theorem dX6_fits_9 : decode cX6_fits 9 = .ok (.iload_n 1, 1) := by decide +kernel
theorem dX6_fits_10 : decode cX6_fits 10 = .ok (.iaload, 1) := by decide +kernel
theorem dX6_fits_11 : decode cX6_fits 11 = .ok (.iload_n 2, 1) := by decide +kernel
theorem dX6_fits_12 : decode cX6_fits 12 = .ok (.if_icmp .eq 5, 3) := by decide +kernel
theorem dX6_fits_15 : decode cX6_fits 15 = .ok (.iconst 0, 1) := by decide +kernel
theorem dX6_fits_16 : decode cX6_fits 16 = .ok (.ireturn, 1) := by decide +kernel
theorem dX6_fits_17 : decode cX6_fits 17 = .ok (.aload_n 0, 1) := by decide +kernel
theorem dX6_fits_18 : decode cX6_fits 18 = .ok (.getfield 27, 3) := by decide +kernel
theorem dX6_fits_21 : decode cX6_fits 21 = .ok (.iload_n 1, 1) := by decide +kernel
theorem dX6_fits_22 : decode cX6_fits 22 = .ok (.iaload, 1) := by decide +kernel
theorem dX6_fits_23 : decode cX6_fits 23 = .ok (.istore 4, 2) := by decide +kernel
theorem dX6_fits_25 : decode cX6_fits 25 = .ok (.iload_n 3, 1) := by decide +kernel
theorem dX6_fits_26 : decode cX6_fits 26 = .ok (.istore 5, 2) := by decide +kernel
theorem dX6_fits_28 : decode cX6_fits 28 = .ok (.iconst 0, 1) := by decide +kernel
theorem dX6_fits_29 : decode cX6_fits 29 = .ok (.istore 6, 2) := by decide +kernel
theorem dX6_fits_31 : decode cX6_fits 31 = .ok (.iload 6, 2) := by decide +kernel
theorem dX6_fits_33 : decode cX6_fits 33 = .ok (.iconst 4, 1) := by decide +kernel
theorem dX6_fits_34 : decode cX6_fits 34 = .ok (.if_icmp .ge 49, 3) := by decide +kernel
theorem dX6_fits_37 : decode cX6_fits 37 = .ok (.iload 5, 2) := by decide +kernel
theorem dX6_fits_39 : decode cX6_fits 39 = .ok (.bipush 11, 2) := by decide +kernel
theorem dX6_fits_41 : decode cX6_fits 41 = .ok (.irem, 1) := by decide +kernel
theorem dX6_fits_42 : decode cX6_fits 42 = .ok (.istore 7, 2) := by decide +kernel
theorem dX6_fits_44 : decode cX6_fits 44 = .ok (.iload 7, 2) := by decide +kernel
theorem dX6_fits_46 : decode cX6_fits 46 = .ok (.bipush 10, 2) := by decide +kernel
theorem dX6_fits_48 : decode cX6_fits 48 = .ok (.if_icmp .eq 15, 3) := by decide +kernel
theorem dX6_fits_51 : decode cX6_fits 51 = .ok (.iload 7, 2) := by decide +kernel
theorem dX6_fits_53 : decode cX6_fits 53 = .ok (.iload 4, 2) := by decide +kernel
theorem dX6_fits_55 : decode cX6_fits 55 = .ok (.bipush 10, 2) := by decide +kernel
theorem dX6_fits_57 : decode cX6_fits 57 = .ok (.irem, 1) := by decide +kernel
theorem dX6_fits_58 : decode cX6_fits 58 = .ok (.if_icmp .eq 5, 3) := by decide +kernel
theorem dX6_fits_61 : decode cX6_fits 61 = .ok (.iconst 0, 1) := by decide +kernel
theorem dX6_fits_62 : decode cX6_fits 62 = .ok (.ireturn, 1) := by decide +kernel
theorem dX6_fits_63 : decode cX6_fits 63 = .ok (.iload 5, 2) := by decide +kernel
theorem dX6_fits_65 : decode cX6_fits 65 = .ok (.bipush 11, 2) := by decide +kernel
theorem dX6_fits_67 : decode cX6_fits 67 = .ok (.idiv, 1) := by decide +kernel
theorem dX6_fits_68 : decode cX6_fits 68 = .ok (.istore 5, 2) := by decide +kernel
theorem dX6_fits_70 : decode cX6_fits 70 = .ok (.iload 4, 2) := by decide +kernel
theorem dX6_fits_72 : decode cX6_fits 72 = .ok (.bipush 10, 2) := by decide +kernel
theorem dX6_fits_74 : decode cX6_fits 74 = .ok (.idiv, 1) := by decide +kernel
theorem dX6_fits_75 : decode cX6_fits 75 = .ok (.istore 4, 2) := by decide +kernel
theorem dX6_fits_77 : decode cX6_fits 77 = .ok (.iinc 6 1, 3) := by decide +kernel
theorem dX6_fits_80 : decode cX6_fits 80 = .ok (.goto (-49), 3) := by decide +kernel
theorem dX6_fits_83 : decode cX6_fits 83 = .ok (.iconst 1, 1) := by decide +kernel
theorem dX6_fits_84 : decode cX6_fits 84 = .ok (.ireturn, 1) := by decide +kernel
theorem dX7_init_0 : decode cX7_init 0 = .ok (.aload_n 0, 1) := by decide +kernel
theorem dX7_init_1 : decode cX7_init 1 = .ok (.invokespecial 3, 3) := by decide +kernel
theorem dX7_init_4 : decode cX7_init 4 = .ok (.aload_n 0, 1) := by decide +kernel
theorem dX7_init_5 : decode cX7_init 5 = .ok (.bipush 7, 2) := by decide +kernel
theorem dX7_init_7 : decode cX7_init 7 = .ok (.newarray .int, 2) := by decide +kernel
theorem dX7_init_9 : decode cX7_init 9 = .ok (.putfield 9, 3) := by decide +kernel
theorem dX7_init_12 : decode cX7_init 12 = .ok (.aload_n 0, 1) := by decide +kernel
theorem dX7_init_13 : decode cX7_init 13 = .ok (.bipush 7, 2) := by decide +kernel
theorem dX7_init_15 : decode cX7_init 15 = .ok (.newarray .int, 2) := by decide +kernel
theorem dX7_init_17 : decode cX7_init 17 = .ok (.putfield 15, 3) := by decide +kernel
theorem dX7_init_20 : decode cX7_init 20 = .ok (.aload_n 0, 1) := by decide +kernel
theorem dX7_init_21 : decode cX7_init 21 = .ok (.bipush 7, 2) := by decide +kernel
theorem dX7_init_23 : decode cX7_init 23 = .ok (.newarray .int, 2) := by decide +kernel
theorem dX7_init_25 : decode cX7_init 25 = .ok (.putfield 18, 3) := by decide +kernel
theorem dX7_init_28 : decode cX7_init 28 = .ok (.aload_n 0, 1) := by decide +kernel
theorem dX7_init_29 : decode cX7_init 29 = .ok (.bipush 7, 2) := by decide +kernel
theorem dX7_init_31 : decode cX7_init 31 = .ok (.newarray .int, 2) := by decide +kernel
theorem dX7_init_33 : decode cX7_init 33 = .ok (.putfield 21, 3) := by decide +kernel
theorem dX7_init_36 : decode cX7_init 36 = .ok (.aload_n 0, 1) := by decide +kernel
theorem dX7_init_37 : decode cX7_init 37 = .ok (.bipush 12, 2) := by decide +kernel
theorem dX7_init_39 : decode cX7_init 39 = .ok (.newarray .int, 2) := by decide +kernel
theorem dX7_init_41 : decode cX7_init 41 = .ok (.putfield 24, 3) := by decide +kernel
theorem dX7_init_44 : decode cX7_init 44 = .ok (.return_, 1) := by decide +kernel
theorem dX7_addSack_0 : decode cX7_addSack 0 = .ok (.aload_n 0, 1) := by decide +kernel
theorem dX7_addSack_1 : decode cX7_addSack 1 = .ok (.getfield 9, 3) := by decide +kernel
theorem dX7_addSack_4 : decode cX7_addSack 4 = .ok (.aload_n 0, 1) := by decide +kernel
theorem dX7_addSack_5 : decode cX7_addSack 5 = .ok (.getfield 27, 3) := by decide +kernel
theorem dX7_addSack_8 : decode cX7_addSack 8 = .ok (.iload_n 1, 1) := by decide +kernel
theorem dX7_addSack_9 : decode cX7_addSack 9 = .ok (.iastore, 1) := by decide +kernel
theorem dX7_addSack_10 : decode cX7_addSack 10 = .ok (.aload_n 0, 1) := by decide +kernel
theorem dX7_addSack_11 : decode cX7_addSack 11 = .ok (.getfield 15, 3) := by decide +kernel
theorem dX7_addSack_14 : decode cX7_addSack 14 = .ok (.aload_n 0, 1) := by decide +kernel
theorem dX7_addSack_15 : decode cX7_addSack 15 = .ok (.getfield 27, 3) := by decide +kernel
theorem dX7_addSack_18 : decode cX7_addSack 18 = .ok (.iload_n 2, 1) := by decide +kernel
theorem dX7_addSack_19 : decode cX7_addSack 19 = .ok (.iastore, 1) := by decide +kernel
theorem dX7_addSack_20 : decode cX7_addSack 20 = .ok (.aload_n 0, 1) := by decide +kernel
theorem dX7_addSack_21 : decode cX7_addSack 21 = .ok (.getfield 18, 3) := by decide +kernel
theorem dX7_addSack_24 : decode cX7_addSack 24 = .ok (.aload_n 0, 1) := by decide +kernel
theorem dX7_addSack_25 : decode cX7_addSack 25 = .ok (.getfield 27, 3) := by decide +kernel
theorem dX7_addSack_28 : decode cX7_addSack 28 = .ok (.iload_n 3, 1) := by decide +kernel
theorem dX7_addSack_29 : decode cX7_addSack 29 = .ok (.iastore, 1) := by decide +kernel
theorem dX7_addSack_30 : decode cX7_addSack 30 = .ok (.aload_n 0, 1) := by decide +kernel
theorem dX7_addSack_31 : decode cX7_addSack 31 = .ok (.getfield 27, 3) := by decide +kernel
theorem dX7_addSack_34 : decode cX7_addSack 34 = .ok (.istore 4, 2) := by decide +kernel
theorem dX7_addSack_36 : decode cX7_addSack 36 = .ok (.iload 4, 2) := by decide +kernel
theorem dX7_addSack_38 : decode cX7_addSack 38 = .ok (.ifCond .le 43, 3) := by decide +kernel
theorem dX7_addSack_41 : decode cX7_addSack 41 = .ok (.aload_n 0, 1) := by decide +kernel
theorem dX7_addSack_42 : decode cX7_addSack 42 = .ok (.getfield 15, 3) := by decide +kernel
theorem dX7_addSack_45 : decode cX7_addSack 45 = .ok (.aload_n 0, 1) := by decide +kernel
theorem dX7_addSack_46 : decode cX7_addSack 46 = .ok (.getfield 21, 3) := by decide +kernel
theorem dX7_addSack_49 : decode cX7_addSack 49 = .ok (.iload 4, 2) := by decide +kernel
theorem dX7_addSack_51 : decode cX7_addSack 51 = .ok (.iconst 1, 1) := by decide +kernel
theorem dX7_addSack_52 : decode cX7_addSack 52 = .ok (.isub, 1) := by decide +kernel
theorem dX7_addSack_53 : decode cX7_addSack 53 = .ok (.iaload, 1) := by decide +kernel
theorem dX7_addSack_54 : decode cX7_addSack 54 = .ok (.iaload, 1) := by decide +kernel
theorem dX7_addSack_55 : decode cX7_addSack 55 = .ok (.iload_n 2, 1) := by decide +kernel
theorem dX7_addSack_56 : decode cX7_addSack 56 = .ok (.if_icmp .le 25, 3) := by decide +kernel
theorem dX7_addSack_59 : decode cX7_addSack 59 = .ok (.aload_n 0, 1) := by decide +kernel
theorem dX7_addSack_60 : decode cX7_addSack 60 = .ok (.getfield 21, 3) := by decide +kernel
theorem dX7_addSack_63 : decode cX7_addSack 63 = .ok (.iload 4, 2) := by decide +kernel
theorem dX7_addSack_65 : decode cX7_addSack 65 = .ok (.aload_n 0, 1) := by decide +kernel
theorem dX7_addSack_66 : decode cX7_addSack 66 = .ok (.getfield 21, 3) := by decide +kernel
theorem dX7_addSack_69 : decode cX7_addSack 69 = .ok (.iload 4, 2) := by decide +kernel
theorem dX7_addSack_71 : decode cX7_addSack 71 = .ok (.iconst 1, 1) := by decide +kernel
theorem dX7_addSack_72 : decode cX7_addSack 72 = .ok (.isub, 1) := by decide +kernel
theorem dX7_addSack_73 : decode cX7_addSack 73 = .ok (.iaload, 1) := by decide +kernel
theorem dX7_addSack_74 : decode cX7_addSack 74 = .ok (.iastore, 1) := by decide +kernel
theorem dX7_addSack_75 : decode cX7_addSack 75 = .ok (.iinc 4 (-1), 3) := by decide +kernel
theorem dX7_addSack_78 : decode cX7_addSack 78 = .ok (.goto (-42), 3) := by decide +kernel
theorem dX7_addSack_81 : decode cX7_addSack 81 = .ok (.aload_n 0, 1) := by decide +kernel
theorem dX7_addSack_82 : decode cX7_addSack 82 = .ok (.getfield 21, 3) := by decide +kernel
theorem dX7_addSack_85 : decode cX7_addSack 85 = .ok (.iload 4, 2) := by decide +kernel
theorem dX7_addSack_87 : decode cX7_addSack 87 = .ok (.aload_n 0, 1) := by decide +kernel
theorem dX7_addSack_88 : decode cX7_addSack 88 = .ok (.getfield 27, 3) := by decide +kernel
theorem dX7_addSack_91 : decode cX7_addSack 91 = .ok (.iastore, 1) := by decide +kernel
theorem dX7_addSack_92 : decode cX7_addSack 92 = .ok (.aload_n 0, 1) := by decide +kernel
theorem dX7_addSack_93 : decode cX7_addSack 93 = .ok (.dup, 1) := by decide +kernel
theorem dX7_addSack_94 : decode cX7_addSack 94 = .ok (.getfield 27, 3) := by decide +kernel
theorem dX7_addSack_97 : decode cX7_addSack 97 = .ok (.iconst 1, 1) := by decide +kernel
theorem dX7_addSack_98 : decode cX7_addSack 98 = .ok (.iadd, 1) := by decide +kernel
theorem dX7_addSack_99 : decode cX7_addSack 99 = .ok (.putfield 27, 3) := by decide +kernel
theorem dX7_addSack_102 : decode cX7_addSack 102 = .ok (.aload_n 0, 1) := by decide +kernel
theorem dX7_addSack_103 : decode cX7_addSack 103 = .ok (.getfield 27, 3) := by decide +kernel
theorem dX7_addSack_106 : decode cX7_addSack 106 = .ok (.iconst 1, 1) := by decide +kernel
theorem dX7_addSack_107 : decode cX7_addSack 107 = .ok (.isub, 1) := by decide +kernel
theorem dX7_addSack_108 : decode cX7_addSack 108 = .ok (.ireturn, 1) := by decide +kernel
theorem dX7_addToRow_0 : decode cX7_addToRow 0 = .ok (.aload_n 0, 1) := by decide +kernel
theorem dX7_addToRow_1 : decode cX7_addToRow 1 = .ok (.getfield 24, 3) := by decide +kernel
theorem dX7_addToRow_4 : decode cX7_addToRow 4 = .ok (.aload_n 0, 1) := by decide +kernel
theorem dX7_addToRow_5 : decode cX7_addToRow 5 = .ok (.getfield 31, 3) := by decide +kernel
theorem dX7_addToRow_8 : decode cX7_addToRow 8 = .ok (.iload_n 1, 1) := by decide +kernel
theorem dX7_addToRow_9 : decode cX7_addToRow 9 = .ok (.iastore, 1) := by decide +kernel
theorem dX7_addToRow_10 : decode cX7_addToRow 10 = .ok (.aload_n 0, 1) := by decide +kernel
theorem dX7_addToRow_11 : decode cX7_addToRow 11 = .ok (.dup, 1) := by decide +kernel
theorem dX7_addToRow_12 : decode cX7_addToRow 12 = .ok (.getfield 31, 3) := by decide +kernel
theorem dX7_addToRow_15 : decode cX7_addToRow 15 = .ok (.iconst 1, 1) := by decide +kernel
theorem dX7_addToRow_16 : decode cX7_addToRow 16 = .ok (.iadd, 1) := by decide +kernel
theorem dX7_addToRow_17 : decode cX7_addToRow 17 = .ok (.putfield 31, 3) := by decide +kernel
theorem dX7_addToRow_20 : decode cX7_addToRow 20 = .ok (.aload_n 0, 1) := by decide +kernel
theorem dX7_addToRow_21 : decode cX7_addToRow 21 = .ok (.getfield 31, 3) := by decide +kernel
theorem dX7_addToRow_24 : decode cX7_addToRow 24 = .ok (.ireturn, 1) := by decide +kernel
theorem dX7_bestSet_0 : decode cX7_bestSet 0 = .ok (.iconst 0, 1) := by decide +kernel
theorem dX7_bestSet_1 : decode cX7_bestSet 1 = .ok (.istore_n 1, 1) := by decide +kernel
theorem dX7_bestSet_2 : decode cX7_bestSet 2 = .ok (.iconst 1, 1) := by decide +kernel
theorem dX7_bestSet_3 : decode cX7_bestSet 3 = .ok (.istore_n 2, 1) := by decide +kernel
theorem dX7_bestSet_4 : decode cX7_bestSet 4 = .ok (.iload_n 2, 1) := by decide +kernel
theorem dX7_bestSet_5 : decode cX7_bestSet 5 = .ok (.iconst 1, 1) := by decide +kernel
theorem dX7_bestSet_6 : decode cX7_bestSet 6 = .ok (.aload_n 0, 1) := by decide +kernel
theorem dX7_bestSet_7 : decode cX7_bestSet 7 = .ok (.getfield 27, 3) := by decide +kernel
theorem dX7_bestSet_10 : decode cX7_bestSet 10 = .ok (.ishl, 1) := by decide +kernel
theorem dX7_bestSet_11 : decode cX7_bestSet 11 = .ok (.if_icmp .ge 28, 3) := by decide +kernel
theorem dX7_bestSet_14 : decode cX7_bestSet 14 = .ok (.aload_n 0, 1) := by decide +kernel
theorem dX7_bestSet_15 : decode cX7_bestSet 15 = .ok (.iload_n 2, 1) := by decide +kernel
theorem dX7_bestSet_16 : decode cX7_bestSet 16 = .ok (.invokevirtual 34, 3) := by decide +kernel
theorem dX7_bestSet_19 : decode cX7_bestSet 19 = .ok (.ifCond .eq 14, 3) := by decide +kernel
theorem dX7_bestSet_22 : decode cX7_bestSet 22 = .ok (.aload_n 0, 1) := by decide +kernel
theorem dX7_bestSet_23 : decode cX7_bestSet 23 = .ok (.iload_n 2, 1) := by decide +kernel
theorem dX7_bestSet_24 : decode cX7_bestSet 24 = .ok (.iload_n 1, 1) := by decide +kernel
theorem dX7_bestSet_25 : decode cX7_bestSet 25 = .ok (.invokevirtual 38, 3) := by decide +kernel
theorem dX7_bestSet_28 : decode cX7_bestSet 28 = .ok (.ifCond .eq 5, 3) := by decide +kernel
theorem dX7_bestSet_31 : decode cX7_bestSet 31 = .ok (.iload_n 2, 1) := by decide +kernel
theorem dX7_bestSet_32 : decode cX7_bestSet 32 = .ok (.istore_n 1, 1) := by decide +kernel
theorem dX7_bestSet_33 : decode cX7_bestSet 33 = .ok (.iinc 2 1, 3) := by decide +kernel
theorem dX7_bestSet_36 : decode cX7_bestSet 36 = .ok (.goto (-32), 3) := by decide +kernel
theorem dX7_bestSet_39 : decode cX7_bestSet 39 = .ok (.iload_n 1, 1) := by decide +kernel
theorem dX7_bestSet_40 : decode cX7_bestSet 40 = .ok (.ireturn, 1) := by decide +kernel
theorem dX7_isBetter_0 : decode cX7_isBetter 0 = .ok (.aload_n 0, 1) := by decide +kernel
theorem dX7_isBetter_1 : decode cX7_isBetter 1 = .ok (.iload_n 1, 1) := by decide +kernel
theorem dX7_isBetter_2 : decode cX7_isBetter 2 = .ok (.invokevirtual 42, 3) := by decide +kernel
theorem dX7_isBetter_5 : decode cX7_isBetter 5 = .ok (.aload_n 0, 1) := by decide +kernel
theorem dX7_isBetter_6 : decode cX7_isBetter 6 = .ok (.iload_n 2, 1) := by decide +kernel
theorem dX7_isBetter_7 : decode cX7_isBetter 7 = .ok (.invokevirtual 42, 3) := by decide +kernel
theorem dX7_isBetter_10 : decode cX7_isBetter 10 = .ok (.isub, 1) := by decide +kernel
theorem dX7_isBetter_11 : decode cX7_isBetter 11 = .ok (.istore_n 3, 1) := by decide +kernel
theorem dX7_isBetter_12 : decode cX7_isBetter 12 = .ok (.iload_n 3, 1) := by decide +kernel
theorem dX7_isBetter_13 : decode cX7_isBetter 13 = .ok (.ifCond .gt 20, 3) := by decide +kernel
theorem dX7_isBetter_16 : decode cX7_isBetter 16 = .ok (.iload_n 3, 1) := by decide +kernel
theorem dX7_isBetter_17 : decode cX7_isBetter 17 = .ok (.ifCond .ne 20, 3) := by decide +kernel
theorem dX7_isBetter_20 : decode cX7_isBetter 20 = .ok (.aload_n 0, 1) := by decide +kernel
theorem dX7_isBetter_21 : decode cX7_isBetter 21 = .ok (.iload_n 1, 1) := by decide +kernel
theorem dX7_isBetter_22 : decode cX7_isBetter 22 = .ok (.invokevirtual 46, 3) := by decide +kernel
theorem dX7_isBetter_25 : decode cX7_isBetter 25 = .ok (.aload_n 0, 1) := by decide +kernel
theorem dX7_isBetter_26 : decode cX7_isBetter 26 = .ok (.iload_n 2, 1) := by decide +kernel
theorem dX7_isBetter_27 : decode cX7_isBetter 27 = .ok (.invokevirtual 46, 3) := by decide +kernel
theorem dX7_isBetter_30 : decode cX7_isBetter 30 = .ok (.if_icmp .ge 7, 3) := by decide +kernel
theorem dX7_isBetter_33 : decode cX7_isBetter 33 = .ok (.iconst 1, 1) := by decide +kernel
theorem dX7_isBetter_34 : decode cX7_isBetter 34 = .ok (.goto 4, 3) := by decide +kernel
theorem dX7_isBetter_37 : decode cX7_isBetter 37 = .ok (.iconst 0, 1) := by decide +kernel
theorem dX7_isBetter_38 : decode cX7_isBetter 38 = .ok (.ireturn, 1) := by decide +kernel
theorem dX7_canBeMade_0 : decode cX7_canBeMade 0 = .ok (.iconst 0, 1) := by decide +kernel
theorem dX7_canBeMade_1 : decode cX7_canBeMade 1 = .ok (.istore_n 2, 1) := by decide +kernel
theorem dX7_canBeMade_2 : decode cX7_canBeMade 2 = .ok (.iconst 0, 1) := by decide +kernel
theorem dX7_canBeMade_3 : decode cX7_canBeMade 3 = .ok (.istore_n 3, 1) := by decide +kernel
theorem dX7_canBeMade_4 : decode cX7_canBeMade 4 = .ok (.iload_n 3, 1) := by decide +kernel
theorem dX7_canBeMade_5 : decode cX7_canBeMade 5 = .ok (.aload_n 0, 1) := by decide +kernel
theorem dX7_canBeMade_6 : decode cX7_canBeMade 6 = .ok (.getfield 27, 3) := by decide +kernel
theorem dX7_canBeMade_9 : decode cX7_canBeMade 9 = .ok (.if_icmp .ge 49, 3) := by decide +kernel
theorem dX7_canBeMade_12 : decode cX7_canBeMade 12 = .ok (.aload_n 0, 1) := by decide +kernel
theorem dX7_canBeMade_13 : decode cX7_canBeMade 13 = .ok (.getfield 21, 3) := by decide +kernel
theorem dX7_canBeMade_16 : decode cX7_canBeMade 16 = .ok (.iload_n 3, 1) := by decide +kernel
theorem dX7_canBeMade_17 : decode cX7_canBeMade 17 = .ok (.iaload, 1) := by decide +kernel
theorem dX7_canBeMade_18 : decode cX7_canBeMade 18 = .ok (.istore 4, 2) := by decide +kernel
theorem dX7_canBeMade_20 : decode cX7_canBeMade 20 = .ok (.iload 4, 2) := by decide +kernel
theorem dX7_canBeMade_22 : decode cX7_canBeMade 22 = .ok (.iload_n 1, 1) := by decide +kernel
theorem dX7_canBeMade_23 : decode cX7_canBeMade 23 = .ok (.invokestatic 49, 3) := by decide +kernel
theorem dX7_canBeMade_26 : decode cX7_canBeMade 26 = .ok (.ifCond .eq 26, 3) := by decide +kernel
theorem dX7_canBeMade_29 : decode cX7_canBeMade 29 = .ok (.iload_n 2, 1) := by decide +kernel
theorem dX7_canBeMade_30 : decode cX7_canBeMade 30 = .ok (.aload_n 0, 1) := by decide +kernel
theorem dX7_canBeMade_31 : decode cX7_canBeMade 31 = .ok (.getfield 9, 3) := by decide +kernel
theorem dX7_canBeMade_34 : decode cX7_canBeMade 34 = .ok (.iload 4, 2) := by decide +kernel
theorem dX7_canBeMade_36 : decode cX7_canBeMade 36 = .ok (.iaload, 1) := by decide +kernel
theorem dX7_canBeMade_37 : decode cX7_canBeMade 37 = .ok (.iadd, 1) := by decide +kernel
theorem dX7_canBeMade_38 : decode cX7_canBeMade 38 = .ok (.istore_n 2, 1) := by decide +kernel
theorem dX7_canBeMade_39 : decode cX7_canBeMade 39 = .ok (.iload_n 2, 1) := by decide +kernel
theorem dX7_canBeMade_40 : decode cX7_canBeMade 40 = .ok (.aload_n 0, 1) := by decide +kernel
theorem dX7_canBeMade_41 : decode cX7_canBeMade 41 = .ok (.getfield 15, 3) := by decide +kernel
theorem dX7_canBeMade_44 : decode cX7_canBeMade 44 = .ok (.iload 4, 2) := by decide +kernel
theorem dX7_canBeMade_46 : decode cX7_canBeMade 46 = .ok (.iaload, 1) := by decide +kernel
theorem dX7_canBeMade_47 : decode cX7_canBeMade 47 = .ok (.if_icmp .le 5, 3) := by decide +kernel
theorem dX7_canBeMade_50 : decode cX7_canBeMade 50 = .ok (.iconst 0, 1) := by decide +kernel
theorem dX7_canBeMade_51 : decode cX7_canBeMade 51 = .ok (.ireturn, 1) := by decide +kernel
theorem dX7_canBeMade_52 : decode cX7_canBeMade 52 = .ok (.iinc 3 1, 3) := by decide +kernel
theorem dX7_canBeMade_55 : decode cX7_canBeMade 55 = .ok (.goto (-51), 3) := by decide +kernel
theorem dX7_canBeMade_58 : decode cX7_canBeMade 58 = .ok (.iconst 1, 1) := by decide +kernel
theorem dX7_canBeMade_59 : decode cX7_canBeMade 59 = .ok (.ireturn, 1) := by decide +kernel
theorem dX7_isIn_0 : decode cX7_isIn 0 = .ok (.iload_n 1, 1) := by decide +kernel
theorem dX7_isIn_1 : decode cX7_isIn 1 = .ok (.iload_n 0, 1) := by decide +kernel
theorem dX7_isIn_2 : decode cX7_isIn 2 = .ok (.ishr, 1) := by decide +kernel
theorem dX7_isIn_3 : decode cX7_isIn 3 = .ok (.iconst 1, 1) := by decide +kernel
theorem dX7_isIn_4 : decode cX7_isIn 4 = .ok (.iand, 1) := by decide +kernel
theorem dX7_isIn_5 : decode cX7_isIn 5 = .ok (.iconst 1, 1) := by decide +kernel
theorem dX7_isIn_6 : decode cX7_isIn 6 = .ok (.if_icmp .ne 7, 3) := by decide +kernel
theorem dX7_isIn_9 : decode cX7_isIn 9 = .ok (.iconst 1, 1) := by decide +kernel
theorem dX7_isIn_10 : decode cX7_isIn 10 = .ok (.goto 4, 3) := by decide +kernel
theorem dX7_isIn_13 : decode cX7_isIn 13 = .ok (.iconst 0, 1) := by decide +kernel
theorem dX7_isIn_14 : decode cX7_isIn 14 = .ok (.ireturn, 1) := by decide +kernel
theorem dX7_lettersOf_0 : decode cX7_lettersOf 0 = .ok (.aload_n 0, 1) := by decide +kernel
theorem dX7_lettersOf_1 : decode cX7_lettersOf 1 = .ok (.aload_n 0, 1) := by decide +kernel
theorem dX7_lettersOf_2 : decode cX7_lettersOf 2 = .ok (.getfield 18, 3) := by decide +kernel
theorem dX7_lettersOf_5 : decode cX7_lettersOf 5 = .ok (.iload_n 1, 1) := by decide +kernel
theorem dX7_lettersOf_6 : decode cX7_lettersOf 6 = .ok (.invokevirtual 52, 3) := by decide +kernel
theorem dX7_lettersOf_9 : decode cX7_lettersOf 9 = .ok (.ireturn, 1) := by decide +kernel
theorem dX7_hoursOf_0 : decode cX7_hoursOf 0 = .ok (.aload_n 0, 1) := by decide +kernel
theorem dX7_hoursOf_1 : decode cX7_hoursOf 1 = .ok (.aload_n 0, 1) := by decide +kernel
theorem dX7_hoursOf_2 : decode cX7_hoursOf 2 = .ok (.getfield 9, 3) := by decide +kernel
theorem dX7_hoursOf_5 : decode cX7_hoursOf 5 = .ok (.iload_n 1, 1) := by decide +kernel
theorem dX7_hoursOf_6 : decode cX7_hoursOf 6 = .ok (.invokevirtual 52, 3) := by decide +kernel
theorem dX7_hoursOf_9 : decode cX7_hoursOf 9 = .ok (.ireturn, 1) := by decide +kernel
theorem dX7_sumOf_0 : decode cX7_sumOf 0 = .ok (.iconst 0, 1) := by decide +kernel
theorem dX7_sumOf_1 : decode cX7_sumOf 1 = .ok (.istore_n 3, 1) := by decide +kernel
theorem dX7_sumOf_2 : decode cX7_sumOf 2 = .ok (.iconst 0, 1) := by decide +kernel
theorem dX7_sumOf_3 : decode cX7_sumOf 3 = .ok (.istore 4, 2) := by decide +kernel
theorem dX7_sumOf_5 : decode cX7_sumOf 5 = .ok (.iload 4, 2) := by decide +kernel
theorem dX7_sumOf_7 : decode cX7_sumOf 7 = .ok (.aload_n 0, 1) := by decide +kernel
theorem dX7_sumOf_8 : decode cX7_sumOf 8 = .ok (.getfield 27, 3) := by decide +kernel
theorem dX7_sumOf_11 : decode cX7_sumOf 11 = .ok (.if_icmp .ge 25, 3) := by decide +kernel
theorem dX7_sumOf_14 : decode cX7_sumOf 14 = .ok (.iload 4, 2) := by decide +kernel
theorem dX7_sumOf_16 : decode cX7_sumOf 16 = .ok (.iload_n 2, 1) := by decide +kernel
theorem dX7_sumOf_17 : decode cX7_sumOf 17 = .ok (.invokestatic 49, 3) := by decide +kernel
theorem dX7_sumOf_20 : decode cX7_sumOf 20 = .ok (.ifCond .eq 10, 3) := by decide +kernel
theorem dX7_sumOf_23 : decode cX7_sumOf 23 = .ok (.iload_n 3, 1) := by decide +kernel
theorem dX7_sumOf_24 : decode cX7_sumOf 24 = .ok (.aload_n 1, 1) := by decide +kernel
theorem dX7_sumOf_25 : decode cX7_sumOf 25 = .ok (.iload 4, 2) := by decide +kernel
theorem dX7_sumOf_27 : decode cX7_sumOf 27 = .ok (.iaload, 1) := by decide +kernel
theorem dX7_sumOf_28 : decode cX7_sumOf 28 = .ok (.iadd, 1) := by decide +kernel
theorem dX7_sumOf_29 : decode cX7_sumOf 29 = .ok (.istore_n 3, 1) := by decide +kernel
theorem dX7_sumOf_30 : decode cX7_sumOf 30 = .ok (.iinc 4 1, 3) := by decide +kernel
theorem dX7_sumOf_33 : decode cX7_sumOf 33 = .ok (.goto (-28), 3) := by decide +kernel
theorem dX7_sumOf_36 : decode cX7_sumOf 36 = .ok (.iload_n 3, 1) := by decide +kernel
theorem dX7_sumOf_37 : decode cX7_sumOf 37 = .ok (.ireturn, 1) := by decide +kernel
theorem dX7_rowMade_0 : decode cX7_rowMade 0 = .ok (.iconst 0, 1) := by decide +kernel
theorem dX7_rowMade_1 : decode cX7_rowMade 1 = .ok (.istore_n 1, 1) := by decide +kernel
theorem dX7_rowMade_2 : decode cX7_rowMade 2 = .ok (.iconst 0, 1) := by decide +kernel
theorem dX7_rowMade_3 : decode cX7_rowMade 3 = .ok (.istore_n 2, 1) := by decide +kernel
theorem dX7_rowMade_4 : decode cX7_rowMade 4 = .ok (.iconst 0, 1) := by decide +kernel
theorem dX7_rowMade_5 : decode cX7_rowMade 5 = .ok (.istore_n 3, 1) := by decide +kernel
theorem dX7_rowMade_6 : decode cX7_rowMade 6 = .ok (.iload_n 3, 1) := by decide +kernel
theorem dX7_rowMade_7 : decode cX7_rowMade 7 = .ok (.aload_n 0, 1) := by decide +kernel
theorem dX7_rowMade_8 : decode cX7_rowMade 8 = .ok (.getfield 31, 3) := by decide +kernel
theorem dX7_rowMade_11 : decode cX7_rowMade 11 = .ok (.if_icmp .ge 72, 3) := by decide +kernel
theorem dX7_rowMade_14 : decode cX7_rowMade 14 = .ok (.aload_n 0, 1) := by decide +kernel
theorem dX7_rowMade_15 : decode cX7_rowMade 15 = .ok (.getfield 24, 3) := by decide +kernel
theorem dX7_rowMade_18 : decode cX7_rowMade 18 = .ok (.iload_n 3, 1) := by decide +kernel
theorem dX7_rowMade_19 : decode cX7_rowMade 19 = .ok (.iaload, 1) := by decide +kernel
theorem dX7_rowMade_20 : decode cX7_rowMade 20 = .ok (.istore 4, 2) := by decide +kernel
theorem dX7_rowMade_22 : decode cX7_rowMade 22 = .ok (.iload 4, 2) := by decide +kernel
theorem dX7_rowMade_24 : decode cX7_rowMade 24 = .ok (.ifCond .lt 21, 3) := by decide +kernel
theorem dX7_rowMade_27 : decode cX7_rowMade 27 = .ok (.iload 4, 2) := by decide +kernel
theorem dX7_rowMade_29 : decode cX7_rowMade 29 = .ok (.aload_n 0, 1) := by decide +kernel
theorem dX7_rowMade_30 : decode cX7_rowMade 30 = .ok (.getfield 27, 3) := by decide +kernel
theorem dX7_rowMade_33 : decode cX7_rowMade 33 = .ok (.if_icmp .ge 12, 3) := by decide +kernel
theorem dX7_rowMade_36 : decode cX7_rowMade 36 = .ok (.iload 4, 2) := by decide +kernel
theorem dX7_rowMade_38 : decode cX7_rowMade 38 = .ok (.iload_n 1, 1) := by decide +kernel
theorem dX7_rowMade_39 : decode cX7_rowMade 39 = .ok (.invokestatic 49, 3) := by decide +kernel
theorem dX7_rowMade_42 : decode cX7_rowMade 42 = .ok (.ifCond .eq 5, 3) := by decide +kernel
theorem dX7_rowMade_45 : decode cX7_rowMade 45 = .ok (.iload_n 3, 1) := by decide +kernel
theorem dX7_rowMade_46 : decode cX7_rowMade 46 = .ok (.ireturn, 1) := by decide +kernel
theorem dX7_rowMade_47 : decode cX7_rowMade 47 = .ok (.iload_n 2, 1) := by decide +kernel
theorem dX7_rowMade_48 : decode cX7_rowMade 48 = .ok (.aload_n 0, 1) := by decide +kernel
theorem dX7_rowMade_49 : decode cX7_rowMade 49 = .ok (.getfield 9, 3) := by decide +kernel
theorem dX7_rowMade_52 : decode cX7_rowMade 52 = .ok (.iload 4, 2) := by decide +kernel
theorem dX7_rowMade_54 : decode cX7_rowMade 54 = .ok (.iaload, 1) := by decide +kernel
theorem dX7_rowMade_55 : decode cX7_rowMade 55 = .ok (.iadd, 1) := by decide +kernel
theorem dX7_rowMade_56 : decode cX7_rowMade 56 = .ok (.istore_n 2, 1) := by decide +kernel
theorem dX7_rowMade_57 : decode cX7_rowMade 57 = .ok (.iload_n 2, 1) := by decide +kernel
theorem dX7_rowMade_58 : decode cX7_rowMade 58 = .ok (.aload_n 0, 1) := by decide +kernel
theorem dX7_rowMade_59 : decode cX7_rowMade 59 = .ok (.getfield 15, 3) := by decide +kernel
theorem dX7_rowMade_62 : decode cX7_rowMade 62 = .ok (.iload 4, 2) := by decide +kernel
theorem dX7_rowMade_64 : decode cX7_rowMade 64 = .ok (.iaload, 1) := by decide +kernel
theorem dX7_rowMade_65 : decode cX7_rowMade 65 = .ok (.if_icmp .le 5, 3) := by decide +kernel
theorem dX7_rowMade_68 : decode cX7_rowMade 68 = .ok (.iload_n 3, 1) := by decide +kernel
theorem dX7_rowMade_69 : decode cX7_rowMade 69 = .ok (.ireturn, 1) := by decide +kernel
theorem dX7_rowMade_70 : decode cX7_rowMade 70 = .ok (.iload_n 1, 1) := by decide +kernel
theorem dX7_rowMade_71 : decode cX7_rowMade 71 = .ok (.iconst 1, 1) := by decide +kernel
theorem dX7_rowMade_72 : decode cX7_rowMade 72 = .ok (.iload 4, 2) := by decide +kernel
theorem dX7_rowMade_74 : decode cX7_rowMade 74 = .ok (.ishl, 1) := by decide +kernel
theorem dX7_rowMade_75 : decode cX7_rowMade 75 = .ok (.ior, 1) := by decide +kernel
theorem dX7_rowMade_76 : decode cX7_rowMade 76 = .ok (.istore_n 1, 1) := by decide +kernel
theorem dX7_rowMade_77 : decode cX7_rowMade 77 = .ok (.iinc 3 1, 3) := by decide +kernel
theorem dX7_rowMade_80 : decode cX7_rowMade 80 = .ok (.goto (-74), 3) := by decide +kernel
theorem dX7_rowMade_83 : decode cX7_rowMade 83 = .ok (.aload_n 0, 1) := by decide +kernel
theorem dX7_rowMade_84 : decode cX7_rowMade 84 = .ok (.getfield 31, 3) := by decide +kernel
theorem dX7_rowMade_87 : decode cX7_rowMade 87 = .ok (.ireturn, 1) := by decide +kernel
theorem dX7_rowLetters_0 : decode cX7_rowLetters 0 = .ok (.iconst 0, 1) := by decide +kernel
theorem dX7_rowLetters_1 : decode cX7_rowLetters 1 = .ok (.istore_n 2, 1) := by decide +kernel
theorem dX7_rowLetters_2 : decode cX7_rowLetters 2 = .ok (.iconst 0, 1) := by decide +kernel
theorem dX7_rowLetters_3 : decode cX7_rowLetters 3 = .ok (.istore_n 3, 1) := by decide +kernel
theorem dX7_rowLetters_4 : decode cX7_rowLetters 4 = .ok (.iload_n 3, 1) := by decide +kernel
theorem dX7_rowLetters_5 : decode cX7_rowLetters 5 = .ok (.iload_n 1, 1) := by decide +kernel
theorem dX7_rowLetters_6 : decode cX7_rowLetters 6 = .ok (.if_icmp .ge 23, 3) := by decide +kernel
theorem dX7_rowLetters_9 : decode cX7_rowLetters 9 = .ok (.iload_n 2, 1) := by decide +kernel
theorem dX7_rowLetters_10 : decode cX7_rowLetters 10 = .ok (.aload_n 0, 1) := by decide +kernel
theorem dX7_rowLetters_11 : decode cX7_rowLetters 11 = .ok (.getfield 18, 3) := by decide +kernel
theorem dX7_rowLetters_14 : decode cX7_rowLetters 14 = .ok (.aload_n 0, 1) := by decide +kernel
theorem dX7_rowLetters_15 : decode cX7_rowLetters 15 = .ok (.getfield 24, 3) := by decide +kernel
theorem dX7_rowLetters_18 : decode cX7_rowLetters 18 = .ok (.iload_n 3, 1) := by decide +kernel
theorem dX7_rowLetters_19 : decode cX7_rowLetters 19 = .ok (.iaload, 1) := by decide +kernel
theorem dX7_rowLetters_20 : decode cX7_rowLetters 20 = .ok (.iaload, 1) := by decide +kernel
theorem dX7_rowLetters_21 : decode cX7_rowLetters 21 = .ok (.iadd, 1) := by decide +kernel
theorem dX7_rowLetters_22 : decode cX7_rowLetters 22 = .ok (.istore_n 2, 1) := by decide +kernel
theorem dX7_rowLetters_23 : decode cX7_rowLetters 23 = .ok (.iinc 3 1, 3) := by decide +kernel
theorem dX7_rowLetters_26 : decode cX7_rowLetters 26 = .ok (.goto (-22), 3) := by decide +kernel
theorem dX7_rowLetters_29 : decode cX7_rowLetters 29 = .ok (.iload_n 2, 1) := by decide +kernel
theorem dX7_rowLetters_30 : decode cX7_rowLetters 30 = .ok (.ireturn, 1) := by decide +kernel
theorem dX8_init_0 : decode cX8_init 0 = .ok (.aload_n 0, 1) := by decide +kernel
theorem dX8_init_1 : decode cX8_init 1 = .ok (.invokespecial 1, 3) := by decide +kernel
theorem dX8_init_4 : decode cX8_init 4 = .ok (.aload_n 0, 1) := by decide +kernel
theorem dX8_init_5 : decode cX8_init 5 = .ok (.new 7, 3) := by decide +kernel
theorem dX8_init_8 : decode cX8_init 8 = .ok (.dup, 1) := by decide +kernel
theorem dX8_init_9 : decode cX8_init 9 = .ok (.invokespecial 9, 3) := by decide +kernel
theorem dX8_init_12 : decode cX8_init 12 = .ok (.putfield 10, 3) := by decide +kernel
theorem dX8_init_15 : decode cX8_init 15 = .ok (.aload_n 0, 1) := by decide +kernel
theorem dX8_init_16 : decode cX8_init 16 = .ok (.aload_n 0, 1) := by decide +kernel
theorem dX8_init_17 : decode cX8_init 17 = .ok (.getfield 10, 3) := by decide +kernel
theorem dX8_init_20 : decode cX8_init 20 = .ok (.getfield 16, 3) := by decide +kernel
theorem dX8_init_23 : decode cX8_init 23 = .ok (.putfield 20, 3) := by decide +kernel
theorem dX8_init_26 : decode cX8_init 26 = .ok (.aload_n 0, 1) := by decide +kernel
theorem dX8_init_27 : decode cX8_init 27 = .ok (.aload_n 0, 1) := by decide +kernel
theorem dX8_init_28 : decode cX8_init 28 = .ok (.getfield 10, 3) := by decide +kernel
theorem dX8_init_31 : decode cX8_init 31 = .ok (.getfield 21, 3) := by decide +kernel
theorem dX8_init_34 : decode cX8_init 34 = .ok (.putfield 25, 3) := by decide +kernel
theorem dX8_init_37 : decode cX8_init 37 = .ok (.aload_n 0, 1) := by decide +kernel
theorem dX8_init_38 : decode cX8_init 38 = .ok (.aload_n 0, 1) := by decide +kernel
theorem dX8_init_39 : decode cX8_init 39 = .ok (.getfield 10, 3) := by decide +kernel
theorem dX8_init_42 : decode cX8_init 42 = .ok (.getfield 26, 3) := by decide +kernel
theorem dX8_init_45 : decode cX8_init 45 = .ok (.putfield 30, 3) := by decide +kernel
theorem dX8_init_48 : decode cX8_init 48 = .ok (.aload_n 0, 1) := by decide +kernel
theorem dX8_init_49 : decode cX8_init 49 = .ok (.aload_n 0, 1) := by decide +kernel
theorem dX8_init_50 : decode cX8_init 50 = .ok (.getfield 10, 3) := by decide +kernel
theorem dX8_init_53 : decode cX8_init 53 = .ok (.getfield 31, 3) := by decide +kernel
theorem dX8_init_56 : decode cX8_init 56 = .ok (.putfield 35, 3) := by decide +kernel
theorem dX8_init_59 : decode cX8_init 59 = .ok (.aload_n 0, 1) := by decide +kernel
theorem dX8_init_60 : decode cX8_init 60 = .ok (.new 36, 3) := by decide +kernel
theorem dX8_init_63 : decode cX8_init 63 = .ok (.dup, 1) := by decide +kernel
theorem dX8_init_64 : decode cX8_init 64 = .ok (.sipush 2400, 3) := by decide +kernel
theorem dX8_init_67 : decode cX8_init 67 = .ok (.invokespecial 38, 3) := by decide +kernel
theorem dX8_init_70 : decode cX8_init 70 = .ok (.putfield 41, 3) := by decide +kernel
theorem dX8_init_73 : decode cX8_init 73 = .ok (.aload_n 0, 1) := by decide +kernel
theorem dX8_init_74 : decode cX8_init 74 = .ok (.new 36, 3) := by decide +kernel
theorem dX8_init_77 : decode cX8_init 77 = .ok (.dup, 1) := by decide +kernel
theorem dX8_init_78 : decode cX8_init 78 = .ok (.iconst 0, 1) := by decide +kernel
theorem dX8_init_79 : decode cX8_init 79 = .ok (.invokespecial 38, 3) := by decide +kernel
theorem dX8_init_82 : decode cX8_init 82 = .ok (.putfield 45, 3) := by decide +kernel
theorem dX8_init_85 : decode cX8_init 85 = .ok (.aload_n 0, 1) := by decide +kernel
theorem dX8_init_86 : decode cX8_init 86 = .ok (.new 48, 3) := by decide +kernel
theorem dX8_init_89 : decode cX8_init 89 = .ok (.dup, 1) := by decide +kernel
theorem dX8_init_90 : decode cX8_init 90 = .ok (.invokespecial 50, 3) := by decide +kernel
theorem dX8_init_93 : decode cX8_init 93 = .ok (.putfield 51, 3) := by decide +kernel
theorem dX8_init_96 : decode cX8_init 96 = .ok (.aload_n 0, 1) := by decide +kernel
theorem dX8_init_97 : decode cX8_init 97 = .ok (.bipush 7, 2) := by decide +kernel
theorem dX8_init_99 : decode cX8_init 99 = .ok (.newarray .int, 2) := by decide +kernel
theorem dX8_init_101 : decode cX8_init 101 = .ok (.putfield 55, 3) := by decide +kernel
theorem dX8_init_104 : decode cX8_init 104 = .ok (.return_, 1) := by decide +kernel
theorem dX8_office_0 : decode cX8_office 0 = .ok (.iload_n 1, 1) := by decide +kernel
theorem dX8_office_1 : decode cX8_office 1 = .ok (.ifCond .ge 10, 3) := by decide +kernel
theorem dX8_office_4 : decode cX8_office 4 = .ok (.aload_n 0, 1) := by decide +kernel
theorem dX8_office_5 : decode cX8_office 5 = .ok (.bipush (-4), 2) := by decide +kernel
theorem dX8_office_7 : decode cX8_office 7 = .ok (.invokevirtual 59, 3) := by decide +kernel
theorem dX8_office_10 : decode cX8_office 10 = .ok (.ireturn, 1) := by decide +kernel
theorem dX8_office_11 : decode cX8_office 11 = .ok (.iload_n 1, 1) := by decide +kernel
theorem dX8_office_12 : decode cX8_office 12 = .ok (.bipush 99, 2) := by decide +kernel
theorem dX8_office_14 : decode cX8_office 14 = .ok (.if_icmp .gt 15, 3) := by decide +kernel
theorem dX8_office_17 : decode cX8_office 17 = .ok (.aload_n 0, 1) := by decide +kernel
theorem dX8_office_18 : decode cX8_office 18 = .ok (.getfield 20, 3) := by decide +kernel
theorem dX8_office_21 : decode cX8_office 21 = .ok (.getfield 63, 3) := by decide +kernel
theorem dX8_office_24 : decode cX8_office 24 = .ok (.bipush 12, 2) := by decide +kernel
theorem dX8_office_26 : decode cX8_office 26 = .ok (.if_icmp .lt 10, 3) := by decide +kernel
theorem dX8_office_29 : decode cX8_office 29 = .ok (.aload_n 0, 1) := by decide +kernel
theorem dX8_office_30 : decode cX8_office 30 = .ok (.bipush (-6), 2) := by decide +kernel
theorem dX8_office_32 : decode cX8_office 32 = .ok (.invokevirtual 59, 3) := by decide +kernel
theorem dX8_office_35 : decode cX8_office 35 = .ok (.ireturn, 1) := by decide +kernel
theorem dX8_office_36 : decode cX8_office 36 = .ok (.aload_n 0, 1) := by decide +kernel
theorem dX8_office_37 : decode cX8_office 37 = .ok (.getfield 20, 3) := by decide +kernel
theorem dX8_office_40 : decode cX8_office 40 = .ok (.iload_n 1, 1) := by decide +kernel
theorem dX8_office_41 : decode cX8_office 41 = .ok (.iload_n 2, 1) := by decide +kernel
theorem dX8_office_42 : decode cX8_office 42 = .ok (.invokevirtual 69, 3) := by decide +kernel
theorem dX8_office_45 : decode cX8_office 45 = .ok (.ireturn, 1) := by decide +kernel
theorem dX8_staff_0 : decode cX8_staff 0 = .ok (.aload_n 0, 1) := by decide +kernel
theorem dX8_staff_1 : decode cX8_staff 1 = .ok (.getfield 20, 3) := by decide +kernel
theorem dX8_staff_4 : decode cX8_staff 4 = .ok (.iload_n 1, 1) := by decide +kernel
theorem dX8_staff_5 : decode cX8_staff 5 = .ok (.invokevirtual 73, 3) := by decide +kernel
theorem dX8_staff_8 : decode cX8_staff 8 = .ok (.ifCond .eq 13, 3) := by decide +kernel
theorem dX8_staff_11 : decode cX8_staff 11 = .ok (.iload_n 2, 1) := by decide +kernel
theorem dX8_staff_12 : decode cX8_staff 12 = .ok (.iconst 0, 1) := by decide +kernel
theorem dX8_staff_13 : decode cX8_staff 13 = .ok (.bipush 99, 2) := by decide +kernel
theorem dX8_staff_15 : decode cX8_staff 15 = .ok (.invokestatic 77, 3) := by decide +kernel
theorem dX8_staff_18 : decode cX8_staff 18 = .ok (.goto 4, 3) := by decide +kernel
theorem dX8_staff_21 : decode cX8_staff 21 = .ok (.iconst (-1), 1) := by decide +kernel
theorem dX8_staff_22 : decode cX8_staff 22 = .ok (.istore 4, 2) := by decide +kernel
theorem dX8_staff_24 : decode cX8_staff 24 = .ok (.iload 4, 2) := by decide +kernel
theorem dX8_staff_26 : decode cX8_staff 26 = .ok (.ifCond .ge 12, 3) := by decide +kernel
theorem dX8_staff_29 : decode cX8_staff 29 = .ok (.aload_n 0, 1) := by decide +kernel
theorem dX8_staff_30 : decode cX8_staff 30 = .ok (.iload 4, 2) := by decide +kernel
theorem dX8_staff_32 : decode cX8_staff 32 = .ok (.invokevirtual 59, 3) := by decide +kernel
theorem dX8_staff_35 : decode cX8_staff 35 = .ok (.goto 13, 3) := by decide +kernel
theorem dX8_staff_38 : decode cX8_staff 38 = .ok (.aload_n 0, 1) := by decide +kernel
theorem dX8_staff_39 : decode cX8_staff 39 = .ok (.getfield 20, 3) := by decide +kernel
theorem dX8_staff_42 : decode cX8_staff 42 = .ok (.iload_n 1, 1) := by decide +kernel
theorem dX8_staff_43 : decode cX8_staff 43 = .ok (.iload_n 2, 1) := by decide +kernel
theorem dX8_staff_44 : decode cX8_staff 44 = .ok (.iload_n 3, 1) := by decide +kernel
theorem dX8_staff_45 : decode cX8_staff 45 = .ok (.invokevirtual 81, 3) := by decide +kernel
theorem dX8_staff_48 : decode cX8_staff 48 = .ok (.ireturn, 1) := by decide +kernel
theorem dX8_way_0 : decode cX8_way 0 = .ok (.aload_n 0, 1) := by decide +kernel
theorem dX8_way_1 : decode cX8_way 1 = .ok (.getfield 20, 3) := by decide +kernel
theorem dX8_way_4 : decode cX8_way 4 = .ok (.iload_n 1, 1) := by decide +kernel
theorem dX8_way_5 : decode cX8_way 5 = .ok (.invokevirtual 73, 3) := by decide +kernel
theorem dX8_way_8 : decode cX8_way 8 = .ok (.ifCond .eq 19, 3) := by decide +kernel
theorem dX8_way_11 : decode cX8_way 11 = .ok (.aload_n 0, 1) := by decide +kernel
theorem dX8_way_12 : decode cX8_way 12 = .ok (.getfield 20, 3) := by decide +kernel
theorem dX8_way_15 : decode cX8_way 15 = .ok (.iload_n 2, 1) := by decide +kernel
theorem dX8_way_16 : decode cX8_way 16 = .ok (.invokevirtual 73, 3) := by decide +kernel
theorem dX8_way_19 : decode cX8_way 19 = .ok (.ifCond .eq 8, 3) := by decide +kernel
theorem dX8_way_22 : decode cX8_way 22 = .ok (.iload_n 1, 1) := by decide +kernel
theorem dX8_way_23 : decode cX8_way 23 = .ok (.iload_n 2, 1) := by decide +kernel
theorem dX8_way_24 : decode cX8_way 24 = .ok (.if_icmp .ne 9, 3) := by decide +kernel
theorem dX8_way_27 : decode cX8_way 27 = .ok (.aload_n 0, 1) := by decide +kernel
theorem dX8_way_28 : decode cX8_way 28 = .ok (.iconst (-1), 1) := by decide +kernel
theorem dX8_way_29 : decode cX8_way 29 = .ok (.invokevirtual 59, 3) := by decide +kernel
theorem dX8_way_32 : decode cX8_way 32 = .ok (.ireturn, 1) := by decide +kernel
theorem dX8_way_33 : decode cX8_way 33 = .ok (.iload_n 3, 1) := by decide +kernel
theorem dX8_way_34 : decode cX8_way 34 = .ok (.iconst 1, 1) := by decide +kernel
theorem dX8_way_35 : decode cX8_way 35 = .ok (.if_icmp .lt 14, 3) := by decide +kernel
theorem dX8_way_38 : decode cX8_way 38 = .ok (.iload 4, 2) := by decide +kernel
theorem dX8_way_40 : decode cX8_way 40 = .ok (.ifCond .lt 9, 3) := by decide +kernel
theorem dX8_way_43 : decode cX8_way 43 = .ok (.iload 5, 2) := by decide +kernel
theorem dX8_way_45 : decode cX8_way 45 = .ok (.iconst 1, 1) := by decide +kernel
theorem dX8_way_46 : decode cX8_way 46 = .ok (.if_icmp .ge 10, 3) := by decide +kernel
theorem dX8_way_49 : decode cX8_way 49 = .ok (.aload_n 0, 1) := by decide +kernel
theorem dX8_way_50 : decode cX8_way 50 = .ok (.bipush (-4), 2) := by decide +kernel
theorem dX8_way_52 : decode cX8_way 52 = .ok (.invokevirtual 59, 3) := by decide +kernel
theorem dX8_way_55 : decode cX8_way 55 = .ok (.ireturn, 1) := by decide +kernel
theorem dX8_way_56 : decode cX8_way 56 = .ok (.iload_n 3, 1) := by decide +kernel
theorem dX8_way_57 : decode cX8_way 57 = .ok (.bipush 48, 2) := by decide +kernel
theorem dX8_way_59 : decode cX8_way 59 = .ok (.if_icmp .gt 30, 3) := by decide +kernel
theorem dX8_way_62 : decode cX8_way 62 = .ok (.iload 4, 2) := by decide +kernel
theorem dX8_way_64 : decode cX8_way 64 = .ok (.sipush 2000, 3) := by decide +kernel
theorem dX8_way_67 : decode cX8_way 67 = .ok (.if_icmp .gt 22, 3) := by decide +kernel
theorem dX8_way_70 : decode cX8_way 70 = .ok (.iload 5, 2) := by decide +kernel
theorem dX8_way_72 : decode cX8_way 72 = .ok (.bipush 48, 2) := by decide +kernel
theorem dX8_way_74 : decode cX8_way 74 = .ok (.if_icmp .gt 15, 3) := by decide +kernel
theorem dX8_way_77 : decode cX8_way 77 = .ok (.aload_n 0, 1) := by decide +kernel
theorem dX8_way_78 : decode cX8_way 78 = .ok (.getfield 20, 3) := by decide +kernel
theorem dX8_way_81 : decode cX8_way 81 = .ok (.getfield 85, 3) := by decide +kernel
theorem dX8_way_84 : decode cX8_way 84 = .ok (.bipush 24, 2) := by decide +kernel
theorem dX8_way_86 : decode cX8_way 86 = .ok (.if_icmp .lt 10, 3) := by decide +kernel
theorem dX8_way_89 : decode cX8_way 89 = .ok (.aload_n 0, 1) := by decide +kernel
theorem dX8_way_90 : decode cX8_way 90 = .ok (.bipush (-6), 2) := by decide +kernel
theorem dX8_way_92 : decode cX8_way 92 = .ok (.invokevirtual 59, 3) := by decide +kernel
theorem dX8_way_95 : decode cX8_way 95 = .ok (.ireturn, 1) := by decide +kernel
theorem dX8_way_96 : decode cX8_way 96 = .ok (.aload_n 0, 1) := by decide +kernel
theorem dX8_way_97 : decode cX8_way 97 = .ok (.getfield 20, 3) := by decide +kernel
theorem dX8_way_100 : decode cX8_way 100 = .ok (.iload_n 1, 1) := by decide +kernel
theorem dX8_way_101 : decode cX8_way 101 = .ok (.iload_n 2, 1) := by decide +kernel
theorem dX8_way_102 : decode cX8_way 102 = .ok (.iload_n 3, 1) := by decide +kernel
theorem dX8_way_103 : decode cX8_way 103 = .ok (.iload 4, 2) := by decide +kernel
theorem dX8_way_105 : decode cX8_way 105 = .ok (.iload 5, 2) := by decide +kernel
theorem dX8_way_107 : decode cX8_way 107 = .ok (.invokevirtual 88, 3) := by decide +kernel
theorem dX8_way_110 : decode cX8_way 110 = .ok (.ireturn, 1) := by decide +kernel
theorem dX8_shut_0 : decode cX8_shut 0 = .ok (.aload_n 0, 1) := by decide +kernel
theorem dX8_shut_1 : decode cX8_shut 1 = .ok (.getfield 20, 3) := by decide +kernel
theorem dX8_shut_4 : decode cX8_shut 4 = .ok (.iload_n 1, 1) := by decide +kernel
theorem dX8_shut_5 : decode cX8_shut 5 = .ok (.invokevirtual 92, 3) := by decide +kernel
theorem dX8_shut_8 : decode cX8_shut 8 = .ok (.ifCond .ne 9, 3) := by decide +kernel
theorem dX8_shut_11 : decode cX8_shut 11 = .ok (.aload_n 0, 1) := by decide +kernel
theorem dX8_shut_12 : decode cX8_shut 12 = .ok (.iconst (-1), 1) := by decide +kernel
theorem dX8_shut_13 : decode cX8_shut 13 = .ok (.invokevirtual 59, 3) := by decide +kernel
theorem dX8_shut_16 : decode cX8_shut 16 = .ok (.ireturn, 1) := by decide +kernel
theorem dX8_shut_17 : decode cX8_shut 17 = .ok (.iload_n 2, 1) := by decide +kernel
theorem dX8_shut_18 : decode cX8_shut 18 = .ok (.aload_n 0, 1) := by decide +kernel
theorem dX8_shut_19 : decode cX8_shut 19 = .ok (.getfield 95, 3) := by decide +kernel
theorem dX8_shut_22 : decode cX8_shut 22 = .ok (.if_icmp .lt 8, 3) := by decide +kernel
theorem dX8_shut_25 : decode cX8_shut 25 = .ok (.iload_n 3, 1) := by decide +kernel
theorem dX8_shut_26 : decode cX8_shut 26 = .ok (.iload_n 2, 1) := by decide +kernel
theorem dX8_shut_27 : decode cX8_shut 27 = .ok (.if_icmp .ge 10, 3) := by decide +kernel
theorem dX8_shut_30 : decode cX8_shut 30 = .ok (.aload_n 0, 1) := by decide +kernel
theorem dX8_shut_31 : decode cX8_shut 31 = .ok (.bipush (-4), 2) := by decide +kernel
theorem dX8_shut_33 : decode cX8_shut 33 = .ok (.invokevirtual 59, 3) := by decide +kernel
theorem dX8_shut_36 : decode cX8_shut 36 = .ok (.ireturn, 1) := by decide +kernel
theorem dX8_shut_37 : decode cX8_shut 37 = .ok (.iload_n 3, 1) := by decide +kernel
theorem dX8_shut_38 : decode cX8_shut 38 = .ok (.sipush 2000, 3) := by decide +kernel
theorem dX8_shut_41 : decode cX8_shut 41 = .ok (.if_icmp .gt 15, 3) := by decide +kernel
theorem dX8_shut_44 : decode cX8_shut 44 = .ok (.aload_n 0, 1) := by decide +kernel
theorem dX8_shut_45 : decode cX8_shut 45 = .ok (.getfield 20, 3) := by decide +kernel
theorem dX8_shut_48 : decode cX8_shut 48 = .ok (.getfield 98, 3) := by decide +kernel
theorem dX8_shut_51 : decode cX8_shut 51 = .ok (.bipush 40, 2) := by decide +kernel
theorem dX8_shut_53 : decode cX8_shut 53 = .ok (.if_icmp .lt 10, 3) := by decide +kernel
theorem dX8_shut_56 : decode cX8_shut 56 = .ok (.aload_n 0, 1) := by decide +kernel
theorem dX8_shut_57 : decode cX8_shut 57 = .ok (.bipush (-6), 2) := by decide +kernel
theorem dX8_shut_59 : decode cX8_shut 59 = .ok (.invokevirtual 59, 3) := by decide +kernel
theorem dX8_shut_62 : decode cX8_shut 62 = .ok (.ireturn, 1) := by decide +kernel
theorem dX8_shut_63 : decode cX8_shut 63 = .ok (.aload_n 0, 1) := by decide +kernel
theorem dX8_shut_64 : decode cX8_shut 64 = .ok (.getfield 20, 3) := by decide +kernel
theorem dX8_shut_67 : decode cX8_shut 67 = .ok (.iload_n 1, 1) := by decide +kernel
theorem dX8_shut_68 : decode cX8_shut 68 = .ok (.iload_n 2, 1) := by decide +kernel
theorem dX8_shut_69 : decode cX8_shut 69 = .ok (.iload_n 3, 1) := by decide +kernel
theorem dX8_shut_70 : decode cX8_shut 70 = .ok (.invokevirtual 101, 3) := by decide +kernel
theorem dX8_shut_73 : decode cX8_shut 73 = .ok (.ireturn, 1) := by decide +kernel
theorem dX8_far_0 : decode cX8_far 0 = .ok (.aload_n 0, 1) := by decide +kernel
theorem dX8_far_1 : decode cX8_far 1 = .ok (.getfield 20, 3) := by decide +kernel
end
section
theorem dX8_far_4 : decode cX8_far 4 = .ok (.iload_n 1, 1) := by decide +kernel
theorem dX8_far_5 : decode cX8_far 5 = .ok (.invokevirtual 73, 3) := by decide +kernel
theorem dX8_far_8 : decode cX8_far 8 = .ok (.ifCond .eq 14, 3) := by decide +kernel
theorem dX8_far_11 : decode cX8_far 11 = .ok (.aload_n 0, 1) := by decide +kernel
theorem dX8_far_12 : decode cX8_far 12 = .ok (.getfield 20, 3) := by decide +kernel
theorem dX8_far_15 : decode cX8_far 15 = .ok (.iload_n 2, 1) := by decide +kernel
theorem dX8_far_16 : decode cX8_far 16 = .ok (.invokevirtual 73, 3) := by decide +kernel
theorem dX8_far_19 : decode cX8_far 19 = .ok (.ifCond .ne 9, 3) := by decide +kernel
theorem dX8_far_22 : decode cX8_far 22 = .ok (.aload_n 0, 1) := by decide +kernel
theorem dX8_far_23 : decode cX8_far 23 = .ok (.iconst (-1), 1) := by decide +kernel
theorem dX8_far_24 : decode cX8_far 24 = .ok (.invokevirtual 59, 3) := by decide +kernel
theorem dX8_far_27 : decode cX8_far 27 = .ok (.ireturn, 1) := by decide +kernel
theorem dX8_far_28 : decode cX8_far 28 = .ok (.aload_n 0, 1) := by decide +kernel
theorem dX8_far_29 : decode cX8_far 29 = .ok (.getfield 20, 3) := by decide +kernel
theorem dX8_far_32 : decode cX8_far 32 = .ok (.iload_n 1, 1) := by decide +kernel
theorem dX8_far_33 : decode cX8_far 33 = .ok (.iload_n 2, 1) := by decide +kernel
theorem dX8_far_34 : decode cX8_far 34 = .ok (.invokevirtual 104, 3) := by decide +kernel
theorem dX8_far_37 : decode cX8_far 37 = .ok (.invokestatic 108, 3) := by decide +kernel
theorem dX8_far_40 : decode cX8_far 40 = .ok (.ireturn, 1) := by decide +kernel
theorem dX8_late_0 : decode cX8_late 0 = .ok (.aload_n 0, 1) := by decide +kernel
theorem dX8_late_1 : decode cX8_late 1 = .ok (.getfield 20, 3) := by decide +kernel
theorem dX8_late_4 : decode cX8_late 4 = .ok (.iload_n 1, 1) := by decide +kernel
theorem dX8_late_5 : decode cX8_late 5 = .ok (.invokevirtual 73, 3) := by decide +kernel
theorem dX8_late_8 : decode cX8_late 8 = .ok (.ifCond .ne 9, 3) := by decide +kernel
theorem dX8_late_11 : decode cX8_late 11 = .ok (.aload_n 0, 1) := by decide +kernel
theorem dX8_late_12 : decode cX8_late 12 = .ok (.iconst (-1), 1) := by decide +kernel
theorem dX8_late_13 : decode cX8_late 13 = .ok (.invokevirtual 59, 3) := by decide +kernel
theorem dX8_late_16 : decode cX8_late 16 = .ok (.ireturn, 1) := by decide +kernel
theorem dX8_late_17 : decode cX8_late 17 = .ok (.aload_n 0, 1) := by decide +kernel
theorem dX8_late_18 : decode cX8_late 18 = .ok (.getfield 20, 3) := by decide +kernel
theorem dX8_late_21 : decode cX8_late 21 = .ok (.iload_n 1, 1) := by decide +kernel
theorem dX8_late_22 : decode cX8_late 22 = .ok (.invokevirtual 111, 3) := by decide +kernel
theorem dX8_late_25 : decode cX8_late 25 = .ok (.invokestatic 108, 3) := by decide +kernel
theorem dX8_late_28 : decode cX8_late 28 = .ok (.ireturn, 1) := by decide +kernel
theorem dX8_hours_0 : decode cX8_hours 0 = .ok (.iload_n 1, 1) := by decide +kernel
theorem dX8_hours_1 : decode cX8_hours 1 = .ok (.iconst 1, 1) := by decide +kernel
theorem dX8_hours_2 : decode cX8_hours 2 = .ok (.if_icmp .ge 10, 3) := by decide +kernel
theorem dX8_hours_5 : decode cX8_hours 5 = .ok (.aload_n 0, 1) := by decide +kernel
theorem dX8_hours_6 : decode cX8_hours 6 = .ok (.bipush (-4), 2) := by decide +kernel
theorem dX8_hours_8 : decode cX8_hours 8 = .ok (.invokevirtual 59, 3) := by decide +kernel
theorem dX8_hours_11 : decode cX8_hours 11 = .ok (.ireturn, 1) := by decide +kernel
theorem dX8_hours_12 : decode cX8_hours 12 = .ok (.iload_n 1, 1) := by decide +kernel
theorem dX8_hours_13 : decode cX8_hours 13 = .ok (.sipush 2000, 3) := by decide +kernel
theorem dX8_hours_16 : decode cX8_hours 16 = .ok (.aload_n 0, 1) := by decide +kernel
theorem dX8_hours_17 : decode cX8_hours 17 = .ok (.getfield 95, 3) := by decide +kernel
theorem dX8_hours_20 : decode cX8_hours 20 = .ok (.isub, 1) := by decide +kernel
theorem dX8_hours_21 : decode cX8_hours 21 = .ok (.if_icmp .le 10, 3) := by decide +kernel
theorem dX8_hours_24 : decode cX8_hours 24 = .ok (.aload_n 0, 1) := by decide +kernel
theorem dX8_hours_25 : decode cX8_hours 25 = .ok (.bipush (-6), 2) := by decide +kernel
theorem dX8_hours_27 : decode cX8_hours 27 = .ok (.invokevirtual 59, 3) := by decide +kernel
theorem dX8_hours_30 : decode cX8_hours 30 = .ok (.ireturn, 1) := by decide +kernel
theorem dX8_hours_31 : decode cX8_hours 31 = .ok (.iconst 0, 1) := by decide +kernel
theorem dX8_hours_32 : decode cX8_hours 32 = .ok (.istore_n 2, 1) := by decide +kernel
theorem dX8_hours_33 : decode cX8_hours 33 = .ok (.iload_n 2, 1) := by decide +kernel
theorem dX8_hours_34 : decode cX8_hours 34 = .ok (.iload_n 1, 1) := by decide +kernel
theorem dX8_hours_35 : decode cX8_hours 35 = .ok (.if_icmp .ge 34, 3) := by decide +kernel
theorem dX8_hours_38 : decode cX8_hours 38 = .ok (.aload_n 0, 1) := by decide +kernel
theorem dX8_hours_39 : decode cX8_hours 39 = .ok (.getfield 10, 3) := by decide +kernel
theorem dX8_hours_42 : decode cX8_hours 42 = .ok (.aload_n 0, 1) := by decide +kernel
theorem dX8_hours_43 : decode cX8_hours 43 = .ok (.getfield 41, 3) := by decide +kernel
theorem dX8_hours_46 : decode cX8_hours 46 = .ok (.aload_n 0, 1) := by decide +kernel
theorem dX8_hours_47 : decode cX8_hours 47 = .ok (.getfield 95, 3) := by decide +kernel
theorem dX8_hours_50 : decode cX8_hours 50 = .ok (.invokevirtual 114, 3) := by decide +kernel
theorem dX8_hours_53 : decode cX8_hours 53 = .ok (.aload_n 0, 1) := by decide +kernel
theorem dX8_hours_54 : decode cX8_hours 54 = .ok (.dup, 1) := by decide +kernel
theorem dX8_hours_55 : decode cX8_hours 55 = .ok (.getfield 95, 3) := by decide +kernel
theorem dX8_hours_58 : decode cX8_hours 58 = .ok (.iconst 1, 1) := by decide +kernel
theorem dX8_hours_59 : decode cX8_hours 59 = .ok (.iadd, 1) := by decide +kernel
theorem dX8_hours_60 : decode cX8_hours 60 = .ok (.putfield 95, 3) := by decide +kernel
theorem dX8_hours_63 : decode cX8_hours 63 = .ok (.iinc 2 1, 3) := by decide +kernel
theorem dX8_hours_66 : decode cX8_hours 66 = .ok (.goto (-33), 3) := by decide +kernel
theorem dX8_hours_69 : decode cX8_hours 69 = .ok (.aload_n 0, 1) := by decide +kernel
theorem dX8_hours_70 : decode cX8_hours 70 = .ok (.getfield 95, 3) := by decide +kernel
theorem dX8_hours_73 : decode cX8_hours 73 = .ok (.ireturn, 1) := by decide +kernel
theorem dX8_move_0 : decode cX8_move 0 = .ok (.iload_n 1, 1) := by decide +kernel
theorem dX8_move_1 : decode cX8_move 1 = .ok (.invokestatic 118, 3) := by decide +kernel
theorem dX8_move_4 : decode cX8_move 4 = .ok (.ifCond .eq 14, 3) := by decide +kernel
theorem dX8_move_7 : decode cX8_move 7 = .ok (.aload_n 0, 1) := by decide +kernel
theorem dX8_move_8 : decode cX8_move 8 = .ok (.getfield 20, 3) := by decide +kernel
theorem dX8_move_11 : decode cX8_move 11 = .ok (.iload_n 2, 1) := by decide +kernel
theorem dX8_move_12 : decode cX8_move 12 = .ok (.invokevirtual 73, 3) := by decide +kernel
theorem dX8_move_15 : decode cX8_move 15 = .ok (.ifCond .ne 9, 3) := by decide +kernel
theorem dX8_move_18 : decode cX8_move 18 = .ok (.aload_n 0, 1) := by decide +kernel
theorem dX8_move_19 : decode cX8_move 19 = .ok (.iconst (-1), 1) := by decide +kernel
theorem dX8_move_20 : decode cX8_move 20 = .ok (.invokevirtual 59, 3) := by decide +kernel
theorem dX8_move_23 : decode cX8_move 23 = .ok (.ireturn, 1) := by decide +kernel
theorem dX8_move_24 : decode cX8_move 24 = .ok (.iload_n 3, 1) := by decide +kernel
theorem dX8_move_25 : decode cX8_move 25 = .ok (.aload_n 0, 1) := by decide +kernel
theorem dX8_move_26 : decode cX8_move 26 = .ok (.getfield 95, 3) := by decide +kernel
theorem dX8_move_29 : decode cX8_move 29 = .ok (.if_icmp .ge 10, 3) := by decide +kernel
theorem dX8_move_32 : decode cX8_move 32 = .ok (.aload_n 0, 1) := by decide +kernel
theorem dX8_move_33 : decode cX8_move 33 = .ok (.bipush (-4), 2) := by decide +kernel
theorem dX8_move_35 : decode cX8_move 35 = .ok (.invokevirtual 59, 3) := by decide +kernel
theorem dX8_move_38 : decode cX8_move 38 = .ok (.ireturn, 1) := by decide +kernel
theorem dX8_move_39 : decode cX8_move 39 = .ok (.iload_n 3, 1) := by decide +kernel
theorem dX8_move_40 : decode cX8_move 40 = .ok (.sipush 2000, 3) := by decide +kernel
theorem dX8_move_43 : decode cX8_move 43 = .ok (.if_icmp .gt 15, 3) := by decide +kernel
theorem dX8_move_46 : decode cX8_move 46 = .ok (.aload_n 0, 1) := by decide +kernel
theorem dX8_move_47 : decode cX8_move 47 = .ok (.getfield 25, 3) := by decide +kernel
theorem dX8_move_50 : decode cX8_move 50 = .ok (.getfield 121, 3) := by decide +kernel
theorem dX8_move_53 : decode cX8_move 53 = .ok (.bipush 60, 2) := by decide +kernel
theorem dX8_move_55 : decode cX8_move 55 = .ok (.if_icmp .lt 10, 3) := by decide +kernel
theorem dX8_move_58 : decode cX8_move 58 = .ok (.aload_n 0, 1) := by decide +kernel
theorem dX8_move_59 : decode cX8_move 59 = .ok (.bipush (-6), 2) := by decide +kernel
theorem dX8_move_61 : decode cX8_move 61 = .ok (.invokevirtual 59, 3) := by decide +kernel
theorem dX8_move_64 : decode cX8_move 64 = .ok (.ireturn, 1) := by decide +kernel
theorem dX8_move_65 : decode cX8_move 65 = .ok (.aload_n 0, 1) := by decide +kernel
theorem dX8_move_66 : decode cX8_move 66 = .ok (.getfield 25, 3) := by decide +kernel
theorem dX8_move_69 : decode cX8_move 69 = .ok (.iload_n 1, 1) := by decide +kernel
theorem dX8_move_70 : decode cX8_move 70 = .ok (.iload_n 2, 1) := by decide +kernel
theorem dX8_move_71 : decode cX8_move 71 = .ok (.iload_n 3, 1) := by decide +kernel
theorem dX8_move_72 : decode cX8_move 72 = .ok (.aload_n 0, 1) := by decide +kernel
theorem dX8_move_73 : decode cX8_move 73 = .ok (.getfield 95, 3) := by decide +kernel
theorem dX8_move_76 : decode cX8_move 76 = .ok (.invokevirtual 126, 3) := by decide +kernel
theorem dX8_move_79 : decode cX8_move 79 = .ok (.ireturn, 1) := by decide +kernel
theorem dX8_is_0 : decode cX8_is 0 = .ok (.iload_n 1, 1) := by decide +kernel
theorem dX8_is_1 : decode cX8_is 1 = .ok (.invokestatic 118, 3) := by decide +kernel
theorem dX8_is_4 : decode cX8_is 4 = .ok (.ifCond .eq 14, 3) := by decide +kernel
theorem dX8_is_7 : decode cX8_is 7 = .ok (.iload_n 2, 1) := by decide +kernel
theorem dX8_is_8 : decode cX8_is 8 = .ok (.iconst 0, 1) := by decide +kernel
theorem dX8_is_9 : decode cX8_is 9 = .ok (.sipush 2000, 3) := by decide +kernel
theorem dX8_is_12 : decode cX8_is 12 = .ok (.invokestatic 77, 3) := by decide +kernel
theorem dX8_is_15 : decode cX8_is 15 = .ok (.goto 4, 3) := by decide +kernel
theorem dX8_is_18 : decode cX8_is 18 = .ok (.iconst (-1), 1) := by decide +kernel
theorem dX8_is_19 : decode cX8_is 19 = .ok (.istore_n 3, 1) := by decide +kernel
theorem dX8_is_20 : decode cX8_is 20 = .ok (.iload_n 3, 1) := by decide +kernel
theorem dX8_is_21 : decode cX8_is 21 = .ok (.ifCond .ge 11, 3) := by decide +kernel
theorem dX8_is_24 : decode cX8_is 24 = .ok (.aload_n 0, 1) := by decide +kernel
theorem dX8_is_25 : decode cX8_is 25 = .ok (.iload_n 3, 1) := by decide +kernel
theorem dX8_is_26 : decode cX8_is 26 = .ok (.invokevirtual 59, 3) := by decide +kernel
theorem dX8_is_29 : decode cX8_is 29 = .ok (.goto 13, 3) := by decide +kernel
theorem dX8_is_32 : decode cX8_is 32 = .ok (.aload_n 0, 1) := by decide +kernel
theorem dX8_is_33 : decode cX8_is 33 = .ok (.getfield 25, 3) := by decide +kernel
theorem dX8_is_36 : decode cX8_is 36 = .ok (.iload_n 1, 1) := by decide +kernel
theorem dX8_is_37 : decode cX8_is 37 = .ok (.iload_n 2, 1) := by decide +kernel
theorem dX8_is_38 : decode cX8_is 38 = .ok (.iconst 0, 1) := by decide +kernel
theorem dX8_is_39 : decode cX8_is 39 = .ok (.invokevirtual 130, 3) := by decide +kernel
theorem dX8_is_42 : decode cX8_is 42 = .ok (.ireturn, 1) := by decide +kernel
theorem dX8_list_0 : decode cX8_list 0 = .ok (.aload_n 0, 1) := by decide +kernel
theorem dX8_list_1 : decode cX8_list 1 = .ok (.getfield 20, 3) := by decide +kernel
theorem dX8_list_4 : decode cX8_list 4 = .ok (.iload_n 1, 1) := by decide +kernel
theorem dX8_list_5 : decode cX8_list 5 = .ok (.invokevirtual 73, 3) := by decide +kernel
theorem dX8_list_8 : decode cX8_list 8 = .ok (.ifCond .eq 14, 3) := by decide +kernel
theorem dX8_list_11 : decode cX8_list 11 = .ok (.iload_n 2, 1) := by decide +kernel
theorem dX8_list_12 : decode cX8_list 12 = .ok (.invokestatic 118, 3) := by decide +kernel
theorem dX8_list_15 : decode cX8_list 15 = .ok (.ifCond .eq 7, 3) := by decide +kernel
theorem dX8_list_18 : decode cX8_list 18 = .ok (.iconst 1, 1) := by decide +kernel
theorem dX8_list_19 : decode cX8_list 19 = .ok (.goto 4, 3) := by decide +kernel
theorem dX8_list_22 : decode cX8_list 22 = .ok (.iconst 0, 1) := by decide +kernel
theorem dX8_list_23 : decode cX8_list 23 = .ok (.istore 4, 2) := by decide +kernel
theorem dX8_list_25 : decode cX8_list 25 = .ok (.iload 4, 2) := by decide +kernel
theorem dX8_list_27 : decode cX8_list 27 = .ok (.ifCond .eq 14, 3) := by decide +kernel
theorem dX8_list_30 : decode cX8_list 30 = .ok (.iload_n 3, 1) := by decide +kernel
theorem dX8_list_31 : decode cX8_list 31 = .ok (.iconst 0, 1) := by decide +kernel
theorem dX8_list_32 : decode cX8_list 32 = .ok (.sipush 2000, 3) := by decide +kernel
theorem dX8_list_35 : decode cX8_list 35 = .ok (.invokestatic 77, 3) := by decide +kernel
theorem dX8_list_38 : decode cX8_list 38 = .ok (.goto 4, 3) := by decide +kernel
theorem dX8_list_41 : decode cX8_list 41 = .ok (.iconst (-1), 1) := by decide +kernel
theorem dX8_list_42 : decode cX8_list 42 = .ok (.istore 5, 2) := by decide +kernel
theorem dX8_list_44 : decode cX8_list 44 = .ok (.iload 5, 2) := by decide +kernel
theorem dX8_list_46 : decode cX8_list 46 = .ok (.ifCond .ge 12, 3) := by decide +kernel
theorem dX8_list_49 : decode cX8_list 49 = .ok (.aload_n 0, 1) := by decide +kernel
theorem dX8_list_50 : decode cX8_list 50 = .ok (.iload 5, 2) := by decide +kernel
theorem dX8_list_52 : decode cX8_list 52 = .ok (.invokevirtual 59, 3) := by decide +kernel
theorem dX8_list_55 : decode cX8_list 55 = .ok (.goto 20, 3) := by decide +kernel
theorem dX8_list_58 : decode cX8_list 58 = .ok (.aload_n 0, 1) := by decide +kernel
theorem dX8_list_59 : decode cX8_list 59 = .ok (.getfield 25, 3) := by decide +kernel
theorem dX8_list_62 : decode cX8_list 62 = .ok (.iload_n 2, 1) := by decide +kernel
theorem dX8_list_63 : decode cX8_list 63 = .ok (.iload_n 3, 1) := by decide +kernel
theorem dX8_list_64 : decode cX8_list 64 = .ok (.aload_n 0, 1) := by decide +kernel
theorem dX8_list_65 : decode cX8_list 65 = .ok (.getfield 20, 3) := by decide +kernel
theorem dX8_list_68 : decode cX8_list 68 = .ok (.iload_n 1, 1) := by decide +kernel
theorem dX8_list_69 : decode cX8_list 69 = .ok (.invokevirtual 111, 3) := by decide +kernel
theorem dX8_list_72 : decode cX8_list 72 = .ok (.invokevirtual 130, 3) := by decide +kernel
theorem dX8_list_75 : decode cX8_list 75 = .ok (.ireturn, 1) := by decide +kernel
theorem dX8_man_0 : decode cX8_man 0 = .ok (.iload_n 1, 1) := by decide +kernel
theorem dX8_man_1 : decode cX8_man 1 = .ok (.invokestatic 118, 3) := by decide +kernel
theorem dX8_man_4 : decode cX8_man 4 = .ok (.ifCond .ne 9, 3) := by decide +kernel
theorem dX8_man_7 : decode cX8_man 7 = .ok (.aload_n 0, 1) := by decide +kernel
theorem dX8_man_8 : decode cX8_man 8 = .ok (.iconst (-1), 1) := by decide +kernel
theorem dX8_man_9 : decode cX8_man 9 = .ok (.invokevirtual 59, 3) := by decide +kernel
theorem dX8_man_12 : decode cX8_man 12 = .ok (.ireturn, 1) := by decide +kernel
theorem dX8_man_13 : decode cX8_man 13 = .ok (.iload_n 2, 1) := by decide +kernel
theorem dX8_man_14 : decode cX8_man 14 = .ok (.ifCond .ge 10, 3) := by decide +kernel
theorem dX8_man_17 : decode cX8_man 17 = .ok (.aload_n 0, 1) := by decide +kernel
theorem dX8_man_18 : decode cX8_man 18 = .ok (.bipush (-4), 2) := by decide +kernel
theorem dX8_man_20 : decode cX8_man 20 = .ok (.invokevirtual 59, 3) := by decide +kernel
theorem dX8_man_23 : decode cX8_man 23 = .ok (.ireturn, 1) := by decide +kernel
theorem dX8_man_24 : decode cX8_man 24 = .ok (.iload_n 2, 1) := by decide +kernel
theorem dX8_man_25 : decode cX8_man 25 = .ok (.sipush 9999, 3) := by decide +kernel
theorem dX8_man_28 : decode cX8_man 28 = .ok (.if_icmp .gt 15, 3) := by decide +kernel
theorem dX8_man_31 : decode cX8_man 31 = .ok (.aload_n 0, 1) := by decide +kernel
theorem dX8_man_32 : decode cX8_man 32 = .ok (.getfield 25, 3) := by decide +kernel
theorem dX8_man_35 : decode cX8_man 35 = .ok (.getfield 133, 3) := by decide +kernel
theorem dX8_man_38 : decode cX8_man 38 = .ok (.bipush 40, 2) := by decide +kernel
theorem dX8_man_40 : decode cX8_man 40 = .ok (.if_icmp .lt 10, 3) := by decide +kernel
theorem dX8_man_43 : decode cX8_man 43 = .ok (.aload_n 0, 1) := by decide +kernel
theorem dX8_man_44 : decode cX8_man 44 = .ok (.bipush (-6), 2) := by decide +kernel
theorem dX8_man_46 : decode cX8_man 46 = .ok (.invokevirtual 59, 3) := by decide +kernel
theorem dX8_man_49 : decode cX8_man 49 = .ok (.ireturn, 1) := by decide +kernel
theorem dX8_man_50 : decode cX8_man 50 = .ok (.aload_n 0, 1) := by decide +kernel
theorem dX8_man_51 : decode cX8_man 51 = .ok (.getfield 25, 3) := by decide +kernel
theorem dX8_man_54 : decode cX8_man 54 = .ok (.iload_n 1, 1) := by decide +kernel
theorem dX8_man_55 : decode cX8_man 55 = .ok (.iload_n 2, 1) := by decide +kernel
theorem dX8_man_56 : decode cX8_man 56 = .ok (.invokevirtual 136, 3) := by decide +kernel
theorem dX8_man_59 : decode cX8_man 59 = .ok (.ireturn, 1) := by decide +kernel
theorem dX8_state_0 : decode cX8_state 0 = .ok (.aload_n 0, 1) := by decide +kernel
theorem dX8_state_1 : decode cX8_state 1 = .ok (.getfield 25, 3) := by decide +kernel
theorem dX8_state_4 : decode cX8_state 4 = .ok (.iload_n 1, 1) := by decide +kernel
theorem dX8_state_5 : decode cX8_state 5 = .ok (.invokevirtual 139, 3) := by decide +kernel
theorem dX8_state_8 : decode cX8_state 8 = .ok (.ifCond .eq 19, 3) := by decide +kernel
theorem dX8_state_11 : decode cX8_state 11 = .ok (.iload_n 2, 1) := by decide +kernel
theorem dX8_state_12 : decode cX8_state 12 = .ok (.iconst 1, 1) := by decide +kernel
theorem dX8_state_13 : decode cX8_state 13 = .ok (.if_icmp .ne 20, 3) := by decide +kernel
theorem dX8_state_16 : decode cX8_state 16 = .ok (.aload_n 0, 1) := by decide +kernel
theorem dX8_state_17 : decode cX8_state 17 = .ok (.getfield 20, 3) := by decide +kernel
theorem dX8_state_20 : decode cX8_state 20 = .ok (.iload_n 3, 1) := by decide +kernel
theorem dX8_state_21 : decode cX8_state 21 = .ok (.invokevirtual 73, 3) := by decide +kernel
theorem dX8_state_24 : decode cX8_state 24 = .ok (.ifCond .ne 9, 3) := by decide +kernel
theorem dX8_state_27 : decode cX8_state 27 = .ok (.aload_n 0, 1) := by decide +kernel
theorem dX8_state_28 : decode cX8_state 28 = .ok (.iconst (-1), 1) := by decide +kernel
theorem dX8_state_29 : decode cX8_state 29 = .ok (.invokevirtual 59, 3) := by decide +kernel
theorem dX8_state_32 : decode cX8_state 32 = .ok (.ireturn, 1) := by decide +kernel
theorem dX8_state_33 : decode cX8_state 33 = .ok (.iload_n 2, 1) := by decide +kernel
theorem dX8_state_34 : decode cX8_state 34 = .ok (.ifCond .lt 8, 3) := by decide +kernel
theorem dX8_state_37 : decode cX8_state 37 = .ok (.iload_n 2, 1) := by decide +kernel
theorem dX8_state_38 : decode cX8_state 38 = .ok (.iconst 3, 1) := by decide +kernel
theorem dX8_state_39 : decode cX8_state 39 = .ok (.if_icmp .le 10, 3) := by decide +kernel
theorem dX8_state_42 : decode cX8_state 42 = .ok (.aload_n 0, 1) := by decide +kernel
theorem dX8_state_43 : decode cX8_state 43 = .ok (.bipush (-2), 2) := by decide +kernel
theorem dX8_state_45 : decode cX8_state 45 = .ok (.invokevirtual 59, 3) := by decide +kernel
theorem dX8_state_48 : decode cX8_state 48 = .ok (.ireturn, 1) := by decide +kernel
theorem dX8_state_49 : decode cX8_state 49 = .ok (.aload_n 0, 1) := by decide +kernel
theorem dX8_state_50 : decode cX8_state 50 = .ok (.getfield 25, 3) := by decide +kernel
theorem dX8_state_53 : decode cX8_state 53 = .ok (.getfield 142, 3) := by decide +kernel
theorem dX8_state_56 : decode cX8_state 56 = .ok (.bipush 80, 2) := by decide +kernel
theorem dX8_state_58 : decode cX8_state 58 = .ok (.if_icmp .lt 10, 3) := by decide +kernel
theorem dX8_state_61 : decode cX8_state 61 = .ok (.aload_n 0, 1) := by decide +kernel
theorem dX8_state_62 : decode cX8_state 62 = .ok (.bipush (-6), 2) := by decide +kernel
theorem dX8_state_64 : decode cX8_state 64 = .ok (.invokevirtual 59, 3) := by decide +kernel
theorem dX8_state_67 : decode cX8_state 67 = .ok (.ireturn, 1) := by decide +kernel
theorem dX8_state_68 : decode cX8_state 68 = .ok (.aload_n 0, 1) := by decide +kernel
theorem dX8_state_69 : decode cX8_state 69 = .ok (.getfield 25, 3) := by decide +kernel
theorem dX8_state_72 : decode cX8_state 72 = .ok (.iload_n 1, 1) := by decide +kernel
theorem dX8_state_73 : decode cX8_state 73 = .ok (.iload_n 2, 1) := by decide +kernel
theorem dX8_state_74 : decode cX8_state 74 = .ok (.iload_n 3, 1) := by decide +kernel
theorem dX8_state_75 : decode cX8_state 75 = .ok (.aload_n 0, 1) := by decide +kernel
theorem dX8_state_76 : decode cX8_state 76 = .ok (.getfield 95, 3) := by decide +kernel
theorem dX8_state_79 : decode cX8_state 79 = .ok (.invokevirtual 145, 3) := by decide +kernel
theorem dX8_state_82 : decode cX8_state 82 = .ok (.ireturn, 1) := by decide +kernel
theorem dX8_stateOf_0 : decode cX8_stateOf 0 = .ok (.iload_n 3, 1) := by decide +kernel
theorem dX8_stateOf_1 : decode cX8_stateOf 1 = .ok (.iconst (-1), 1) := by decide +kernel
theorem dX8_stateOf_2 : decode cX8_stateOf 2 = .ok (.if_icmp .ne 7, 3) := by decide +kernel
theorem dX8_stateOf_5 : decode cX8_stateOf 5 = .ok (.iconst 1, 1) := by decide +kernel
theorem dX8_stateOf_6 : decode cX8_stateOf 6 = .ok (.goto 4, 3) := by decide +kernel
theorem dX8_stateOf_9 : decode cX8_stateOf 9 = .ok (.iconst 0, 1) := by decide +kernel
theorem dX8_stateOf_10 : decode cX8_stateOf 10 = .ok (.istore 4, 2) := by decide +kernel
theorem dX8_stateOf_12 : decode cX8_stateOf 12 = .ok (.aload_n 0, 1) := by decide +kernel
theorem dX8_stateOf_13 : decode cX8_stateOf 13 = .ok (.getfield 25, 3) := by decide +kernel
theorem dX8_stateOf_16 : decode cX8_stateOf 16 = .ok (.iload_n 1, 1) := by decide +kernel
theorem dX8_stateOf_17 : decode cX8_stateOf 17 = .ok (.invokevirtual 139, 3) := by decide +kernel
theorem dX8_stateOf_20 : decode cX8_stateOf 20 = .ok (.ifCond .eq 23, 3) := by decide +kernel
theorem dX8_stateOf_23 : decode cX8_stateOf 23 = .ok (.iload 4, 2) := by decide +kernel
theorem dX8_stateOf_25 : decode cX8_stateOf 25 = .ok (.ifCond .ne 14, 3) := by decide +kernel
theorem dX8_stateOf_28 : decode cX8_stateOf 28 = .ok (.aload_n 0, 1) := by decide +kernel
theorem dX8_stateOf_29 : decode cX8_stateOf 29 = .ok (.getfield 20, 3) := by decide +kernel
theorem dX8_stateOf_32 : decode cX8_stateOf 32 = .ok (.iload_n 3, 1) := by decide +kernel
theorem dX8_stateOf_33 : decode cX8_stateOf 33 = .ok (.invokevirtual 73, 3) := by decide +kernel
theorem dX8_stateOf_36 : decode cX8_stateOf 36 = .ok (.ifCond .eq 7, 3) := by decide +kernel
theorem dX8_stateOf_39 : decode cX8_stateOf 39 = .ok (.iconst 1, 1) := by decide +kernel
theorem dX8_stateOf_40 : decode cX8_stateOf 40 = .ok (.goto 4, 3) := by decide +kernel
theorem dX8_stateOf_43 : decode cX8_stateOf 43 = .ok (.iconst 0, 1) := by decide +kernel
theorem dX8_stateOf_44 : decode cX8_stateOf 44 = .ok (.istore 5, 2) := by decide +kernel
theorem dX8_stateOf_46 : decode cX8_stateOf 46 = .ok (.iload 5, 2) := by decide +kernel
theorem dX8_stateOf_48 : decode cX8_stateOf 48 = .ok (.ifCond .eq 14, 3) := by decide +kernel
theorem dX8_stateOf_51 : decode cX8_stateOf 51 = .ok (.iload_n 2, 1) := by decide +kernel
theorem dX8_stateOf_52 : decode cX8_stateOf 52 = .ok (.iconst 0, 1) := by decide +kernel
theorem dX8_stateOf_53 : decode cX8_stateOf 53 = .ok (.sipush 2000, 3) := by decide +kernel
theorem dX8_stateOf_56 : decode cX8_stateOf 56 = .ok (.invokestatic 77, 3) := by decide +kernel
theorem dX8_stateOf_59 : decode cX8_stateOf 59 = .ok (.goto 4, 3) := by decide +kernel
theorem dX8_stateOf_62 : decode cX8_stateOf 62 = .ok (.iconst (-1), 1) := by decide +kernel
theorem dX8_stateOf_63 : decode cX8_stateOf 63 = .ok (.istore 6, 2) := by decide +kernel
theorem dX8_stateOf_65 : decode cX8_stateOf 65 = .ok (.iload 6, 2) := by decide +kernel
theorem dX8_stateOf_67 : decode cX8_stateOf 67 = .ok (.ifCond .ge 10, 3) := by decide +kernel
theorem dX8_stateOf_70 : decode cX8_stateOf 70 = .ok (.aload_n 0, 1) := by decide +kernel
theorem dX8_stateOf_71 : decode cX8_stateOf 71 = .ok (.iload 6, 2) := by decide +kernel
theorem dX8_stateOf_73 : decode cX8_stateOf 73 = .ok (.invokevirtual 59, 3) := by decide +kernel
theorem dX8_stateOf_76 : decode cX8_stateOf 76 = .ok (.ireturn, 1) := by decide +kernel
theorem dX8_stateOf_77 : decode cX8_stateOf 77 = .ok (.aload_n 0, 1) := by decide +kernel
theorem dX8_stateOf_78 : decode cX8_stateOf 78 = .ok (.getfield 25, 3) := by decide +kernel
theorem dX8_stateOf_81 : decode cX8_stateOf 81 = .ok (.iload_n 1, 1) := by decide +kernel
theorem dX8_stateOf_82 : decode cX8_stateOf 82 = .ok (.iload_n 2, 1) := by decide +kernel
theorem dX8_stateOf_83 : decode cX8_stateOf 83 = .ok (.iload 4, 2) := by decide +kernel
theorem dX8_stateOf_85 : decode cX8_stateOf 85 = .ok (.ifCond .eq 7, 3) := by decide +kernel
theorem dX8_stateOf_88 : decode cX8_stateOf 88 = .ok (.iconst 0, 1) := by decide +kernel
theorem dX8_stateOf_89 : decode cX8_stateOf 89 = .ok (.goto 11, 3) := by decide +kernel
theorem dX8_stateOf_92 : decode cX8_stateOf 92 = .ok (.aload_n 0, 1) := by decide +kernel
theorem dX8_stateOf_93 : decode cX8_stateOf 93 = .ok (.getfield 20, 3) := by decide +kernel
theorem dX8_stateOf_96 : decode cX8_stateOf 96 = .ok (.iload_n 3, 1) := by decide +kernel
theorem dX8_stateOf_97 : decode cX8_stateOf 97 = .ok (.invokevirtual 111, 3) := by decide +kernel
theorem dX8_stateOf_100 : decode cX8_stateOf 100 = .ok (.invokevirtual 148, 3) := by decide +kernel
theorem dX8_stateOf_103 : decode cX8_stateOf 103 = .ok (.ireturn, 1) := by decide +kernel
theorem dX8_manAt_0 : decode cX8_manAt 0 = .ok (.aload_n 0, 1) := by decide +kernel
theorem dX8_manAt_1 : decode cX8_manAt 1 = .ok (.getfield 25, 3) := by decide +kernel
theorem dX8_manAt_4 : decode cX8_manAt 4 = .ok (.iload_n 1, 1) := by decide +kernel
theorem dX8_manAt_5 : decode cX8_manAt 5 = .ok (.invokevirtual 139, 3) := by decide +kernel
theorem dX8_manAt_8 : decode cX8_manAt 8 = .ok (.ifCond .ne 9, 3) := by decide +kernel
theorem dX8_manAt_11 : decode cX8_manAt 11 = .ok (.aload_n 0, 1) := by decide +kernel
theorem dX8_manAt_12 : decode cX8_manAt 12 = .ok (.iconst (-1), 1) := by decide +kernel
theorem dX8_manAt_13 : decode cX8_manAt 13 = .ok (.invokevirtual 59, 3) := by decide +kernel
theorem dX8_manAt_16 : decode cX8_manAt 16 = .ok (.ireturn, 1) := by decide +kernel
theorem dX8_manAt_17 : decode cX8_manAt 17 = .ok (.aload_n 0, 1) := by decide +kernel
theorem dX8_manAt_18 : decode cX8_manAt 18 = .ok (.getfield 25, 3) := by decide +kernel
theorem dX8_manAt_21 : decode cX8_manAt 21 = .ok (.iload_n 1, 1) := by decide +kernel
theorem dX8_manAt_22 : decode cX8_manAt 22 = .ok (.aload_n 0, 1) := by decide +kernel
theorem dX8_manAt_23 : decode cX8_manAt 23 = .ok (.getfield 95, 3) := by decide +kernel
theorem dX8_manAt_26 : decode cX8_manAt 26 = .ok (.invokevirtual 151, 3) := by decide +kernel
theorem dX8_manAt_29 : decode cX8_manAt 29 = .ok (.ireturn, 1) := by decide +kernel
theorem dX8_mail_0 : decode cX8_mail 0 = .ok (.iload_n 1, 1) := by decide +kernel
theorem dX8_mail_1 : decode cX8_mail 1 = .ok (.ifCond .lt 8, 3) := by decide +kernel
theorem dX8_mail_4 : decode cX8_mail 4 = .ok (.iload_n 1, 1) := by decide +kernel
theorem dX8_mail_5 : decode cX8_mail 5 = .ok (.iconst 2, 1) := by decide +kernel
theorem dX8_mail_6 : decode cX8_mail 6 = .ok (.if_icmp .le 10, 3) := by decide +kernel
theorem dX8_mail_9 : decode cX8_mail 9 = .ok (.aload_n 0, 1) := by decide +kernel
theorem dX8_mail_10 : decode cX8_mail 10 = .ok (.bipush (-2), 2) := by decide +kernel
theorem dX8_mail_12 : decode cX8_mail 12 = .ok (.invokevirtual 59, 3) := by decide +kernel
theorem dX8_mail_15 : decode cX8_mail 15 = .ok (.ireturn, 1) := by decide +kernel
theorem dX8_mail_16 : decode cX8_mail 16 = .ok (.aload_n 0, 1) := by decide +kernel
theorem dX8_mail_17 : decode cX8_mail 17 = .ok (.getfield 20, 3) := by decide +kernel
theorem dX8_mail_20 : decode cX8_mail 20 = .ok (.iload_n 2, 1) := by decide +kernel
theorem dX8_mail_21 : decode cX8_mail 21 = .ok (.invokevirtual 73, 3) := by decide +kernel
theorem dX8_mail_24 : decode cX8_mail 24 = .ok (.ifCond .eq 14, 3) := by decide +kernel
theorem dX8_mail_27 : decode cX8_mail 27 = .ok (.aload_n 0, 1) := by decide +kernel
theorem dX8_mail_28 : decode cX8_mail 28 = .ok (.getfield 25, 3) := by decide +kernel
theorem dX8_mail_31 : decode cX8_mail 31 = .ok (.iload_n 3, 1) := by decide +kernel
theorem dX8_mail_32 : decode cX8_mail 32 = .ok (.invokevirtual 139, 3) := by decide +kernel
theorem dX8_mail_35 : decode cX8_mail 35 = .ok (.ifCond .ne 9, 3) := by decide +kernel
theorem dX8_mail_38 : decode cX8_mail 38 = .ok (.aload_n 0, 1) := by decide +kernel
theorem dX8_mail_39 : decode cX8_mail 39 = .ok (.iconst (-1), 1) := by decide +kernel
theorem dX8_mail_40 : decode cX8_mail 40 = .ok (.invokevirtual 59, 3) := by decide +kernel
theorem dX8_mail_43 : decode cX8_mail 43 = .ok (.ireturn, 1) := by decide +kernel
theorem dX8_mail_44 : decode cX8_mail 44 = .ok (.iload 4, 2) := by decide +kernel
theorem dX8_mail_46 : decode cX8_mail 46 = .ok (.iload_n 1, 1) := by decide +kernel
theorem dX8_mail_47 : decode cX8_mail 47 = .ok (.iconst 1, 1) := by decide +kernel
theorem dX8_mail_48 : decode cX8_mail 48 = .ok (.if_icmp .ne 7, 3) := by decide +kernel
theorem dX8_mail_51 : decode cX8_mail 51 = .ok (.iconst 1, 1) := by decide +kernel
theorem dX8_mail_52 : decode cX8_mail 52 = .ok (.goto 4, 3) := by decide +kernel
theorem dX8_mail_55 : decode cX8_mail 55 = .ok (.iconst 0, 1) := by decide +kernel
theorem dX8_mail_56 : decode cX8_mail 56 = .ok (.if_icmp .ge 10, 3) := by decide +kernel
theorem dX8_mail_59 : decode cX8_mail 59 = .ok (.aload_n 0, 1) := by decide +kernel
theorem dX8_mail_60 : decode cX8_mail 60 = .ok (.bipush (-4), 2) := by decide +kernel
theorem dX8_mail_62 : decode cX8_mail 62 = .ok (.invokevirtual 59, 3) := by decide +kernel
theorem dX8_mail_65 : decode cX8_mail 65 = .ok (.ireturn, 1) := by decide +kernel
theorem dX8_mail_66 : decode cX8_mail 66 = .ok (.iload 4, 2) := by decide +kernel
theorem dX8_mail_68 : decode cX8_mail 68 = .ok (.iload_n 1, 1) := by decide +kernel
theorem dX8_mail_69 : decode cX8_mail 69 = .ok (.invokestatic 154, 3) := by decide +kernel
theorem dX8_mail_72 : decode cX8_mail 72 = .ok (.if_icmp .gt 15, 3) := by decide +kernel
theorem dX8_mail_75 : decode cX8_mail 75 = .ok (.aload_n 0, 1) := by decide +kernel
theorem dX8_mail_76 : decode cX8_mail 76 = .ok (.getfield 35, 3) := by decide +kernel
theorem dX8_mail_79 : decode cX8_mail 79 = .ok (.getfield 157, 3) := by decide +kernel
theorem dX8_mail_82 : decode cX8_mail 82 = .ok (.bipush 60, 2) := by decide +kernel
theorem dX8_mail_84 : decode cX8_mail 84 = .ok (.if_icmp .lt 10, 3) := by decide +kernel
theorem dX8_mail_87 : decode cX8_mail 87 = .ok (.aload_n 0, 1) := by decide +kernel
theorem dX8_mail_88 : decode cX8_mail 88 = .ok (.bipush (-6), 2) := by decide +kernel
theorem dX8_mail_90 : decode cX8_mail 90 = .ok (.invokevirtual 59, 3) := by decide +kernel
theorem dX8_mail_93 : decode cX8_mail 93 = .ok (.ireturn, 1) := by decide +kernel
theorem dX8_mail_94 : decode cX8_mail 94 = .ok (.aload_n 0, 1) := by decide +kernel
theorem dX8_mail_95 : decode cX8_mail 95 = .ok (.getfield 35, 3) := by decide +kernel
theorem dX8_mail_98 : decode cX8_mail 98 = .ok (.iload_n 1, 1) := by decide +kernel
theorem dX8_mail_99 : decode cX8_mail 99 = .ok (.iload_n 2, 1) := by decide +kernel
theorem dX8_mail_100 : decode cX8_mail 100 = .ok (.iload_n 3, 1) := by decide +kernel
theorem dX8_mail_101 : decode cX8_mail 101 = .ok (.iload 4, 2) := by decide +kernel
theorem dX8_mail_103 : decode cX8_mail 103 = .ok (.aload_n 0, 1) := by decide +kernel
theorem dX8_mail_104 : decode cX8_mail 104 = .ok (.getfield 95, 3) := by decide +kernel
theorem dX8_mail_107 : decode cX8_mail 107 = .ok (.invokevirtual 162, 3) := by decide +kernel
theorem dX8_mail_110 : decode cX8_mail 110 = .ok (.istore 5, 2) := by decide +kernel
theorem dX8_mail_112 : decode cX8_mail 112 = .ok (.aload_n 0, 1) := by decide +kernel
theorem dX8_mail_113 : decode cX8_mail 113 = .ok (.getfield 41, 3) := by decide +kernel
theorem dX8_mail_116 : decode cX8_mail 116 = .ok (.iload 5, 2) := by decide +kernel
theorem dX8_mail_118 : decode cX8_mail 118 = .ok (.iload_n 2, 1) := by decide +kernel
theorem dX8_mail_119 : decode cX8_mail 119 = .ok (.aload_n 0, 1) := by decide +kernel
theorem dX8_mail_120 : decode cX8_mail 120 = .ok (.getfield 95, 3) := by decide +kernel
theorem dX8_mail_123 : decode cX8_mail 123 = .ok (.invokevirtual 165, 3) := by decide +kernel
theorem dX8_mail_126 : decode cX8_mail 126 = .ok (.iload 5, 2) := by decide +kernel
theorem dX8_mail_128 : decode cX8_mail 128 = .ok (.ireturn, 1) := by decide +kernel
theorem dX8_feed_0 : decode cX8_feed 0 = .ok (.iload_n 1, 1) := by decide +kernel
theorem dX8_feed_1 : decode cX8_feed 1 = .ok (.iconst 1, 1) := by decide +kernel
theorem dX8_feed_2 : decode cX8_feed 2 = .ok (.if_icmp .ge 10, 3) := by decide +kernel
theorem dX8_feed_5 : decode cX8_feed 5 = .ok (.aload_n 0, 1) := by decide +kernel
theorem dX8_feed_6 : decode cX8_feed 6 = .ok (.bipush (-4), 2) := by decide +kernel
theorem dX8_feed_8 : decode cX8_feed 8 = .ok (.invokevirtual 59, 3) := by decide +kernel
theorem dX8_feed_11 : decode cX8_feed 11 = .ok (.ireturn, 1) := by decide +kernel
theorem dX8_feed_12 : decode cX8_feed 12 = .ok (.iload_n 1, 1) := by decide +kernel
theorem dX8_feed_13 : decode cX8_feed 13 = .ok (.bipush 8, 2) := by decide +kernel
theorem dX8_feed_15 : decode cX8_feed 15 = .ok (.if_icmp .gt 17, 3) := by decide +kernel
theorem dX8_feed_18 : decode cX8_feed 18 = .ok (.iload_n 1, 1) := by decide +kernel
theorem dX8_feed_19 : decode cX8_feed 19 = .ok (.bipush 60, 2) := by decide +kernel
theorem dX8_feed_21 : decode cX8_feed 21 = .ok (.aload_n 0, 1) := by decide +kernel
theorem dX8_feed_22 : decode cX8_feed 22 = .ok (.getfield 30, 3) := by decide +kernel
theorem dX8_feed_25 : decode cX8_feed 25 = .ok (.getfield 169, 3) := by decide +kernel
theorem dX8_feed_28 : decode cX8_feed 28 = .ok (.isub, 1) := by decide +kernel
theorem dX8_feed_29 : decode cX8_feed 29 = .ok (.if_icmp .le 10, 3) := by decide +kernel
theorem dX8_feed_32 : decode cX8_feed 32 = .ok (.aload_n 0, 1) := by decide +kernel
theorem dX8_feed_33 : decode cX8_feed 33 = .ok (.bipush (-6), 2) := by decide +kernel
theorem dX8_feed_35 : decode cX8_feed 35 = .ok (.invokevirtual 59, 3) := by decide +kernel
theorem dX8_feed_38 : decode cX8_feed 38 = .ok (.ireturn, 1) := by decide +kernel
theorem dX8_feed_39 : decode cX8_feed 39 = .ok (.aload_n 0, 1) := by decide +kernel
theorem dX8_feed_40 : decode cX8_feed 40 = .ok (.getfield 30, 3) := by decide +kernel
theorem dX8_feed_43 : decode cX8_feed 43 = .ok (.iload_n 1, 1) := by decide +kernel
theorem dX8_feed_44 : decode cX8_feed 44 = .ok (.lload_n 2, 1) := by decide +kernel
theorem dX8_feed_45 : decode cX8_feed 45 = .ok (.invokevirtual 174, 3) := by decide +kernel
theorem dX8_feed_48 : decode cX8_feed 48 = .ok (.ireturn, 1) := by decide +kernel
theorem dX8_order_0 : decode cX8_order 0 = .ok (.iload_n 1, 1) := by decide +kernel
theorem dX8_order_1 : decode cX8_order 1 = .ok (.invokestatic 178, 3) := by decide +kernel
theorem dX8_order_4 : decode cX8_order 4 = .ok (.ifCond .ne 10, 3) := by decide +kernel
theorem dX8_order_7 : decode cX8_order 7 = .ok (.aload_n 0, 1) := by decide +kernel
theorem dX8_order_8 : decode cX8_order 8 = .ok (.bipush (-2), 2) := by decide +kernel
theorem dX8_order_10 : decode cX8_order 10 = .ok (.invokevirtual 59, 3) := by decide +kernel
theorem dX8_order_13 : decode cX8_order 13 = .ok (.ireturn, 1) := by decide +kernel
theorem dX8_order_14 : decode cX8_order 14 = .ok (.aload_n 0, 1) := by decide +kernel
theorem dX8_order_15 : decode cX8_order 15 = .ok (.getfield 30, 3) := by decide +kernel
theorem dX8_order_18 : decode cX8_order 18 = .ok (.getfield 181, 3) := by decide +kernel
theorem dX8_order_21 : decode cX8_order 21 = .ok (.bipush 30, 2) := by decide +kernel
theorem dX8_order_23 : decode cX8_order 23 = .ok (.if_icmp .lt 10, 3) := by decide +kernel
theorem dX8_order_26 : decode cX8_order 26 = .ok (.aload_n 0, 1) := by decide +kernel
theorem dX8_order_27 : decode cX8_order 27 = .ok (.bipush (-6), 2) := by decide +kernel
theorem dX8_order_29 : decode cX8_order 29 = .ok (.invokevirtual 59, 3) := by decide +kernel
theorem dX8_order_32 : decode cX8_order 32 = .ok (.ireturn, 1) := by decide +kernel
theorem dX8_order_33 : decode cX8_order 33 = .ok (.aload_n 0, 1) := by decide +kernel
theorem dX8_order_34 : decode cX8_order 34 = .ok (.getfield 30, 3) := by decide +kernel
theorem dX8_order_37 : decode cX8_order 37 = .ok (.iload_n 1, 1) := by decide +kernel
theorem dX8_order_38 : decode cX8_order 38 = .ok (.aload_n 0, 1) := by decide +kernel
theorem dX8_order_39 : decode cX8_order 39 = .ok (.getfield 95, 3) := by decide +kernel
theorem dX8_order_42 : decode cX8_order 42 = .ok (.invokevirtual 182, 3) := by decide +kernel
theorem dX8_order_45 : decode cX8_order 45 = .ok (.istore_n 2, 1) := by decide +kernel
theorem dX8_order_46 : decode cX8_order 46 = .ok (.iload_n 2, 1) := by decide +kernel
theorem dX8_order_47 : decode cX8_order 47 = .ok (.ifCond .ge 13, 3) := by decide +kernel
theorem dX8_order_50 : decode cX8_order 50 = .ok (.aload_n 0, 1) := by decide +kernel
theorem dX8_order_51 : decode cX8_order 51 = .ok (.getfield 30, 3) := by decide +kernel
theorem dX8_order_54 : decode cX8_order 54 = .ok (.getfield 181, 3) := by decide +kernel
theorem dX8_order_57 : decode cX8_order 57 = .ok (.goto 7, 3) := by decide +kernel
theorem dX8_order_60 : decode cX8_order 60 = .ok (.bipush (-20), 2) := by decide +kernel
theorem dX8_order_62 : decode cX8_order 62 = .ok (.iload_n 2, 1) := by decide +kernel
theorem dX8_order_63 : decode cX8_order 63 = .ok (.isub, 1) := by decide +kernel
theorem dX8_order_64 : decode cX8_order 64 = .ok (.ireturn, 1) := by decide +kernel
theorem dX8_holds_0 : decode cX8_holds 0 = .ok (.iload_n 1, 1) := by decide +kernel
theorem dX8_holds_1 : decode cX8_holds 1 = .ok (.invokestatic 178, 3) := by decide +kernel
theorem dX8_holds_4 : decode cX8_holds 4 = .ok (.ifCond .ne 10, 3) := by decide +kernel
theorem dX8_holds_7 : decode cX8_holds 7 = .ok (.aload_n 0, 1) := by decide +kernel
theorem dX8_holds_8 : decode cX8_holds 8 = .ok (.bipush (-2), 2) := by decide +kernel
theorem dX8_holds_10 : decode cX8_holds 10 = .ok (.invokevirtual 59, 3) := by decide +kernel
theorem dX8_holds_13 : decode cX8_holds 13 = .ok (.ireturn, 1) := by decide +kernel
theorem dX8_holds_14 : decode cX8_holds 14 = .ok (.aload_n 0, 1) := by decide +kernel
theorem dX8_holds_15 : decode cX8_holds 15 = .ok (.iload_n 2, 1) := by decide +kernel
theorem dX8_holds_16 : decode cX8_holds 16 = .ok (.invokevirtual 185, 3) := by decide +kernel
theorem dX8_holds_19 : decode cX8_holds 19 = .ok (.istore_n 3, 1) := by decide +kernel
theorem dX8_holds_20 : decode cX8_holds 20 = .ok (.iload_n 3, 1) := by decide +kernel
theorem dX8_holds_21 : decode cX8_holds 21 = .ok (.ifCond .ge 9, 3) := by decide +kernel
theorem dX8_holds_24 : decode cX8_holds 24 = .ok (.aload_n 0, 1) := by decide +kernel
theorem dX8_holds_25 : decode cX8_holds 25 = .ok (.iload_n 3, 1) := by decide +kernel
theorem dX8_holds_26 : decode cX8_holds 26 = .ok (.invokevirtual 59, 3) := by decide +kernel
theorem dX8_holds_29 : decode cX8_holds 29 = .ok (.ireturn, 1) := by decide +kernel
theorem dX8_holds_30 : decode cX8_holds 30 = .ok (.aload_n 0, 1) := by decide +kernel
theorem dX8_holds_31 : decode cX8_holds 31 = .ok (.getfield 10, 3) := by decide +kernel
theorem dX8_holds_34 : decode cX8_holds 34 = .ok (.aload_n 0, 1) := by decide +kernel
theorem dX8_holds_35 : decode cX8_holds 35 = .ok (.getfield 41, 3) := by decide +kernel
theorem dX8_holds_38 : decode cX8_holds 38 = .ok (.iload_n 2, 1) := by decide +kernel
theorem dX8_holds_39 : decode cX8_holds 39 = .ok (.aload_n 0, 1) := by decide +kernel
theorem dX8_holds_40 : decode cX8_holds 40 = .ok (.getfield 95, 3) := by decide +kernel
theorem dX8_holds_43 : decode cX8_holds 43 = .ok (.invokevirtual 188, 3) := by decide +kernel
theorem dX8_holds_46 : decode cX8_holds 46 = .ok (.aload_n 0, 1) := by decide +kernel
theorem dX8_holds_47 : decode cX8_holds 47 = .ok (.getfield 10, 3) := by decide +kernel
theorem dX8_holds_50 : decode cX8_holds 50 = .ok (.iload_n 1, 1) := by decide +kernel
theorem dX8_holds_51 : decode cX8_holds 51 = .ok (.aload_n 0, 1) := by decide +kernel
theorem dX8_holds_52 : decode cX8_holds 52 = .ok (.getfield 41, 3) := by decide +kernel
theorem dX8_holds_55 : decode cX8_holds 55 = .ok (.getfield 192, 3) := by decide +kernel
theorem dX8_holds_58 : decode cX8_holds 58 = .ok (.iload_n 2, 1) := by decide +kernel
theorem dX8_holds_59 : decode cX8_holds 59 = .ok (.iaload, 1) := by decide +kernel
theorem dX8_holds_60 : decode cX8_holds 60 = .ok (.aload_n 0, 1) := by decide +kernel
theorem dX8_holds_61 : decode cX8_holds 61 = .ok (.getfield 95, 3) := by decide +kernel
theorem dX8_holds_64 : decode cX8_holds 64 = .ok (.invokevirtual 195, 3) := by decide +kernel
theorem dX8_holds_67 : decode cX8_holds 67 = .ok (.ifCond .eq 7, 3) := by decide +kernel
theorem dX8_holds_70 : decode cX8_holds 70 = .ok (.iconst 1, 1) := by decide +kernel
theorem dX8_holds_71 : decode cX8_holds 71 = .ok (.goto 4, 3) := by decide +kernel
theorem dX8_holds_74 : decode cX8_holds 74 = .ok (.iconst 0, 1) := by decide +kernel
theorem dX8_holds_75 : decode cX8_holds 75 = .ok (.ireturn, 1) := by decide +kernel
theorem dX8_keep_0 : decode cX8_keep 0 = .ok (.iload_n 1, 1) := by decide +kernel
theorem dX8_keep_1 : decode cX8_keep 1 = .ok (.iconst 1, 1) := by decide +kernel
theorem dX8_keep_2 : decode cX8_keep 2 = .ok (.sipush 999, 3) := by decide +kernel
theorem dX8_keep_5 : decode cX8_keep 5 = .ok (.invokestatic 77, 3) := by decide +kernel
theorem dX8_keep_8 : decode cX8_keep 8 = .ok (.istore_n 2, 1) := by decide +kernel
theorem dX8_keep_9 : decode cX8_keep 9 = .ok (.iload_n 2, 1) := by decide +kernel
theorem dX8_keep_10 : decode cX8_keep 10 = .ok (.ifCond .ge 9, 3) := by decide +kernel
theorem dX8_keep_13 : decode cX8_keep 13 = .ok (.aload_n 0, 1) := by decide +kernel
theorem dX8_keep_14 : decode cX8_keep 14 = .ok (.iload_n 2, 1) := by decide +kernel
theorem dX8_keep_15 : decode cX8_keep 15 = .ok (.invokevirtual 59, 3) := by decide +kernel
theorem dX8_keep_18 : decode cX8_keep 18 = .ok (.ireturn, 1) := by decide +kernel
theorem dX8_keep_19 : decode cX8_keep 19 = .ok (.aload_n 0, 1) := by decide +kernel
theorem dX8_keep_20 : decode cX8_keep 20 = .ok (.getfield 10, 3) := by decide +kernel
theorem dX8_keep_23 : decode cX8_keep 23 = .ok (.getfield 199, 3) := by decide +kernel
theorem dX8_keep_26 : decode cX8_keep 26 = .ok (.istore_n 3, 1) := by decide +kernel
theorem dX8_keep_27 : decode cX8_keep 27 = .ok (.aload_n 0, 1) := by decide +kernel
theorem dX8_keep_28 : decode cX8_keep 28 = .ok (.getfield 10, 3) := by decide +kernel
theorem dX8_keep_31 : decode cX8_keep 31 = .ok (.iload_n 1, 1) := by decide +kernel
theorem dX8_keep_32 : decode cX8_keep 32 = .ok (.putfield 199, 3) := by decide +kernel
theorem dX8_keep_35 : decode cX8_keep 35 = .ok (.iload_n 3, 1) := by decide +kernel
theorem dX8_keep_36 : decode cX8_keep 36 = .ok (.ireturn, 1) := by decide +kernel
theorem dX8_mailOf_0 : decode cX8_mailOf 0 = .ok (.aload_n 0, 1) := by decide +kernel
theorem dX8_mailOf_1 : decode cX8_mailOf 1 = .ok (.getfield 35, 3) := by decide +kernel
theorem dX8_mailOf_4 : decode cX8_mailOf 4 = .ok (.iload_n 1, 1) := by decide +kernel
theorem dX8_mailOf_5 : decode cX8_mailOf 5 = .ok (.invokevirtual 202, 3) := by decide +kernel
theorem dX8_mailOf_8 : decode cX8_mailOf 8 = .ok (.ifCond .ne 9, 3) := by decide +kernel
theorem dX8_mailOf_11 : decode cX8_mailOf 11 = .ok (.aload_n 0, 1) := by decide +kernel
theorem dX8_mailOf_12 : decode cX8_mailOf 12 = .ok (.iconst (-1), 1) := by decide +kernel
theorem dX8_mailOf_13 : decode cX8_mailOf 13 = .ok (.invokevirtual 59, 3) := by decide +kernel
theorem dX8_mailOf_16 : decode cX8_mailOf 16 = .ok (.ireturn, 1) := by decide +kernel
theorem dX8_mailOf_17 : decode cX8_mailOf 17 = .ok (.iload_n 2, 1) := by decide +kernel
theorem dX8_mailOf_18 : decode cX8_mailOf 18 = .ok (.tableswitch 142 0 7 #[46, 56, 66, 76, 86, 104, 114, 124], 46) := by decide +kernel
theorem dX8_mailOf_64 : decode cX8_mailOf 64 = .ok (.aload_n 0, 1) := by decide +kernel
theorem dX8_mailOf_65 : decode cX8_mailOf 65 = .ok (.getfield 35, 3) := by decide +kernel
theorem dX8_mailOf_68 : decode cX8_mailOf 68 = .ok (.getfield 205, 3) := by decide +kernel
theorem dX8_mailOf_71 : decode cX8_mailOf 71 = .ok (.iload_n 1, 1) := by decide +kernel
theorem dX8_mailOf_72 : decode cX8_mailOf 72 = .ok (.iaload, 1) := by decide +kernel
theorem dX8_mailOf_73 : decode cX8_mailOf 73 = .ok (.ireturn, 1) := by decide +kernel
theorem dX8_mailOf_74 : decode cX8_mailOf 74 = .ok (.aload_n 0, 1) := by decide +kernel
theorem dX8_mailOf_75 : decode cX8_mailOf 75 = .ok (.getfield 41, 3) := by decide +kernel
theorem dX8_mailOf_78 : decode cX8_mailOf 78 = .ok (.getfield 208, 3) := by decide +kernel
theorem dX8_mailOf_81 : decode cX8_mailOf 81 = .ok (.iload_n 1, 1) := by decide +kernel
theorem dX8_mailOf_82 : decode cX8_mailOf 82 = .ok (.iaload, 1) := by decide +kernel
theorem dX8_mailOf_83 : decode cX8_mailOf 83 = .ok (.ireturn, 1) := by decide +kernel
theorem dX8_mailOf_84 : decode cX8_mailOf 84 = .ok (.aload_n 0, 1) := by decide +kernel
theorem dX8_mailOf_85 : decode cX8_mailOf 85 = .ok (.getfield 41, 3) := by decide +kernel
theorem dX8_mailOf_88 : decode cX8_mailOf 88 = .ok (.getfield 192, 3) := by decide +kernel
theorem dX8_mailOf_91 : decode cX8_mailOf 91 = .ok (.iload_n 1, 1) := by decide +kernel
theorem dX8_mailOf_92 : decode cX8_mailOf 92 = .ok (.iaload, 1) := by decide +kernel
theorem dX8_mailOf_93 : decode cX8_mailOf 93 = .ok (.ireturn, 1) := by decide +kernel
theorem dX8_mailOf_94 : decode cX8_mailOf 94 = .ok (.aload_n 0, 1) := by decide +kernel
theorem dX8_mailOf_95 : decode cX8_mailOf 95 = .ok (.getfield 41, 3) := by decide +kernel
theorem dX8_mailOf_98 : decode cX8_mailOf 98 = .ok (.getfield 211, 3) := by decide +kernel
theorem dX8_mailOf_101 : decode cX8_mailOf 101 = .ok (.iload_n 1, 1) := by decide +kernel
theorem dX8_mailOf_102 : decode cX8_mailOf 102 = .ok (.iaload, 1) := by decide +kernel
theorem dX8_mailOf_103 : decode cX8_mailOf 103 = .ok (.ireturn, 1) := by decide +kernel
theorem dX8_mailOf_104 : decode cX8_mailOf 104 = .ok (.aload_n 0, 1) := by decide +kernel
theorem dX8_mailOf_105 : decode cX8_mailOf 105 = .ok (.getfield 41, 3) := by decide +kernel
theorem dX8_mailOf_108 : decode cX8_mailOf 108 = .ok (.getfield 214, 3) := by decide +kernel
theorem dX8_mailOf_111 : decode cX8_mailOf 111 = .ok (.iload_n 1, 1) := by decide +kernel
theorem dX8_mailOf_112 : decode cX8_mailOf 112 = .ok (.baload, 1) := by decide +kernel
theorem dX8_mailOf_113 : decode cX8_mailOf 113 = .ok (.ifCond .eq 7, 3) := by decide +kernel
theorem dX8_mailOf_116 : decode cX8_mailOf 116 = .ok (.iconst 1, 1) := by decide +kernel
theorem dX8_mailOf_117 : decode cX8_mailOf 117 = .ok (.goto 4, 3) := by decide +kernel
theorem dX8_mailOf_120 : decode cX8_mailOf 120 = .ok (.iconst 0, 1) := by decide +kernel
theorem dX8_mailOf_121 : decode cX8_mailOf 121 = .ok (.ireturn, 1) := by decide +kernel
theorem dX8_mailOf_122 : decode cX8_mailOf 122 = .ok (.aload_n 0, 1) := by decide +kernel
theorem dX8_mailOf_123 : decode cX8_mailOf 123 = .ok (.getfield 41, 3) := by decide +kernel
theorem dX8_mailOf_126 : decode cX8_mailOf 126 = .ok (.getfield 218, 3) := by decide +kernel
theorem dX8_mailOf_129 : decode cX8_mailOf 129 = .ok (.iload_n 1, 1) := by decide +kernel
theorem dX8_mailOf_130 : decode cX8_mailOf 130 = .ok (.iaload, 1) := by decide +kernel
theorem dX8_mailOf_131 : decode cX8_mailOf 131 = .ok (.ireturn, 1) := by decide +kernel
theorem dX8_mailOf_132 : decode cX8_mailOf 132 = .ok (.aload_n 0, 1) := by decide +kernel
theorem dX8_mailOf_133 : decode cX8_mailOf 133 = .ok (.getfield 41, 3) := by decide +kernel
theorem dX8_mailOf_136 : decode cX8_mailOf 136 = .ok (.getfield 221, 3) := by decide +kernel
theorem dX8_mailOf_139 : decode cX8_mailOf 139 = .ok (.iload_n 1, 1) := by decide +kernel
theorem dX8_mailOf_140 : decode cX8_mailOf 140 = .ok (.iaload, 1) := by decide +kernel
theorem dX8_mailOf_141 : decode cX8_mailOf 141 = .ok (.ireturn, 1) := by decide +kernel
theorem dX8_mailOf_142 : decode cX8_mailOf 142 = .ok (.aload_n 0, 1) := by decide +kernel
theorem dX8_mailOf_143 : decode cX8_mailOf 143 = .ok (.getfield 41, 3) := by decide +kernel
theorem dX8_mailOf_146 : decode cX8_mailOf 146 = .ok (.getfield 224, 3) := by decide +kernel
theorem dX8_mailOf_149 : decode cX8_mailOf 149 = .ok (.iload_n 1, 1) := by decide +kernel
theorem dX8_mailOf_150 : decode cX8_mailOf 150 = .ok (.baload, 1) := by decide +kernel
theorem dX8_mailOf_151 : decode cX8_mailOf 151 = .ok (.ifCond .eq 7, 3) := by decide +kernel
theorem dX8_mailOf_154 : decode cX8_mailOf 154 = .ok (.iconst 1, 1) := by decide +kernel
theorem dX8_mailOf_155 : decode cX8_mailOf 155 = .ok (.goto 4, 3) := by decide +kernel
theorem dX8_mailOf_158 : decode cX8_mailOf 158 = .ok (.iconst 0, 1) := by decide +kernel
theorem dX8_mailOf_159 : decode cX8_mailOf 159 = .ok (.ireturn, 1) := by decide +kernel
theorem dX8_mailOf_160 : decode cX8_mailOf 160 = .ok (.aload_n 0, 1) := by decide +kernel
theorem dX8_mailOf_161 : decode cX8_mailOf 161 = .ok (.bipush (-2), 2) := by decide +kernel
theorem dX8_mailOf_163 : decode cX8_mailOf 163 = .ok (.invokevirtual 59, 3) := by decide +kernel
theorem dX8_mailOf_166 : decode cX8_mailOf 166 = .ok (.ireturn, 1) := by decide +kernel
theorem dX8_goal_0 : decode cX8_goal 0 = .ok (.aload_n 0, 1) := by decide +kernel
theorem dX8_goal_1 : decode cX8_goal 1 = .ok (.iload_n 1, 1) := by decide +kernel
theorem dX8_goal_2 : decode cX8_goal 2 = .ok (.invokevirtual 185, 3) := by decide +kernel
theorem dX8_goal_5 : decode cX8_goal 5 = .ok (.istore_n 2, 1) := by decide +kernel
theorem dX8_goal_6 : decode cX8_goal 6 = .ok (.iload_n 2, 1) := by decide +kernel
theorem dX8_goal_7 : decode cX8_goal 7 = .ok (.ifCond .ge 11, 3) := by decide +kernel
theorem dX8_goal_10 : decode cX8_goal 10 = .ok (.aload_n 0, 1) := by decide +kernel
theorem dX8_goal_11 : decode cX8_goal 11 = .ok (.iload_n 2, 1) := by decide +kernel
theorem dX8_goal_12 : decode cX8_goal 12 = .ok (.invokevirtual 59, 3) := by decide +kernel
theorem dX8_goal_15 : decode cX8_goal 15 = .ok (.goto 19, 3) := by decide +kernel
theorem dX8_goal_18 : decode cX8_goal 18 = .ok (.aload_n 0, 1) := by decide +kernel
theorem dX8_goal_19 : decode cX8_goal 19 = .ok (.getfield 10, 3) := by decide +kernel
theorem dX8_goal_22 : decode cX8_goal 22 = .ok (.aload_n 0, 1) := by decide +kernel
theorem dX8_goal_23 : decode cX8_goal 23 = .ok (.getfield 41, 3) := by decide +kernel
theorem dX8_goal_26 : decode cX8_goal 26 = .ok (.iload_n 1, 1) := by decide +kernel
theorem dX8_goal_27 : decode cX8_goal 27 = .ok (.aload_n 0, 1) := by decide +kernel
theorem dX8_goal_28 : decode cX8_goal 28 = .ok (.getfield 95, 3) := by decide +kernel
theorem dX8_goal_31 : decode cX8_goal 31 = .ok (.invokevirtual 227, 3) := by decide +kernel
theorem dX8_goal_34 : decode cX8_goal 34 = .ok (.ireturn, 1) := by decide +kernel
theorem dX8_next_0 : decode cX8_next 0 = .ok (.aload_n 0, 1) := by decide +kernel
theorem dX8_next_1 : decode cX8_next 1 = .ok (.iload_n 1, 1) := by decide +kernel
theorem dX8_next_2 : decode cX8_next 2 = .ok (.invokevirtual 185, 3) := by decide +kernel
theorem dX8_next_5 : decode cX8_next 5 = .ok (.istore_n 2, 1) := by decide +kernel
theorem dX8_next_6 : decode cX8_next 6 = .ok (.iload_n 2, 1) := by decide +kernel
theorem dX8_next_7 : decode cX8_next 7 = .ok (.ifCond .ge 9, 3) := by decide +kernel
theorem dX8_next_10 : decode cX8_next 10 = .ok (.aload_n 0, 1) := by decide +kernel
theorem dX8_next_11 : decode cX8_next 11 = .ok (.iload_n 2, 1) := by decide +kernel
theorem dX8_next_12 : decode cX8_next 12 = .ok (.invokevirtual 59, 3) := by decide +kernel
theorem dX8_next_15 : decode cX8_next 15 = .ok (.ireturn, 1) := by decide +kernel
theorem dX8_next_16 : decode cX8_next 16 = .ok (.aload_n 0, 1) := by decide +kernel
theorem dX8_next_17 : decode cX8_next 17 = .ok (.getfield 20, 3) := by decide +kernel
theorem dX8_next_20 : decode cX8_next 20 = .ok (.aload_n 0, 1) := by decide +kernel
theorem dX8_next_21 : decode cX8_next 21 = .ok (.getfield 41, 3) := by decide +kernel
theorem dX8_next_24 : decode cX8_next 24 = .ok (.getfield 192, 3) := by decide +kernel
theorem dX8_next_27 : decode cX8_next 27 = .ok (.iload_n 1, 1) := by decide +kernel
theorem dX8_next_28 : decode cX8_next 28 = .ok (.iaload, 1) := by decide +kernel
theorem dX8_next_29 : decode cX8_next 29 = .ok (.aload_n 0, 1) := by decide +kernel
theorem dX8_next_30 : decode cX8_next 30 = .ok (.getfield 10, 3) := by decide +kernel
theorem dX8_next_33 : decode cX8_next 33 = .ok (.aload_n 0, 1) := by decide +kernel
theorem dX8_next_34 : decode cX8_next 34 = .ok (.getfield 41, 3) := by decide +kernel
theorem dX8_next_37 : decode cX8_next 37 = .ok (.iload_n 1, 1) := by decide +kernel
theorem dX8_next_38 : decode cX8_next 38 = .ok (.aload_n 0, 1) := by decide +kernel
theorem dX8_next_39 : decode cX8_next 39 = .ok (.getfield 95, 3) := by decide +kernel
theorem dX8_next_42 : decode cX8_next 42 = .ok (.invokevirtual 227, 3) := by decide +kernel
theorem dX8_next_45 : decode cX8_next 45 = .ok (.invokevirtual 231, 3) := by decide +kernel
theorem dX8_next_48 : decode cX8_next 48 = .ok (.ireturn, 1) := by decide +kernel
theorem dX8_trace_0 : decode cX8_trace 0 = .ok (.aload_n 0, 1) := by decide +kernel
theorem dX8_trace_1 : decode cX8_trace 1 = .ok (.getfield 35, 3) := by decide +kernel
theorem dX8_trace_4 : decode cX8_trace 4 = .ok (.iload_n 1, 1) := by decide +kernel
theorem dX8_trace_5 : decode cX8_trace 5 = .ok (.invokevirtual 202, 3) := by decide +kernel
theorem dX8_trace_8 : decode cX8_trace 8 = .ok (.ifCond .ne 9, 3) := by decide +kernel
theorem dX8_trace_11 : decode cX8_trace 11 = .ok (.aload_n 0, 1) := by decide +kernel
theorem dX8_trace_12 : decode cX8_trace 12 = .ok (.iconst (-1), 1) := by decide +kernel
theorem dX8_trace_13 : decode cX8_trace 13 = .ok (.invokevirtual 59, 3) := by decide +kernel
theorem dX8_trace_16 : decode cX8_trace 16 = .ok (.ireturn, 1) := by decide +kernel
theorem dX8_trace_17 : decode cX8_trace 17 = .ok (.aload_n 0, 1) := by decide +kernel
theorem dX8_trace_18 : decode cX8_trace 18 = .ok (.getfield 41, 3) := by decide +kernel
theorem dX8_trace_21 : decode cX8_trace 21 = .ok (.iload_n 1, 1) := by decide +kernel
theorem dX8_trace_22 : decode cX8_trace 22 = .ok (.iload_n 2, 1) := by decide +kernel
theorem dX8_trace_23 : decode cX8_trace 23 = .ok (.invokevirtual 234, 3) := by decide +kernel
theorem dX8_trace_26 : decode cX8_trace 26 = .ok (.ireturn, 1) := by decide +kernel
theorem dX8_fro_0 : decode cX8_fro 0 = .ok (.aload_n 0, 1) := by decide +kernel
theorem dX8_fro_1 : decode cX8_fro 1 = .ok (.getfield 35, 3) := by decide +kernel
theorem dX8_fro_4 : decode cX8_fro 4 = .ok (.iload_n 1, 1) := by decide +kernel
theorem dX8_fro_5 : decode cX8_fro 5 = .ok (.invokevirtual 202, 3) := by decide +kernel
theorem dX8_fro_8 : decode cX8_fro 8 = .ok (.ifCond .ne 9, 3) := by decide +kernel
theorem dX8_fro_11 : decode cX8_fro 11 = .ok (.aload_n 0, 1) := by decide +kernel
theorem dX8_fro_12 : decode cX8_fro 12 = .ok (.iconst (-1), 1) := by decide +kernel
theorem dX8_fro_13 : decode cX8_fro 13 = .ok (.invokevirtual 59, 3) := by decide +kernel
theorem dX8_fro_16 : decode cX8_fro 16 = .ok (.ireturn, 1) := by decide +kernel
theorem dX8_fro_17 : decode cX8_fro 17 = .ok (.aload_n 0, 1) := by decide +kernel
theorem dX8_fro_18 : decode cX8_fro 18 = .ok (.getfield 41, 3) := by decide +kernel
theorem dX8_fro_21 : decode cX8_fro 21 = .ok (.iload_n 1, 1) := by decide +kernel
theorem dX8_fro_22 : decode cX8_fro 22 = .ok (.invokevirtual 237, 3) := by decide +kernel
theorem dX8_fro_25 : decode cX8_fro 25 = .ok (.ireturn, 1) := by decide +kernel
theorem dX8_after_0 : decode cX8_after 0 = .ok (.aload_n 0, 1) := by decide +kernel
theorem dX8_after_1 : decode cX8_after 1 = .ok (.getfield 35, 3) := by decide +kernel
theorem dX8_after_4 : decode cX8_after 4 = .ok (.iload_n 1, 1) := by decide +kernel
theorem dX8_after_5 : decode cX8_after 5 = .ok (.invokevirtual 202, 3) := by decide +kernel
theorem dX8_after_8 : decode cX8_after 8 = .ok (.ifCond .ne 9, 3) := by decide +kernel
theorem dX8_after_11 : decode cX8_after 11 = .ok (.aload_n 0, 1) := by decide +kernel
theorem dX8_after_12 : decode cX8_after 12 = .ok (.iconst (-1), 1) := by decide +kernel
theorem dX8_after_13 : decode cX8_after 13 = .ok (.invokevirtual 59, 3) := by decide +kernel
theorem dX8_after_16 : decode cX8_after 16 = .ok (.ireturn, 1) := by decide +kernel
theorem dX8_after_17 : decode cX8_after 17 = .ok (.iload_n 2, 1) := by decide +kernel
theorem dX8_after_18 : decode cX8_after 18 = .ok (.ifCond .eq 15, 3) := by decide +kernel
theorem dX8_after_21 : decode cX8_after 21 = .ok (.iload_n 2, 1) := by decide +kernel
theorem dX8_after_22 : decode cX8_after 22 = .ok (.iconst 1, 1) := by decide +kernel
theorem dX8_after_23 : decode cX8_after 23 = .ok (.if_icmp .eq 10, 3) := by decide +kernel
theorem dX8_after_26 : decode cX8_after 26 = .ok (.aload_n 0, 1) := by decide +kernel
theorem dX8_after_27 : decode cX8_after 27 = .ok (.bipush (-2), 2) := by decide +kernel
theorem dX8_after_29 : decode cX8_after 29 = .ok (.invokevirtual 59, 3) := by decide +kernel
theorem dX8_after_32 : decode cX8_after 32 = .ok (.ireturn, 1) := by decide +kernel
theorem dX8_after_33 : decode cX8_after 33 = .ok (.aload_n 0, 1) := by decide +kernel
theorem dX8_after_34 : decode cX8_after 34 = .ok (.getfield 41, 3) := by decide +kernel
theorem dX8_after_37 : decode cX8_after 37 = .ok (.iload_n 1, 1) := by decide +kernel
theorem dX8_after_38 : decode cX8_after 38 = .ok (.invokevirtual 240, 3) := by decide +kernel
theorem dX8_after_41 : decode cX8_after 41 = .ok (.ifCond .eq 13, 3) := by decide +kernel
theorem dX8_after_44 : decode cX8_after 44 = .ok (.aload_n 0, 1) := by decide +kernel
theorem dX8_after_45 : decode cX8_after 45 = .ok (.getfield 41, 3) := by decide +kernel
theorem dX8_after_48 : decode cX8_after 48 = .ok (.iload_n 1, 1) := by decide +kernel
theorem dX8_after_49 : decode cX8_after 49 = .ok (.iload_n 2, 1) := by decide +kernel
theorem dX8_after_50 : decode cX8_after 50 = .ok (.invokestatic 243, 3) := by decide +kernel
theorem dX8_after_53 : decode cX8_after 53 = .ok (.ireturn, 1) := by decide +kernel
theorem dX8_after_54 : decode cX8_after 54 = .ok (.aload_n 0, 1) := by decide +kernel
theorem dX8_after_55 : decode cX8_after 55 = .ok (.getfield 45, 3) := by decide +kernel
theorem dX8_after_58 : decode cX8_after 58 = .ok (.aload_n 0, 1) := by decide +kernel
theorem dX8_after_59 : decode cX8_after 59 = .ok (.getfield 41, 3) := by decide +kernel
theorem dX8_after_62 : decode cX8_after 62 = .ok (.aload_n 0, 1) := by decide +kernel
theorem dX8_after_63 : decode cX8_after 63 = .ok (.getfield 35, 3) := by decide +kernel
theorem dX8_after_66 : decode cX8_after 66 = .ok (.getfield 157, 3) := by decide +kernel
theorem dX8_after_69 : decode cX8_after 69 = .ok (.invokevirtual 246, 3) := by decide +kernel
theorem dX8_after_72 : decode cX8_after 72 = .ok (.iconst 0, 1) := by decide +kernel
theorem dX8_after_73 : decode cX8_after 73 = .ok (.istore_n 3, 1) := by decide +kernel
theorem dX8_after_74 : decode cX8_after 74 = .ok (.iload_n 3, 1) := by decide +kernel
theorem dX8_after_75 : decode cX8_after 75 = .ok (.sipush 300, 3) := by decide +kernel
theorem dX8_after_78 : decode cX8_after 78 = .ok (.if_icmp .ge 47, 3) := by decide +kernel
theorem dX8_after_81 : decode cX8_after 81 = .ok (.aload_n 0, 1) := by decide +kernel
theorem dX8_after_82 : decode cX8_after 82 = .ok (.getfield 10, 3) := by decide +kernel
theorem dX8_after_85 : decode cX8_after 85 = .ok (.aload_n 0, 1) := by decide +kernel
theorem dX8_after_86 : decode cX8_after 86 = .ok (.getfield 45, 3) := by decide +kernel
theorem dX8_after_89 : decode cX8_after 89 = .ok (.aload_n 0, 1) := by decide +kernel
theorem dX8_after_90 : decode cX8_after 90 = .ok (.getfield 95, 3) := by decide +kernel
theorem dX8_after_93 : decode cX8_after 93 = .ok (.iload_n 3, 1) := by decide +kernel
theorem dX8_after_94 : decode cX8_after 94 = .ok (.iadd, 1) := by decide +kernel
theorem dX8_after_95 : decode cX8_after 95 = .ok (.invokevirtual 114, 3) := by decide +kernel
theorem dX8_after_98 : decode cX8_after 98 = .ok (.aload_n 0, 1) := by decide +kernel
theorem dX8_after_99 : decode cX8_after 99 = .ok (.getfield 45, 3) := by decide +kernel
theorem dX8_after_102 : decode cX8_after 102 = .ok (.iload_n 1, 1) := by decide +kernel
theorem dX8_after_103 : decode cX8_after 103 = .ok (.invokevirtual 240, 3) := by decide +kernel
theorem dX8_after_106 : decode cX8_after 106 = .ok (.ifCond .eq 13, 3) := by decide +kernel
theorem dX8_after_109 : decode cX8_after 109 = .ok (.aload_n 0, 1) := by decide +kernel
theorem dX8_after_110 : decode cX8_after 110 = .ok (.getfield 45, 3) := by decide +kernel
theorem dX8_after_113 : decode cX8_after 113 = .ok (.iload_n 1, 1) := by decide +kernel
theorem dX8_after_114 : decode cX8_after 114 = .ok (.iload_n 2, 1) := by decide +kernel
theorem dX8_after_115 : decode cX8_after 115 = .ok (.invokestatic 243, 3) := by decide +kernel
theorem dX8_after_118 : decode cX8_after 118 = .ok (.ireturn, 1) := by decide +kernel
theorem dX8_after_119 : decode cX8_after 119 = .ok (.iinc 3 1, 3) := by decide +kernel
theorem dX8_after_122 : decode cX8_after 122 = .ok (.goto (-48), 3) := by decide +kernel
theorem dX8_after_125 : decode cX8_after 125 = .ok (.bipush (-9), 2) := by decide +kernel
theorem dX8_after_127 : decode cX8_after 127 = .ok (.ireturn, 1) := by decide +kernel
theorem dX8_paid_0 : decode cX8_paid 0 = .ok (.aload_n 0, 1) := by decide +kernel
theorem dX8_paid_1 : decode cX8_paid 1 = .ok (.getfield 25, 3) := by decide +kernel
theorem dX8_paid_4 : decode cX8_paid 4 = .ok (.iload_n 1, 1) := by decide +kernel
theorem dX8_paid_5 : decode cX8_paid 5 = .ok (.invokevirtual 139, 3) := by decide +kernel
theorem dX8_paid_8 : decode cX8_paid 8 = .ok (.ifCond .ne 9, 3) := by decide +kernel
theorem dX8_paid_11 : decode cX8_paid 11 = .ok (.aload_n 0, 1) := by decide +kernel
theorem dX8_paid_12 : decode cX8_paid 12 = .ok (.iconst (-1), 1) := by decide +kernel
theorem dX8_paid_13 : decode cX8_paid 13 = .ok (.invokevirtual 59, 3) := by decide +kernel
theorem dX8_paid_16 : decode cX8_paid 16 = .ok (.ireturn, 1) := by decide +kernel
theorem dX8_paid_17 : decode cX8_paid 17 = .ok (.iconst 0, 1) := by decide +kernel
theorem dX8_paid_18 : decode cX8_paid 18 = .ok (.istore_n 2, 1) := by decide +kernel
theorem dX8_paid_19 : decode cX8_paid 19 = .ok (.iconst 0, 1) := by decide +kernel
theorem dX8_paid_20 : decode cX8_paid 20 = .ok (.istore_n 3, 1) := by decide +kernel
theorem dX8_paid_21 : decode cX8_paid 21 = .ok (.iload_n 3, 1) := by decide +kernel
theorem dX8_paid_22 : decode cX8_paid 22 = .ok (.aload_n 0, 1) := by decide +kernel
theorem dX8_paid_23 : decode cX8_paid 23 = .ok (.getfield 35, 3) := by decide +kernel
theorem dX8_paid_26 : decode cX8_paid 26 = .ok (.getfield 157, 3) := by decide +kernel
theorem dX8_paid_29 : decode cX8_paid 29 = .ok (.if_icmp .ge 60, 3) := by decide +kernel
theorem dX8_paid_32 : decode cX8_paid 32 = .ok (.aload_n 0, 1) := by decide +kernel
theorem dX8_paid_33 : decode cX8_paid 33 = .ok (.getfield 35, 3) := by decide +kernel
theorem dX8_paid_36 : decode cX8_paid 36 = .ok (.getfield 249, 3) := by decide +kernel
theorem dX8_paid_39 : decode cX8_paid 39 = .ok (.iload_n 3, 1) := by decide +kernel
theorem dX8_paid_40 : decode cX8_paid 40 = .ok (.iaload, 1) := by decide +kernel
theorem dX8_paid_41 : decode cX8_paid 41 = .ok (.iload_n 1, 1) := by decide +kernel
theorem dX8_paid_42 : decode cX8_paid 42 = .ok (.if_icmp .ne 41, 3) := by decide +kernel
theorem dX8_paid_45 : decode cX8_paid 45 = .ok (.aload_n 0, 1) := by decide +kernel
theorem dX8_paid_46 : decode cX8_paid 46 = .ok (.getfield 35, 3) := by decide +kernel
theorem dX8_paid_49 : decode cX8_paid 49 = .ok (.getfield 205, 3) := by decide +kernel
theorem dX8_paid_52 : decode cX8_paid 52 = .ok (.iload_n 3, 1) := by decide +kernel
theorem dX8_paid_53 : decode cX8_paid 53 = .ok (.iaload, 1) := by decide +kernel
theorem dX8_paid_54 : decode cX8_paid 54 = .ok (.iconst 2, 1) := by decide +kernel
theorem dX8_paid_55 : decode cX8_paid 55 = .ok (.if_icmp .ne 28, 3) := by decide +kernel
theorem dX8_paid_58 : decode cX8_paid 58 = .ok (.aload_n 0, 1) := by decide +kernel
theorem dX8_paid_59 : decode cX8_paid 59 = .ok (.getfield 41, 3) := by decide +kernel
theorem dX8_paid_62 : decode cX8_paid 62 = .ok (.getfield 208, 3) := by decide +kernel
theorem dX8_paid_65 : decode cX8_paid 65 = .ok (.iload_n 3, 1) := by decide +kernel
theorem dX8_paid_66 : decode cX8_paid 66 = .ok (.iaload, 1) := by decide +kernel
theorem dX8_paid_67 : decode cX8_paid 67 = .ok (.iconst 2, 1) := by decide +kernel
theorem dX8_paid_68 : decode cX8_paid 68 = .ok (.if_icmp .ne 15, 3) := by decide +kernel
theorem dX8_paid_71 : decode cX8_paid 71 = .ok (.iload_n 2, 1) := by decide +kernel
theorem dX8_paid_72 : decode cX8_paid 72 = .ok (.aload_n 0, 1) := by decide +kernel
theorem dX8_paid_73 : decode cX8_paid 73 = .ok (.getfield 35, 3) := by decide +kernel
theorem dX8_paid_76 : decode cX8_paid 76 = .ok (.getfield 252, 3) := by decide +kernel
theorem dX8_paid_79 : decode cX8_paid 79 = .ok (.iload_n 3, 1) := by decide +kernel
theorem dX8_paid_80 : decode cX8_paid 80 = .ok (.iaload, 1) := by decide +kernel
theorem dX8_paid_81 : decode cX8_paid 81 = .ok (.iadd, 1) := by decide +kernel
theorem dX8_paid_82 : decode cX8_paid 82 = .ok (.istore_n 2, 1) := by decide +kernel
theorem dX8_paid_83 : decode cX8_paid 83 = .ok (.iinc 3 1, 3) := by decide +kernel
theorem dX8_paid_86 : decode cX8_paid 86 = .ok (.goto (-65), 3) := by decide +kernel
theorem dX8_paid_89 : decode cX8_paid 89 = .ok (.iload_n 2, 1) := by decide +kernel
theorem dX8_paid_90 : decode cX8_paid 90 = .ok (.ireturn, 1) := by decide +kernel
theorem dX8_cover_0 : decode cX8_cover 0 = .ok (.iload_n 1, 1) := by decide +kernel
theorem dX8_cover_1 : decode cX8_cover 1 = .ok (.iload_n 2, 1) := by decide +kernel
theorem dX8_cover_2 : decode cX8_cover 2 = .ok (.invokestatic 255, 3) := by decide +kernel
theorem dX8_cover_5 : decode cX8_cover 5 = .ok (.istore_n 3, 1) := by decide +kernel
theorem dX8_cover_6 : decode cX8_cover 6 = .ok (.iload_n 3, 1) := by decide +kernel
theorem dX8_cover_7 : decode cX8_cover 7 = .ok (.ifCond .ge 11, 3) := by decide +kernel
theorem dX8_cover_10 : decode cX8_cover 10 = .ok (.aload_n 0, 1) := by decide +kernel
theorem dX8_cover_11 : decode cX8_cover 11 = .ok (.iload_n 3, 1) := by decide +kernel
theorem dX8_cover_12 : decode cX8_cover 12 = .ok (.invokevirtual 59, 3) := by decide +kernel
theorem dX8_cover_15 : decode cX8_cover 15 = .ok (.goto 12, 3) := by decide +kernel
theorem dX8_cover_18 : decode cX8_cover 18 = .ok (.aload_n 0, 1) := by decide +kernel
theorem dX8_cover_19 : decode cX8_cover 19 = .ok (.getfield 25, 3) := by decide +kernel
theorem dX8_cover_22 : decode cX8_cover 22 = .ok (.iload_n 1, 1) := by decide +kernel
theorem dX8_cover_23 : decode cX8_cover 23 = .ok (.iload_n 2, 1) := by decide +kernel
theorem dX8_cover_24 : decode cX8_cover 24 = .ok (.invokevirtual 258, 3) := by decide +kernel
theorem dX8_cover_27 : decode cX8_cover 27 = .ok (.ireturn, 1) := by decide +kernel
theorem dX8_sure_0 : decode cX8_sure 0 = .ok (.iload_n 1, 1) := by decide +kernel
theorem dX8_sure_1 : decode cX8_sure 1 = .ok (.iload_n 2, 1) := by decide +kernel
theorem dX8_sure_2 : decode cX8_sure 2 = .ok (.invokestatic 255, 3) := by decide +kernel
theorem dX8_sure_5 : decode cX8_sure 5 = .ok (.istore_n 3, 1) := by decide +kernel
theorem dX8_sure_6 : decode cX8_sure 6 = .ok (.iload_n 3, 1) := by decide +kernel
theorem dX8_sure_7 : decode cX8_sure 7 = .ok (.ifCond .ge 9, 3) := by decide +kernel
theorem dX8_sure_10 : decode cX8_sure 10 = .ok (.aload_n 0, 1) := by decide +kernel
theorem dX8_sure_11 : decode cX8_sure 11 = .ok (.iload_n 3, 1) := by decide +kernel
theorem dX8_sure_12 : decode cX8_sure 12 = .ok (.invokevirtual 59, 3) := by decide +kernel
theorem dX8_sure_15 : decode cX8_sure 15 = .ok (.ireturn, 1) := by decide +kernel
theorem dX8_sure_16 : decode cX8_sure 16 = .ok (.aload_n 0, 1) := by decide +kernel
theorem dX8_sure_17 : decode cX8_sure 17 = .ok (.getfield 25, 3) := by decide +kernel
theorem dX8_sure_20 : decode cX8_sure 20 = .ok (.iload_n 1, 1) := by decide +kernel
theorem dX8_sure_21 : decode cX8_sure 21 = .ok (.iload_n 2, 1) := by decide +kernel
theorem dX8_sure_22 : decode cX8_sure 22 = .ok (.invokevirtual 258, 3) := by decide +kernel
theorem dX8_sure_25 : decode cX8_sure 25 = .ok (.iconst 1, 1) := by decide +kernel
theorem dX8_sure_26 : decode cX8_sure 26 = .ok (.if_icmp .ne 15, 3) := by decide +kernel
theorem dX8_sure_29 : decode cX8_sure 29 = .ok (.aload_n 0, 1) := by decide +kernel
theorem dX8_sure_30 : decode cX8_sure 30 = .ok (.getfield 25, 3) := by decide +kernel
theorem dX8_sure_33 : decode cX8_sure 33 = .ok (.iload_n 1, 1) := by decide +kernel
theorem dX8_sure_34 : decode cX8_sure 34 = .ok (.iload_n 2, 1) := by decide +kernel
theorem dX8_sure_35 : decode cX8_sure 35 = .ok (.invokevirtual 261, 3) := by decide +kernel
theorem dX8_sure_38 : decode cX8_sure 38 = .ok (.goto 5, 3) := by decide +kernel
theorem dX8_sure_41 : decode cX8_sure 41 = .ok (.bipush (-9), 2) := by decide +kernel
theorem dX8_sure_43 : decode cX8_sure 43 = .ok (.ireturn, 1) := by decide +kernel
theorem dX8_sack_0 : decode cX8_sack 0 = .ok (.iload_n 1, 1) := by decide +kernel
theorem dX8_sack_1 : decode cX8_sack 1 = .ok (.iconst 1, 1) := by decide +kernel
theorem dX8_sack_2 : decode cX8_sack 2 = .ok (.if_icmp .lt 12, 3) := by decide +kernel
theorem dX8_sack_5 : decode cX8_sack 5 = .ok (.iload_n 2, 1) := by decide +kernel
theorem dX8_sack_6 : decode cX8_sack 6 = .ok (.iconst 1, 1) := by decide +kernel
theorem dX8_sack_7 : decode cX8_sack 7 = .ok (.if_icmp .lt 7, 3) := by decide +kernel
theorem dX8_sack_10 : decode cX8_sack 10 = .ok (.iload_n 3, 1) := by decide +kernel
theorem dX8_sack_11 : decode cX8_sack 11 = .ok (.ifCond .ge 10, 3) := by decide +kernel
theorem dX8_sack_14 : decode cX8_sack 14 = .ok (.aload_n 0, 1) := by decide +kernel
theorem dX8_sack_15 : decode cX8_sack 15 = .ok (.bipush (-4), 2) := by decide +kernel
theorem dX8_sack_17 : decode cX8_sack 17 = .ok (.invokevirtual 59, 3) := by decide +kernel
theorem dX8_sack_20 : decode cX8_sack 20 = .ok (.ireturn, 1) := by decide +kernel
theorem dX8_sack_21 : decode cX8_sack 21 = .ok (.iload_n 1, 1) := by decide +kernel
theorem dX8_sack_22 : decode cX8_sack 22 = .ok (.bipush 99, 2) := by decide +kernel
theorem dX8_sack_24 : decode cX8_sack 24 = .ok (.if_icmp .gt 29, 3) := by decide +kernel
theorem dX8_sack_27 : decode cX8_sack 27 = .ok (.iload_n 2, 1) := by decide +kernel
theorem dX8_sack_28 : decode cX8_sack 28 = .ok (.sipush 999, 3) := by decide +kernel
theorem dX8_sack_31 : decode cX8_sack 31 = .ok (.if_icmp .gt 22, 3) := by decide +kernel
theorem dX8_sack_34 : decode cX8_sack 34 = .ok (.iload_n 3, 1) := by decide +kernel
theorem dX8_sack_35 : decode cX8_sack 35 = .ok (.sipush 9999, 3) := by decide +kernel
theorem dX8_sack_38 : decode cX8_sack 38 = .ok (.if_icmp .gt 15, 3) := by decide +kernel
theorem dX8_sack_41 : decode cX8_sack 41 = .ok (.aload_n 0, 1) := by decide +kernel
theorem dX8_sack_42 : decode cX8_sack 42 = .ok (.getfield 51, 3) := by decide +kernel
theorem dX8_sack_45 : decode cX8_sack 45 = .ok (.getfield 264, 3) := by decide +kernel
theorem dX8_sack_48 : decode cX8_sack 48 = .ok (.bipush 7, 2) := by decide +kernel
theorem dX8_sack_50 : decode cX8_sack 50 = .ok (.if_icmp .lt 10, 3) := by decide +kernel
theorem dX8_sack_53 : decode cX8_sack 53 = .ok (.aload_n 0, 1) := by decide +kernel
theorem dX8_sack_54 : decode cX8_sack 54 = .ok (.bipush (-6), 2) := by decide +kernel
theorem dX8_sack_56 : decode cX8_sack 56 = .ok (.invokevirtual 59, 3) := by decide +kernel
theorem dX8_sack_59 : decode cX8_sack 59 = .ok (.ireturn, 1) := by decide +kernel
theorem dX8_sack_60 : decode cX8_sack 60 = .ok (.aload_n 0, 1) := by decide +kernel
theorem dX8_sack_61 : decode cX8_sack 61 = .ok (.getfield 51, 3) := by decide +kernel
theorem dX8_sack_64 : decode cX8_sack 64 = .ok (.iload_n 1, 1) := by decide +kernel
theorem dX8_sack_65 : decode cX8_sack 65 = .ok (.iload_n 2, 1) := by decide +kernel
theorem dX8_sack_66 : decode cX8_sack 66 = .ok (.iload_n 3, 1) := by decide +kernel
theorem dX8_sack_67 : decode cX8_sack 67 = .ok (.invokevirtual 267, 3) := by decide +kernel
theorem dX8_sack_70 : decode cX8_sack 70 = .ok (.ireturn, 1) := by decide +kernel
theorem dX8_best_0 : decode cX8_best 0 = .ok (.iload_n 1, 1) := by decide +kernel
theorem dX8_best_1 : decode cX8_best 1 = .ok (.ifCond .lt 8, 3) := by decide +kernel
theorem dX8_best_4 : decode cX8_best 4 = .ok (.iload_n 1, 1) := by decide +kernel
theorem dX8_best_5 : decode cX8_best 5 = .ok (.iconst 2, 1) := by decide +kernel
theorem dX8_best_6 : decode cX8_best 6 = .ok (.if_icmp .le 10, 3) := by decide +kernel
theorem dX8_best_9 : decode cX8_best 9 = .ok (.aload_n 0, 1) := by decide +kernel
theorem dX8_best_10 : decode cX8_best 10 = .ok (.bipush (-2), 2) := by decide +kernel
theorem dX8_best_12 : decode cX8_best 12 = .ok (.invokevirtual 59, 3) := by decide +kernel
theorem dX8_best_15 : decode cX8_best 15 = .ok (.ireturn, 1) := by decide +kernel
theorem dX8_best_16 : decode cX8_best 16 = .ok (.aload_n 0, 1) := by decide +kernel
theorem dX8_best_17 : decode cX8_best 17 = .ok (.getfield 51, 3) := by decide +kernel
theorem dX8_best_20 : decode cX8_best 20 = .ok (.invokevirtual 270, 3) := by decide +kernel
theorem dX8_best_23 : decode cX8_best 23 = .ok (.istore_n 2, 1) := by decide +kernel
theorem dX8_best_24 : decode cX8_best 24 = .ok (.iload_n 1, 1) := by decide +kernel
theorem dX8_best_25 : decode cX8_best 25 = .ok (.ifCond .ne 5, 3) := by decide +kernel
theorem dX8_best_28 : decode cX8_best 28 = .ok (.iload_n 2, 1) := by decide +kernel
theorem dX8_best_29 : decode cX8_best 29 = .ok (.ireturn, 1) := by decide +kernel
theorem dX8_best_30 : decode cX8_best 30 = .ok (.iload_n 1, 1) := by decide +kernel
theorem dX8_best_31 : decode cX8_best 31 = .ok (.iconst 1, 1) := by decide +kernel
theorem dX8_best_32 : decode cX8_best 32 = .ok (.if_icmp .ne 14, 3) := by decide +kernel
theorem dX8_best_35 : decode cX8_best 35 = .ok (.aload_n 0, 1) := by decide +kernel
theorem dX8_best_36 : decode cX8_best 36 = .ok (.getfield 51, 3) := by decide +kernel
theorem dX8_best_39 : decode cX8_best 39 = .ok (.iload_n 2, 1) := by decide +kernel
theorem dX8_best_40 : decode cX8_best 40 = .ok (.invokevirtual 274, 3) := by decide +kernel
theorem dX8_best_43 : decode cX8_best 43 = .ok (.goto 11, 3) := by decide +kernel
theorem dX8_best_46 : decode cX8_best 46 = .ok (.aload_n 0, 1) := by decide +kernel
theorem dX8_best_47 : decode cX8_best 47 = .ok (.getfield 51, 3) := by decide +kernel
theorem dX8_best_50 : decode cX8_best 50 = .ok (.iload_n 2, 1) := by decide +kernel
theorem dX8_best_51 : decode cX8_best 51 = .ok (.invokevirtual 277, 3) := by decide +kernel
theorem dX8_best_54 : decode cX8_best 54 = .ok (.ireturn, 1) := by decide +kernel
theorem dX8_put_0 : decode cX8_put 0 = .ok (.iload_n 1, 1) := by decide +kernel
theorem dX8_put_1 : decode cX8_put 1 = .ok (.bipush (-128), 2) := by decide +kernel
theorem dX8_put_3 : decode cX8_put 3 = .ok (.if_icmp .ge 10, 3) := by decide +kernel
theorem dX8_put_6 : decode cX8_put 6 = .ok (.aload_n 0, 1) := by decide +kernel
theorem dX8_put_7 : decode cX8_put 7 = .ok (.bipush (-4), 2) := by decide +kernel
theorem dX8_put_9 : decode cX8_put 9 = .ok (.invokevirtual 59, 3) := by decide +kernel
theorem dX8_put_12 : decode cX8_put 12 = .ok (.ireturn, 1) := by decide +kernel
theorem dX8_put_13 : decode cX8_put 13 = .ok (.iload_n 1, 1) := by decide +kernel
theorem dX8_put_14 : decode cX8_put 14 = .ok (.bipush 127, 2) := by decide +kernel
theorem dX8_put_16 : decode cX8_put 16 = .ok (.if_icmp .gt 15, 3) := by decide +kernel
theorem dX8_put_19 : decode cX8_put 19 = .ok (.aload_n 0, 1) := by decide +kernel
theorem dX8_put_20 : decode cX8_put 20 = .ok (.getfield 51, 3) := by decide +kernel
theorem dX8_put_23 : decode cX8_put 23 = .ok (.getfield 280, 3) := by decide +kernel
theorem dX8_put_26 : decode cX8_put 26 = .ok (.bipush 12, 2) := by decide +kernel
theorem dX8_put_28 : decode cX8_put 28 = .ok (.if_icmp .lt 10, 3) := by decide +kernel
theorem dX8_put_31 : decode cX8_put 31 = .ok (.aload_n 0, 1) := by decide +kernel
theorem dX8_put_32 : decode cX8_put 32 = .ok (.bipush (-6), 2) := by decide +kernel
theorem dX8_put_34 : decode cX8_put 34 = .ok (.invokevirtual 59, 3) := by decide +kernel
theorem dX8_put_37 : decode cX8_put 37 = .ok (.ireturn, 1) := by decide +kernel
theorem dX8_put_38 : decode cX8_put 38 = .ok (.aload_n 0, 1) := by decide +kernel
theorem dX8_put_39 : decode cX8_put 39 = .ok (.getfield 51, 3) := by decide +kernel
theorem dX8_put_42 : decode cX8_put 42 = .ok (.iload_n 1, 1) := by decide +kernel
theorem dX8_put_43 : decode cX8_put 43 = .ok (.invokevirtual 283, 3) := by decide +kernel
theorem dX8_put_46 : decode cX8_put 46 = .ok (.ireturn, 1) := by decide +kernel
theorem dX8_judge_0 : decode cX8_judge 0 = .ok (.iload_n 1, 1) := by decide +kernel
theorem dX8_judge_1 : decode cX8_judge 1 = .ok (.ifCond .eq 15, 3) := by decide +kernel
theorem dX8_judge_4 : decode cX8_judge 4 = .ok (.iload_n 1, 1) := by decide +kernel
theorem dX8_judge_5 : decode cX8_judge 5 = .ok (.iconst 1, 1) := by decide +kernel
theorem dX8_judge_6 : decode cX8_judge 6 = .ok (.if_icmp .eq 10, 3) := by decide +kernel
theorem dX8_judge_9 : decode cX8_judge 9 = .ok (.aload_n 0, 1) := by decide +kernel
theorem dX8_judge_10 : decode cX8_judge 10 = .ok (.bipush (-2), 2) := by decide +kernel
theorem dX8_judge_12 : decode cX8_judge 12 = .ok (.invokevirtual 59, 3) := by decide +kernel
theorem dX8_judge_15 : decode cX8_judge 15 = .ok (.ireturn, 1) := by decide +kernel
theorem dX8_judge_16 : decode cX8_judge 16 = .ok (.aload_n 0, 1) := by decide +kernel
theorem dX8_judge_17 : decode cX8_judge 17 = .ok (.getfield 51, 3) := by decide +kernel
theorem dX8_judge_20 : decode cX8_judge 20 = .ok (.invokevirtual 286, 3) := by decide +kernel
theorem dX8_judge_23 : decode cX8_judge 23 = .ok (.istore_n 2, 1) := by decide +kernel
theorem dX8_judge_24 : decode cX8_judge 24 = .ok (.iload_n 1, 1) := by decide +kernel
theorem dX8_judge_25 : decode cX8_judge 25 = .ok (.ifCond .ne 21, 3) := by decide +kernel
theorem dX8_judge_28 : decode cX8_judge 28 = .ok (.iload_n 2, 1) := by decide +kernel
theorem dX8_judge_29 : decode cX8_judge 29 = .ok (.aload_n 0, 1) := by decide +kernel
theorem dX8_judge_30 : decode cX8_judge 30 = .ok (.getfield 51, 3) := by decide +kernel
theorem dX8_judge_33 : decode cX8_judge 33 = .ok (.getfield 280, 3) := by decide +kernel
theorem dX8_judge_36 : decode cX8_judge 36 = .ok (.if_icmp .ge 7, 3) := by decide +kernel
theorem dX8_judge_39 : decode cX8_judge 39 = .ok (.iload_n 2, 1) := by decide +kernel
theorem dX8_judge_40 : decode cX8_judge 40 = .ok (.goto 5, 3) := by decide +kernel
theorem dX8_judge_43 : decode cX8_judge 43 = .ok (.bipush (-9), 2) := by decide +kernel
theorem dX8_judge_45 : decode cX8_judge 45 = .ok (.ireturn, 1) := by decide +kernel
theorem dX8_judge_46 : decode cX8_judge 46 = .ok (.aload_n 0, 1) := by decide +kernel
theorem dX8_judge_47 : decode cX8_judge 47 = .ok (.getfield 51, 3) := by decide +kernel
theorem dX8_judge_50 : decode cX8_judge 50 = .ok (.aload_n 0, 1) := by decide +kernel
theorem dX8_judge_51 : decode cX8_judge 51 = .ok (.getfield 51, 3) := by decide +kernel
theorem dX8_judge_54 : decode cX8_judge 54 = .ok (.invokevirtual 270, 3) := by decide +kernel
theorem dX8_judge_57 : decode cX8_judge 57 = .ok (.invokevirtual 274, 3) := by decide +kernel
theorem dX8_judge_60 : decode cX8_judge 60 = .ok (.aload_n 0, 1) := by decide +kernel
theorem dX8_judge_61 : decode cX8_judge 61 = .ok (.getfield 51, 3) := by decide +kernel
theorem dX8_judge_64 : decode cX8_judge 64 = .ok (.iload_n 2, 1) := by decide +kernel
theorem dX8_judge_65 : decode cX8_judge 65 = .ok (.invokevirtual 289, 3) := by decide +kernel
theorem dX8_judge_68 : decode cX8_judge 68 = .ok (.isub, 1) := by decide +kernel
theorem dX8_judge_69 : decode cX8_judge 69 = .ok (.istore_n 3, 1) := by decide +kernel
theorem dX8_judge_70 : decode cX8_judge 70 = .ok (.aload_n 0, 1) := by decide +kernel
theorem dX8_judge_71 : decode cX8_judge 71 = .ok (.getfield 51, 3) := by decide +kernel
theorem dX8_judge_74 : decode cX8_judge 74 = .ok (.iconst 0, 1) := by decide +kernel
theorem dX8_judge_75 : decode cX8_judge 75 = .ok (.putfield 280, 3) := by decide +kernel
theorem dX8_judge_78 : decode cX8_judge 78 = .ok (.iload_n 3, 1) := by decide +kernel
theorem dX8_judge_79 : decode cX8_judge 79 = .ok (.ireturn, 1) := by decide +kernel
theorem dX8_waiting_0 : decode cX8_waiting 0 = .ok (.aload_n 0, 1) := by decide +kernel
theorem dX8_waiting_1 : decode cX8_waiting 1 = .ok (.getfield 20, 3) := by decide +kernel
theorem dX8_waiting_4 : decode cX8_waiting 4 = .ok (.iload_n 1, 1) := by decide +kernel
theorem dX8_waiting_5 : decode cX8_waiting 5 = .ok (.invokevirtual 73, 3) := by decide +kernel
theorem dX8_waiting_8 : decode cX8_waiting 8 = .ok (.ifCond .ne 9, 3) := by decide +kernel
theorem dX8_waiting_11 : decode cX8_waiting 11 = .ok (.aload_n 0, 1) := by decide +kernel
theorem dX8_waiting_12 : decode cX8_waiting 12 = .ok (.iconst (-1), 1) := by decide +kernel
theorem dX8_waiting_13 : decode cX8_waiting 13 = .ok (.invokevirtual 59, 3) := by decide +kernel
theorem dX8_waiting_16 : decode cX8_waiting 16 = .ok (.ireturn, 1) := by decide +kernel
theorem dX8_waiting_17 : decode cX8_waiting 17 = .ok (.iconst 0, 1) := by decide +kernel
theorem dX8_waiting_18 : decode cX8_waiting 18 = .ok (.istore_n 2, 1) := by decide +kernel
theorem dX8_waiting_19 : decode cX8_waiting 19 = .ok (.iconst 0, 1) := by decide +kernel
theorem dX8_waiting_20 : decode cX8_waiting 20 = .ok (.istore_n 3, 1) := by decide +kernel
theorem dX8_waiting_21 : decode cX8_waiting 21 = .ok (.iload_n 3, 1) := by decide +kernel
theorem dX8_waiting_22 : decode cX8_waiting 22 = .ok (.aload_n 0, 1) := by decide +kernel
theorem dX8_waiting_23 : decode cX8_waiting 23 = .ok (.getfield 35, 3) := by decide +kernel
theorem dX8_waiting_26 : decode cX8_waiting 26 = .ok (.getfield 157, 3) := by decide +kernel
theorem dX8_waiting_29 : decode cX8_waiting 29 = .ok (.if_icmp .ge 37, 3) := by decide +kernel
theorem dX8_waiting_32 : decode cX8_waiting 32 = .ok (.aload_n 0, 1) := by decide +kernel
theorem dX8_waiting_33 : decode cX8_waiting 33 = .ok (.getfield 41, 3) := by decide +kernel
theorem dX8_waiting_36 : decode cX8_waiting 36 = .ok (.getfield 208, 3) := by decide +kernel
theorem dX8_waiting_39 : decode cX8_waiting 39 = .ok (.iload_n 3, 1) := by decide +kernel
theorem dX8_waiting_40 : decode cX8_waiting 40 = .ok (.iaload, 1) := by decide +kernel
theorem dX8_waiting_41 : decode cX8_waiting 41 = .ok (.ifCond .ne 19, 3) := by decide +kernel
theorem dX8_waiting_44 : decode cX8_waiting 44 = .ok (.aload_n 0, 1) := by decide +kernel
theorem dX8_waiting_45 : decode cX8_waiting 45 = .ok (.getfield 41, 3) := by decide +kernel
theorem dX8_waiting_48 : decode cX8_waiting 48 = .ok (.getfield 192, 3) := by decide +kernel
theorem dX8_waiting_51 : decode cX8_waiting 51 = .ok (.iload_n 3, 1) := by decide +kernel
theorem dX8_waiting_52 : decode cX8_waiting 52 = .ok (.iaload, 1) := by decide +kernel
theorem dX8_waiting_53 : decode cX8_waiting 53 = .ok (.iload_n 1, 1) := by decide +kernel
theorem dX8_waiting_54 : decode cX8_waiting 54 = .ok (.if_icmp .ne 6, 3) := by decide +kernel
theorem dX8_waiting_57 : decode cX8_waiting 57 = .ok (.iinc 2 1, 3) := by decide +kernel
theorem dX8_waiting_60 : decode cX8_waiting 60 = .ok (.iinc 3 1, 3) := by decide +kernel
theorem dX8_waiting_63 : decode cX8_waiting 63 = .ok (.goto (-42), 3) := by decide +kernel
theorem dX8_waiting_66 : decode cX8_waiting 66 = .ok (.iload_n 2, 1) := by decide +kernel
theorem dX8_waiting_67 : decode cX8_waiting 67 = .ok (.ireturn, 1) := by decide +kernel
theorem dX8_count_0 : decode cX8_count 0 = .ok (.iload_n 1, 1) := by decide +kernel
theorem dX8_count_1 : decode cX8_count 1 = .ok (.tableswitch 233 0 18 #[91, 96, 104, 112, 120, 128, 136, 152, 168, 184, 199, 207, 207, 207, 207, 207, 207, 217, 225], 91) := by decide +kernel
theorem dX8_count_92 : decode cX8_count 92 = .ok (.aload_n 0, 1) := by decide +kernel
theorem dX8_count_93 : decode cX8_count 93 = .ok (.getfield 95, 3) := by decide +kernel
theorem dX8_count_96 : decode cX8_count 96 = .ok (.ireturn, 1) := by decide +kernel
theorem dX8_count_97 : decode cX8_count 97 = .ok (.aload_n 0, 1) := by decide +kernel
theorem dX8_count_98 : decode cX8_count 98 = .ok (.getfield 20, 3) := by decide +kernel
theorem dX8_count_101 : decode cX8_count 101 = .ok (.getfield 63, 3) := by decide +kernel
theorem dX8_count_104 : decode cX8_count 104 = .ok (.ireturn, 1) := by decide +kernel
theorem dX8_count_105 : decode cX8_count 105 = .ok (.aload_n 0, 1) := by decide +kernel
theorem dX8_count_106 : decode cX8_count 106 = .ok (.getfield 20, 3) := by decide +kernel
theorem dX8_count_109 : decode cX8_count 109 = .ok (.getfield 85, 3) := by decide +kernel
theorem dX8_count_112 : decode cX8_count 112 = .ok (.ireturn, 1) := by decide +kernel
theorem dX8_count_113 : decode cX8_count 113 = .ok (.aload_n 0, 1) := by decide +kernel
theorem dX8_count_114 : decode cX8_count 114 = .ok (.getfield 25, 3) := by decide +kernel
theorem dX8_count_117 : decode cX8_count 117 = .ok (.getfield 121, 3) := by decide +kernel
theorem dX8_count_120 : decode cX8_count 120 = .ok (.ireturn, 1) := by decide +kernel
theorem dX8_count_121 : decode cX8_count 121 = .ok (.aload_n 0, 1) := by decide +kernel
theorem dX8_count_122 : decode cX8_count 122 = .ok (.getfield 25, 3) := by decide +kernel
theorem dX8_count_125 : decode cX8_count 125 = .ok (.getfield 133, 3) := by decide +kernel
theorem dX8_count_128 : decode cX8_count 128 = .ok (.ireturn, 1) := by decide +kernel
theorem dX8_count_129 : decode cX8_count 129 = .ok (.aload_n 0, 1) := by decide +kernel
theorem dX8_count_130 : decode cX8_count 130 = .ok (.getfield 35, 3) := by decide +kernel
theorem dX8_count_133 : decode cX8_count 133 = .ok (.getfield 157, 3) := by decide +kernel
theorem dX8_count_136 : decode cX8_count 136 = .ok (.ireturn, 1) := by decide +kernel
theorem dX8_count_137 : decode cX8_count 137 = .ok (.aload_n 0, 1) := by decide +kernel
theorem dX8_count_138 : decode cX8_count 138 = .ok (.getfield 41, 3) := by decide +kernel
theorem dX8_count_141 : decode cX8_count 141 = .ok (.iconst 2, 1) := by decide +kernel
theorem dX8_count_142 : decode cX8_count 142 = .ok (.aload_n 0, 1) := by decide +kernel
theorem dX8_count_143 : decode cX8_count 143 = .ok (.getfield 35, 3) := by decide +kernel
theorem dX8_count_146 : decode cX8_count 146 = .ok (.getfield 157, 3) := by decide +kernel
theorem dX8_count_149 : decode cX8_count 149 = .ok (.invokevirtual 292, 3) := by decide +kernel
theorem dX8_count_152 : decode cX8_count 152 = .ok (.ireturn, 1) := by decide +kernel
theorem dX8_count_153 : decode cX8_count 153 = .ok (.aload_n 0, 1) := by decide +kernel
theorem dX8_count_154 : decode cX8_count 154 = .ok (.getfield 41, 3) := by decide +kernel
theorem dX8_count_157 : decode cX8_count 157 = .ok (.iconst 3, 1) := by decide +kernel
theorem dX8_count_158 : decode cX8_count 158 = .ok (.aload_n 0, 1) := by decide +kernel
theorem dX8_count_159 : decode cX8_count 159 = .ok (.getfield 35, 3) := by decide +kernel
theorem dX8_count_162 : decode cX8_count 162 = .ok (.getfield 157, 3) := by decide +kernel
theorem dX8_count_165 : decode cX8_count 165 = .ok (.invokevirtual 292, 3) := by decide +kernel
theorem dX8_count_168 : decode cX8_count 168 = .ok (.ireturn, 1) := by decide +kernel
theorem dX8_count_169 : decode cX8_count 169 = .ok (.aload_n 0, 1) := by decide +kernel
theorem dX8_count_170 : decode cX8_count 170 = .ok (.getfield 41, 3) := by decide +kernel
theorem dX8_count_173 : decode cX8_count 173 = .ok (.iconst 4, 1) := by decide +kernel
theorem dX8_count_174 : decode cX8_count 174 = .ok (.aload_n 0, 1) := by decide +kernel
theorem dX8_count_175 : decode cX8_count 175 = .ok (.getfield 35, 3) := by decide +kernel
theorem dX8_count_178 : decode cX8_count 178 = .ok (.getfield 157, 3) := by decide +kernel
theorem dX8_count_181 : decode cX8_count 181 = .ok (.invokevirtual 292, 3) := by decide +kernel
theorem dX8_count_184 : decode cX8_count 184 = .ok (.ireturn, 1) := by decide +kernel
theorem dX8_count_185 : decode cX8_count 185 = .ok (.aload_n 0, 1) := by decide +kernel
theorem dX8_count_186 : decode cX8_count 186 = .ok (.getfield 41, 3) := by decide +kernel
theorem dX8_count_189 : decode cX8_count 189 = .ok (.aload_n 0, 1) := by decide +kernel
theorem dX8_count_190 : decode cX8_count 190 = .ok (.getfield 35, 3) := by decide +kernel
theorem dX8_count_193 : decode cX8_count 193 = .ok (.getfield 157, 3) := by decide +kernel
theorem dX8_count_196 : decode cX8_count 196 = .ok (.invokevirtual 295, 3) := by decide +kernel
theorem dX8_count_199 : decode cX8_count 199 = .ok (.ireturn, 1) := by decide +kernel
theorem dX8_count_200 : decode cX8_count 200 = .ok (.aload_n 0, 1) := by decide +kernel
theorem dX8_count_201 : decode cX8_count 201 = .ok (.getfield 30, 3) := by decide +kernel
theorem dX8_count_204 : decode cX8_count 204 = .ok (.getfield 169, 3) := by decide +kernel
theorem dX8_count_207 : decode cX8_count 207 = .ok (.ireturn, 1) := by decide +kernel
theorem dX8_count_208 : decode cX8_count 208 = .ok (.aload_n 0, 1) := by decide +kernel
theorem dX8_count_209 : decode cX8_count 209 = .ok (.getfield 55, 3) := by decide +kernel
theorem dX8_count_212 : decode cX8_count 212 = .ok (.iload_n 1, 1) := by decide +kernel
theorem dX8_count_213 : decode cX8_count 213 = .ok (.bipush 10, 2) := by decide +kernel
theorem dX8_count_215 : decode cX8_count 215 = .ok (.isub, 1) := by decide +kernel
theorem dX8_count_216 : decode cX8_count 216 = .ok (.iaload, 1) := by decide +kernel
theorem dX8_count_217 : decode cX8_count 217 = .ok (.ireturn, 1) := by decide +kernel
theorem dX8_count_218 : decode cX8_count 218 = .ok (.aload_n 0, 1) := by decide +kernel
theorem dX8_count_219 : decode cX8_count 219 = .ok (.getfield 51, 3) := by decide +kernel
theorem dX8_count_222 : decode cX8_count 222 = .ok (.getfield 280, 3) := by decide +kernel
theorem dX8_count_225 : decode cX8_count 225 = .ok (.ireturn, 1) := by decide +kernel
theorem dX8_count_226 : decode cX8_count 226 = .ok (.aload_n 0, 1) := by decide +kernel
theorem dX8_count_227 : decode cX8_count 227 = .ok (.getfield 30, 3) := by decide +kernel
theorem dX8_count_230 : decode cX8_count 230 = .ok (.getfield 181, 3) := by decide +kernel
theorem dX8_count_233 : decode cX8_count 233 = .ok (.ireturn, 1) := by decide +kernel
theorem dX8_count_234 : decode cX8_count 234 = .ok (.bipush (-9), 2) := by decide +kernel
theorem dX8_count_236 : decode cX8_count 236 = .ok (.ireturn, 1) := by decide +kernel
theorem dX8_refuse_0 : decode cX8_refuse 0 = .ok (.iload_n 1, 1) := by decide +kernel
theorem dX8_refuse_1 : decode cX8_refuse 1 = .ok (.ineg, 1) := by decide +kernel
theorem dX8_refuse_2 : decode cX8_refuse 2 = .ok (.istore_n 2, 1) := by decide +kernel
theorem dX8_refuse_3 : decode cX8_refuse 3 = .ok (.iload_n 2, 1) := by decide +kernel
theorem dX8_refuse_4 : decode cX8_refuse 4 = .ok (.ifCond .lt 22, 3) := by decide +kernel
theorem dX8_refuse_7 : decode cX8_refuse 7 = .ok (.iload_n 2, 1) := by decide +kernel
theorem dX8_refuse_8 : decode cX8_refuse 8 = .ok (.aload_n 0, 1) := by decide +kernel
theorem dX8_refuse_9 : decode cX8_refuse 9 = .ok (.getfield 55, 3) := by decide +kernel
theorem dX8_refuse_12 : decode cX8_refuse 12 = .ok (.arraylength, 1) := by decide +kernel
theorem dX8_refuse_13 : decode cX8_refuse 13 = .ok (.if_icmp .ge 13, 3) := by decide +kernel
theorem dX8_refuse_16 : decode cX8_refuse 16 = .ok (.aload_n 0, 1) := by decide +kernel
theorem dX8_refuse_17 : decode cX8_refuse 17 = .ok (.getfield 55, 3) := by decide +kernel
theorem dX8_refuse_20 : decode cX8_refuse 20 = .ok (.iload_n 2, 1) := by decide +kernel
theorem dX8_refuse_21 : decode cX8_refuse 21 = .ok (.dup2, 1) := by decide +kernel
theorem dX8_refuse_22 : decode cX8_refuse 22 = .ok (.iaload, 1) := by decide +kernel
theorem dX8_refuse_23 : decode cX8_refuse 23 = .ok (.iconst 1, 1) := by decide +kernel
theorem dX8_refuse_24 : decode cX8_refuse 24 = .ok (.iadd, 1) := by decide +kernel
theorem dX8_refuse_25 : decode cX8_refuse 25 = .ok (.iastore, 1) := by decide +kernel
theorem dX8_refuse_26 : decode cX8_refuse 26 = .ok (.iload_n 1, 1) := by decide +kernel
theorem dX8_refuse_27 : decode cX8_refuse 27 = .ok (.ireturn, 1) := by decide +kernel
theorem dX8_isUnit_0 : decode cX8_isUnit 0 = .ok (.iload_n 0, 1) := by decide +kernel
theorem dX8_isUnit_1 : decode cX8_isUnit 1 = .ok (.ifCond .lt 13, 3) := by decide +kernel
theorem dX8_isUnit_4 : decode cX8_isUnit 4 = .ok (.iload_n 0, 1) := by decide +kernel
theorem dX8_isUnit_5 : decode cX8_isUnit 5 = .ok (.bipush 16, 2) := by decide +kernel
theorem dX8_isUnit_7 : decode cX8_isUnit 7 = .ok (.if_icmp .ge 7, 3) := by decide +kernel
theorem dX8_isUnit_10 : decode cX8_isUnit 10 = .ok (.iconst 1, 1) := by decide +kernel
theorem dX8_isUnit_11 : decode cX8_isUnit 11 = .ok (.goto 4, 3) := by decide +kernel
theorem dX8_isUnit_14 : decode cX8_isUnit 14 = .ok (.iconst 0, 1) := by decide +kernel
theorem dX8_isUnit_15 : decode cX8_isUnit 15 = .ok (.ireturn, 1) := by decide +kernel
theorem dX8_isPurpose_0 : decode cX8_isPurpose 0 = .ok (.iload_n 0, 1) := by decide +kernel
theorem dX8_isPurpose_1 : decode cX8_isPurpose 1 = .ok (.ifCond .lt 12, 3) := by decide +kernel
theorem dX8_isPurpose_4 : decode cX8_isPurpose 4 = .ok (.iload_n 0, 1) := by decide +kernel
theorem dX8_isPurpose_5 : decode cX8_isPurpose 5 = .ok (.iconst 2, 1) := by decide +kernel
theorem dX8_isPurpose_6 : decode cX8_isPurpose 6 = .ok (.if_icmp .gt 7, 3) := by decide +kernel
theorem dX8_isPurpose_9 : decode cX8_isPurpose 9 = .ok (.iconst 1, 1) := by decide +kernel
theorem dX8_isPurpose_10 : decode cX8_isPurpose 10 = .ok (.goto 4, 3) := by decide +kernel
theorem dX8_isPurpose_13 : decode cX8_isPurpose 13 = .ok (.iconst 0, 1) := by decide +kernel
theorem dX8_isPurpose_14 : decode cX8_isPurpose 14 = .ok (.ireturn, 1) := by decide +kernel
theorem dX8_reachedOrNone_0 : decode cX8_reachedOrNone 0 = .ok (.iload_n 0, 1) := by decide +kernel
theorem dX8_reachedOrNone_1 : decode cX8_reachedOrNone 1 = .ok (.ldc_w 298, 3) := by decide +kernel
theorem dX8_reachedOrNone_4 : decode cX8_reachedOrNone 4 = .ok (.if_icmp .ge 7, 3) := by decide +kernel
theorem dX8_reachedOrNone_7 : decode cX8_reachedOrNone 7 = .ok (.iload_n 0, 1) := by decide +kernel
theorem dX8_reachedOrNone_8 : decode cX8_reachedOrNone 8 = .ok (.goto 5, 3) := by decide +kernel
theorem dX8_reachedOrNone_11 : decode cX8_reachedOrNone 11 = .ok (.bipush (-9), 2) := by decide +kernel
theorem dX8_reachedOrNone_13 : decode cX8_reachedOrNone 13 = .ok (.ireturn, 1) := by decide +kernel
theorem dX8_mostWeight_0 : decode cX8_mostWeight 0 = .ok (.iload_n 0, 1) := by decide +kernel
theorem dX8_mostWeight_1 : decode cX8_mostWeight 1 = .ok (.iconst 2, 1) := by decide +kernel
theorem dX8_mostWeight_2 : decode cX8_mostWeight 2 = .ok (.if_icmp .ne 7, 3) := by decide +kernel
theorem dX8_mostWeight_5 : decode cX8_mostWeight 5 = .ok (.sipush 9999, 3) := by decide +kernel
theorem dX8_mostWeight_8 : decode cX8_mostWeight 8 = .ok (.ireturn, 1) := by decide +kernel
theorem dX8_mostWeight_9 : decode cX8_mostWeight 9 = .ok (.iload_n 0, 1) := by decide +kernel
theorem dX8_mostWeight_10 : decode cX8_mostWeight 10 = .ok (.iconst 1, 1) := by decide +kernel
theorem dX8_mostWeight_11 : decode cX8_mostWeight 11 = .ok (.if_icmp .ne 9, 3) := by decide +kernel
theorem dX8_mostWeight_14 : decode cX8_mostWeight 14 = .ok (.sipush 999, 3) := by decide +kernel
theorem dX8_mostWeight_17 : decode cX8_mostWeight 17 = .ok (.goto 5, 3) := by decide +kernel
theorem dX8_mostWeight_20 : decode cX8_mostWeight 20 = .ok (.bipush 99, 2) := by decide +kernel
theorem dX8_mostWeight_22 : decode cX8_mostWeight 22 = .ok (.ireturn, 1) := by decide +kernel
theorem dX8_endOf_0 : decode cX8_endOf 0 = .ok (.iload_n 2, 1) := by decide +kernel
theorem dX8_endOf_1 : decode cX8_endOf 1 = .ok (.ifCond .ne 12, 3) := by decide +kernel
theorem dX8_endOf_4 : decode cX8_endOf 4 = .ok (.aload_n 0, 1) := by decide +kernel
theorem dX8_endOf_5 : decode cX8_endOf 5 = .ok (.getfield 211, 3) := by decide +kernel
theorem dX8_endOf_8 : decode cX8_endOf 8 = .ok (.iload_n 1, 1) := by decide +kernel
theorem dX8_endOf_9 : decode cX8_endOf 9 = .ok (.iaload, 1) := by decide +kernel
theorem dX8_endOf_10 : decode cX8_endOf 10 = .ok (.goto 9, 3) := by decide +kernel
theorem dX8_endOf_13 : decode cX8_endOf 13 = .ok (.aload_n 0, 1) := by decide +kernel
theorem dX8_endOf_14 : decode cX8_endOf 14 = .ok (.getfield 208, 3) := by decide +kernel
theorem dX8_endOf_17 : decode cX8_endOf 17 = .ok (.iload_n 1, 1) := by decide +kernel
theorem dX8_endOf_18 : decode cX8_endOf 18 = .ok (.iaload, 1) := by decide +kernel
theorem dX8_endOf_19 : decode cX8_endOf 19 = .ok (.ireturn, 1) := by decide +kernel
theorem dX8_outside_0 : decode cX8_outside 0 = .ok (.iload_n 0, 1) := by decide +kernel
theorem dX8_outside_1 : decode cX8_outside 1 = .ok (.iload_n 1, 1) := by decide +kernel
theorem dX8_outside_2 : decode cX8_outside 2 = .ok (.if_icmp .ge 6, 3) := by decide +kernel
theorem dX8_outside_5 : decode cX8_outside 5 = .ok (.bipush (-4), 2) := by decide +kernel
theorem dX8_outside_7 : decode cX8_outside 7 = .ok (.ireturn, 1) := by decide +kernel
theorem dX8_outside_8 : decode cX8_outside 8 = .ok (.iload_n 0, 1) := by decide +kernel
theorem dX8_outside_9 : decode cX8_outside 9 = .ok (.iload_n 2, 1) := by decide +kernel
theorem dX8_outside_10 : decode cX8_outside 10 = .ok (.if_icmp .le 8, 3) := by decide +kernel
theorem dX8_outside_13 : decode cX8_outside 13 = .ok (.bipush (-6), 2) := by decide +kernel
theorem dX8_outside_15 : decode cX8_outside 15 = .ok (.goto 4, 3) := by decide +kernel
theorem dX8_outside_18 : decode cX8_outside 18 = .ok (.iconst 0, 1) := by decide +kernel
theorem dX8_outside_19 : decode cX8_outside 19 = .ok (.ireturn, 1) := by decide +kernel
theorem dX8_notACover_0 : decode cX8_notACover 0 = .ok (.iload_n 0, 1) := by decide +kernel
theorem dX8_notACover_1 : decode cX8_notACover 1 = .ok (.iconst (-1), 1) := by decide +kernel
theorem dX8_notACover_2 : decode cX8_notACover 2 = .ok (.if_icmp .eq 10, 3) := by decide +kernel
theorem dX8_notACover_5 : decode cX8_notACover 5 = .ok (.iload_n 0, 1) := by decide +kernel
theorem dX8_notACover_6 : decode cX8_notACover 6 = .ok (.invokestatic 118, 3) := by decide +kernel
theorem dX8_notACover_9 : decode cX8_notACover 9 = .ok (.ifCond .eq 14, 3) := by decide +kernel
theorem dX8_notACover_12 : decode cX8_notACover 12 = .ok (.iload_n 1, 1) := by decide +kernel
theorem dX8_notACover_13 : decode cX8_notACover 13 = .ok (.iconst 0, 1) := by decide +kernel
theorem dX8_notACover_14 : decode cX8_notACover 14 = .ok (.sipush 14640, 3) := by decide +kernel
theorem dX8_notACover_17 : decode cX8_notACover 17 = .ok (.invokestatic 77, 3) := by decide +kernel
theorem dX8_notACover_20 : decode cX8_notACover 20 = .ok (.goto 4, 3) := by decide +kernel
theorem dX8_notACover_23 : decode cX8_notACover 23 = .ok (.iconst (-1), 1) := by decide +kernel
theorem dX8_notACover_24 : decode cX8_notACover 24 = .ok (.ireturn, 1) := by decide +kernel
theorem dX8_notAtOffice_0 : decode cX8_notAtOffice 0 = .ok (.aload_n 0, 1) := by decide +kernel
theorem dX8_notAtOffice_1 : decode cX8_notAtOffice 1 = .ok (.getfield 35, 3) := by decide +kernel
theorem dX8_notAtOffice_4 : decode cX8_notAtOffice 4 = .ok (.iload_n 1, 1) := by decide +kernel
theorem dX8_notAtOffice_5 : decode cX8_notAtOffice 5 = .ok (.invokevirtual 202, 3) := by decide +kernel
theorem dX8_notAtOffice_8 : decode cX8_notAtOffice 8 = .ok (.ifCond .ne 5, 3) := by decide +kernel
theorem dX8_notAtOffice_11 : decode cX8_notAtOffice 11 = .ok (.iconst (-1), 1) := by decide +kernel
theorem dX8_notAtOffice_12 : decode cX8_notAtOffice 12 = .ok (.ireturn, 1) := by decide +kernel
theorem dX8_notAtOffice_13 : decode cX8_notAtOffice 13 = .ok (.aload_n 0, 1) := by decide +kernel
theorem dX8_notAtOffice_14 : decode cX8_notAtOffice 14 = .ok (.getfield 41, 3) := by decide +kernel
theorem dX8_notAtOffice_17 : decode cX8_notAtOffice 17 = .ok (.getfield 208, 3) := by decide +kernel
theorem dX8_notAtOffice_20 : decode cX8_notAtOffice 20 = .ok (.iload_n 1, 1) := by decide +kernel
theorem dX8_notAtOffice_21 : decode cX8_notAtOffice 21 = .ok (.iaload, 1) := by decide +kernel
theorem dX8_notAtOffice_22 : decode cX8_notAtOffice 22 = .ok (.ifCond .ne 7, 3) := by decide +kernel
theorem dX8_notAtOffice_25 : decode cX8_notAtOffice 25 = .ok (.iconst 0, 1) := by decide +kernel
theorem dX8_notAtOffice_26 : decode cX8_notAtOffice 26 = .ok (.goto 5, 3) := by decide +kernel
theorem dX8_notAtOffice_29 : decode cX8_notAtOffice 29 = .ok (.bipush (-3), 2) := by decide +kernel
theorem dX8_notAtOffice_31 : decode cX8_notAtOffice 31 = .ok (.ireturn, 1) := by decide +kernel
theorem dX9_init_0 : decode cX9_init 0 = .ok (.aload_n 0, 1) := by decide +kernel
theorem dX9_init_1 : decode cX9_init 1 = .ok (.invokespecial 1, 3) := by decide +kernel
theorem dX9_init_4 : decode cX9_init 4 = .ok (.aload_n 0, 1) := by decide +kernel
theorem dX9_init_5 : decode cX9_init 5 = .ok (.bipush 7, 2) := by decide +kernel
theorem dX9_init_7 : decode cX9_init 7 = .ok (.newarray .int, 2) := by decide +kernel
theorem dX9_init_9 : decode cX9_init 9 = .ok (.putfield 7, 3) := by decide +kernel
theorem dX9_init_12 : decode cX9_init 12 = .ok (.aload_n 0, 1) := by decide +kernel
theorem dX9_init_13 : decode cX9_init 13 = .ok (.bipush 12, 2) := by decide +kernel
theorem dX9_init_15 : decode cX9_init 15 = .ok (.newarray .int, 2) := by decide +kernel
theorem dX9_init_17 : decode cX9_init 17 = .ok (.putfield 13, 3) := by decide +kernel
theorem dX9_init_20 : decode cX9_init 20 = .ok (.aload_n 0, 1) := by decide +kernel
theorem dX9_init_21 : decode cX9_init 21 = .ok (.bipush 24, 2) := by decide +kernel
theorem dX9_init_23 : decode cX9_init 23 = .ok (.newarray .int, 2) := by decide +kernel
theorem dX9_init_25 : decode cX9_init 25 = .ok (.putfield 16, 3) := by decide +kernel
theorem dX9_init_28 : decode cX9_init 28 = .ok (.aload_n 0, 1) := by decide +kernel
theorem dX9_init_29 : decode cX9_init 29 = .ok (.bipush 24, 2) := by decide +kernel
theorem dX9_init_31 : decode cX9_init 31 = .ok (.newarray .int, 2) := by decide +kernel
theorem dX9_init_33 : decode cX9_init 33 = .ok (.putfield 19, 3) := by decide +kernel
theorem dX9_init_36 : decode cX9_init 36 = .ok (.aload_n 0, 1) := by decide +kernel
theorem dX9_init_37 : decode cX9_init 37 = .ok (.bipush 24, 2) := by decide +kernel
theorem dX9_init_39 : decode cX9_init 39 = .ok (.newarray .int, 2) := by decide +kernel
theorem dX9_init_41 : decode cX9_init 41 = .ok (.putfield 22, 3) := by decide +kernel
theorem dX9_init_44 : decode cX9_init 44 = .ok (.aload_n 0, 1) := by decide +kernel
theorem dX9_init_45 : decode cX9_init 45 = .ok (.bipush 24, 2) := by decide +kernel
theorem dX9_init_47 : decode cX9_init 47 = .ok (.newarray .int, 2) := by decide +kernel
theorem dX9_init_49 : decode cX9_init 49 = .ok (.putfield 25, 3) := by decide +kernel
theorem dX9_init_52 : decode cX9_init 52 = .ok (.aload_n 0, 1) := by decide +kernel
theorem dX9_init_53 : decode cX9_init 53 = .ok (.bipush 24, 2) := by decide +kernel
theorem dX9_init_55 : decode cX9_init 55 = .ok (.newarray .int, 2) := by decide +kernel
theorem dX9_init_57 : decode cX9_init 57 = .ok (.putfield 28, 3) := by decide +kernel
theorem dX9_init_60 : decode cX9_init 60 = .ok (.aload_n 0, 1) := by decide +kernel
theorem dX9_init_61 : decode cX9_init 61 = .ok (.bipush 40, 2) := by decide +kernel
theorem dX9_init_63 : decode cX9_init 63 = .ok (.newarray .int, 2) := by decide +kernel
theorem dX9_init_65 : decode cX9_init 65 = .ok (.putfield 31, 3) := by decide +kernel
theorem dX9_init_68 : decode cX9_init 68 = .ok (.aload_n 0, 1) := by decide +kernel
theorem dX9_init_69 : decode cX9_init 69 = .ok (.bipush 40, 2) := by decide +kernel
theorem dX9_init_71 : decode cX9_init 71 = .ok (.newarray .int, 2) := by decide +kernel
theorem dX9_init_73 : decode cX9_init 73 = .ok (.putfield 34, 3) := by decide +kernel
theorem dX9_init_76 : decode cX9_init 76 = .ok (.aload_n 0, 1) := by decide +kernel
theorem dX9_init_77 : decode cX9_init 77 = .ok (.bipush 40, 2) := by decide +kernel
theorem dX9_init_79 : decode cX9_init 79 = .ok (.newarray .int, 2) := by decide +kernel
theorem dX9_init_81 : decode cX9_init 81 = .ok (.putfield 37, 3) := by decide +kernel
theorem dX9_init_84 : decode cX9_init 84 = .ok (.aload_n 0, 1) := by decide +kernel
theorem dX9_init_85 : decode cX9_init 85 = .ok (.sipush 144, 3) := by decide +kernel
theorem dX9_init_88 : decode cX9_init 88 = .ok (.newarray .int, 2) := by decide +kernel
theorem dX9_init_90 : decode cX9_init 90 = .ok (.putfield 40, 3) := by decide +kernel
theorem dX9_init_93 : decode cX9_init 93 = .ok (.aload_n 0, 1) := by decide +kernel
theorem dX9_init_94 : decode cX9_init 94 = .ok (.bipush 12, 2) := by decide +kernel
theorem dX9_init_96 : decode cX9_init 96 = .ok (.newarray .boolean, 2) := by decide +kernel
theorem dX9_init_98 : decode cX9_init 98 = .ok (.putfield 43, 3) := by decide +kernel
theorem dX9_init_101 : decode cX9_init 101 = .ok (.aload_n 0, 1) := by decide +kernel
theorem dX9_init_102 : decode cX9_init 102 = .ok (.bipush 60, 2) := by decide +kernel
theorem dX9_init_104 : decode cX9_init 104 = .ok (.newarray .int, 2) := by decide +kernel
theorem dX9_init_106 : decode cX9_init 106 = .ok (.putfield 47, 3) := by decide +kernel
theorem dX9_init_109 : decode cX9_init 109 = .ok (.aload_n 0, 1) := by decide +kernel
theorem dX9_init_110 : decode cX9_init 110 = .ok (.bipush 60, 2) := by decide +kernel
theorem dX9_init_112 : decode cX9_init 112 = .ok (.newarray .int, 2) := by decide +kernel
theorem dX9_init_114 : decode cX9_init 114 = .ok (.putfield 50, 3) := by decide +kernel
theorem dX9_init_117 : decode cX9_init 117 = .ok (.aload_n 0, 1) := by decide +kernel
theorem dX9_init_118 : decode cX9_init 118 = .ok (.bipush 60, 2) := by decide +kernel
theorem dX9_init_120 : decode cX9_init 120 = .ok (.newarray .int, 2) := by decide +kernel
theorem dX9_init_122 : decode cX9_init 122 = .ok (.putfield 53, 3) := by decide +kernel
theorem dX9_init_125 : decode cX9_init 125 = .ok (.aload_n 0, 1) := by decide +kernel
theorem dX9_init_126 : decode cX9_init 126 = .ok (.bipush 60, 2) := by decide +kernel
theorem dX9_init_128 : decode cX9_init 128 = .ok (.newarray .int, 2) := by decide +kernel
theorem dX9_init_130 : decode cX9_init 130 = .ok (.putfield 56, 3) := by decide +kernel
theorem dX9_init_133 : decode cX9_init 133 = .ok (.aload_n 0, 1) := by decide +kernel
theorem dX9_init_134 : decode cX9_init 134 = .ok (.bipush 40, 2) := by decide +kernel
theorem dX9_init_136 : decode cX9_init 136 = .ok (.newarray .int, 2) := by decide +kernel
theorem dX9_init_138 : decode cX9_init 138 = .ok (.putfield 59, 3) := by decide +kernel
theorem dX9_init_141 : decode cX9_init 141 = .ok (.aload_n 0, 1) := by decide +kernel
theorem dX9_init_142 : decode cX9_init 142 = .ok (.bipush 40, 2) := by decide +kernel
theorem dX9_init_144 : decode cX9_init 144 = .ok (.newarray .int, 2) := by decide +kernel
theorem dX9_init_146 : decode cX9_init 146 = .ok (.putfield 62, 3) := by decide +kernel
theorem dX9_init_149 : decode cX9_init 149 = .ok (.aload_n 0, 1) := by decide +kernel
theorem dX9_init_150 : decode cX9_init 150 = .ok (.bipush 80, 2) := by decide +kernel
theorem dX9_init_152 : decode cX9_init 152 = .ok (.newarray .int, 2) := by decide +kernel
theorem dX9_init_154 : decode cX9_init 154 = .ok (.putfield 65, 3) := by decide +kernel
theorem dX9_init_157 : decode cX9_init 157 = .ok (.aload_n 0, 1) := by decide +kernel
theorem dX9_init_158 : decode cX9_init 158 = .ok (.bipush 80, 2) := by decide +kernel
theorem dX9_init_160 : decode cX9_init 160 = .ok (.newarray .int, 2) := by decide +kernel
theorem dX9_init_162 : decode cX9_init 162 = .ok (.putfield 68, 3) := by decide +kernel
theorem dX9_init_165 : decode cX9_init 165 = .ok (.aload_n 0, 1) := by decide +kernel
theorem dX9_init_166 : decode cX9_init 166 = .ok (.bipush 80, 2) := by decide +kernel
theorem dX9_init_168 : decode cX9_init 168 = .ok (.newarray .int, 2) := by decide +kernel
theorem dX9_init_170 : decode cX9_init 170 = .ok (.putfield 71, 3) := by decide +kernel
theorem dX9_init_173 : decode cX9_init 173 = .ok (.aload_n 0, 1) := by decide +kernel
theorem dX9_init_174 : decode cX9_init 174 = .ok (.bipush 80, 2) := by decide +kernel
theorem dX9_init_176 : decode cX9_init 176 = .ok (.newarray .int, 2) := by decide +kernel
theorem dX9_init_178 : decode cX9_init 178 = .ok (.putfield 74, 3) := by decide +kernel
theorem dX9_init_181 : decode cX9_init 181 = .ok (.aload_n 0, 1) := by decide +kernel
theorem dX9_init_182 : decode cX9_init 182 = .ok (.bipush 60, 2) := by decide +kernel
theorem dX9_init_184 : decode cX9_init 184 = .ok (.newarray .int, 2) := by decide +kernel
theorem dX9_init_186 : decode cX9_init 186 = .ok (.putfield 77, 3) := by decide +kernel
theorem dX9_init_189 : decode cX9_init 189 = .ok (.aload_n 0, 1) := by decide +kernel
theorem dX9_init_190 : decode cX9_init 190 = .ok (.bipush 60, 2) := by decide +kernel
theorem dX9_init_192 : decode cX9_init 192 = .ok (.newarray .int, 2) := by decide +kernel
theorem dX9_init_194 : decode cX9_init 194 = .ok (.putfield 80, 3) := by decide +kernel
theorem dX9_init_197 : decode cX9_init 197 = .ok (.aload_n 0, 1) := by decide +kernel
theorem dX9_init_198 : decode cX9_init 198 = .ok (.bipush 60, 2) := by decide +kernel
theorem dX9_init_200 : decode cX9_init 200 = .ok (.newarray .int, 2) := by decide +kernel
theorem dX9_init_202 : decode cX9_init 202 = .ok (.putfield 83, 3) := by decide +kernel
theorem dX9_init_205 : decode cX9_init 205 = .ok (.aload_n 0, 1) := by decide +kernel
theorem dX9_init_206 : decode cX9_init 206 = .ok (.bipush 60, 2) := by decide +kernel
theorem dX9_init_208 : decode cX9_init 208 = .ok (.newarray .int, 2) := by decide +kernel
theorem dX9_init_210 : decode cX9_init 210 = .ok (.putfield 86, 3) := by decide +kernel
theorem dX9_init_213 : decode cX9_init 213 = .ok (.aload_n 0, 1) := by decide +kernel
theorem dX9_init_214 : decode cX9_init 214 = .ok (.bipush 60, 2) := by decide +kernel
theorem dX9_init_216 : decode cX9_init 216 = .ok (.newarray .int, 2) := by decide +kernel
theorem dX9_init_218 : decode cX9_init 218 = .ok (.putfield 89, 3) := by decide +kernel
theorem dX9_init_221 : decode cX9_init 221 = .ok (.aload_n 0, 1) := by decide +kernel
theorem dX9_init_222 : decode cX9_init 222 = .ok (.bipush 60, 2) := by decide +kernel
theorem dX9_init_224 : decode cX9_init 224 = .ok (.newarray .int, 2) := by decide +kernel
theorem dX9_init_226 : decode cX9_init 226 = .ok (.putfield 92, 3) := by decide +kernel
theorem dX9_init_229 : decode cX9_init 229 = .ok (.aload_n 0, 1) := by decide +kernel
theorem dX9_init_230 : decode cX9_init 230 = .ok (.bipush 60, 2) := by decide +kernel
theorem dX9_init_232 : decode cX9_init 232 = .ok (.newarray .int, 2) := by decide +kernel
theorem dX9_init_234 : decode cX9_init 234 = .ok (.putfield 95, 3) := by decide +kernel
theorem dX9_init_237 : decode cX9_init 237 = .ok (.aload_n 0, 1) := by decide +kernel
theorem dX9_init_238 : decode cX9_init 238 = .ok (.bipush 60, 2) := by decide +kernel
theorem dX9_init_240 : decode cX9_init 240 = .ok (.newarray .int, 2) := by decide +kernel
theorem dX9_init_242 : decode cX9_init 242 = .ok (.putfield 98, 3) := by decide +kernel
theorem dX9_init_245 : decode cX9_init 245 = .ok (.aload_n 0, 1) := by decide +kernel
theorem dX9_init_246 : decode cX9_init 246 = .ok (.bipush 60, 2) := by decide +kernel
theorem dX9_init_248 : decode cX9_init 248 = .ok (.newarray .int, 2) := by decide +kernel
theorem dX9_init_250 : decode cX9_init 250 = .ok (.putfield 101, 3) := by decide +kernel
theorem dX9_init_253 : decode cX9_init 253 = .ok (.aload_n 0, 1) := by decide +kernel
theorem dX9_init_254 : decode cX9_init 254 = .ok (.bipush 60, 2) := by decide +kernel
theorem dX9_init_256 : decode cX9_init 256 = .ok (.newarray .int, 2) := by decide +kernel
theorem dX9_init_258 : decode cX9_init 258 = .ok (.putfield 104, 3) := by decide +kernel
theorem dX9_init_261 : decode cX9_init 261 = .ok (.aload_n 0, 1) := by decide +kernel
theorem dX9_init_262 : decode cX9_init 262 = .ok (.sipush 2400, 3) := by decide +kernel
theorem dX9_init_265 : decode cX9_init 265 = .ok (.newarray .int, 2) := by decide +kernel
theorem dX9_init_267 : decode cX9_init 267 = .ok (.putfield 107, 3) := by decide +kernel
theorem dX9_init_270 : decode cX9_init 270 = .ok (.aload_n 0, 1) := by decide +kernel
theorem dX9_init_271 : decode cX9_init 271 = .ok (.bipush 60, 2) := by decide +kernel
theorem dX9_init_273 : decode cX9_init 273 = .ok (.newarray .boolean, 2) := by decide +kernel
theorem dX9_init_275 : decode cX9_init 275 = .ok (.putfield 110, 3) := by decide +kernel
theorem dX9_init_278 : decode cX9_init 278 = .ok (.aload_n 0, 1) := by decide +kernel
theorem dX9_init_279 : decode cX9_init 279 = .ok (.bipush 60, 2) := by decide +kernel
theorem dX9_init_281 : decode cX9_init 281 = .ok (.newarray .boolean, 2) := by decide +kernel
theorem dX9_init_283 : decode cX9_init 283 = .ok (.putfield 113, 3) := by decide +kernel
theorem dX9_init_286 : decode cX9_init 286 = .ok (.aload_n 0, 1) := by decide +kernel
theorem dX9_init_287 : decode cX9_init 287 = .ok (.bipush 72, 2) := by decide +kernel
theorem dX9_init_289 : decode cX9_init 289 = .ok (.putfield 116, 3) := by decide +kernel
theorem dX9_init_292 : decode cX9_init 292 = .ok (.aload_n 0, 1) := by decide +kernel
theorem dX9_init_293 : decode cX9_init 293 = .ok (.bipush 60, 2) := by decide +kernel
theorem dX9_init_295 : decode cX9_init 295 = .ok (.newarray .int, 2) := by decide +kernel
theorem dX9_init_297 : decode cX9_init 297 = .ok (.putfield 120, 3) := by decide +kernel
theorem dX9_init_300 : decode cX9_init 300 = .ok (.aload_n 0, 1) := by decide +kernel
theorem dX9_init_301 : decode cX9_init 301 = .ok (.sipush 1800, 3) := by decide +kernel
theorem dX9_init_304 : decode cX9_init 304 = .ok (.newarray .int, 2) := by decide +kernel
theorem dX9_init_306 : decode cX9_init 306 = .ok (.putfield 123, 3) := by decide +kernel
theorem dX9_init_309 : decode cX9_init 309 = .ok (.aload_n 0, 1) := by decide +kernel
theorem dX9_init_310 : decode cX9_init 310 = .ok (.bipush 30, 2) := by decide +kernel
theorem dX9_init_312 : decode cX9_init 312 = .ok (.newarray .int, 2) := by decide +kernel
theorem dX9_init_314 : decode cX9_init 314 = .ok (.putfield 126, 3) := by decide +kernel
theorem dX9_init_317 : decode cX9_init 317 = .ok (.aload_n 0, 1) := by decide +kernel
theorem dX9_init_318 : decode cX9_init 318 = .ok (.bipush 30, 2) := by decide +kernel
theorem dX9_init_320 : decode cX9_init 320 = .ok (.newarray .int, 2) := by decide +kernel
theorem dX9_init_322 : decode cX9_init 322 = .ok (.putfield 129, 3) := by decide +kernel
theorem dX9_init_325 : decode cX9_init 325 = .ok (.aload_n 0, 1) := by decide +kernel
theorem dX9_init_326 : decode cX9_init 326 = .ok (.bipush 30, 2) := by decide +kernel
theorem dX9_init_328 : decode cX9_init 328 = .ok (.newarray .int, 2) := by decide +kernel
theorem dX9_init_330 : decode cX9_init 330 = .ok (.putfield 132, 3) := by decide +kernel
theorem dX9_init_333 : decode cX9_init 333 = .ok (.aload_n 0, 1) := by decide +kernel
theorem dX9_init_334 : decode cX9_init 334 = .ok (.bipush 8, 2) := by decide +kernel
theorem dX9_init_336 : decode cX9_init 336 = .ok (.newarray .int, 2) := by decide +kernel
theorem dX9_init_338 : decode cX9_init 338 = .ok (.putfield 135, 3) := by decide +kernel
theorem dX9_init_341 : decode cX9_init 341 = .ok (.aload_n 0, 1) := by decide +kernel
theorem dX9_init_342 : decode cX9_init 342 = .ok (.sipush 128, 3) := by decide +kernel
theorem dX9_init_345 : decode cX9_init 345 = .ok (.newarray .int, 2) := by decide +kernel
theorem dX9_init_347 : decode cX9_init 347 = .ok (.putfield 138, 3) := by decide +kernel
theorem dX9_init_350 : decode cX9_init 350 = .ok (.aload_n 0, 1) := by decide +kernel
theorem dX9_init_351 : decode cX9_init 351 = .ok (.bipush 60, 2) := by decide +kernel
theorem dX9_init_353 : decode cX9_init 353 = .ok (.newarray .int, 2) := by decide +kernel
theorem dX9_init_355 : decode cX9_init 355 = .ok (.putfield 141, 3) := by decide +kernel
theorem dX9_init_358 : decode cX9_init 358 = .ok (.aload_n 0, 1) := by decide +kernel
theorem dX9_init_359 : decode cX9_init 359 = .ok (.bipush 60, 2) := by decide +kernel
theorem dX9_init_361 : decode cX9_init 361 = .ok (.newarray .int, 2) := by decide +kernel
theorem dX9_init_363 : decode cX9_init 363 = .ok (.putfield 144, 3) := by decide +kernel
theorem dX9_init_366 : decode cX9_init 366 = .ok (.aload_n 0, 1) := by decide +kernel
theorem dX9_init_367 : decode cX9_init 367 = .ok (.bipush 60, 2) := by decide +kernel
theorem dX9_init_369 : decode cX9_init 369 = .ok (.newarray .boolean, 2) := by decide +kernel
theorem dX9_init_371 : decode cX9_init 371 = .ok (.putfield 147, 3) := by decide +kernel
theorem dX9_init_374 : decode cX9_init 374 = .ok (.aload_n 0, 1) := by decide +kernel
theorem dX9_init_375 : decode cX9_init 375 = .ok (.bipush 60, 2) := by decide +kernel
theorem dX9_init_377 : decode cX9_init 377 = .ok (.newarray .int, 2) := by decide +kernel
theorem dX9_init_379 : decode cX9_init 379 = .ok (.putfield 150, 3) := by decide +kernel
theorem dX9_init_382 : decode cX9_init 382 = .ok (.aload_n 0, 1) := by decide +kernel
theorem dX9_init_383 : decode cX9_init 383 = .ok (.bipush 60, 2) := by decide +kernel
theorem dX9_init_385 : decode cX9_init 385 = .ok (.newarray .int, 2) := by decide +kernel
theorem dX9_init_387 : decode cX9_init 387 = .ok (.putfield 153, 3) := by decide +kernel
theorem dX9_init_390 : decode cX9_init 390 = .ok (.aload_n 0, 1) := by decide +kernel
theorem dX9_init_391 : decode cX9_init 391 = .ok (.bipush 60, 2) := by decide +kernel
theorem dX9_init_393 : decode cX9_init 393 = .ok (.newarray .int, 2) := by decide +kernel
theorem dX9_init_395 : decode cX9_init 395 = .ok (.putfield 156, 3) := by decide +kernel
theorem dX9_init_398 : decode cX9_init 398 = .ok (.aload_n 0, 1) := by decide +kernel
theorem dX9_init_399 : decode cX9_init 399 = .ok (.bipush 60, 2) := by decide +kernel
theorem dX9_init_401 : decode cX9_init 401 = .ok (.newarray .int, 2) := by decide +kernel
theorem dX9_init_403 : decode cX9_init 403 = .ok (.putfield 159, 3) := by decide +kernel
theorem dX9_init_406 : decode cX9_init 406 = .ok (.aload_n 0, 1) := by decide +kernel
theorem dX9_init_407 : decode cX9_init 407 = .ok (.bipush 60, 2) := by decide +kernel
theorem dX9_init_409 : decode cX9_init 409 = .ok (.newarray .int, 2) := by decide +kernel
theorem dX9_init_411 : decode cX9_init 411 = .ok (.putfield 162, 3) := by decide +kernel
theorem dX9_init_414 : decode cX9_init 414 = .ok (.aload_n 0, 1) := by decide +kernel
theorem dX9_init_415 : decode cX9_init 415 = .ok (.bipush 60, 2) := by decide +kernel
theorem dX9_init_417 : decode cX9_init 417 = .ok (.newarray .boolean, 2) := by decide +kernel
theorem dX9_init_419 : decode cX9_init 419 = .ok (.putfield 165, 3) := by decide +kernel
theorem dX9_init_422 : decode cX9_init 422 = .ok (.aload_n 0, 1) := by decide +kernel
theorem dX9_init_423 : decode cX9_init 423 = .ok (.bipush 60, 2) := by decide +kernel
theorem dX9_init_425 : decode cX9_init 425 = .ok (.newarray .boolean, 2) := by decide +kernel
theorem dX9_init_427 : decode cX9_init 427 = .ok (.putfield 168, 3) := by decide +kernel
theorem dX9_init_430 : decode cX9_init 430 = .ok (.aload_n 0, 1) := by decide +kernel
theorem dX9_init_431 : decode cX9_init 431 = .ok (.bipush 7, 2) := by decide +kernel
theorem dX9_init_433 : decode cX9_init 433 = .ok (.newarray .int, 2) := by decide +kernel
theorem dX9_init_435 : decode cX9_init 435 = .ok (.putfield 171, 3) := by decide +kernel
theorem dX9_init_438 : decode cX9_init 438 = .ok (.aload_n 0, 1) := by decide +kernel
theorem dX9_init_439 : decode cX9_init 439 = .ok (.bipush 7, 2) := by decide +kernel
theorem dX9_init_441 : decode cX9_init 441 = .ok (.newarray .int, 2) := by decide +kernel
theorem dX9_init_443 : decode cX9_init 443 = .ok (.putfield 174, 3) := by decide +kernel
theorem dX9_init_446 : decode cX9_init 446 = .ok (.aload_n 0, 1) := by decide +kernel
theorem dX9_init_447 : decode cX9_init 447 = .ok (.bipush 7, 2) := by decide +kernel
theorem dX9_init_449 : decode cX9_init 449 = .ok (.newarray .int, 2) := by decide +kernel
theorem dX9_init_451 : decode cX9_init 451 = .ok (.putfield 177, 3) := by decide +kernel
theorem dX9_init_454 : decode cX9_init 454 = .ok (.aload_n 0, 1) := by decide +kernel
theorem dX9_init_455 : decode cX9_init 455 = .ok (.bipush 12, 2) := by decide +kernel
theorem dX9_init_457 : decode cX9_init 457 = .ok (.newarray .int, 2) := by decide +kernel
theorem dX9_init_459 : decode cX9_init 459 = .ok (.putfield 180, 3) := by decide +kernel
theorem dX9_init_462 : decode cX9_init 462 = .ok (.return_, 1) := by decide +kernel
theorem dX9_no_0 : decode cX9_no 0 = .ok (.aload_n 0, 1) := by decide +kernel
theorem dX9_no_1 : decode cX9_no 1 = .ok (.getfield 7, 3) := by decide +kernel
end
section
theorem dX9_no_4 : decode cX9_no 4 = .ok (.iload_n 1, 1) := by decide +kernel
theorem dX9_no_5 : decode cX9_no 5 = .ok (.ineg, 1) := by decide +kernel
theorem dX9_no_6 : decode cX9_no 6 = .ok (.dup2, 1) := by decide +kernel
theorem dX9_no_7 : decode cX9_no 7 = .ok (.iaload, 1) := by decide +kernel
theorem dX9_no_8 : decode cX9_no 8 = .ok (.iconst 1, 1) := by decide +kernel
theorem dX9_no_9 : decode cX9_no 9 = .ok (.iadd, 1) := by decide +kernel
theorem dX9_no_10 : decode cX9_no 10 = .ok (.iastore, 1) := by decide +kernel
theorem dX9_no_11 : decode cX9_no 11 = .ok (.iload_n 1, 1) := by decide +kernel
theorem dX9_no_12 : decode cX9_no 12 = .ok (.ireturn, 1) := by decide +kernel
theorem dX9_isIn_0 : decode cX9_isIn 0 = .ok (.lload_n 0, 1) := by decide +kernel
theorem dX9_isIn_1 : decode cX9_isIn 1 = .ok (.lload_n 2, 1) := by decide +kernel
theorem dX9_isIn_2 : decode cX9_isIn 2 = .ok (.lcmp, 1) := by decide +kernel
theorem dX9_isIn_3 : decode cX9_isIn 3 = .ok (.ifCond .lt 14, 3) := by decide +kernel
theorem dX9_isIn_6 : decode cX9_isIn 6 = .ok (.lload_n 0, 1) := by decide +kernel
theorem dX9_isIn_7 : decode cX9_isIn 7 = .ok (.lload 4, 2) := by decide +kernel
theorem dX9_isIn_9 : decode cX9_isIn 9 = .ok (.lcmp, 1) := by decide +kernel
theorem dX9_isIn_10 : decode cX9_isIn 10 = .ok (.ifCond .gt 7, 3) := by decide +kernel
theorem dX9_isIn_13 : decode cX9_isIn 13 = .ok (.iconst 1, 1) := by decide +kernel
theorem dX9_isIn_14 : decode cX9_isIn 14 = .ok (.goto 4, 3) := by decide +kernel
theorem dX9_isIn_17 : decode cX9_isIn 17 = .ok (.iconst 0, 1) := by decide +kernel
theorem dX9_isIn_18 : decode cX9_isIn 18 = .ok (.ireturn, 1) := by decide +kernel
theorem dX9_out_0 : decode cX9_out 0 = .ok (.lload_n 0, 1) := by decide +kernel
theorem dX9_out_1 : decode cX9_out 1 = .ok (.lload_n 2, 1) := by decide +kernel
theorem dX9_out_2 : decode cX9_out 2 = .ok (.lcmp, 1) := by decide +kernel
theorem dX9_out_3 : decode cX9_out 3 = .ok (.ifCond .ge 8, 3) := by decide +kernel
theorem dX9_out_6 : decode cX9_out 6 = .ok (.bipush (-4), 2) := by decide +kernel
theorem dX9_out_8 : decode cX9_out 8 = .ok (.goto 16, 3) := by decide +kernel
theorem dX9_out_11 : decode cX9_out 11 = .ok (.lload_n 0, 1) := by decide +kernel
theorem dX9_out_12 : decode cX9_out 12 = .ok (.lload 4, 2) := by decide +kernel
theorem dX9_out_14 : decode cX9_out 14 = .ok (.lcmp, 1) := by decide +kernel
theorem dX9_out_15 : decode cX9_out 15 = .ok (.ifCond .le 8, 3) := by decide +kernel
theorem dX9_out_18 : decode cX9_out 18 = .ok (.bipush (-6), 2) := by decide +kernel
theorem dX9_out_20 : decode cX9_out 20 = .ok (.goto 4, 3) := by decide +kernel
theorem dX9_out_23 : decode cX9_out 23 = .ok (.iconst 0, 1) := by decide +kernel
theorem dX9_out_24 : decode cX9_out 24 = .ok (.ireturn, 1) := by decide +kernel
theorem dX9_isOffice_0 : decode cX9_isOffice 0 = .ok (.iload_n 1, 1) := by decide +kernel
theorem dX9_isOffice_1 : decode cX9_isOffice 1 = .ok (.ifCond .lt 15, 3) := by decide +kernel
theorem dX9_isOffice_4 : decode cX9_isOffice 4 = .ok (.iload_n 1, 1) := by decide +kernel
theorem dX9_isOffice_5 : decode cX9_isOffice 5 = .ok (.aload_n 0, 1) := by decide +kernel
theorem dX9_isOffice_6 : decode cX9_isOffice 6 = .ok (.getfield 183, 3) := by decide +kernel
theorem dX9_isOffice_9 : decode cX9_isOffice 9 = .ok (.if_icmp .ge 7, 3) := by decide +kernel
theorem dX9_isOffice_12 : decode cX9_isOffice 12 = .ok (.iconst 1, 1) := by decide +kernel
theorem dX9_isOffice_13 : decode cX9_isOffice 13 = .ok (.goto 4, 3) := by decide +kernel
theorem dX9_isOffice_16 : decode cX9_isOffice 16 = .ok (.iconst 0, 1) := by decide +kernel
theorem dX9_isOffice_17 : decode cX9_isOffice 17 = .ok (.ireturn, 1) := by decide +kernel
theorem dX9_office_0 : decode cX9_office 0 = .ok (.iload_n 1, 1) := by decide +kernel
theorem dX9_office_1 : decode cX9_office 1 = .ok (.i2l, 1) := by decide +kernel
theorem dX9_office_2 : decode cX9_office 2 = .ok (.lconst 0, 1) := by decide +kernel
theorem dX9_office_3 : decode cX9_office 3 = .ok (.ldc2_w 186, 3) := by decide +kernel
theorem dX9_office_6 : decode cX9_office 6 = .ok (.invokestatic 188, 3) := by decide +kernel
theorem dX9_office_9 : decode cX9_office 9 = .ok (.istore_n 3, 1) := by decide +kernel
theorem dX9_office_10 : decode cX9_office 10 = .ok (.iload_n 3, 1) := by decide +kernel
theorem dX9_office_11 : decode cX9_office 11 = .ok (.ifCond .ne 15, 3) := by decide +kernel
theorem dX9_office_14 : decode cX9_office 14 = .ok (.aload_n 0, 1) := by decide +kernel
theorem dX9_office_15 : decode cX9_office 15 = .ok (.getfield 183, 3) := by decide +kernel
theorem dX9_office_18 : decode cX9_office 18 = .ok (.bipush 12, 2) := by decide +kernel
theorem dX9_office_20 : decode cX9_office 20 = .ok (.if_icmp .ne 6, 3) := by decide +kernel
theorem dX9_office_23 : decode cX9_office 23 = .ok (.bipush (-6), 2) := by decide +kernel
theorem dX9_office_25 : decode cX9_office 25 = .ok (.istore_n 3, 1) := by decide +kernel
theorem dX9_office_26 : decode cX9_office 26 = .ok (.iload_n 3, 1) := by decide +kernel
theorem dX9_office_27 : decode cX9_office 27 = .ok (.ifCond .eq 9, 3) := by decide +kernel
theorem dX9_office_30 : decode cX9_office 30 = .ok (.aload_n 0, 1) := by decide +kernel
theorem dX9_office_31 : decode cX9_office 31 = .ok (.iload_n 3, 1) := by decide +kernel
theorem dX9_office_32 : decode cX9_office 32 = .ok (.invokevirtual 192, 3) := by decide +kernel
theorem dX9_office_35 : decode cX9_office 35 = .ok (.ireturn, 1) := by decide +kernel
theorem dX9_office_36 : decode cX9_office 36 = .ok (.aload_n 0, 1) := by decide +kernel
theorem dX9_office_37 : decode cX9_office 37 = .ok (.getfield 13, 3) := by decide +kernel
theorem dX9_office_40 : decode cX9_office 40 = .ok (.aload_n 0, 1) := by decide +kernel
theorem dX9_office_41 : decode cX9_office 41 = .ok (.getfield 183, 3) := by decide +kernel
theorem dX9_office_44 : decode cX9_office 44 = .ok (.iload_n 1, 1) := by decide +kernel
theorem dX9_office_45 : decode cX9_office 45 = .ok (.iastore, 1) := by decide +kernel
theorem dX9_office_46 : decode cX9_office 46 = .ok (.aload_n 0, 1) := by decide +kernel
theorem dX9_office_47 : decode cX9_office 47 = .ok (.getfield 43, 3) := by decide +kernel
theorem dX9_office_50 : decode cX9_office 50 = .ok (.aload_n 0, 1) := by decide +kernel
theorem dX9_office_51 : decode cX9_office 51 = .ok (.getfield 183, 3) := by decide +kernel
theorem dX9_office_54 : decode cX9_office 54 = .ok (.iload_n 2, 1) := by decide +kernel
theorem dX9_office_55 : decode cX9_office 55 = .ok (.bastore, 1) := by decide +kernel
theorem dX9_office_56 : decode cX9_office 56 = .ok (.aload_n 0, 1) := by decide +kernel
theorem dX9_office_57 : decode cX9_office 57 = .ok (.dup, 1) := by decide +kernel
theorem dX9_office_58 : decode cX9_office 58 = .ok (.getfield 183, 3) := by decide +kernel
theorem dX9_office_61 : decode cX9_office 61 = .ok (.iconst 1, 1) := by decide +kernel
theorem dX9_office_62 : decode cX9_office 62 = .ok (.iadd, 1) := by decide +kernel
theorem dX9_office_63 : decode cX9_office 63 = .ok (.putfield 183, 3) := by decide +kernel
theorem dX9_office_66 : decode cX9_office 66 = .ok (.aload_n 0, 1) := by decide +kernel
theorem dX9_office_67 : decode cX9_office 67 = .ok (.getfield 183, 3) := by decide +kernel
theorem dX9_office_70 : decode cX9_office 70 = .ok (.iconst 1, 1) := by decide +kernel
theorem dX9_office_71 : decode cX9_office 71 = .ok (.isub, 1) := by decide +kernel
theorem dX9_office_72 : decode cX9_office 72 = .ok (.ireturn, 1) := by decide +kernel
theorem dX9_staff_0 : decode cX9_staff 0 = .ok (.aload_n 0, 1) := by decide +kernel
theorem dX9_staff_1 : decode cX9_staff 1 = .ok (.iload_n 1, 1) := by decide +kernel
theorem dX9_staff_2 : decode cX9_staff 2 = .ok (.invokevirtual 196, 3) := by decide +kernel
theorem dX9_staff_5 : decode cX9_staff 5 = .ok (.ifCond .ne 9, 3) := by decide +kernel
theorem dX9_staff_8 : decode cX9_staff 8 = .ok (.aload_n 0, 1) := by decide +kernel
theorem dX9_staff_9 : decode cX9_staff 9 = .ok (.iconst (-1), 1) := by decide +kernel
theorem dX9_staff_10 : decode cX9_staff 10 = .ok (.invokevirtual 192, 3) := by decide +kernel
theorem dX9_staff_13 : decode cX9_staff 13 = .ok (.ireturn, 1) := by decide +kernel
theorem dX9_staff_14 : decode cX9_staff 14 = .ok (.iload_n 2, 1) := by decide +kernel
theorem dX9_staff_15 : decode cX9_staff 15 = .ok (.i2l, 1) := by decide +kernel
theorem dX9_staff_16 : decode cX9_staff 16 = .ok (.lconst 0, 1) := by decide +kernel
theorem dX9_staff_17 : decode cX9_staff 17 = .ok (.ldc2_w 186, 3) := by decide +kernel
theorem dX9_staff_20 : decode cX9_staff 20 = .ok (.invokestatic 188, 3) := by decide +kernel
theorem dX9_staff_23 : decode cX9_staff 23 = .ok (.istore 4, 2) := by decide +kernel
theorem dX9_staff_25 : decode cX9_staff 25 = .ok (.iload 4, 2) := by decide +kernel
theorem dX9_staff_27 : decode cX9_staff 27 = .ok (.ifCond .eq 10, 3) := by decide +kernel
theorem dX9_staff_30 : decode cX9_staff 30 = .ok (.aload_n 0, 1) := by decide +kernel
theorem dX9_staff_31 : decode cX9_staff 31 = .ok (.iload 4, 2) := by decide +kernel
theorem dX9_staff_33 : decode cX9_staff 33 = .ok (.invokevirtual 192, 3) := by decide +kernel
theorem dX9_staff_36 : decode cX9_staff 36 = .ok (.ireturn, 1) := by decide +kernel
theorem dX9_staff_37 : decode cX9_staff 37 = .ok (.aload_n 0, 1) := by decide +kernel
theorem dX9_staff_38 : decode cX9_staff 38 = .ok (.getfield 13, 3) := by decide +kernel
theorem dX9_staff_41 : decode cX9_staff 41 = .ok (.iload_n 1, 1) := by decide +kernel
theorem dX9_staff_42 : decode cX9_staff 42 = .ok (.iaload, 1) := by decide +kernel
theorem dX9_staff_43 : decode cX9_staff 43 = .ok (.istore 5, 2) := by decide +kernel
theorem dX9_staff_45 : decode cX9_staff 45 = .ok (.aload_n 0, 1) := by decide +kernel
theorem dX9_staff_46 : decode cX9_staff 46 = .ok (.getfield 13, 3) := by decide +kernel
theorem dX9_staff_49 : decode cX9_staff 49 = .ok (.iload_n 1, 1) := by decide +kernel
theorem dX9_staff_50 : decode cX9_staff 50 = .ok (.iload_n 2, 1) := by decide +kernel
theorem dX9_staff_51 : decode cX9_staff 51 = .ok (.iastore, 1) := by decide +kernel
theorem dX9_staff_52 : decode cX9_staff 52 = .ok (.aload_n 0, 1) := by decide +kernel
theorem dX9_staff_53 : decode cX9_staff 53 = .ok (.getfield 43, 3) := by decide +kernel
theorem dX9_staff_56 : decode cX9_staff 56 = .ok (.iload_n 1, 1) := by decide +kernel
theorem dX9_staff_57 : decode cX9_staff 57 = .ok (.iload_n 3, 1) := by decide +kernel
theorem dX9_staff_58 : decode cX9_staff 58 = .ok (.bastore, 1) := by decide +kernel
theorem dX9_staff_59 : decode cX9_staff 59 = .ok (.iload 5, 2) := by decide +kernel
theorem dX9_staff_61 : decode cX9_staff 61 = .ok (.ireturn, 1) := by decide +kernel
theorem dX9_way_0 : decode cX9_way 0 = .ok (.aload_n 0, 1) := by decide +kernel
theorem dX9_way_1 : decode cX9_way 1 = .ok (.iload_n 1, 1) := by decide +kernel
theorem dX9_way_2 : decode cX9_way 2 = .ok (.invokevirtual 196, 3) := by decide +kernel
theorem dX9_way_5 : decode cX9_way 5 = .ok (.ifCond .eq 16, 3) := by decide +kernel
theorem dX9_way_8 : decode cX9_way 8 = .ok (.aload_n 0, 1) := by decide +kernel
theorem dX9_way_9 : decode cX9_way 9 = .ok (.iload_n 2, 1) := by decide +kernel
theorem dX9_way_10 : decode cX9_way 10 = .ok (.invokevirtual 196, 3) := by decide +kernel
theorem dX9_way_13 : decode cX9_way 13 = .ok (.ifCond .eq 8, 3) := by decide +kernel
theorem dX9_way_16 : decode cX9_way 16 = .ok (.iload_n 1, 1) := by decide +kernel
theorem dX9_way_17 : decode cX9_way 17 = .ok (.iload_n 2, 1) := by decide +kernel
theorem dX9_way_18 : decode cX9_way 18 = .ok (.if_icmp .ne 9, 3) := by decide +kernel
theorem dX9_way_21 : decode cX9_way 21 = .ok (.aload_n 0, 1) := by decide +kernel
theorem dX9_way_22 : decode cX9_way 22 = .ok (.iconst (-1), 1) := by decide +kernel
theorem dX9_way_23 : decode cX9_way 23 = .ok (.invokevirtual 192, 3) := by decide +kernel
theorem dX9_way_26 : decode cX9_way 26 = .ok (.ireturn, 1) := by decide +kernel
theorem dX9_way_27 : decode cX9_way 27 = .ok (.iload_n 3, 1) := by decide +kernel
theorem dX9_way_28 : decode cX9_way 28 = .ok (.iconst 1, 1) := by decide +kernel
theorem dX9_way_29 : decode cX9_way 29 = .ok (.if_icmp .lt 14, 3) := by decide +kernel
theorem dX9_way_32 : decode cX9_way 32 = .ok (.iload 4, 2) := by decide +kernel
theorem dX9_way_34 : decode cX9_way 34 = .ok (.ifCond .lt 9, 3) := by decide +kernel
theorem dX9_way_37 : decode cX9_way 37 = .ok (.iload 5, 2) := by decide +kernel
theorem dX9_way_39 : decode cX9_way 39 = .ok (.iconst 1, 1) := by decide +kernel
theorem dX9_way_40 : decode cX9_way 40 = .ok (.if_icmp .ge 8, 3) := by decide +kernel
theorem dX9_way_43 : decode cX9_way 43 = .ok (.bipush (-4), 2) := by decide +kernel
theorem dX9_way_45 : decode cX9_way 45 = .ok (.goto 39, 3) := by decide +kernel
theorem dX9_way_48 : decode cX9_way 48 = .ok (.iload_n 3, 1) := by decide +kernel
theorem dX9_way_49 : decode cX9_way 49 = .ok (.bipush 48, 2) := by decide +kernel
theorem dX9_way_51 : decode cX9_way 51 = .ok (.if_icmp .gt 27, 3) := by decide +kernel
theorem dX9_way_54 : decode cX9_way 54 = .ok (.iload 4, 2) := by decide +kernel
theorem dX9_way_56 : decode cX9_way 56 = .ok (.sipush 2000, 3) := by decide +kernel
theorem dX9_way_59 : decode cX9_way 59 = .ok (.if_icmp .gt 19, 3) := by decide +kernel
theorem dX9_way_62 : decode cX9_way 62 = .ok (.iload 5, 2) := by decide +kernel
theorem dX9_way_64 : decode cX9_way 64 = .ok (.bipush 48, 2) := by decide +kernel
theorem dX9_way_66 : decode cX9_way 66 = .ok (.if_icmp .gt 12, 3) := by decide +kernel
theorem dX9_way_69 : decode cX9_way 69 = .ok (.aload_n 0, 1) := by decide +kernel
theorem dX9_way_70 : decode cX9_way 70 = .ok (.getfield 200, 3) := by decide +kernel
theorem dX9_way_73 : decode cX9_way 73 = .ok (.bipush 24, 2) := by decide +kernel
theorem dX9_way_75 : decode cX9_way 75 = .ok (.if_icmp .ne 8, 3) := by decide +kernel
theorem dX9_way_78 : decode cX9_way 78 = .ok (.bipush (-6), 2) := by decide +kernel
theorem dX9_way_80 : decode cX9_way 80 = .ok (.goto 4, 3) := by decide +kernel
theorem dX9_way_83 : decode cX9_way 83 = .ok (.iconst 0, 1) := by decide +kernel
theorem dX9_way_84 : decode cX9_way 84 = .ok (.istore 6, 2) := by decide +kernel
theorem dX9_way_86 : decode cX9_way 86 = .ok (.iload 6, 2) := by decide +kernel
theorem dX9_way_88 : decode cX9_way 88 = .ok (.ifCond .eq 10, 3) := by decide +kernel
theorem dX9_way_91 : decode cX9_way 91 = .ok (.aload_n 0, 1) := by decide +kernel
theorem dX9_way_92 : decode cX9_way 92 = .ok (.iload 6, 2) := by decide +kernel
theorem dX9_way_94 : decode cX9_way 94 = .ok (.invokevirtual 192, 3) := by decide +kernel
theorem dX9_way_97 : decode cX9_way 97 = .ok (.ireturn, 1) := by decide +kernel
theorem dX9_way_98 : decode cX9_way 98 = .ok (.aload_n 0, 1) := by decide +kernel
theorem dX9_way_99 : decode cX9_way 99 = .ok (.getfield 16, 3) := by decide +kernel
theorem dX9_way_102 : decode cX9_way 102 = .ok (.aload_n 0, 1) := by decide +kernel
theorem dX9_way_103 : decode cX9_way 103 = .ok (.getfield 200, 3) := by decide +kernel
theorem dX9_way_106 : decode cX9_way 106 = .ok (.iload_n 1, 1) := by decide +kernel
theorem dX9_way_107 : decode cX9_way 107 = .ok (.iastore, 1) := by decide +kernel
theorem dX9_way_108 : decode cX9_way 108 = .ok (.aload_n 0, 1) := by decide +kernel
theorem dX9_way_109 : decode cX9_way 109 = .ok (.getfield 19, 3) := by decide +kernel
theorem dX9_way_112 : decode cX9_way 112 = .ok (.aload_n 0, 1) := by decide +kernel
theorem dX9_way_113 : decode cX9_way 113 = .ok (.getfield 200, 3) := by decide +kernel
theorem dX9_way_116 : decode cX9_way 116 = .ok (.iload_n 2, 1) := by decide +kernel
theorem dX9_way_117 : decode cX9_way 117 = .ok (.iastore, 1) := by decide +kernel
theorem dX9_way_118 : decode cX9_way 118 = .ok (.aload_n 0, 1) := by decide +kernel
theorem dX9_way_119 : decode cX9_way 119 = .ok (.getfield 22, 3) := by decide +kernel
theorem dX9_way_122 : decode cX9_way 122 = .ok (.aload_n 0, 1) := by decide +kernel
theorem dX9_way_123 : decode cX9_way 123 = .ok (.getfield 200, 3) := by decide +kernel
theorem dX9_way_126 : decode cX9_way 126 = .ok (.iload_n 3, 1) := by decide +kernel
theorem dX9_way_127 : decode cX9_way 127 = .ok (.iastore, 1) := by decide +kernel
theorem dX9_way_128 : decode cX9_way 128 = .ok (.aload_n 0, 1) := by decide +kernel
theorem dX9_way_129 : decode cX9_way 129 = .ok (.getfield 25, 3) := by decide +kernel
theorem dX9_way_132 : decode cX9_way 132 = .ok (.aload_n 0, 1) := by decide +kernel
theorem dX9_way_133 : decode cX9_way 133 = .ok (.getfield 200, 3) := by decide +kernel
theorem dX9_way_136 : decode cX9_way 136 = .ok (.iload 4, 2) := by decide +kernel
theorem dX9_way_138 : decode cX9_way 138 = .ok (.iastore, 1) := by decide +kernel
theorem dX9_way_139 : decode cX9_way 139 = .ok (.aload_n 0, 1) := by decide +kernel
theorem dX9_way_140 : decode cX9_way 140 = .ok (.getfield 28, 3) := by decide +kernel
theorem dX9_way_143 : decode cX9_way 143 = .ok (.aload_n 0, 1) := by decide +kernel
theorem dX9_way_144 : decode cX9_way 144 = .ok (.getfield 200, 3) := by decide +kernel
theorem dX9_way_147 : decode cX9_way 147 = .ok (.iload 5, 2) := by decide +kernel
theorem dX9_way_149 : decode cX9_way 149 = .ok (.iastore, 1) := by decide +kernel
theorem dX9_way_150 : decode cX9_way 150 = .ok (.aload_n 0, 1) := by decide +kernel
theorem dX9_way_151 : decode cX9_way 151 = .ok (.dup, 1) := by decide +kernel
theorem dX9_way_152 : decode cX9_way 152 = .ok (.getfield 200, 3) := by decide +kernel
theorem dX9_way_155 : decode cX9_way 155 = .ok (.iconst 1, 1) := by decide +kernel
theorem dX9_way_156 : decode cX9_way 156 = .ok (.iadd, 1) := by decide +kernel
theorem dX9_way_157 : decode cX9_way 157 = .ok (.putfield 200, 3) := by decide +kernel
theorem dX9_way_160 : decode cX9_way 160 = .ok (.aload_n 0, 1) := by decide +kernel
theorem dX9_way_161 : decode cX9_way 161 = .ok (.getfield 200, 3) := by decide +kernel
theorem dX9_way_164 : decode cX9_way 164 = .ok (.iconst 1, 1) := by decide +kernel
theorem dX9_way_165 : decode cX9_way 165 = .ok (.isub, 1) := by decide +kernel
theorem dX9_way_166 : decode cX9_way 166 = .ok (.ireturn, 1) := by decide +kernel
theorem dX9_shut_0 : decode cX9_shut 0 = .ok (.iload_n 1, 1) := by decide +kernel
theorem dX9_shut_1 : decode cX9_shut 1 = .ok (.i2l, 1) := by decide +kernel
theorem dX9_shut_2 : decode cX9_shut 2 = .ok (.lconst 0, 1) := by decide +kernel
theorem dX9_shut_3 : decode cX9_shut 3 = .ok (.aload_n 0, 1) := by decide +kernel
theorem dX9_shut_4 : decode cX9_shut 4 = .ok (.getfield 200, 3) := by decide +kernel
theorem dX9_shut_7 : decode cX9_shut 7 = .ok (.iconst 1, 1) := by decide +kernel
theorem dX9_shut_8 : decode cX9_shut 8 = .ok (.isub, 1) := by decide +kernel
theorem dX9_shut_9 : decode cX9_shut 9 = .ok (.i2l, 1) := by decide +kernel
theorem dX9_shut_10 : decode cX9_shut 10 = .ok (.invokestatic 203, 3) := by decide +kernel
theorem dX9_shut_13 : decode cX9_shut 13 = .ok (.ifCond .ne 9, 3) := by decide +kernel
theorem dX9_shut_16 : decode cX9_shut 16 = .ok (.aload_n 0, 1) := by decide +kernel
theorem dX9_shut_17 : decode cX9_shut 17 = .ok (.iconst (-1), 1) := by decide +kernel
theorem dX9_shut_18 : decode cX9_shut 18 = .ok (.invokevirtual 192, 3) := by decide +kernel
theorem dX9_shut_21 : decode cX9_shut 21 = .ok (.ireturn, 1) := by decide +kernel
theorem dX9_shut_22 : decode cX9_shut 22 = .ok (.iload_n 2, 1) := by decide +kernel
theorem dX9_shut_23 : decode cX9_shut 23 = .ok (.aload_n 0, 1) := by decide +kernel
theorem dX9_shut_24 : decode cX9_shut 24 = .ok (.getfield 207, 3) := by decide +kernel
theorem dX9_shut_27 : decode cX9_shut 27 = .ok (.if_icmp .lt 8, 3) := by decide +kernel
theorem dX9_shut_30 : decode cX9_shut 30 = .ok (.iload_n 3, 1) := by decide +kernel
theorem dX9_shut_31 : decode cX9_shut 31 = .ok (.iload_n 2, 1) := by decide +kernel
theorem dX9_shut_32 : decode cX9_shut 32 = .ok (.if_icmp .ge 8, 3) := by decide +kernel
theorem dX9_shut_35 : decode cX9_shut 35 = .ok (.bipush (-4), 2) := by decide +kernel
theorem dX9_shut_37 : decode cX9_shut 37 = .ok (.goto 32, 3) := by decide +kernel
theorem dX9_shut_40 : decode cX9_shut 40 = .ok (.iload_n 2, 1) := by decide +kernel
theorem dX9_shut_41 : decode cX9_shut 41 = .ok (.sipush 2000, 3) := by decide +kernel
theorem dX9_shut_44 : decode cX9_shut 44 = .ok (.if_icmp .gt 19, 3) := by decide +kernel
theorem dX9_shut_47 : decode cX9_shut 47 = .ok (.iload_n 3, 1) := by decide +kernel
theorem dX9_shut_48 : decode cX9_shut 48 = .ok (.sipush 2000, 3) := by decide +kernel
theorem dX9_shut_51 : decode cX9_shut 51 = .ok (.if_icmp .gt 12, 3) := by decide +kernel
theorem dX9_shut_54 : decode cX9_shut 54 = .ok (.aload_n 0, 1) := by decide +kernel
theorem dX9_shut_55 : decode cX9_shut 55 = .ok (.getfield 210, 3) := by decide +kernel
theorem dX9_shut_58 : decode cX9_shut 58 = .ok (.bipush 40, 2) := by decide +kernel
theorem dX9_shut_60 : decode cX9_shut 60 = .ok (.if_icmp .ne 8, 3) := by decide +kernel
theorem dX9_shut_63 : decode cX9_shut 63 = .ok (.bipush (-6), 2) := by decide +kernel
theorem dX9_shut_65 : decode cX9_shut 65 = .ok (.goto 4, 3) := by decide +kernel
theorem dX9_shut_68 : decode cX9_shut 68 = .ok (.iconst 0, 1) := by decide +kernel
theorem dX9_shut_69 : decode cX9_shut 69 = .ok (.istore 4, 2) := by decide +kernel
theorem dX9_shut_71 : decode cX9_shut 71 = .ok (.iload 4, 2) := by decide +kernel
theorem dX9_shut_73 : decode cX9_shut 73 = .ok (.ifCond .eq 10, 3) := by decide +kernel
theorem dX9_shut_76 : decode cX9_shut 76 = .ok (.aload_n 0, 1) := by decide +kernel
theorem dX9_shut_77 : decode cX9_shut 77 = .ok (.iload 4, 2) := by decide +kernel
theorem dX9_shut_79 : decode cX9_shut 79 = .ok (.invokevirtual 192, 3) := by decide +kernel
theorem dX9_shut_82 : decode cX9_shut 82 = .ok (.ireturn, 1) := by decide +kernel
theorem dX9_shut_83 : decode cX9_shut 83 = .ok (.aload_n 0, 1) := by decide +kernel
theorem dX9_shut_84 : decode cX9_shut 84 = .ok (.getfield 31, 3) := by decide +kernel
theorem dX9_shut_87 : decode cX9_shut 87 = .ok (.aload_n 0, 1) := by decide +kernel
theorem dX9_shut_88 : decode cX9_shut 88 = .ok (.getfield 210, 3) := by decide +kernel
theorem dX9_shut_91 : decode cX9_shut 91 = .ok (.iload_n 1, 1) := by decide +kernel
theorem dX9_shut_92 : decode cX9_shut 92 = .ok (.iastore, 1) := by decide +kernel
theorem dX9_shut_93 : decode cX9_shut 93 = .ok (.aload_n 0, 1) := by decide +kernel
theorem dX9_shut_94 : decode cX9_shut 94 = .ok (.getfield 34, 3) := by decide +kernel
theorem dX9_shut_97 : decode cX9_shut 97 = .ok (.aload_n 0, 1) := by decide +kernel
theorem dX9_shut_98 : decode cX9_shut 98 = .ok (.getfield 210, 3) := by decide +kernel
theorem dX9_shut_101 : decode cX9_shut 101 = .ok (.iload_n 2, 1) := by decide +kernel
theorem dX9_shut_102 : decode cX9_shut 102 = .ok (.iastore, 1) := by decide +kernel
theorem dX9_shut_103 : decode cX9_shut 103 = .ok (.aload_n 0, 1) := by decide +kernel
theorem dX9_shut_104 : decode cX9_shut 104 = .ok (.getfield 37, 3) := by decide +kernel
theorem dX9_shut_107 : decode cX9_shut 107 = .ok (.aload_n 0, 1) := by decide +kernel
theorem dX9_shut_108 : decode cX9_shut 108 = .ok (.getfield 210, 3) := by decide +kernel
theorem dX9_shut_111 : decode cX9_shut 111 = .ok (.iload_n 3, 1) := by decide +kernel
theorem dX9_shut_112 : decode cX9_shut 112 = .ok (.iastore, 1) := by decide +kernel
theorem dX9_shut_113 : decode cX9_shut 113 = .ok (.aload_n 0, 1) := by decide +kernel
theorem dX9_shut_114 : decode cX9_shut 114 = .ok (.dup, 1) := by decide +kernel
theorem dX9_shut_115 : decode cX9_shut 115 = .ok (.getfield 210, 3) := by decide +kernel
theorem dX9_shut_118 : decode cX9_shut 118 = .ok (.iconst 1, 1) := by decide +kernel
theorem dX9_shut_119 : decode cX9_shut 119 = .ok (.iadd, 1) := by decide +kernel
theorem dX9_shut_120 : decode cX9_shut 120 = .ok (.putfield 210, 3) := by decide +kernel
theorem dX9_shut_123 : decode cX9_shut 123 = .ok (.aload_n 0, 1) := by decide +kernel
theorem dX9_shut_124 : decode cX9_shut 124 = .ok (.getfield 210, 3) := by decide +kernel
theorem dX9_shut_127 : decode cX9_shut 127 = .ok (.ireturn, 1) := by decide +kernel
theorem dX9_leaves_0 : decode cX9_leaves 0 = .ok (.iload_n 2, 1) := by decide +kernel
theorem dX9_leaves_1 : decode cX9_leaves 1 = .ok (.aload_n 0, 1) := by decide +kernel
theorem dX9_leaves_2 : decode cX9_leaves 2 = .ok (.getfield 25, 3) := by decide +kernel
theorem dX9_leaves_5 : decode cX9_leaves 5 = .ok (.iload_n 1, 1) := by decide +kernel
theorem dX9_leaves_6 : decode cX9_leaves 6 = .ok (.iaload, 1) := by decide +kernel
theorem dX9_leaves_7 : decode cX9_leaves 7 = .ok (.if_icmp .lt 21, 3) := by decide +kernel
theorem dX9_leaves_10 : decode cX9_leaves 10 = .ok (.iload_n 2, 1) := by decide +kernel
theorem dX9_leaves_11 : decode cX9_leaves 11 = .ok (.aload_n 0, 1) := by decide +kernel
theorem dX9_leaves_12 : decode cX9_leaves 12 = .ok (.getfield 25, 3) := by decide +kernel
theorem dX9_leaves_15 : decode cX9_leaves 15 = .ok (.iload_n 1, 1) := by decide +kernel
theorem dX9_leaves_16 : decode cX9_leaves 16 = .ok (.iaload, 1) := by decide +kernel
theorem dX9_leaves_17 : decode cX9_leaves 17 = .ok (.isub, 1) := by decide +kernel
theorem dX9_leaves_18 : decode cX9_leaves 18 = .ok (.aload_n 0, 1) := by decide +kernel
theorem dX9_leaves_19 : decode cX9_leaves 19 = .ok (.getfield 28, 3) := by decide +kernel
theorem dX9_leaves_22 : decode cX9_leaves 22 = .ok (.iload_n 1, 1) := by decide +kernel
theorem dX9_leaves_23 : decode cX9_leaves 23 = .ok (.iaload, 1) := by decide +kernel
theorem dX9_leaves_24 : decode cX9_leaves 24 = .ok (.irem, 1) := by decide +kernel
theorem dX9_leaves_25 : decode cX9_leaves 25 = .ok (.ifCond .eq 5, 3) := by decide +kernel
theorem dX9_leaves_28 : decode cX9_leaves 28 = .ok (.iconst 0, 1) := by decide +kernel
theorem dX9_leaves_29 : decode cX9_leaves 29 = .ok (.ireturn, 1) := by decide +kernel
theorem dX9_leaves_30 : decode cX9_leaves 30 = .ok (.iconst 0, 1) := by decide +kernel
theorem dX9_leaves_31 : decode cX9_leaves 31 = .ok (.istore_n 3, 1) := by decide +kernel
theorem dX9_leaves_32 : decode cX9_leaves 32 = .ok (.iload_n 3, 1) := by decide +kernel
theorem dX9_leaves_33 : decode cX9_leaves 33 = .ok (.aload_n 0, 1) := by decide +kernel
theorem dX9_leaves_34 : decode cX9_leaves 34 = .ok (.getfield 210, 3) := by decide +kernel
theorem dX9_leaves_37 : decode cX9_leaves 37 = .ok (.if_icmp .ge 43, 3) := by decide +kernel
theorem dX9_leaves_40 : decode cX9_leaves 40 = .ok (.aload_n 0, 1) := by decide +kernel
theorem dX9_leaves_41 : decode cX9_leaves 41 = .ok (.getfield 31, 3) := by decide +kernel
theorem dX9_leaves_44 : decode cX9_leaves 44 = .ok (.iload_n 3, 1) := by decide +kernel
theorem dX9_leaves_45 : decode cX9_leaves 45 = .ok (.iaload, 1) := by decide +kernel
theorem dX9_leaves_46 : decode cX9_leaves 46 = .ok (.iload_n 1, 1) := by decide +kernel
theorem dX9_leaves_47 : decode cX9_leaves 47 = .ok (.if_icmp .ne 27, 3) := by decide +kernel
theorem dX9_leaves_50 : decode cX9_leaves 50 = .ok (.iload_n 2, 1) := by decide +kernel
theorem dX9_leaves_51 : decode cX9_leaves 51 = .ok (.i2l, 1) := by decide +kernel
theorem dX9_leaves_52 : decode cX9_leaves 52 = .ok (.aload_n 0, 1) := by decide +kernel
theorem dX9_leaves_53 : decode cX9_leaves 53 = .ok (.getfield 34, 3) := by decide +kernel
theorem dX9_leaves_56 : decode cX9_leaves 56 = .ok (.iload_n 3, 1) := by decide +kernel
theorem dX9_leaves_57 : decode cX9_leaves 57 = .ok (.iaload, 1) := by decide +kernel
theorem dX9_leaves_58 : decode cX9_leaves 58 = .ok (.i2l, 1) := by decide +kernel
theorem dX9_leaves_59 : decode cX9_leaves 59 = .ok (.aload_n 0, 1) := by decide +kernel
theorem dX9_leaves_60 : decode cX9_leaves 60 = .ok (.getfield 37, 3) := by decide +kernel
theorem dX9_leaves_63 : decode cX9_leaves 63 = .ok (.iload_n 3, 1) := by decide +kernel
theorem dX9_leaves_64 : decode cX9_leaves 64 = .ok (.iaload, 1) := by decide +kernel
theorem dX9_leaves_65 : decode cX9_leaves 65 = .ok (.i2l, 1) := by decide +kernel
theorem dX9_leaves_66 : decode cX9_leaves 66 = .ok (.invokestatic 203, 3) := by decide +kernel
theorem dX9_leaves_69 : decode cX9_leaves 69 = .ok (.ifCond .eq 5, 3) := by decide +kernel
theorem dX9_leaves_72 : decode cX9_leaves 72 = .ok (.iconst 0, 1) := by decide +kernel
theorem dX9_leaves_73 : decode cX9_leaves 73 = .ok (.ireturn, 1) := by decide +kernel
theorem dX9_leaves_74 : decode cX9_leaves 74 = .ok (.iinc 3 1, 3) := by decide +kernel
theorem dX9_leaves_77 : decode cX9_leaves 77 = .ok (.goto (-45), 3) := by decide +kernel
theorem dX9_leaves_80 : decode cX9_leaves 80 = .ok (.iconst 1, 1) := by decide +kernel
theorem dX9_leaves_81 : decode cX9_leaves 81 = .ok (.ireturn, 1) := by decide +kernel
theorem dX9_findFar_0 : decode cX9_findFar 0 = .ok (.iconst 0, 1) := by decide +kernel
theorem dX9_findFar_1 : decode cX9_findFar 1 = .ok (.istore_n 1, 1) := by decide +kernel
theorem dX9_findFar_2 : decode cX9_findFar 2 = .ok (.iload_n 1, 1) := by decide +kernel
theorem dX9_findFar_3 : decode cX9_findFar 3 = .ok (.sipush 144, 3) := by decide +kernel
theorem dX9_findFar_6 : decode cX9_findFar 6 = .ok (.if_icmp .ge 28, 3) := by decide +kernel
theorem dX9_findFar_9 : decode cX9_findFar 9 = .ok (.aload_n 0, 1) := by decide +kernel
theorem dX9_findFar_10 : decode cX9_findFar 10 = .ok (.getfield 40, 3) := by decide +kernel
theorem dX9_findFar_13 : decode cX9_findFar 13 = .ok (.iload_n 1, 1) := by decide +kernel
theorem dX9_findFar_14 : decode cX9_findFar 14 = .ok (.iload_n 1, 1) := by decide +kernel
theorem dX9_findFar_15 : decode cX9_findFar 15 = .ok (.bipush 13, 2) := by decide +kernel
theorem dX9_findFar_17 : decode cX9_findFar 17 = .ok (.irem, 1) := by decide +kernel
theorem dX9_findFar_18 : decode cX9_findFar 18 = .ok (.ifCond .ne 7, 3) := by decide +kernel
theorem dX9_findFar_21 : decode cX9_findFar 21 = .ok (.iconst 0, 1) := by decide +kernel
theorem dX9_findFar_22 : decode cX9_findFar 22 = .ok (.goto 5, 3) := by decide +kernel
theorem dX9_findFar_25 : decode cX9_findFar 25 = .ok (.ldc 213, 2) := by decide +kernel
theorem dX9_findFar_27 : decode cX9_findFar 27 = .ok (.iastore, 1) := by decide +kernel
theorem dX9_findFar_28 : decode cX9_findFar 28 = .ok (.iinc 1 1, 3) := by decide +kernel
theorem dX9_findFar_31 : decode cX9_findFar 31 = .ok (.goto (-29), 3) := by decide +kernel
theorem dX9_findFar_34 : decode cX9_findFar 34 = .ok (.iconst 0, 1) := by decide +kernel
theorem dX9_findFar_35 : decode cX9_findFar 35 = .ok (.istore_n 1, 1) := by decide +kernel
theorem dX9_findFar_36 : decode cX9_findFar 36 = .ok (.iload_n 1, 1) := by decide +kernel
theorem dX9_findFar_37 : decode cX9_findFar 37 = .ok (.aload_n 0, 1) := by decide +kernel
theorem dX9_findFar_38 : decode cX9_findFar 38 = .ok (.getfield 183, 3) := by decide +kernel
theorem dX9_findFar_41 : decode cX9_findFar 41 = .ok (.if_icmp .ge 157, 3) := by decide +kernel
theorem dX9_findFar_44 : decode cX9_findFar 44 = .ok (.iconst 0, 1) := by decide +kernel
theorem dX9_findFar_45 : decode cX9_findFar 45 = .ok (.istore_n 2, 1) := by decide +kernel
theorem dX9_findFar_46 : decode cX9_findFar 46 = .ok (.iload_n 2, 1) := by decide +kernel
theorem dX9_findFar_47 : decode cX9_findFar 47 = .ok (.aload_n 0, 1) := by decide +kernel
theorem dX9_findFar_48 : decode cX9_findFar 48 = .ok (.getfield 200, 3) := by decide +kernel
theorem dX9_findFar_51 : decode cX9_findFar 51 = .ok (.if_icmp .ge 141, 3) := by decide +kernel
theorem dX9_findFar_54 : decode cX9_findFar 54 = .ok (.iconst 0, 1) := by decide +kernel
theorem dX9_findFar_55 : decode cX9_findFar 55 = .ok (.istore_n 3, 1) := by decide +kernel
theorem dX9_findFar_56 : decode cX9_findFar 56 = .ok (.iload_n 3, 1) := by decide +kernel
theorem dX9_findFar_57 : decode cX9_findFar 57 = .ok (.aload_n 0, 1) := by decide +kernel
theorem dX9_findFar_58 : decode cX9_findFar 58 = .ok (.getfield 183, 3) := by decide +kernel
theorem dX9_findFar_61 : decode cX9_findFar 61 = .ok (.if_icmp .ge 125, 3) := by decide +kernel
theorem dX9_findFar_64 : decode cX9_findFar 64 = .ok (.bipush 12, 2) := by decide +kernel
theorem dX9_findFar_66 : decode cX9_findFar 66 = .ok (.iload_n 3, 1) := by decide +kernel
theorem dX9_findFar_67 : decode cX9_findFar 67 = .ok (.imul, 1) := by decide +kernel
theorem dX9_findFar_68 : decode cX9_findFar 68 = .ok (.aload_n 0, 1) := by decide +kernel
theorem dX9_findFar_69 : decode cX9_findFar 69 = .ok (.getfield 16, 3) := by decide +kernel
theorem dX9_findFar_72 : decode cX9_findFar 72 = .ok (.iload_n 2, 1) := by decide +kernel
theorem dX9_findFar_73 : decode cX9_findFar 73 = .ok (.iaload, 1) := by decide +kernel
theorem dX9_findFar_74 : decode cX9_findFar 74 = .ok (.iadd, 1) := by decide +kernel
theorem dX9_findFar_75 : decode cX9_findFar 75 = .ok (.istore 4, 2) := by decide +kernel
theorem dX9_findFar_77 : decode cX9_findFar 77 = .ok (.bipush 12, 2) := by decide +kernel
theorem dX9_findFar_79 : decode cX9_findFar 79 = .ok (.iload_n 3, 1) := by decide +kernel
theorem dX9_findFar_80 : decode cX9_findFar 80 = .ok (.imul, 1) := by decide +kernel
theorem dX9_findFar_81 : decode cX9_findFar 81 = .ok (.aload_n 0, 1) := by decide +kernel
theorem dX9_findFar_82 : decode cX9_findFar 82 = .ok (.getfield 19, 3) := by decide +kernel
theorem dX9_findFar_85 : decode cX9_findFar 85 = .ok (.iload_n 2, 1) := by decide +kernel
theorem dX9_findFar_86 : decode cX9_findFar 86 = .ok (.iaload, 1) := by decide +kernel
theorem dX9_findFar_87 : decode cX9_findFar 87 = .ok (.iadd, 1) := by decide +kernel
theorem dX9_findFar_88 : decode cX9_findFar 88 = .ok (.istore 5, 2) := by decide +kernel
theorem dX9_findFar_90 : decode cX9_findFar 90 = .ok (.aload_n 0, 1) := by decide +kernel
theorem dX9_findFar_91 : decode cX9_findFar 91 = .ok (.getfield 40, 3) := by decide +kernel
theorem dX9_findFar_94 : decode cX9_findFar 94 = .ok (.iload 4, 2) := by decide +kernel
theorem dX9_findFar_96 : decode cX9_findFar 96 = .ok (.iaload, 1) := by decide +kernel
theorem dX9_findFar_97 : decode cX9_findFar 97 = .ok (.aload_n 0, 1) := by decide +kernel
theorem dX9_findFar_98 : decode cX9_findFar 98 = .ok (.getfield 22, 3) := by decide +kernel
theorem dX9_findFar_101 : decode cX9_findFar 101 = .ok (.iload_n 2, 1) := by decide +kernel
theorem dX9_findFar_102 : decode cX9_findFar 102 = .ok (.iaload, 1) := by decide +kernel
theorem dX9_findFar_103 : decode cX9_findFar 103 = .ok (.iadd, 1) := by decide +kernel
theorem dX9_findFar_104 : decode cX9_findFar 104 = .ok (.aload_n 0, 1) := by decide +kernel
theorem dX9_findFar_105 : decode cX9_findFar 105 = .ok (.getfield 40, 3) := by decide +kernel
theorem dX9_findFar_108 : decode cX9_findFar 108 = .ok (.iload 5, 2) := by decide +kernel
theorem dX9_findFar_110 : decode cX9_findFar 110 = .ok (.iaload, 1) := by decide +kernel
theorem dX9_findFar_111 : decode cX9_findFar 111 = .ok (.if_icmp .ge 24, 3) := by decide +kernel
theorem dX9_findFar_114 : decode cX9_findFar 114 = .ok (.aload_n 0, 1) := by decide +kernel
theorem dX9_findFar_115 : decode cX9_findFar 115 = .ok (.getfield 40, 3) := by decide +kernel
theorem dX9_findFar_118 : decode cX9_findFar 118 = .ok (.iload 5, 2) := by decide +kernel
theorem dX9_findFar_120 : decode cX9_findFar 120 = .ok (.aload_n 0, 1) := by decide +kernel
theorem dX9_findFar_121 : decode cX9_findFar 121 = .ok (.getfield 40, 3) := by decide +kernel
theorem dX9_findFar_124 : decode cX9_findFar 124 = .ok (.iload 4, 2) := by decide +kernel
theorem dX9_findFar_126 : decode cX9_findFar 126 = .ok (.iaload, 1) := by decide +kernel
theorem dX9_findFar_127 : decode cX9_findFar 127 = .ok (.aload_n 0, 1) := by decide +kernel
theorem dX9_findFar_128 : decode cX9_findFar 128 = .ok (.getfield 22, 3) := by decide +kernel
theorem dX9_findFar_131 : decode cX9_findFar 131 = .ok (.iload_n 2, 1) := by decide +kernel
theorem dX9_findFar_132 : decode cX9_findFar 132 = .ok (.iaload, 1) := by decide +kernel
theorem dX9_findFar_133 : decode cX9_findFar 133 = .ok (.iadd, 1) := by decide +kernel
theorem dX9_findFar_134 : decode cX9_findFar 134 = .ok (.iastore, 1) := by decide +kernel
theorem dX9_findFar_135 : decode cX9_findFar 135 = .ok (.aload_n 0, 1) := by decide +kernel
theorem dX9_findFar_136 : decode cX9_findFar 136 = .ok (.getfield 40, 3) := by decide +kernel
theorem dX9_findFar_139 : decode cX9_findFar 139 = .ok (.iload 5, 2) := by decide +kernel
theorem dX9_findFar_141 : decode cX9_findFar 141 = .ok (.iaload, 1) := by decide +kernel
theorem dX9_findFar_142 : decode cX9_findFar 142 = .ok (.aload_n 0, 1) := by decide +kernel
theorem dX9_findFar_143 : decode cX9_findFar 143 = .ok (.getfield 22, 3) := by decide +kernel
theorem dX9_findFar_146 : decode cX9_findFar 146 = .ok (.iload_n 2, 1) := by decide +kernel
theorem dX9_findFar_147 : decode cX9_findFar 147 = .ok (.iaload, 1) := by decide +kernel
theorem dX9_findFar_148 : decode cX9_findFar 148 = .ok (.iadd, 1) := by decide +kernel
theorem dX9_findFar_149 : decode cX9_findFar 149 = .ok (.aload_n 0, 1) := by decide +kernel
theorem dX9_findFar_150 : decode cX9_findFar 150 = .ok (.getfield 40, 3) := by decide +kernel
theorem dX9_findFar_153 : decode cX9_findFar 153 = .ok (.iload 4, 2) := by decide +kernel
theorem dX9_findFar_155 : decode cX9_findFar 155 = .ok (.iaload, 1) := by decide +kernel
theorem dX9_findFar_156 : decode cX9_findFar 156 = .ok (.if_icmp .ge 24, 3) := by decide +kernel
theorem dX9_findFar_159 : decode cX9_findFar 159 = .ok (.aload_n 0, 1) := by decide +kernel
theorem dX9_findFar_160 : decode cX9_findFar 160 = .ok (.getfield 40, 3) := by decide +kernel
theorem dX9_findFar_163 : decode cX9_findFar 163 = .ok (.iload 4, 2) := by decide +kernel
theorem dX9_findFar_165 : decode cX9_findFar 165 = .ok (.aload_n 0, 1) := by decide +kernel
theorem dX9_findFar_166 : decode cX9_findFar 166 = .ok (.getfield 40, 3) := by decide +kernel
theorem dX9_findFar_169 : decode cX9_findFar 169 = .ok (.iload 5, 2) := by decide +kernel
theorem dX9_findFar_171 : decode cX9_findFar 171 = .ok (.iaload, 1) := by decide +kernel
theorem dX9_findFar_172 : decode cX9_findFar 172 = .ok (.aload_n 0, 1) := by decide +kernel
theorem dX9_findFar_173 : decode cX9_findFar 173 = .ok (.getfield 22, 3) := by decide +kernel
theorem dX9_findFar_176 : decode cX9_findFar 176 = .ok (.iload_n 2, 1) := by decide +kernel
theorem dX9_findFar_177 : decode cX9_findFar 177 = .ok (.iaload, 1) := by decide +kernel
theorem dX9_findFar_178 : decode cX9_findFar 178 = .ok (.iadd, 1) := by decide +kernel
theorem dX9_findFar_179 : decode cX9_findFar 179 = .ok (.iastore, 1) := by decide +kernel
theorem dX9_findFar_180 : decode cX9_findFar 180 = .ok (.iinc 3 1, 3) := by decide +kernel
theorem dX9_findFar_183 : decode cX9_findFar 183 = .ok (.goto (-127), 3) := by decide +kernel
theorem dX9_findFar_186 : decode cX9_findFar 186 = .ok (.iinc 2 1, 3) := by decide +kernel
theorem dX9_findFar_189 : decode cX9_findFar 189 = .ok (.goto (-143), 3) := by decide +kernel
theorem dX9_findFar_192 : decode cX9_findFar 192 = .ok (.iinc 1 1, 3) := by decide +kernel
theorem dX9_findFar_195 : decode cX9_findFar 195 = .ok (.goto (-159), 3) := by decide +kernel
theorem dX9_findFar_198 : decode cX9_findFar 198 = .ok (.return_, 1) := by decide +kernel
theorem dX9_far_0 : decode cX9_far 0 = .ok (.aload_n 0, 1) := by decide +kernel
theorem dX9_far_1 : decode cX9_far 1 = .ok (.iload_n 1, 1) := by decide +kernel
theorem dX9_far_2 : decode cX9_far 2 = .ok (.invokevirtual 196, 3) := by decide +kernel
theorem dX9_far_5 : decode cX9_far 5 = .ok (.ifCond .eq 11, 3) := by decide +kernel
theorem dX9_far_8 : decode cX9_far 8 = .ok (.aload_n 0, 1) := by decide +kernel
theorem dX9_far_9 : decode cX9_far 9 = .ok (.iload_n 2, 1) := by decide +kernel
theorem dX9_far_10 : decode cX9_far 10 = .ok (.invokevirtual 196, 3) := by decide +kernel
theorem dX9_far_13 : decode cX9_far 13 = .ok (.ifCond .ne 9, 3) := by decide +kernel
theorem dX9_far_16 : decode cX9_far 16 = .ok (.aload_n 0, 1) := by decide +kernel
theorem dX9_far_17 : decode cX9_far 17 = .ok (.iconst (-1), 1) := by decide +kernel
theorem dX9_far_18 : decode cX9_far 18 = .ok (.invokevirtual 192, 3) := by decide +kernel
theorem dX9_far_21 : decode cX9_far 21 = .ok (.ireturn, 1) := by decide +kernel
theorem dX9_far_22 : decode cX9_far 22 = .ok (.aload_n 0, 1) := by decide +kernel
theorem dX9_far_23 : decode cX9_far 23 = .ok (.invokevirtual 214, 3) := by decide +kernel
theorem dX9_far_26 : decode cX9_far 26 = .ok (.aload_n 0, 1) := by decide +kernel
theorem dX9_far_27 : decode cX9_far 27 = .ok (.getfield 40, 3) := by decide +kernel
theorem dX9_far_30 : decode cX9_far 30 = .ok (.bipush 12, 2) := by decide +kernel
theorem dX9_far_32 : decode cX9_far 32 = .ok (.iload_n 1, 1) := by decide +kernel
theorem dX9_far_33 : decode cX9_far 33 = .ok (.imul, 1) := by decide +kernel
theorem dX9_far_34 : decode cX9_far 34 = .ok (.iload_n 2, 1) := by decide +kernel
theorem dX9_far_35 : decode cX9_far 35 = .ok (.iadd, 1) := by decide +kernel
theorem dX9_far_36 : decode cX9_far 36 = .ok (.iaload, 1) := by decide +kernel
theorem dX9_far_37 : decode cX9_far 37 = .ok (.ldc 213, 2) := by decide +kernel
theorem dX9_far_39 : decode cX9_far 39 = .ok (.if_icmp .lt 8, 3) := by decide +kernel
theorem dX9_far_42 : decode cX9_far 42 = .ok (.bipush (-9), 2) := by decide +kernel
theorem dX9_far_44 : decode cX9_far 44 = .ok (.goto 14, 3) := by decide +kernel
theorem dX9_far_47 : decode cX9_far 47 = .ok (.aload_n 0, 1) := by decide +kernel
theorem dX9_far_48 : decode cX9_far 48 = .ok (.getfield 40, 3) := by decide +kernel
theorem dX9_far_51 : decode cX9_far 51 = .ok (.bipush 12, 2) := by decide +kernel
theorem dX9_far_53 : decode cX9_far 53 = .ok (.iload_n 1, 1) := by decide +kernel
theorem dX9_far_54 : decode cX9_far 54 = .ok (.imul, 1) := by decide +kernel
theorem dX9_far_55 : decode cX9_far 55 = .ok (.iload_n 2, 1) := by decide +kernel
theorem dX9_far_56 : decode cX9_far 56 = .ok (.iadd, 1) := by decide +kernel
theorem dX9_far_57 : decode cX9_far 57 = .ok (.iaload, 1) := by decide +kernel
theorem dX9_far_58 : decode cX9_far 58 = .ok (.ireturn, 1) := by decide +kernel
theorem dX9_lateOf_0 : decode cX9_lateOf 0 = .ok (.aload_n 0, 1) := by decide +kernel
theorem dX9_lateOf_1 : decode cX9_lateOf 1 = .ok (.getfield 43, 3) := by decide +kernel
theorem dX9_lateOf_4 : decode cX9_lateOf 4 = .ok (.iload_n 1, 1) := by decide +kernel
theorem dX9_lateOf_5 : decode cX9_lateOf 5 = .ok (.baload, 1) := by decide +kernel
theorem dX9_lateOf_6 : decode cX9_lateOf 6 = .ok (.ifCond .eq 7, 3) := by decide +kernel
theorem dX9_lateOf_9 : decode cX9_lateOf 9 = .ok (.iconst 0, 1) := by decide +kernel
theorem dX9_lateOf_10 : decode cX9_lateOf 10 = .ok (.goto 25, 3) := by decide +kernel
theorem dX9_lateOf_13 : decode cX9_lateOf 13 = .ok (.aload_n 0, 1) := by decide +kernel
theorem dX9_lateOf_14 : decode cX9_lateOf 14 = .ok (.getfield 40, 3) := by decide +kernel
theorem dX9_lateOf_17 : decode cX9_lateOf 17 = .ok (.iload_n 1, 1) := by decide +kernel
theorem dX9_lateOf_18 : decode cX9_lateOf 18 = .ok (.iaload, 1) := by decide +kernel
theorem dX9_lateOf_19 : decode cX9_lateOf 19 = .ok (.ldc 213, 2) := by decide +kernel
theorem dX9_lateOf_21 : decode cX9_lateOf 21 = .ok (.if_icmp .lt 8, 3) := by decide +kernel
theorem dX9_lateOf_24 : decode cX9_lateOf 24 = .ok (.bipush (-9), 2) := by decide +kernel
theorem dX9_lateOf_26 : decode cX9_lateOf 26 = .ok (.goto 9, 3) := by decide +kernel
theorem dX9_lateOf_29 : decode cX9_lateOf 29 = .ok (.aload_n 0, 1) := by decide +kernel
theorem dX9_lateOf_30 : decode cX9_lateOf 30 = .ok (.getfield 40, 3) := by decide +kernel
theorem dX9_lateOf_33 : decode cX9_lateOf 33 = .ok (.iload_n 1, 1) := by decide +kernel
theorem dX9_lateOf_34 : decode cX9_lateOf 34 = .ok (.iaload, 1) := by decide +kernel
theorem dX9_lateOf_35 : decode cX9_lateOf 35 = .ok (.ireturn, 1) := by decide +kernel
theorem dX9_late_0 : decode cX9_late 0 = .ok (.aload_n 0, 1) := by decide +kernel
theorem dX9_late_1 : decode cX9_late 1 = .ok (.iload_n 1, 1) := by decide +kernel
theorem dX9_late_2 : decode cX9_late 2 = .ok (.invokevirtual 196, 3) := by decide +kernel
theorem dX9_late_5 : decode cX9_late 5 = .ok (.ifCond .ne 9, 3) := by decide +kernel
theorem dX9_late_8 : decode cX9_late 8 = .ok (.aload_n 0, 1) := by decide +kernel
theorem dX9_late_9 : decode cX9_late 9 = .ok (.iconst (-1), 1) := by decide +kernel
theorem dX9_late_10 : decode cX9_late 10 = .ok (.invokevirtual 192, 3) := by decide +kernel
theorem dX9_late_13 : decode cX9_late 13 = .ok (.ireturn, 1) := by decide +kernel
theorem dX9_late_14 : decode cX9_late 14 = .ok (.aload_n 0, 1) := by decide +kernel
theorem dX9_late_15 : decode cX9_late 15 = .ok (.invokevirtual 214, 3) := by decide +kernel
theorem dX9_late_18 : decode cX9_late 18 = .ok (.aload_n 0, 1) := by decide +kernel
theorem dX9_late_19 : decode cX9_late 19 = .ok (.iload_n 1, 1) := by decide +kernel
theorem dX9_late_20 : decode cX9_late 20 = .ok (.invokevirtual 217, 3) := by decide +kernel
theorem dX9_late_23 : decode cX9_late 23 = .ok (.ireturn, 1) := by decide +kernel
theorem dX9_isHeard_0 : decode cX9_isHeard 0 = .ok (.iload_n 2, 1) := by decide +kernel
theorem dX9_isHeard_1 : decode cX9_isHeard 1 = .ok (.ifCond .ge 14, 3) := by decide +kernel
theorem dX9_isHeard_4 : decode cX9_isHeard 4 = .ok (.iload_n 1, 1) := by decide +kernel
theorem dX9_isHeard_5 : decode cX9_isHeard 5 = .ok (.iload_n 3, 1) := by decide +kernel
theorem dX9_isHeard_6 : decode cX9_isHeard 6 = .ok (.if_icmp .gt 7, 3) := by decide +kernel
theorem dX9_isHeard_9 : decode cX9_isHeard 9 = .ok (.iconst 1, 1) := by decide +kernel
theorem dX9_isHeard_10 : decode cX9_isHeard 10 = .ok (.goto 4, 3) := by decide +kernel
theorem dX9_isHeard_13 : decode cX9_isHeard 13 = .ok (.iconst 0, 1) := by decide +kernel
theorem dX9_isHeard_14 : decode cX9_isHeard 14 = .ok (.ireturn, 1) := by decide +kernel
theorem dX9_isHeard_15 : decode cX9_isHeard 15 = .ok (.aload_n 0, 1) := by decide +kernel
theorem dX9_isHeard_16 : decode cX9_isHeard 16 = .ok (.iload_n 2, 1) := by decide +kernel
theorem dX9_isHeard_17 : decode cX9_isHeard 17 = .ok (.invokevirtual 217, 3) := by decide +kernel
theorem dX9_isHeard_20 : decode cX9_isHeard 20 = .ok (.istore 4, 2) := by decide +kernel
theorem dX9_isHeard_22 : decode cX9_isHeard 22 = .ok (.iload 4, 2) := by decide +kernel
theorem dX9_isHeard_24 : decode cX9_isHeard 24 = .ok (.ifCond .lt 15, 3) := by decide +kernel
theorem dX9_isHeard_27 : decode cX9_isHeard 27 = .ok (.iload_n 1, 1) := by decide +kernel
theorem dX9_isHeard_28 : decode cX9_isHeard 28 = .ok (.iload 4, 2) := by decide +kernel
theorem dX9_isHeard_30 : decode cX9_isHeard 30 = .ok (.iadd, 1) := by decide +kernel
theorem dX9_isHeard_31 : decode cX9_isHeard 31 = .ok (.iload_n 3, 1) := by decide +kernel
theorem dX9_isHeard_32 : decode cX9_isHeard 32 = .ok (.if_icmp .gt 7, 3) := by decide +kernel
theorem dX9_isHeard_35 : decode cX9_isHeard 35 = .ok (.iconst 1, 1) := by decide +kernel
theorem dX9_isHeard_36 : decode cX9_isHeard 36 = .ok (.goto 4, 3) := by decide +kernel
theorem dX9_isHeard_39 : decode cX9_isHeard 39 = .ok (.iconst 0, 1) := by decide +kernel
theorem dX9_isHeard_40 : decode cX9_isHeard 40 = .ok (.ireturn, 1) := by decide +kernel
theorem dX9_isUnit_0 : decode cX9_isUnit 0 = .ok (.iload_n 0, 1) := by decide +kernel
theorem dX9_isUnit_1 : decode cX9_isUnit 1 = .ok (.ifCond .lt 13, 3) := by decide +kernel
theorem dX9_isUnit_4 : decode cX9_isUnit 4 = .ok (.iload_n 0, 1) := by decide +kernel
theorem dX9_isUnit_5 : decode cX9_isUnit 5 = .ok (.bipush 16, 2) := by decide +kernel
theorem dX9_isUnit_7 : decode cX9_isUnit 7 = .ok (.if_icmp .ge 7, 3) := by decide +kernel
theorem dX9_isUnit_10 : decode cX9_isUnit 10 = .ok (.iconst 1, 1) := by decide +kernel
theorem dX9_isUnit_11 : decode cX9_isUnit 11 = .ok (.goto 4, 3) := by decide +kernel
theorem dX9_isUnit_14 : decode cX9_isUnit 14 = .ok (.iconst 0, 1) := by decide +kernel
theorem dX9_isUnit_15 : decode cX9_isUnit 15 = .ok (.ireturn, 1) := by decide +kernel
theorem dX9_isMan_0 : decode cX9_isMan 0 = .ok (.iload_n 1, 1) := by decide +kernel
theorem dX9_isMan_1 : decode cX9_isMan 1 = .ok (.ifCond .lt 15, 3) := by decide +kernel
theorem dX9_isMan_4 : decode cX9_isMan 4 = .ok (.iload_n 1, 1) := by decide +kernel
theorem dX9_isMan_5 : decode cX9_isMan 5 = .ok (.aload_n 0, 1) := by decide +kernel
theorem dX9_isMan_6 : decode cX9_isMan 6 = .ok (.getfield 220, 3) := by decide +kernel
theorem dX9_isMan_9 : decode cX9_isMan 9 = .ok (.if_icmp .ge 7, 3) := by decide +kernel
theorem dX9_isMan_12 : decode cX9_isMan 12 = .ok (.iconst 1, 1) := by decide +kernel
theorem dX9_isMan_13 : decode cX9_isMan 13 = .ok (.goto 4, 3) := by decide +kernel
theorem dX9_isMan_16 : decode cX9_isMan 16 = .ok (.iconst 0, 1) := by decide +kernel
theorem dX9_isMan_17 : decode cX9_isMan 17 = .ok (.ireturn, 1) := by decide +kernel
theorem dX9_move_0 : decode cX9_move 0 = .ok (.iload_n 1, 1) := by decide +kernel
theorem dX9_move_1 : decode cX9_move 1 = .ok (.invokestatic 223, 3) := by decide +kernel
theorem dX9_move_4 : decode cX9_move 4 = .ok (.ifCond .eq 11, 3) := by decide +kernel
theorem dX9_move_7 : decode cX9_move 7 = .ok (.aload_n 0, 1) := by decide +kernel
theorem dX9_move_8 : decode cX9_move 8 = .ok (.iload_n 2, 1) := by decide +kernel
theorem dX9_move_9 : decode cX9_move 9 = .ok (.invokevirtual 196, 3) := by decide +kernel
theorem dX9_move_12 : decode cX9_move 12 = .ok (.ifCond .ne 9, 3) := by decide +kernel
theorem dX9_move_15 : decode cX9_move 15 = .ok (.aload_n 0, 1) := by decide +kernel
theorem dX9_move_16 : decode cX9_move 16 = .ok (.iconst (-1), 1) := by decide +kernel
theorem dX9_move_17 : decode cX9_move 17 = .ok (.invokevirtual 192, 3) := by decide +kernel
theorem dX9_move_20 : decode cX9_move 20 = .ok (.ireturn, 1) := by decide +kernel
theorem dX9_move_21 : decode cX9_move 21 = .ok (.iload_n 3, 1) := by decide +kernel
theorem dX9_move_22 : decode cX9_move 22 = .ok (.aload_n 0, 1) := by decide +kernel
theorem dX9_move_23 : decode cX9_move 23 = .ok (.getfield 207, 3) := by decide +kernel
theorem dX9_move_26 : decode cX9_move 26 = .ok (.if_icmp .ge 8, 3) := by decide +kernel
theorem dX9_move_29 : decode cX9_move 29 = .ok (.bipush (-4), 2) := by decide +kernel
theorem dX9_move_31 : decode cX9_move 31 = .ok (.goto 25, 3) := by decide +kernel
theorem dX9_move_34 : decode cX9_move 34 = .ok (.iload_n 3, 1) := by decide +kernel
theorem dX9_move_35 : decode cX9_move 35 = .ok (.sipush 2000, 3) := by decide +kernel
theorem dX9_move_38 : decode cX9_move 38 = .ok (.if_icmp .gt 12, 3) := by decide +kernel
theorem dX9_move_41 : decode cX9_move 41 = .ok (.aload_n 0, 1) := by decide +kernel
theorem dX9_move_42 : decode cX9_move 42 = .ok (.getfield 226, 3) := by decide +kernel
theorem dX9_move_45 : decode cX9_move 45 = .ok (.bipush 60, 2) := by decide +kernel
theorem dX9_move_47 : decode cX9_move 47 = .ok (.if_icmp .ne 8, 3) := by decide +kernel
theorem dX9_move_50 : decode cX9_move 50 = .ok (.bipush (-6), 2) := by decide +kernel
theorem dX9_move_52 : decode cX9_move 52 = .ok (.goto 4, 3) := by decide +kernel
theorem dX9_move_55 : decode cX9_move 55 = .ok (.iconst 0, 1) := by decide +kernel
theorem dX9_move_56 : decode cX9_move 56 = .ok (.istore 4, 2) := by decide +kernel
theorem dX9_move_58 : decode cX9_move 58 = .ok (.iload 4, 2) := by decide +kernel
theorem dX9_move_60 : decode cX9_move 60 = .ok (.ifCond .eq 10, 3) := by decide +kernel
theorem dX9_move_63 : decode cX9_move 63 = .ok (.aload_n 0, 1) := by decide +kernel
theorem dX9_move_64 : decode cX9_move 64 = .ok (.iload 4, 2) := by decide +kernel
theorem dX9_move_66 : decode cX9_move 66 = .ok (.invokevirtual 192, 3) := by decide +kernel
theorem dX9_move_69 : decode cX9_move 69 = .ok (.ireturn, 1) := by decide +kernel
theorem dX9_move_70 : decode cX9_move 70 = .ok (.aload_n 0, 1) := by decide +kernel
theorem dX9_move_71 : decode cX9_move 71 = .ok (.getfield 47, 3) := by decide +kernel
theorem dX9_move_74 : decode cX9_move 74 = .ok (.aload_n 0, 1) := by decide +kernel
theorem dX9_move_75 : decode cX9_move 75 = .ok (.getfield 226, 3) := by decide +kernel
theorem dX9_move_78 : decode cX9_move 78 = .ok (.iload_n 1, 1) := by decide +kernel
theorem dX9_move_79 : decode cX9_move 79 = .ok (.iastore, 1) := by decide +kernel
theorem dX9_move_80 : decode cX9_move 80 = .ok (.aload_n 0, 1) := by decide +kernel
theorem dX9_move_81 : decode cX9_move 81 = .ok (.getfield 50, 3) := by decide +kernel
theorem dX9_move_84 : decode cX9_move 84 = .ok (.aload_n 0, 1) := by decide +kernel
theorem dX9_move_85 : decode cX9_move 85 = .ok (.getfield 226, 3) := by decide +kernel
theorem dX9_move_88 : decode cX9_move 88 = .ok (.iload_n 2, 1) := by decide +kernel
theorem dX9_move_89 : decode cX9_move 89 = .ok (.iastore, 1) := by decide +kernel
theorem dX9_move_90 : decode cX9_move 90 = .ok (.aload_n 0, 1) := by decide +kernel
theorem dX9_move_91 : decode cX9_move 91 = .ok (.getfield 53, 3) := by decide +kernel
theorem dX9_move_94 : decode cX9_move 94 = .ok (.aload_n 0, 1) := by decide +kernel
theorem dX9_move_95 : decode cX9_move 95 = .ok (.getfield 226, 3) := by decide +kernel
theorem dX9_move_98 : decode cX9_move 98 = .ok (.iload_n 3, 1) := by decide +kernel
theorem dX9_move_99 : decode cX9_move 99 = .ok (.iastore, 1) := by decide +kernel
theorem dX9_move_100 : decode cX9_move 100 = .ok (.aload_n 0, 1) := by decide +kernel
theorem dX9_move_101 : decode cX9_move 101 = .ok (.getfield 56, 3) := by decide +kernel
theorem dX9_move_104 : decode cX9_move 104 = .ok (.aload_n 0, 1) := by decide +kernel
theorem dX9_move_105 : decode cX9_move 105 = .ok (.getfield 226, 3) := by decide +kernel
theorem dX9_move_108 : decode cX9_move 108 = .ok (.aload_n 0, 1) := by decide +kernel
theorem dX9_move_109 : decode cX9_move 109 = .ok (.getfield 207, 3) := by decide +kernel
theorem dX9_move_112 : decode cX9_move 112 = .ok (.iastore, 1) := by decide +kernel
theorem dX9_move_113 : decode cX9_move 113 = .ok (.aload_n 0, 1) := by decide +kernel
theorem dX9_move_114 : decode cX9_move 114 = .ok (.dup, 1) := by decide +kernel
theorem dX9_move_115 : decode cX9_move 115 = .ok (.getfield 226, 3) := by decide +kernel
theorem dX9_move_118 : decode cX9_move 118 = .ok (.iconst 1, 1) := by decide +kernel
theorem dX9_move_119 : decode cX9_move 119 = .ok (.iadd, 1) := by decide +kernel
theorem dX9_move_120 : decode cX9_move 120 = .ok (.putfield 226, 3) := by decide +kernel
theorem dX9_move_123 : decode cX9_move 123 = .ok (.aload_n 0, 1) := by decide +kernel
theorem dX9_move_124 : decode cX9_move 124 = .ok (.getfield 226, 3) := by decide +kernel
theorem dX9_move_127 : decode cX9_move 127 = .ok (.ireturn, 1) := by decide +kernel
theorem dX9_unitAt_0 : decode cX9_unitAt 0 = .ok (.bipush (-9), 2) := by decide +kernel
theorem dX9_unitAt_2 : decode cX9_unitAt 2 = .ok (.istore 4, 2) := by decide +kernel
theorem dX9_unitAt_4 : decode cX9_unitAt 4 = .ok (.iconst 0, 1) := by decide +kernel
theorem dX9_unitAt_5 : decode cX9_unitAt 5 = .ok (.istore 5, 2) := by decide +kernel
theorem dX9_unitAt_7 : decode cX9_unitAt 7 = .ok (.iload 5, 2) := by decide +kernel
theorem dX9_unitAt_9 : decode cX9_unitAt 9 = .ok (.aload_n 0, 1) := by decide +kernel
theorem dX9_unitAt_10 : decode cX9_unitAt 10 = .ok (.getfield 226, 3) := by decide +kernel
theorem dX9_unitAt_13 : decode cX9_unitAt 13 = .ok (.if_icmp .ge 80, 3) := by decide +kernel
theorem dX9_unitAt_16 : decode cX9_unitAt 16 = .ok (.aload_n 0, 1) := by decide +kernel
theorem dX9_unitAt_17 : decode cX9_unitAt 17 = .ok (.getfield 47, 3) := by decide +kernel
theorem dX9_unitAt_20 : decode cX9_unitAt 20 = .ok (.iload 5, 2) := by decide +kernel
theorem dX9_unitAt_22 : decode cX9_unitAt 22 = .ok (.iaload, 1) := by decide +kernel
theorem dX9_unitAt_23 : decode cX9_unitAt 23 = .ok (.iload_n 1, 1) := by decide +kernel
theorem dX9_unitAt_24 : decode cX9_unitAt 24 = .ok (.if_icmp .ne 63, 3) := by decide +kernel
theorem dX9_unitAt_27 : decode cX9_unitAt 27 = .ok (.aload_n 0, 1) := by decide +kernel
theorem dX9_unitAt_28 : decode cX9_unitAt 28 = .ok (.getfield 53, 3) := by decide +kernel
theorem dX9_unitAt_31 : decode cX9_unitAt 31 = .ok (.iload 5, 2) := by decide +kernel
theorem dX9_unitAt_33 : decode cX9_unitAt 33 = .ok (.iaload, 1) := by decide +kernel
theorem dX9_unitAt_34 : decode cX9_unitAt 34 = .ok (.iload_n 2, 1) := by decide +kernel
theorem dX9_unitAt_35 : decode cX9_unitAt 35 = .ok (.if_icmp .gt 52, 3) := by decide +kernel
theorem dX9_unitAt_38 : decode cX9_unitAt 38 = .ok (.iload_n 3, 1) := by decide +kernel
theorem dX9_unitAt_39 : decode cX9_unitAt 39 = .ok (.ifCond .lt 22, 3) := by decide +kernel
theorem dX9_unitAt_42 : decode cX9_unitAt 42 = .ok (.aload_n 0, 1) := by decide +kernel
theorem dX9_unitAt_43 : decode cX9_unitAt 43 = .ok (.aload_n 0, 1) := by decide +kernel
theorem dX9_unitAt_44 : decode cX9_unitAt 44 = .ok (.getfield 56, 3) := by decide +kernel
theorem dX9_unitAt_47 : decode cX9_unitAt 47 = .ok (.iload 5, 2) := by decide +kernel
theorem dX9_unitAt_49 : decode cX9_unitAt 49 = .ok (.iaload, 1) := by decide +kernel
theorem dX9_unitAt_50 : decode cX9_unitAt 50 = .ok (.iload_n 3, 1) := by decide +kernel
theorem dX9_unitAt_51 : decode cX9_unitAt 51 = .ok (.iload_n 2, 1) := by decide +kernel
theorem dX9_unitAt_52 : decode cX9_unitAt 52 = .ok (.invokevirtual 229, 3) := by decide +kernel
theorem dX9_unitAt_55 : decode cX9_unitAt 55 = .ok (.ifCond .ne 6, 3) := by decide +kernel
theorem dX9_unitAt_58 : decode cX9_unitAt 58 = .ok (.goto 29, 3) := by decide +kernel
theorem dX9_unitAt_61 : decode cX9_unitAt 61 = .ok (.iload 4, 2) := by decide +kernel
theorem dX9_unitAt_63 : decode cX9_unitAt 63 = .ok (.ifCond .lt 20, 3) := by decide +kernel
theorem dX9_unitAt_66 : decode cX9_unitAt 66 = .ok (.aload_n 0, 1) := by decide +kernel
theorem dX9_unitAt_67 : decode cX9_unitAt 67 = .ok (.getfield 53, 3) := by decide +kernel
theorem dX9_unitAt_70 : decode cX9_unitAt 70 = .ok (.iload 5, 2) := by decide +kernel
theorem dX9_unitAt_72 : decode cX9_unitAt 72 = .ok (.iaload, 1) := by decide +kernel
theorem dX9_unitAt_73 : decode cX9_unitAt 73 = .ok (.aload_n 0, 1) := by decide +kernel
theorem dX9_unitAt_74 : decode cX9_unitAt 74 = .ok (.getfield 53, 3) := by decide +kernel
theorem dX9_unitAt_77 : decode cX9_unitAt 77 = .ok (.iload 4, 2) := by decide +kernel
theorem dX9_unitAt_79 : decode cX9_unitAt 79 = .ok (.iaload, 1) := by decide +kernel
theorem dX9_unitAt_80 : decode cX9_unitAt 80 = .ok (.if_icmp .lt 7, 3) := by decide +kernel
theorem dX9_unitAt_83 : decode cX9_unitAt 83 = .ok (.iload 5, 2) := by decide +kernel
theorem dX9_unitAt_85 : decode cX9_unitAt 85 = .ok (.istore 4, 2) := by decide +kernel
theorem dX9_unitAt_87 : decode cX9_unitAt 87 = .ok (.iinc 5 1, 3) := by decide +kernel
theorem dX9_unitAt_90 : decode cX9_unitAt 90 = .ok (.goto (-83), 3) := by decide +kernel
theorem dX9_unitAt_93 : decode cX9_unitAt 93 = .ok (.iload 4, 2) := by decide +kernel
theorem dX9_unitAt_95 : decode cX9_unitAt 95 = .ok (.ifCond .ge 8, 3) := by decide +kernel
theorem dX9_unitAt_98 : decode cX9_unitAt 98 = .ok (.bipush (-9), 2) := by decide +kernel
theorem dX9_unitAt_100 : decode cX9_unitAt 100 = .ok (.goto 10, 3) := by decide +kernel
theorem dX9_unitAt_103 : decode cX9_unitAt 103 = .ok (.aload_n 0, 1) := by decide +kernel
theorem dX9_unitAt_104 : decode cX9_unitAt 104 = .ok (.getfield 50, 3) := by decide +kernel
theorem dX9_unitAt_107 : decode cX9_unitAt 107 = .ok (.iload 4, 2) := by decide +kernel
theorem dX9_unitAt_109 : decode cX9_unitAt 109 = .ok (.iaload, 1) := by decide +kernel
theorem dX9_unitAt_110 : decode cX9_unitAt 110 = .ok (.ireturn, 1) := by decide +kernel
theorem dX9_is_0 : decode cX9_is 0 = .ok (.iload_n 1, 1) := by decide +kernel
theorem dX9_is_1 : decode cX9_is 1 = .ok (.invokestatic 223, 3) := by decide +kernel
theorem dX9_is_4 : decode cX9_is 4 = .ok (.ifCond .ne 9, 3) := by decide +kernel
theorem dX9_is_7 : decode cX9_is 7 = .ok (.aload_n 0, 1) := by decide +kernel
theorem dX9_is_8 : decode cX9_is 8 = .ok (.iconst (-1), 1) := by decide +kernel
theorem dX9_is_9 : decode cX9_is 9 = .ok (.invokevirtual 192, 3) := by decide +kernel
theorem dX9_is_12 : decode cX9_is 12 = .ok (.ireturn, 1) := by decide +kernel
theorem dX9_is_13 : decode cX9_is 13 = .ok (.iload_n 2, 1) := by decide +kernel
theorem dX9_is_14 : decode cX9_is 14 = .ok (.i2l, 1) := by decide +kernel
theorem dX9_is_15 : decode cX9_is 15 = .ok (.lconst 0, 1) := by decide +kernel
theorem dX9_is_16 : decode cX9_is 16 = .ok (.ldc2_w 233, 3) := by decide +kernel
theorem dX9_is_19 : decode cX9_is 19 = .ok (.invokestatic 188, 3) := by decide +kernel
theorem dX9_is_22 : decode cX9_is 22 = .ok (.istore_n 3, 1) := by decide +kernel
theorem dX9_is_23 : decode cX9_is 23 = .ok (.iload_n 3, 1) := by decide +kernel
theorem dX9_is_24 : decode cX9_is 24 = .ok (.ifCond .eq 11, 3) := by decide +kernel
theorem dX9_is_27 : decode cX9_is 27 = .ok (.aload_n 0, 1) := by decide +kernel
theorem dX9_is_28 : decode cX9_is 28 = .ok (.iload_n 3, 1) := by decide +kernel
theorem dX9_is_29 : decode cX9_is 29 = .ok (.invokevirtual 192, 3) := by decide +kernel
theorem dX9_is_32 : decode cX9_is 32 = .ok (.goto 10, 3) := by decide +kernel
theorem dX9_is_35 : decode cX9_is 35 = .ok (.aload_n 0, 1) := by decide +kernel
theorem dX9_is_36 : decode cX9_is 36 = .ok (.iload_n 1, 1) := by decide +kernel
theorem dX9_is_37 : decode cX9_is 37 = .ok (.iload_n 2, 1) := by decide +kernel
theorem dX9_is_38 : decode cX9_is 38 = .ok (.iconst (-1), 1) := by decide +kernel
theorem dX9_is_39 : decode cX9_is 39 = .ok (.invokevirtual 235, 3) := by decide +kernel
theorem dX9_is_42 : decode cX9_is 42 = .ok (.ireturn, 1) := by decide +kernel
theorem dX9_list_0 : decode cX9_list 0 = .ok (.aload_n 0, 1) := by decide +kernel
theorem dX9_list_1 : decode cX9_list 1 = .ok (.iload_n 1, 1) := by decide +kernel
theorem dX9_list_2 : decode cX9_list 2 = .ok (.invokevirtual 196, 3) := by decide +kernel
theorem dX9_list_5 : decode cX9_list 5 = .ok (.ifCond .eq 10, 3) := by decide +kernel
theorem dX9_list_8 : decode cX9_list 8 = .ok (.iload_n 2, 1) := by decide +kernel
theorem dX9_list_9 : decode cX9_list 9 = .ok (.invokestatic 223, 3) := by decide +kernel
theorem dX9_list_12 : decode cX9_list 12 = .ok (.ifCond .ne 9, 3) := by decide +kernel
theorem dX9_list_15 : decode cX9_list 15 = .ok (.aload_n 0, 1) := by decide +kernel
theorem dX9_list_16 : decode cX9_list 16 = .ok (.iconst (-1), 1) := by decide +kernel
theorem dX9_list_17 : decode cX9_list 17 = .ok (.invokevirtual 192, 3) := by decide +kernel
theorem dX9_list_20 : decode cX9_list 20 = .ok (.ireturn, 1) := by decide +kernel
theorem dX9_list_21 : decode cX9_list 21 = .ok (.iload_n 3, 1) := by decide +kernel
theorem dX9_list_22 : decode cX9_list 22 = .ok (.i2l, 1) := by decide +kernel
theorem dX9_list_23 : decode cX9_list 23 = .ok (.lconst 0, 1) := by decide +kernel
theorem dX9_list_24 : decode cX9_list 24 = .ok (.ldc2_w 233, 3) := by decide +kernel
theorem dX9_list_27 : decode cX9_list 27 = .ok (.invokestatic 188, 3) := by decide +kernel
theorem dX9_list_30 : decode cX9_list 30 = .ok (.istore 4, 2) := by decide +kernel
theorem dX9_list_32 : decode cX9_list 32 = .ok (.iload 4, 2) := by decide +kernel
theorem dX9_list_34 : decode cX9_list 34 = .ok (.ifCond .eq 10, 3) := by decide +kernel
theorem dX9_list_37 : decode cX9_list 37 = .ok (.aload_n 0, 1) := by decide +kernel
theorem dX9_list_38 : decode cX9_list 38 = .ok (.iload 4, 2) := by decide +kernel
theorem dX9_list_40 : decode cX9_list 40 = .ok (.invokevirtual 192, 3) := by decide +kernel
theorem dX9_list_43 : decode cX9_list 43 = .ok (.ireturn, 1) := by decide +kernel
theorem dX9_list_44 : decode cX9_list 44 = .ok (.aload_n 0, 1) := by decide +kernel
theorem dX9_list_45 : decode cX9_list 45 = .ok (.invokevirtual 214, 3) := by decide +kernel
theorem dX9_list_48 : decode cX9_list 48 = .ok (.aload_n 0, 1) := by decide +kernel
theorem dX9_list_49 : decode cX9_list 49 = .ok (.iload_n 2, 1) := by decide +kernel
theorem dX9_list_50 : decode cX9_list 50 = .ok (.iload_n 3, 1) := by decide +kernel
theorem dX9_list_51 : decode cX9_list 51 = .ok (.iload_n 1, 1) := by decide +kernel
theorem dX9_list_52 : decode cX9_list 52 = .ok (.invokevirtual 235, 3) := by decide +kernel
theorem dX9_list_55 : decode cX9_list 55 = .ok (.ireturn, 1) := by decide +kernel
theorem dX9_man_0 : decode cX9_man 0 = .ok (.iload_n 1, 1) := by decide +kernel
theorem dX9_man_1 : decode cX9_man 1 = .ok (.invokestatic 223, 3) := by decide +kernel
theorem dX9_man_4 : decode cX9_man 4 = .ok (.ifCond .ne 9, 3) := by decide +kernel
theorem dX9_man_7 : decode cX9_man 7 = .ok (.aload_n 0, 1) := by decide +kernel
theorem dX9_man_8 : decode cX9_man 8 = .ok (.iconst (-1), 1) := by decide +kernel
theorem dX9_man_9 : decode cX9_man 9 = .ok (.invokevirtual 192, 3) := by decide +kernel
theorem dX9_man_12 : decode cX9_man 12 = .ok (.ireturn, 1) := by decide +kernel
theorem dX9_man_13 : decode cX9_man 13 = .ok (.iload_n 2, 1) := by decide +kernel
theorem dX9_man_14 : decode cX9_man 14 = .ok (.i2l, 1) := by decide +kernel
theorem dX9_man_15 : decode cX9_man 15 = .ok (.lconst 0, 1) := by decide +kernel
theorem dX9_man_16 : decode cX9_man 16 = .ok (.ldc2_w 239, 3) := by decide +kernel
theorem dX9_man_19 : decode cX9_man 19 = .ok (.invokestatic 188, 3) := by decide +kernel
theorem dX9_man_22 : decode cX9_man 22 = .ok (.istore_n 3, 1) := by decide +kernel
theorem dX9_man_23 : decode cX9_man 23 = .ok (.iload_n 3, 1) := by decide +kernel
theorem dX9_man_24 : decode cX9_man 24 = .ok (.ifCond .ne 15, 3) := by decide +kernel
theorem dX9_man_27 : decode cX9_man 27 = .ok (.aload_n 0, 1) := by decide +kernel
theorem dX9_man_28 : decode cX9_man 28 = .ok (.getfield 220, 3) := by decide +kernel
theorem dX9_man_31 : decode cX9_man 31 = .ok (.bipush 40, 2) := by decide +kernel
theorem dX9_man_33 : decode cX9_man 33 = .ok (.if_icmp .ne 6, 3) := by decide +kernel
theorem dX9_man_36 : decode cX9_man 36 = .ok (.bipush (-6), 2) := by decide +kernel
theorem dX9_man_38 : decode cX9_man 38 = .ok (.istore_n 3, 1) := by decide +kernel
theorem dX9_man_39 : decode cX9_man 39 = .ok (.iload_n 3, 1) := by decide +kernel
theorem dX9_man_40 : decode cX9_man 40 = .ok (.ifCond .eq 9, 3) := by decide +kernel
theorem dX9_man_43 : decode cX9_man 43 = .ok (.aload_n 0, 1) := by decide +kernel
theorem dX9_man_44 : decode cX9_man 44 = .ok (.iload_n 3, 1) := by decide +kernel
theorem dX9_man_45 : decode cX9_man 45 = .ok (.invokevirtual 192, 3) := by decide +kernel
theorem dX9_man_48 : decode cX9_man 48 = .ok (.ireturn, 1) := by decide +kernel
theorem dX9_man_49 : decode cX9_man 49 = .ok (.aload_n 0, 1) := by decide +kernel
theorem dX9_man_50 : decode cX9_man 50 = .ok (.getfield 59, 3) := by decide +kernel
theorem dX9_man_53 : decode cX9_man 53 = .ok (.aload_n 0, 1) := by decide +kernel
theorem dX9_man_54 : decode cX9_man 54 = .ok (.getfield 220, 3) := by decide +kernel
theorem dX9_man_57 : decode cX9_man 57 = .ok (.iload_n 1, 1) := by decide +kernel
theorem dX9_man_58 : decode cX9_man 58 = .ok (.iastore, 1) := by decide +kernel
theorem dX9_man_59 : decode cX9_man 59 = .ok (.aload_n 0, 1) := by decide +kernel
theorem dX9_man_60 : decode cX9_man 60 = .ok (.getfield 62, 3) := by decide +kernel
theorem dX9_man_63 : decode cX9_man 63 = .ok (.aload_n 0, 1) := by decide +kernel
theorem dX9_man_64 : decode cX9_man 64 = .ok (.getfield 220, 3) := by decide +kernel
theorem dX9_man_67 : decode cX9_man 67 = .ok (.iload_n 2, 1) := by decide +kernel
theorem dX9_man_68 : decode cX9_man 68 = .ok (.iastore, 1) := by decide +kernel
theorem dX9_man_69 : decode cX9_man 69 = .ok (.aload_n 0, 1) := by decide +kernel
theorem dX9_man_70 : decode cX9_man 70 = .ok (.dup, 1) := by decide +kernel
theorem dX9_man_71 : decode cX9_man 71 = .ok (.getfield 220, 3) := by decide +kernel
theorem dX9_man_74 : decode cX9_man 74 = .ok (.iconst 1, 1) := by decide +kernel
theorem dX9_man_75 : decode cX9_man 75 = .ok (.iadd, 1) := by decide +kernel
theorem dX9_man_76 : decode cX9_man 76 = .ok (.putfield 220, 3) := by decide +kernel
theorem dX9_man_79 : decode cX9_man 79 = .ok (.aload_n 0, 1) := by decide +kernel
theorem dX9_man_80 : decode cX9_man 80 = .ok (.getfield 220, 3) := by decide +kernel
theorem dX9_man_83 : decode cX9_man 83 = .ok (.iconst 1, 1) := by decide +kernel
theorem dX9_man_84 : decode cX9_man 84 = .ok (.isub, 1) := by decide +kernel
theorem dX9_man_85 : decode cX9_man 85 = .ok (.ireturn, 1) := by decide +kernel
theorem dX9_state_0 : decode cX9_state 0 = .ok (.aload_n 0, 1) := by decide +kernel
theorem dX9_state_1 : decode cX9_state 1 = .ok (.iload_n 1, 1) := by decide +kernel
theorem dX9_state_2 : decode cX9_state 2 = .ok (.invokevirtual 241, 3) := by decide +kernel
theorem dX9_state_5 : decode cX9_state 5 = .ok (.ifCond .eq 16, 3) := by decide +kernel
theorem dX9_state_8 : decode cX9_state 8 = .ok (.iload_n 2, 1) := by decide +kernel
theorem dX9_state_9 : decode cX9_state 9 = .ok (.iconst 1, 1) := by decide +kernel
theorem dX9_state_10 : decode cX9_state 10 = .ok (.if_icmp .ne 17, 3) := by decide +kernel
theorem dX9_state_13 : decode cX9_state 13 = .ok (.aload_n 0, 1) := by decide +kernel
theorem dX9_state_14 : decode cX9_state 14 = .ok (.iload_n 3, 1) := by decide +kernel
theorem dX9_state_15 : decode cX9_state 15 = .ok (.invokevirtual 196, 3) := by decide +kernel
theorem dX9_state_18 : decode cX9_state 18 = .ok (.ifCond .ne 9, 3) := by decide +kernel
theorem dX9_state_21 : decode cX9_state 21 = .ok (.aload_n 0, 1) := by decide +kernel
theorem dX9_state_22 : decode cX9_state 22 = .ok (.iconst (-1), 1) := by decide +kernel
theorem dX9_state_23 : decode cX9_state 23 = .ok (.invokevirtual 192, 3) := by decide +kernel
theorem dX9_state_26 : decode cX9_state 26 = .ok (.ireturn, 1) := by decide +kernel
theorem dX9_state_27 : decode cX9_state 27 = .ok (.iload_n 2, 1) := by decide +kernel
theorem dX9_state_28 : decode cX9_state 28 = .ok (.i2l, 1) := by decide +kernel
theorem dX9_state_29 : decode cX9_state 29 = .ok (.lconst 0, 1) := by decide +kernel
theorem dX9_state_30 : decode cX9_state 30 = .ok (.ldc2_w 244, 3) := by decide +kernel
theorem dX9_state_33 : decode cX9_state 33 = .ok (.invokestatic 203, 3) := by decide +kernel
theorem dX9_state_36 : decode cX9_state 36 = .ok (.ifCond .ne 10, 3) := by decide +kernel
theorem dX9_state_39 : decode cX9_state 39 = .ok (.aload_n 0, 1) := by decide +kernel
theorem dX9_state_40 : decode cX9_state 40 = .ok (.bipush (-2), 2) := by decide +kernel
theorem dX9_state_42 : decode cX9_state 42 = .ok (.invokevirtual 192, 3) := by decide +kernel
theorem dX9_state_45 : decode cX9_state 45 = .ok (.ireturn, 1) := by decide +kernel
theorem dX9_state_46 : decode cX9_state 46 = .ok (.aload_n 0, 1) := by decide +kernel
theorem dX9_state_47 : decode cX9_state 47 = .ok (.getfield 246, 3) := by decide +kernel
theorem dX9_state_50 : decode cX9_state 50 = .ok (.bipush 80, 2) := by decide +kernel
theorem dX9_state_52 : decode cX9_state 52 = .ok (.if_icmp .ne 10, 3) := by decide +kernel
theorem dX9_state_55 : decode cX9_state 55 = .ok (.aload_n 0, 1) := by decide +kernel
theorem dX9_state_56 : decode cX9_state 56 = .ok (.bipush (-6), 2) := by decide +kernel
theorem dX9_state_58 : decode cX9_state 58 = .ok (.invokevirtual 192, 3) := by decide +kernel
theorem dX9_state_61 : decode cX9_state 61 = .ok (.ireturn, 1) := by decide +kernel
theorem dX9_state_62 : decode cX9_state 62 = .ok (.aload_n 0, 1) := by decide +kernel
theorem dX9_state_63 : decode cX9_state 63 = .ok (.getfield 65, 3) := by decide +kernel
theorem dX9_state_66 : decode cX9_state 66 = .ok (.aload_n 0, 1) := by decide +kernel
theorem dX9_state_67 : decode cX9_state 67 = .ok (.getfield 246, 3) := by decide +kernel
theorem dX9_state_70 : decode cX9_state 70 = .ok (.iload_n 1, 1) := by decide +kernel
theorem dX9_state_71 : decode cX9_state 71 = .ok (.iastore, 1) := by decide +kernel
theorem dX9_state_72 : decode cX9_state 72 = .ok (.aload_n 0, 1) := by decide +kernel
theorem dX9_state_73 : decode cX9_state 73 = .ok (.getfield 68, 3) := by decide +kernel
theorem dX9_state_76 : decode cX9_state 76 = .ok (.aload_n 0, 1) := by decide +kernel
theorem dX9_state_77 : decode cX9_state 77 = .ok (.getfield 246, 3) := by decide +kernel
theorem dX9_state_80 : decode cX9_state 80 = .ok (.iload_n 2, 1) := by decide +kernel
theorem dX9_state_81 : decode cX9_state 81 = .ok (.iastore, 1) := by decide +kernel
theorem dX9_state_82 : decode cX9_state 82 = .ok (.aload_n 0, 1) := by decide +kernel
theorem dX9_state_83 : decode cX9_state 83 = .ok (.getfield 71, 3) := by decide +kernel
theorem dX9_state_86 : decode cX9_state 86 = .ok (.aload_n 0, 1) := by decide +kernel
theorem dX9_state_87 : decode cX9_state 87 = .ok (.getfield 246, 3) := by decide +kernel
theorem dX9_state_90 : decode cX9_state 90 = .ok (.iload_n 3, 1) := by decide +kernel
theorem dX9_state_91 : decode cX9_state 91 = .ok (.iastore, 1) := by decide +kernel
theorem dX9_state_92 : decode cX9_state 92 = .ok (.aload_n 0, 1) := by decide +kernel
theorem dX9_state_93 : decode cX9_state 93 = .ok (.getfield 74, 3) := by decide +kernel
theorem dX9_state_96 : decode cX9_state 96 = .ok (.aload_n 0, 1) := by decide +kernel
theorem dX9_state_97 : decode cX9_state 97 = .ok (.getfield 246, 3) := by decide +kernel
theorem dX9_state_100 : decode cX9_state 100 = .ok (.aload_n 0, 1) := by decide +kernel
theorem dX9_state_101 : decode cX9_state 101 = .ok (.getfield 207, 3) := by decide +kernel
theorem dX9_state_104 : decode cX9_state 104 = .ok (.iastore, 1) := by decide +kernel
theorem dX9_state_105 : decode cX9_state 105 = .ok (.aload_n 0, 1) := by decide +kernel
theorem dX9_state_106 : decode cX9_state 106 = .ok (.dup, 1) := by decide +kernel
theorem dX9_state_107 : decode cX9_state 107 = .ok (.getfield 246, 3) := by decide +kernel
theorem dX9_state_110 : decode cX9_state 110 = .ok (.iconst 1, 1) := by decide +kernel
theorem dX9_state_111 : decode cX9_state 111 = .ok (.iadd, 1) := by decide +kernel
theorem dX9_state_112 : decode cX9_state 112 = .ok (.putfield 246, 3) := by decide +kernel
theorem dX9_state_115 : decode cX9_state 115 = .ok (.aload_n 0, 1) := by decide +kernel
theorem dX9_state_116 : decode cX9_state 116 = .ok (.getfield 246, 3) := by decide +kernel
theorem dX9_state_119 : decode cX9_state 119 = .ok (.ireturn, 1) := by decide +kernel
theorem dX9_latest_0 : decode cX9_latest 0 = .ok (.bipush (-9), 2) := by decide +kernel
theorem dX9_latest_2 : decode cX9_latest 2 = .ok (.istore 4, 2) := by decide +kernel
theorem dX9_latest_4 : decode cX9_latest 4 = .ok (.iconst 0, 1) := by decide +kernel
theorem dX9_latest_5 : decode cX9_latest 5 = .ok (.istore 5, 2) := by decide +kernel
theorem dX9_latest_7 : decode cX9_latest 7 = .ok (.iload 5, 2) := by decide +kernel
theorem dX9_latest_9 : decode cX9_latest 9 = .ok (.aload_n 0, 1) := by decide +kernel
theorem dX9_latest_10 : decode cX9_latest 10 = .ok (.getfield 246, 3) := by decide +kernel
theorem dX9_latest_13 : decode cX9_latest 13 = .ok (.if_icmp .ge 45, 3) := by decide +kernel
theorem dX9_latest_16 : decode cX9_latest 16 = .ok (.aload_n 0, 1) := by decide +kernel
theorem dX9_latest_17 : decode cX9_latest 17 = .ok (.getfield 65, 3) := by decide +kernel
theorem dX9_latest_20 : decode cX9_latest 20 = .ok (.iload 5, 2) := by decide +kernel
theorem dX9_latest_22 : decode cX9_latest 22 = .ok (.iaload, 1) := by decide +kernel
theorem dX9_latest_23 : decode cX9_latest 23 = .ok (.iload_n 1, 1) := by decide +kernel
theorem dX9_latest_24 : decode cX9_latest 24 = .ok (.if_icmp .ne 24, 3) := by decide +kernel
theorem dX9_latest_27 : decode cX9_latest 27 = .ok (.aload_n 0, 1) := by decide +kernel
theorem dX9_latest_28 : decode cX9_latest 28 = .ok (.aload_n 0, 1) := by decide +kernel
theorem dX9_latest_29 : decode cX9_latest 29 = .ok (.getfield 74, 3) := by decide +kernel
theorem dX9_latest_32 : decode cX9_latest 32 = .ok (.iload 5, 2) := by decide +kernel
theorem dX9_latest_34 : decode cX9_latest 34 = .ok (.iaload, 1) := by decide +kernel
theorem dX9_latest_35 : decode cX9_latest 35 = .ok (.iload_n 3, 1) := by decide +kernel
theorem dX9_latest_36 : decode cX9_latest 36 = .ok (.iload_n 2, 1) := by decide +kernel
theorem dX9_latest_37 : decode cX9_latest 37 = .ok (.invokevirtual 229, 3) := by decide +kernel
theorem dX9_latest_40 : decode cX9_latest 40 = .ok (.ifCond .eq 8, 3) := by decide +kernel
theorem dX9_latest_43 : decode cX9_latest 43 = .ok (.iload 5, 2) := by decide +kernel
theorem dX9_latest_45 : decode cX9_latest 45 = .ok (.goto 5, 3) := by decide +kernel
theorem dX9_latest_48 : decode cX9_latest 48 = .ok (.iload 4, 2) := by decide +kernel
theorem dX9_latest_50 : decode cX9_latest 50 = .ok (.istore 4, 2) := by decide +kernel
theorem dX9_latest_52 : decode cX9_latest 52 = .ok (.iinc 5 1, 3) := by decide +kernel
theorem dX9_latest_55 : decode cX9_latest 55 = .ok (.goto (-48), 3) := by decide +kernel
theorem dX9_latest_58 : decode cX9_latest 58 = .ok (.iload 4, 2) := by decide +kernel
theorem dX9_latest_60 : decode cX9_latest 60 = .ok (.ireturn, 1) := by decide +kernel
theorem dX9_stateAt_0 : decode cX9_stateAt 0 = .ok (.aload_n 0, 1) := by decide +kernel
theorem dX9_stateAt_1 : decode cX9_stateAt 1 = .ok (.iload_n 1, 1) := by decide +kernel
theorem dX9_stateAt_2 : decode cX9_stateAt 2 = .ok (.iload_n 2, 1) := by decide +kernel
theorem dX9_stateAt_3 : decode cX9_stateAt 3 = .ok (.iload_n 3, 1) := by decide +kernel
theorem dX9_stateAt_4 : decode cX9_stateAt 4 = .ok (.invokevirtual 249, 3) := by decide +kernel
theorem dX9_stateAt_7 : decode cX9_stateAt 7 = .ok (.istore 4, 2) := by decide +kernel
theorem dX9_stateAt_9 : decode cX9_stateAt 9 = .ok (.iload 4, 2) := by decide +kernel
theorem dX9_stateAt_11 : decode cX9_stateAt 11 = .ok (.ifCond .ge 7, 3) := by decide +kernel
theorem dX9_stateAt_14 : decode cX9_stateAt 14 = .ok (.iconst 0, 1) := by decide +kernel
theorem dX9_stateAt_15 : decode cX9_stateAt 15 = .ok (.goto 10, 3) := by decide +kernel
theorem dX9_stateAt_18 : decode cX9_stateAt 18 = .ok (.aload_n 0, 1) := by decide +kernel
theorem dX9_stateAt_19 : decode cX9_stateAt 19 = .ok (.getfield 68, 3) := by decide +kernel
theorem dX9_stateAt_22 : decode cX9_stateAt 22 = .ok (.iload 4, 2) := by decide +kernel
theorem dX9_stateAt_24 : decode cX9_stateAt 24 = .ok (.iaload, 1) := by decide +kernel
theorem dX9_stateAt_25 : decode cX9_stateAt 25 = .ok (.ireturn, 1) := by decide +kernel
theorem dX9_stateOf_0 : decode cX9_stateOf 0 = .ok (.aload_n 0, 1) := by decide +kernel
theorem dX9_stateOf_1 : decode cX9_stateOf 1 = .ok (.iload_n 1, 1) := by decide +kernel
theorem dX9_stateOf_2 : decode cX9_stateOf 2 = .ok (.invokevirtual 241, 3) := by decide +kernel
theorem dX9_stateOf_5 : decode cX9_stateOf 5 = .ok (.ifCond .eq 16, 3) := by decide +kernel
theorem dX9_stateOf_8 : decode cX9_stateOf 8 = .ok (.iload_n 3, 1) := by decide +kernel
theorem dX9_stateOf_9 : decode cX9_stateOf 9 = .ok (.iconst (-1), 1) := by decide +kernel
theorem dX9_stateOf_10 : decode cX9_stateOf 10 = .ok (.if_icmp .eq 17, 3) := by decide +kernel
theorem dX9_stateOf_13 : decode cX9_stateOf 13 = .ok (.aload_n 0, 1) := by decide +kernel
theorem dX9_stateOf_14 : decode cX9_stateOf 14 = .ok (.iload_n 3, 1) := by decide +kernel
theorem dX9_stateOf_15 : decode cX9_stateOf 15 = .ok (.invokevirtual 196, 3) := by decide +kernel
theorem dX9_stateOf_18 : decode cX9_stateOf 18 = .ok (.ifCond .ne 9, 3) := by decide +kernel
theorem dX9_stateOf_21 : decode cX9_stateOf 21 = .ok (.aload_n 0, 1) := by decide +kernel
theorem dX9_stateOf_22 : decode cX9_stateOf 22 = .ok (.iconst (-1), 1) := by decide +kernel
theorem dX9_stateOf_23 : decode cX9_stateOf 23 = .ok (.invokevirtual 192, 3) := by decide +kernel
theorem dX9_stateOf_26 : decode cX9_stateOf 26 = .ok (.ireturn, 1) := by decide +kernel
theorem dX9_stateOf_27 : decode cX9_stateOf 27 = .ok (.iload_n 2, 1) := by decide +kernel
theorem dX9_stateOf_28 : decode cX9_stateOf 28 = .ok (.i2l, 1) := by decide +kernel
theorem dX9_stateOf_29 : decode cX9_stateOf 29 = .ok (.lconst 0, 1) := by decide +kernel
theorem dX9_stateOf_30 : decode cX9_stateOf 30 = .ok (.ldc2_w 233, 3) := by decide +kernel
theorem dX9_stateOf_33 : decode cX9_stateOf 33 = .ok (.invokestatic 188, 3) := by decide +kernel
theorem dX9_stateOf_36 : decode cX9_stateOf 36 = .ok (.istore 4, 2) := by decide +kernel
theorem dX9_stateOf_38 : decode cX9_stateOf 38 = .ok (.iload 4, 2) := by decide +kernel
theorem dX9_stateOf_40 : decode cX9_stateOf 40 = .ok (.ifCond .eq 10, 3) := by decide +kernel
theorem dX9_stateOf_43 : decode cX9_stateOf 43 = .ok (.aload_n 0, 1) := by decide +kernel
theorem dX9_stateOf_44 : decode cX9_stateOf 44 = .ok (.iload 4, 2) := by decide +kernel
theorem dX9_stateOf_46 : decode cX9_stateOf 46 = .ok (.invokevirtual 192, 3) := by decide +kernel
theorem dX9_stateOf_49 : decode cX9_stateOf 49 = .ok (.ireturn, 1) := by decide +kernel
theorem dX9_stateOf_50 : decode cX9_stateOf 50 = .ok (.aload_n 0, 1) := by decide +kernel
theorem dX9_stateOf_51 : decode cX9_stateOf 51 = .ok (.invokevirtual 214, 3) := by decide +kernel
theorem dX9_stateOf_54 : decode cX9_stateOf 54 = .ok (.aload_n 0, 1) := by decide +kernel
theorem dX9_stateOf_55 : decode cX9_stateOf 55 = .ok (.iload_n 1, 1) := by decide +kernel
theorem dX9_stateOf_56 : decode cX9_stateOf 56 = .ok (.iload_n 2, 1) := by decide +kernel
theorem dX9_stateOf_57 : decode cX9_stateOf 57 = .ok (.iload_n 3, 1) := by decide +kernel
theorem dX9_stateOf_58 : decode cX9_stateOf 58 = .ok (.invokevirtual 252, 3) := by decide +kernel
theorem dX9_stateOf_61 : decode cX9_stateOf 61 = .ok (.ireturn, 1) := by decide +kernel
theorem dX9_whereIs_0 : decode cX9_whereIs 0 = .ok (.aload_n 0, 1) := by decide +kernel
theorem dX9_whereIs_1 : decode cX9_whereIs 1 = .ok (.iload_n 1, 1) := by decide +kernel
theorem dX9_whereIs_2 : decode cX9_whereIs 2 = .ok (.iload_n 2, 1) := by decide +kernel
theorem dX9_whereIs_3 : decode cX9_whereIs 3 = .ok (.iconst (-1), 1) := by decide +kernel
theorem dX9_whereIs_4 : decode cX9_whereIs 4 = .ok (.invokevirtual 249, 3) := by decide +kernel
theorem dX9_whereIs_7 : decode cX9_whereIs 7 = .ok (.istore_n 3, 1) := by decide +kernel
theorem dX9_whereIs_8 : decode cX9_whereIs 8 = .ok (.iload_n 3, 1) := by decide +kernel
theorem dX9_whereIs_9 : decode cX9_whereIs 9 = .ok (.ifCond .ge 7, 3) := by decide +kernel
theorem dX9_whereIs_12 : decode cX9_whereIs 12 = .ok (.iconst 0, 1) := by decide +kernel
theorem dX9_whereIs_13 : decode cX9_whereIs 13 = .ok (.goto 9, 3) := by decide +kernel
theorem dX9_whereIs_16 : decode cX9_whereIs 16 = .ok (.aload_n 0, 1) := by decide +kernel
theorem dX9_whereIs_17 : decode cX9_whereIs 17 = .ok (.getfield 68, 3) := by decide +kernel
theorem dX9_whereIs_20 : decode cX9_whereIs 20 = .ok (.iload_n 3, 1) := by decide +kernel
theorem dX9_whereIs_21 : decode cX9_whereIs 21 = .ok (.iaload, 1) := by decide +kernel
theorem dX9_whereIs_22 : decode cX9_whereIs 22 = .ok (.istore 4, 2) := by decide +kernel
theorem dX9_whereIs_24 : decode cX9_whereIs 24 = .ok (.iload 4, 2) := by decide +kernel
theorem dX9_whereIs_26 : decode cX9_whereIs 26 = .ok (.ifCond .ne 18, 3) := by decide +kernel
theorem dX9_whereIs_29 : decode cX9_whereIs 29 = .ok (.aload_n 0, 1) := by decide +kernel
theorem dX9_whereIs_30 : decode cX9_whereIs 30 = .ok (.aload_n 0, 1) := by decide +kernel
theorem dX9_whereIs_31 : decode cX9_whereIs 31 = .ok (.getfield 59, 3) := by decide +kernel
theorem dX9_whereIs_34 : decode cX9_whereIs 34 = .ok (.iload_n 1, 1) := by decide +kernel
theorem dX9_whereIs_35 : decode cX9_whereIs 35 = .ok (.iaload, 1) := by decide +kernel
theorem dX9_whereIs_36 : decode cX9_whereIs 36 = .ok (.iload_n 2, 1) := by decide +kernel
theorem dX9_whereIs_37 : decode cX9_whereIs 37 = .ok (.iconst (-1), 1) := by decide +kernel
theorem dX9_whereIs_38 : decode cX9_whereIs 38 = .ok (.invokevirtual 235, 3) := by decide +kernel
theorem dX9_whereIs_41 : decode cX9_whereIs 41 = .ok (.goto 20, 3) := by decide +kernel
theorem dX9_whereIs_44 : decode cX9_whereIs 44 = .ok (.iload 4, 2) := by decide +kernel
theorem dX9_whereIs_46 : decode cX9_whereIs 46 = .ok (.iconst 1, 1) := by decide +kernel
theorem dX9_whereIs_47 : decode cX9_whereIs 47 = .ok (.if_icmp .ne 12, 3) := by decide +kernel
theorem dX9_whereIs_50 : decode cX9_whereIs 50 = .ok (.aload_n 0, 1) := by decide +kernel
theorem dX9_whereIs_51 : decode cX9_whereIs 51 = .ok (.getfield 71, 3) := by decide +kernel
theorem dX9_whereIs_54 : decode cX9_whereIs 54 = .ok (.iload_n 3, 1) := by decide +kernel
theorem dX9_whereIs_55 : decode cX9_whereIs 55 = .ok (.iaload, 1) := by decide +kernel
theorem dX9_whereIs_56 : decode cX9_whereIs 56 = .ok (.goto 5, 3) := by decide +kernel
theorem dX9_whereIs_59 : decode cX9_whereIs 59 = .ok (.bipush (-9), 2) := by decide +kernel
theorem dX9_whereIs_61 : decode cX9_whereIs 61 = .ok (.ireturn, 1) := by decide +kernel
theorem dX9_manAt_0 : decode cX9_manAt 0 = .ok (.aload_n 0, 1) := by decide +kernel
theorem dX9_manAt_1 : decode cX9_manAt 1 = .ok (.iload_n 1, 1) := by decide +kernel
theorem dX9_manAt_2 : decode cX9_manAt 2 = .ok (.invokevirtual 241, 3) := by decide +kernel
theorem dX9_manAt_5 : decode cX9_manAt 5 = .ok (.ifCond .eq 15, 3) := by decide +kernel
theorem dX9_manAt_8 : decode cX9_manAt 8 = .ok (.aload_n 0, 1) := by decide +kernel
theorem dX9_manAt_9 : decode cX9_manAt 9 = .ok (.iload_n 1, 1) := by decide +kernel
theorem dX9_manAt_10 : decode cX9_manAt 10 = .ok (.aload_n 0, 1) := by decide +kernel
theorem dX9_manAt_11 : decode cX9_manAt 11 = .ok (.getfield 207, 3) := by decide +kernel
theorem dX9_manAt_14 : decode cX9_manAt 14 = .ok (.invokevirtual 255, 3) := by decide +kernel
theorem dX9_manAt_17 : decode cX9_manAt 17 = .ok (.goto 8, 3) := by decide +kernel
theorem dX9_manAt_20 : decode cX9_manAt 20 = .ok (.aload_n 0, 1) := by decide +kernel
theorem dX9_manAt_21 : decode cX9_manAt 21 = .ok (.iconst (-1), 1) := by decide +kernel
theorem dX9_manAt_22 : decode cX9_manAt 22 = .ok (.invokevirtual 192, 3) := by decide +kernel
theorem dX9_manAt_25 : decode cX9_manAt 25 = .ok (.ireturn, 1) := by decide +kernel
theorem dX9_isMail_0 : decode cX9_isMail 0 = .ok (.iload_n 1, 1) := by decide +kernel
theorem dX9_isMail_1 : decode cX9_isMail 1 = .ok (.ifCond .lt 15, 3) := by decide +kernel
theorem dX9_isMail_4 : decode cX9_isMail 4 = .ok (.iload_n 1, 1) := by decide +kernel
theorem dX9_isMail_5 : decode cX9_isMail 5 = .ok (.aload_n 0, 1) := by decide +kernel
theorem dX9_isMail_6 : decode cX9_isMail 6 = .ok (.getfield 259, 3) := by decide +kernel
theorem dX9_isMail_9 : decode cX9_isMail 9 = .ok (.if_icmp .ge 7, 3) := by decide +kernel
theorem dX9_isMail_12 : decode cX9_isMail 12 = .ok (.iconst 1, 1) := by decide +kernel
theorem dX9_isMail_13 : decode cX9_isMail 13 = .ok (.goto 4, 3) := by decide +kernel
theorem dX9_isMail_16 : decode cX9_isMail 16 = .ok (.iconst 0, 1) := by decide +kernel
theorem dX9_isMail_17 : decode cX9_isMail 17 = .ok (.ireturn, 1) := by decide +kernel
theorem dX9_mail_0 : decode cX9_mail 0 = .ok (.iload_n 1, 1) := by decide +kernel
theorem dX9_mail_1 : decode cX9_mail 1 = .ok (.i2l, 1) := by decide +kernel
theorem dX9_mail_2 : decode cX9_mail 2 = .ok (.lconst 0, 1) := by decide +kernel
theorem dX9_mail_3 : decode cX9_mail 3 = .ok (.ldc2_w 262, 3) := by decide +kernel
theorem dX9_mail_6 : decode cX9_mail 6 = .ok (.invokestatic 203, 3) := by decide +kernel
theorem dX9_mail_9 : decode cX9_mail 9 = .ok (.ifCond .ne 10, 3) := by decide +kernel
theorem dX9_mail_12 : decode cX9_mail 12 = .ok (.aload_n 0, 1) := by decide +kernel
theorem dX9_mail_13 : decode cX9_mail 13 = .ok (.bipush (-2), 2) := by decide +kernel
theorem dX9_mail_15 : decode cX9_mail 15 = .ok (.invokevirtual 192, 3) := by decide +kernel
theorem dX9_mail_18 : decode cX9_mail 18 = .ok (.ireturn, 1) := by decide +kernel
theorem dX9_mail_19 : decode cX9_mail 19 = .ok (.aload_n 0, 1) := by decide +kernel
theorem dX9_mail_20 : decode cX9_mail 20 = .ok (.iload_n 2, 1) := by decide +kernel
theorem dX9_mail_21 : decode cX9_mail 21 = .ok (.invokevirtual 196, 3) := by decide +kernel
theorem dX9_mail_24 : decode cX9_mail 24 = .ok (.ifCond .eq 11, 3) := by decide +kernel
theorem dX9_mail_27 : decode cX9_mail 27 = .ok (.aload_n 0, 1) := by decide +kernel
theorem dX9_mail_28 : decode cX9_mail 28 = .ok (.iload_n 3, 1) := by decide +kernel
theorem dX9_mail_29 : decode cX9_mail 29 = .ok (.invokevirtual 241, 3) := by decide +kernel
theorem dX9_mail_32 : decode cX9_mail 32 = .ok (.ifCond .ne 9, 3) := by decide +kernel
theorem dX9_mail_35 : decode cX9_mail 35 = .ok (.aload_n 0, 1) := by decide +kernel
theorem dX9_mail_36 : decode cX9_mail 36 = .ok (.iconst (-1), 1) := by decide +kernel
theorem dX9_mail_37 : decode cX9_mail 37 = .ok (.invokevirtual 192, 3) := by decide +kernel
theorem dX9_mail_40 : decode cX9_mail 40 = .ok (.ireturn, 1) := by decide +kernel
theorem dX9_mail_41 : decode cX9_mail 41 = .ok (.iload 4, 2) := by decide +kernel
theorem dX9_mail_43 : decode cX9_mail 43 = .ok (.iload_n 1, 1) := by decide +kernel
theorem dX9_mail_44 : decode cX9_mail 44 = .ok (.iconst 1, 1) := by decide +kernel
theorem dX9_mail_45 : decode cX9_mail 45 = .ok (.if_icmp .ne 7, 3) := by decide +kernel
theorem dX9_mail_48 : decode cX9_mail 48 = .ok (.iconst 1, 1) := by decide +kernel
theorem dX9_mail_49 : decode cX9_mail 49 = .ok (.goto 4, 3) := by decide +kernel
theorem dX9_mail_52 : decode cX9_mail 52 = .ok (.iconst 0, 1) := by decide +kernel
theorem dX9_mail_53 : decode cX9_mail 53 = .ok (.if_icmp .ge 8, 3) := by decide +kernel
theorem dX9_mail_56 : decode cX9_mail 56 = .ok (.bipush (-4), 2) := by decide +kernel
theorem dX9_mail_58 : decode cX9_mail 58 = .ok (.goto 46, 3) := by decide +kernel
theorem dX9_mail_61 : decode cX9_mail 61 = .ok (.iload 4, 2) := by decide +kernel
theorem dX9_mail_63 : decode cX9_mail 63 = .ok (.iload_n 1, 1) := by decide +kernel
theorem dX9_mail_64 : decode cX9_mail 64 = .ok (.ifCond .ne 8, 3) := by decide +kernel
theorem dX9_mail_67 : decode cX9_mail 67 = .ok (.bipush 99, 2) := by decide +kernel
theorem dX9_mail_69 : decode cX9_mail 69 = .ok (.goto 17, 3) := by decide +kernel
theorem dX9_mail_72 : decode cX9_mail 72 = .ok (.iload_n 1, 1) := by decide +kernel
theorem dX9_mail_73 : decode cX9_mail 73 = .ok (.iconst 1, 1) := by decide +kernel
theorem dX9_mail_74 : decode cX9_mail 74 = .ok (.if_icmp .ne 9, 3) := by decide +kernel
theorem dX9_mail_77 : decode cX9_mail 77 = .ok (.sipush 999, 3) := by decide +kernel
theorem dX9_mail_80 : decode cX9_mail 80 = .ok (.goto 6, 3) := by decide +kernel
theorem dX9_mail_83 : decode cX9_mail 83 = .ok (.sipush 9999, 3) := by decide +kernel
theorem dX9_mail_86 : decode cX9_mail 86 = .ok (.if_icmp .gt 12, 3) := by decide +kernel
theorem dX9_mail_89 : decode cX9_mail 89 = .ok (.aload_n 0, 1) := by decide +kernel
theorem dX9_mail_90 : decode cX9_mail 90 = .ok (.getfield 259, 3) := by decide +kernel
theorem dX9_mail_93 : decode cX9_mail 93 = .ok (.bipush 60, 2) := by decide +kernel
theorem dX9_mail_95 : decode cX9_mail 95 = .ok (.if_icmp .ne 8, 3) := by decide +kernel
theorem dX9_mail_98 : decode cX9_mail 98 = .ok (.bipush (-6), 2) := by decide +kernel
theorem dX9_mail_100 : decode cX9_mail 100 = .ok (.goto 4, 3) := by decide +kernel
theorem dX9_mail_103 : decode cX9_mail 103 = .ok (.iconst 0, 1) := by decide +kernel
theorem dX9_mail_104 : decode cX9_mail 104 = .ok (.istore 5, 2) := by decide +kernel
theorem dX9_mail_106 : decode cX9_mail 106 = .ok (.iload 5, 2) := by decide +kernel
theorem dX9_mail_108 : decode cX9_mail 108 = .ok (.ifCond .eq 10, 3) := by decide +kernel
theorem dX9_mail_111 : decode cX9_mail 111 = .ok (.aload_n 0, 1) := by decide +kernel
theorem dX9_mail_112 : decode cX9_mail 112 = .ok (.iload 5, 2) := by decide +kernel
theorem dX9_mail_114 : decode cX9_mail 114 = .ok (.invokevirtual 192, 3) := by decide +kernel
theorem dX9_mail_117 : decode cX9_mail 117 = .ok (.ireturn, 1) := by decide +kernel
theorem dX9_mail_118 : decode cX9_mail 118 = .ok (.aload_n 0, 1) := by decide +kernel
theorem dX9_mail_119 : decode cX9_mail 119 = .ok (.getfield 259, 3) := by decide +kernel
theorem dX9_mail_122 : decode cX9_mail 122 = .ok (.istore 6, 2) := by decide +kernel
theorem dX9_mail_124 : decode cX9_mail 124 = .ok (.aload_n 0, 1) := by decide +kernel
theorem dX9_mail_125 : decode cX9_mail 125 = .ok (.getfield 77, 3) := by decide +kernel
theorem dX9_mail_128 : decode cX9_mail 128 = .ok (.iload 6, 2) := by decide +kernel
theorem dX9_mail_130 : decode cX9_mail 130 = .ok (.iload_n 1, 1) := by decide +kernel
theorem dX9_mail_131 : decode cX9_mail 131 = .ok (.iastore, 1) := by decide +kernel
theorem dX9_mail_132 : decode cX9_mail 132 = .ok (.aload_n 0, 1) := by decide +kernel
theorem dX9_mail_133 : decode cX9_mail 133 = .ok (.getfield 83, 3) := by decide +kernel
theorem dX9_mail_136 : decode cX9_mail 136 = .ok (.iload 6, 2) := by decide +kernel
theorem dX9_mail_138 : decode cX9_mail 138 = .ok (.aload_n 0, 1) := by decide +kernel
theorem dX9_mail_139 : decode cX9_mail 139 = .ok (.getfield 207, 3) := by decide +kernel
theorem dX9_mail_142 : decode cX9_mail 142 = .ok (.iastore, 1) := by decide +kernel
theorem dX9_mail_143 : decode cX9_mail 143 = .ok (.aload_n 0, 1) := by decide +kernel
theorem dX9_mail_144 : decode cX9_mail 144 = .ok (.getfield 80, 3) := by decide +kernel
theorem dX9_mail_147 : decode cX9_mail 147 = .ok (.iload 6, 2) := by decide +kernel
theorem dX9_mail_149 : decode cX9_mail 149 = .ok (.iload_n 2, 1) := by decide +kernel
theorem dX9_mail_150 : decode cX9_mail 150 = .ok (.iastore, 1) := by decide +kernel
theorem dX9_mail_151 : decode cX9_mail 151 = .ok (.aload_n 0, 1) := by decide +kernel
theorem dX9_mail_152 : decode cX9_mail 152 = .ok (.getfield 86, 3) := by decide +kernel
theorem dX9_mail_155 : decode cX9_mail 155 = .ok (.iload 6, 2) := by decide +kernel
theorem dX9_mail_157 : decode cX9_mail 157 = .ok (.iload_n 3, 1) := by decide +kernel
theorem dX9_mail_158 : decode cX9_mail 158 = .ok (.iastore, 1) := by decide +kernel
theorem dX9_mail_159 : decode cX9_mail 159 = .ok (.aload_n 0, 1) := by decide +kernel
theorem dX9_mail_160 : decode cX9_mail 160 = .ok (.getfield 89, 3) := by decide +kernel
theorem dX9_mail_163 : decode cX9_mail 163 = .ok (.iload 6, 2) := by decide +kernel
theorem dX9_mail_165 : decode cX9_mail 165 = .ok (.iload 4, 2) := by decide +kernel
theorem dX9_mail_167 : decode cX9_mail 167 = .ok (.iastore, 1) := by decide +kernel
theorem dX9_mail_168 : decode cX9_mail 168 = .ok (.aload_n 0, 1) := by decide +kernel
theorem dX9_mail_169 : decode cX9_mail 169 = .ok (.dup, 1) := by decide +kernel
theorem dX9_mail_170 : decode cX9_mail 170 = .ok (.getfield 259, 3) := by decide +kernel
theorem dX9_mail_173 : decode cX9_mail 173 = .ok (.iconst 1, 1) := by decide +kernel
theorem dX9_mail_174 : decode cX9_mail 174 = .ok (.iadd, 1) := by decide +kernel
theorem dX9_mail_175 : decode cX9_mail 175 = .ok (.putfield 259, 3) := by decide +kernel
theorem dX9_mail_178 : decode cX9_mail 178 = .ok (.aload_n 0, 1) := by decide +kernel
theorem dX9_mail_179 : decode cX9_mail 179 = .ok (.iload 6, 2) := by decide +kernel
theorem dX9_mail_181 : decode cX9_mail 181 = .ok (.iload_n 2, 1) := by decide +kernel
theorem dX9_mail_182 : decode cX9_mail 182 = .ok (.aload_n 0, 1) := by decide +kernel
theorem dX9_mail_183 : decode cX9_mail 183 = .ok (.getfield 207, 3) := by decide +kernel
theorem dX9_mail_186 : decode cX9_mail 186 = .ok (.invokevirtual 264, 3) := by decide +kernel
theorem dX9_mail_189 : decode cX9_mail 189 = .ok (.iload 6, 2) := by decide +kernel
theorem dX9_mail_191 : decode cX9_mail 191 = .ok (.ireturn, 1) := by decide +kernel
theorem dX9_comes_0 : decode cX9_comes 0 = .ok (.aload_n 0, 1) := by decide +kernel
theorem dX9_comes_1 : decode cX9_comes 1 = .ok (.getfield 92, 3) := by decide +kernel
theorem dX9_comes_4 : decode cX9_comes 4 = .ok (.iload_n 1, 1) := by decide +kernel
theorem dX9_comes_5 : decode cX9_comes 5 = .ok (.iconst 0, 1) := by decide +kernel
theorem dX9_comes_6 : decode cX9_comes 6 = .ok (.iastore, 1) := by decide +kernel
theorem dX9_comes_7 : decode cX9_comes 7 = .ok (.aload_n 0, 1) := by decide +kernel
theorem dX9_comes_8 : decode cX9_comes 8 = .ok (.getfield 95, 3) := by decide +kernel
theorem dX9_comes_11 : decode cX9_comes 11 = .ok (.iload_n 1, 1) := by decide +kernel
theorem dX9_comes_12 : decode cX9_comes 12 = .ok (.iload_n 2, 1) := by decide +kernel
theorem dX9_comes_13 : decode cX9_comes 13 = .ok (.iastore, 1) := by decide +kernel
theorem dX9_comes_14 : decode cX9_comes 14 = .ok (.aload_n 0, 1) := by decide +kernel
theorem dX9_comes_15 : decode cX9_comes 15 = .ok (.getfield 98, 3) := by decide +kernel
theorem dX9_comes_18 : decode cX9_comes 18 = .ok (.iload_n 1, 1) := by decide +kernel
theorem dX9_comes_19 : decode cX9_comes 19 = .ok (.iload_n 3, 1) := by decide +kernel
theorem dX9_comes_20 : decode cX9_comes 20 = .ok (.iastore, 1) := by decide +kernel
theorem dX9_comes_21 : decode cX9_comes 21 = .ok (.aload_n 0, 1) := by decide +kernel
theorem dX9_comes_22 : decode cX9_comes 22 = .ok (.getfield 104, 3) := by decide +kernel
theorem dX9_comes_25 : decode cX9_comes 25 = .ok (.iload_n 1, 1) := by decide +kernel
theorem dX9_comes_26 : decode cX9_comes 26 = .ok (.iaload, 1) := by decide +kernel
theorem dX9_comes_27 : decode cX9_comes 27 = .ok (.bipush 40, 2) := by decide +kernel
theorem dX9_comes_29 : decode cX9_comes 29 = .ok (.if_icmp .ge 20, 3) := by decide +kernel
theorem dX9_comes_32 : decode cX9_comes 32 = .ok (.aload_n 0, 1) := by decide +kernel
theorem dX9_comes_33 : decode cX9_comes 33 = .ok (.getfield 107, 3) := by decide +kernel
theorem dX9_comes_36 : decode cX9_comes 36 = .ok (.bipush 40, 2) := by decide +kernel
theorem dX9_comes_38 : decode cX9_comes 38 = .ok (.iload_n 1, 1) := by decide +kernel
theorem dX9_comes_39 : decode cX9_comes 39 = .ok (.imul, 1) := by decide +kernel
theorem dX9_comes_40 : decode cX9_comes 40 = .ok (.aload_n 0, 1) := by decide +kernel
theorem dX9_comes_41 : decode cX9_comes 41 = .ok (.getfield 104, 3) := by decide +kernel
theorem dX9_comes_44 : decode cX9_comes 44 = .ok (.iload_n 1, 1) := by decide +kernel
theorem dX9_comes_45 : decode cX9_comes 45 = .ok (.iaload, 1) := by decide +kernel
theorem dX9_comes_46 : decode cX9_comes 46 = .ok (.iadd, 1) := by decide +kernel
theorem dX9_comes_47 : decode cX9_comes 47 = .ok (.iload_n 2, 1) := by decide +kernel
theorem dX9_comes_48 : decode cX9_comes 48 = .ok (.iastore, 1) := by decide +kernel
theorem dX9_comes_49 : decode cX9_comes 49 = .ok (.aload_n 0, 1) := by decide +kernel
theorem dX9_comes_50 : decode cX9_comes 50 = .ok (.getfield 104, 3) := by decide +kernel
theorem dX9_comes_53 : decode cX9_comes 53 = .ok (.iload_n 1, 1) := by decide +kernel
theorem dX9_comes_54 : decode cX9_comes 54 = .ok (.dup2, 1) := by decide +kernel
theorem dX9_comes_55 : decode cX9_comes 55 = .ok (.iaload, 1) := by decide +kernel
theorem dX9_comes_56 : decode cX9_comes 56 = .ok (.iconst 1, 1) := by decide +kernel
theorem dX9_comes_57 : decode cX9_comes 57 = .ok (.iadd, 1) := by decide +kernel
theorem dX9_comes_58 : decode cX9_comes 58 = .ok (.iastore, 1) := by decide +kernel
theorem dX9_comes_59 : decode cX9_comes 59 = .ok (.return_, 1) := by decide +kernel
theorem dX9_feed_0 : decode cX9_feed 0 = .ok (.iload_n 1, 1) := by decide +kernel
theorem dX9_feed_1 : decode cX9_feed 1 = .ok (.i2l, 1) := by decide +kernel
theorem dX9_feed_2 : decode cX9_feed 2 = .ok (.lconst 1, 1) := by decide +kernel
theorem dX9_feed_3 : decode cX9_feed 3 = .ok (.ldc2_w 268, 3) := by decide +kernel
theorem dX9_feed_6 : decode cX9_feed 6 = .ok (.invokestatic 188, 3) := by decide +kernel
theorem dX9_feed_9 : decode cX9_feed 9 = .ok (.istore 4, 2) := by decide +kernel
theorem dX9_feed_11 : decode cX9_feed 11 = .ok (.iload 4, 2) := by decide +kernel
theorem dX9_feed_13 : decode cX9_feed 13 = .ok (.ifCond .ne 18, 3) := by decide +kernel
theorem dX9_feed_16 : decode cX9_feed 16 = .ok (.aload_n 0, 1) := by decide +kernel
theorem dX9_feed_17 : decode cX9_feed 17 = .ok (.getfield 270, 3) := by decide +kernel
theorem dX9_feed_20 : decode cX9_feed 20 = .ok (.iload_n 1, 1) := by decide +kernel
theorem dX9_feed_21 : decode cX9_feed 21 = .ok (.iadd, 1) := by decide +kernel
theorem dX9_feed_22 : decode cX9_feed 22 = .ok (.bipush 60, 2) := by decide +kernel
theorem dX9_feed_24 : decode cX9_feed 24 = .ok (.if_icmp .le 7, 3) := by decide +kernel
theorem dX9_feed_27 : decode cX9_feed 27 = .ok (.bipush (-6), 2) := by decide +kernel
theorem dX9_feed_29 : decode cX9_feed 29 = .ok (.istore 4, 2) := by decide +kernel
theorem dX9_feed_31 : decode cX9_feed 31 = .ok (.iload 4, 2) := by decide +kernel
theorem dX9_feed_33 : decode cX9_feed 33 = .ok (.ifCond .eq 10, 3) := by decide +kernel
theorem dX9_feed_36 : decode cX9_feed 36 = .ok (.aload_n 0, 1) := by decide +kernel
theorem dX9_feed_37 : decode cX9_feed 37 = .ok (.iload 4, 2) := by decide +kernel
theorem dX9_feed_39 : decode cX9_feed 39 = .ok (.invokevirtual 192, 3) := by decide +kernel
theorem dX9_feed_42 : decode cX9_feed 42 = .ok (.ireturn, 1) := by decide +kernel
theorem dX9_feed_43 : decode cX9_feed 43 = .ok (.iconst 0, 1) := by decide +kernel
theorem dX9_feed_44 : decode cX9_feed 44 = .ok (.istore 5, 2) := by decide +kernel
theorem dX9_feed_46 : decode cX9_feed 46 = .ok (.iload 5, 2) := by decide +kernel
theorem dX9_feed_48 : decode cX9_feed 48 = .ok (.iload_n 1, 1) := by decide +kernel
theorem dX9_feed_49 : decode cX9_feed 49 = .ok (.if_icmp .ge 40, 3) := by decide +kernel
theorem dX9_feed_52 : decode cX9_feed 52 = .ok (.aload_n 0, 1) := by decide +kernel
theorem dX9_feed_53 : decode cX9_feed 53 = .ok (.getfield 120, 3) := by decide +kernel
theorem dX9_feed_56 : decode cX9_feed 56 = .ok (.aload_n 0, 1) := by decide +kernel
theorem dX9_feed_57 : decode cX9_feed 57 = .ok (.getfield 270, 3) := by decide +kernel
theorem dX9_feed_60 : decode cX9_feed 60 = .ok (.lload_n 2, 1) := by decide +kernel
theorem dX9_feed_61 : decode cX9_feed 61 = .ok (.bipush 8, 2) := by decide +kernel
theorem dX9_feed_63 : decode cX9_feed 63 = .ok (.iload 5, 2) := by decide +kernel
theorem dX9_feed_65 : decode cX9_feed 65 = .ok (.imul, 1) := by decide +kernel
theorem dX9_feed_66 : decode cX9_feed 66 = .ok (.lshr, 1) := by decide +kernel
theorem dX9_feed_67 : decode cX9_feed 67 = .ok (.ldc2_w 273, 3) := by decide +kernel
theorem dX9_feed_70 : decode cX9_feed 70 = .ok (.land, 1) := by decide +kernel
theorem dX9_feed_71 : decode cX9_feed 71 = .ok (.l2i, 1) := by decide +kernel
theorem dX9_feed_72 : decode cX9_feed 72 = .ok (.iastore, 1) := by decide +kernel
theorem dX9_feed_73 : decode cX9_feed 73 = .ok (.aload_n 0, 1) := by decide +kernel
theorem dX9_feed_74 : decode cX9_feed 74 = .ok (.dup, 1) := by decide +kernel
theorem dX9_feed_75 : decode cX9_feed 75 = .ok (.getfield 270, 3) := by decide +kernel
theorem dX9_feed_78 : decode cX9_feed 78 = .ok (.iconst 1, 1) := by decide +kernel
theorem dX9_feed_79 : decode cX9_feed 79 = .ok (.iadd, 1) := by decide +kernel
theorem dX9_feed_80 : decode cX9_feed 80 = .ok (.putfield 270, 3) := by decide +kernel
theorem dX9_feed_83 : decode cX9_feed 83 = .ok (.iinc 5 1, 3) := by decide +kernel
theorem dX9_feed_86 : decode cX9_feed 86 = .ok (.goto (-40), 3) := by decide +kernel
theorem dX9_feed_89 : decode cX9_feed 89 = .ok (.aload_n 0, 1) := by decide +kernel
theorem dX9_feed_90 : decode cX9_feed 90 = .ok (.getfield 270, 3) := by decide +kernel
theorem dX9_feed_93 : decode cX9_feed 93 = .ok (.ireturn, 1) := by decide +kernel
theorem dX9_sign_0 : decode cX9_sign 0 = .ok (.aload_n 0, 1) := by decide +kernel
theorem dX9_sign_1 : decode cX9_sign 1 = .ok (.getfield 275, 3) := by decide +kernel
theorem dX9_sign_4 : decode cX9_sign 4 = .ok (.aload_n 0, 1) := by decide +kernel
theorem dX9_sign_5 : decode cX9_sign 5 = .ok (.getfield 270, 3) := by decide +kernel
theorem dX9_sign_8 : decode cX9_sign 8 = .ok (.if_icmp .ge 15, 3) := by decide +kernel
theorem dX9_sign_11 : decode cX9_sign 11 = .ok (.aload_n 0, 1) := by decide +kernel
theorem dX9_sign_12 : decode cX9_sign 12 = .ok (.getfield 120, 3) := by decide +kernel
theorem dX9_sign_15 : decode cX9_sign 15 = .ok (.aload_n 0, 1) := by decide +kernel
theorem dX9_sign_16 : decode cX9_sign 16 = .ok (.getfield 275, 3) := by decide +kernel
theorem dX9_sign_19 : decode cX9_sign 19 = .ok (.iaload, 1) := by decide +kernel
theorem dX9_sign_20 : decode cX9_sign 20 = .ok (.goto 4, 3) := by decide +kernel
theorem dX9_sign_23 : decode cX9_sign 23 = .ok (.iconst (-1), 1) := by decide +kernel
theorem dX9_sign_24 : decode cX9_sign 24 = .ok (.ireturn, 1) := by decide +kernel
theorem dX9_isDigit_0 : decode cX9_isDigit 0 = .ok (.iload_n 0, 1) := by decide +kernel
theorem dX9_isDigit_1 : decode cX9_isDigit 1 = .ok (.bipush 48, 2) := by decide +kernel
theorem dX9_isDigit_3 : decode cX9_isDigit 3 = .ok (.if_icmp .lt 13, 3) := by decide +kernel
theorem dX9_isDigit_6 : decode cX9_isDigit 6 = .ok (.iload_n 0, 1) := by decide +kernel
theorem dX9_isDigit_7 : decode cX9_isDigit 7 = .ok (.bipush 57, 2) := by decide +kernel
theorem dX9_isDigit_9 : decode cX9_isDigit 9 = .ok (.if_icmp .gt 7, 3) := by decide +kernel
theorem dX9_isDigit_12 : decode cX9_isDigit 12 = .ok (.iconst 1, 1) := by decide +kernel
theorem dX9_isDigit_13 : decode cX9_isDigit 13 = .ok (.goto 4, 3) := by decide +kernel
theorem dX9_isDigit_16 : decode cX9_isDigit 16 = .ok (.iconst 0, 1) := by decide +kernel
theorem dX9_isDigit_17 : decode cX9_isDigit 17 = .ok (.ireturn, 1) := by decide +kernel
theorem dX9_isFact_0 : decode cX9_isFact 0 = .ok (.iload_n 0, 1) := by decide +kernel
theorem dX9_isFact_1 : decode cX9_isFact 1 = .ok (.bipush 107, 2) := by decide +kernel
theorem dX9_isFact_3 : decode cX9_isFact 3 = .ok (.if_icmp .eq 51, 3) := by decide +kernel
theorem dX9_isFact_6 : decode cX9_isFact 6 = .ok (.iload_n 0, 1) := by decide +kernel
theorem dX9_isFact_7 : decode cX9_isFact 7 = .ok (.bipush 119, 2) := by decide +kernel
theorem dX9_isFact_9 : decode cX9_isFact 9 = .ok (.if_icmp .eq 45, 3) := by decide +kernel
theorem dX9_isFact_12 : decode cX9_isFact 12 = .ok (.iload_n 0, 1) := by decide +kernel
theorem dX9_isFact_13 : decode cX9_isFact 13 = .ok (.bipush 97, 2) := by decide +kernel
theorem dX9_isFact_15 : decode cX9_isFact 15 = .ok (.if_icmp .eq 39, 3) := by decide +kernel
theorem dX9_isFact_18 : decode cX9_isFact 18 = .ok (.iload_n 0, 1) := by decide +kernel
theorem dX9_isFact_19 : decode cX9_isFact 19 = .ok (.bipush 104, 2) := by decide +kernel
theorem dX9_isFact_21 : decode cX9_isFact 21 = .ok (.if_icmp .eq 33, 3) := by decide +kernel
theorem dX9_isFact_24 : decode cX9_isFact 24 = .ok (.iload_n 0, 1) := by decide +kernel
theorem dX9_isFact_25 : decode cX9_isFact 25 = .ok (.bipush 115, 2) := by decide +kernel
theorem dX9_isFact_27 : decode cX9_isFact 27 = .ok (.if_icmp .eq 27, 3) := by decide +kernel
theorem dX9_isFact_30 : decode cX9_isFact 30 = .ok (.iload_n 0, 1) := by decide +kernel
theorem dX9_isFact_31 : decode cX9_isFact 31 = .ok (.bipush 117, 2) := by decide +kernel
theorem dX9_isFact_33 : decode cX9_isFact 33 = .ok (.if_icmp .eq 21, 3) := by decide +kernel
theorem dX9_isFact_36 : decode cX9_isFact 36 = .ok (.iload_n 0, 1) := by decide +kernel
theorem dX9_isFact_37 : decode cX9_isFact 37 = .ok (.bipush 111, 2) := by decide +kernel
theorem dX9_isFact_39 : decode cX9_isFact 39 = .ok (.if_icmp .eq 15, 3) := by decide +kernel
theorem dX9_isFact_42 : decode cX9_isFact 42 = .ok (.iload_n 0, 1) := by decide +kernel
theorem dX9_isFact_43 : decode cX9_isFact 43 = .ok (.bipush 98, 2) := by decide +kernel
theorem dX9_isFact_45 : decode cX9_isFact 45 = .ok (.if_icmp .eq 9, 3) := by decide +kernel
theorem dX9_isFact_48 : decode cX9_isFact 48 = .ok (.iload_n 0, 1) := by decide +kernel
theorem dX9_isFact_49 : decode cX9_isFact 49 = .ok (.bipush 99, 2) := by decide +kernel
theorem dX9_isFact_51 : decode cX9_isFact 51 = .ok (.if_icmp .ne 7, 3) := by decide +kernel
theorem dX9_isFact_54 : decode cX9_isFact 54 = .ok (.iconst 1, 1) := by decide +kernel
theorem dX9_isFact_55 : decode cX9_isFact 55 = .ok (.goto 4, 3) := by decide +kernel
theorem dX9_isFact_58 : decode cX9_isFact 58 = .ok (.iconst 0, 1) := by decide +kernel
theorem dX9_isFact_59 : decode cX9_isFact 59 = .ok (.ireturn, 1) := by decide +kernel
theorem dX9_unit_0 : decode cX9_unit 0 = .ok (.aload_n 0, 1) := by decide +kernel
theorem dX9_unit_1 : decode cX9_unit 1 = .ok (.invokevirtual 278, 3) := by decide +kernel
theorem dX9_unit_4 : decode cX9_unit 4 = .ok (.invokestatic 282, 3) := by decide +kernel
theorem dX9_unit_7 : decode cX9_unit 7 = .ok (.ifCond .eq 15, 3) := by decide +kernel
theorem dX9_unit_10 : decode cX9_unit 10 = .ok (.aload_n 0, 1) := by decide +kernel
theorem dX9_unit_11 : decode cX9_unit 11 = .ok (.dup, 1) := by decide +kernel
theorem dX9_unit_12 : decode cX9_unit 12 = .ok (.getfield 275, 3) := by decide +kernel
theorem dX9_unit_15 : decode cX9_unit 15 = .ok (.iconst 1, 1) := by decide +kernel
theorem dX9_unit_16 : decode cX9_unit 16 = .ok (.iadd, 1) := by decide +kernel
theorem dX9_unit_17 : decode cX9_unit 17 = .ok (.putfield 275, 3) := by decide +kernel
theorem dX9_unit_20 : decode cX9_unit 20 = .ok (.iconst 1, 1) := by decide +kernel
theorem dX9_unit_21 : decode cX9_unit 21 = .ok (.ireturn, 1) := by decide +kernel
theorem dX9_unit_22 : decode cX9_unit 22 = .ok (.aload_n 0, 1) := by decide +kernel
theorem dX9_unit_23 : decode cX9_unit 23 = .ok (.invokevirtual 278, 3) := by decide +kernel
theorem dX9_unit_26 : decode cX9_unit 26 = .ok (.invokestatic 285, 3) := by decide +kernel
theorem dX9_unit_29 : decode cX9_unit 29 = .ok (.ifCond .ne 5, 3) := by decide +kernel
theorem dX9_unit_32 : decode cX9_unit 32 = .ok (.iconst 0, 1) := by decide +kernel
theorem dX9_unit_33 : decode cX9_unit 33 = .ok (.ireturn, 1) := by decide +kernel
theorem dX9_unit_34 : decode cX9_unit 34 = .ok (.iconst 0, 1) := by decide +kernel
theorem dX9_unit_35 : decode cX9_unit 35 = .ok (.istore_n 1, 1) := by decide +kernel
theorem dX9_unit_36 : decode cX9_unit 36 = .ok (.iload_n 1, 1) := by decide +kernel
theorem dX9_unit_37 : decode cX9_unit 37 = .ok (.iconst 4, 1) := by decide +kernel
theorem dX9_unit_38 : decode cX9_unit 38 = .ok (.if_icmp .ge 29, 3) := by decide +kernel
theorem dX9_unit_41 : decode cX9_unit 41 = .ok (.aload_n 0, 1) := by decide +kernel
theorem dX9_unit_42 : decode cX9_unit 42 = .ok (.invokevirtual 278, 3) := by decide +kernel
theorem dX9_unit_45 : decode cX9_unit 45 = .ok (.invokestatic 285, 3) := by decide +kernel
theorem dX9_unit_48 : decode cX9_unit 48 = .ok (.ifCond .eq 19, 3) := by decide +kernel
theorem dX9_unit_51 : decode cX9_unit 51 = .ok (.aload_n 0, 1) := by decide +kernel
theorem dX9_unit_52 : decode cX9_unit 52 = .ok (.dup, 1) := by decide +kernel
theorem dX9_unit_53 : decode cX9_unit 53 = .ok (.getfield 275, 3) := by decide +kernel
theorem dX9_unit_56 : decode cX9_unit 56 = .ok (.iconst 1, 1) := by decide +kernel
theorem dX9_unit_57 : decode cX9_unit 57 = .ok (.iadd, 1) := by decide +kernel
theorem dX9_unit_58 : decode cX9_unit 58 = .ok (.putfield 275, 3) := by decide +kernel
theorem dX9_unit_61 : decode cX9_unit 61 = .ok (.iinc 1 1, 3) := by decide +kernel
theorem dX9_unit_64 : decode cX9_unit 64 = .ok (.goto (-28), 3) := by decide +kernel
theorem dX9_unit_67 : decode cX9_unit 67 = .ok (.iconst 1, 1) := by decide +kernel
theorem dX9_unit_68 : decode cX9_unit 68 = .ok (.ireturn, 1) := by decide +kernel
theorem dX9_closes_0 : decode cX9_closes 0 = .ok (.aload_n 0, 1) := by decide +kernel
theorem dX9_closes_1 : decode cX9_closes 1 = .ok (.getfield 288, 3) := by decide +kernel
theorem dX9_closes_4 : decode cX9_closes 4 = .ok (.ifCond .le 31, 3) := by decide +kernel
theorem dX9_closes_7 : decode cX9_closes 7 = .ok (.aload_n 0, 1) := by decide +kernel
theorem dX9_closes_8 : decode cX9_closes 8 = .ok (.getfield 135, 3) := by decide +kernel
theorem dX9_closes_11 : decode cX9_closes 11 = .ok (.aload_n 0, 1) := by decide +kernel
theorem dX9_closes_12 : decode cX9_closes 12 = .ok (.getfield 288, 3) := by decide +kernel
theorem dX9_closes_15 : decode cX9_closes 15 = .ok (.iconst 1, 1) := by decide +kernel
theorem dX9_closes_16 : decode cX9_closes 16 = .ok (.isub, 1) := by decide +kernel
theorem dX9_closes_17 : decode cX9_closes 17 = .ok (.iaload, 1) := by decide +kernel
theorem dX9_closes_18 : decode cX9_closes 18 = .ok (.iconst 1, 1) := by decide +kernel
theorem dX9_closes_19 : decode cX9_closes 19 = .ok (.if_icmp .ne 16, 3) := by decide +kernel
theorem dX9_closes_22 : decode cX9_closes 22 = .ok (.aload_n 0, 1) := by decide +kernel
theorem dX9_closes_23 : decode cX9_closes 23 = .ok (.dup, 1) := by decide +kernel
theorem dX9_closes_24 : decode cX9_closes 24 = .ok (.getfield 288, 3) := by decide +kernel
theorem dX9_closes_27 : decode cX9_closes 27 = .ok (.iconst 1, 1) := by decide +kernel
theorem dX9_closes_28 : decode cX9_closes 28 = .ok (.isub, 1) := by decide +kernel
theorem dX9_closes_29 : decode cX9_closes 29 = .ok (.putfield 288, 3) := by decide +kernel
theorem dX9_closes_32 : decode cX9_closes 32 = .ok (.goto (-32), 3) := by decide +kernel
theorem dX9_closes_35 : decode cX9_closes 35 = .ok (.return_, 1) := by decide +kernel
theorem dX9_parses_0 : decode cX9_parses 0 = .ok (.aload_n 0, 1) := by decide +kernel
theorem dX9_parses_1 : decode cX9_parses 1 = .ok (.iconst 0, 1) := by decide +kernel
theorem dX9_parses_2 : decode cX9_parses 2 = .ok (.putfield 275, 3) := by decide +kernel
theorem dX9_parses_5 : decode cX9_parses 5 = .ok (.aload_n 0, 1) := by decide +kernel
theorem dX9_parses_6 : decode cX9_parses 6 = .ok (.iconst 0, 1) := by decide +kernel
theorem dX9_parses_7 : decode cX9_parses 7 = .ok (.putfield 288, 3) := by decide +kernel
theorem dX9_parses_10 : decode cX9_parses 10 = .ok (.aload_n 0, 1) := by decide +kernel
theorem dX9_parses_11 : decode cX9_parses 11 = .ok (.invokevirtual 278, 3) := by decide +kernel
theorem dX9_parses_14 : decode cX9_parses 14 = .ok (.bipush 33, 2) := by decide +kernel
theorem dX9_parses_16 : decode cX9_parses 16 = .ok (.if_icmp .eq 12, 3) := by decide +kernel
theorem dX9_parses_19 : decode cX9_parses 19 = .ok (.aload_n 0, 1) := by decide +kernel
theorem dX9_parses_20 : decode cX9_parses 20 = .ok (.invokevirtual 278, 3) := by decide +kernel
theorem dX9_parses_23 : decode cX9_parses 23 = .ok (.bipush 40, 2) := by decide +kernel
theorem dX9_parses_25 : decode cX9_parses 25 = .ok (.if_icmp .ne 59, 3) := by decide +kernel
theorem dX9_parses_28 : decode cX9_parses 28 = .ok (.aload_n 0, 1) := by decide +kernel
theorem dX9_parses_29 : decode cX9_parses 29 = .ok (.getfield 288, 3) := by decide +kernel
theorem dX9_parses_32 : decode cX9_parses 32 = .ok (.iconst 5, 1) := by decide +kernel
theorem dX9_parses_33 : decode cX9_parses 33 = .ok (.if_icmp .ne 5, 3) := by decide +kernel
theorem dX9_parses_36 : decode cX9_parses 36 = .ok (.iconst 0, 1) := by decide +kernel
theorem dX9_parses_37 : decode cX9_parses 37 = .ok (.ireturn, 1) := by decide +kernel
theorem dX9_parses_38 : decode cX9_parses 38 = .ok (.aload_n 0, 1) := by decide +kernel
theorem dX9_parses_39 : decode cX9_parses 39 = .ok (.getfield 135, 3) := by decide +kernel
theorem dX9_parses_42 : decode cX9_parses 42 = .ok (.aload_n 0, 1) := by decide +kernel
theorem dX9_parses_43 : decode cX9_parses 43 = .ok (.getfield 288, 3) := by decide +kernel
theorem dX9_parses_46 : decode cX9_parses 46 = .ok (.aload_n 0, 1) := by decide +kernel
theorem dX9_parses_47 : decode cX9_parses 47 = .ok (.invokevirtual 278, 3) := by decide +kernel
theorem dX9_parses_50 : decode cX9_parses 50 = .ok (.bipush 33, 2) := by decide +kernel
theorem dX9_parses_52 : decode cX9_parses 52 = .ok (.if_icmp .ne 7, 3) := by decide +kernel
theorem dX9_parses_55 : decode cX9_parses 55 = .ok (.iconst 1, 1) := by decide +kernel
theorem dX9_parses_56 : decode cX9_parses 56 = .ok (.goto 4, 3) := by decide +kernel
theorem dX9_parses_59 : decode cX9_parses 59 = .ok (.iconst 2, 1) := by decide +kernel
theorem dX9_parses_60 : decode cX9_parses 60 = .ok (.iastore, 1) := by decide +kernel
theorem dX9_parses_61 : decode cX9_parses 61 = .ok (.aload_n 0, 1) := by decide +kernel
theorem dX9_parses_62 : decode cX9_parses 62 = .ok (.dup, 1) := by decide +kernel
theorem dX9_parses_63 : decode cX9_parses 63 = .ok (.getfield 288, 3) := by decide +kernel
theorem dX9_parses_66 : decode cX9_parses 66 = .ok (.iconst 1, 1) := by decide +kernel
theorem dX9_parses_67 : decode cX9_parses 67 = .ok (.iadd, 1) := by decide +kernel
theorem dX9_parses_68 : decode cX9_parses 68 = .ok (.putfield 288, 3) := by decide +kernel
theorem dX9_parses_71 : decode cX9_parses 71 = .ok (.aload_n 0, 1) := by decide +kernel
theorem dX9_parses_72 : decode cX9_parses 72 = .ok (.dup, 1) := by decide +kernel
theorem dX9_parses_73 : decode cX9_parses 73 = .ok (.getfield 275, 3) := by decide +kernel
theorem dX9_parses_76 : decode cX9_parses 76 = .ok (.iconst 1, 1) := by decide +kernel
theorem dX9_parses_77 : decode cX9_parses 77 = .ok (.iadd, 1) := by decide +kernel
theorem dX9_parses_78 : decode cX9_parses 78 = .ok (.putfield 275, 3) := by decide +kernel
theorem dX9_parses_81 : decode cX9_parses 81 = .ok (.goto (-71), 3) := by decide +kernel
theorem dX9_parses_84 : decode cX9_parses 84 = .ok (.aload_n 0, 1) := by decide +kernel
theorem dX9_parses_85 : decode cX9_parses 85 = .ok (.invokevirtual 291, 3) := by decide +kernel
theorem dX9_parses_88 : decode cX9_parses 88 = .ok (.ifCond .ne 5, 3) := by decide +kernel
theorem dX9_parses_91 : decode cX9_parses 91 = .ok (.iconst 0, 1) := by decide +kernel
theorem dX9_parses_92 : decode cX9_parses 92 = .ok (.ireturn, 1) := by decide +kernel
theorem dX9_parses_93 : decode cX9_parses 93 = .ok (.aload_n 0, 1) := by decide +kernel
theorem dX9_parses_94 : decode cX9_parses 94 = .ok (.invokevirtual 278, 3) := by decide +kernel
theorem dX9_parses_97 : decode cX9_parses 97 = .ok (.bipush 60, 2) := by decide +kernel
theorem dX9_parses_99 : decode cX9_parses 99 = .ok (.if_icmp .eq 23, 3) := by decide +kernel
theorem dX9_parses_102 : decode cX9_parses 102 = .ok (.aload_n 0, 1) := by decide +kernel
theorem dX9_parses_103 : decode cX9_parses 103 = .ok (.invokevirtual 278, 3) := by decide +kernel
theorem dX9_parses_106 : decode cX9_parses 106 = .ok (.bipush 61, 2) := by decide +kernel
theorem dX9_parses_108 : decode cX9_parses 108 = .ok (.if_icmp .eq 14, 3) := by decide +kernel
theorem dX9_parses_111 : decode cX9_parses 111 = .ok (.aload_n 0, 1) := by decide +kernel
theorem dX9_parses_112 : decode cX9_parses 112 = .ok (.invokevirtual 278, 3) := by decide +kernel
theorem dX9_parses_115 : decode cX9_parses 115 = .ok (.bipush 62, 2) := by decide +kernel
theorem dX9_parses_117 : decode cX9_parses 117 = .ok (.if_icmp .eq 5, 3) := by decide +kernel
theorem dX9_parses_120 : decode cX9_parses 120 = .ok (.iconst 0, 1) := by decide +kernel
theorem dX9_parses_121 : decode cX9_parses 121 = .ok (.ireturn, 1) := by decide +kernel
theorem dX9_parses_122 : decode cX9_parses 122 = .ok (.aload_n 0, 1) := by decide +kernel
theorem dX9_parses_123 : decode cX9_parses 123 = .ok (.dup, 1) := by decide +kernel
theorem dX9_parses_124 : decode cX9_parses 124 = .ok (.getfield 275, 3) := by decide +kernel
theorem dX9_parses_127 : decode cX9_parses 127 = .ok (.iconst 1, 1) := by decide +kernel
theorem dX9_parses_128 : decode cX9_parses 128 = .ok (.iadd, 1) := by decide +kernel
theorem dX9_parses_129 : decode cX9_parses 129 = .ok (.putfield 275, 3) := by decide +kernel
theorem dX9_parses_132 : decode cX9_parses 132 = .ok (.aload_n 0, 1) := by decide +kernel
theorem dX9_parses_133 : decode cX9_parses 133 = .ok (.invokevirtual 291, 3) := by decide +kernel
theorem dX9_parses_136 : decode cX9_parses 136 = .ok (.ifCond .ne 5, 3) := by decide +kernel
theorem dX9_parses_139 : decode cX9_parses 139 = .ok (.iconst 0, 1) := by decide +kernel
theorem dX9_parses_140 : decode cX9_parses 140 = .ok (.ireturn, 1) := by decide +kernel
theorem dX9_parses_141 : decode cX9_parses 141 = .ok (.aload_n 0, 1) := by decide +kernel
theorem dX9_parses_142 : decode cX9_parses 142 = .ok (.invokevirtual 295, 3) := by decide +kernel
theorem dX9_parses_145 : decode cX9_parses 145 = .ok (.aload_n 0, 1) := by decide +kernel
theorem dX9_parses_146 : decode cX9_parses 146 = .ok (.invokevirtual 278, 3) := by decide +kernel
theorem dX9_parses_149 : decode cX9_parses 149 = .ok (.bipush 41, 2) := by decide +kernel
theorem dX9_parses_151 : decode cX9_parses 151 = .ok (.if_icmp .ne 37, 3) := by decide +kernel
theorem dX9_parses_154 : decode cX9_parses 154 = .ok (.aload_n 0, 1) := by decide +kernel
theorem dX9_parses_155 : decode cX9_parses 155 = .ok (.getfield 288, 3) := by decide +kernel
theorem dX9_parses_158 : decode cX9_parses 158 = .ok (.ifCond .le 30, 3) := by decide +kernel
theorem dX9_parses_161 : decode cX9_parses 161 = .ok (.aload_n 0, 1) := by decide +kernel
theorem dX9_parses_162 : decode cX9_parses 162 = .ok (.dup, 1) := by decide +kernel
theorem dX9_parses_163 : decode cX9_parses 163 = .ok (.getfield 275, 3) := by decide +kernel
theorem dX9_parses_166 : decode cX9_parses 166 = .ok (.iconst 1, 1) := by decide +kernel
theorem dX9_parses_167 : decode cX9_parses 167 = .ok (.iadd, 1) := by decide +kernel
theorem dX9_parses_168 : decode cX9_parses 168 = .ok (.putfield 275, 3) := by decide +kernel
theorem dX9_parses_171 : decode cX9_parses 171 = .ok (.aload_n 0, 1) := by decide +kernel
theorem dX9_parses_172 : decode cX9_parses 172 = .ok (.dup, 1) := by decide +kernel
theorem dX9_parses_173 : decode cX9_parses 173 = .ok (.getfield 288, 3) := by decide +kernel
theorem dX9_parses_176 : decode cX9_parses 176 = .ok (.iconst 1, 1) := by decide +kernel
end
section
theorem dX9_parses_177 : decode cX9_parses 177 = .ok (.isub, 1) := by decide +kernel
theorem dX9_parses_178 : decode cX9_parses 178 = .ok (.putfield 288, 3) := by decide +kernel
theorem dX9_parses_181 : decode cX9_parses 181 = .ok (.aload_n 0, 1) := by decide +kernel
theorem dX9_parses_182 : decode cX9_parses 182 = .ok (.invokevirtual 295, 3) := by decide +kernel
theorem dX9_parses_185 : decode cX9_parses 185 = .ok (.goto (-40), 3) := by decide +kernel
theorem dX9_parses_188 : decode cX9_parses 188 = .ok (.aload_n 0, 1) := by decide +kernel
theorem dX9_parses_189 : decode cX9_parses 189 = .ok (.invokevirtual 278, 3) := by decide +kernel
theorem dX9_parses_192 : decode cX9_parses 192 = .ok (.iconst (-1), 1) := by decide +kernel
theorem dX9_parses_193 : decode cX9_parses 193 = .ok (.if_icmp .ne 12, 3) := by decide +kernel
theorem dX9_parses_196 : decode cX9_parses 196 = .ok (.aload_n 0, 1) := by decide +kernel
theorem dX9_parses_197 : decode cX9_parses 197 = .ok (.getfield 288, 3) := by decide +kernel
theorem dX9_parses_200 : decode cX9_parses 200 = .ok (.ifCond .ne 5, 3) := by decide +kernel
theorem dX9_parses_203 : decode cX9_parses 203 = .ok (.iconst 1, 1) := by decide +kernel
theorem dX9_parses_204 : decode cX9_parses 204 = .ok (.ireturn, 1) := by decide +kernel
theorem dX9_parses_205 : decode cX9_parses 205 = .ok (.aload_n 0, 1) := by decide +kernel
theorem dX9_parses_206 : decode cX9_parses 206 = .ok (.invokevirtual 278, 3) := by decide +kernel
theorem dX9_parses_209 : decode cX9_parses 209 = .ok (.bipush 124, 2) := by decide +kernel
theorem dX9_parses_211 : decode cX9_parses 211 = .ok (.if_icmp .eq 14, 3) := by decide +kernel
theorem dX9_parses_214 : decode cX9_parses 214 = .ok (.aload_n 0, 1) := by decide +kernel
theorem dX9_parses_215 : decode cX9_parses 215 = .ok (.invokevirtual 278, 3) := by decide +kernel
theorem dX9_parses_218 : decode cX9_parses 218 = .ok (.bipush 38, 2) := by decide +kernel
theorem dX9_parses_220 : decode cX9_parses 220 = .ok (.if_icmp .eq 5, 3) := by decide +kernel
theorem dX9_parses_223 : decode cX9_parses 223 = .ok (.iconst 0, 1) := by decide +kernel
theorem dX9_parses_224 : decode cX9_parses 224 = .ok (.ireturn, 1) := by decide +kernel
theorem dX9_parses_225 : decode cX9_parses 225 = .ok (.aload_n 0, 1) := by decide +kernel
theorem dX9_parses_226 : decode cX9_parses 226 = .ok (.dup, 1) := by decide +kernel
theorem dX9_parses_227 : decode cX9_parses 227 = .ok (.getfield 275, 3) := by decide +kernel
theorem dX9_parses_230 : decode cX9_parses 230 = .ok (.iconst 1, 1) := by decide +kernel
theorem dX9_parses_231 : decode cX9_parses 231 = .ok (.iadd, 1) := by decide +kernel
theorem dX9_parses_232 : decode cX9_parses 232 = .ok (.putfield 275, 3) := by decide +kernel
theorem dX9_parses_235 : decode cX9_parses 235 = .ok (.goto (-225), 3) := by decide +kernel
theorem dX9_order_0 : decode cX9_order 0 = .ok (.iload_n 1, 1) := by decide +kernel
theorem dX9_order_1 : decode cX9_order 1 = .ok (.i2l, 1) := by decide +kernel
theorem dX9_order_2 : decode cX9_order 2 = .ok (.lconst 0, 1) := by decide +kernel
theorem dX9_order_3 : decode cX9_order 3 = .ok (.ldc2_w 262, 3) := by decide +kernel
theorem dX9_order_6 : decode cX9_order 6 = .ok (.invokestatic 203, 3) := by decide +kernel
theorem dX9_order_9 : decode cX9_order 9 = .ok (.ifCond .ne 10, 3) := by decide +kernel
theorem dX9_order_12 : decode cX9_order 12 = .ok (.aload_n 0, 1) := by decide +kernel
theorem dX9_order_13 : decode cX9_order 13 = .ok (.bipush (-2), 2) := by decide +kernel
theorem dX9_order_15 : decode cX9_order 15 = .ok (.invokevirtual 192, 3) := by decide +kernel
theorem dX9_order_18 : decode cX9_order 18 = .ok (.ireturn, 1) := by decide +kernel
theorem dX9_order_19 : decode cX9_order 19 = .ok (.aload_n 0, 1) := by decide +kernel
theorem dX9_order_20 : decode cX9_order 20 = .ok (.getfield 298, 3) := by decide +kernel
theorem dX9_order_23 : decode cX9_order 23 = .ok (.bipush 30, 2) := by decide +kernel
theorem dX9_order_25 : decode cX9_order 25 = .ok (.if_icmp .ne 10, 3) := by decide +kernel
theorem dX9_order_28 : decode cX9_order 28 = .ok (.aload_n 0, 1) := by decide +kernel
theorem dX9_order_29 : decode cX9_order 29 = .ok (.bipush (-6), 2) := by decide +kernel
theorem dX9_order_31 : decode cX9_order 31 = .ok (.invokevirtual 192, 3) := by decide +kernel
theorem dX9_order_34 : decode cX9_order 34 = .ok (.ireturn, 1) := by decide +kernel
theorem dX9_order_35 : decode cX9_order 35 = .ok (.aload_n 0, 1) := by decide +kernel
theorem dX9_order_36 : decode cX9_order 36 = .ok (.invokevirtual 301, 3) := by decide +kernel
theorem dX9_order_39 : decode cX9_order 39 = .ok (.istore_n 2, 1) := by decide +kernel
theorem dX9_order_40 : decode cX9_order 40 = .ok (.aload_n 0, 1) := by decide +kernel
theorem dX9_order_41 : decode cX9_order 41 = .ok (.getfield 270, 3) := by decide +kernel
theorem dX9_order_44 : decode cX9_order 44 = .ok (.istore_n 3, 1) := by decide +kernel
theorem dX9_order_45 : decode cX9_order 45 = .ok (.aload_n 0, 1) := by decide +kernel
theorem dX9_order_46 : decode cX9_order 46 = .ok (.iconst 0, 1) := by decide +kernel
theorem dX9_order_47 : decode cX9_order 47 = .ok (.putfield 270, 3) := by decide +kernel
theorem dX9_order_50 : decode cX9_order 50 = .ok (.iload_n 2, 1) := by decide +kernel
theorem dX9_order_51 : decode cX9_order 51 = .ok (.ifCond .ne 11, 3) := by decide +kernel
theorem dX9_order_54 : decode cX9_order 54 = .ok (.bipush (-20), 2) := by decide +kernel
theorem dX9_order_56 : decode cX9_order 56 = .ok (.aload_n 0, 1) := by decide +kernel
theorem dX9_order_57 : decode cX9_order 57 = .ok (.getfield 275, 3) := by decide +kernel
theorem dX9_order_60 : decode cX9_order 60 = .ok (.isub, 1) := by decide +kernel
theorem dX9_order_61 : decode cX9_order 61 = .ok (.ireturn, 1) := by decide +kernel
theorem dX9_order_62 : decode cX9_order 62 = .ok (.iconst 0, 1) := by decide +kernel
theorem dX9_order_63 : decode cX9_order 63 = .ok (.istore 4, 2) := by decide +kernel
theorem dX9_order_65 : decode cX9_order 65 = .ok (.iload 4, 2) := by decide +kernel
theorem dX9_order_67 : decode cX9_order 67 = .ok (.iload_n 3, 1) := by decide +kernel
theorem dX9_order_68 : decode cX9_order 68 = .ok (.if_icmp .ge 31, 3) := by decide +kernel
theorem dX9_order_71 : decode cX9_order 71 = .ok (.aload_n 0, 1) := by decide +kernel
theorem dX9_order_72 : decode cX9_order 72 = .ok (.getfield 123, 3) := by decide +kernel
theorem dX9_order_75 : decode cX9_order 75 = .ok (.bipush 60, 2) := by decide +kernel
theorem dX9_order_77 : decode cX9_order 77 = .ok (.aload_n 0, 1) := by decide +kernel
theorem dX9_order_78 : decode cX9_order 78 = .ok (.getfield 298, 3) := by decide +kernel
theorem dX9_order_81 : decode cX9_order 81 = .ok (.imul, 1) := by decide +kernel
theorem dX9_order_82 : decode cX9_order 82 = .ok (.iload 4, 2) := by decide +kernel
theorem dX9_order_84 : decode cX9_order 84 = .ok (.iadd, 1) := by decide +kernel
theorem dX9_order_85 : decode cX9_order 85 = .ok (.aload_n 0, 1) := by decide +kernel
theorem dX9_order_86 : decode cX9_order 86 = .ok (.getfield 120, 3) := by decide +kernel
theorem dX9_order_89 : decode cX9_order 89 = .ok (.iload 4, 2) := by decide +kernel
theorem dX9_order_91 : decode cX9_order 91 = .ok (.iaload, 1) := by decide +kernel
theorem dX9_order_92 : decode cX9_order 92 = .ok (.iastore, 1) := by decide +kernel
theorem dX9_order_93 : decode cX9_order 93 = .ok (.iinc 4 1, 3) := by decide +kernel
theorem dX9_order_96 : decode cX9_order 96 = .ok (.goto (-31), 3) := by decide +kernel
theorem dX9_order_99 : decode cX9_order 99 = .ok (.aload_n 0, 1) := by decide +kernel
theorem dX9_order_100 : decode cX9_order 100 = .ok (.getfield 126, 3) := by decide +kernel
theorem dX9_order_103 : decode cX9_order 103 = .ok (.aload_n 0, 1) := by decide +kernel
theorem dX9_order_104 : decode cX9_order 104 = .ok (.getfield 298, 3) := by decide +kernel
theorem dX9_order_107 : decode cX9_order 107 = .ok (.iload_n 3, 1) := by decide +kernel
theorem dX9_order_108 : decode cX9_order 108 = .ok (.iastore, 1) := by decide +kernel
theorem dX9_order_109 : decode cX9_order 109 = .ok (.aload_n 0, 1) := by decide +kernel
theorem dX9_order_110 : decode cX9_order 110 = .ok (.getfield 129, 3) := by decide +kernel
theorem dX9_order_113 : decode cX9_order 113 = .ok (.aload_n 0, 1) := by decide +kernel
theorem dX9_order_114 : decode cX9_order 114 = .ok (.getfield 298, 3) := by decide +kernel
theorem dX9_order_117 : decode cX9_order 117 = .ok (.iload_n 1, 1) := by decide +kernel
theorem dX9_order_118 : decode cX9_order 118 = .ok (.iastore, 1) := by decide +kernel
theorem dX9_order_119 : decode cX9_order 119 = .ok (.aload_n 0, 1) := by decide +kernel
theorem dX9_order_120 : decode cX9_order 120 = .ok (.getfield 132, 3) := by decide +kernel
theorem dX9_order_123 : decode cX9_order 123 = .ok (.aload_n 0, 1) := by decide +kernel
theorem dX9_order_124 : decode cX9_order 124 = .ok (.getfield 298, 3) := by decide +kernel
theorem dX9_order_127 : decode cX9_order 127 = .ok (.aload_n 0, 1) := by decide +kernel
theorem dX9_order_128 : decode cX9_order 128 = .ok (.getfield 207, 3) := by decide +kernel
theorem dX9_order_131 : decode cX9_order 131 = .ok (.iastore, 1) := by decide +kernel
theorem dX9_order_132 : decode cX9_order 132 = .ok (.aload_n 0, 1) := by decide +kernel
theorem dX9_order_133 : decode cX9_order 133 = .ok (.dup, 1) := by decide +kernel
theorem dX9_order_134 : decode cX9_order 134 = .ok (.getfield 298, 3) := by decide +kernel
theorem dX9_order_137 : decode cX9_order 137 = .ok (.iconst 1, 1) := by decide +kernel
theorem dX9_order_138 : decode cX9_order 138 = .ok (.iadd, 1) := by decide +kernel
theorem dX9_order_139 : decode cX9_order 139 = .ok (.putfield 298, 3) := by decide +kernel
theorem dX9_order_142 : decode cX9_order 142 = .ok (.aload_n 0, 1) := by decide +kernel
theorem dX9_order_143 : decode cX9_order 143 = .ok (.getfield 298, 3) := by decide +kernel
theorem dX9_order_146 : decode cX9_order 146 = .ok (.ireturn, 1) := by decide +kernel
theorem dX9_signOf_0 : decode cX9_signOf 0 = .ok (.aload_n 0, 1) := by decide +kernel
theorem dX9_signOf_1 : decode cX9_signOf 1 = .ok (.getfield 304, 3) := by decide +kernel
theorem dX9_signOf_4 : decode cX9_signOf 4 = .ok (.aload_n 0, 1) := by decide +kernel
theorem dX9_signOf_5 : decode cX9_signOf 5 = .ok (.getfield 126, 3) := by decide +kernel
theorem dX9_signOf_8 : decode cX9_signOf 8 = .ok (.iload_n 1, 1) := by decide +kernel
theorem dX9_signOf_9 : decode cX9_signOf 9 = .ok (.iaload, 1) := by decide +kernel
theorem dX9_signOf_10 : decode cX9_signOf 10 = .ok (.if_icmp .ge 20, 3) := by decide +kernel
theorem dX9_signOf_13 : decode cX9_signOf 13 = .ok (.aload_n 0, 1) := by decide +kernel
theorem dX9_signOf_14 : decode cX9_signOf 14 = .ok (.getfield 123, 3) := by decide +kernel
theorem dX9_signOf_17 : decode cX9_signOf 17 = .ok (.bipush 60, 2) := by decide +kernel
theorem dX9_signOf_19 : decode cX9_signOf 19 = .ok (.iload_n 1, 1) := by decide +kernel
theorem dX9_signOf_20 : decode cX9_signOf 20 = .ok (.imul, 1) := by decide +kernel
theorem dX9_signOf_21 : decode cX9_signOf 21 = .ok (.aload_n 0, 1) := by decide +kernel
theorem dX9_signOf_22 : decode cX9_signOf 22 = .ok (.getfield 304, 3) := by decide +kernel
theorem dX9_signOf_25 : decode cX9_signOf 25 = .ok (.iadd, 1) := by decide +kernel
theorem dX9_signOf_26 : decode cX9_signOf 26 = .ok (.iaload, 1) := by decide +kernel
theorem dX9_signOf_27 : decode cX9_signOf 27 = .ok (.goto 4, 3) := by decide +kernel
theorem dX9_signOf_30 : decode cX9_signOf 30 = .ok (.iconst (-1), 1) := by decide +kernel
theorem dX9_signOf_31 : decode cX9_signOf 31 = .ok (.ireturn, 1) := by decide +kernel
theorem dX9_unitOf_0 : decode cX9_unitOf 0 = .ok (.aload_n 0, 1) := by decide +kernel
theorem dX9_unitOf_1 : decode cX9_unitOf 1 = .ok (.iload_n 1, 1) := by decide +kernel
theorem dX9_unitOf_2 : decode cX9_unitOf 2 = .ok (.invokevirtual 307, 3) := by decide +kernel
theorem dX9_unitOf_5 : decode cX9_unitOf 5 = .ok (.invokestatic 285, 3) := by decide +kernel
theorem dX9_unitOf_8 : decode cX9_unitOf 8 = .ok (.ifCond .ne 35, 3) := by decide +kernel
theorem dX9_unitOf_11 : decode cX9_unitOf 11 = .ok (.aload_n 0, 1) := by decide +kernel
theorem dX9_unitOf_12 : decode cX9_unitOf 12 = .ok (.dup, 1) := by decide +kernel
theorem dX9_unitOf_13 : decode cX9_unitOf 13 = .ok (.getfield 304, 3) := by decide +kernel
theorem dX9_unitOf_16 : decode cX9_unitOf 16 = .ok (.iconst 1, 1) := by decide +kernel
theorem dX9_unitOf_17 : decode cX9_unitOf 17 = .ok (.iadd, 1) := by decide +kernel
theorem dX9_unitOf_18 : decode cX9_unitOf 18 = .ok (.putfield 304, 3) := by decide +kernel
theorem dX9_unitOf_21 : decode cX9_unitOf 21 = .ok (.aload_n 0, 1) := by decide +kernel
theorem dX9_unitOf_22 : decode cX9_unitOf 22 = .ok (.getfield 138, 3) := by decide +kernel
theorem dX9_unitOf_25 : decode cX9_unitOf 25 = .ok (.aload_n 0, 1) := by decide +kernel
theorem dX9_unitOf_26 : decode cX9_unitOf 26 = .ok (.getfield 123, 3) := by decide +kernel
theorem dX9_unitOf_29 : decode cX9_unitOf 29 = .ok (.bipush 60, 2) := by decide +kernel
theorem dX9_unitOf_31 : decode cX9_unitOf 31 = .ok (.iload_n 1, 1) := by decide +kernel
theorem dX9_unitOf_32 : decode cX9_unitOf 32 = .ok (.imul, 1) := by decide +kernel
theorem dX9_unitOf_33 : decode cX9_unitOf 33 = .ok (.aload_n 0, 1) := by decide +kernel
theorem dX9_unitOf_34 : decode cX9_unitOf 34 = .ok (.getfield 304, 3) := by decide +kernel
theorem dX9_unitOf_37 : decode cX9_unitOf 37 = .ok (.iadd, 1) := by decide +kernel
theorem dX9_unitOf_38 : decode cX9_unitOf 38 = .ok (.iconst 1, 1) := by decide +kernel
theorem dX9_unitOf_39 : decode cX9_unitOf 39 = .ok (.isub, 1) := by decide +kernel
theorem dX9_unitOf_40 : decode cX9_unitOf 40 = .ok (.iaload, 1) := by decide +kernel
theorem dX9_unitOf_41 : decode cX9_unitOf 41 = .ok (.iaload, 1) := by decide +kernel
theorem dX9_unitOf_42 : decode cX9_unitOf 42 = .ok (.ireturn, 1) := by decide +kernel
theorem dX9_unitOf_43 : decode cX9_unitOf 43 = .ok (.iconst 0, 1) := by decide +kernel
theorem dX9_unitOf_44 : decode cX9_unitOf 44 = .ok (.istore_n 2, 1) := by decide +kernel
theorem dX9_unitOf_45 : decode cX9_unitOf 45 = .ok (.aload_n 0, 1) := by decide +kernel
theorem dX9_unitOf_46 : decode cX9_unitOf 46 = .ok (.iload_n 1, 1) := by decide +kernel
theorem dX9_unitOf_47 : decode cX9_unitOf 47 = .ok (.invokevirtual 307, 3) := by decide +kernel
theorem dX9_unitOf_50 : decode cX9_unitOf 50 = .ok (.invokestatic 285, 3) := by decide +kernel
theorem dX9_unitOf_53 : decode cX9_unitOf 53 = .ok (.ifCond .eq 30, 3) := by decide +kernel
theorem dX9_unitOf_56 : decode cX9_unitOf 56 = .ok (.bipush 10, 2) := by decide +kernel
theorem dX9_unitOf_58 : decode cX9_unitOf 58 = .ok (.iload_n 2, 1) := by decide +kernel
theorem dX9_unitOf_59 : decode cX9_unitOf 59 = .ok (.imul, 1) := by decide +kernel
theorem dX9_unitOf_60 : decode cX9_unitOf 60 = .ok (.aload_n 0, 1) := by decide +kernel
theorem dX9_unitOf_61 : decode cX9_unitOf 61 = .ok (.iload_n 1, 1) := by decide +kernel
theorem dX9_unitOf_62 : decode cX9_unitOf 62 = .ok (.invokevirtual 307, 3) := by decide +kernel
theorem dX9_unitOf_65 : decode cX9_unitOf 65 = .ok (.iadd, 1) := by decide +kernel
theorem dX9_unitOf_66 : decode cX9_unitOf 66 = .ok (.bipush 48, 2) := by decide +kernel
theorem dX9_unitOf_68 : decode cX9_unitOf 68 = .ok (.isub, 1) := by decide +kernel
theorem dX9_unitOf_69 : decode cX9_unitOf 69 = .ok (.istore_n 2, 1) := by decide +kernel
theorem dX9_unitOf_70 : decode cX9_unitOf 70 = .ok (.aload_n 0, 1) := by decide +kernel
theorem dX9_unitOf_71 : decode cX9_unitOf 71 = .ok (.dup, 1) := by decide +kernel
theorem dX9_unitOf_72 : decode cX9_unitOf 72 = .ok (.getfield 304, 3) := by decide +kernel
theorem dX9_unitOf_75 : decode cX9_unitOf 75 = .ok (.iconst 1, 1) := by decide +kernel
theorem dX9_unitOf_76 : decode cX9_unitOf 76 = .ok (.iadd, 1) := by decide +kernel
theorem dX9_unitOf_77 : decode cX9_unitOf 77 = .ok (.putfield 304, 3) := by decide +kernel
theorem dX9_unitOf_80 : decode cX9_unitOf 80 = .ok (.goto (-35), 3) := by decide +kernel
theorem dX9_unitOf_83 : decode cX9_unitOf 83 = .ok (.iload_n 2, 1) := by decide +kernel
theorem dX9_unitOf_84 : decode cX9_unitOf 84 = .ok (.ireturn, 1) := by decide +kernel
theorem dX9_works_0 : decode cX9_works 0 = .ok (.aload_n 0, 1) := by decide +kernel
theorem dX9_works_1 : decode cX9_works 1 = .ok (.getfield 310, 3) := by decide +kernel
theorem dX9_works_4 : decode cX9_works 4 = .ok (.ifCond .le 143, 3) := by decide +kernel
theorem dX9_works_7 : decode cX9_works 7 = .ok (.aload_n 0, 1) := by decide +kernel
theorem dX9_works_8 : decode cX9_works 8 = .ok (.getfield 141, 3) := by decide +kernel
theorem dX9_works_11 : decode cX9_works 11 = .ok (.aload_n 0, 1) := by decide +kernel
theorem dX9_works_12 : decode cX9_works 12 = .ok (.getfield 310, 3) := by decide +kernel
theorem dX9_works_15 : decode cX9_works 15 = .ok (.iconst 1, 1) := by decide +kernel
theorem dX9_works_16 : decode cX9_works 16 = .ok (.isub, 1) := by decide +kernel
theorem dX9_works_17 : decode cX9_works 17 = .ok (.iaload, 1) := by decide +kernel
theorem dX9_works_18 : decode cX9_works 18 = .ok (.iload_n 1, 1) := by decide +kernel
theorem dX9_works_19 : decode cX9_works 19 = .ok (.if_icmp .gt 128, 3) := by decide +kernel
theorem dX9_works_22 : decode cX9_works 22 = .ok (.aload_n 0, 1) := by decide +kernel
theorem dX9_works_23 : decode cX9_works 23 = .ok (.dup, 1) := by decide +kernel
theorem dX9_works_24 : decode cX9_works 24 = .ok (.getfield 310, 3) := by decide +kernel
theorem dX9_works_27 : decode cX9_works 27 = .ok (.iconst 1, 1) := by decide +kernel
theorem dX9_works_28 : decode cX9_works 28 = .ok (.isub, 1) := by decide +kernel
theorem dX9_works_29 : decode cX9_works 29 = .ok (.putfield 310, 3) := by decide +kernel
theorem dX9_works_32 : decode cX9_works 32 = .ok (.aload_n 0, 1) := by decide +kernel
theorem dX9_works_33 : decode cX9_works 33 = .ok (.getfield 141, 3) := by decide +kernel
theorem dX9_works_36 : decode cX9_works 36 = .ok (.aload_n 0, 1) := by decide +kernel
theorem dX9_works_37 : decode cX9_works 37 = .ok (.getfield 310, 3) := by decide +kernel
theorem dX9_works_40 : decode cX9_works 40 = .ok (.iaload, 1) := by decide +kernel
theorem dX9_works_41 : decode cX9_works 41 = .ok (.istore_n 2, 1) := by decide +kernel
theorem dX9_works_42 : decode cX9_works 42 = .ok (.iload_n 2, 1) := by decide +kernel
theorem dX9_works_43 : decode cX9_works 43 = .ok (.ifCond .ne 30, 3) := by decide +kernel
theorem dX9_works_46 : decode cX9_works 46 = .ok (.aload_n 0, 1) := by decide +kernel
theorem dX9_works_47 : decode cX9_works 47 = .ok (.getfield 144, 3) := by decide +kernel
theorem dX9_works_50 : decode cX9_works 50 = .ok (.aload_n 0, 1) := by decide +kernel
theorem dX9_works_51 : decode cX9_works 51 = .ok (.getfield 313, 3) := by decide +kernel
theorem dX9_works_54 : decode cX9_works 54 = .ok (.iconst 1, 1) := by decide +kernel
theorem dX9_works_55 : decode cX9_works 55 = .ok (.isub, 1) := by decide +kernel
theorem dX9_works_56 : decode cX9_works 56 = .ok (.iconst 1, 1) := by decide +kernel
theorem dX9_works_57 : decode cX9_works 57 = .ok (.aload_n 0, 1) := by decide +kernel
theorem dX9_works_58 : decode cX9_works 58 = .ok (.getfield 144, 3) := by decide +kernel
theorem dX9_works_61 : decode cX9_works 61 = .ok (.aload_n 0, 1) := by decide +kernel
theorem dX9_works_62 : decode cX9_works 62 = .ok (.getfield 313, 3) := by decide +kernel
theorem dX9_works_65 : decode cX9_works 65 = .ok (.iconst 1, 1) := by decide +kernel
theorem dX9_works_66 : decode cX9_works 66 = .ok (.isub, 1) := by decide +kernel
theorem dX9_works_67 : decode cX9_works 67 = .ok (.iaload, 1) := by decide +kernel
theorem dX9_works_68 : decode cX9_works 68 = .ok (.isub, 1) := by decide +kernel
theorem dX9_works_69 : decode cX9_works 69 = .ok (.iastore, 1) := by decide +kernel
theorem dX9_works_70 : decode cX9_works 70 = .ok (.goto 74, 3) := by decide +kernel
theorem dX9_works_73 : decode cX9_works 73 = .ok (.aload_n 0, 1) := by decide +kernel
theorem dX9_works_74 : decode cX9_works 74 = .ok (.dup, 1) := by decide +kernel
theorem dX9_works_75 : decode cX9_works 75 = .ok (.getfield 313, 3) := by decide +kernel
theorem dX9_works_78 : decode cX9_works 78 = .ok (.iconst 1, 1) := by decide +kernel
theorem dX9_works_79 : decode cX9_works 79 = .ok (.isub, 1) := by decide +kernel
theorem dX9_works_80 : decode cX9_works 80 = .ok (.putfield 313, 3) := by decide +kernel
theorem dX9_works_83 : decode cX9_works 83 = .ok (.aload_n 0, 1) := by decide +kernel
theorem dX9_works_84 : decode cX9_works 84 = .ok (.getfield 144, 3) := by decide +kernel
theorem dX9_works_87 : decode cX9_works 87 = .ok (.aload_n 0, 1) := by decide +kernel
theorem dX9_works_88 : decode cX9_works 88 = .ok (.getfield 313, 3) := by decide +kernel
theorem dX9_works_91 : decode cX9_works 91 = .ok (.iconst 1, 1) := by decide +kernel
theorem dX9_works_92 : decode cX9_works 92 = .ok (.isub, 1) := by decide +kernel
theorem dX9_works_93 : decode cX9_works 93 = .ok (.iload_n 2, 1) := by decide +kernel
theorem dX9_works_94 : decode cX9_works 94 = .ok (.iconst 1, 1) := by decide +kernel
theorem dX9_works_95 : decode cX9_works 95 = .ok (.if_icmp .ne 27, 3) := by decide +kernel
theorem dX9_works_98 : decode cX9_works 98 = .ok (.aload_n 0, 1) := by decide +kernel
theorem dX9_works_99 : decode cX9_works 99 = .ok (.getfield 144, 3) := by decide +kernel
theorem dX9_works_102 : decode cX9_works 102 = .ok (.aload_n 0, 1) := by decide +kernel
theorem dX9_works_103 : decode cX9_works 103 = .ok (.getfield 313, 3) := by decide +kernel
theorem dX9_works_106 : decode cX9_works 106 = .ok (.iconst 1, 1) := by decide +kernel
theorem dX9_works_107 : decode cX9_works 107 = .ok (.isub, 1) := by decide +kernel
theorem dX9_works_108 : decode cX9_works 108 = .ok (.iaload, 1) := by decide +kernel
theorem dX9_works_109 : decode cX9_works 109 = .ok (.aload_n 0, 1) := by decide +kernel
theorem dX9_works_110 : decode cX9_works 110 = .ok (.getfield 144, 3) := by decide +kernel
theorem dX9_works_113 : decode cX9_works 113 = .ok (.aload_n 0, 1) := by decide +kernel
theorem dX9_works_114 : decode cX9_works 114 = .ok (.getfield 313, 3) := by decide +kernel
theorem dX9_works_117 : decode cX9_works 117 = .ok (.iaload, 1) := by decide +kernel
theorem dX9_works_118 : decode cX9_works 118 = .ok (.iand, 1) := by decide +kernel
theorem dX9_works_119 : decode cX9_works 119 = .ok (.goto 24, 3) := by decide +kernel
theorem dX9_works_122 : decode cX9_works 122 = .ok (.aload_n 0, 1) := by decide +kernel
theorem dX9_works_123 : decode cX9_works 123 = .ok (.getfield 144, 3) := by decide +kernel
theorem dX9_works_126 : decode cX9_works 126 = .ok (.aload_n 0, 1) := by decide +kernel
theorem dX9_works_127 : decode cX9_works 127 = .ok (.getfield 313, 3) := by decide +kernel
theorem dX9_works_130 : decode cX9_works 130 = .ok (.iconst 1, 1) := by decide +kernel
theorem dX9_works_131 : decode cX9_works 131 = .ok (.isub, 1) := by decide +kernel
theorem dX9_works_132 : decode cX9_works 132 = .ok (.iaload, 1) := by decide +kernel
theorem dX9_works_133 : decode cX9_works 133 = .ok (.aload_n 0, 1) := by decide +kernel
theorem dX9_works_134 : decode cX9_works 134 = .ok (.getfield 144, 3) := by decide +kernel
theorem dX9_works_137 : decode cX9_works 137 = .ok (.aload_n 0, 1) := by decide +kernel
theorem dX9_works_138 : decode cX9_works 138 = .ok (.getfield 313, 3) := by decide +kernel
theorem dX9_works_141 : decode cX9_works 141 = .ok (.iaload, 1) := by decide +kernel
theorem dX9_works_142 : decode cX9_works 142 = .ok (.ior, 1) := by decide +kernel
theorem dX9_works_143 : decode cX9_works 143 = .ok (.iastore, 1) := by decide +kernel
theorem dX9_works_144 : decode cX9_works 144 = .ok (.goto (-144), 3) := by decide +kernel
theorem dX9_works_147 : decode cX9_works 147 = .ok (.return_, 1) := by decide +kernel
theorem dX9_waitsFor_0 : decode cX9_waitsFor 0 = .ok (.aload_n 0, 1) := by decide +kernel
theorem dX9_waitsFor_1 : decode cX9_waitsFor 1 = .ok (.getfield 141, 3) := by decide +kernel
theorem dX9_waitsFor_4 : decode cX9_waitsFor 4 = .ok (.aload_n 0, 1) := by decide +kernel
theorem dX9_waitsFor_5 : decode cX9_waitsFor 5 = .ok (.getfield 310, 3) := by decide +kernel
theorem dX9_waitsFor_8 : decode cX9_waitsFor 8 = .ok (.iload_n 1, 1) := by decide +kernel
theorem dX9_waitsFor_9 : decode cX9_waitsFor 9 = .ok (.iastore, 1) := by decide +kernel
theorem dX9_waitsFor_10 : decode cX9_waitsFor 10 = .ok (.aload_n 0, 1) := by decide +kernel
theorem dX9_waitsFor_11 : decode cX9_waitsFor 11 = .ok (.dup, 1) := by decide +kernel
theorem dX9_waitsFor_12 : decode cX9_waitsFor 12 = .ok (.getfield 310, 3) := by decide +kernel
theorem dX9_waitsFor_15 : decode cX9_waitsFor 15 = .ok (.iconst 1, 1) := by decide +kernel
theorem dX9_waitsFor_16 : decode cX9_waitsFor 16 = .ok (.iadd, 1) := by decide +kernel
theorem dX9_waitsFor_17 : decode cX9_waitsFor 17 = .ok (.putfield 310, 3) := by decide +kernel
theorem dX9_waitsFor_20 : decode cX9_waitsFor 20 = .ok (.return_, 1) := by decide +kernel
theorem dX9_holdsText_0 : decode cX9_holdsText 0 = .ok (.aload_n 0, 1) := by decide +kernel
theorem dX9_holdsText_1 : decode cX9_holdsText 1 = .ok (.iconst 0, 1) := by decide +kernel
theorem dX9_holdsText_2 : decode cX9_holdsText 2 = .ok (.putfield 304, 3) := by decide +kernel
theorem dX9_holdsText_5 : decode cX9_holdsText 5 = .ok (.aload_n 0, 1) := by decide +kernel
theorem dX9_holdsText_6 : decode cX9_holdsText 6 = .ok (.iconst 0, 1) := by decide +kernel
theorem dX9_holdsText_7 : decode cX9_holdsText 7 = .ok (.putfield 310, 3) := by decide +kernel
theorem dX9_holdsText_10 : decode cX9_holdsText 10 = .ok (.aload_n 0, 1) := by decide +kernel
theorem dX9_holdsText_11 : decode cX9_holdsText 11 = .ok (.iconst 0, 1) := by decide +kernel
theorem dX9_holdsText_12 : decode cX9_holdsText 12 = .ok (.putfield 313, 3) := by decide +kernel
theorem dX9_holdsText_15 : decode cX9_holdsText 15 = .ok (.aload_n 0, 1) := by decide +kernel
theorem dX9_holdsText_16 : decode cX9_holdsText 16 = .ok (.getfield 304, 3) := by decide +kernel
theorem dX9_holdsText_19 : decode cX9_holdsText 19 = .ok (.aload_n 0, 1) := by decide +kernel
theorem dX9_holdsText_20 : decode cX9_holdsText 20 = .ok (.getfield 126, 3) := by decide +kernel
theorem dX9_holdsText_23 : decode cX9_holdsText 23 = .ok (.iload_n 1, 1) := by decide +kernel
theorem dX9_holdsText_24 : decode cX9_holdsText 24 = .ok (.iaload, 1) := by decide +kernel
theorem dX9_holdsText_25 : decode cX9_holdsText 25 = .ok (.if_icmp .ge 246, 3) := by decide +kernel
theorem dX9_holdsText_28 : decode cX9_holdsText 28 = .ok (.aload_n 0, 1) := by decide +kernel
theorem dX9_holdsText_29 : decode cX9_holdsText 29 = .ok (.iload_n 1, 1) := by decide +kernel
theorem dX9_holdsText_30 : decode cX9_holdsText 30 = .ok (.invokevirtual 307, 3) := by decide +kernel
theorem dX9_holdsText_33 : decode cX9_holdsText 33 = .ok (.bipush 33, 2) := by decide +kernel
theorem dX9_holdsText_35 : decode cX9_holdsText 35 = .ok (.if_icmp .eq 13, 3) := by decide +kernel
theorem dX9_holdsText_38 : decode cX9_holdsText 38 = .ok (.aload_n 0, 1) := by decide +kernel
theorem dX9_holdsText_39 : decode cX9_holdsText 39 = .ok (.iload_n 1, 1) := by decide +kernel
theorem dX9_holdsText_40 : decode cX9_holdsText 40 = .ok (.invokevirtual 307, 3) := by decide +kernel
theorem dX9_holdsText_43 : decode cX9_holdsText 43 = .ok (.bipush 40, 2) := by decide +kernel
theorem dX9_holdsText_45 : decode cX9_holdsText 45 = .ok (.if_icmp .ne 36, 3) := by decide +kernel
theorem dX9_holdsText_48 : decode cX9_holdsText 48 = .ok (.aload_n 0, 1) := by decide +kernel
theorem dX9_holdsText_49 : decode cX9_holdsText 49 = .ok (.aload_n 0, 1) := by decide +kernel
theorem dX9_holdsText_50 : decode cX9_holdsText 50 = .ok (.iload_n 1, 1) := by decide +kernel
theorem dX9_holdsText_51 : decode cX9_holdsText 51 = .ok (.invokevirtual 307, 3) := by decide +kernel
theorem dX9_holdsText_54 : decode cX9_holdsText 54 = .ok (.bipush 33, 2) := by decide +kernel
theorem dX9_holdsText_56 : decode cX9_holdsText 56 = .ok (.if_icmp .ne 7, 3) := by decide +kernel
theorem dX9_holdsText_59 : decode cX9_holdsText 59 = .ok (.iconst 0, 1) := by decide +kernel
theorem dX9_holdsText_60 : decode cX9_holdsText 60 = .ok (.goto 5, 3) := by decide +kernel
theorem dX9_holdsText_63 : decode cX9_holdsText 63 = .ok (.bipush 9, 2) := by decide +kernel
theorem dX9_holdsText_65 : decode cX9_holdsText 65 = .ok (.invokevirtual 316, 3) := by decide +kernel
theorem dX9_holdsText_68 : decode cX9_holdsText 68 = .ok (.aload_n 0, 1) := by decide +kernel
theorem dX9_holdsText_69 : decode cX9_holdsText 69 = .ok (.dup, 1) := by decide +kernel
theorem dX9_holdsText_70 : decode cX9_holdsText 70 = .ok (.getfield 304, 3) := by decide +kernel
theorem dX9_holdsText_73 : decode cX9_holdsText 73 = .ok (.iconst 1, 1) := by decide +kernel
theorem dX9_holdsText_74 : decode cX9_holdsText 74 = .ok (.iadd, 1) := by decide +kernel
theorem dX9_holdsText_75 : decode cX9_holdsText 75 = .ok (.putfield 304, 3) := by decide +kernel
theorem dX9_holdsText_78 : decode cX9_holdsText 78 = .ok (.goto (-50), 3) := by decide +kernel
theorem dX9_holdsText_81 : decode cX9_holdsText 81 = .ok (.aload_n 0, 1) := by decide +kernel
theorem dX9_holdsText_82 : decode cX9_holdsText 82 = .ok (.iload_n 1, 1) := by decide +kernel
theorem dX9_holdsText_83 : decode cX9_holdsText 83 = .ok (.invokevirtual 320, 3) := by decide +kernel
theorem dX9_holdsText_86 : decode cX9_holdsText 86 = .ok (.istore_n 2, 1) := by decide +kernel
theorem dX9_holdsText_87 : decode cX9_holdsText 87 = .ok (.aload_n 0, 1) := by decide +kernel
theorem dX9_holdsText_88 : decode cX9_holdsText 88 = .ok (.iload_n 1, 1) := by decide +kernel
theorem dX9_holdsText_89 : decode cX9_holdsText 89 = .ok (.invokevirtual 307, 3) := by decide +kernel
theorem dX9_holdsText_92 : decode cX9_holdsText 92 = .ok (.istore_n 3, 1) := by decide +kernel
theorem dX9_holdsText_93 : decode cX9_holdsText 93 = .ok (.aload_n 0, 1) := by decide +kernel
theorem dX9_holdsText_94 : decode cX9_holdsText 94 = .ok (.dup, 1) := by decide +kernel
theorem dX9_holdsText_95 : decode cX9_holdsText 95 = .ok (.getfield 304, 3) := by decide +kernel
theorem dX9_holdsText_98 : decode cX9_holdsText 98 = .ok (.iconst 1, 1) := by decide +kernel
theorem dX9_holdsText_99 : decode cX9_holdsText 99 = .ok (.iadd, 1) := by decide +kernel
theorem dX9_holdsText_100 : decode cX9_holdsText 100 = .ok (.putfield 304, 3) := by decide +kernel
theorem dX9_holdsText_103 : decode cX9_holdsText 103 = .ok (.aload_n 0, 1) := by decide +kernel
theorem dX9_holdsText_104 : decode cX9_holdsText 104 = .ok (.iload_n 1, 1) := by decide +kernel
theorem dX9_holdsText_105 : decode cX9_holdsText 105 = .ok (.invokevirtual 320, 3) := by decide +kernel
theorem dX9_holdsText_108 : decode cX9_holdsText 108 = .ok (.istore 4, 2) := by decide +kernel
theorem dX9_holdsText_110 : decode cX9_holdsText 110 = .ok (.aload_n 0, 1) := by decide +kernel
theorem dX9_holdsText_111 : decode cX9_holdsText 111 = .ok (.getfield 144, 3) := by decide +kernel
theorem dX9_holdsText_114 : decode cX9_holdsText 114 = .ok (.aload_n 0, 1) := by decide +kernel
theorem dX9_holdsText_115 : decode cX9_holdsText 115 = .ok (.getfield 313, 3) := by decide +kernel
theorem dX9_holdsText_118 : decode cX9_holdsText 118 = .ok (.iload_n 3, 1) := by decide +kernel
theorem dX9_holdsText_119 : decode cX9_holdsText 119 = .ok (.bipush 60, 2) := by decide +kernel
theorem dX9_holdsText_121 : decode cX9_holdsText 121 = .ok (.if_icmp .ne 12, 3) := by decide +kernel
theorem dX9_holdsText_124 : decode cX9_holdsText 124 = .ok (.iload_n 2, 1) := by decide +kernel
theorem dX9_holdsText_125 : decode cX9_holdsText 125 = .ok (.iload 4, 2) := by decide +kernel
theorem dX9_holdsText_127 : decode cX9_holdsText 127 = .ok (.if_icmp .ge 31, 3) := by decide +kernel
theorem dX9_holdsText_130 : decode cX9_holdsText 130 = .ok (.goto 24, 3) := by decide +kernel
theorem dX9_holdsText_133 : decode cX9_holdsText 133 = .ok (.iload_n 3, 1) := by decide +kernel
theorem dX9_holdsText_134 : decode cX9_holdsText 134 = .ok (.bipush 62, 2) := by decide +kernel
theorem dX9_holdsText_136 : decode cX9_holdsText 136 = .ok (.if_icmp .ne 12, 3) := by decide +kernel
theorem dX9_holdsText_139 : decode cX9_holdsText 139 = .ok (.iload_n 2, 1) := by decide +kernel
theorem dX9_holdsText_140 : decode cX9_holdsText 140 = .ok (.iload 4, 2) := by decide +kernel
theorem dX9_holdsText_142 : decode cX9_holdsText 142 = .ok (.if_icmp .le 16, 3) := by decide +kernel
theorem dX9_holdsText_145 : decode cX9_holdsText 145 = .ok (.goto 9, 3) := by decide +kernel
theorem dX9_holdsText_148 : decode cX9_holdsText 148 = .ok (.iload_n 2, 1) := by decide +kernel
theorem dX9_holdsText_149 : decode cX9_holdsText 149 = .ok (.iload 4, 2) := by decide +kernel
theorem dX9_holdsText_151 : decode cX9_holdsText 151 = .ok (.if_icmp .ne 7, 3) := by decide +kernel
theorem dX9_holdsText_154 : decode cX9_holdsText 154 = .ok (.iconst 1, 1) := by decide +kernel
theorem dX9_holdsText_155 : decode cX9_holdsText 155 = .ok (.goto 4, 3) := by decide +kernel
theorem dX9_holdsText_158 : decode cX9_holdsText 158 = .ok (.iconst 0, 1) := by decide +kernel
theorem dX9_holdsText_159 : decode cX9_holdsText 159 = .ok (.iastore, 1) := by decide +kernel
theorem dX9_holdsText_160 : decode cX9_holdsText 160 = .ok (.aload_n 0, 1) := by decide +kernel
theorem dX9_holdsText_161 : decode cX9_holdsText 161 = .ok (.dup, 1) := by decide +kernel
theorem dX9_holdsText_162 : decode cX9_holdsText 162 = .ok (.getfield 313, 3) := by decide +kernel
theorem dX9_holdsText_165 : decode cX9_holdsText 165 = .ok (.iconst 1, 1) := by decide +kernel
theorem dX9_holdsText_166 : decode cX9_holdsText 166 = .ok (.iadd, 1) := by decide +kernel
theorem dX9_holdsText_167 : decode cX9_holdsText 167 = .ok (.putfield 313, 3) := by decide +kernel
theorem dX9_holdsText_170 : decode cX9_holdsText 170 = .ok (.aload_n 0, 1) := by decide +kernel
theorem dX9_holdsText_171 : decode cX9_holdsText 171 = .ok (.iconst 0, 1) := by decide +kernel
theorem dX9_holdsText_172 : decode cX9_holdsText 172 = .ok (.invokevirtual 323, 3) := by decide +kernel
theorem dX9_holdsText_175 : decode cX9_holdsText 175 = .ok (.aload_n 0, 1) := by decide +kernel
theorem dX9_holdsText_176 : decode cX9_holdsText 176 = .ok (.iload_n 1, 1) := by decide +kernel
theorem dX9_holdsText_177 : decode cX9_holdsText 177 = .ok (.invokevirtual 307, 3) := by decide +kernel
theorem dX9_holdsText_180 : decode cX9_holdsText 180 = .ok (.bipush 41, 2) := by decide +kernel
theorem dX9_holdsText_182 : decode cX9_holdsText 182 = .ok (.if_icmp .ne 36, 3) := by decide +kernel
theorem dX9_holdsText_185 : decode cX9_holdsText 185 = .ok (.aload_n 0, 1) := by decide +kernel
theorem dX9_holdsText_186 : decode cX9_holdsText 186 = .ok (.iconst 2, 1) := by decide +kernel
theorem dX9_holdsText_187 : decode cX9_holdsText 187 = .ok (.invokevirtual 323, 3) := by decide +kernel
theorem dX9_holdsText_190 : decode cX9_holdsText 190 = .ok (.aload_n 0, 1) := by decide +kernel
theorem dX9_holdsText_191 : decode cX9_holdsText 191 = .ok (.dup, 1) := by decide +kernel
theorem dX9_holdsText_192 : decode cX9_holdsText 192 = .ok (.getfield 310, 3) := by decide +kernel
theorem dX9_holdsText_195 : decode cX9_holdsText 195 = .ok (.iconst 1, 1) := by decide +kernel
theorem dX9_holdsText_196 : decode cX9_holdsText 196 = .ok (.isub, 1) := by decide +kernel
theorem dX9_holdsText_197 : decode cX9_holdsText 197 = .ok (.putfield 310, 3) := by decide +kernel
theorem dX9_holdsText_200 : decode cX9_holdsText 200 = .ok (.aload_n 0, 1) := by decide +kernel
theorem dX9_holdsText_201 : decode cX9_holdsText 201 = .ok (.dup, 1) := by decide +kernel
theorem dX9_holdsText_202 : decode cX9_holdsText 202 = .ok (.getfield 304, 3) := by decide +kernel
theorem dX9_holdsText_205 : decode cX9_holdsText 205 = .ok (.iconst 1, 1) := by decide +kernel
theorem dX9_holdsText_206 : decode cX9_holdsText 206 = .ok (.iadd, 1) := by decide +kernel
theorem dX9_holdsText_207 : decode cX9_holdsText 207 = .ok (.putfield 304, 3) := by decide +kernel
theorem dX9_holdsText_210 : decode cX9_holdsText 210 = .ok (.aload_n 0, 1) := by decide +kernel
theorem dX9_holdsText_211 : decode cX9_holdsText 211 = .ok (.iconst 0, 1) := by decide +kernel
theorem dX9_holdsText_212 : decode cX9_holdsText 212 = .ok (.invokevirtual 323, 3) := by decide +kernel
theorem dX9_holdsText_215 : decode cX9_holdsText 215 = .ok (.goto (-40), 3) := by decide +kernel
theorem dX9_holdsText_218 : decode cX9_holdsText 218 = .ok (.aload_n 0, 1) := by decide +kernel
theorem dX9_holdsText_219 : decode cX9_holdsText 219 = .ok (.iload_n 1, 1) := by decide +kernel
theorem dX9_holdsText_220 : decode cX9_holdsText 220 = .ok (.invokevirtual 307, 3) := by decide +kernel
theorem dX9_holdsText_223 : decode cX9_holdsText 223 = .ok (.bipush 38, 2) := by decide +kernel
theorem dX9_holdsText_225 : decode cX9_holdsText 225 = .ok (.if_icmp .ne 13, 3) := by decide +kernel
theorem dX9_holdsText_228 : decode cX9_holdsText 228 = .ok (.aload_n 0, 1) := by decide +kernel
theorem dX9_holdsText_229 : decode cX9_holdsText 229 = .ok (.iconst 1, 1) := by decide +kernel
theorem dX9_holdsText_230 : decode cX9_holdsText 230 = .ok (.invokevirtual 323, 3) := by decide +kernel
theorem dX9_holdsText_233 : decode cX9_holdsText 233 = .ok (.aload_n 0, 1) := by decide +kernel
theorem dX9_holdsText_234 : decode cX9_holdsText 234 = .ok (.iconst 1, 1) := by decide +kernel
theorem dX9_holdsText_235 : decode cX9_holdsText 235 = .ok (.invokevirtual 316, 3) := by decide +kernel
theorem dX9_holdsText_238 : decode cX9_holdsText 238 = .ok (.aload_n 0, 1) := by decide +kernel
theorem dX9_holdsText_239 : decode cX9_holdsText 239 = .ok (.iload_n 1, 1) := by decide +kernel
theorem dX9_holdsText_240 : decode cX9_holdsText 240 = .ok (.invokevirtual 307, 3) := by decide +kernel
theorem dX9_holdsText_243 : decode cX9_holdsText 243 = .ok (.bipush 124, 2) := by decide +kernel
theorem dX9_holdsText_245 : decode cX9_holdsText 245 = .ok (.if_icmp .ne 13, 3) := by decide +kernel
theorem dX9_holdsText_248 : decode cX9_holdsText 248 = .ok (.aload_n 0, 1) := by decide +kernel
theorem dX9_holdsText_249 : decode cX9_holdsText 249 = .ok (.iconst 2, 1) := by decide +kernel
theorem dX9_holdsText_250 : decode cX9_holdsText 250 = .ok (.invokevirtual 323, 3) := by decide +kernel
theorem dX9_holdsText_253 : decode cX9_holdsText 253 = .ok (.aload_n 0, 1) := by decide +kernel
theorem dX9_holdsText_254 : decode cX9_holdsText 254 = .ok (.iconst 2, 1) := by decide +kernel
theorem dX9_holdsText_255 : decode cX9_holdsText 255 = .ok (.invokevirtual 316, 3) := by decide +kernel
theorem dX9_holdsText_258 : decode cX9_holdsText 258 = .ok (.aload_n 0, 1) := by decide +kernel
theorem dX9_holdsText_259 : decode cX9_holdsText 259 = .ok (.dup, 1) := by decide +kernel
theorem dX9_holdsText_260 : decode cX9_holdsText 260 = .ok (.getfield 304, 3) := by decide +kernel
theorem dX9_holdsText_263 : decode cX9_holdsText 263 = .ok (.iconst 1, 1) := by decide +kernel
theorem dX9_holdsText_264 : decode cX9_holdsText 264 = .ok (.iadd, 1) := by decide +kernel
theorem dX9_holdsText_265 : decode cX9_holdsText 265 = .ok (.putfield 304, 3) := by decide +kernel
theorem dX9_holdsText_268 : decode cX9_holdsText 268 = .ok (.goto (-253), 3) := by decide +kernel
theorem dX9_holdsText_271 : decode cX9_holdsText 271 = .ok (.aload_n 0, 1) := by decide +kernel
theorem dX9_holdsText_272 : decode cX9_holdsText 272 = .ok (.iconst 2, 1) := by decide +kernel
theorem dX9_holdsText_273 : decode cX9_holdsText 273 = .ok (.invokevirtual 323, 3) := by decide +kernel
theorem dX9_holdsText_276 : decode cX9_holdsText 276 = .ok (.aload_n 0, 1) := by decide +kernel
theorem dX9_holdsText_277 : decode cX9_holdsText 277 = .ok (.getfield 144, 3) := by decide +kernel
theorem dX9_holdsText_280 : decode cX9_holdsText 280 = .ok (.iconst 0, 1) := by decide +kernel
theorem dX9_holdsText_281 : decode cX9_holdsText 281 = .ok (.iaload, 1) := by decide +kernel
theorem dX9_holdsText_282 : decode cX9_holdsText 282 = .ok (.iconst 1, 1) := by decide +kernel
theorem dX9_holdsText_283 : decode cX9_holdsText 283 = .ok (.if_icmp .ne 7, 3) := by decide +kernel
theorem dX9_holdsText_286 : decode cX9_holdsText 286 = .ok (.iconst 1, 1) := by decide +kernel
theorem dX9_holdsText_287 : decode cX9_holdsText 287 = .ok (.goto 4, 3) := by decide +kernel
theorem dX9_holdsText_290 : decode cX9_holdsText 290 = .ok (.iconst 0, 1) := by decide +kernel
theorem dX9_holdsText_291 : decode cX9_holdsText 291 = .ok (.ireturn, 1) := by decide +kernel
theorem dX9_holdsFor_0 : decode cX9_holdsFor 0 = .ok (.aload_n 0, 1) := by decide +kernel
theorem dX9_holdsFor_1 : decode cX9_holdsFor 1 = .ok (.getfield 95, 3) := by decide +kernel
theorem dX9_holdsFor_4 : decode cX9_holdsFor 4 = .ok (.iload_n 2, 1) := by decide +kernel
theorem dX9_holdsFor_5 : decode cX9_holdsFor 5 = .ok (.iaload, 1) := by decide +kernel
theorem dX9_holdsFor_6 : decode cX9_holdsFor 6 = .ok (.istore 4, 2) := by decide +kernel
theorem dX9_holdsFor_8 : decode cX9_holdsFor 8 = .ok (.bipush (-9), 2) := by decide +kernel
theorem dX9_holdsFor_10 : decode cX9_holdsFor 10 = .ok (.istore 5, 2) := by decide +kernel
theorem dX9_holdsFor_12 : decode cX9_holdsFor 12 = .ok (.iconst 0, 1) := by decide +kernel
theorem dX9_holdsFor_13 : decode cX9_holdsFor 13 = .ok (.istore 6, 2) := by decide +kernel
theorem dX9_holdsFor_15 : decode cX9_holdsFor 15 = .ok (.iload 6, 2) := by decide +kernel
theorem dX9_holdsFor_17 : decode cX9_holdsFor 17 = .ok (.aload_n 0, 1) := by decide +kernel
theorem dX9_holdsFor_18 : decode cX9_holdsFor 18 = .ok (.getfield 298, 3) := by decide +kernel
theorem dX9_holdsFor_21 : decode cX9_holdsFor 21 = .ok (.if_icmp .ge 46, 3) := by decide +kernel
theorem dX9_holdsFor_24 : decode cX9_holdsFor 24 = .ok (.aload_n 0, 1) := by decide +kernel
theorem dX9_holdsFor_25 : decode cX9_holdsFor 25 = .ok (.getfield 129, 3) := by decide +kernel
theorem dX9_holdsFor_28 : decode cX9_holdsFor 28 = .ok (.iload 6, 2) := by decide +kernel
theorem dX9_holdsFor_30 : decode cX9_holdsFor 30 = .ok (.iaload, 1) := by decide +kernel
theorem dX9_holdsFor_31 : decode cX9_holdsFor 31 = .ok (.iload_n 1, 1) := by decide +kernel
theorem dX9_holdsFor_32 : decode cX9_holdsFor 32 = .ok (.if_icmp .ne 25, 3) := by decide +kernel
theorem dX9_holdsFor_35 : decode cX9_holdsFor 35 = .ok (.aload_n 0, 1) := by decide +kernel
theorem dX9_holdsFor_36 : decode cX9_holdsFor 36 = .ok (.aload_n 0, 1) := by decide +kernel
theorem dX9_holdsFor_37 : decode cX9_holdsFor 37 = .ok (.getfield 132, 3) := by decide +kernel
theorem dX9_holdsFor_40 : decode cX9_holdsFor 40 = .ok (.iload 6, 2) := by decide +kernel
theorem dX9_holdsFor_42 : decode cX9_holdsFor 42 = .ok (.iaload, 1) := by decide +kernel
theorem dX9_holdsFor_43 : decode cX9_holdsFor 43 = .ok (.iload 4, 2) := by decide +kernel
theorem dX9_holdsFor_45 : decode cX9_holdsFor 45 = .ok (.iload_n 3, 1) := by decide +kernel
theorem dX9_holdsFor_46 : decode cX9_holdsFor 46 = .ok (.invokevirtual 229, 3) := by decide +kernel
theorem dX9_holdsFor_49 : decode cX9_holdsFor 49 = .ok (.ifCond .eq 8, 3) := by decide +kernel
theorem dX9_holdsFor_52 : decode cX9_holdsFor 52 = .ok (.iload 6, 2) := by decide +kernel
theorem dX9_holdsFor_54 : decode cX9_holdsFor 54 = .ok (.goto 5, 3) := by decide +kernel
theorem dX9_holdsFor_57 : decode cX9_holdsFor 57 = .ok (.iload 5, 2) := by decide +kernel
theorem dX9_holdsFor_59 : decode cX9_holdsFor 59 = .ok (.istore 5, 2) := by decide +kernel
theorem dX9_holdsFor_61 : decode cX9_holdsFor 61 = .ok (.iinc 6 1, 3) := by decide +kernel
theorem dX9_holdsFor_64 : decode cX9_holdsFor 64 = .ok (.goto (-49), 3) := by decide +kernel
theorem dX9_holdsFor_67 : decode cX9_holdsFor 67 = .ok (.iload 5, 2) := by decide +kernel
theorem dX9_holdsFor_69 : decode cX9_holdsFor 69 = .ok (.ifCond .ge 5, 3) := by decide +kernel
theorem dX9_holdsFor_72 : decode cX9_holdsFor 72 = .ok (.iconst 0, 1) := by decide +kernel
theorem dX9_holdsFor_73 : decode cX9_holdsFor 73 = .ok (.ireturn, 1) := by decide +kernel
theorem dX9_holdsFor_74 : decode cX9_holdsFor 74 = .ok (.aload_n 0, 1) := by decide +kernel
theorem dX9_holdsFor_75 : decode cX9_holdsFor 75 = .ok (.getfield 138, 3) := by decide +kernel
theorem dX9_holdsFor_78 : decode cX9_holdsFor 78 = .ok (.bipush 107, 2) := by decide +kernel
theorem dX9_holdsFor_80 : decode cX9_holdsFor 80 = .ok (.aload_n 0, 1) := by decide +kernel
theorem dX9_holdsFor_81 : decode cX9_holdsFor 81 = .ok (.getfield 77, 3) := by decide +kernel
theorem dX9_holdsFor_84 : decode cX9_holdsFor 84 = .ok (.iload_n 2, 1) := by decide +kernel
theorem dX9_holdsFor_85 : decode cX9_holdsFor 85 = .ok (.iaload, 1) := by decide +kernel
theorem dX9_holdsFor_86 : decode cX9_holdsFor 86 = .ok (.iastore, 1) := by decide +kernel
theorem dX9_holdsFor_87 : decode cX9_holdsFor 87 = .ok (.aload_n 0, 1) := by decide +kernel
theorem dX9_holdsFor_88 : decode cX9_holdsFor 88 = .ok (.getfield 138, 3) := by decide +kernel
theorem dX9_holdsFor_91 : decode cX9_holdsFor 91 = .ok (.bipush 119, 2) := by decide +kernel
theorem dX9_holdsFor_93 : decode cX9_holdsFor 93 = .ok (.aload_n 0, 1) := by decide +kernel
theorem dX9_holdsFor_94 : decode cX9_holdsFor 94 = .ok (.getfield 89, 3) := by decide +kernel
theorem dX9_holdsFor_97 : decode cX9_holdsFor 97 = .ok (.iload_n 2, 1) := by decide +kernel
theorem dX9_holdsFor_98 : decode cX9_holdsFor 98 = .ok (.iaload, 1) := by decide +kernel
theorem dX9_holdsFor_99 : decode cX9_holdsFor 99 = .ok (.iastore, 1) := by decide +kernel
theorem dX9_holdsFor_100 : decode cX9_holdsFor 100 = .ok (.aload_n 0, 1) := by decide +kernel
theorem dX9_holdsFor_101 : decode cX9_holdsFor 101 = .ok (.getfield 138, 3) := by decide +kernel
theorem dX9_holdsFor_104 : decode cX9_holdsFor 104 = .ok (.bipush 97, 2) := by decide +kernel
theorem dX9_holdsFor_106 : decode cX9_holdsFor 106 = .ok (.iload_n 3, 1) := by decide +kernel
theorem dX9_holdsFor_107 : decode cX9_holdsFor 107 = .ok (.aload_n 0, 1) := by decide +kernel
theorem dX9_holdsFor_108 : decode cX9_holdsFor 108 = .ok (.getfield 83, 3) := by decide +kernel
theorem dX9_holdsFor_111 : decode cX9_holdsFor 111 = .ok (.iload_n 2, 1) := by decide +kernel
theorem dX9_holdsFor_112 : decode cX9_holdsFor 112 = .ok (.iaload, 1) := by decide +kernel
theorem dX9_holdsFor_113 : decode cX9_holdsFor 113 = .ok (.isub, 1) := by decide +kernel
theorem dX9_holdsFor_114 : decode cX9_holdsFor 114 = .ok (.iastore, 1) := by decide +kernel
theorem dX9_holdsFor_115 : decode cX9_holdsFor 115 = .ok (.aload_n 0, 1) := by decide +kernel
theorem dX9_holdsFor_116 : decode cX9_holdsFor 116 = .ok (.getfield 138, 3) := by decide +kernel
theorem dX9_holdsFor_119 : decode cX9_holdsFor 119 = .ok (.bipush 104, 2) := by decide +kernel
theorem dX9_holdsFor_121 : decode cX9_holdsFor 121 = .ok (.iload_n 3, 1) := by decide +kernel
theorem dX9_holdsFor_122 : decode cX9_holdsFor 122 = .ok (.aload_n 0, 1) := by decide +kernel
theorem dX9_holdsFor_123 : decode cX9_holdsFor 123 = .ok (.getfield 98, 3) := by decide +kernel
theorem dX9_holdsFor_126 : decode cX9_holdsFor 126 = .ok (.iload_n 2, 1) := by decide +kernel
theorem dX9_holdsFor_127 : decode cX9_holdsFor 127 = .ok (.iaload, 1) := by decide +kernel
theorem dX9_holdsFor_128 : decode cX9_holdsFor 128 = .ok (.isub, 1) := by decide +kernel
theorem dX9_holdsFor_129 : decode cX9_holdsFor 129 = .ok (.iastore, 1) := by decide +kernel
theorem dX9_holdsFor_130 : decode cX9_holdsFor 130 = .ok (.aload_n 0, 1) := by decide +kernel
theorem dX9_holdsFor_131 : decode cX9_holdsFor 131 = .ok (.getfield 138, 3) := by decide +kernel
theorem dX9_holdsFor_134 : decode cX9_holdsFor 134 = .ok (.bipush 115, 2) := by decide +kernel
theorem dX9_holdsFor_136 : decode cX9_holdsFor 136 = .ok (.aload_n 0, 1) := by decide +kernel
theorem dX9_holdsFor_137 : decode cX9_holdsFor 137 = .ok (.aload_n 0, 1) := by decide +kernel
theorem dX9_holdsFor_138 : decode cX9_holdsFor 138 = .ok (.getfield 86, 3) := by decide +kernel
theorem dX9_holdsFor_141 : decode cX9_holdsFor 141 = .ok (.iload_n 2, 1) := by decide +kernel
theorem dX9_holdsFor_142 : decode cX9_holdsFor 142 = .ok (.iaload, 1) := by decide +kernel
theorem dX9_holdsFor_143 : decode cX9_holdsFor 143 = .ok (.iload_n 3, 1) := by decide +kernel
theorem dX9_holdsFor_144 : decode cX9_holdsFor 144 = .ok (.iload 4, 2) := by decide +kernel
theorem dX9_holdsFor_146 : decode cX9_holdsFor 146 = .ok (.invokevirtual 252, 3) := by decide +kernel
theorem dX9_holdsFor_149 : decode cX9_holdsFor 149 = .ok (.iastore, 1) := by decide +kernel
theorem dX9_holdsFor_150 : decode cX9_holdsFor 150 = .ok (.aload_n 0, 1) := by decide +kernel
theorem dX9_holdsFor_151 : decode cX9_holdsFor 151 = .ok (.getfield 138, 3) := by decide +kernel
theorem dX9_holdsFor_154 : decode cX9_holdsFor 154 = .ok (.bipush 117, 2) := by decide +kernel
theorem dX9_holdsFor_156 : decode cX9_holdsFor 156 = .ok (.aload_n 0, 1) := by decide +kernel
theorem dX9_holdsFor_157 : decode cX9_holdsFor 157 = .ok (.getfield 59, 3) := by decide +kernel
theorem dX9_holdsFor_160 : decode cX9_holdsFor 160 = .ok (.aload_n 0, 1) := by decide +kernel
theorem dX9_holdsFor_161 : decode cX9_holdsFor 161 = .ok (.getfield 86, 3) := by decide +kernel
theorem dX9_holdsFor_164 : decode cX9_holdsFor 164 = .ok (.iload_n 2, 1) := by decide +kernel
theorem dX9_holdsFor_165 : decode cX9_holdsFor 165 = .ok (.iaload, 1) := by decide +kernel
theorem dX9_holdsFor_166 : decode cX9_holdsFor 166 = .ok (.iaload, 1) := by decide +kernel
theorem dX9_holdsFor_167 : decode cX9_holdsFor 167 = .ok (.iastore, 1) := by decide +kernel
theorem dX9_holdsFor_168 : decode cX9_holdsFor 168 = .ok (.aload_n 0, 1) := by decide +kernel
theorem dX9_holdsFor_169 : decode cX9_holdsFor 169 = .ok (.getfield 138, 3) := by decide +kernel
theorem dX9_holdsFor_172 : decode cX9_holdsFor 172 = .ok (.bipush 111, 2) := by decide +kernel
theorem dX9_holdsFor_174 : decode cX9_holdsFor 174 = .ok (.iload 4, 2) := by decide +kernel
theorem dX9_holdsFor_176 : decode cX9_holdsFor 176 = .ok (.iastore, 1) := by decide +kernel
theorem dX9_holdsFor_177 : decode cX9_holdsFor 177 = .ok (.aload_n 0, 1) := by decide +kernel
theorem dX9_holdsFor_178 : decode cX9_holdsFor 178 = .ok (.getfield 138, 3) := by decide +kernel
theorem dX9_holdsFor_181 : decode cX9_holdsFor 181 = .ok (.bipush 98, 2) := by decide +kernel
theorem dX9_holdsFor_183 : decode cX9_holdsFor 183 = .ok (.aload_n 0, 1) := by decide +kernel
theorem dX9_holdsFor_184 : decode cX9_holdsFor 184 = .ok (.getfield 110, 3) := by decide +kernel
theorem dX9_holdsFor_187 : decode cX9_holdsFor 187 = .ok (.iload_n 2, 1) := by decide +kernel
theorem dX9_holdsFor_188 : decode cX9_holdsFor 188 = .ok (.baload, 1) := by decide +kernel
theorem dX9_holdsFor_189 : decode cX9_holdsFor 189 = .ok (.ifCond .eq 7, 3) := by decide +kernel
theorem dX9_holdsFor_192 : decode cX9_holdsFor 192 = .ok (.iconst 1, 1) := by decide +kernel
theorem dX9_holdsFor_193 : decode cX9_holdsFor 193 = .ok (.goto 4, 3) := by decide +kernel
theorem dX9_holdsFor_196 : decode cX9_holdsFor 196 = .ok (.iconst 0, 1) := by decide +kernel
theorem dX9_holdsFor_197 : decode cX9_holdsFor 197 = .ok (.iastore, 1) := by decide +kernel
theorem dX9_holdsFor_198 : decode cX9_holdsFor 198 = .ok (.aload_n 0, 1) := by decide +kernel
theorem dX9_holdsFor_199 : decode cX9_holdsFor 199 = .ok (.getfield 138, 3) := by decide +kernel
theorem dX9_holdsFor_202 : decode cX9_holdsFor 202 = .ok (.bipush 99, 2) := by decide +kernel
theorem dX9_holdsFor_204 : decode cX9_holdsFor 204 = .ok (.aload_n 0, 1) := by decide +kernel
theorem dX9_holdsFor_205 : decode cX9_holdsFor 205 = .ok (.getfield 104, 3) := by decide +kernel
theorem dX9_holdsFor_208 : decode cX9_holdsFor 208 = .ok (.iload_n 2, 1) := by decide +kernel
theorem dX9_holdsFor_209 : decode cX9_holdsFor 209 = .ok (.iaload, 1) := by decide +kernel
theorem dX9_holdsFor_210 : decode cX9_holdsFor 210 = .ok (.iastore, 1) := by decide +kernel
theorem dX9_holdsFor_211 : decode cX9_holdsFor 211 = .ok (.aload_n 0, 1) := by decide +kernel
theorem dX9_holdsFor_212 : decode cX9_holdsFor 212 = .ok (.iload 5, 2) := by decide +kernel
theorem dX9_holdsFor_214 : decode cX9_holdsFor 214 = .ok (.invokevirtual 326, 3) := by decide +kernel
theorem dX9_holdsFor_217 : decode cX9_holdsFor 217 = .ok (.ireturn, 1) := by decide +kernel
theorem dX9_holds_0 : decode cX9_holds 0 = .ok (.iload_n 1, 1) := by decide +kernel
theorem dX9_holds_1 : decode cX9_holds 1 = .ok (.i2l, 1) := by decide +kernel
theorem dX9_holds_2 : decode cX9_holds 2 = .ok (.lconst 0, 1) := by decide +kernel
theorem dX9_holds_3 : decode cX9_holds 3 = .ok (.ldc2_w 262, 3) := by decide +kernel
theorem dX9_holds_6 : decode cX9_holds 6 = .ok (.invokestatic 203, 3) := by decide +kernel
theorem dX9_holds_9 : decode cX9_holds 9 = .ok (.ifCond .ne 10, 3) := by decide +kernel
theorem dX9_holds_12 : decode cX9_holds 12 = .ok (.aload_n 0, 1) := by decide +kernel
theorem dX9_holds_13 : decode cX9_holds 13 = .ok (.bipush (-2), 2) := by decide +kernel
theorem dX9_holds_15 : decode cX9_holds 15 = .ok (.invokevirtual 192, 3) := by decide +kernel
theorem dX9_holds_18 : decode cX9_holds 18 = .ok (.ireturn, 1) := by decide +kernel
theorem dX9_holds_19 : decode cX9_holds 19 = .ok (.aload_n 0, 1) := by decide +kernel
theorem dX9_holds_20 : decode cX9_holds 20 = .ok (.iload_n 2, 1) := by decide +kernel
theorem dX9_holds_21 : decode cX9_holds 21 = .ok (.invokevirtual 329, 3) := by decide +kernel
theorem dX9_holds_24 : decode cX9_holds 24 = .ok (.ifCond .ne 9, 3) := by decide +kernel
theorem dX9_holds_27 : decode cX9_holds 27 = .ok (.aload_n 0, 1) := by decide +kernel
theorem dX9_holds_28 : decode cX9_holds 28 = .ok (.iconst (-1), 1) := by decide +kernel
theorem dX9_holds_29 : decode cX9_holds 29 = .ok (.invokevirtual 192, 3) := by decide +kernel
theorem dX9_holds_32 : decode cX9_holds 32 = .ok (.ireturn, 1) := by decide +kernel
theorem dX9_holds_33 : decode cX9_holds 33 = .ok (.aload_n 0, 1) := by decide +kernel
theorem dX9_holds_34 : decode cX9_holds 34 = .ok (.getfield 92, 3) := by decide +kernel
theorem dX9_holds_37 : decode cX9_holds 37 = .ok (.iload_n 2, 1) := by decide +kernel
theorem dX9_holds_38 : decode cX9_holds 38 = .ok (.iaload, 1) := by decide +kernel
theorem dX9_holds_39 : decode cX9_holds 39 = .ok (.ifCond .eq 10, 3) := by decide +kernel
theorem dX9_holds_42 : decode cX9_holds 42 = .ok (.aload_n 0, 1) := by decide +kernel
theorem dX9_holds_43 : decode cX9_holds 43 = .ok (.bipush (-3), 2) := by decide +kernel
theorem dX9_holds_45 : decode cX9_holds 45 = .ok (.invokevirtual 192, 3) := by decide +kernel
theorem dX9_holds_48 : decode cX9_holds 48 = .ok (.ireturn, 1) := by decide +kernel
theorem dX9_holds_49 : decode cX9_holds 49 = .ok (.aload_n 0, 1) := by decide +kernel
theorem dX9_holds_50 : decode cX9_holds 50 = .ok (.invokevirtual 214, 3) := by decide +kernel
theorem dX9_holds_53 : decode cX9_holds 53 = .ok (.aload_n 0, 1) := by decide +kernel
theorem dX9_holds_54 : decode cX9_holds 54 = .ok (.iload_n 1, 1) := by decide +kernel
theorem dX9_holds_55 : decode cX9_holds 55 = .ok (.iload_n 2, 1) := by decide +kernel
theorem dX9_holds_56 : decode cX9_holds 56 = .ok (.aload_n 0, 1) := by decide +kernel
theorem dX9_holds_57 : decode cX9_holds 57 = .ok (.getfield 207, 3) := by decide +kernel
theorem dX9_holds_60 : decode cX9_holds 60 = .ok (.invokevirtual 332, 3) := by decide +kernel
theorem dX9_holds_63 : decode cX9_holds 63 = .ok (.ifCond .eq 7, 3) := by decide +kernel
theorem dX9_holds_66 : decode cX9_holds 66 = .ok (.iconst 1, 1) := by decide +kernel
theorem dX9_holds_67 : decode cX9_holds 67 = .ok (.goto 4, 3) := by decide +kernel
theorem dX9_holds_70 : decode cX9_holds 70 = .ok (.iconst 0, 1) := by decide +kernel
theorem dX9_holds_71 : decode cX9_holds 71 = .ok (.ireturn, 1) := by decide +kernel
theorem dX9_keep_0 : decode cX9_keep 0 = .ok (.iload_n 1, 1) := by decide +kernel
theorem dX9_keep_1 : decode cX9_keep 1 = .ok (.i2l, 1) := by decide +kernel
theorem dX9_keep_2 : decode cX9_keep 2 = .ok (.lconst 1, 1) := by decide +kernel
theorem dX9_keep_3 : decode cX9_keep 3 = .ok (.ldc2_w 335, 3) := by decide +kernel
theorem dX9_keep_6 : decode cX9_keep 6 = .ok (.invokestatic 188, 3) := by decide +kernel
theorem dX9_keep_9 : decode cX9_keep 9 = .ok (.istore_n 2, 1) := by decide +kernel
theorem dX9_keep_10 : decode cX9_keep 10 = .ok (.iload_n 2, 1) := by decide +kernel
theorem dX9_keep_11 : decode cX9_keep 11 = .ok (.ifCond .eq 9, 3) := by decide +kernel
theorem dX9_keep_14 : decode cX9_keep 14 = .ok (.aload_n 0, 1) := by decide +kernel
theorem dX9_keep_15 : decode cX9_keep 15 = .ok (.iload_n 2, 1) := by decide +kernel
theorem dX9_keep_16 : decode cX9_keep 16 = .ok (.invokevirtual 192, 3) := by decide +kernel
theorem dX9_keep_19 : decode cX9_keep 19 = .ok (.ireturn, 1) := by decide +kernel
theorem dX9_keep_20 : decode cX9_keep 20 = .ok (.aload_n 0, 1) := by decide +kernel
theorem dX9_keep_21 : decode cX9_keep 21 = .ok (.getfield 116, 3) := by decide +kernel
theorem dX9_keep_24 : decode cX9_keep 24 = .ok (.istore_n 3, 1) := by decide +kernel
theorem dX9_keep_25 : decode cX9_keep 25 = .ok (.aload_n 0, 1) := by decide +kernel
theorem dX9_keep_26 : decode cX9_keep 26 = .ok (.iload_n 1, 1) := by decide +kernel
theorem dX9_keep_27 : decode cX9_keep 27 = .ok (.putfield 116, 3) := by decide +kernel
theorem dX9_keep_30 : decode cX9_keep 30 = .ok (.iload_n 3, 1) := by decide +kernel
theorem dX9_keep_31 : decode cX9_keep 31 = .ok (.ireturn, 1) := by decide +kernel
theorem dX9_goalOf_0 : decode cX9_goalOf 0 = .ok (.aload_n 0, 1) := by decide +kernel
theorem dX9_goalOf_1 : decode cX9_goalOf 1 = .ok (.getfield 110, 3) := by decide +kernel
theorem dX9_goalOf_4 : decode cX9_goalOf 4 = .ok (.iload_n 1, 1) := by decide +kernel
theorem dX9_goalOf_5 : decode cX9_goalOf 5 = .ok (.baload, 1) := by decide +kernel
theorem dX9_goalOf_6 : decode cX9_goalOf 6 = .ok (.ifCond .eq 10, 3) := by decide +kernel
theorem dX9_goalOf_9 : decode cX9_goalOf 9 = .ok (.aload_n 0, 1) := by decide +kernel
theorem dX9_goalOf_10 : decode cX9_goalOf 10 = .ok (.getfield 80, 3) := by decide +kernel
theorem dX9_goalOf_13 : decode cX9_goalOf 13 = .ok (.iload_n 1, 1) := by decide +kernel
theorem dX9_goalOf_14 : decode cX9_goalOf 14 = .ok (.iaload, 1) := by decide +kernel
theorem dX9_goalOf_15 : decode cX9_goalOf 15 = .ok (.ireturn, 1) := by decide +kernel
theorem dX9_goalOf_16 : decode cX9_goalOf 16 = .ok (.aload_n 0, 1) := by decide +kernel
theorem dX9_goalOf_17 : decode cX9_goalOf 17 = .ok (.aload_n 0, 1) := by decide +kernel
theorem dX9_goalOf_18 : decode cX9_goalOf 18 = .ok (.getfield 86, 3) := by decide +kernel
theorem dX9_goalOf_21 : decode cX9_goalOf 21 = .ok (.iload_n 1, 1) := by decide +kernel
theorem dX9_goalOf_22 : decode cX9_goalOf 22 = .ok (.iaload, 1) := by decide +kernel
theorem dX9_goalOf_23 : decode cX9_goalOf 23 = .ok (.iload_n 2, 1) := by decide +kernel
theorem dX9_goalOf_24 : decode cX9_goalOf 24 = .ok (.aload_n 0, 1) := by decide +kernel
theorem dX9_goalOf_25 : decode cX9_goalOf 25 = .ok (.getfield 95, 3) := by decide +kernel
theorem dX9_goalOf_28 : decode cX9_goalOf 28 = .ok (.iload_n 1, 1) := by decide +kernel
theorem dX9_goalOf_29 : decode cX9_goalOf 29 = .ok (.iaload, 1) := by decide +kernel
theorem dX9_goalOf_30 : decode cX9_goalOf 30 = .ok (.invokevirtual 249, 3) := by decide +kernel
theorem dX9_goalOf_33 : decode cX9_goalOf 33 = .ok (.istore_n 3, 1) := by decide +kernel
theorem dX9_goalOf_34 : decode cX9_goalOf 34 = .ok (.iload_n 3, 1) := by decide +kernel
theorem dX9_goalOf_35 : decode cX9_goalOf 35 = .ok (.ifCond .lt 20, 3) := by decide +kernel
theorem dX9_goalOf_38 : decode cX9_goalOf 38 = .ok (.aload_n 0, 1) := by decide +kernel
theorem dX9_goalOf_39 : decode cX9_goalOf 39 = .ok (.getfield 68, 3) := by decide +kernel
theorem dX9_goalOf_42 : decode cX9_goalOf 42 = .ok (.iload_n 3, 1) := by decide +kernel
theorem dX9_goalOf_43 : decode cX9_goalOf 43 = .ok (.iaload, 1) := by decide +kernel
theorem dX9_goalOf_44 : decode cX9_goalOf 44 = .ok (.iconst 1, 1) := by decide +kernel
theorem dX9_goalOf_45 : decode cX9_goalOf 45 = .ok (.if_icmp .ne 10, 3) := by decide +kernel
theorem dX9_goalOf_48 : decode cX9_goalOf 48 = .ok (.aload_n 0, 1) := by decide +kernel
theorem dX9_goalOf_49 : decode cX9_goalOf 49 = .ok (.getfield 71, 3) := by decide +kernel
theorem dX9_goalOf_52 : decode cX9_goalOf 52 = .ok (.iload_n 3, 1) := by decide +kernel
theorem dX9_goalOf_53 : decode cX9_goalOf 53 = .ok (.iaload, 1) := by decide +kernel
theorem dX9_goalOf_54 : decode cX9_goalOf 54 = .ok (.ireturn, 1) := by decide +kernel
theorem dX9_goalOf_55 : decode cX9_goalOf 55 = .ok (.aload_n 0, 1) := by decide +kernel
theorem dX9_goalOf_56 : decode cX9_goalOf 56 = .ok (.aload_n 0, 1) := by decide +kernel
theorem dX9_goalOf_57 : decode cX9_goalOf 57 = .ok (.getfield 59, 3) := by decide +kernel
theorem dX9_goalOf_60 : decode cX9_goalOf 60 = .ok (.aload_n 0, 1) := by decide +kernel
theorem dX9_goalOf_61 : decode cX9_goalOf 61 = .ok (.getfield 86, 3) := by decide +kernel
theorem dX9_goalOf_64 : decode cX9_goalOf 64 = .ok (.iload_n 1, 1) := by decide +kernel
theorem dX9_goalOf_65 : decode cX9_goalOf 65 = .ok (.iaload, 1) := by decide +kernel
theorem dX9_goalOf_66 : decode cX9_goalOf 66 = .ok (.iaload, 1) := by decide +kernel
theorem dX9_goalOf_67 : decode cX9_goalOf 67 = .ok (.iload_n 2, 1) := by decide +kernel
theorem dX9_goalOf_68 : decode cX9_goalOf 68 = .ok (.aload_n 0, 1) := by decide +kernel
theorem dX9_goalOf_69 : decode cX9_goalOf 69 = .ok (.getfield 95, 3) := by decide +kernel
theorem dX9_goalOf_72 : decode cX9_goalOf 72 = .ok (.iload_n 1, 1) := by decide +kernel
theorem dX9_goalOf_73 : decode cX9_goalOf 73 = .ok (.iaload, 1) := by decide +kernel
theorem dX9_goalOf_74 : decode cX9_goalOf 74 = .ok (.invokevirtual 235, 3) := by decide +kernel
theorem dX9_goalOf_77 : decode cX9_goalOf 77 = .ok (.ireturn, 1) := by decide +kernel
theorem dX9_wayOn_0 : decode cX9_wayOn 0 = .ok (.iconst 0, 1) := by decide +kernel
theorem dX9_wayOn_1 : decode cX9_wayOn 1 = .ok (.istore_n 3, 1) := by decide +kernel
theorem dX9_wayOn_2 : decode cX9_wayOn 2 = .ok (.iload_n 3, 1) := by decide +kernel
theorem dX9_wayOn_3 : decode cX9_wayOn 3 = .ok (.aload_n 0, 1) := by decide +kernel
theorem dX9_wayOn_4 : decode cX9_wayOn 4 = .ok (.getfield 200, 3) := by decide +kernel
theorem dX9_wayOn_7 : decode cX9_wayOn 7 = .ok (.if_icmp .ge 119, 3) := by decide +kernel
theorem dX9_wayOn_10 : decode cX9_wayOn 10 = .ok (.iload_n 2, 1) := by decide +kernel
theorem dX9_wayOn_11 : decode cX9_wayOn 11 = .ok (.ifCond .lt 115, 3) := by decide +kernel
theorem dX9_wayOn_14 : decode cX9_wayOn 14 = .ok (.iload_n 2, 1) := by decide +kernel
theorem dX9_wayOn_15 : decode cX9_wayOn 15 = .ok (.iload_n 1, 1) := by decide +kernel
theorem dX9_wayOn_16 : decode cX9_wayOn 16 = .ok (.if_icmp .eq 110, 3) := by decide +kernel
theorem dX9_wayOn_19 : decode cX9_wayOn 19 = .ok (.aload_n 0, 1) := by decide +kernel
theorem dX9_wayOn_20 : decode cX9_wayOn 20 = .ok (.getfield 16, 3) := by decide +kernel
theorem dX9_wayOn_23 : decode cX9_wayOn 23 = .ok (.iload_n 3, 1) := by decide +kernel
theorem dX9_wayOn_24 : decode cX9_wayOn 24 = .ok (.iaload, 1) := by decide +kernel
theorem dX9_wayOn_25 : decode cX9_wayOn 25 = .ok (.iload_n 1, 1) := by decide +kernel
theorem dX9_wayOn_26 : decode cX9_wayOn 26 = .ok (.if_icmp .eq 16, 3) := by decide +kernel
theorem dX9_wayOn_29 : decode cX9_wayOn 29 = .ok (.aload_n 0, 1) := by decide +kernel
theorem dX9_wayOn_30 : decode cX9_wayOn 30 = .ok (.getfield 19, 3) := by decide +kernel
theorem dX9_wayOn_33 : decode cX9_wayOn 33 = .ok (.iload_n 3, 1) := by decide +kernel
theorem dX9_wayOn_34 : decode cX9_wayOn 34 = .ok (.iaload, 1) := by decide +kernel
theorem dX9_wayOn_35 : decode cX9_wayOn 35 = .ok (.iload_n 1, 1) := by decide +kernel
theorem dX9_wayOn_36 : decode cX9_wayOn 36 = .ok (.if_icmp .eq 6, 3) := by decide +kernel
theorem dX9_wayOn_39 : decode cX9_wayOn 39 = .ok (.goto 81, 3) := by decide +kernel
theorem dX9_wayOn_42 : decode cX9_wayOn 42 = .ok (.aload_n 0, 1) := by decide +kernel
theorem dX9_wayOn_43 : decode cX9_wayOn 43 = .ok (.getfield 16, 3) := by decide +kernel
theorem dX9_wayOn_46 : decode cX9_wayOn 46 = .ok (.iload_n 3, 1) := by decide +kernel
theorem dX9_wayOn_47 : decode cX9_wayOn 47 = .ok (.iaload, 1) := by decide +kernel
theorem dX9_wayOn_48 : decode cX9_wayOn 48 = .ok (.iload_n 1, 1) := by decide +kernel
theorem dX9_wayOn_49 : decode cX9_wayOn 49 = .ok (.if_icmp .ne 12, 3) := by decide +kernel
theorem dX9_wayOn_52 : decode cX9_wayOn 52 = .ok (.aload_n 0, 1) := by decide +kernel
theorem dX9_wayOn_53 : decode cX9_wayOn 53 = .ok (.getfield 19, 3) := by decide +kernel
theorem dX9_wayOn_56 : decode cX9_wayOn 56 = .ok (.iload_n 3, 1) := by decide +kernel
theorem dX9_wayOn_57 : decode cX9_wayOn 57 = .ok (.iaload, 1) := by decide +kernel
theorem dX9_wayOn_58 : decode cX9_wayOn 58 = .ok (.goto 9, 3) := by decide +kernel
theorem dX9_wayOn_61 : decode cX9_wayOn 61 = .ok (.aload_n 0, 1) := by decide +kernel
theorem dX9_wayOn_62 : decode cX9_wayOn 62 = .ok (.getfield 16, 3) := by decide +kernel
theorem dX9_wayOn_65 : decode cX9_wayOn 65 = .ok (.iload_n 3, 1) := by decide +kernel
theorem dX9_wayOn_66 : decode cX9_wayOn 66 = .ok (.iaload, 1) := by decide +kernel
theorem dX9_wayOn_67 : decode cX9_wayOn 67 = .ok (.istore 4, 2) := by decide +kernel
theorem dX9_wayOn_69 : decode cX9_wayOn 69 = .ok (.aload_n 0, 1) := by decide +kernel
theorem dX9_wayOn_70 : decode cX9_wayOn 70 = .ok (.getfield 40, 3) := by decide +kernel
theorem dX9_wayOn_73 : decode cX9_wayOn 73 = .ok (.bipush 12, 2) := by decide +kernel
theorem dX9_wayOn_75 : decode cX9_wayOn 75 = .ok (.iload_n 1, 1) := by decide +kernel
theorem dX9_wayOn_76 : decode cX9_wayOn 76 = .ok (.imul, 1) := by decide +kernel
theorem dX9_wayOn_77 : decode cX9_wayOn 77 = .ok (.iload_n 2, 1) := by decide +kernel
theorem dX9_wayOn_78 : decode cX9_wayOn 78 = .ok (.iadd, 1) := by decide +kernel
theorem dX9_wayOn_79 : decode cX9_wayOn 79 = .ok (.iaload, 1) := by decide +kernel
theorem dX9_wayOn_80 : decode cX9_wayOn 80 = .ok (.ldc 213, 2) := by decide +kernel
theorem dX9_wayOn_82 : decode cX9_wayOn 82 = .ok (.if_icmp .ge 38, 3) := by decide +kernel
theorem dX9_wayOn_85 : decode cX9_wayOn 85 = .ok (.aload_n 0, 1) := by decide +kernel
theorem dX9_wayOn_86 : decode cX9_wayOn 86 = .ok (.getfield 22, 3) := by decide +kernel
theorem dX9_wayOn_89 : decode cX9_wayOn 89 = .ok (.iload_n 3, 1) := by decide +kernel
theorem dX9_wayOn_90 : decode cX9_wayOn 90 = .ok (.iaload, 1) := by decide +kernel
theorem dX9_wayOn_91 : decode cX9_wayOn 91 = .ok (.aload_n 0, 1) := by decide +kernel
theorem dX9_wayOn_92 : decode cX9_wayOn 92 = .ok (.getfield 40, 3) := by decide +kernel
theorem dX9_wayOn_95 : decode cX9_wayOn 95 = .ok (.bipush 12, 2) := by decide +kernel
theorem dX9_wayOn_97 : decode cX9_wayOn 97 = .ok (.iload 4, 2) := by decide +kernel
theorem dX9_wayOn_99 : decode cX9_wayOn 99 = .ok (.imul, 1) := by decide +kernel
theorem dX9_wayOn_100 : decode cX9_wayOn 100 = .ok (.iload_n 2, 1) := by decide +kernel
theorem dX9_wayOn_101 : decode cX9_wayOn 101 = .ok (.iadd, 1) := by decide +kernel
theorem dX9_wayOn_102 : decode cX9_wayOn 102 = .ok (.iaload, 1) := by decide +kernel
theorem dX9_wayOn_103 : decode cX9_wayOn 103 = .ok (.iadd, 1) := by decide +kernel
theorem dX9_wayOn_104 : decode cX9_wayOn 104 = .ok (.aload_n 0, 1) := by decide +kernel
theorem dX9_wayOn_105 : decode cX9_wayOn 105 = .ok (.getfield 40, 3) := by decide +kernel
theorem dX9_wayOn_108 : decode cX9_wayOn 108 = .ok (.bipush 12, 2) := by decide +kernel
theorem dX9_wayOn_110 : decode cX9_wayOn 110 = .ok (.iload_n 1, 1) := by decide +kernel
theorem dX9_wayOn_111 : decode cX9_wayOn 111 = .ok (.imul, 1) := by decide +kernel
theorem dX9_wayOn_112 : decode cX9_wayOn 112 = .ok (.iload_n 2, 1) := by decide +kernel
theorem dX9_wayOn_113 : decode cX9_wayOn 113 = .ok (.iadd, 1) := by decide +kernel
theorem dX9_wayOn_114 : decode cX9_wayOn 114 = .ok (.iaload, 1) := by decide +kernel
theorem dX9_wayOn_115 : decode cX9_wayOn 115 = .ok (.if_icmp .ne 5, 3) := by decide +kernel
theorem dX9_wayOn_118 : decode cX9_wayOn 118 = .ok (.iload_n 3, 1) := by decide +kernel
theorem dX9_wayOn_119 : decode cX9_wayOn 119 = .ok (.ireturn, 1) := by decide +kernel
theorem dX9_wayOn_120 : decode cX9_wayOn 120 = .ok (.iinc 3 1, 3) := by decide +kernel
theorem dX9_wayOn_123 : decode cX9_wayOn 123 = .ok (.goto (-121), 3) := by decide +kernel
theorem dX9_wayOn_126 : decode cX9_wayOn 126 = .ok (.bipush (-9), 2) := by decide +kernel
theorem dX9_wayOn_128 : decode cX9_wayOn 128 = .ok (.ireturn, 1) := by decide +kernel
theorem dX9_ends_0 : decode cX9_ends 0 = .ok (.aload_n 0, 1) := by decide +kernel
theorem dX9_ends_1 : decode cX9_ends 1 = .ok (.getfield 92, 3) := by decide +kernel
theorem dX9_ends_4 : decode cX9_ends 4 = .ok (.iload_n 1, 1) := by decide +kernel
theorem dX9_ends_5 : decode cX9_ends 5 = .ok (.iload_n 2, 1) := by decide +kernel
theorem dX9_ends_6 : decode cX9_ends 6 = .ok (.iastore, 1) := by decide +kernel
theorem dX9_ends_7 : decode cX9_ends 7 = .ok (.aload_n 0, 1) := by decide +kernel
theorem dX9_ends_8 : decode cX9_ends 8 = .ok (.getfield 98, 3) := by decide +kernel
theorem dX9_ends_11 : decode cX9_ends 11 = .ok (.iload_n 1, 1) := by decide +kernel
theorem dX9_ends_12 : decode cX9_ends 12 = .ok (.iload_n 3, 1) := by decide +kernel
theorem dX9_ends_13 : decode cX9_ends 13 = .ok (.iastore, 1) := by decide +kernel
theorem dX9_ends_14 : decode cX9_ends 14 = .ok (.iload_n 2, 1) := by decide +kernel
theorem dX9_ends_15 : decode cX9_ends 15 = .ok (.iconst 2, 1) := by decide +kernel
theorem dX9_ends_16 : decode cX9_ends 16 = .ok (.if_icmp .ne 37, 3) := by decide +kernel
theorem dX9_ends_19 : decode cX9_ends 19 = .ok (.aload_n 0, 1) := by decide +kernel
theorem dX9_ends_20 : decode cX9_ends 20 = .ok (.getfield 77, 3) := by decide +kernel
theorem dX9_ends_23 : decode cX9_ends 23 = .ok (.iload_n 1, 1) := by decide +kernel
theorem dX9_ends_24 : decode cX9_ends 24 = .ok (.iaload, 1) := by decide +kernel
theorem dX9_ends_25 : decode cX9_ends 25 = .ok (.iconst 1, 1) := by decide +kernel
theorem dX9_ends_26 : decode cX9_ends 26 = .ok (.if_icmp .ne 27, 3) := by decide +kernel
theorem dX9_ends_29 : decode cX9_ends 29 = .ok (.iload_n 3, 1) := by decide +kernel
theorem dX9_ends_30 : decode cX9_ends 30 = .ok (.aload_n 0, 1) := by decide +kernel
theorem dX9_ends_31 : decode cX9_ends 31 = .ok (.getfield 83, 3) := by decide +kernel
theorem dX9_ends_34 : decode cX9_ends 34 = .ok (.iload_n 1, 1) := by decide +kernel
theorem dX9_ends_35 : decode cX9_ends 35 = .ok (.iaload, 1) := by decide +kernel
theorem dX9_ends_36 : decode cX9_ends 36 = .ok (.isub, 1) := by decide +kernel
theorem dX9_ends_37 : decode cX9_ends 37 = .ok (.aload_n 0, 1) := by decide +kernel
theorem dX9_ends_38 : decode cX9_ends 38 = .ok (.getfield 89, 3) := by decide +kernel
theorem dX9_ends_41 : decode cX9_ends 41 = .ok (.iload_n 1, 1) := by decide +kernel
theorem dX9_ends_42 : decode cX9_ends 42 = .ok (.iaload, 1) := by decide +kernel
theorem dX9_ends_43 : decode cX9_ends 43 = .ok (.if_icmp .le 10, 3) := by decide +kernel
theorem dX9_ends_46 : decode cX9_ends 46 = .ok (.aload_n 0, 1) := by decide +kernel
theorem dX9_ends_47 : decode cX9_ends 47 = .ok (.getfield 113, 3) := by decide +kernel
theorem dX9_ends_50 : decode cX9_ends 50 = .ok (.iload_n 1, 1) := by decide +kernel
theorem dX9_ends_51 : decode cX9_ends 51 = .ok (.iconst 1, 1) := by decide +kernel
theorem dX9_ends_52 : decode cX9_ends 52 = .ok (.bastore, 1) := by decide +kernel
theorem dX9_ends_53 : decode cX9_ends 53 = .ok (.return_, 1) := by decide +kernel
theorem dX9_turns_0 : decode cX9_turns 0 = .ok (.aload_n 0, 1) := by decide +kernel
theorem dX9_turns_1 : decode cX9_turns 1 = .ok (.getfield 110, 3) := by decide +kernel
theorem dX9_turns_4 : decode cX9_turns 4 = .ok (.iload_n 1, 1) := by decide +kernel
theorem dX9_turns_5 : decode cX9_turns 5 = .ok (.iconst 1, 1) := by decide +kernel
theorem dX9_turns_6 : decode cX9_turns 6 = .ok (.bastore, 1) := by decide +kernel
theorem dX9_turns_7 : decode cX9_turns 7 = .ok (.aload_n 0, 1) := by decide +kernel
theorem dX9_turns_8 : decode cX9_turns 8 = .ok (.getfield 101, 3) := by decide +kernel
theorem dX9_turns_11 : decode cX9_turns 11 = .ok (.iload_n 1, 1) := by decide +kernel
theorem dX9_turns_12 : decode cX9_turns 12 = .ok (.iload_n 2, 1) := by decide +kernel
theorem dX9_turns_13 : decode cX9_turns 13 = .ok (.iastore, 1) := by decide +kernel
theorem dX9_turns_14 : decode cX9_turns 14 = .ok (.return_, 1) := by decide +kernel
theorem dX9_sees_0 : decode cX9_sees 0 = .ok (.aload_n 0, 1) := by decide +kernel
theorem dX9_sees_1 : decode cX9_sees 1 = .ok (.getfield 95, 3) := by decide +kernel
theorem dX9_sees_4 : decode cX9_sees 4 = .ok (.iload_n 1, 1) := by decide +kernel
theorem dX9_sees_5 : decode cX9_sees 5 = .ok (.iaload, 1) := by decide +kernel
theorem dX9_sees_6 : decode cX9_sees 6 = .ok (.istore_n 3, 1) := by decide +kernel
theorem dX9_sees_7 : decode cX9_sees 7 = .ok (.aload_n 0, 1) := by decide +kernel
theorem dX9_sees_8 : decode cX9_sees 8 = .ok (.iconst 0, 1) := by decide +kernel
theorem dX9_sees_9 : decode cX9_sees 9 = .ok (.iload_n 1, 1) := by decide +kernel
theorem dX9_sees_10 : decode cX9_sees 10 = .ok (.iload_n 2, 1) := by decide +kernel
theorem dX9_sees_11 : decode cX9_sees 11 = .ok (.invokevirtual 332, 3) := by decide +kernel
theorem dX9_sees_14 : decode cX9_sees 14 = .ok (.ifCond .eq 11, 3) := by decide +kernel
theorem dX9_sees_17 : decode cX9_sees 17 = .ok (.aload_n 0, 1) := by decide +kernel
theorem dX9_sees_18 : decode cX9_sees 18 = .ok (.iload_n 1, 1) := by decide +kernel
theorem dX9_sees_19 : decode cX9_sees 19 = .ok (.iconst 4, 1) := by decide +kernel
theorem dX9_sees_20 : decode cX9_sees 20 = .ok (.iload_n 2, 1) := by decide +kernel
theorem dX9_sees_21 : decode cX9_sees 21 = .ok (.invokevirtual 337, 3) := by decide +kernel
theorem dX9_sees_24 : decode cX9_sees 24 = .ok (.return_, 1) := by decide +kernel
theorem dX9_sees_25 : decode cX9_sees 25 = .ok (.aload_n 0, 1) := by decide +kernel
theorem dX9_sees_26 : decode cX9_sees 26 = .ok (.iconst 1, 1) := by decide +kernel
theorem dX9_sees_27 : decode cX9_sees 27 = .ok (.iload_n 1, 1) := by decide +kernel
theorem dX9_sees_28 : decode cX9_sees 28 = .ok (.iload_n 2, 1) := by decide +kernel
theorem dX9_sees_29 : decode cX9_sees 29 = .ok (.invokevirtual 332, 3) := by decide +kernel
theorem dX9_sees_32 : decode cX9_sees 32 = .ok (.ifCond .eq 4, 3) := by decide +kernel
theorem dX9_sees_35 : decode cX9_sees 35 = .ok (.return_, 1) := by decide +kernel
theorem dX9_sees_36 : decode cX9_sees 36 = .ok (.aload_n 0, 1) := by decide +kernel
theorem dX9_sees_37 : decode cX9_sees 37 = .ok (.getfield 110, 3) := by decide +kernel
theorem dX9_sees_40 : decode cX9_sees 40 = .ok (.iload_n 1, 1) := by decide +kernel
theorem dX9_sees_41 : decode cX9_sees 41 = .ok (.baload, 1) := by decide +kernel
theorem dX9_sees_42 : decode cX9_sees 42 = .ok (.ifCond .ne 19, 3) := by decide +kernel
theorem dX9_sees_45 : decode cX9_sees 45 = .ok (.aload_n 0, 1) := by decide +kernel
theorem dX9_sees_46 : decode cX9_sees 46 = .ok (.iconst 2, 1) := by decide +kernel
theorem dX9_sees_47 : decode cX9_sees 47 = .ok (.iload_n 1, 1) := by decide +kernel
theorem dX9_sees_48 : decode cX9_sees 48 = .ok (.iload_n 2, 1) := by decide +kernel
theorem dX9_sees_49 : decode cX9_sees 49 = .ok (.invokevirtual 332, 3) := by decide +kernel
theorem dX9_sees_52 : decode cX9_sees 52 = .ok (.ifCond .eq 9, 3) := by decide +kernel
theorem dX9_sees_55 : decode cX9_sees 55 = .ok (.aload_n 0, 1) := by decide +kernel
theorem dX9_sees_56 : decode cX9_sees 56 = .ok (.iload_n 1, 1) := by decide +kernel
theorem dX9_sees_57 : decode cX9_sees 57 = .ok (.iconst 4, 1) := by decide +kernel
theorem dX9_sees_58 : decode cX9_sees 58 = .ok (.invokevirtual 340, 3) := by decide +kernel
theorem dX9_sees_61 : decode cX9_sees 61 = .ok (.aload_n 0, 1) := by decide +kernel
theorem dX9_sees_62 : decode cX9_sees 62 = .ok (.aload_n 0, 1) := by decide +kernel
theorem dX9_sees_63 : decode cX9_sees 63 = .ok (.getfield 86, 3) := by decide +kernel
theorem dX9_sees_66 : decode cX9_sees 66 = .ok (.iload_n 1, 1) := by decide +kernel
theorem dX9_sees_67 : decode cX9_sees 67 = .ok (.iaload, 1) := by decide +kernel
theorem dX9_sees_68 : decode cX9_sees 68 = .ok (.iload_n 2, 1) := by decide +kernel
theorem dX9_sees_69 : decode cX9_sees 69 = .ok (.iload_n 3, 1) := by decide +kernel
theorem dX9_sees_70 : decode cX9_sees 70 = .ok (.invokevirtual 252, 3) := by decide +kernel
theorem dX9_sees_73 : decode cX9_sees 73 = .ok (.istore 4, 2) := by decide +kernel
theorem dX9_sees_75 : decode cX9_sees 75 = .ok (.aload_n 0, 1) := by decide +kernel
theorem dX9_sees_76 : decode cX9_sees 76 = .ok (.getfield 110, 3) := by decide +kernel
theorem dX9_sees_79 : decode cX9_sees 79 = .ok (.iload_n 1, 1) := by decide +kernel
theorem dX9_sees_80 : decode cX9_sees 80 = .ok (.baload, 1) := by decide +kernel
theorem dX9_sees_81 : decode cX9_sees 81 = .ok (.ifCond .ne 16, 3) := by decide +kernel
theorem dX9_sees_84 : decode cX9_sees 84 = .ok (.iload 4, 2) := by decide +kernel
theorem dX9_sees_86 : decode cX9_sees 86 = .ok (.iconst 1, 1) := by decide +kernel
theorem dX9_sees_87 : decode cX9_sees 87 = .ok (.if_icmp .le 10, 3) := by decide +kernel
theorem dX9_sees_90 : decode cX9_sees 90 = .ok (.aload_n 0, 1) := by decide +kernel
theorem dX9_sees_91 : decode cX9_sees 91 = .ok (.iload_n 1, 1) := by decide +kernel
theorem dX9_sees_92 : decode cX9_sees 92 = .ok (.iload 4, 2) := by decide +kernel
theorem dX9_sees_94 : decode cX9_sees 94 = .ok (.invokevirtual 340, 3) := by decide +kernel
theorem dX9_sees_97 : decode cX9_sees 97 = .ok (.aload_n 0, 1) := by decide +kernel
theorem dX9_sees_98 : decode cX9_sees 98 = .ok (.iload_n 1, 1) := by decide +kernel
theorem dX9_sees_99 : decode cX9_sees 99 = .ok (.iload_n 2, 1) := by decide +kernel
theorem dX9_sees_100 : decode cX9_sees 100 = .ok (.invokevirtual 344, 3) := by decide +kernel
theorem dX9_sees_103 : decode cX9_sees 103 = .ok (.istore 5, 2) := by decide +kernel
theorem dX9_sees_105 : decode cX9_sees 105 = .ok (.iload 5, 2) := by decide +kernel
theorem dX9_sees_107 : decode cX9_sees 107 = .ok (.iload_n 3, 1) := by decide +kernel
theorem dX9_sees_108 : decode cX9_sees 108 = .ok (.if_icmp .ne 20, 3) := by decide +kernel
theorem dX9_sees_111 : decode cX9_sees 111 = .ok (.aload_n 0, 1) := by decide +kernel
theorem dX9_sees_112 : decode cX9_sees 112 = .ok (.getfield 110, 3) := by decide +kernel
theorem dX9_sees_115 : decode cX9_sees 115 = .ok (.iload_n 1, 1) := by decide +kernel
theorem dX9_sees_116 : decode cX9_sees 116 = .ok (.baload, 1) := by decide +kernel
theorem dX9_sees_117 : decode cX9_sees 117 = .ok (.ifCond .eq 11, 3) := by decide +kernel
theorem dX9_sees_120 : decode cX9_sees 120 = .ok (.aload_n 0, 1) := by decide +kernel
theorem dX9_sees_121 : decode cX9_sees 121 = .ok (.iload_n 1, 1) := by decide +kernel
theorem dX9_sees_122 : decode cX9_sees 122 = .ok (.iconst 3, 1) := by decide +kernel
theorem dX9_sees_123 : decode cX9_sees 123 = .ok (.iload_n 2, 1) := by decide +kernel
theorem dX9_sees_124 : decode cX9_sees 124 = .ok (.invokevirtual 337, 3) := by decide +kernel
theorem dX9_sees_127 : decode cX9_sees 127 = .ok (.return_, 1) := by decide +kernel
theorem dX9_sees_128 : decode cX9_sees 128 = .ok (.iload 5, 2) := by decide +kernel
theorem dX9_sees_130 : decode cX9_sees 130 = .ok (.iload_n 3, 1) := by decide +kernel
theorem dX9_sees_131 : decode cX9_sees 131 = .ok (.if_icmp .ne 26, 3) := by decide +kernel
theorem dX9_sees_134 : decode cX9_sees 134 = .ok (.aload_n 0, 1) := by decide +kernel
theorem dX9_sees_135 : decode cX9_sees 135 = .ok (.aload_n 0, 1) := by decide +kernel
theorem dX9_sees_136 : decode cX9_sees 136 = .ok (.getfield 86, 3) := by decide +kernel
theorem dX9_sees_139 : decode cX9_sees 139 = .ok (.iload_n 1, 1) := by decide +kernel
theorem dX9_sees_140 : decode cX9_sees 140 = .ok (.iaload, 1) := by decide +kernel
theorem dX9_sees_141 : decode cX9_sees 141 = .ok (.iload_n 2, 1) := by decide +kernel
theorem dX9_sees_142 : decode cX9_sees 142 = .ok (.invokevirtual 255, 3) := by decide +kernel
theorem dX9_sees_145 : decode cX9_sees 145 = .ok (.iload_n 3, 1) := by decide +kernel
theorem dX9_sees_146 : decode cX9_sees 146 = .ok (.if_icmp .ne 11, 3) := by decide +kernel
theorem dX9_sees_149 : decode cX9_sees 149 = .ok (.aload_n 0, 1) := by decide +kernel
theorem dX9_sees_150 : decode cX9_sees 150 = .ok (.iload_n 1, 1) := by decide +kernel
theorem dX9_sees_151 : decode cX9_sees 151 = .ok (.iconst 2, 1) := by decide +kernel
theorem dX9_sees_152 : decode cX9_sees 152 = .ok (.iload_n 2, 1) := by decide +kernel
theorem dX9_sees_153 : decode cX9_sees 153 = .ok (.invokevirtual 337, 3) := by decide +kernel
theorem dX9_sees_156 : decode cX9_sees 156 = .ok (.return_, 1) := by decide +kernel
theorem dX9_sees_157 : decode cX9_sees 157 = .ok (.iload 5, 2) := by decide +kernel
theorem dX9_sees_159 : decode cX9_sees 159 = .ok (.ifCond .lt 9, 3) := by decide +kernel
theorem dX9_sees_162 : decode cX9_sees 162 = .ok (.iload 5, 2) := by decide +kernel
theorem dX9_sees_164 : decode cX9_sees 164 = .ok (.iload_n 3, 1) := by decide +kernel
theorem dX9_sees_165 : decode cX9_sees 165 = .ok (.if_icmp .ne 25, 3) := by decide +kernel
theorem dX9_sees_168 : decode cX9_sees 168 = .ok (.iload_n 2, 1) := by decide +kernel
theorem dX9_sees_169 : decode cX9_sees 169 = .ok (.aload_n 0, 1) := by decide +kernel
theorem dX9_sees_170 : decode cX9_sees 170 = .ok (.getfield 98, 3) := by decide +kernel
theorem dX9_sees_173 : decode cX9_sees 173 = .ok (.iload_n 1, 1) := by decide +kernel
theorem dX9_sees_174 : decode cX9_sees 174 = .ok (.iaload, 1) := by decide +kernel
theorem dX9_sees_175 : decode cX9_sees 175 = .ok (.isub, 1) := by decide +kernel
theorem dX9_sees_176 : decode cX9_sees 176 = .ok (.aload_n 0, 1) := by decide +kernel
theorem dX9_sees_177 : decode cX9_sees 177 = .ok (.getfield 116, 3) := by decide +kernel
theorem dX9_sees_180 : decode cX9_sees 180 = .ok (.if_icmp .lt 9, 3) := by decide +kernel
theorem dX9_sees_183 : decode cX9_sees 183 = .ok (.aload_n 0, 1) := by decide +kernel
theorem dX9_sees_184 : decode cX9_sees 184 = .ok (.iload_n 1, 1) := by decide +kernel
theorem dX9_sees_185 : decode cX9_sees 185 = .ok (.iconst 1, 1) := by decide +kernel
theorem dX9_sees_186 : decode cX9_sees 186 = .ok (.invokevirtual 340, 3) := by decide +kernel
theorem dX9_sees_189 : decode cX9_sees 189 = .ok (.return_, 1) := by decide +kernel
theorem dX9_sees_190 : decode cX9_sees 190 = .ok (.aload_n 0, 1) := by decide +kernel
theorem dX9_sees_191 : decode cX9_sees 191 = .ok (.iload_n 3, 1) := by decide +kernel
theorem dX9_sees_192 : decode cX9_sees 192 = .ok (.iload 5, 2) := by decide +kernel
theorem dX9_sees_194 : decode cX9_sees 194 = .ok (.invokevirtual 347, 3) := by decide +kernel
theorem dX9_sees_197 : decode cX9_sees 197 = .ok (.istore 6, 2) := by decide +kernel
theorem dX9_sees_199 : decode cX9_sees 199 = .ok (.iload 6, 2) := by decide +kernel
theorem dX9_sees_201 : decode cX9_sees 201 = .ok (.ifCond .lt 13, 3) := by decide +kernel
theorem dX9_sees_204 : decode cX9_sees 204 = .ok (.aload_n 0, 1) := by decide +kernel
theorem dX9_sees_205 : decode cX9_sees 205 = .ok (.iload 6, 2) := by decide +kernel
theorem dX9_sees_207 : decode cX9_sees 207 = .ok (.iload_n 2, 1) := by decide +kernel
theorem dX9_sees_208 : decode cX9_sees 208 = .ok (.invokevirtual 350, 3) := by decide +kernel
theorem dX9_sees_211 : decode cX9_sees 211 = .ok (.ifCond .ne 4, 3) := by decide +kernel
theorem dX9_sees_214 : decode cX9_sees 214 = .ok (.return_, 1) := by decide +kernel
theorem dX9_sees_215 : decode cX9_sees 215 = .ok (.aload_n 0, 1) := by decide +kernel
theorem dX9_sees_216 : decode cX9_sees 216 = .ok (.getfield 92, 3) := by decide +kernel
theorem dX9_sees_219 : decode cX9_sees 219 = .ok (.iload_n 1, 1) := by decide +kernel
theorem dX9_sees_220 : decode cX9_sees 220 = .ok (.iconst 1, 1) := by decide +kernel
theorem dX9_sees_221 : decode cX9_sees 221 = .ok (.iastore, 1) := by decide +kernel
theorem dX9_sees_222 : decode cX9_sees 222 = .ok (.aload_n 0, 1) := by decide +kernel
theorem dX9_sees_223 : decode cX9_sees 223 = .ok (.getfield 95, 3) := by decide +kernel
theorem dX9_sees_226 : decode cX9_sees 226 = .ok (.iload_n 1, 1) := by decide +kernel
theorem dX9_sees_227 : decode cX9_sees 227 = .ok (.aload_n 0, 1) := by decide +kernel
theorem dX9_sees_228 : decode cX9_sees 228 = .ok (.getfield 16, 3) := by decide +kernel
theorem dX9_sees_231 : decode cX9_sees 231 = .ok (.iload 6, 2) := by decide +kernel
theorem dX9_sees_233 : decode cX9_sees 233 = .ok (.iaload, 1) := by decide +kernel
theorem dX9_sees_234 : decode cX9_sees 234 = .ok (.iload_n 3, 1) := by decide +kernel
theorem dX9_sees_235 : decode cX9_sees 235 = .ok (.if_icmp .ne 13, 3) := by decide +kernel
theorem dX9_sees_238 : decode cX9_sees 238 = .ok (.aload_n 0, 1) := by decide +kernel
theorem dX9_sees_239 : decode cX9_sees 239 = .ok (.getfield 19, 3) := by decide +kernel
theorem dX9_sees_242 : decode cX9_sees 242 = .ok (.iload 6, 2) := by decide +kernel
theorem dX9_sees_244 : decode cX9_sees 244 = .ok (.iaload, 1) := by decide +kernel
theorem dX9_sees_245 : decode cX9_sees 245 = .ok (.goto 10, 3) := by decide +kernel
theorem dX9_sees_248 : decode cX9_sees 248 = .ok (.aload_n 0, 1) := by decide +kernel
theorem dX9_sees_249 : decode cX9_sees 249 = .ok (.getfield 16, 3) := by decide +kernel
theorem dX9_sees_252 : decode cX9_sees 252 = .ok (.iload 6, 2) := by decide +kernel
theorem dX9_sees_254 : decode cX9_sees 254 = .ok (.iaload, 1) := by decide +kernel
theorem dX9_sees_255 : decode cX9_sees 255 = .ok (.iastore, 1) := by decide +kernel
theorem dX9_sees_256 : decode cX9_sees 256 = .ok (.aload_n 0, 1) := by decide +kernel
theorem dX9_sees_257 : decode cX9_sees 257 = .ok (.getfield 98, 3) := by decide +kernel
theorem dX9_sees_260 : decode cX9_sees 260 = .ok (.iload_n 1, 1) := by decide +kernel
theorem dX9_sees_261 : decode cX9_sees 261 = .ok (.iload_n 2, 1) := by decide +kernel
theorem dX9_sees_262 : decode cX9_sees 262 = .ok (.aload_n 0, 1) := by decide +kernel
theorem dX9_sees_263 : decode cX9_sees 263 = .ok (.getfield 22, 3) := by decide +kernel
theorem dX9_sees_266 : decode cX9_sees 266 = .ok (.iload 6, 2) := by decide +kernel
theorem dX9_sees_268 : decode cX9_sees 268 = .ok (.iaload, 1) := by decide +kernel
theorem dX9_sees_269 : decode cX9_sees 269 = .ok (.iadd, 1) := by decide +kernel
theorem dX9_sees_270 : decode cX9_sees 270 = .ok (.iastore, 1) := by decide +kernel
theorem dX9_sees_271 : decode cX9_sees 271 = .ok (.return_, 1) := by decide +kernel
theorem dX9_nextAt_0 : decode cX9_nextAt 0 = .ok (.bipush (-9), 2) := by decide +kernel
theorem dX9_nextAt_2 : decode cX9_nextAt 2 = .ok (.istore_n 2, 1) := by decide +kernel
theorem dX9_nextAt_3 : decode cX9_nextAt 3 = .ok (.iconst 0, 1) := by decide +kernel
theorem dX9_nextAt_4 : decode cX9_nextAt 4 = .ok (.istore_n 3, 1) := by decide +kernel
theorem dX9_nextAt_5 : decode cX9_nextAt 5 = .ok (.iload_n 3, 1) := by decide +kernel
theorem dX9_nextAt_6 : decode cX9_nextAt 6 = .ok (.aload_n 0, 1) := by decide +kernel
theorem dX9_nextAt_7 : decode cX9_nextAt 7 = .ok (.getfield 259, 3) := by decide +kernel
theorem dX9_nextAt_10 : decode cX9_nextAt 10 = .ok (.if_icmp .ge 58, 3) := by decide +kernel
theorem dX9_nextAt_13 : decode cX9_nextAt 13 = .ok (.aload_n 0, 1) := by decide +kernel
theorem dX9_nextAt_14 : decode cX9_nextAt 14 = .ok (.getfield 92, 3) := by decide +kernel
theorem dX9_nextAt_17 : decode cX9_nextAt 17 = .ok (.iload_n 3, 1) := by decide +kernel
theorem dX9_nextAt_18 : decode cX9_nextAt 18 = .ok (.iaload, 1) := by decide +kernel
theorem dX9_nextAt_19 : decode cX9_nextAt 19 = .ok (.ifCond .ne 43, 3) := by decide +kernel
theorem dX9_nextAt_22 : decode cX9_nextAt 22 = .ok (.aload_n 0, 1) := by decide +kernel
theorem dX9_nextAt_23 : decode cX9_nextAt 23 = .ok (.getfield 95, 3) := by decide +kernel
theorem dX9_nextAt_26 : decode cX9_nextAt 26 = .ok (.iload_n 3, 1) := by decide +kernel
theorem dX9_nextAt_27 : decode cX9_nextAt 27 = .ok (.iaload, 1) := by decide +kernel
theorem dX9_nextAt_28 : decode cX9_nextAt 28 = .ok (.iload_n 1, 1) := by decide +kernel
theorem dX9_nextAt_29 : decode cX9_nextAt 29 = .ok (.if_icmp .ne 33, 3) := by decide +kernel
theorem dX9_nextAt_32 : decode cX9_nextAt 32 = .ok (.aload_n 0, 1) := by decide +kernel
theorem dX9_nextAt_33 : decode cX9_nextAt 33 = .ok (.getfield 147, 3) := by decide +kernel
theorem dX9_nextAt_36 : decode cX9_nextAt 36 = .ok (.iload_n 3, 1) := by decide +kernel
theorem dX9_nextAt_37 : decode cX9_nextAt 37 = .ok (.baload, 1) := by decide +kernel
theorem dX9_nextAt_38 : decode cX9_nextAt 38 = .ok (.ifCond .ne 24, 3) := by decide +kernel
theorem dX9_nextAt_41 : decode cX9_nextAt 41 = .ok (.iload_n 2, 1) := by decide +kernel
theorem dX9_nextAt_42 : decode cX9_nextAt 42 = .ok (.ifCond .lt 18, 3) := by decide +kernel
theorem dX9_nextAt_45 : decode cX9_nextAt 45 = .ok (.aload_n 0, 1) := by decide +kernel
theorem dX9_nextAt_46 : decode cX9_nextAt 46 = .ok (.getfield 98, 3) := by decide +kernel
theorem dX9_nextAt_49 : decode cX9_nextAt 49 = .ok (.iload_n 3, 1) := by decide +kernel
theorem dX9_nextAt_50 : decode cX9_nextAt 50 = .ok (.iaload, 1) := by decide +kernel
theorem dX9_nextAt_51 : decode cX9_nextAt 51 = .ok (.aload_n 0, 1) := by decide +kernel
theorem dX9_nextAt_52 : decode cX9_nextAt 52 = .ok (.getfield 98, 3) := by decide +kernel
theorem dX9_nextAt_55 : decode cX9_nextAt 55 = .ok (.iload_n 2, 1) := by decide +kernel
theorem dX9_nextAt_56 : decode cX9_nextAt 56 = .ok (.iaload, 1) := by decide +kernel
theorem dX9_nextAt_57 : decode cX9_nextAt 57 = .ok (.if_icmp .ge 5, 3) := by decide +kernel
theorem dX9_nextAt_60 : decode cX9_nextAt 60 = .ok (.iload_n 3, 1) := by decide +kernel
theorem dX9_nextAt_61 : decode cX9_nextAt 61 = .ok (.istore_n 2, 1) := by decide +kernel
theorem dX9_nextAt_62 : decode cX9_nextAt 62 = .ok (.iinc 3 1, 3) := by decide +kernel
theorem dX9_nextAt_65 : decode cX9_nextAt 65 = .ok (.goto (-60), 3) := by decide +kernel
theorem dX9_nextAt_68 : decode cX9_nextAt 68 = .ok (.iload_n 2, 1) := by decide +kernel
theorem dX9_nextAt_69 : decode cX9_nextAt 69 = .ok (.ireturn, 1) := by decide +kernel
theorem dX9_passes_0 : decode cX9_passes 0 = .ok (.iconst 0, 1) := by decide +kernel
theorem dX9_passes_1 : decode cX9_passes 1 = .ok (.istore_n 2, 1) := by decide +kernel
theorem dX9_passes_2 : decode cX9_passes 2 = .ok (.iload_n 2, 1) := by decide +kernel
theorem dX9_passes_3 : decode cX9_passes 3 = .ok (.aload_n 0, 1) := by decide +kernel
theorem dX9_passes_4 : decode cX9_passes 4 = .ok (.getfield 259, 3) := by decide +kernel
theorem dX9_passes_7 : decode cX9_passes 7 = .ok (.if_icmp .ge 48, 3) := by decide +kernel
theorem dX9_passes_10 : decode cX9_passes 10 = .ok (.aload_n 0, 1) := by decide +kernel
theorem dX9_passes_11 : decode cX9_passes 11 = .ok (.getfield 147, 3) := by decide +kernel
theorem dX9_passes_14 : decode cX9_passes 14 = .ok (.iload_n 2, 1) := by decide +kernel
theorem dX9_passes_15 : decode cX9_passes 15 = .ok (.iconst 0, 1) := by decide +kernel
theorem dX9_passes_16 : decode cX9_passes 16 = .ok (.bastore, 1) := by decide +kernel
theorem dX9_passes_17 : decode cX9_passes 17 = .ok (.aload_n 0, 1) := by decide +kernel
theorem dX9_passes_18 : decode cX9_passes 18 = .ok (.getfield 92, 3) := by decide +kernel
theorem dX9_passes_21 : decode cX9_passes 21 = .ok (.iload_n 2, 1) := by decide +kernel
theorem dX9_passes_22 : decode cX9_passes 22 = .ok (.iaload, 1) := by decide +kernel
theorem dX9_passes_23 : decode cX9_passes 23 = .ok (.iconst 1, 1) := by decide +kernel
theorem dX9_passes_24 : decode cX9_passes 24 = .ok (.if_icmp .ne 25, 3) := by decide +kernel
theorem dX9_passes_27 : decode cX9_passes 27 = .ok (.aload_n 0, 1) := by decide +kernel
theorem dX9_passes_28 : decode cX9_passes 28 = .ok (.getfield 98, 3) := by decide +kernel
theorem dX9_passes_31 : decode cX9_passes 31 = .ok (.iload_n 2, 1) := by decide +kernel
theorem dX9_passes_32 : decode cX9_passes 32 = .ok (.iaload, 1) := by decide +kernel
theorem dX9_passes_33 : decode cX9_passes 33 = .ok (.iload_n 1, 1) := by decide +kernel
theorem dX9_passes_34 : decode cX9_passes 34 = .ok (.if_icmp .ne 15, 3) := by decide +kernel
theorem dX9_passes_37 : decode cX9_passes 37 = .ok (.aload_n 0, 1) := by decide +kernel
theorem dX9_passes_38 : decode cX9_passes 38 = .ok (.iload_n 2, 1) := by decide +kernel
theorem dX9_passes_39 : decode cX9_passes 39 = .ok (.aload_n 0, 1) := by decide +kernel
theorem dX9_passes_40 : decode cX9_passes 40 = .ok (.getfield 95, 3) := by decide +kernel
theorem dX9_passes_43 : decode cX9_passes 43 = .ok (.iload_n 2, 1) := by decide +kernel
theorem dX9_passes_44 : decode cX9_passes 44 = .ok (.iaload, 1) := by decide +kernel
theorem dX9_passes_45 : decode cX9_passes 45 = .ok (.iload_n 1, 1) := by decide +kernel
theorem dX9_passes_46 : decode cX9_passes 46 = .ok (.invokevirtual 264, 3) := by decide +kernel
theorem dX9_passes_49 : decode cX9_passes 49 = .ok (.iinc 2 1, 3) := by decide +kernel
theorem dX9_passes_52 : decode cX9_passes 52 = .ok (.goto (-50), 3) := by decide +kernel
theorem dX9_passes_55 : decode cX9_passes 55 = .ok (.iconst 0, 1) := by decide +kernel
theorem dX9_passes_56 : decode cX9_passes 56 = .ok (.istore_n 2, 1) := by decide +kernel
theorem dX9_passes_57 : decode cX9_passes 57 = .ok (.iload_n 2, 1) := by decide +kernel
theorem dX9_passes_58 : decode cX9_passes 58 = .ok (.aload_n 0, 1) := by decide +kernel
theorem dX9_passes_59 : decode cX9_passes 59 = .ok (.getfield 183, 3) := by decide +kernel
theorem dX9_passes_62 : decode cX9_passes 62 = .ok (.if_icmp .ge 58, 3) := by decide +kernel
theorem dX9_passes_65 : decode cX9_passes 65 = .ok (.aload_n 0, 1) := by decide +kernel
theorem dX9_passes_66 : decode cX9_passes 66 = .ok (.iload_n 2, 1) := by decide +kernel
theorem dX9_passes_67 : decode cX9_passes 67 = .ok (.invokevirtual 354, 3) := by decide +kernel
theorem dX9_passes_70 : decode cX9_passes 70 = .ok (.istore_n 3, 1) := by decide +kernel
theorem dX9_passes_71 : decode cX9_passes 71 = .ok (.iconst 0, 1) := by decide +kernel
theorem dX9_passes_72 : decode cX9_passes 72 = .ok (.istore 4, 2) := by decide +kernel
theorem dX9_passes_74 : decode cX9_passes 74 = .ok (.iload 4, 2) := by decide +kernel
theorem dX9_passes_76 : decode cX9_passes 76 = .ok (.aload_n 0, 1) := by decide +kernel
theorem dX9_passes_77 : decode cX9_passes 77 = .ok (.getfield 13, 3) := by decide +kernel
theorem dX9_passes_80 : decode cX9_passes 80 = .ok (.iload_n 2, 1) := by decide +kernel
theorem dX9_passes_81 : decode cX9_passes 81 = .ok (.iaload, 1) := by decide +kernel
theorem dX9_passes_82 : decode cX9_passes 82 = .ok (.if_icmp .ge 32, 3) := by decide +kernel
theorem dX9_passes_85 : decode cX9_passes 85 = .ok (.iload_n 3, 1) := by decide +kernel
theorem dX9_passes_86 : decode cX9_passes 86 = .ok (.ifCond .lt 28, 3) := by decide +kernel
theorem dX9_passes_89 : decode cX9_passes 89 = .ok (.aload_n 0, 1) := by decide +kernel
theorem dX9_passes_90 : decode cX9_passes 90 = .ok (.getfield 147, 3) := by decide +kernel
theorem dX9_passes_93 : decode cX9_passes 93 = .ok (.iload_n 3, 1) := by decide +kernel
theorem dX9_passes_94 : decode cX9_passes 94 = .ok (.iconst 1, 1) := by decide +kernel
theorem dX9_passes_95 : decode cX9_passes 95 = .ok (.bastore, 1) := by decide +kernel
theorem dX9_passes_96 : decode cX9_passes 96 = .ok (.aload_n 0, 1) := by decide +kernel
theorem dX9_passes_97 : decode cX9_passes 97 = .ok (.iload_n 3, 1) := by decide +kernel
theorem dX9_passes_98 : decode cX9_passes 98 = .ok (.iload_n 1, 1) := by decide +kernel
theorem dX9_passes_99 : decode cX9_passes 99 = .ok (.invokevirtual 357, 3) := by decide +kernel
theorem dX9_passes_102 : decode cX9_passes 102 = .ok (.aload_n 0, 1) := by decide +kernel
theorem dX9_passes_103 : decode cX9_passes 103 = .ok (.iload_n 2, 1) := by decide +kernel
theorem dX9_passes_104 : decode cX9_passes 104 = .ok (.invokevirtual 354, 3) := by decide +kernel
theorem dX9_passes_107 : decode cX9_passes 107 = .ok (.istore_n 3, 1) := by decide +kernel
theorem dX9_passes_108 : decode cX9_passes 108 = .ok (.iinc 4 1, 3) := by decide +kernel
theorem dX9_passes_111 : decode cX9_passes 111 = .ok (.goto (-37), 3) := by decide +kernel
theorem dX9_passes_114 : decode cX9_passes 114 = .ok (.iinc 2 1, 3) := by decide +kernel
theorem dX9_passes_117 : decode cX9_passes 117 = .ok (.goto (-60), 3) := by decide +kernel
theorem dX9_passes_120 : decode cX9_passes 120 = .ok (.return_, 1) := by decide +kernel
theorem dX9_hours_0 : decode cX9_hours 0 = .ok (.iload_n 1, 1) := by decide +kernel
theorem dX9_hours_1 : decode cX9_hours 1 = .ok (.iconst 1, 1) := by decide +kernel
theorem dX9_hours_2 : decode cX9_hours 2 = .ok (.if_icmp .ge 8, 3) := by decide +kernel
theorem dX9_hours_5 : decode cX9_hours 5 = .ok (.bipush (-4), 2) := by decide +kernel
theorem dX9_hours_7 : decode cX9_hours 7 = .ok (.goto 21, 3) := by decide +kernel
theorem dX9_hours_10 : decode cX9_hours 10 = .ok (.iload_n 1, 1) := by decide +kernel
theorem dX9_hours_11 : decode cX9_hours 11 = .ok (.sipush 2000, 3) := by decide +kernel
theorem dX9_hours_14 : decode cX9_hours 14 = .ok (.aload_n 0, 1) := by decide +kernel
theorem dX9_hours_15 : decode cX9_hours 15 = .ok (.getfield 207, 3) := by decide +kernel
theorem dX9_hours_18 : decode cX9_hours 18 = .ok (.isub, 1) := by decide +kernel
theorem dX9_hours_19 : decode cX9_hours 19 = .ok (.if_icmp .le 8, 3) := by decide +kernel
theorem dX9_hours_22 : decode cX9_hours 22 = .ok (.bipush (-6), 2) := by decide +kernel
theorem dX9_hours_24 : decode cX9_hours 24 = .ok (.goto 4, 3) := by decide +kernel
theorem dX9_hours_27 : decode cX9_hours 27 = .ok (.iconst 0, 1) := by decide +kernel
theorem dX9_hours_28 : decode cX9_hours 28 = .ok (.istore_n 2, 1) := by decide +kernel
theorem dX9_hours_29 : decode cX9_hours 29 = .ok (.iload_n 2, 1) := by decide +kernel
theorem dX9_hours_30 : decode cX9_hours 30 = .ok (.ifCond .eq 9, 3) := by decide +kernel
theorem dX9_hours_33 : decode cX9_hours 33 = .ok (.aload_n 0, 1) := by decide +kernel
theorem dX9_hours_34 : decode cX9_hours 34 = .ok (.iload_n 2, 1) := by decide +kernel
theorem dX9_hours_35 : decode cX9_hours 35 = .ok (.invokevirtual 192, 3) := by decide +kernel
theorem dX9_hours_38 : decode cX9_hours 38 = .ok (.ireturn, 1) := by decide +kernel
theorem dX9_hours_39 : decode cX9_hours 39 = .ok (.aload_n 0, 1) := by decide +kernel
theorem dX9_hours_40 : decode cX9_hours 40 = .ok (.invokevirtual 214, 3) := by decide +kernel
theorem dX9_hours_43 : decode cX9_hours 43 = .ok (.iconst 0, 1) := by decide +kernel
theorem dX9_hours_44 : decode cX9_hours 44 = .ok (.istore_n 3, 1) := by decide +kernel
theorem dX9_hours_45 : decode cX9_hours 45 = .ok (.iload_n 3, 1) := by decide +kernel
theorem dX9_hours_46 : decode cX9_hours 46 = .ok (.iload_n 1, 1) := by decide +kernel
theorem dX9_hours_47 : decode cX9_hours 47 = .ok (.if_icmp .ge 27, 3) := by decide +kernel
theorem dX9_hours_50 : decode cX9_hours 50 = .ok (.aload_n 0, 1) := by decide +kernel
theorem dX9_hours_51 : decode cX9_hours 51 = .ok (.aload_n 0, 1) := by decide +kernel
theorem dX9_hours_52 : decode cX9_hours 52 = .ok (.getfield 207, 3) := by decide +kernel
theorem dX9_hours_55 : decode cX9_hours 55 = .ok (.invokevirtual 360, 3) := by decide +kernel
theorem dX9_hours_58 : decode cX9_hours 58 = .ok (.aload_n 0, 1) := by decide +kernel
theorem dX9_hours_59 : decode cX9_hours 59 = .ok (.dup, 1) := by decide +kernel
theorem dX9_hours_60 : decode cX9_hours 60 = .ok (.getfield 207, 3) := by decide +kernel
theorem dX9_hours_63 : decode cX9_hours 63 = .ok (.iconst 1, 1) := by decide +kernel
theorem dX9_hours_64 : decode cX9_hours 64 = .ok (.iadd, 1) := by decide +kernel
theorem dX9_hours_65 : decode cX9_hours 65 = .ok (.putfield 207, 3) := by decide +kernel
theorem dX9_hours_68 : decode cX9_hours 68 = .ok (.iinc 3 1, 3) := by decide +kernel
theorem dX9_hours_71 : decode cX9_hours 71 = .ok (.goto (-26), 3) := by decide +kernel
theorem dX9_hours_74 : decode cX9_hours 74 = .ok (.aload_n 0, 1) := by decide +kernel
theorem dX9_hours_75 : decode cX9_hours 75 = .ok (.getfield 207, 3) := by decide +kernel
theorem dX9_hours_78 : decode cX9_hours 78 = .ok (.ireturn, 1) := by decide +kernel
theorem dX9_mailOf_0 : decode cX9_mailOf 0 = .ok (.aload_n 0, 1) := by decide +kernel
theorem dX9_mailOf_1 : decode cX9_mailOf 1 = .ok (.iload_n 1, 1) := by decide +kernel
theorem dX9_mailOf_2 : decode cX9_mailOf 2 = .ok (.invokevirtual 329, 3) := by decide +kernel
theorem dX9_mailOf_5 : decode cX9_mailOf 5 = .ok (.ifCond .ne 9, 3) := by decide +kernel
theorem dX9_mailOf_8 : decode cX9_mailOf 8 = .ok (.aload_n 0, 1) := by decide +kernel
theorem dX9_mailOf_9 : decode cX9_mailOf 9 = .ok (.iconst (-1), 1) := by decide +kernel
theorem dX9_mailOf_10 : decode cX9_mailOf 10 = .ok (.invokevirtual 192, 3) := by decide +kernel
theorem dX9_mailOf_13 : decode cX9_mailOf 13 = .ok (.ireturn, 1) := by decide +kernel
theorem dX9_mailOf_14 : decode cX9_mailOf 14 = .ok (.iload_n 2, 1) := by decide +kernel
theorem dX9_mailOf_15 : decode cX9_mailOf 15 = .ok (.tableswitch 117 0 7 #[45, 52, 59, 66, 73, 88, 95, 102], 45) := by decide +kernel
theorem dX9_mailOf_60 : decode cX9_mailOf 60 = .ok (.aload_n 0, 1) := by decide +kernel
theorem dX9_mailOf_61 : decode cX9_mailOf 61 = .ok (.getfield 77, 3) := by decide +kernel
theorem dX9_mailOf_64 : decode cX9_mailOf 64 = .ok (.iload_n 1, 1) := by decide +kernel
theorem dX9_mailOf_65 : decode cX9_mailOf 65 = .ok (.iaload, 1) := by decide +kernel
theorem dX9_mailOf_66 : decode cX9_mailOf 66 = .ok (.ireturn, 1) := by decide +kernel
theorem dX9_mailOf_67 : decode cX9_mailOf 67 = .ok (.aload_n 0, 1) := by decide +kernel
theorem dX9_mailOf_68 : decode cX9_mailOf 68 = .ok (.getfield 92, 3) := by decide +kernel
theorem dX9_mailOf_71 : decode cX9_mailOf 71 = .ok (.iload_n 1, 1) := by decide +kernel
theorem dX9_mailOf_72 : decode cX9_mailOf 72 = .ok (.iaload, 1) := by decide +kernel
theorem dX9_mailOf_73 : decode cX9_mailOf 73 = .ok (.ireturn, 1) := by decide +kernel
theorem dX9_mailOf_74 : decode cX9_mailOf 74 = .ok (.aload_n 0, 1) := by decide +kernel
theorem dX9_mailOf_75 : decode cX9_mailOf 75 = .ok (.getfield 95, 3) := by decide +kernel
theorem dX9_mailOf_78 : decode cX9_mailOf 78 = .ok (.iload_n 1, 1) := by decide +kernel
theorem dX9_mailOf_79 : decode cX9_mailOf 79 = .ok (.iaload, 1) := by decide +kernel
theorem dX9_mailOf_80 : decode cX9_mailOf 80 = .ok (.ireturn, 1) := by decide +kernel
theorem dX9_mailOf_81 : decode cX9_mailOf 81 = .ok (.aload_n 0, 1) := by decide +kernel
theorem dX9_mailOf_82 : decode cX9_mailOf 82 = .ok (.getfield 98, 3) := by decide +kernel
theorem dX9_mailOf_85 : decode cX9_mailOf 85 = .ok (.iload_n 1, 1) := by decide +kernel
theorem dX9_mailOf_86 : decode cX9_mailOf 86 = .ok (.iaload, 1) := by decide +kernel
theorem dX9_mailOf_87 : decode cX9_mailOf 87 = .ok (.ireturn, 1) := by decide +kernel
theorem dX9_mailOf_88 : decode cX9_mailOf 88 = .ok (.aload_n 0, 1) := by decide +kernel
theorem dX9_mailOf_89 : decode cX9_mailOf 89 = .ok (.getfield 110, 3) := by decide +kernel
theorem dX9_mailOf_92 : decode cX9_mailOf 92 = .ok (.iload_n 1, 1) := by decide +kernel
theorem dX9_mailOf_93 : decode cX9_mailOf 93 = .ok (.baload, 1) := by decide +kernel
theorem dX9_mailOf_94 : decode cX9_mailOf 94 = .ok (.ifCond .eq 7, 3) := by decide +kernel
theorem dX9_mailOf_97 : decode cX9_mailOf 97 = .ok (.iconst 1, 1) := by decide +kernel
theorem dX9_mailOf_98 : decode cX9_mailOf 98 = .ok (.goto 4, 3) := by decide +kernel
theorem dX9_mailOf_101 : decode cX9_mailOf 101 = .ok (.iconst 0, 1) := by decide +kernel
theorem dX9_mailOf_102 : decode cX9_mailOf 102 = .ok (.ireturn, 1) := by decide +kernel
theorem dX9_mailOf_103 : decode cX9_mailOf 103 = .ok (.aload_n 0, 1) := by decide +kernel
theorem dX9_mailOf_104 : decode cX9_mailOf 104 = .ok (.getfield 101, 3) := by decide +kernel
theorem dX9_mailOf_107 : decode cX9_mailOf 107 = .ok (.iload_n 1, 1) := by decide +kernel
theorem dX9_mailOf_108 : decode cX9_mailOf 108 = .ok (.iaload, 1) := by decide +kernel
theorem dX9_mailOf_109 : decode cX9_mailOf 109 = .ok (.ireturn, 1) := by decide +kernel
theorem dX9_mailOf_110 : decode cX9_mailOf 110 = .ok (.aload_n 0, 1) := by decide +kernel
theorem dX9_mailOf_111 : decode cX9_mailOf 111 = .ok (.getfield 104, 3) := by decide +kernel
theorem dX9_mailOf_114 : decode cX9_mailOf 114 = .ok (.iload_n 1, 1) := by decide +kernel
theorem dX9_mailOf_115 : decode cX9_mailOf 115 = .ok (.iaload, 1) := by decide +kernel
theorem dX9_mailOf_116 : decode cX9_mailOf 116 = .ok (.ireturn, 1) := by decide +kernel
theorem dX9_mailOf_117 : decode cX9_mailOf 117 = .ok (.aload_n 0, 1) := by decide +kernel
theorem dX9_mailOf_118 : decode cX9_mailOf 118 = .ok (.getfield 113, 3) := by decide +kernel
theorem dX9_mailOf_121 : decode cX9_mailOf 121 = .ok (.iload_n 1, 1) := by decide +kernel
theorem dX9_mailOf_122 : decode cX9_mailOf 122 = .ok (.baload, 1) := by decide +kernel
theorem dX9_mailOf_123 : decode cX9_mailOf 123 = .ok (.ifCond .eq 7, 3) := by decide +kernel
theorem dX9_mailOf_126 : decode cX9_mailOf 126 = .ok (.iconst 1, 1) := by decide +kernel
theorem dX9_mailOf_127 : decode cX9_mailOf 127 = .ok (.goto 4, 3) := by decide +kernel
theorem dX9_mailOf_130 : decode cX9_mailOf 130 = .ok (.iconst 0, 1) := by decide +kernel
theorem dX9_mailOf_131 : decode cX9_mailOf 131 = .ok (.ireturn, 1) := by decide +kernel
theorem dX9_mailOf_132 : decode cX9_mailOf 132 = .ok (.aload_n 0, 1) := by decide +kernel
theorem dX9_mailOf_133 : decode cX9_mailOf 133 = .ok (.bipush (-2), 2) := by decide +kernel
theorem dX9_mailOf_135 : decode cX9_mailOf 135 = .ok (.invokevirtual 192, 3) := by decide +kernel
theorem dX9_mailOf_138 : decode cX9_mailOf 138 = .ok (.ireturn, 1) := by decide +kernel
theorem dX9_goal_0 : decode cX9_goal 0 = .ok (.aload_n 0, 1) := by decide +kernel
theorem dX9_goal_1 : decode cX9_goal 1 = .ok (.iload_n 1, 1) := by decide +kernel
theorem dX9_goal_2 : decode cX9_goal 2 = .ok (.invokevirtual 329, 3) := by decide +kernel
theorem dX9_goal_5 : decode cX9_goal 5 = .ok (.ifCond .ne 9, 3) := by decide +kernel
theorem dX9_goal_8 : decode cX9_goal 8 = .ok (.aload_n 0, 1) := by decide +kernel
theorem dX9_goal_9 : decode cX9_goal 9 = .ok (.iconst (-1), 1) := by decide +kernel
theorem dX9_goal_10 : decode cX9_goal 10 = .ok (.invokevirtual 192, 3) := by decide +kernel
theorem dX9_goal_13 : decode cX9_goal 13 = .ok (.ireturn, 1) := by decide +kernel
theorem dX9_goal_14 : decode cX9_goal 14 = .ok (.aload_n 0, 1) := by decide +kernel
theorem dX9_goal_15 : decode cX9_goal 15 = .ok (.getfield 92, 3) := by decide +kernel
theorem dX9_goal_18 : decode cX9_goal 18 = .ok (.iload_n 1, 1) := by decide +kernel
theorem dX9_goal_19 : decode cX9_goal 19 = .ok (.iaload, 1) := by decide +kernel
theorem dX9_goal_20 : decode cX9_goal 20 = .ok (.ifCond .eq 10, 3) := by decide +kernel
theorem dX9_goal_23 : decode cX9_goal 23 = .ok (.aload_n 0, 1) := by decide +kernel
theorem dX9_goal_24 : decode cX9_goal 24 = .ok (.bipush (-3), 2) := by decide +kernel
theorem dX9_goal_26 : decode cX9_goal 26 = .ok (.invokevirtual 192, 3) := by decide +kernel
theorem dX9_goal_29 : decode cX9_goal 29 = .ok (.ireturn, 1) := by decide +kernel
theorem dX9_goal_30 : decode cX9_goal 30 = .ok (.aload_n 0, 1) := by decide +kernel
theorem dX9_goal_31 : decode cX9_goal 31 = .ok (.invokevirtual 214, 3) := by decide +kernel
theorem dX9_goal_34 : decode cX9_goal 34 = .ok (.aload_n 0, 1) := by decide +kernel
theorem dX9_goal_35 : decode cX9_goal 35 = .ok (.iload_n 1, 1) := by decide +kernel
theorem dX9_goal_36 : decode cX9_goal 36 = .ok (.aload_n 0, 1) := by decide +kernel
theorem dX9_goal_37 : decode cX9_goal 37 = .ok (.getfield 207, 3) := by decide +kernel
theorem dX9_goal_40 : decode cX9_goal 40 = .ok (.invokevirtual 344, 3) := by decide +kernel
theorem dX9_goal_43 : decode cX9_goal 43 = .ok (.ireturn, 1) := by decide +kernel
theorem dX9_next_0 : decode cX9_next 0 = .ok (.aload_n 0, 1) := by decide +kernel
theorem dX9_next_1 : decode cX9_next 1 = .ok (.iload_n 1, 1) := by decide +kernel
theorem dX9_next_2 : decode cX9_next 2 = .ok (.invokevirtual 329, 3) := by decide +kernel
theorem dX9_next_5 : decode cX9_next 5 = .ok (.ifCond .ne 9, 3) := by decide +kernel
theorem dX9_next_8 : decode cX9_next 8 = .ok (.aload_n 0, 1) := by decide +kernel
theorem dX9_next_9 : decode cX9_next 9 = .ok (.iconst (-1), 1) := by decide +kernel
theorem dX9_next_10 : decode cX9_next 10 = .ok (.invokevirtual 192, 3) := by decide +kernel
theorem dX9_next_13 : decode cX9_next 13 = .ok (.ireturn, 1) := by decide +kernel
theorem dX9_next_14 : decode cX9_next 14 = .ok (.aload_n 0, 1) := by decide +kernel
theorem dX9_next_15 : decode cX9_next 15 = .ok (.getfield 92, 3) := by decide +kernel
theorem dX9_next_18 : decode cX9_next 18 = .ok (.iload_n 1, 1) := by decide +kernel
theorem dX9_next_19 : decode cX9_next 19 = .ok (.iaload, 1) := by decide +kernel
theorem dX9_next_20 : decode cX9_next 20 = .ok (.ifCond .eq 10, 3) := by decide +kernel
theorem dX9_next_23 : decode cX9_next 23 = .ok (.aload_n 0, 1) := by decide +kernel
theorem dX9_next_24 : decode cX9_next 24 = .ok (.bipush (-3), 2) := by decide +kernel
theorem dX9_next_26 : decode cX9_next 26 = .ok (.invokevirtual 192, 3) := by decide +kernel
theorem dX9_next_29 : decode cX9_next 29 = .ok (.ireturn, 1) := by decide +kernel
theorem dX9_next_30 : decode cX9_next 30 = .ok (.aload_n 0, 1) := by decide +kernel
theorem dX9_next_31 : decode cX9_next 31 = .ok (.invokevirtual 214, 3) := by decide +kernel
theorem dX9_next_34 : decode cX9_next 34 = .ok (.aload_n 0, 1) := by decide +kernel
theorem dX9_next_35 : decode cX9_next 35 = .ok (.aload_n 0, 1) := by decide +kernel
theorem dX9_next_36 : decode cX9_next 36 = .ok (.getfield 95, 3) := by decide +kernel
theorem dX9_next_39 : decode cX9_next 39 = .ok (.iload_n 1, 1) := by decide +kernel
theorem dX9_next_40 : decode cX9_next 40 = .ok (.iaload, 1) := by decide +kernel
theorem dX9_next_41 : decode cX9_next 41 = .ok (.aload_n 0, 1) := by decide +kernel
theorem dX9_next_42 : decode cX9_next 42 = .ok (.iload_n 1, 1) := by decide +kernel
theorem dX9_next_43 : decode cX9_next 43 = .ok (.aload_n 0, 1) := by decide +kernel
theorem dX9_next_44 : decode cX9_next 44 = .ok (.getfield 207, 3) := by decide +kernel
theorem dX9_next_47 : decode cX9_next 47 = .ok (.invokevirtual 344, 3) := by decide +kernel
theorem dX9_next_50 : decode cX9_next 50 = .ok (.invokevirtual 347, 3) := by decide +kernel
theorem dX9_next_53 : decode cX9_next 53 = .ok (.ireturn, 1) := by decide +kernel
theorem dX9_traced_0 : decode cX9_traced 0 = .ok (.aload_n 0, 1) := by decide +kernel
theorem dX9_traced_1 : decode cX9_traced 1 = .ok (.getfield 104, 3) := by decide +kernel
theorem dX9_traced_4 : decode cX9_traced 4 = .ok (.iload_n 1, 1) := by decide +kernel
theorem dX9_traced_5 : decode cX9_traced 5 = .ok (.iaload, 1) := by decide +kernel
theorem dX9_traced_6 : decode cX9_traced 6 = .ok (.bipush 40, 2) := by decide +kernel
theorem dX9_traced_8 : decode cX9_traced 8 = .ok (.if_icmp .ge 12, 3) := by decide +kernel
theorem dX9_traced_11 : decode cX9_traced 11 = .ok (.aload_n 0, 1) := by decide +kernel
theorem dX9_traced_12 : decode cX9_traced 12 = .ok (.getfield 104, 3) := by decide +kernel
theorem dX9_traced_15 : decode cX9_traced 15 = .ok (.iload_n 1, 1) := by decide +kernel
theorem dX9_traced_16 : decode cX9_traced 16 = .ok (.iaload, 1) := by decide +kernel
theorem dX9_traced_17 : decode cX9_traced 17 = .ok (.goto 5, 3) := by decide +kernel
theorem dX9_traced_20 : decode cX9_traced 20 = .ok (.bipush 40, 2) := by decide +kernel
theorem dX9_traced_22 : decode cX9_traced 22 = .ok (.ireturn, 1) := by decide +kernel
theorem dX9_trace_0 : decode cX9_trace 0 = .ok (.aload_n 0, 1) := by decide +kernel
theorem dX9_trace_1 : decode cX9_trace 1 = .ok (.iload_n 1, 1) := by decide +kernel
theorem dX9_trace_2 : decode cX9_trace 2 = .ok (.invokevirtual 329, 3) := by decide +kernel
theorem dX9_trace_5 : decode cX9_trace 5 = .ok (.ifCond .ne 9, 3) := by decide +kernel
theorem dX9_trace_8 : decode cX9_trace 8 = .ok (.aload_n 0, 1) := by decide +kernel
theorem dX9_trace_9 : decode cX9_trace 9 = .ok (.iconst (-1), 1) := by decide +kernel
theorem dX9_trace_10 : decode cX9_trace 10 = .ok (.invokevirtual 192, 3) := by decide +kernel
theorem dX9_trace_13 : decode cX9_trace 13 = .ok (.ireturn, 1) := by decide +kernel
theorem dX9_trace_14 : decode cX9_trace 14 = .ok (.iload_n 2, 1) := by decide +kernel
theorem dX9_trace_15 : decode cX9_trace 15 = .ok (.i2l, 1) := by decide +kernel
theorem dX9_trace_16 : decode cX9_trace 16 = .ok (.lconst 0, 1) := by decide +kernel
theorem dX9_trace_17 : decode cX9_trace 17 = .ok (.aload_n 0, 1) := by decide +kernel
theorem dX9_trace_18 : decode cX9_trace 18 = .ok (.iload_n 1, 1) := by decide +kernel
theorem dX9_trace_19 : decode cX9_trace 19 = .ok (.invokevirtual 363, 3) := by decide +kernel
theorem dX9_trace_22 : decode cX9_trace 22 = .ok (.iconst 1, 1) := by decide +kernel
theorem dX9_trace_23 : decode cX9_trace 23 = .ok (.isub, 1) := by decide +kernel
theorem dX9_trace_24 : decode cX9_trace 24 = .ok (.i2l, 1) := by decide +kernel
theorem dX9_trace_25 : decode cX9_trace 25 = .ok (.invokestatic 203, 3) := by decide +kernel
theorem dX9_trace_28 : decode cX9_trace 28 = .ok (.ifCond .eq 17, 3) := by decide +kernel
theorem dX9_trace_31 : decode cX9_trace 31 = .ok (.aload_n 0, 1) := by decide +kernel
theorem dX9_trace_32 : decode cX9_trace 32 = .ok (.getfield 107, 3) := by decide +kernel
theorem dX9_trace_35 : decode cX9_trace 35 = .ok (.bipush 40, 2) := by decide +kernel
theorem dX9_trace_37 : decode cX9_trace 37 = .ok (.iload_n 1, 1) := by decide +kernel
theorem dX9_trace_38 : decode cX9_trace 38 = .ok (.imul, 1) := by decide +kernel
theorem dX9_trace_39 : decode cX9_trace 39 = .ok (.iload_n 2, 1) := by decide +kernel
theorem dX9_trace_40 : decode cX9_trace 40 = .ok (.iadd, 1) := by decide +kernel
theorem dX9_trace_41 : decode cX9_trace 41 = .ok (.iaload, 1) := by decide +kernel
theorem dX9_trace_42 : decode cX9_trace 42 = .ok (.goto 5, 3) := by decide +kernel
theorem dX9_trace_45 : decode cX9_trace 45 = .ok (.bipush (-9), 2) := by decide +kernel
theorem dX9_trace_47 : decode cX9_trace 47 = .ok (.ireturn, 1) := by decide +kernel
theorem dX9_fro_0 : decode cX9_fro 0 = .ok (.aload_n 0, 1) := by decide +kernel
theorem dX9_fro_1 : decode cX9_fro 1 = .ok (.iload_n 1, 1) := by decide +kernel
theorem dX9_fro_2 : decode cX9_fro 2 = .ok (.invokevirtual 329, 3) := by decide +kernel
theorem dX9_fro_5 : decode cX9_fro 5 = .ok (.ifCond .ne 9, 3) := by decide +kernel
theorem dX9_fro_8 : decode cX9_fro 8 = .ok (.aload_n 0, 1) := by decide +kernel
theorem dX9_fro_9 : decode cX9_fro 9 = .ok (.iconst (-1), 1) := by decide +kernel
theorem dX9_fro_10 : decode cX9_fro 10 = .ok (.invokevirtual 192, 3) := by decide +kernel
theorem dX9_fro_13 : decode cX9_fro 13 = .ok (.ireturn, 1) := by decide +kernel
theorem dX9_fro_14 : decode cX9_fro 14 = .ok (.iconst 0, 1) := by decide +kernel
theorem dX9_fro_15 : decode cX9_fro 15 = .ok (.istore_n 2, 1) := by decide +kernel
theorem dX9_fro_16 : decode cX9_fro 16 = .ok (.iload_n 2, 1) := by decide +kernel
theorem dX9_fro_17 : decode cX9_fro 17 = .ok (.iconst 3, 1) := by decide +kernel
theorem dX9_fro_18 : decode cX9_fro 18 = .ok (.iadd, 1) := by decide +kernel
theorem dX9_fro_19 : decode cX9_fro 19 = .ok (.aload_n 0, 1) := by decide +kernel
theorem dX9_fro_20 : decode cX9_fro 20 = .ok (.iload_n 1, 1) := by decide +kernel
theorem dX9_fro_21 : decode cX9_fro 21 = .ok (.invokevirtual 363, 3) := by decide +kernel
theorem dX9_fro_24 : decode cX9_fro 24 = .ok (.if_icmp .ge 54, 3) := by decide +kernel
theorem dX9_fro_27 : decode cX9_fro 27 = .ok (.bipush 40, 2) := by decide +kernel
theorem dX9_fro_29 : decode cX9_fro 29 = .ok (.iload_n 1, 1) := by decide +kernel
theorem dX9_fro_30 : decode cX9_fro 30 = .ok (.imul, 1) := by decide +kernel
theorem dX9_fro_31 : decode cX9_fro 31 = .ok (.iload_n 2, 1) := by decide +kernel
theorem dX9_fro_32 : decode cX9_fro 32 = .ok (.iadd, 1) := by decide +kernel
theorem dX9_fro_33 : decode cX9_fro 33 = .ok (.istore_n 3, 1) := by decide +kernel
theorem dX9_fro_34 : decode cX9_fro 34 = .ok (.aload_n 0, 1) := by decide +kernel
theorem dX9_fro_35 : decode cX9_fro 35 = .ok (.getfield 107, 3) := by decide +kernel
theorem dX9_fro_38 : decode cX9_fro 38 = .ok (.iload_n 3, 1) := by decide +kernel
theorem dX9_fro_39 : decode cX9_fro 39 = .ok (.iaload, 1) := by decide +kernel
theorem dX9_fro_40 : decode cX9_fro 40 = .ok (.aload_n 0, 1) := by decide +kernel
theorem dX9_fro_41 : decode cX9_fro 41 = .ok (.getfield 107, 3) := by decide +kernel
theorem dX9_fro_44 : decode cX9_fro 44 = .ok (.iload_n 3, 1) := by decide +kernel
theorem dX9_fro_45 : decode cX9_fro 45 = .ok (.iconst 2, 1) := by decide +kernel
theorem dX9_fro_46 : decode cX9_fro 46 = .ok (.iadd, 1) := by decide +kernel
theorem dX9_fro_47 : decode cX9_fro 47 = .ok (.iaload, 1) := by decide +kernel
theorem dX9_fro_48 : decode cX9_fro 48 = .ok (.if_icmp .ne 24, 3) := by decide +kernel
theorem dX9_fro_51 : decode cX9_fro 51 = .ok (.aload_n 0, 1) := by decide +kernel
theorem dX9_fro_52 : decode cX9_fro 52 = .ok (.getfield 107, 3) := by decide +kernel
theorem dX9_fro_55 : decode cX9_fro 55 = .ok (.iload_n 3, 1) := by decide +kernel
theorem dX9_fro_56 : decode cX9_fro 56 = .ok (.iconst 1, 1) := by decide +kernel
theorem dX9_fro_57 : decode cX9_fro 57 = .ok (.iadd, 1) := by decide +kernel
theorem dX9_fro_58 : decode cX9_fro 58 = .ok (.iaload, 1) := by decide +kernel
theorem dX9_fro_59 : decode cX9_fro 59 = .ok (.aload_n 0, 1) := by decide +kernel
theorem dX9_fro_60 : decode cX9_fro 60 = .ok (.getfield 107, 3) := by decide +kernel
theorem dX9_fro_63 : decode cX9_fro 63 = .ok (.iload_n 3, 1) := by decide +kernel
theorem dX9_fro_64 : decode cX9_fro 64 = .ok (.iconst 3, 1) := by decide +kernel
theorem dX9_fro_65 : decode cX9_fro 65 = .ok (.iadd, 1) := by decide +kernel
theorem dX9_fro_66 : decode cX9_fro 66 = .ok (.iaload, 1) := by decide +kernel
theorem dX9_fro_67 : decode cX9_fro 67 = .ok (.if_icmp .ne 5, 3) := by decide +kernel
theorem dX9_fro_70 : decode cX9_fro 70 = .ok (.iload_n 2, 1) := by decide +kernel
theorem dX9_fro_71 : decode cX9_fro 71 = .ok (.ireturn, 1) := by decide +kernel
theorem dX9_fro_72 : decode cX9_fro 72 = .ok (.iinc 2 1, 3) := by decide +kernel
theorem dX9_fro_75 : decode cX9_fro 75 = .ok (.goto (-59), 3) := by decide +kernel
theorem dX9_fro_78 : decode cX9_fro 78 = .ok (.bipush (-9), 2) := by decide +kernel
theorem dX9_fro_80 : decode cX9_fro 80 = .ok (.ireturn, 1) := by decide +kernel
theorem dX9_keeps_0 : decode cX9_keeps 0 = .ok (.iconst 0, 1) := by decide +kernel
theorem dX9_keeps_1 : decode cX9_keeps 1 = .ok (.istore_n 1, 1) := by decide +kernel
theorem dX9_keeps_2 : decode cX9_keeps 2 = .ok (.iload_n 1, 1) := by decide +kernel
theorem dX9_keeps_3 : decode cX9_keeps 3 = .ok (.aload_n 0, 1) := by decide +kernel
theorem dX9_keeps_4 : decode cX9_keeps 4 = .ok (.getfield 259, 3) := by decide +kernel
theorem dX9_keeps_7 : decode cX9_keeps 7 = .ok (.if_icmp .ge 93, 3) := by decide +kernel
theorem dX9_keeps_10 : decode cX9_keeps 10 = .ok (.aload_n 0, 1) := by decide +kernel
theorem dX9_keeps_11 : decode cX9_keeps 11 = .ok (.getfield 150, 3) := by decide +kernel
theorem dX9_keeps_14 : decode cX9_keeps 14 = .ok (.iload_n 1, 1) := by decide +kernel
theorem dX9_keeps_15 : decode cX9_keeps 15 = .ok (.aload_n 0, 1) := by decide +kernel
theorem dX9_keeps_16 : decode cX9_keeps 16 = .ok (.getfield 92, 3) := by decide +kernel
theorem dX9_keeps_19 : decode cX9_keeps 19 = .ok (.iload_n 1, 1) := by decide +kernel
theorem dX9_keeps_20 : decode cX9_keeps 20 = .ok (.iaload, 1) := by decide +kernel
theorem dX9_keeps_21 : decode cX9_keeps 21 = .ok (.iastore, 1) := by decide +kernel
theorem dX9_keeps_22 : decode cX9_keeps 22 = .ok (.aload_n 0, 1) := by decide +kernel
theorem dX9_keeps_23 : decode cX9_keeps 23 = .ok (.getfield 153, 3) := by decide +kernel
theorem dX9_keeps_26 : decode cX9_keeps 26 = .ok (.iload_n 1, 1) := by decide +kernel
theorem dX9_keeps_27 : decode cX9_keeps 27 = .ok (.aload_n 0, 1) := by decide +kernel
theorem dX9_keeps_28 : decode cX9_keeps 28 = .ok (.getfield 95, 3) := by decide +kernel
theorem dX9_keeps_31 : decode cX9_keeps 31 = .ok (.iload_n 1, 1) := by decide +kernel
theorem dX9_keeps_32 : decode cX9_keeps 32 = .ok (.iaload, 1) := by decide +kernel
theorem dX9_keeps_33 : decode cX9_keeps 33 = .ok (.iastore, 1) := by decide +kernel
theorem dX9_keeps_34 : decode cX9_keeps 34 = .ok (.aload_n 0, 1) := by decide +kernel
theorem dX9_keeps_35 : decode cX9_keeps 35 = .ok (.getfield 156, 3) := by decide +kernel
theorem dX9_keeps_38 : decode cX9_keeps 38 = .ok (.iload_n 1, 1) := by decide +kernel
theorem dX9_keeps_39 : decode cX9_keeps 39 = .ok (.aload_n 0, 1) := by decide +kernel
theorem dX9_keeps_40 : decode cX9_keeps 40 = .ok (.getfield 98, 3) := by decide +kernel
theorem dX9_keeps_43 : decode cX9_keeps 43 = .ok (.iload_n 1, 1) := by decide +kernel
theorem dX9_keeps_44 : decode cX9_keeps 44 = .ok (.iaload, 1) := by decide +kernel
theorem dX9_keeps_45 : decode cX9_keeps 45 = .ok (.iastore, 1) := by decide +kernel
theorem dX9_keeps_46 : decode cX9_keeps 46 = .ok (.aload_n 0, 1) := by decide +kernel
theorem dX9_keeps_47 : decode cX9_keeps 47 = .ok (.getfield 159, 3) := by decide +kernel
theorem dX9_keeps_50 : decode cX9_keeps 50 = .ok (.iload_n 1, 1) := by decide +kernel
theorem dX9_keeps_51 : decode cX9_keeps 51 = .ok (.aload_n 0, 1) := by decide +kernel
theorem dX9_keeps_52 : decode cX9_keeps 52 = .ok (.getfield 101, 3) := by decide +kernel
theorem dX9_keeps_55 : decode cX9_keeps 55 = .ok (.iload_n 1, 1) := by decide +kernel
theorem dX9_keeps_56 : decode cX9_keeps 56 = .ok (.iaload, 1) := by decide +kernel
theorem dX9_keeps_57 : decode cX9_keeps 57 = .ok (.iastore, 1) := by decide +kernel
theorem dX9_keeps_58 : decode cX9_keeps 58 = .ok (.aload_n 0, 1) := by decide +kernel
theorem dX9_keeps_59 : decode cX9_keeps 59 = .ok (.getfield 162, 3) := by decide +kernel
theorem dX9_keeps_62 : decode cX9_keeps 62 = .ok (.iload_n 1, 1) := by decide +kernel
theorem dX9_keeps_63 : decode cX9_keeps 63 = .ok (.aload_n 0, 1) := by decide +kernel
theorem dX9_keeps_64 : decode cX9_keeps 64 = .ok (.getfield 104, 3) := by decide +kernel
theorem dX9_keeps_67 : decode cX9_keeps 67 = .ok (.iload_n 1, 1) := by decide +kernel
theorem dX9_keeps_68 : decode cX9_keeps 68 = .ok (.iaload, 1) := by decide +kernel
theorem dX9_keeps_69 : decode cX9_keeps 69 = .ok (.iastore, 1) := by decide +kernel
theorem dX9_keeps_70 : decode cX9_keeps 70 = .ok (.aload_n 0, 1) := by decide +kernel
theorem dX9_keeps_71 : decode cX9_keeps 71 = .ok (.getfield 165, 3) := by decide +kernel
theorem dX9_keeps_74 : decode cX9_keeps 74 = .ok (.iload_n 1, 1) := by decide +kernel
theorem dX9_keeps_75 : decode cX9_keeps 75 = .ok (.aload_n 0, 1) := by decide +kernel
theorem dX9_keeps_76 : decode cX9_keeps 76 = .ok (.getfield 110, 3) := by decide +kernel
theorem dX9_keeps_79 : decode cX9_keeps 79 = .ok (.iload_n 1, 1) := by decide +kernel
theorem dX9_keeps_80 : decode cX9_keeps 80 = .ok (.baload, 1) := by decide +kernel
theorem dX9_keeps_81 : decode cX9_keeps 81 = .ok (.bastore, 1) := by decide +kernel
theorem dX9_keeps_82 : decode cX9_keeps 82 = .ok (.aload_n 0, 1) := by decide +kernel
theorem dX9_keeps_83 : decode cX9_keeps 83 = .ok (.getfield 168, 3) := by decide +kernel
theorem dX9_keeps_86 : decode cX9_keeps 86 = .ok (.iload_n 1, 1) := by decide +kernel
theorem dX9_keeps_87 : decode cX9_keeps 87 = .ok (.aload_n 0, 1) := by decide +kernel
theorem dX9_keeps_88 : decode cX9_keeps 88 = .ok (.getfield 113, 3) := by decide +kernel
theorem dX9_keeps_91 : decode cX9_keeps 91 = .ok (.iload_n 1, 1) := by decide +kernel
end
section
theorem dX9_keeps_92 : decode cX9_keeps 92 = .ok (.baload, 1) := by decide +kernel
theorem dX9_keeps_93 : decode cX9_keeps 93 = .ok (.bastore, 1) := by decide +kernel
theorem dX9_keeps_94 : decode cX9_keeps 94 = .ok (.iinc 1 1, 3) := by decide +kernel
theorem dX9_keeps_97 : decode cX9_keeps 97 = .ok (.goto (-95), 3) := by decide +kernel
theorem dX9_keeps_100 : decode cX9_keeps 100 = .ok (.return_, 1) := by decide +kernel
theorem dX9_putsBack_0 : decode cX9_putsBack 0 = .ok (.iconst 0, 1) := by decide +kernel
theorem dX9_putsBack_1 : decode cX9_putsBack 1 = .ok (.istore_n 1, 1) := by decide +kernel
theorem dX9_putsBack_2 : decode cX9_putsBack 2 = .ok (.iload_n 1, 1) := by decide +kernel
theorem dX9_putsBack_3 : decode cX9_putsBack 3 = .ok (.aload_n 0, 1) := by decide +kernel
theorem dX9_putsBack_4 : decode cX9_putsBack 4 = .ok (.getfield 259, 3) := by decide +kernel
theorem dX9_putsBack_7 : decode cX9_putsBack 7 = .ok (.if_icmp .ge 93, 3) := by decide +kernel
theorem dX9_putsBack_10 : decode cX9_putsBack 10 = .ok (.aload_n 0, 1) := by decide +kernel
theorem dX9_putsBack_11 : decode cX9_putsBack 11 = .ok (.getfield 92, 3) := by decide +kernel
theorem dX9_putsBack_14 : decode cX9_putsBack 14 = .ok (.iload_n 1, 1) := by decide +kernel
theorem dX9_putsBack_15 : decode cX9_putsBack 15 = .ok (.aload_n 0, 1) := by decide +kernel
theorem dX9_putsBack_16 : decode cX9_putsBack 16 = .ok (.getfield 150, 3) := by decide +kernel
theorem dX9_putsBack_19 : decode cX9_putsBack 19 = .ok (.iload_n 1, 1) := by decide +kernel
theorem dX9_putsBack_20 : decode cX9_putsBack 20 = .ok (.iaload, 1) := by decide +kernel
theorem dX9_putsBack_21 : decode cX9_putsBack 21 = .ok (.iastore, 1) := by decide +kernel
theorem dX9_putsBack_22 : decode cX9_putsBack 22 = .ok (.aload_n 0, 1) := by decide +kernel
theorem dX9_putsBack_23 : decode cX9_putsBack 23 = .ok (.getfield 95, 3) := by decide +kernel
theorem dX9_putsBack_26 : decode cX9_putsBack 26 = .ok (.iload_n 1, 1) := by decide +kernel
theorem dX9_putsBack_27 : decode cX9_putsBack 27 = .ok (.aload_n 0, 1) := by decide +kernel
theorem dX9_putsBack_28 : decode cX9_putsBack 28 = .ok (.getfield 153, 3) := by decide +kernel
theorem dX9_putsBack_31 : decode cX9_putsBack 31 = .ok (.iload_n 1, 1) := by decide +kernel
theorem dX9_putsBack_32 : decode cX9_putsBack 32 = .ok (.iaload, 1) := by decide +kernel
theorem dX9_putsBack_33 : decode cX9_putsBack 33 = .ok (.iastore, 1) := by decide +kernel
theorem dX9_putsBack_34 : decode cX9_putsBack 34 = .ok (.aload_n 0, 1) := by decide +kernel
theorem dX9_putsBack_35 : decode cX9_putsBack 35 = .ok (.getfield 98, 3) := by decide +kernel
theorem dX9_putsBack_38 : decode cX9_putsBack 38 = .ok (.iload_n 1, 1) := by decide +kernel
theorem dX9_putsBack_39 : decode cX9_putsBack 39 = .ok (.aload_n 0, 1) := by decide +kernel
theorem dX9_putsBack_40 : decode cX9_putsBack 40 = .ok (.getfield 156, 3) := by decide +kernel
theorem dX9_putsBack_43 : decode cX9_putsBack 43 = .ok (.iload_n 1, 1) := by decide +kernel
theorem dX9_putsBack_44 : decode cX9_putsBack 44 = .ok (.iaload, 1) := by decide +kernel
theorem dX9_putsBack_45 : decode cX9_putsBack 45 = .ok (.iastore, 1) := by decide +kernel
theorem dX9_putsBack_46 : decode cX9_putsBack 46 = .ok (.aload_n 0, 1) := by decide +kernel
theorem dX9_putsBack_47 : decode cX9_putsBack 47 = .ok (.getfield 101, 3) := by decide +kernel
theorem dX9_putsBack_50 : decode cX9_putsBack 50 = .ok (.iload_n 1, 1) := by decide +kernel
theorem dX9_putsBack_51 : decode cX9_putsBack 51 = .ok (.aload_n 0, 1) := by decide +kernel
theorem dX9_putsBack_52 : decode cX9_putsBack 52 = .ok (.getfield 159, 3) := by decide +kernel
theorem dX9_putsBack_55 : decode cX9_putsBack 55 = .ok (.iload_n 1, 1) := by decide +kernel
theorem dX9_putsBack_56 : decode cX9_putsBack 56 = .ok (.iaload, 1) := by decide +kernel
theorem dX9_putsBack_57 : decode cX9_putsBack 57 = .ok (.iastore, 1) := by decide +kernel
theorem dX9_putsBack_58 : decode cX9_putsBack 58 = .ok (.aload_n 0, 1) := by decide +kernel
theorem dX9_putsBack_59 : decode cX9_putsBack 59 = .ok (.getfield 104, 3) := by decide +kernel
theorem dX9_putsBack_62 : decode cX9_putsBack 62 = .ok (.iload_n 1, 1) := by decide +kernel
theorem dX9_putsBack_63 : decode cX9_putsBack 63 = .ok (.aload_n 0, 1) := by decide +kernel
theorem dX9_putsBack_64 : decode cX9_putsBack 64 = .ok (.getfield 162, 3) := by decide +kernel
theorem dX9_putsBack_67 : decode cX9_putsBack 67 = .ok (.iload_n 1, 1) := by decide +kernel
theorem dX9_putsBack_68 : decode cX9_putsBack 68 = .ok (.iaload, 1) := by decide +kernel
theorem dX9_putsBack_69 : decode cX9_putsBack 69 = .ok (.iastore, 1) := by decide +kernel
theorem dX9_putsBack_70 : decode cX9_putsBack 70 = .ok (.aload_n 0, 1) := by decide +kernel
theorem dX9_putsBack_71 : decode cX9_putsBack 71 = .ok (.getfield 110, 3) := by decide +kernel
theorem dX9_putsBack_74 : decode cX9_putsBack 74 = .ok (.iload_n 1, 1) := by decide +kernel
theorem dX9_putsBack_75 : decode cX9_putsBack 75 = .ok (.aload_n 0, 1) := by decide +kernel
theorem dX9_putsBack_76 : decode cX9_putsBack 76 = .ok (.getfield 165, 3) := by decide +kernel
theorem dX9_putsBack_79 : decode cX9_putsBack 79 = .ok (.iload_n 1, 1) := by decide +kernel
theorem dX9_putsBack_80 : decode cX9_putsBack 80 = .ok (.baload, 1) := by decide +kernel
theorem dX9_putsBack_81 : decode cX9_putsBack 81 = .ok (.bastore, 1) := by decide +kernel
theorem dX9_putsBack_82 : decode cX9_putsBack 82 = .ok (.aload_n 0, 1) := by decide +kernel
theorem dX9_putsBack_83 : decode cX9_putsBack 83 = .ok (.getfield 113, 3) := by decide +kernel
theorem dX9_putsBack_86 : decode cX9_putsBack 86 = .ok (.iload_n 1, 1) := by decide +kernel
theorem dX9_putsBack_87 : decode cX9_putsBack 87 = .ok (.aload_n 0, 1) := by decide +kernel
theorem dX9_putsBack_88 : decode cX9_putsBack 88 = .ok (.getfield 168, 3) := by decide +kernel
theorem dX9_putsBack_91 : decode cX9_putsBack 91 = .ok (.iload_n 1, 1) := by decide +kernel
theorem dX9_putsBack_92 : decode cX9_putsBack 92 = .ok (.baload, 1) := by decide +kernel
theorem dX9_putsBack_93 : decode cX9_putsBack 93 = .ok (.bastore, 1) := by decide +kernel
theorem dX9_putsBack_94 : decode cX9_putsBack 94 = .ok (.iinc 1 1, 3) := by decide +kernel
theorem dX9_putsBack_97 : decode cX9_putsBack 97 = .ok (.goto (-95), 3) := by decide +kernel
theorem dX9_putsBack_100 : decode cX9_putsBack 100 = .ok (.return_, 1) := by decide +kernel
theorem dX9_after_0 : decode cX9_after 0 = .ok (.aload_n 0, 1) := by decide +kernel
theorem dX9_after_1 : decode cX9_after 1 = .ok (.iload_n 1, 1) := by decide +kernel
theorem dX9_after_2 : decode cX9_after 2 = .ok (.invokevirtual 329, 3) := by decide +kernel
theorem dX9_after_5 : decode cX9_after 5 = .ok (.ifCond .ne 9, 3) := by decide +kernel
theorem dX9_after_8 : decode cX9_after 8 = .ok (.aload_n 0, 1) := by decide +kernel
theorem dX9_after_9 : decode cX9_after 9 = .ok (.iconst (-1), 1) := by decide +kernel
theorem dX9_after_10 : decode cX9_after 10 = .ok (.invokevirtual 192, 3) := by decide +kernel
theorem dX9_after_13 : decode cX9_after 13 = .ok (.ireturn, 1) := by decide +kernel
theorem dX9_after_14 : decode cX9_after 14 = .ok (.iload_n 2, 1) := by decide +kernel
theorem dX9_after_15 : decode cX9_after 15 = .ok (.i2l, 1) := by decide +kernel
theorem dX9_after_16 : decode cX9_after 16 = .ok (.lconst 0, 1) := by decide +kernel
theorem dX9_after_17 : decode cX9_after 17 = .ok (.lconst 1, 1) := by decide +kernel
theorem dX9_after_18 : decode cX9_after 18 = .ok (.invokestatic 203, 3) := by decide +kernel
theorem dX9_after_21 : decode cX9_after 21 = .ok (.ifCond .ne 10, 3) := by decide +kernel
theorem dX9_after_24 : decode cX9_after 24 = .ok (.aload_n 0, 1) := by decide +kernel
theorem dX9_after_25 : decode cX9_after 25 = .ok (.bipush (-2), 2) := by decide +kernel
theorem dX9_after_27 : decode cX9_after 27 = .ok (.invokevirtual 192, 3) := by decide +kernel
theorem dX9_after_30 : decode cX9_after 30 = .ok (.ireturn, 1) := by decide +kernel
theorem dX9_after_31 : decode cX9_after 31 = .ok (.aload_n 0, 1) := by decide +kernel
theorem dX9_after_32 : decode cX9_after 32 = .ok (.invokevirtual 366, 3) := by decide +kernel
theorem dX9_after_35 : decode cX9_after 35 = .ok (.aload_n 0, 1) := by decide +kernel
theorem dX9_after_36 : decode cX9_after 36 = .ok (.invokevirtual 214, 3) := by decide +kernel
theorem dX9_after_39 : decode cX9_after 39 = .ok (.iconst 0, 1) := by decide +kernel
theorem dX9_after_40 : decode cX9_after 40 = .ok (.istore_n 3, 1) := by decide +kernel
theorem dX9_after_41 : decode cX9_after 41 = .ok (.iload_n 3, 1) := by decide +kernel
theorem dX9_after_42 : decode cX9_after 42 = .ok (.sipush 300, 3) := by decide +kernel
theorem dX9_after_45 : decode cX9_after 45 = .ok (.if_icmp .ge 29, 3) := by decide +kernel
theorem dX9_after_48 : decode cX9_after 48 = .ok (.aload_n 0, 1) := by decide +kernel
theorem dX9_after_49 : decode cX9_after 49 = .ok (.getfield 92, 3) := by decide +kernel
theorem dX9_after_52 : decode cX9_after 52 = .ok (.iload_n 1, 1) := by decide +kernel
theorem dX9_after_53 : decode cX9_after 53 = .ok (.iaload, 1) := by decide +kernel
theorem dX9_after_54 : decode cX9_after 54 = .ok (.iconst 2, 1) := by decide +kernel
theorem dX9_after_55 : decode cX9_after 55 = .ok (.if_icmp .ge 19, 3) := by decide +kernel
theorem dX9_after_58 : decode cX9_after 58 = .ok (.aload_n 0, 1) := by decide +kernel
theorem dX9_after_59 : decode cX9_after 59 = .ok (.aload_n 0, 1) := by decide +kernel
theorem dX9_after_60 : decode cX9_after 60 = .ok (.getfield 207, 3) := by decide +kernel
theorem dX9_after_63 : decode cX9_after 63 = .ok (.iload_n 3, 1) := by decide +kernel
theorem dX9_after_64 : decode cX9_after 64 = .ok (.iadd, 1) := by decide +kernel
theorem dX9_after_65 : decode cX9_after 65 = .ok (.invokevirtual 360, 3) := by decide +kernel
theorem dX9_after_68 : decode cX9_after 68 = .ok (.iinc 3 1, 3) := by decide +kernel
theorem dX9_after_71 : decode cX9_after 71 = .ok (.goto (-30), 3) := by decide +kernel
theorem dX9_after_74 : decode cX9_after 74 = .ok (.aload_n 0, 1) := by decide +kernel
theorem dX9_after_75 : decode cX9_after 75 = .ok (.getfield 92, 3) := by decide +kernel
theorem dX9_after_78 : decode cX9_after 78 = .ok (.iload_n 1, 1) := by decide +kernel
theorem dX9_after_79 : decode cX9_after 79 = .ok (.iaload, 1) := by decide +kernel
theorem dX9_after_80 : decode cX9_after 80 = .ok (.iconst 2, 1) := by decide +kernel
theorem dX9_after_81 : decode cX9_after 81 = .ok (.if_icmp .ge 8, 3) := by decide +kernel
theorem dX9_after_84 : decode cX9_after 84 = .ok (.bipush (-9), 2) := by decide +kernel
theorem dX9_after_86 : decode cX9_after 86 = .ok (.goto 22, 3) := by decide +kernel
theorem dX9_after_89 : decode cX9_after 89 = .ok (.iload_n 2, 1) := by decide +kernel
theorem dX9_after_90 : decode cX9_after 90 = .ok (.ifCond .ne 12, 3) := by decide +kernel
theorem dX9_after_93 : decode cX9_after 93 = .ok (.aload_n 0, 1) := by decide +kernel
theorem dX9_after_94 : decode cX9_after 94 = .ok (.getfield 98, 3) := by decide +kernel
theorem dX9_after_97 : decode cX9_after 97 = .ok (.iload_n 1, 1) := by decide +kernel
theorem dX9_after_98 : decode cX9_after 98 = .ok (.iaload, 1) := by decide +kernel
theorem dX9_after_99 : decode cX9_after 99 = .ok (.goto 9, 3) := by decide +kernel
theorem dX9_after_102 : decode cX9_after 102 = .ok (.aload_n 0, 1) := by decide +kernel
theorem dX9_after_103 : decode cX9_after 103 = .ok (.getfield 92, 3) := by decide +kernel
theorem dX9_after_106 : decode cX9_after 106 = .ok (.iload_n 1, 1) := by decide +kernel
theorem dX9_after_107 : decode cX9_after 107 = .ok (.iaload, 1) := by decide +kernel
theorem dX9_after_108 : decode cX9_after 108 = .ok (.istore_n 3, 1) := by decide +kernel
theorem dX9_after_109 : decode cX9_after 109 = .ok (.aload_n 0, 1) := by decide +kernel
theorem dX9_after_110 : decode cX9_after 110 = .ok (.invokevirtual 369, 3) := by decide +kernel
theorem dX9_after_113 : decode cX9_after 113 = .ok (.iload_n 3, 1) := by decide +kernel
theorem dX9_after_114 : decode cX9_after 114 = .ok (.ireturn, 1) := by decide +kernel
theorem dX9_paid_0 : decode cX9_paid 0 = .ok (.aload_n 0, 1) := by decide +kernel
theorem dX9_paid_1 : decode cX9_paid 1 = .ok (.iload_n 1, 1) := by decide +kernel
theorem dX9_paid_2 : decode cX9_paid 2 = .ok (.invokevirtual 241, 3) := by decide +kernel
theorem dX9_paid_5 : decode cX9_paid 5 = .ok (.ifCond .ne 9, 3) := by decide +kernel
theorem dX9_paid_8 : decode cX9_paid 8 = .ok (.aload_n 0, 1) := by decide +kernel
theorem dX9_paid_9 : decode cX9_paid 9 = .ok (.iconst (-1), 1) := by decide +kernel
theorem dX9_paid_10 : decode cX9_paid 10 = .ok (.invokevirtual 192, 3) := by decide +kernel
theorem dX9_paid_13 : decode cX9_paid 13 = .ok (.ireturn, 1) := by decide +kernel
theorem dX9_paid_14 : decode cX9_paid 14 = .ok (.iconst 0, 1) := by decide +kernel
theorem dX9_paid_15 : decode cX9_paid 15 = .ok (.istore_n 2, 1) := by decide +kernel
theorem dX9_paid_16 : decode cX9_paid 16 = .ok (.iconst 0, 1) := by decide +kernel
theorem dX9_paid_17 : decode cX9_paid 17 = .ok (.istore_n 3, 1) := by decide +kernel
theorem dX9_paid_18 : decode cX9_paid 18 = .ok (.iload_n 3, 1) := by decide +kernel
theorem dX9_paid_19 : decode cX9_paid 19 = .ok (.aload_n 0, 1) := by decide +kernel
theorem dX9_paid_20 : decode cX9_paid 20 = .ok (.getfield 259, 3) := by decide +kernel
theorem dX9_paid_23 : decode cX9_paid 23 = .ok (.if_icmp .ge 52, 3) := by decide +kernel
theorem dX9_paid_26 : decode cX9_paid 26 = .ok (.iload_n 2, 1) := by decide +kernel
theorem dX9_paid_27 : decode cX9_paid 27 = .ok (.aload_n 0, 1) := by decide +kernel
theorem dX9_paid_28 : decode cX9_paid 28 = .ok (.getfield 86, 3) := by decide +kernel
theorem dX9_paid_31 : decode cX9_paid 31 = .ok (.iload_n 3, 1) := by decide +kernel
theorem dX9_paid_32 : decode cX9_paid 32 = .ok (.iaload, 1) := by decide +kernel
theorem dX9_paid_33 : decode cX9_paid 33 = .ok (.iload_n 1, 1) := by decide +kernel
theorem dX9_paid_34 : decode cX9_paid 34 = .ok (.if_icmp .ne 32, 3) := by decide +kernel
theorem dX9_paid_37 : decode cX9_paid 37 = .ok (.aload_n 0, 1) := by decide +kernel
theorem dX9_paid_38 : decode cX9_paid 38 = .ok (.getfield 77, 3) := by decide +kernel
theorem dX9_paid_41 : decode cX9_paid 41 = .ok (.iload_n 3, 1) := by decide +kernel
theorem dX9_paid_42 : decode cX9_paid 42 = .ok (.iaload, 1) := by decide +kernel
theorem dX9_paid_43 : decode cX9_paid 43 = .ok (.iconst 2, 1) := by decide +kernel
theorem dX9_paid_44 : decode cX9_paid 44 = .ok (.if_icmp .ne 22, 3) := by decide +kernel
theorem dX9_paid_47 : decode cX9_paid 47 = .ok (.aload_n 0, 1) := by decide +kernel
theorem dX9_paid_48 : decode cX9_paid 48 = .ok (.getfield 92, 3) := by decide +kernel
theorem dX9_paid_51 : decode cX9_paid 51 = .ok (.iload_n 3, 1) := by decide +kernel
theorem dX9_paid_52 : decode cX9_paid 52 = .ok (.iaload, 1) := by decide +kernel
theorem dX9_paid_53 : decode cX9_paid 53 = .ok (.iconst 2, 1) := by decide +kernel
theorem dX9_paid_54 : decode cX9_paid 54 = .ok (.if_icmp .ne 12, 3) := by decide +kernel
theorem dX9_paid_57 : decode cX9_paid 57 = .ok (.aload_n 0, 1) := by decide +kernel
theorem dX9_paid_58 : decode cX9_paid 58 = .ok (.getfield 89, 3) := by decide +kernel
theorem dX9_paid_61 : decode cX9_paid 61 = .ok (.iload_n 3, 1) := by decide +kernel
theorem dX9_paid_62 : decode cX9_paid 62 = .ok (.iaload, 1) := by decide +kernel
theorem dX9_paid_63 : decode cX9_paid 63 = .ok (.goto 4, 3) := by decide +kernel
theorem dX9_paid_66 : decode cX9_paid 66 = .ok (.iconst 0, 1) := by decide +kernel
theorem dX9_paid_67 : decode cX9_paid 67 = .ok (.iadd, 1) := by decide +kernel
theorem dX9_paid_68 : decode cX9_paid 68 = .ok (.istore_n 2, 1) := by decide +kernel
theorem dX9_paid_69 : decode cX9_paid 69 = .ok (.iinc 3 1, 3) := by decide +kernel
theorem dX9_paid_72 : decode cX9_paid 72 = .ok (.goto (-54), 3) := by decide +kernel
theorem dX9_paid_75 : decode cX9_paid 75 = .ok (.iload_n 2, 1) := by decide +kernel
theorem dX9_paid_76 : decode cX9_paid 76 = .ok (.ireturn, 1) := by decide +kernel
theorem dX9_fits_0 : decode cX9_fits 0 = .ok (.iload_n 2, 1) := by decide +kernel
theorem dX9_fits_1 : decode cX9_fits 1 = .ok (.ifCond .lt 15, 3) := by decide +kernel
theorem dX9_fits_4 : decode cX9_fits 4 = .ok (.aload_n 0, 1) := by decide +kernel
theorem dX9_fits_5 : decode cX9_fits 5 = .ok (.getfield 59, 3) := by decide +kernel
theorem dX9_fits_8 : decode cX9_fits 8 = .ok (.iload_n 1, 1) := by decide +kernel
theorem dX9_fits_9 : decode cX9_fits 9 = .ok (.iaload, 1) := by decide +kernel
theorem dX9_fits_10 : decode cX9_fits 10 = .ok (.iload_n 2, 1) := by decide +kernel
theorem dX9_fits_11 : decode cX9_fits 11 = .ok (.if_icmp .eq 5, 3) := by decide +kernel
theorem dX9_fits_14 : decode cX9_fits 14 = .ok (.iconst 0, 1) := by decide +kernel
theorem dX9_fits_15 : decode cX9_fits 15 = .ok (.ireturn, 1) := by decide +kernel
theorem dX9_fits_16 : decode cX9_fits 16 = .ok (.iload_n 3, 1) := by decide +kernel
theorem dX9_fits_17 : decode cX9_fits 17 = .ok (.istore 4, 2) := by decide +kernel
theorem dX9_fits_19 : decode cX9_fits 19 = .ok (.aload_n 0, 1) := by decide +kernel
theorem dX9_fits_20 : decode cX9_fits 20 = .ok (.getfield 62, 3) := by decide +kernel
theorem dX9_fits_23 : decode cX9_fits 23 = .ok (.iload_n 1, 1) := by decide +kernel
theorem dX9_fits_24 : decode cX9_fits 24 = .ok (.iaload, 1) := by decide +kernel
theorem dX9_fits_25 : decode cX9_fits 25 = .ok (.istore 5, 2) := by decide +kernel
theorem dX9_fits_27 : decode cX9_fits 27 = .ok (.iconst 0, 1) := by decide +kernel
theorem dX9_fits_28 : decode cX9_fits 28 = .ok (.istore 6, 2) := by decide +kernel
theorem dX9_fits_30 : decode cX9_fits 30 = .ok (.iload 6, 2) := by decide +kernel
theorem dX9_fits_32 : decode cX9_fits 32 = .ok (.iconst 4, 1) := by decide +kernel
theorem dX9_fits_33 : decode cX9_fits 33 = .ok (.if_icmp .ge 48, 3) := by decide +kernel
theorem dX9_fits_36 : decode cX9_fits 36 = .ok (.iload 4, 2) := by decide +kernel
theorem dX9_fits_38 : decode cX9_fits 38 = .ok (.bipush 11, 2) := by decide +kernel
theorem dX9_fits_40 : decode cX9_fits 40 = .ok (.irem, 1) := by decide +kernel
theorem dX9_fits_41 : decode cX9_fits 41 = .ok (.bipush 10, 2) := by decide +kernel
theorem dX9_fits_43 : decode cX9_fits 43 = .ok (.if_icmp .eq 18, 3) := by decide +kernel
theorem dX9_fits_46 : decode cX9_fits 46 = .ok (.iload 4, 2) := by decide +kernel
theorem dX9_fits_48 : decode cX9_fits 48 = .ok (.bipush 11, 2) := by decide +kernel
theorem dX9_fits_50 : decode cX9_fits 50 = .ok (.irem, 1) := by decide +kernel
theorem dX9_fits_51 : decode cX9_fits 51 = .ok (.iload 5, 2) := by decide +kernel
theorem dX9_fits_53 : decode cX9_fits 53 = .ok (.bipush 10, 2) := by decide +kernel
theorem dX9_fits_55 : decode cX9_fits 55 = .ok (.irem, 1) := by decide +kernel
theorem dX9_fits_56 : decode cX9_fits 56 = .ok (.if_icmp .eq 5, 3) := by decide +kernel
theorem dX9_fits_59 : decode cX9_fits 59 = .ok (.iconst 0, 1) := by decide +kernel
theorem dX9_fits_60 : decode cX9_fits 60 = .ok (.ireturn, 1) := by decide +kernel
theorem dX9_fits_61 : decode cX9_fits 61 = .ok (.iload 4, 2) := by decide +kernel
theorem dX9_fits_63 : decode cX9_fits 63 = .ok (.bipush 11, 2) := by decide +kernel
theorem dX9_fits_65 : decode cX9_fits 65 = .ok (.idiv, 1) := by decide +kernel
theorem dX9_fits_66 : decode cX9_fits 66 = .ok (.istore 4, 2) := by decide +kernel
theorem dX9_fits_68 : decode cX9_fits 68 = .ok (.iload 5, 2) := by decide +kernel
theorem dX9_fits_70 : decode cX9_fits 70 = .ok (.bipush 10, 2) := by decide +kernel
theorem dX9_fits_72 : decode cX9_fits 72 = .ok (.idiv, 1) := by decide +kernel
theorem dX9_fits_73 : decode cX9_fits 73 = .ok (.istore 5, 2) := by decide +kernel
theorem dX9_fits_75 : decode cX9_fits 75 = .ok (.iinc 6 1, 3) := by decide +kernel
theorem dX9_fits_78 : decode cX9_fits 78 = .ok (.goto (-48), 3) := by decide +kernel
theorem dX9_fits_81 : decode cX9_fits 81 = .ok (.iconst 1, 1) := by decide +kernel
theorem dX9_fits_82 : decode cX9_fits 82 = .ok (.ireturn, 1) := by decide +kernel
theorem dX9_notCover_0 : decode cX9_notCover 0 = .ok (.iload_n 1, 1) := by decide +kernel
theorem dX9_notCover_1 : decode cX9_notCover 1 = .ok (.i2l, 1) := by decide +kernel
theorem dX9_notCover_2 : decode cX9_notCover 2 = .ok (.ldc2_w 372, 3) := by decide +kernel
theorem dX9_notCover_5 : decode cX9_notCover 5 = .ok (.ldc2_w 374, 3) := by decide +kernel
theorem dX9_notCover_8 : decode cX9_notCover 8 = .ok (.invokestatic 203, 3) := by decide +kernel
theorem dX9_notCover_11 : decode cX9_notCover 11 = .ok (.ifCond .ne 7, 3) := by decide +kernel
theorem dX9_notCover_14 : decode cX9_notCover 14 = .ok (.iconst (-1), 1) := by decide +kernel
theorem dX9_notCover_15 : decode cX9_notCover 15 = .ok (.goto 12, 3) := by decide +kernel
theorem dX9_notCover_18 : decode cX9_notCover 18 = .ok (.iload_n 2, 1) := by decide +kernel
theorem dX9_notCover_19 : decode cX9_notCover 19 = .ok (.i2l, 1) := by decide +kernel
theorem dX9_notCover_20 : decode cX9_notCover 20 = .ok (.lconst 0, 1) := by decide +kernel
theorem dX9_notCover_21 : decode cX9_notCover 21 = .ok (.ldc2_w 376, 3) := by decide +kernel
theorem dX9_notCover_24 : decode cX9_notCover 24 = .ok (.invokestatic 188, 3) := by decide +kernel
theorem dX9_notCover_27 : decode cX9_notCover 27 = .ok (.ireturn, 1) := by decide +kernel
theorem dX9_cover_0 : decode cX9_cover 0 = .ok (.aload_n 0, 1) := by decide +kernel
theorem dX9_cover_1 : decode cX9_cover 1 = .ok (.iload_n 1, 1) := by decide +kernel
theorem dX9_cover_2 : decode cX9_cover 2 = .ok (.iload_n 2, 1) := by decide +kernel
theorem dX9_cover_3 : decode cX9_cover 3 = .ok (.invokevirtual 378, 3) := by decide +kernel
theorem dX9_cover_6 : decode cX9_cover 6 = .ok (.istore_n 3, 1) := by decide +kernel
theorem dX9_cover_7 : decode cX9_cover 7 = .ok (.iload_n 3, 1) := by decide +kernel
theorem dX9_cover_8 : decode cX9_cover 8 = .ok (.ifCond .eq 9, 3) := by decide +kernel
theorem dX9_cover_11 : decode cX9_cover 11 = .ok (.aload_n 0, 1) := by decide +kernel
theorem dX9_cover_12 : decode cX9_cover 12 = .ok (.iload_n 3, 1) := by decide +kernel
theorem dX9_cover_13 : decode cX9_cover 13 = .ok (.invokevirtual 192, 3) := by decide +kernel
theorem dX9_cover_16 : decode cX9_cover 16 = .ok (.ireturn, 1) := by decide +kernel
theorem dX9_cover_17 : decode cX9_cover 17 = .ok (.iconst 0, 1) := by decide +kernel
theorem dX9_cover_18 : decode cX9_cover 18 = .ok (.istore 4, 2) := by decide +kernel
theorem dX9_cover_20 : decode cX9_cover 20 = .ok (.iconst 0, 1) := by decide +kernel
theorem dX9_cover_21 : decode cX9_cover 21 = .ok (.istore 5, 2) := by decide +kernel
theorem dX9_cover_23 : decode cX9_cover 23 = .ok (.iload 5, 2) := by decide +kernel
theorem dX9_cover_25 : decode cX9_cover 25 = .ok (.aload_n 0, 1) := by decide +kernel
theorem dX9_cover_26 : decode cX9_cover 26 = .ok (.getfield 220, 3) := by decide +kernel
theorem dX9_cover_29 : decode cX9_cover 29 = .ok (.if_icmp .ge 30, 3) := by decide +kernel
theorem dX9_cover_32 : decode cX9_cover 32 = .ok (.iload 4, 2) := by decide +kernel
theorem dX9_cover_34 : decode cX9_cover 34 = .ok (.aload_n 0, 1) := by decide +kernel
theorem dX9_cover_35 : decode cX9_cover 35 = .ok (.iload 5, 2) := by decide +kernel
theorem dX9_cover_37 : decode cX9_cover 37 = .ok (.iload_n 1, 1) := by decide +kernel
theorem dX9_cover_38 : decode cX9_cover 38 = .ok (.iload_n 2, 1) := by decide +kernel
theorem dX9_cover_39 : decode cX9_cover 39 = .ok (.invokevirtual 381, 3) := by decide +kernel
theorem dX9_cover_42 : decode cX9_cover 42 = .ok (.ifCond .eq 7, 3) := by decide +kernel
theorem dX9_cover_45 : decode cX9_cover 45 = .ok (.iconst 1, 1) := by decide +kernel
theorem dX9_cover_46 : decode cX9_cover 46 = .ok (.goto 4, 3) := by decide +kernel
theorem dX9_cover_49 : decode cX9_cover 49 = .ok (.iconst 0, 1) := by decide +kernel
theorem dX9_cover_50 : decode cX9_cover 50 = .ok (.iadd, 1) := by decide +kernel
theorem dX9_cover_51 : decode cX9_cover 51 = .ok (.istore 4, 2) := by decide +kernel
theorem dX9_cover_53 : decode cX9_cover 53 = .ok (.iinc 5 1, 3) := by decide +kernel
theorem dX9_cover_56 : decode cX9_cover 56 = .ok (.goto (-33), 3) := by decide +kernel
theorem dX9_cover_59 : decode cX9_cover 59 = .ok (.iload 4, 2) := by decide +kernel
theorem dX9_cover_61 : decode cX9_cover 61 = .ok (.ireturn, 1) := by decide +kernel
theorem dX9_sure_0 : decode cX9_sure 0 = .ok (.aload_n 0, 1) := by decide +kernel
theorem dX9_sure_1 : decode cX9_sure 1 = .ok (.iload_n 1, 1) := by decide +kernel
theorem dX9_sure_2 : decode cX9_sure 2 = .ok (.iload_n 2, 1) := by decide +kernel
theorem dX9_sure_3 : decode cX9_sure 3 = .ok (.invokevirtual 378, 3) := by decide +kernel
theorem dX9_sure_6 : decode cX9_sure 6 = .ok (.istore_n 3, 1) := by decide +kernel
theorem dX9_sure_7 : decode cX9_sure 7 = .ok (.iload_n 3, 1) := by decide +kernel
theorem dX9_sure_8 : decode cX9_sure 8 = .ok (.ifCond .eq 9, 3) := by decide +kernel
theorem dX9_sure_11 : decode cX9_sure 11 = .ok (.aload_n 0, 1) := by decide +kernel
theorem dX9_sure_12 : decode cX9_sure 12 = .ok (.iload_n 3, 1) := by decide +kernel
theorem dX9_sure_13 : decode cX9_sure 13 = .ok (.invokevirtual 192, 3) := by decide +kernel
theorem dX9_sure_16 : decode cX9_sure 16 = .ok (.ireturn, 1) := by decide +kernel
theorem dX9_sure_17 : decode cX9_sure 17 = .ok (.bipush (-9), 2) := by decide +kernel
theorem dX9_sure_19 : decode cX9_sure 19 = .ok (.istore 4, 2) := by decide +kernel
theorem dX9_sure_21 : decode cX9_sure 21 = .ok (.iconst 0, 1) := by decide +kernel
theorem dX9_sure_22 : decode cX9_sure 22 = .ok (.istore 5, 2) := by decide +kernel
theorem dX9_sure_24 : decode cX9_sure 24 = .ok (.iload 5, 2) := by decide +kernel
theorem dX9_sure_26 : decode cX9_sure 26 = .ok (.aload_n 0, 1) := by decide +kernel
theorem dX9_sure_27 : decode cX9_sure 27 = .ok (.getfield 220, 3) := by decide +kernel
theorem dX9_sure_30 : decode cX9_sure 30 = .ok (.if_icmp .ge 35, 3) := by decide +kernel
theorem dX9_sure_33 : decode cX9_sure 33 = .ok (.aload_n 0, 1) := by decide +kernel
theorem dX9_sure_34 : decode cX9_sure 34 = .ok (.iload 5, 2) := by decide +kernel
theorem dX9_sure_36 : decode cX9_sure 36 = .ok (.iload_n 1, 1) := by decide +kernel
theorem dX9_sure_37 : decode cX9_sure 37 = .ok (.iload_n 2, 1) := by decide +kernel
theorem dX9_sure_38 : decode cX9_sure 38 = .ok (.invokevirtual 381, 3) := by decide +kernel
theorem dX9_sure_41 : decode cX9_sure 41 = .ok (.ifCond .ne 6, 3) := by decide +kernel
theorem dX9_sure_44 : decode cX9_sure 44 = .ok (.goto 15, 3) := by decide +kernel
theorem dX9_sure_47 : decode cX9_sure 47 = .ok (.iload 4, 2) := by decide +kernel
theorem dX9_sure_49 : decode cX9_sure 49 = .ok (.ifCond .lt 6, 3) := by decide +kernel
theorem dX9_sure_52 : decode cX9_sure 52 = .ok (.bipush (-9), 2) := by decide +kernel
theorem dX9_sure_54 : decode cX9_sure 54 = .ok (.ireturn, 1) := by decide +kernel
theorem dX9_sure_55 : decode cX9_sure 55 = .ok (.iload 5, 2) := by decide +kernel
theorem dX9_sure_57 : decode cX9_sure 57 = .ok (.istore 4, 2) := by decide +kernel
theorem dX9_sure_59 : decode cX9_sure 59 = .ok (.iinc 5 1, 3) := by decide +kernel
theorem dX9_sure_62 : decode cX9_sure 62 = .ok (.goto (-38), 3) := by decide +kernel
theorem dX9_sure_65 : decode cX9_sure 65 = .ok (.iload 4, 2) := by decide +kernel
theorem dX9_sure_67 : decode cX9_sure 67 = .ok (.ireturn, 1) := by decide +kernel
theorem dX9_sack_0 : decode cX9_sack 0 = .ok (.iload_n 1, 1) := by decide +kernel
theorem dX9_sack_1 : decode cX9_sack 1 = .ok (.iconst 1, 1) := by decide +kernel
theorem dX9_sack_2 : decode cX9_sack 2 = .ok (.if_icmp .lt 12, 3) := by decide +kernel
theorem dX9_sack_5 : decode cX9_sack 5 = .ok (.iload_n 2, 1) := by decide +kernel
theorem dX9_sack_6 : decode cX9_sack 6 = .ok (.iconst 1, 1) := by decide +kernel
theorem dX9_sack_7 : decode cX9_sack 7 = .ok (.if_icmp .lt 7, 3) := by decide +kernel
theorem dX9_sack_10 : decode cX9_sack 10 = .ok (.iload_n 3, 1) := by decide +kernel
theorem dX9_sack_11 : decode cX9_sack 11 = .ok (.ifCond .ge 8, 3) := by decide +kernel
theorem dX9_sack_14 : decode cX9_sack 14 = .ok (.bipush (-4), 2) := by decide +kernel
theorem dX9_sack_16 : decode cX9_sack 16 = .ok (.goto 38, 3) := by decide +kernel
theorem dX9_sack_19 : decode cX9_sack 19 = .ok (.iload_n 1, 1) := by decide +kernel
theorem dX9_sack_20 : decode cX9_sack 20 = .ok (.bipush 99, 2) := by decide +kernel
theorem dX9_sack_22 : decode cX9_sack 22 = .ok (.if_icmp .gt 26, 3) := by decide +kernel
theorem dX9_sack_25 : decode cX9_sack 25 = .ok (.iload_n 2, 1) := by decide +kernel
theorem dX9_sack_26 : decode cX9_sack 26 = .ok (.sipush 999, 3) := by decide +kernel
theorem dX9_sack_29 : decode cX9_sack 29 = .ok (.if_icmp .gt 19, 3) := by decide +kernel
theorem dX9_sack_32 : decode cX9_sack 32 = .ok (.iload_n 3, 1) := by decide +kernel
theorem dX9_sack_33 : decode cX9_sack 33 = .ok (.sipush 9999, 3) := by decide +kernel
theorem dX9_sack_36 : decode cX9_sack 36 = .ok (.if_icmp .gt 12, 3) := by decide +kernel
theorem dX9_sack_39 : decode cX9_sack 39 = .ok (.aload_n 0, 1) := by decide +kernel
theorem dX9_sack_40 : decode cX9_sack 40 = .ok (.getfield 384, 3) := by decide +kernel
theorem dX9_sack_43 : decode cX9_sack 43 = .ok (.bipush 7, 2) := by decide +kernel
theorem dX9_sack_45 : decode cX9_sack 45 = .ok (.if_icmp .ne 8, 3) := by decide +kernel
theorem dX9_sack_48 : decode cX9_sack 48 = .ok (.bipush (-6), 2) := by decide +kernel
theorem dX9_sack_50 : decode cX9_sack 50 = .ok (.goto 4, 3) := by decide +kernel
theorem dX9_sack_53 : decode cX9_sack 53 = .ok (.iconst 0, 1) := by decide +kernel
theorem dX9_sack_54 : decode cX9_sack 54 = .ok (.istore 4, 2) := by decide +kernel
theorem dX9_sack_56 : decode cX9_sack 56 = .ok (.iload 4, 2) := by decide +kernel
theorem dX9_sack_58 : decode cX9_sack 58 = .ok (.ifCond .eq 10, 3) := by decide +kernel
theorem dX9_sack_61 : decode cX9_sack 61 = .ok (.aload_n 0, 1) := by decide +kernel
theorem dX9_sack_62 : decode cX9_sack 62 = .ok (.iload 4, 2) := by decide +kernel
theorem dX9_sack_64 : decode cX9_sack 64 = .ok (.invokevirtual 192, 3) := by decide +kernel
theorem dX9_sack_67 : decode cX9_sack 67 = .ok (.ireturn, 1) := by decide +kernel
theorem dX9_sack_68 : decode cX9_sack 68 = .ok (.aload_n 0, 1) := by decide +kernel
theorem dX9_sack_69 : decode cX9_sack 69 = .ok (.getfield 171, 3) := by decide +kernel
theorem dX9_sack_72 : decode cX9_sack 72 = .ok (.aload_n 0, 1) := by decide +kernel
theorem dX9_sack_73 : decode cX9_sack 73 = .ok (.getfield 384, 3) := by decide +kernel
theorem dX9_sack_76 : decode cX9_sack 76 = .ok (.iload_n 1, 1) := by decide +kernel
theorem dX9_sack_77 : decode cX9_sack 77 = .ok (.iastore, 1) := by decide +kernel
theorem dX9_sack_78 : decode cX9_sack 78 = .ok (.aload_n 0, 1) := by decide +kernel
theorem dX9_sack_79 : decode cX9_sack 79 = .ok (.getfield 174, 3) := by decide +kernel
theorem dX9_sack_82 : decode cX9_sack 82 = .ok (.aload_n 0, 1) := by decide +kernel
theorem dX9_sack_83 : decode cX9_sack 83 = .ok (.getfield 384, 3) := by decide +kernel
theorem dX9_sack_86 : decode cX9_sack 86 = .ok (.iload_n 2, 1) := by decide +kernel
theorem dX9_sack_87 : decode cX9_sack 87 = .ok (.iastore, 1) := by decide +kernel
theorem dX9_sack_88 : decode cX9_sack 88 = .ok (.aload_n 0, 1) := by decide +kernel
theorem dX9_sack_89 : decode cX9_sack 89 = .ok (.getfield 177, 3) := by decide +kernel
theorem dX9_sack_92 : decode cX9_sack 92 = .ok (.aload_n 0, 1) := by decide +kernel
theorem dX9_sack_93 : decode cX9_sack 93 = .ok (.getfield 384, 3) := by decide +kernel
theorem dX9_sack_96 : decode cX9_sack 96 = .ok (.iload_n 3, 1) := by decide +kernel
theorem dX9_sack_97 : decode cX9_sack 97 = .ok (.iastore, 1) := by decide +kernel
theorem dX9_sack_98 : decode cX9_sack 98 = .ok (.aload_n 0, 1) := by decide +kernel
theorem dX9_sack_99 : decode cX9_sack 99 = .ok (.dup, 1) := by decide +kernel
theorem dX9_sack_100 : decode cX9_sack 100 = .ok (.getfield 384, 3) := by decide +kernel
theorem dX9_sack_103 : decode cX9_sack 103 = .ok (.iconst 1, 1) := by decide +kernel
theorem dX9_sack_104 : decode cX9_sack 104 = .ok (.iadd, 1) := by decide +kernel
theorem dX9_sack_105 : decode cX9_sack 105 = .ok (.putfield 384, 3) := by decide +kernel
theorem dX9_sack_108 : decode cX9_sack 108 = .ok (.aload_n 0, 1) := by decide +kernel
theorem dX9_sack_109 : decode cX9_sack 109 = .ok (.getfield 384, 3) := by decide +kernel
theorem dX9_sack_112 : decode cX9_sack 112 = .ok (.iconst 1, 1) := by decide +kernel
theorem dX9_sack_113 : decode cX9_sack 113 = .ok (.isub, 1) := by decide +kernel
theorem dX9_sack_114 : decode cX9_sack 114 = .ok (.ireturn, 1) := by decide +kernel
theorem dX9_canBe_0 : decode cX9_canBe 0 = .ok (.iconst 0, 1) := by decide +kernel
theorem dX9_canBe_1 : decode cX9_canBe 1 = .ok (.istore_n 2, 1) := by decide +kernel
theorem dX9_canBe_2 : decode cX9_canBe 2 = .ok (.iload_n 2, 1) := by decide +kernel
theorem dX9_canBe_3 : decode cX9_canBe 3 = .ok (.aload_n 0, 1) := by decide +kernel
theorem dX9_canBe_4 : decode cX9_canBe 4 = .ok (.getfield 384, 3) := by decide +kernel
theorem dX9_canBe_7 : decode cX9_canBe 7 = .ok (.if_icmp .ge 124, 3) := by decide +kernel
theorem dX9_canBe_10 : decode cX9_canBe 10 = .ok (.iconst 0, 1) := by decide +kernel
theorem dX9_canBe_11 : decode cX9_canBe 11 = .ok (.istore_n 3, 1) := by decide +kernel
theorem dX9_canBe_12 : decode cX9_canBe 12 = .ok (.iconst 0, 1) := by decide +kernel
theorem dX9_canBe_13 : decode cX9_canBe 13 = .ok (.istore 4, 2) := by decide +kernel
theorem dX9_canBe_15 : decode cX9_canBe 15 = .ok (.iload 4, 2) := by decide +kernel
theorem dX9_canBe_17 : decode cX9_canBe 17 = .ok (.aload_n 0, 1) := by decide +kernel
theorem dX9_canBe_18 : decode cX9_canBe 18 = .ok (.getfield 384, 3) := by decide +kernel
theorem dX9_canBe_21 : decode cX9_canBe 21 = .ok (.if_icmp .ge 83, 3) := by decide +kernel
theorem dX9_canBe_24 : decode cX9_canBe 24 = .ok (.aload_n 0, 1) := by decide +kernel
theorem dX9_canBe_25 : decode cX9_canBe 25 = .ok (.getfield 174, 3) := by decide +kernel
theorem dX9_canBe_28 : decode cX9_canBe 28 = .ok (.iload 4, 2) := by decide +kernel
theorem dX9_canBe_30 : decode cX9_canBe 30 = .ok (.iaload, 1) := by decide +kernel
theorem dX9_canBe_31 : decode cX9_canBe 31 = .ok (.aload_n 0, 1) := by decide +kernel
theorem dX9_canBe_32 : decode cX9_canBe 32 = .ok (.getfield 174, 3) := by decide +kernel
theorem dX9_canBe_35 : decode cX9_canBe 35 = .ok (.iload_n 2, 1) := by decide +kernel
theorem dX9_canBe_36 : decode cX9_canBe 36 = .ok (.iaload, 1) := by decide +kernel
theorem dX9_canBe_37 : decode cX9_canBe 37 = .ok (.if_icmp .lt 25, 3) := by decide +kernel
theorem dX9_canBe_40 : decode cX9_canBe 40 = .ok (.aload_n 0, 1) := by decide +kernel
theorem dX9_canBe_41 : decode cX9_canBe 41 = .ok (.getfield 174, 3) := by decide +kernel
theorem dX9_canBe_44 : decode cX9_canBe 44 = .ok (.iload 4, 2) := by decide +kernel
theorem dX9_canBe_46 : decode cX9_canBe 46 = .ok (.iaload, 1) := by decide +kernel
theorem dX9_canBe_47 : decode cX9_canBe 47 = .ok (.aload_n 0, 1) := by decide +kernel
theorem dX9_canBe_48 : decode cX9_canBe 48 = .ok (.getfield 174, 3) := by decide +kernel
theorem dX9_canBe_51 : decode cX9_canBe 51 = .ok (.iload_n 2, 1) := by decide +kernel
theorem dX9_canBe_52 : decode cX9_canBe 52 = .ok (.iaload, 1) := by decide +kernel
theorem dX9_canBe_53 : decode cX9_canBe 53 = .ok (.if_icmp .ne 13, 3) := by decide +kernel
theorem dX9_canBe_56 : decode cX9_canBe 56 = .ok (.iload 4, 2) := by decide +kernel
theorem dX9_canBe_58 : decode cX9_canBe 58 = .ok (.iload_n 2, 1) := by decide +kernel
theorem dX9_canBe_59 : decode cX9_canBe 59 = .ok (.if_icmp .gt 7, 3) := by decide +kernel
theorem dX9_canBe_62 : decode cX9_canBe 62 = .ok (.iconst 1, 1) := by decide +kernel
theorem dX9_canBe_63 : decode cX9_canBe 63 = .ok (.goto 4, 3) := by decide +kernel
theorem dX9_canBe_66 : decode cX9_canBe 66 = .ok (.iconst 0, 1) := by decide +kernel
theorem dX9_canBe_67 : decode cX9_canBe 67 = .ok (.istore 5, 2) := by decide +kernel
theorem dX9_canBe_69 : decode cX9_canBe 69 = .ok (.iload_n 3, 1) := by decide +kernel
theorem dX9_canBe_70 : decode cX9_canBe 70 = .ok (.iload_n 1, 1) := by decide +kernel
theorem dX9_canBe_71 : decode cX9_canBe 71 = .ok (.iload 4, 2) := by decide +kernel
theorem dX9_canBe_73 : decode cX9_canBe 73 = .ok (.ishr, 1) := by decide +kernel
theorem dX9_canBe_74 : decode cX9_canBe 74 = .ok (.iconst 1, 1) := by decide +kernel
theorem dX9_canBe_75 : decode cX9_canBe 75 = .ok (.iand, 1) := by decide +kernel
theorem dX9_canBe_76 : decode cX9_canBe 76 = .ok (.iconst 1, 1) := by decide +kernel
theorem dX9_canBe_77 : decode cX9_canBe 77 = .ok (.if_icmp .ne 18, 3) := by decide +kernel
theorem dX9_canBe_80 : decode cX9_canBe 80 = .ok (.iload 5, 2) := by decide +kernel
theorem dX9_canBe_82 : decode cX9_canBe 82 = .ok (.ifCond .eq 13, 3) := by decide +kernel
theorem dX9_canBe_85 : decode cX9_canBe 85 = .ok (.aload_n 0, 1) := by decide +kernel
theorem dX9_canBe_86 : decode cX9_canBe 86 = .ok (.getfield 171, 3) := by decide +kernel
theorem dX9_canBe_89 : decode cX9_canBe 89 = .ok (.iload 4, 2) := by decide +kernel
theorem dX9_canBe_91 : decode cX9_canBe 91 = .ok (.iaload, 1) := by decide +kernel
theorem dX9_canBe_92 : decode cX9_canBe 92 = .ok (.goto 4, 3) := by decide +kernel
theorem dX9_canBe_95 : decode cX9_canBe 95 = .ok (.iconst 0, 1) := by decide +kernel
theorem dX9_canBe_96 : decode cX9_canBe 96 = .ok (.iadd, 1) := by decide +kernel
theorem dX9_canBe_97 : decode cX9_canBe 97 = .ok (.istore_n 3, 1) := by decide +kernel
theorem dX9_canBe_98 : decode cX9_canBe 98 = .ok (.iinc 4 1, 3) := by decide +kernel
theorem dX9_canBe_101 : decode cX9_canBe 101 = .ok (.goto (-86), 3) := by decide +kernel
theorem dX9_canBe_104 : decode cX9_canBe 104 = .ok (.iload_n 1, 1) := by decide +kernel
theorem dX9_canBe_105 : decode cX9_canBe 105 = .ok (.iload_n 2, 1) := by decide +kernel
theorem dX9_canBe_106 : decode cX9_canBe 106 = .ok (.ishr, 1) := by decide +kernel
theorem dX9_canBe_107 : decode cX9_canBe 107 = .ok (.iconst 1, 1) := by decide +kernel
theorem dX9_canBe_108 : decode cX9_canBe 108 = .ok (.iand, 1) := by decide +kernel
theorem dX9_canBe_109 : decode cX9_canBe 109 = .ok (.iconst 1, 1) := by decide +kernel
theorem dX9_canBe_110 : decode cX9_canBe 110 = .ok (.if_icmp .ne 15, 3) := by decide +kernel
theorem dX9_canBe_113 : decode cX9_canBe 113 = .ok (.iload_n 3, 1) := by decide +kernel
theorem dX9_canBe_114 : decode cX9_canBe 114 = .ok (.aload_n 0, 1) := by decide +kernel
theorem dX9_canBe_115 : decode cX9_canBe 115 = .ok (.getfield 174, 3) := by decide +kernel
theorem dX9_canBe_118 : decode cX9_canBe 118 = .ok (.iload_n 2, 1) := by decide +kernel
theorem dX9_canBe_119 : decode cX9_canBe 119 = .ok (.iaload, 1) := by decide +kernel
theorem dX9_canBe_120 : decode cX9_canBe 120 = .ok (.if_icmp .le 5, 3) := by decide +kernel
theorem dX9_canBe_123 : decode cX9_canBe 123 = .ok (.iconst 0, 1) := by decide +kernel
theorem dX9_canBe_124 : decode cX9_canBe 124 = .ok (.ireturn, 1) := by decide +kernel
theorem dX9_canBe_125 : decode cX9_canBe 125 = .ok (.iinc 2 1, 3) := by decide +kernel
theorem dX9_canBe_128 : decode cX9_canBe 128 = .ok (.goto (-126), 3) := by decide +kernel
theorem dX9_canBe_131 : decode cX9_canBe 131 = .ok (.iconst 1, 1) := by decide +kernel
theorem dX9_canBe_132 : decode cX9_canBe 132 = .ok (.ireturn, 1) := by decide +kernel
theorem dX9_findBest_0 : decode cX9_findBest 0 = .ok (.aload_n 0, 1) := by decide +kernel
theorem dX9_findBest_1 : decode cX9_findBest 1 = .ok (.iconst 0, 1) := by decide +kernel
theorem dX9_findBest_2 : decode cX9_findBest 2 = .ok (.putfield 387, 3) := by decide +kernel
theorem dX9_findBest_5 : decode cX9_findBest 5 = .ok (.aload_n 0, 1) := by decide +kernel
theorem dX9_findBest_6 : decode cX9_findBest 6 = .ok (.iconst 0, 1) := by decide +kernel
theorem dX9_findBest_7 : decode cX9_findBest 7 = .ok (.putfield 390, 3) := by decide +kernel
theorem dX9_findBest_10 : decode cX9_findBest 10 = .ok (.aload_n 0, 1) := by decide +kernel
theorem dX9_findBest_11 : decode cX9_findBest 11 = .ok (.iconst 0, 1) := by decide +kernel
theorem dX9_findBest_12 : decode cX9_findBest 12 = .ok (.putfield 393, 3) := by decide +kernel
theorem dX9_findBest_15 : decode cX9_findBest 15 = .ok (.iconst 1, 1) := by decide +kernel
theorem dX9_findBest_16 : decode cX9_findBest 16 = .ok (.istore_n 1, 1) := by decide +kernel
theorem dX9_findBest_17 : decode cX9_findBest 17 = .ok (.iload_n 1, 1) := by decide +kernel
theorem dX9_findBest_18 : decode cX9_findBest 18 = .ok (.iconst 1, 1) := by decide +kernel
theorem dX9_findBest_19 : decode cX9_findBest 19 = .ok (.aload_n 0, 1) := by decide +kernel
theorem dX9_findBest_20 : decode cX9_findBest 20 = .ok (.getfield 384, 3) := by decide +kernel
theorem dX9_findBest_23 : decode cX9_findBest 23 = .ok (.ishl, 1) := by decide +kernel
theorem dX9_findBest_24 : decode cX9_findBest 24 = .ok (.if_icmp .ge 118, 3) := by decide +kernel
theorem dX9_findBest_27 : decode cX9_findBest 27 = .ok (.aload_n 0, 1) := by decide +kernel
theorem dX9_findBest_28 : decode cX9_findBest 28 = .ok (.iload_n 1, 1) := by decide +kernel
theorem dX9_findBest_29 : decode cX9_findBest 29 = .ok (.invokevirtual 396, 3) := by decide +kernel
theorem dX9_findBest_32 : decode cX9_findBest 32 = .ok (.ifCond .ne 6, 3) := by decide +kernel
theorem dX9_findBest_35 : decode cX9_findBest 35 = .ok (.goto 101, 3) := by decide +kernel
theorem dX9_findBest_38 : decode cX9_findBest 38 = .ok (.iconst 0, 1) := by decide +kernel
theorem dX9_findBest_39 : decode cX9_findBest 39 = .ok (.istore_n 2, 1) := by decide +kernel
theorem dX9_findBest_40 : decode cX9_findBest 40 = .ok (.iconst 0, 1) := by decide +kernel
theorem dX9_findBest_41 : decode cX9_findBest 41 = .ok (.istore_n 3, 1) := by decide +kernel
theorem dX9_findBest_42 : decode cX9_findBest 42 = .ok (.iconst 0, 1) := by decide +kernel
theorem dX9_findBest_43 : decode cX9_findBest 43 = .ok (.istore 4, 2) := by decide +kernel
theorem dX9_findBest_45 : decode cX9_findBest 45 = .ok (.iload 4, 2) := by decide +kernel
theorem dX9_findBest_47 : decode cX9_findBest 47 = .ok (.aload_n 0, 1) := by decide +kernel
theorem dX9_findBest_48 : decode cX9_findBest 48 = .ok (.getfield 384, 3) := by decide +kernel
theorem dX9_findBest_51 : decode cX9_findBest 51 = .ok (.if_icmp .ge 43, 3) := by decide +kernel
theorem dX9_findBest_54 : decode cX9_findBest 54 = .ok (.iload_n 2, 1) := by decide +kernel
theorem dX9_findBest_55 : decode cX9_findBest 55 = .ok (.iload_n 1, 1) := by decide +kernel
theorem dX9_findBest_56 : decode cX9_findBest 56 = .ok (.iload 4, 2) := by decide +kernel
theorem dX9_findBest_58 : decode cX9_findBest 58 = .ok (.ishr, 1) := by decide +kernel
theorem dX9_findBest_59 : decode cX9_findBest 59 = .ok (.iconst 1, 1) := by decide +kernel
theorem dX9_findBest_60 : decode cX9_findBest 60 = .ok (.iand, 1) := by decide +kernel
theorem dX9_findBest_61 : decode cX9_findBest 61 = .ok (.aload_n 0, 1) := by decide +kernel
theorem dX9_findBest_62 : decode cX9_findBest 62 = .ok (.getfield 177, 3) := by decide +kernel
theorem dX9_findBest_65 : decode cX9_findBest 65 = .ok (.iload 4, 2) := by decide +kernel
theorem dX9_findBest_67 : decode cX9_findBest 67 = .ok (.iaload, 1) := by decide +kernel
theorem dX9_findBest_68 : decode cX9_findBest 68 = .ok (.imul, 1) := by decide +kernel
theorem dX9_findBest_69 : decode cX9_findBest 69 = .ok (.iadd, 1) := by decide +kernel
theorem dX9_findBest_70 : decode cX9_findBest 70 = .ok (.istore_n 2, 1) := by decide +kernel
theorem dX9_findBest_71 : decode cX9_findBest 71 = .ok (.iload_n 3, 1) := by decide +kernel
theorem dX9_findBest_72 : decode cX9_findBest 72 = .ok (.iload_n 1, 1) := by decide +kernel
theorem dX9_findBest_73 : decode cX9_findBest 73 = .ok (.iload 4, 2) := by decide +kernel
theorem dX9_findBest_75 : decode cX9_findBest 75 = .ok (.ishr, 1) := by decide +kernel
theorem dX9_findBest_76 : decode cX9_findBest 76 = .ok (.iconst 1, 1) := by decide +kernel
theorem dX9_findBest_77 : decode cX9_findBest 77 = .ok (.iand, 1) := by decide +kernel
theorem dX9_findBest_78 : decode cX9_findBest 78 = .ok (.aload_n 0, 1) := by decide +kernel
theorem dX9_findBest_79 : decode cX9_findBest 79 = .ok (.getfield 171, 3) := by decide +kernel
theorem dX9_findBest_82 : decode cX9_findBest 82 = .ok (.iload 4, 2) := by decide +kernel
theorem dX9_findBest_84 : decode cX9_findBest 84 = .ok (.iaload, 1) := by decide +kernel
theorem dX9_findBest_85 : decode cX9_findBest 85 = .ok (.imul, 1) := by decide +kernel
theorem dX9_findBest_86 : decode cX9_findBest 86 = .ok (.iadd, 1) := by decide +kernel
theorem dX9_findBest_87 : decode cX9_findBest 87 = .ok (.istore_n 3, 1) := by decide +kernel
theorem dX9_findBest_88 : decode cX9_findBest 88 = .ok (.iinc 4 1, 3) := by decide +kernel
theorem dX9_findBest_91 : decode cX9_findBest 91 = .ok (.goto (-46), 3) := by decide +kernel
theorem dX9_findBest_94 : decode cX9_findBest 94 = .ok (.iload_n 2, 1) := by decide +kernel
theorem dX9_findBest_95 : decode cX9_findBest 95 = .ok (.aload_n 0, 1) := by decide +kernel
theorem dX9_findBest_96 : decode cX9_findBest 96 = .ok (.getfield 390, 3) := by decide +kernel
theorem dX9_findBest_99 : decode cX9_findBest 99 = .ok (.if_icmp .lt 37, 3) := by decide +kernel
theorem dX9_findBest_102 : decode cX9_findBest 102 = .ok (.iload_n 2, 1) := by decide +kernel
theorem dX9_findBest_103 : decode cX9_findBest 103 = .ok (.aload_n 0, 1) := by decide +kernel
theorem dX9_findBest_104 : decode cX9_findBest 104 = .ok (.getfield 390, 3) := by decide +kernel
theorem dX9_findBest_107 : decode cX9_findBest 107 = .ok (.if_icmp .ne 14, 3) := by decide +kernel
theorem dX9_findBest_110 : decode cX9_findBest 110 = .ok (.iload_n 3, 1) := by decide +kernel
theorem dX9_findBest_111 : decode cX9_findBest 111 = .ok (.aload_n 0, 1) := by decide +kernel
theorem dX9_findBest_112 : decode cX9_findBest 112 = .ok (.getfield 393, 3) := by decide +kernel
theorem dX9_findBest_115 : decode cX9_findBest 115 = .ok (.if_icmp .lt 6, 3) := by decide +kernel
theorem dX9_findBest_118 : decode cX9_findBest 118 = .ok (.goto 18, 3) := by decide +kernel
theorem dX9_findBest_121 : decode cX9_findBest 121 = .ok (.aload_n 0, 1) := by decide +kernel
theorem dX9_findBest_122 : decode cX9_findBest 122 = .ok (.iload_n 1, 1) := by decide +kernel
theorem dX9_findBest_123 : decode cX9_findBest 123 = .ok (.putfield 387, 3) := by decide +kernel
theorem dX9_findBest_126 : decode cX9_findBest 126 = .ok (.aload_n 0, 1) := by decide +kernel
theorem dX9_findBest_127 : decode cX9_findBest 127 = .ok (.iload_n 2, 1) := by decide +kernel
theorem dX9_findBest_128 : decode cX9_findBest 128 = .ok (.putfield 390, 3) := by decide +kernel
theorem dX9_findBest_131 : decode cX9_findBest 131 = .ok (.aload_n 0, 1) := by decide +kernel
theorem dX9_findBest_132 : decode cX9_findBest 132 = .ok (.iload_n 3, 1) := by decide +kernel
theorem dX9_findBest_133 : decode cX9_findBest 133 = .ok (.putfield 393, 3) := by decide +kernel
theorem dX9_findBest_136 : decode cX9_findBest 136 = .ok (.iinc 1 1, 3) := by decide +kernel
theorem dX9_findBest_139 : decode cX9_findBest 139 = .ok (.goto (-122), 3) := by decide +kernel
theorem dX9_findBest_142 : decode cX9_findBest 142 = .ok (.return_, 1) := by decide +kernel
theorem dX9_best_0 : decode cX9_best 0 = .ok (.iload_n 1, 1) := by decide +kernel
theorem dX9_best_1 : decode cX9_best 1 = .ok (.i2l, 1) := by decide +kernel
theorem dX9_best_2 : decode cX9_best 2 = .ok (.lconst 0, 1) := by decide +kernel
theorem dX9_best_3 : decode cX9_best 3 = .ok (.ldc2_w 262, 3) := by decide +kernel
theorem dX9_best_6 : decode cX9_best 6 = .ok (.invokestatic 203, 3) := by decide +kernel
theorem dX9_best_9 : decode cX9_best 9 = .ok (.ifCond .ne 10, 3) := by decide +kernel
theorem dX9_best_12 : decode cX9_best 12 = .ok (.aload_n 0, 1) := by decide +kernel
theorem dX9_best_13 : decode cX9_best 13 = .ok (.bipush (-2), 2) := by decide +kernel
theorem dX9_best_15 : decode cX9_best 15 = .ok (.invokevirtual 192, 3) := by decide +kernel
theorem dX9_best_18 : decode cX9_best 18 = .ok (.ireturn, 1) := by decide +kernel
theorem dX9_best_19 : decode cX9_best 19 = .ok (.aload_n 0, 1) := by decide +kernel
theorem dX9_best_20 : decode cX9_best 20 = .ok (.invokevirtual 399, 3) := by decide +kernel
theorem dX9_best_23 : decode cX9_best 23 = .ok (.iload_n 1, 1) := by decide +kernel
theorem dX9_best_24 : decode cX9_best 24 = .ok (.ifCond .ne 10, 3) := by decide +kernel
theorem dX9_best_27 : decode cX9_best 27 = .ok (.aload_n 0, 1) := by decide +kernel
theorem dX9_best_28 : decode cX9_best 28 = .ok (.getfield 387, 3) := by decide +kernel
theorem dX9_best_31 : decode cX9_best 31 = .ok (.goto 19, 3) := by decide +kernel
theorem dX9_best_34 : decode cX9_best 34 = .ok (.iload_n 1, 1) := by decide +kernel
theorem dX9_best_35 : decode cX9_best 35 = .ok (.iconst 1, 1) := by decide +kernel
theorem dX9_best_36 : decode cX9_best 36 = .ok (.if_icmp .ne 10, 3) := by decide +kernel
theorem dX9_best_39 : decode cX9_best 39 = .ok (.aload_n 0, 1) := by decide +kernel
theorem dX9_best_40 : decode cX9_best 40 = .ok (.getfield 390, 3) := by decide +kernel
theorem dX9_best_43 : decode cX9_best 43 = .ok (.goto 7, 3) := by decide +kernel
theorem dX9_best_46 : decode cX9_best 46 = .ok (.aload_n 0, 1) := by decide +kernel
theorem dX9_best_47 : decode cX9_best 47 = .ok (.getfield 393, 3) := by decide +kernel
theorem dX9_best_50 : decode cX9_best 50 = .ok (.ireturn, 1) := by decide +kernel
theorem dX9_put_0 : decode cX9_put 0 = .ok (.iload_n 1, 1) := by decide +kernel
theorem dX9_put_1 : decode cX9_put 1 = .ok (.i2l, 1) := by decide +kernel
theorem dX9_put_2 : decode cX9_put 2 = .ok (.ldc2_w 402, 3) := by decide +kernel
theorem dX9_put_5 : decode cX9_put 5 = .ok (.ldc2_w 404, 3) := by decide +kernel
theorem dX9_put_8 : decode cX9_put 8 = .ok (.invokestatic 188, 3) := by decide +kernel
theorem dX9_put_11 : decode cX9_put 11 = .ok (.istore_n 2, 1) := by decide +kernel
theorem dX9_put_12 : decode cX9_put 12 = .ok (.iload_n 2, 1) := by decide +kernel
theorem dX9_put_13 : decode cX9_put 13 = .ok (.ifCond .ne 15, 3) := by decide +kernel
theorem dX9_put_16 : decode cX9_put 16 = .ok (.aload_n 0, 1) := by decide +kernel
theorem dX9_put_17 : decode cX9_put 17 = .ok (.getfield 406, 3) := by decide +kernel
theorem dX9_put_20 : decode cX9_put 20 = .ok (.bipush 12, 2) := by decide +kernel
theorem dX9_put_22 : decode cX9_put 22 = .ok (.if_icmp .ne 6, 3) := by decide +kernel
theorem dX9_put_25 : decode cX9_put 25 = .ok (.bipush (-6), 2) := by decide +kernel
theorem dX9_put_27 : decode cX9_put 27 = .ok (.istore_n 2, 1) := by decide +kernel
theorem dX9_put_28 : decode cX9_put 28 = .ok (.iload_n 2, 1) := by decide +kernel
theorem dX9_put_29 : decode cX9_put 29 = .ok (.ifCond .eq 9, 3) := by decide +kernel
theorem dX9_put_32 : decode cX9_put 32 = .ok (.aload_n 0, 1) := by decide +kernel
theorem dX9_put_33 : decode cX9_put 33 = .ok (.iload_n 2, 1) := by decide +kernel
theorem dX9_put_34 : decode cX9_put 34 = .ok (.invokevirtual 192, 3) := by decide +kernel
theorem dX9_put_37 : decode cX9_put 37 = .ok (.ireturn, 1) := by decide +kernel
theorem dX9_put_38 : decode cX9_put 38 = .ok (.aload_n 0, 1) := by decide +kernel
theorem dX9_put_39 : decode cX9_put 39 = .ok (.getfield 180, 3) := by decide +kernel
theorem dX9_put_42 : decode cX9_put 42 = .ok (.aload_n 0, 1) := by decide +kernel
theorem dX9_put_43 : decode cX9_put 43 = .ok (.getfield 406, 3) := by decide +kernel
theorem dX9_put_46 : decode cX9_put 46 = .ok (.iload_n 1, 1) := by decide +kernel
theorem dX9_put_47 : decode cX9_put 47 = .ok (.iastore, 1) := by decide +kernel
theorem dX9_put_48 : decode cX9_put 48 = .ok (.aload_n 0, 1) := by decide +kernel
theorem dX9_put_49 : decode cX9_put 49 = .ok (.dup, 1) := by decide +kernel
theorem dX9_put_50 : decode cX9_put 50 = .ok (.getfield 406, 3) := by decide +kernel
theorem dX9_put_53 : decode cX9_put 53 = .ok (.iconst 1, 1) := by decide +kernel
theorem dX9_put_54 : decode cX9_put 54 = .ok (.iadd, 1) := by decide +kernel
theorem dX9_put_55 : decode cX9_put 55 = .ok (.putfield 406, 3) := by decide +kernel
theorem dX9_put_58 : decode cX9_put 58 = .ok (.aload_n 0, 1) := by decide +kernel
theorem dX9_put_59 : decode cX9_put 59 = .ok (.getfield 406, 3) := by decide +kernel
theorem dX9_put_62 : decode cX9_put 62 = .ok (.ireturn, 1) := by decide +kernel
theorem dX9_judge_0 : decode cX9_judge 0 = .ok (.iload_n 1, 1) := by decide +kernel
theorem dX9_judge_1 : decode cX9_judge 1 = .ok (.i2l, 1) := by decide +kernel
theorem dX9_judge_2 : decode cX9_judge 2 = .ok (.lconst 0, 1) := by decide +kernel
theorem dX9_judge_3 : decode cX9_judge 3 = .ok (.lconst 1, 1) := by decide +kernel
theorem dX9_judge_4 : decode cX9_judge 4 = .ok (.invokestatic 203, 3) := by decide +kernel
theorem dX9_judge_7 : decode cX9_judge 7 = .ok (.ifCond .ne 10, 3) := by decide +kernel
theorem dX9_judge_10 : decode cX9_judge 10 = .ok (.aload_n 0, 1) := by decide +kernel
theorem dX9_judge_11 : decode cX9_judge 11 = .ok (.bipush (-2), 2) := by decide +kernel
theorem dX9_judge_13 : decode cX9_judge 13 = .ok (.invokevirtual 192, 3) := by decide +kernel
theorem dX9_judge_16 : decode cX9_judge 16 = .ok (.ireturn, 1) := by decide +kernel
theorem dX9_judge_17 : decode cX9_judge 17 = .ok (.bipush (-9), 2) := by decide +kernel
theorem dX9_judge_19 : decode cX9_judge 19 = .ok (.istore_n 2, 1) := by decide +kernel
theorem dX9_judge_20 : decode cX9_judge 20 = .ok (.iconst 0, 1) := by decide +kernel
theorem dX9_judge_21 : decode cX9_judge 21 = .ok (.istore_n 3, 1) := by decide +kernel
theorem dX9_judge_22 : decode cX9_judge 22 = .ok (.iconst 0, 1) := by decide +kernel
theorem dX9_judge_23 : decode cX9_judge 23 = .ok (.istore 4, 2) := by decide +kernel
theorem dX9_judge_25 : decode cX9_judge 25 = .ok (.iconst 0, 1) := by decide +kernel
theorem dX9_judge_26 : decode cX9_judge 26 = .ok (.istore 5, 2) := by decide +kernel
theorem dX9_judge_28 : decode cX9_judge 28 = .ok (.iconst 0, 1) := by decide +kernel
theorem dX9_judge_29 : decode cX9_judge 29 = .ok (.istore 6, 2) := by decide +kernel
theorem dX9_judge_31 : decode cX9_judge 31 = .ok (.iload 6, 2) := by decide +kernel
theorem dX9_judge_33 : decode cX9_judge 33 = .ok (.aload_n 0, 1) := by decide +kernel
theorem dX9_judge_34 : decode cX9_judge 34 = .ok (.getfield 406, 3) := by decide +kernel
theorem dX9_judge_37 : decode cX9_judge 37 = .ok (.if_icmp .ge 106, 3) := by decide +kernel
theorem dX9_judge_40 : decode cX9_judge 40 = .ok (.iload_n 2, 1) := by decide +kernel
theorem dX9_judge_41 : decode cX9_judge 41 = .ok (.ifCond .ge 102, 3) := by decide +kernel
theorem dX9_judge_44 : decode cX9_judge 44 = .ok (.aload_n 0, 1) := by decide +kernel
theorem dX9_judge_45 : decode cX9_judge 45 = .ok (.getfield 180, 3) := by decide +kernel
theorem dX9_judge_48 : decode cX9_judge 48 = .ok (.iload 6, 2) := by decide +kernel
theorem dX9_judge_50 : decode cX9_judge 50 = .ok (.iaload, 1) := by decide +kernel
theorem dX9_judge_51 : decode cX9_judge 51 = .ok (.istore 7, 2) := by decide +kernel
theorem dX9_judge_53 : decode cX9_judge 53 = .ok (.iload 7, 2) := by decide +kernel
theorem dX9_judge_55 : decode cX9_judge 55 = .ok (.i2l, 1) := by decide +kernel
theorem dX9_judge_56 : decode cX9_judge 56 = .ok (.lconst 0, 1) := by decide +kernel
theorem dX9_judge_57 : decode cX9_judge 57 = .ok (.aload_n 0, 1) := by decide +kernel
theorem dX9_judge_58 : decode cX9_judge 58 = .ok (.getfield 384, 3) := by decide +kernel
theorem dX9_judge_61 : decode cX9_judge 61 = .ok (.iconst 1, 1) := by decide +kernel
theorem dX9_judge_62 : decode cX9_judge 62 = .ok (.isub, 1) := by decide +kernel
theorem dX9_judge_63 : decode cX9_judge 63 = .ok (.i2l, 1) := by decide +kernel
theorem dX9_judge_64 : decode cX9_judge 64 = .ok (.invokestatic 203, 3) := by decide +kernel
theorem dX9_judge_67 : decode cX9_judge 67 = .ok (.ifCond .eq 33, 3) := by decide +kernel
theorem dX9_judge_70 : decode cX9_judge 70 = .ok (.iload 5, 2) := by decide +kernel
theorem dX9_judge_72 : decode cX9_judge 72 = .ok (.iload 7, 2) := by decide +kernel
theorem dX9_judge_74 : decode cX9_judge 74 = .ok (.ishr, 1) := by decide +kernel
theorem dX9_judge_75 : decode cX9_judge 75 = .ok (.iconst 1, 1) := by decide +kernel
theorem dX9_judge_76 : decode cX9_judge 76 = .ok (.iand, 1) := by decide +kernel
theorem dX9_judge_77 : decode cX9_judge 77 = .ok (.iconst 1, 1) := by decide +kernel
theorem dX9_judge_78 : decode cX9_judge 78 = .ok (.if_icmp .eq 22, 3) := by decide +kernel
theorem dX9_judge_81 : decode cX9_judge 81 = .ok (.iload_n 3, 1) := by decide +kernel
theorem dX9_judge_82 : decode cX9_judge 82 = .ok (.aload_n 0, 1) := by decide +kernel
theorem dX9_judge_83 : decode cX9_judge 83 = .ok (.getfield 171, 3) := by decide +kernel
theorem dX9_judge_86 : decode cX9_judge 86 = .ok (.iload 7, 2) := by decide +kernel
theorem dX9_judge_88 : decode cX9_judge 88 = .ok (.iaload, 1) := by decide +kernel
theorem dX9_judge_89 : decode cX9_judge 89 = .ok (.iadd, 1) := by decide +kernel
theorem dX9_judge_90 : decode cX9_judge 90 = .ok (.aload_n 0, 1) := by decide +kernel
theorem dX9_judge_91 : decode cX9_judge 91 = .ok (.getfield 174, 3) := by decide +kernel
theorem dX9_judge_94 : decode cX9_judge 94 = .ok (.iload 7, 2) := by decide +kernel
theorem dX9_judge_96 : decode cX9_judge 96 = .ok (.iaload, 1) := by decide +kernel
theorem dX9_judge_97 : decode cX9_judge 97 = .ok (.if_icmp .le 9, 3) := by decide +kernel
theorem dX9_judge_100 : decode cX9_judge 100 = .ok (.iload 6, 2) := by decide +kernel
theorem dX9_judge_102 : decode cX9_judge 102 = .ok (.istore_n 2, 1) := by decide +kernel
theorem dX9_judge_103 : decode cX9_judge 103 = .ok (.goto 34, 3) := by decide +kernel
theorem dX9_judge_106 : decode cX9_judge 106 = .ok (.iload 5, 2) := by decide +kernel
theorem dX9_judge_108 : decode cX9_judge 108 = .ok (.iconst 1, 1) := by decide +kernel
theorem dX9_judge_109 : decode cX9_judge 109 = .ok (.iload 7, 2) := by decide +kernel
theorem dX9_judge_111 : decode cX9_judge 111 = .ok (.ishl, 1) := by decide +kernel
theorem dX9_judge_112 : decode cX9_judge 112 = .ok (.ior, 1) := by decide +kernel
theorem dX9_judge_113 : decode cX9_judge 113 = .ok (.istore 5, 2) := by decide +kernel
theorem dX9_judge_115 : decode cX9_judge 115 = .ok (.iload_n 3, 1) := by decide +kernel
theorem dX9_judge_116 : decode cX9_judge 116 = .ok (.aload_n 0, 1) := by decide +kernel
theorem dX9_judge_117 : decode cX9_judge 117 = .ok (.getfield 171, 3) := by decide +kernel
theorem dX9_judge_120 : decode cX9_judge 120 = .ok (.iload 7, 2) := by decide +kernel
theorem dX9_judge_122 : decode cX9_judge 122 = .ok (.iaload, 1) := by decide +kernel
theorem dX9_judge_123 : decode cX9_judge 123 = .ok (.iadd, 1) := by decide +kernel
theorem dX9_judge_124 : decode cX9_judge 124 = .ok (.istore_n 3, 1) := by decide +kernel
theorem dX9_judge_125 : decode cX9_judge 125 = .ok (.iload 4, 2) := by decide +kernel
theorem dX9_judge_127 : decode cX9_judge 127 = .ok (.aload_n 0, 1) := by decide +kernel
theorem dX9_judge_128 : decode cX9_judge 128 = .ok (.getfield 177, 3) := by decide +kernel
theorem dX9_judge_131 : decode cX9_judge 131 = .ok (.iload 7, 2) := by decide +kernel
theorem dX9_judge_133 : decode cX9_judge 133 = .ok (.iaload, 1) := by decide +kernel
theorem dX9_judge_134 : decode cX9_judge 134 = .ok (.iadd, 1) := by decide +kernel
theorem dX9_judge_135 : decode cX9_judge 135 = .ok (.istore 4, 2) := by decide +kernel
theorem dX9_judge_137 : decode cX9_judge 137 = .ok (.iinc 6 1, 3) := by decide +kernel
theorem dX9_judge_140 : decode cX9_judge 140 = .ok (.goto (-109), 3) := by decide +kernel
theorem dX9_judge_143 : decode cX9_judge 143 = .ok (.iload_n 1, 1) := by decide +kernel
theorem dX9_judge_144 : decode cX9_judge 144 = .ok (.ifCond .ne 5, 3) := by decide +kernel
theorem dX9_judge_147 : decode cX9_judge 147 = .ok (.iload_n 2, 1) := by decide +kernel
theorem dX9_judge_148 : decode cX9_judge 148 = .ok (.ireturn, 1) := by decide +kernel
theorem dX9_judge_149 : decode cX9_judge 149 = .ok (.aload_n 0, 1) := by decide +kernel
theorem dX9_judge_150 : decode cX9_judge 150 = .ok (.iconst 0, 1) := by decide +kernel
theorem dX9_judge_151 : decode cX9_judge 151 = .ok (.putfield 406, 3) := by decide +kernel
theorem dX9_judge_154 : decode cX9_judge 154 = .ok (.aload_n 0, 1) := by decide +kernel
theorem dX9_judge_155 : decode cX9_judge 155 = .ok (.invokevirtual 399, 3) := by decide +kernel
theorem dX9_judge_158 : decode cX9_judge 158 = .ok (.aload_n 0, 1) := by decide +kernel
theorem dX9_judge_159 : decode cX9_judge 159 = .ok (.getfield 390, 3) := by decide +kernel
theorem dX9_judge_162 : decode cX9_judge 162 = .ok (.iload 4, 2) := by decide +kernel
theorem dX9_judge_164 : decode cX9_judge 164 = .ok (.isub, 1) := by decide +kernel
theorem dX9_judge_165 : decode cX9_judge 165 = .ok (.ireturn, 1) := by decide +kernel
theorem dX9_waiting_0 : decode cX9_waiting 0 = .ok (.aload_n 0, 1) := by decide +kernel
theorem dX9_waiting_1 : decode cX9_waiting 1 = .ok (.iload_n 1, 1) := by decide +kernel
theorem dX9_waiting_2 : decode cX9_waiting 2 = .ok (.invokevirtual 196, 3) := by decide +kernel
theorem dX9_waiting_5 : decode cX9_waiting 5 = .ok (.ifCond .ne 9, 3) := by decide +kernel
theorem dX9_waiting_8 : decode cX9_waiting 8 = .ok (.aload_n 0, 1) := by decide +kernel
theorem dX9_waiting_9 : decode cX9_waiting 9 = .ok (.iconst (-1), 1) := by decide +kernel
theorem dX9_waiting_10 : decode cX9_waiting 10 = .ok (.invokevirtual 192, 3) := by decide +kernel
theorem dX9_waiting_13 : decode cX9_waiting 13 = .ok (.ireturn, 1) := by decide +kernel
theorem dX9_waiting_14 : decode cX9_waiting 14 = .ok (.iconst 0, 1) := by decide +kernel
theorem dX9_waiting_15 : decode cX9_waiting 15 = .ok (.istore_n 2, 1) := by decide +kernel
theorem dX9_waiting_16 : decode cX9_waiting 16 = .ok (.iconst 0, 1) := by decide +kernel
theorem dX9_waiting_17 : decode cX9_waiting 17 = .ok (.istore_n 3, 1) := by decide +kernel
theorem dX9_waiting_18 : decode cX9_waiting 18 = .ok (.iload_n 3, 1) := by decide +kernel
theorem dX9_waiting_19 : decode cX9_waiting 19 = .ok (.aload_n 0, 1) := by decide +kernel
theorem dX9_waiting_20 : decode cX9_waiting 20 = .ok (.getfield 259, 3) := by decide +kernel
theorem dX9_waiting_23 : decode cX9_waiting 23 = .ok (.if_icmp .ge 36, 3) := by decide +kernel
theorem dX9_waiting_26 : decode cX9_waiting 26 = .ok (.iload_n 2, 1) := by decide +kernel
theorem dX9_waiting_27 : decode cX9_waiting 27 = .ok (.aload_n 0, 1) := by decide +kernel
theorem dX9_waiting_28 : decode cX9_waiting 28 = .ok (.getfield 92, 3) := by decide +kernel
theorem dX9_waiting_31 : decode cX9_waiting 31 = .ok (.iload_n 3, 1) := by decide +kernel
theorem dX9_waiting_32 : decode cX9_waiting 32 = .ok (.iaload, 1) := by decide +kernel
theorem dX9_waiting_33 : decode cX9_waiting 33 = .ok (.ifCond .ne 17, 3) := by decide +kernel
theorem dX9_waiting_36 : decode cX9_waiting 36 = .ok (.aload_n 0, 1) := by decide +kernel
theorem dX9_waiting_37 : decode cX9_waiting 37 = .ok (.getfield 95, 3) := by decide +kernel
theorem dX9_waiting_40 : decode cX9_waiting 40 = .ok (.iload_n 3, 1) := by decide +kernel
theorem dX9_waiting_41 : decode cX9_waiting 41 = .ok (.iaload, 1) := by decide +kernel
theorem dX9_waiting_42 : decode cX9_waiting 42 = .ok (.iload_n 1, 1) := by decide +kernel
theorem dX9_waiting_43 : decode cX9_waiting 43 = .ok (.if_icmp .ne 7, 3) := by decide +kernel
theorem dX9_waiting_46 : decode cX9_waiting 46 = .ok (.iconst 1, 1) := by decide +kernel
theorem dX9_waiting_47 : decode cX9_waiting 47 = .ok (.goto 4, 3) := by decide +kernel
theorem dX9_waiting_50 : decode cX9_waiting 50 = .ok (.iconst 0, 1) := by decide +kernel
theorem dX9_waiting_51 : decode cX9_waiting 51 = .ok (.iadd, 1) := by decide +kernel
theorem dX9_waiting_52 : decode cX9_waiting 52 = .ok (.istore_n 2, 1) := by decide +kernel
theorem dX9_waiting_53 : decode cX9_waiting 53 = .ok (.iinc 3 1, 3) := by decide +kernel
theorem dX9_waiting_56 : decode cX9_waiting 56 = .ok (.goto (-38), 3) := by decide +kernel
theorem dX9_waiting_59 : decode cX9_waiting 59 = .ok (.iload_n 2, 1) := by decide +kernel
theorem dX9_waiting_60 : decode cX9_waiting 60 = .ok (.ireturn, 1) := by decide +kernel
theorem dX9_count_0 : decode cX9_count 0 = .ok (.iload_n 1, 1) := by decide +kernel
theorem dX9_count_1 : decode cX9_count 1 = .ok (.i2l, 1) := by decide +kernel
theorem dX9_count_2 : decode cX9_count 2 = .ok (.ldc2_w 409, 3) := by decide +kernel
theorem dX9_count_5 : decode cX9_count 5 = .ok (.ldc2_w 411, 3) := by decide +kernel
theorem dX9_count_8 : decode cX9_count 8 = .ok (.invokestatic 203, 3) := by decide +kernel
theorem dX9_count_11 : decode cX9_count 11 = .ok (.ifCond .eq 13, 3) := by decide +kernel
theorem dX9_count_14 : decode cX9_count 14 = .ok (.aload_n 0, 1) := by decide +kernel
theorem dX9_count_15 : decode cX9_count 15 = .ok (.getfield 7, 3) := by decide +kernel
theorem dX9_count_18 : decode cX9_count 18 = .ok (.iload_n 1, 1) := by decide +kernel
theorem dX9_count_19 : decode cX9_count 19 = .ok (.bipush 10, 2) := by decide +kernel
theorem dX9_count_21 : decode cX9_count 21 = .ok (.isub, 1) := by decide +kernel
theorem dX9_count_22 : decode cX9_count 22 = .ok (.iaload, 1) := by decide +kernel
theorem dX9_count_23 : decode cX9_count 23 = .ok (.ireturn, 1) := by decide +kernel
theorem dX9_count_24 : decode cX9_count 24 = .ok (.iconst 0, 1) := by decide +kernel
theorem dX9_count_25 : decode cX9_count 25 = .ok (.istore_n 2, 1) := by decide +kernel
theorem dX9_count_26 : decode cX9_count 26 = .ok (.iload_n 1, 1) := by decide +kernel
theorem dX9_count_27 : decode cX9_count 27 = .ok (.tableswitch 207 0 18 #[89, 94, 99, 104, 109, 114, 119, 119, 119, 157, 192, 207, 207, 207, 207, 207, 207, 197, 202], 89) := by decide +kernel
theorem dX9_count_116 : decode cX9_count 116 = .ok (.aload_n 0, 1) := by decide +kernel
theorem dX9_count_117 : decode cX9_count 117 = .ok (.getfield 207, 3) := by decide +kernel
theorem dX9_count_120 : decode cX9_count 120 = .ok (.ireturn, 1) := by decide +kernel
theorem dX9_count_121 : decode cX9_count 121 = .ok (.aload_n 0, 1) := by decide +kernel
theorem dX9_count_122 : decode cX9_count 122 = .ok (.getfield 183, 3) := by decide +kernel
theorem dX9_count_125 : decode cX9_count 125 = .ok (.ireturn, 1) := by decide +kernel
theorem dX9_count_126 : decode cX9_count 126 = .ok (.aload_n 0, 1) := by decide +kernel
theorem dX9_count_127 : decode cX9_count 127 = .ok (.getfield 200, 3) := by decide +kernel
theorem dX9_count_130 : decode cX9_count 130 = .ok (.ireturn, 1) := by decide +kernel
theorem dX9_count_131 : decode cX9_count 131 = .ok (.aload_n 0, 1) := by decide +kernel
theorem dX9_count_132 : decode cX9_count 132 = .ok (.getfield 226, 3) := by decide +kernel
theorem dX9_count_135 : decode cX9_count 135 = .ok (.ireturn, 1) := by decide +kernel
theorem dX9_count_136 : decode cX9_count 136 = .ok (.aload_n 0, 1) := by decide +kernel
theorem dX9_count_137 : decode cX9_count 137 = .ok (.getfield 220, 3) := by decide +kernel
theorem dX9_count_140 : decode cX9_count 140 = .ok (.ireturn, 1) := by decide +kernel
theorem dX9_count_141 : decode cX9_count 141 = .ok (.aload_n 0, 1) := by decide +kernel
theorem dX9_count_142 : decode cX9_count 142 = .ok (.getfield 259, 3) := by decide +kernel
theorem dX9_count_145 : decode cX9_count 145 = .ok (.ireturn, 1) := by decide +kernel
theorem dX9_count_146 : decode cX9_count 146 = .ok (.iconst 0, 1) := by decide +kernel
theorem dX9_count_147 : decode cX9_count 147 = .ok (.istore_n 3, 1) := by decide +kernel
theorem dX9_count_148 : decode cX9_count 148 = .ok (.iload_n 3, 1) := by decide +kernel
theorem dX9_count_149 : decode cX9_count 149 = .ok (.aload_n 0, 1) := by decide +kernel
theorem dX9_count_150 : decode cX9_count 150 = .ok (.getfield 259, 3) := by decide +kernel
theorem dX9_count_153 : decode cX9_count 153 = .ok (.if_icmp .ge 29, 3) := by decide +kernel
theorem dX9_count_156 : decode cX9_count 156 = .ok (.iload_n 2, 1) := by decide +kernel
theorem dX9_count_157 : decode cX9_count 157 = .ok (.aload_n 0, 1) := by decide +kernel
theorem dX9_count_158 : decode cX9_count 158 = .ok (.getfield 92, 3) := by decide +kernel
theorem dX9_count_161 : decode cX9_count 161 = .ok (.iload_n 3, 1) := by decide +kernel
theorem dX9_count_162 : decode cX9_count 162 = .ok (.iaload, 1) := by decide +kernel
theorem dX9_count_163 : decode cX9_count 163 = .ok (.iload_n 1, 1) := by decide +kernel
theorem dX9_count_164 : decode cX9_count 164 = .ok (.iconst 4, 1) := by decide +kernel
theorem dX9_count_165 : decode cX9_count 165 = .ok (.isub, 1) := by decide +kernel
theorem dX9_count_166 : decode cX9_count 166 = .ok (.if_icmp .ne 7, 3) := by decide +kernel
theorem dX9_count_169 : decode cX9_count 169 = .ok (.iconst 1, 1) := by decide +kernel
theorem dX9_count_170 : decode cX9_count 170 = .ok (.goto 4, 3) := by decide +kernel
theorem dX9_count_173 : decode cX9_count 173 = .ok (.iconst 0, 1) := by decide +kernel
theorem dX9_count_174 : decode cX9_count 174 = .ok (.iadd, 1) := by decide +kernel
theorem dX9_count_175 : decode cX9_count 175 = .ok (.istore_n 2, 1) := by decide +kernel
theorem dX9_count_176 : decode cX9_count 176 = .ok (.iinc 3 1, 3) := by decide +kernel
theorem dX9_count_179 : decode cX9_count 179 = .ok (.goto (-31), 3) := by decide +kernel
theorem dX9_count_182 : decode cX9_count 182 = .ok (.iload_n 2, 1) := by decide +kernel
theorem dX9_count_183 : decode cX9_count 183 = .ok (.ireturn, 1) := by decide +kernel
theorem dX9_count_184 : decode cX9_count 184 = .ok (.iconst 0, 1) := by decide +kernel
theorem dX9_count_185 : decode cX9_count 185 = .ok (.istore_n 3, 1) := by decide +kernel
theorem dX9_count_186 : decode cX9_count 186 = .ok (.iload_n 3, 1) := by decide +kernel
theorem dX9_count_187 : decode cX9_count 187 = .ok (.aload_n 0, 1) := by decide +kernel
theorem dX9_count_188 : decode cX9_count 188 = .ok (.getfield 259, 3) := by decide +kernel
theorem dX9_count_191 : decode cX9_count 191 = .ok (.if_icmp .ge 26, 3) := by decide +kernel
theorem dX9_count_194 : decode cX9_count 194 = .ok (.iload_n 2, 1) := by decide +kernel
theorem dX9_count_195 : decode cX9_count 195 = .ok (.aload_n 0, 1) := by decide +kernel
theorem dX9_count_196 : decode cX9_count 196 = .ok (.getfield 113, 3) := by decide +kernel
theorem dX9_count_199 : decode cX9_count 199 = .ok (.iload_n 3, 1) := by decide +kernel
theorem dX9_count_200 : decode cX9_count 200 = .ok (.baload, 1) := by decide +kernel
theorem dX9_count_201 : decode cX9_count 201 = .ok (.ifCond .eq 7, 3) := by decide +kernel
theorem dX9_count_204 : decode cX9_count 204 = .ok (.iconst 1, 1) := by decide +kernel
theorem dX9_count_205 : decode cX9_count 205 = .ok (.goto 4, 3) := by decide +kernel
theorem dX9_count_208 : decode cX9_count 208 = .ok (.iconst 0, 1) := by decide +kernel
theorem dX9_count_209 : decode cX9_count 209 = .ok (.iadd, 1) := by decide +kernel
theorem dX9_count_210 : decode cX9_count 210 = .ok (.istore_n 2, 1) := by decide +kernel
theorem dX9_count_211 : decode cX9_count 211 = .ok (.iinc 3 1, 3) := by decide +kernel
theorem dX9_count_214 : decode cX9_count 214 = .ok (.goto (-28), 3) := by decide +kernel
theorem dX9_count_217 : decode cX9_count 217 = .ok (.iload_n 2, 1) := by decide +kernel
theorem dX9_count_218 : decode cX9_count 218 = .ok (.ireturn, 1) := by decide +kernel
theorem dX9_count_219 : decode cX9_count 219 = .ok (.aload_n 0, 1) := by decide +kernel
theorem dX9_count_220 : decode cX9_count 220 = .ok (.getfield 270, 3) := by decide +kernel
theorem dX9_count_223 : decode cX9_count 223 = .ok (.ireturn, 1) := by decide +kernel
theorem dX9_count_224 : decode cX9_count 224 = .ok (.aload_n 0, 1) := by decide +kernel
theorem dX9_count_225 : decode cX9_count 225 = .ok (.getfield 406, 3) := by decide +kernel
theorem dX9_count_228 : decode cX9_count 228 = .ok (.ireturn, 1) := by decide +kernel
theorem dX9_count_229 : decode cX9_count 229 = .ok (.aload_n 0, 1) := by decide +kernel
theorem dX9_count_230 : decode cX9_count 230 = .ok (.getfield 298, 3) := by decide +kernel
theorem dX9_count_233 : decode cX9_count 233 = .ok (.ireturn, 1) := by decide +kernel
theorem dX9_count_234 : decode cX9_count 234 = .ok (.bipush (-9), 2) := by decide +kernel
theorem dX9_count_236 : decode cX9_count 236 = .ok (.ireturn, 1) := by decide +kernel
theorem dJ0_length_8abf5_0 : decode cJ0_length_8abf5 0 = .ok (.aload_n 0, 1) := by decide +kernel
theorem dJ0_length_8abf5_1 : decode cJ0_length_8abf5 1 = .ok (.getfield 9, 3) := by decide +kernel
theorem dJ0_length_8abf5_4 : decode cJ0_length_8abf5 4 = .ok (.arraylength, 1) := by decide +kernel
theorem dJ0_length_8abf5_5 : decode cJ0_length_8abf5 5 = .ok (.aload_n 0, 1) := by decide +kernel
theorem dJ0_length_8abf5_6 : decode cJ0_length_8abf5 6 = .ok (.invokevirtual 335, 3) := by decide +kernel
theorem dJ0_length_8abf5_9 : decode cJ0_length_8abf5 9 = .ok (.ishr, 1) := by decide +kernel
theorem dJ0_length_8abf5_10 : decode cJ0_length_8abf5 10 = .ok (.ireturn, 1) := by decide +kernel
theorem dJ0_indexOf_0f7a4_0 : decode cJ0_indexOf_0f7a4 0 = .ok (.aload_n 0, 1) := by decide +kernel
theorem dJ0_indexOf_0f7a4_1 : decode cJ0_indexOf_0f7a4 1 = .ok (.iload_n 1, 1) := by decide +kernel
theorem dJ0_indexOf_0f7a4_2 : decode cJ0_indexOf_0f7a4 2 = .ok (.iconst 0, 1) := by decide +kernel
theorem dJ0_indexOf_0f7a4_3 : decode cJ0_indexOf_0f7a4 3 = .ok (.invokevirtual 633, 3) := by decide +kernel
theorem dJ0_indexOf_0f7a4_6 : decode cJ0_indexOf_0f7a4 6 = .ok (.ireturn, 1) := by decide +kernel
theorem dJ0_indexOf_7cf53_0 : decode cJ0_indexOf_7cf53 0 = .ok (.aload_n 0, 1) := by decide +kernel
theorem dJ0_indexOf_7cf53_1 : decode cJ0_indexOf_7cf53 1 = .ok (.invokevirtual 492, 3) := by decide +kernel
theorem dJ0_indexOf_7cf53_4 : decode cJ0_indexOf_7cf53 4 = .ok (.ifCond .eq 19, 3) := by decide +kernel
theorem dJ0_indexOf_7cf53_7 : decode cJ0_indexOf_7cf53 7 = .ok (.aload_n 0, 1) := by decide +kernel
theorem dJ0_indexOf_7cf53_8 : decode cJ0_indexOf_7cf53 8 = .ok (.getfield 9, 3) := by decide +kernel
theorem dJ0_indexOf_7cf53_11 : decode cJ0_indexOf_7cf53 11 = .ok (.iload_n 1, 1) := by decide +kernel
theorem dJ0_indexOf_7cf53_12 : decode cJ0_indexOf_7cf53 12 = .ok (.iload_n 2, 1) := by decide +kernel
theorem dJ0_indexOf_7cf53_13 : decode cJ0_indexOf_7cf53 13 = .ok (.aload_n 0, 1) := by decide +kernel
theorem dJ0_indexOf_7cf53_14 : decode cJ0_indexOf_7cf53 14 = .ok (.invokevirtual 505, 3) := by decide +kernel
theorem dJ0_indexOf_7cf53_17 : decode cJ0_indexOf_7cf53 17 = .ok (.invokestatic 637, 3) := by decide +kernel
theorem dJ0_indexOf_7cf53_20 : decode cJ0_indexOf_7cf53 20 = .ok (.goto 16, 3) := by decide +kernel
theorem dJ0_indexOf_7cf53_23 : decode cJ0_indexOf_7cf53 23 = .ok (.aload_n 0, 1) := by decide +kernel
theorem dJ0_indexOf_7cf53_24 : decode cJ0_indexOf_7cf53 24 = .ok (.getfield 9, 3) := by decide +kernel
theorem dJ0_indexOf_7cf53_27 : decode cJ0_indexOf_7cf53 27 = .ok (.iload_n 1, 1) := by decide +kernel
theorem dJ0_indexOf_7cf53_28 : decode cJ0_indexOf_7cf53 28 = .ok (.iload_n 2, 1) := by decide +kernel
theorem dJ0_indexOf_7cf53_29 : decode cJ0_indexOf_7cf53 29 = .ok (.aload_n 0, 1) := by decide +kernel
theorem dJ0_indexOf_7cf53_30 : decode cJ0_indexOf_7cf53 30 = .ok (.invokevirtual 505, 3) := by decide +kernel
theorem dJ0_indexOf_7cf53_33 : decode cJ0_indexOf_7cf53 33 = .ok (.invokestatic 640, 3) := by decide +kernel
theorem dJ0_indexOf_7cf53_36 : decode cJ0_indexOf_7cf53 36 = .ok (.ireturn, 1) := by decide +kernel
theorem dJ0_coder_7d493_0 : decode cJ0_coder_7d493 0 = .ok (.getstatic 38, 3) := by decide +kernel
theorem dJ0_coder_7d493_3 : decode cJ0_coder_7d493 3 = .ok (.ifCond .eq 10, 3) := by decide +kernel
theorem dJ0_coder_7d493_6 : decode cJ0_coder_7d493 6 = .ok (.aload_n 0, 1) := by decide +kernel
theorem dJ0_coder_7d493_7 : decode cJ0_coder_7d493 7 = .ok (.getfield 15, 3) := by decide +kernel
theorem dJ0_coder_7d493_10 : decode cJ0_coder_7d493 10 = .ok (.goto 4, 3) := by decide +kernel
theorem dJ0_coder_7d493_13 : decode cJ0_coder_7d493 13 = .ok (.iconst 1, 1) := by decide +kernel
theorem dJ0_coder_7d493_14 : decode cJ0_coder_7d493 14 = .ok (.ireturn, 1) := by decide +kernel
theorem dJ0_isLatin1_aae02_0 : decode cJ0_isLatin1_aae02 0 = .ok (.getstatic 38, 3) := by decide +kernel
theorem dJ0_isLatin1_aae02_3 : decode cJ0_isLatin1_aae02 3 = .ok (.ifCond .eq 14, 3) := by decide +kernel
theorem dJ0_isLatin1_aae02_6 : decode cJ0_isLatin1_aae02 6 = .ok (.aload_n 0, 1) := by decide +kernel
theorem dJ0_isLatin1_aae02_7 : decode cJ0_isLatin1_aae02 7 = .ok (.getfield 15, 3) := by decide +kernel
theorem dJ0_isLatin1_aae02_10 : decode cJ0_isLatin1_aae02 10 = .ok (.ifCond .ne 7, 3) := by decide +kernel
theorem dJ0_isLatin1_aae02_13 : decode cJ0_isLatin1_aae02 13 = .ok (.iconst 1, 1) := by decide +kernel
theorem dJ0_isLatin1_aae02_14 : decode cJ0_isLatin1_aae02 14 = .ok (.goto 4, 3) := by decide +kernel
theorem dJ0_isLatin1_aae02_17 : decode cJ0_isLatin1_aae02 17 = .ok (.iconst 0, 1) := by decide +kernel
theorem dJ0_isLatin1_aae02_18 : decode cJ0_isLatin1_aae02 18 = .ok (.ireturn, 1) := by decide +kernel
theorem dJ0_checkBoundsBeginEnd_23922_0 : decode cJ0_checkBoundsBeginEnd_23922 0 = .ok (.iload_n 0, 1) := by decide +kernel
theorem dJ0_checkBoundsBeginEnd_23922_1 : decode cJ0_checkBoundsBeginEnd_23922 1 = .ok (.iload_n 1, 1) := by decide +kernel
theorem dJ0_checkBoundsBeginEnd_23922_2 : decode cJ0_checkBoundsBeginEnd_23922 2 = .ok (.iload_n 2, 1) := by decide +kernel
theorem dJ0_checkBoundsBeginEnd_23922_3 : decode cJ0_checkBoundsBeginEnd_23922 3 = .ok (.getstatic 1053, 3) := by decide +kernel
theorem dJ0_checkBoundsBeginEnd_23922_6 : decode cJ0_checkBoundsBeginEnd_23922 6 = .ok (.invokestatic 1062, 3) := by decide +kernel
theorem dJ0_checkBoundsBeginEnd_23922_9 : decode cJ0_checkBoundsBeginEnd_23922 9 = .ok (.pop, 1) := by decide +kernel
theorem dJ0_checkBoundsBeginEnd_23922_10 : decode cJ0_checkBoundsBeginEnd_23922 10 = .ok (.return_, 1) := by decide +kernel
theorem dJ1_canEncode_9a6ad_0 : decode cJ1_canEncode_9a6ad 0 = .ok (.iload_n 0, 1) := by decide +kernel
theorem dJ1_canEncode_9a6ad_1 : decode cJ1_canEncode_9a6ad 1 = .ok (.ifCond .lt 14, 3) := by decide +kernel
theorem dJ1_canEncode_9a6ad_4 : decode cJ1_canEncode_9a6ad 4 = .ok (.iload_n 0, 1) := by decide +kernel
theorem dJ1_canEncode_9a6ad_5 : decode cJ1_canEncode_9a6ad 5 = .ok (.sipush 255, 3) := by decide +kernel
theorem dJ1_canEncode_9a6ad_8 : decode cJ1_canEncode_9a6ad 8 = .ok (.if_icmp .gt 7, 3) := by decide +kernel
theorem dJ1_canEncode_9a6ad_11 : decode cJ1_canEncode_9a6ad 11 = .ok (.iconst 1, 1) := by decide +kernel
theorem dJ1_canEncode_9a6ad_12 : decode cJ1_canEncode_9a6ad 12 = .ok (.goto 4, 3) := by decide +kernel
theorem dJ1_canEncode_9a6ad_15 : decode cJ1_canEncode_9a6ad 15 = .ok (.iconst 0, 1) := by decide +kernel
theorem dJ1_canEncode_9a6ad_16 : decode cJ1_canEncode_9a6ad 16 = .ok (.ireturn, 1) := by decide +kernel
theorem dJ1_indexOf_4cfef_0 : decode cJ1_indexOf_4cfef 0 = .ok (.iload_n 1, 1) := by decide +kernel
theorem dJ1_indexOf_4cfef_1 : decode cJ1_indexOf_4cfef 1 = .ok (.invokestatic 88, 3) := by decide +kernel
theorem dJ1_indexOf_4cfef_4 : decode cJ1_indexOf_4cfef 4 = .ok (.ifCond .ne 5, 3) := by decide +kernel
theorem dJ1_indexOf_4cfef_7 : decode cJ1_indexOf_4cfef 7 = .ok (.iconst (-1), 1) := by decide +kernel
theorem dJ1_indexOf_4cfef_8 : decode cJ1_indexOf_4cfef 8 = .ok (.ireturn, 1) := by decide +kernel
theorem dJ1_indexOf_4cfef_9 : decode cJ1_indexOf_4cfef 9 = .ok (.iload_n 2, 1) := by decide +kernel
theorem dJ1_indexOf_4cfef_10 : decode cJ1_indexOf_4cfef 10 = .ok (.iconst 0, 1) := by decide +kernel
theorem dJ1_indexOf_4cfef_11 : decode cJ1_indexOf_4cfef 11 = .ok (.invokestatic 92, 3) := by decide +kernel
theorem dJ1_indexOf_4cfef_14 : decode cJ1_indexOf_4cfef 14 = .ok (.istore_n 2, 1) := by decide +kernel
theorem dJ1_indexOf_4cfef_15 : decode cJ1_indexOf_4cfef 15 = .ok (.iload_n 3, 1) := by decide +kernel
theorem dJ1_indexOf_4cfef_16 : decode cJ1_indexOf_4cfef 16 = .ok (.aload_n 0, 1) := by decide +kernel
theorem dJ1_indexOf_4cfef_17 : decode cJ1_indexOf_4cfef 17 = .ok (.arraylength, 1) := by decide +kernel
theorem dJ1_indexOf_4cfef_18 : decode cJ1_indexOf_4cfef 18 = .ok (.invokestatic 38, 3) := by decide +kernel
theorem dJ1_indexOf_4cfef_21 : decode cJ1_indexOf_4cfef 21 = .ok (.istore_n 3, 1) := by decide +kernel
theorem dJ1_indexOf_4cfef_22 : decode cJ1_indexOf_4cfef 22 = .ok (.iload_n 2, 1) := by decide +kernel
theorem dJ1_indexOf_4cfef_23 : decode cJ1_indexOf_4cfef 23 = .ok (.iload_n 3, 1) := by decide +kernel
theorem dJ1_indexOf_4cfef_24 : decode cJ1_indexOf_4cfef 24 = .ok (.if_icmp .lt 5, 3) := by decide +kernel
theorem dJ1_indexOf_4cfef_27 : decode cJ1_indexOf_4cfef 27 = .ok (.iconst (-1), 1) := by decide +kernel
theorem dJ1_indexOf_4cfef_28 : decode cJ1_indexOf_4cfef 28 = .ok (.ireturn, 1) := by decide +kernel
theorem dJ1_indexOf_4cfef_29 : decode cJ1_indexOf_4cfef 29 = .ok (.aload_n 0, 1) := by decide +kernel
theorem dJ1_indexOf_4cfef_30 : decode cJ1_indexOf_4cfef 30 = .ok (.iload_n 1, 1) := by decide +kernel
theorem dJ1_indexOf_4cfef_31 : decode cJ1_indexOf_4cfef 31 = .ok (.iload_n 2, 1) := by decide +kernel
theorem dJ1_indexOf_4cfef_32 : decode cJ1_indexOf_4cfef 32 = .ok (.iload_n 3, 1) := by decide +kernel
theorem dJ1_indexOf_4cfef_33 : decode cJ1_indexOf_4cfef 33 = .ok (.invokestatic 95, 3) := by decide +kernel
theorem dJ1_indexOf_4cfef_36 : decode cJ1_indexOf_4cfef 36 = .ok (.ireturn, 1) := by decide +kernel
theorem dJ1_indexOfChar_4cfef_0 : decode cJ1_indexOfChar_4cfef 0 = .ok (.iload_n 1, 1) := by decide +kernel
theorem dJ1_indexOfChar_4cfef_1 : decode cJ1_indexOfChar_4cfef 1 = .ok (.i2b, 1) := by decide +kernel
theorem dJ1_indexOfChar_4cfef_2 : decode cJ1_indexOfChar_4cfef 2 = .ok (.istore 4, 2) := by decide +kernel
theorem dJ1_indexOfChar_4cfef_4 : decode cJ1_indexOfChar_4cfef 4 = .ok (.iload_n 2, 1) := by decide +kernel
theorem dJ1_indexOfChar_4cfef_5 : decode cJ1_indexOfChar_4cfef 5 = .ok (.istore 5, 2) := by decide +kernel
theorem dJ1_indexOfChar_4cfef_7 : decode cJ1_indexOfChar_4cfef 7 = .ok (.iload 5, 2) := by decide +kernel
theorem dJ1_indexOfChar_4cfef_9 : decode cJ1_indexOfChar_4cfef 9 = .ok (.iload_n 3, 1) := by decide +kernel
theorem dJ1_indexOfChar_4cfef_10 : decode cJ1_indexOfChar_4cfef 10 = .ok (.if_icmp .ge 21, 3) := by decide +kernel
theorem dJ1_indexOfChar_4cfef_13 : decode cJ1_indexOfChar_4cfef 13 = .ok (.aload_n 0, 1) := by decide +kernel
theorem dJ1_indexOfChar_4cfef_14 : decode cJ1_indexOfChar_4cfef 14 = .ok (.iload 5, 2) := by decide +kernel
theorem dJ1_indexOfChar_4cfef_16 : decode cJ1_indexOfChar_4cfef 16 = .ok (.baload, 1) := by decide +kernel
theorem dJ1_indexOfChar_4cfef_17 : decode cJ1_indexOfChar_4cfef 17 = .ok (.iload 4, 2) := by decide +kernel
theorem dJ1_indexOfChar_4cfef_19 : decode cJ1_indexOfChar_4cfef 19 = .ok (.if_icmp .ne 6, 3) := by decide +kernel
theorem dJ1_indexOfChar_4cfef_22 : decode cJ1_indexOfChar_4cfef 22 = .ok (.iload 5, 2) := by decide +kernel
theorem dJ1_indexOfChar_4cfef_24 : decode cJ1_indexOfChar_4cfef 24 = .ok (.ireturn, 1) := by decide +kernel
theorem dJ1_indexOfChar_4cfef_25 : decode cJ1_indexOfChar_4cfef 25 = .ok (.iinc 5 1, 3) := by decide +kernel
theorem dJ1_indexOfChar_4cfef_28 : decode cJ1_indexOfChar_4cfef 28 = .ok (.goto (-21), 3) := by decide +kernel
theorem dJ1_indexOfChar_4cfef_31 : decode cJ1_indexOfChar_4cfef 31 = .ok (.iconst (-1), 1) := by decide +kernel
theorem dJ1_indexOfChar_4cfef_32 : decode cJ1_indexOfChar_4cfef 32 = .ok (.ireturn, 1) := by decide +kernel
theorem dJ7_fill_53178_0 : decode cJ7_fill_53178 0 = .ok (.iconst 0, 1) := by decide +kernel
theorem dJ7_fill_53178_1 : decode cJ7_fill_53178 1 = .ok (.istore_n 2, 1) := by decide +kernel
theorem dJ7_fill_53178_2 : decode cJ7_fill_53178 2 = .ok (.aload_n 0, 1) := by decide +kernel
theorem dJ7_fill_53178_3 : decode cJ7_fill_53178 3 = .ok (.arraylength, 1) := by decide +kernel
theorem dJ7_fill_53178_4 : decode cJ7_fill_53178 4 = .ok (.istore_n 3, 1) := by decide +kernel
theorem dJ7_fill_53178_5 : decode cJ7_fill_53178 5 = .ok (.iload_n 2, 1) := by decide +kernel
theorem dJ7_fill_53178_6 : decode cJ7_fill_53178 6 = .ok (.iload_n 3, 1) := by decide +kernel
theorem dJ7_fill_53178_7 : decode cJ7_fill_53178 7 = .ok (.if_icmp .ge 13, 3) := by decide +kernel
theorem dJ7_fill_53178_10 : decode cJ7_fill_53178 10 = .ok (.aload_n 0, 1) := by decide +kernel
theorem dJ7_fill_53178_11 : decode cJ7_fill_53178 11 = .ok (.iload_n 2, 1) := by decide +kernel
theorem dJ7_fill_53178_12 : decode cJ7_fill_53178 12 = .ok (.iload_n 1, 1) := by decide +kernel
theorem dJ7_fill_53178_13 : decode cJ7_fill_53178 13 = .ok (.iastore, 1) := by decide +kernel
theorem dJ7_fill_53178_14 : decode cJ7_fill_53178 14 = .ok (.iinc 2 1, 3) := by decide +kernel
theorem dJ7_fill_53178_17 : decode cJ7_fill_53178 17 = .ok (.goto (-12), 3) := by decide +kernel
theorem dJ7_fill_53178_20 : decode cJ7_fill_53178 20 = .ok (.return_, 1) := by decide +kernel
theorem dL_law_0 : decode cL_law 0 = .ok (.new 7, 3) := by decide +kernel
theorem dL_law_3 : decode cL_law 3 = .ok (.dup, 1) := by decide +kernel
theorem dL_law_4 : decode cL_law 4 = .ok (.invokespecial 9, 3) := by decide +kernel
theorem dL_law_7 : decode cL_law 7 = .ok (.astore_n 1, 1) := by decide +kernel
theorem dL_law_8 : decode cL_law 8 = .ok (.new 10, 3) := by decide +kernel
theorem dL_law_11 : decode cL_law 11 = .ok (.dup, 1) := by decide +kernel
theorem dL_law_12 : decode cL_law 12 = .ok (.invokespecial 12, 3) := by decide +kernel
theorem dL_law_15 : decode cL_law 15 = .ok (.astore_n 2, 1) := by decide +kernel
theorem dL_law_16 : decode cL_law 16 = .ok (.iconst 0, 1) := by decide +kernel
theorem dL_law_17 : decode cL_law 17 = .ok (.istore_n 3, 1) := by decide +kernel
theorem dL_law_18 : decode cL_law 18 = .ok (.iload_n 3, 1) := by decide +kernel
theorem dL_law_19 : decode cL_law 19 = .ok (.aload_n 0, 1) := by decide +kernel
theorem dL_law_20 : decode cL_law 20 = .ok (.arraylength, 1) := by decide +kernel
theorem dL_law_21 : decode cL_law 21 = .ok (.bipush 6, 2) := by decide +kernel
theorem dL_law_23 : decode cL_law 23 = .ok (.isub, 1) := by decide +kernel
theorem dL_law_24 : decode cL_law 24 = .ok (.if_icmp .gt 1330, 3) := by decide +kernel
theorem dL_law_27 : decode cL_law 27 = .ok (.aload_n 0, 1) := by decide +kernel
theorem dL_law_28 : decode cL_law 28 = .ok (.iload_n 3, 1) := by decide +kernel
theorem dL_law_29 : decode cL_law 29 = .ok (.iaload, 1) := by decide +kernel
theorem dL_law_30 : decode cL_law 30 = .ok (.bipush 63, 2) := by decide +kernel
theorem dL_law_32 : decode cL_law 32 = .ok (.iand, 1) := by decide +kernel
theorem dL_law_33 : decode cL_law 33 = .ok (.tableswitch 1315 0 33 #[151, 200, 259, 322, 365, 398, 421, 444, 487, 520, 563, 596, 639, 682, 705, 758, 821, 844, 877, 900, 933, 956, 979, 1012, 1035, 1068, 1091, 1124, 1157, 1200, 1223, 1246, 1269, 1292], 151) := by decide +kernel
theorem dL_law_184 : decode cL_law 184 = .ok (.aload_n 1, 1) := by decide +kernel
theorem dL_law_185 : decode cL_law 185 = .ok (.aload_n 0, 1) := by decide +kernel
theorem dL_law_186 : decode cL_law 186 = .ok (.iload_n 3, 1) := by decide +kernel
theorem dL_law_187 : decode cL_law 187 = .ok (.iconst 1, 1) := by decide +kernel
theorem dL_law_188 : decode cL_law 188 = .ok (.iadd, 1) := by decide +kernel
theorem dL_law_189 : decode cL_law 189 = .ok (.iaload, 1) := by decide +kernel
theorem dL_law_190 : decode cL_law 190 = .ok (.aload_n 0, 1) := by decide +kernel
theorem dL_law_191 : decode cL_law 191 = .ok (.iload_n 3, 1) := by decide +kernel
theorem dL_law_192 : decode cL_law 192 = .ok (.iconst 2, 1) := by decide +kernel
theorem dL_law_193 : decode cL_law 193 = .ok (.iadd, 1) := by decide +kernel
theorem dL_law_194 : decode cL_law 194 = .ok (.iaload, 1) := by decide +kernel
theorem dL_law_195 : decode cL_law 195 = .ok (.ifCond .eq 7, 3) := by decide +kernel
theorem dL_law_198 : decode cL_law 198 = .ok (.iconst 1, 1) := by decide +kernel
theorem dL_law_199 : decode cL_law 199 = .ok (.goto 4, 3) := by decide +kernel
theorem dL_law_202 : decode cL_law 202 = .ok (.iconst 0, 1) := by decide +kernel
theorem dL_law_203 : decode cL_law 203 = .ok (.invokevirtual 13, 3) := by decide +kernel
theorem dL_law_206 : decode cL_law 206 = .ok (.aload_n 2, 1) := by decide +kernel
theorem dL_law_207 : decode cL_law 207 = .ok (.aload_n 0, 1) := by decide +kernel
theorem dL_law_208 : decode cL_law 208 = .ok (.iload_n 3, 1) := by decide +kernel
theorem dL_law_209 : decode cL_law 209 = .ok (.iconst 1, 1) := by decide +kernel
theorem dL_law_210 : decode cL_law 210 = .ok (.iadd, 1) := by decide +kernel
theorem dL_law_211 : decode cL_law 211 = .ok (.iaload, 1) := by decide +kernel
theorem dL_law_212 : decode cL_law 212 = .ok (.aload_n 0, 1) := by decide +kernel
theorem dL_law_213 : decode cL_law 213 = .ok (.iload_n 3, 1) := by decide +kernel
theorem dL_law_214 : decode cL_law 214 = .ok (.iconst 2, 1) := by decide +kernel
theorem dL_law_215 : decode cL_law 215 = .ok (.iadd, 1) := by decide +kernel
theorem dL_law_216 : decode cL_law 216 = .ok (.iaload, 1) := by decide +kernel
theorem dL_law_217 : decode cL_law 217 = .ok (.ifCond .eq 7, 3) := by decide +kernel
theorem dL_law_220 : decode cL_law 220 = .ok (.iconst 1, 1) := by decide +kernel
theorem dL_law_221 : decode cL_law 221 = .ok (.goto 4, 3) := by decide +kernel
theorem dL_law_224 : decode cL_law 224 = .ok (.iconst 0, 1) := by decide +kernel
theorem dL_law_225 : decode cL_law 225 = .ok (.invokevirtual 17, 3) := by decide +kernel
theorem dL_law_228 : decode cL_law 228 = .ok (.if_icmp .eq 1120, 3) := by decide +kernel
theorem dL_law_231 : decode cL_law 231 = .ok (.iconst 0, 1) := by decide +kernel
theorem dL_law_232 : decode cL_law 232 = .ok (.ireturn, 1) := by decide +kernel
theorem dL_law_233 : decode cL_law 233 = .ok (.aload_n 1, 1) := by decide +kernel
theorem dL_law_234 : decode cL_law 234 = .ok (.aload_n 0, 1) := by decide +kernel
theorem dL_law_235 : decode cL_law 235 = .ok (.iload_n 3, 1) := by decide +kernel
theorem dL_law_236 : decode cL_law 236 = .ok (.iconst 1, 1) := by decide +kernel
theorem dL_law_237 : decode cL_law 237 = .ok (.iadd, 1) := by decide +kernel
theorem dL_law_238 : decode cL_law 238 = .ok (.iaload, 1) := by decide +kernel
theorem dL_law_239 : decode cL_law 239 = .ok (.aload_n 0, 1) := by decide +kernel
theorem dL_law_240 : decode cL_law 240 = .ok (.iload_n 3, 1) := by decide +kernel
theorem dL_law_241 : decode cL_law 241 = .ok (.iconst 2, 1) := by decide +kernel
theorem dL_law_242 : decode cL_law 242 = .ok (.iadd, 1) := by decide +kernel
theorem dL_law_243 : decode cL_law 243 = .ok (.iaload, 1) := by decide +kernel
theorem dL_law_244 : decode cL_law 244 = .ok (.aload_n 0, 1) := by decide +kernel
theorem dL_law_245 : decode cL_law 245 = .ok (.iload_n 3, 1) := by decide +kernel
theorem dL_law_246 : decode cL_law 246 = .ok (.iconst 3, 1) := by decide +kernel
theorem dL_law_247 : decode cL_law 247 = .ok (.iadd, 1) := by decide +kernel
theorem dL_law_248 : decode cL_law 248 = .ok (.iaload, 1) := by decide +kernel
theorem dL_law_249 : decode cL_law 249 = .ok (.ifCond .eq 7, 3) := by decide +kernel
theorem dL_law_252 : decode cL_law 252 = .ok (.iconst 1, 1) := by decide +kernel
theorem dL_law_253 : decode cL_law 253 = .ok (.goto 4, 3) := by decide +kernel
theorem dL_law_256 : decode cL_law 256 = .ok (.iconst 0, 1) := by decide +kernel
theorem dL_law_257 : decode cL_law 257 = .ok (.invokevirtual 18, 3) := by decide +kernel
theorem dL_law_260 : decode cL_law 260 = .ok (.aload_n 2, 1) := by decide +kernel
theorem dL_law_261 : decode cL_law 261 = .ok (.aload_n 0, 1) := by decide +kernel
theorem dL_law_262 : decode cL_law 262 = .ok (.iload_n 3, 1) := by decide +kernel
theorem dL_law_263 : decode cL_law 263 = .ok (.iconst 1, 1) := by decide +kernel
theorem dL_law_264 : decode cL_law 264 = .ok (.iadd, 1) := by decide +kernel
theorem dL_law_265 : decode cL_law 265 = .ok (.iaload, 1) := by decide +kernel
theorem dL_law_266 : decode cL_law 266 = .ok (.aload_n 0, 1) := by decide +kernel
theorem dL_law_267 : decode cL_law 267 = .ok (.iload_n 3, 1) := by decide +kernel
theorem dL_law_268 : decode cL_law 268 = .ok (.iconst 2, 1) := by decide +kernel
theorem dL_law_269 : decode cL_law 269 = .ok (.iadd, 1) := by decide +kernel
theorem dL_law_270 : decode cL_law 270 = .ok (.iaload, 1) := by decide +kernel
theorem dL_law_271 : decode cL_law 271 = .ok (.aload_n 0, 1) := by decide +kernel
theorem dL_law_272 : decode cL_law 272 = .ok (.iload_n 3, 1) := by decide +kernel
theorem dL_law_273 : decode cL_law 273 = .ok (.iconst 3, 1) := by decide +kernel
theorem dL_law_274 : decode cL_law 274 = .ok (.iadd, 1) := by decide +kernel
theorem dL_law_275 : decode cL_law 275 = .ok (.iaload, 1) := by decide +kernel
theorem dL_law_276 : decode cL_law 276 = .ok (.ifCond .eq 7, 3) := by decide +kernel
theorem dL_law_279 : decode cL_law 279 = .ok (.iconst 1, 1) := by decide +kernel
theorem dL_law_280 : decode cL_law 280 = .ok (.goto 4, 3) := by decide +kernel
theorem dL_law_283 : decode cL_law 283 = .ok (.iconst 0, 1) := by decide +kernel
theorem dL_law_284 : decode cL_law 284 = .ok (.invokevirtual 22, 3) := by decide +kernel
theorem dL_law_287 : decode cL_law 287 = .ok (.if_icmp .eq 1061, 3) := by decide +kernel
theorem dL_law_290 : decode cL_law 290 = .ok (.iconst 0, 1) := by decide +kernel
theorem dL_law_291 : decode cL_law 291 = .ok (.ireturn, 1) := by decide +kernel
theorem dL_law_292 : decode cL_law 292 = .ok (.aload_n 1, 1) := by decide +kernel
theorem dL_law_293 : decode cL_law 293 = .ok (.aload_n 0, 1) := by decide +kernel
theorem dL_law_294 : decode cL_law 294 = .ok (.iload_n 3, 1) := by decide +kernel
theorem dL_law_295 : decode cL_law 295 = .ok (.iconst 1, 1) := by decide +kernel
theorem dL_law_296 : decode cL_law 296 = .ok (.iadd, 1) := by decide +kernel
theorem dL_law_297 : decode cL_law 297 = .ok (.iaload, 1) := by decide +kernel
theorem dL_law_298 : decode cL_law 298 = .ok (.aload_n 0, 1) := by decide +kernel
theorem dL_law_299 : decode cL_law 299 = .ok (.iload_n 3, 1) := by decide +kernel
theorem dL_law_300 : decode cL_law 300 = .ok (.iconst 2, 1) := by decide +kernel
theorem dL_law_301 : decode cL_law 301 = .ok (.iadd, 1) := by decide +kernel
theorem dL_law_302 : decode cL_law 302 = .ok (.iaload, 1) := by decide +kernel
theorem dL_law_303 : decode cL_law 303 = .ok (.aload_n 0, 1) := by decide +kernel
theorem dL_law_304 : decode cL_law 304 = .ok (.iload_n 3, 1) := by decide +kernel
theorem dL_law_305 : decode cL_law 305 = .ok (.iconst 3, 1) := by decide +kernel
theorem dL_law_306 : decode cL_law 306 = .ok (.iadd, 1) := by decide +kernel
theorem dL_law_307 : decode cL_law 307 = .ok (.iaload, 1) := by decide +kernel
theorem dL_law_308 : decode cL_law 308 = .ok (.aload_n 0, 1) := by decide +kernel
theorem dL_law_309 : decode cL_law 309 = .ok (.iload_n 3, 1) := by decide +kernel
theorem dL_law_310 : decode cL_law 310 = .ok (.iconst 4, 1) := by decide +kernel
theorem dL_law_311 : decode cL_law 311 = .ok (.iadd, 1) := by decide +kernel
theorem dL_law_312 : decode cL_law 312 = .ok (.iaload, 1) := by decide +kernel
theorem dL_law_313 : decode cL_law 313 = .ok (.aload_n 0, 1) := by decide +kernel
theorem dL_law_314 : decode cL_law 314 = .ok (.iload_n 3, 1) := by decide +kernel
theorem dL_law_315 : decode cL_law 315 = .ok (.iconst 5, 1) := by decide +kernel
theorem dL_law_316 : decode cL_law 316 = .ok (.iadd, 1) := by decide +kernel
theorem dL_law_317 : decode cL_law 317 = .ok (.iaload, 1) := by decide +kernel
theorem dL_law_318 : decode cL_law 318 = .ok (.invokevirtual 23, 3) := by decide +kernel
theorem dL_law_321 : decode cL_law 321 = .ok (.aload_n 2, 1) := by decide +kernel
theorem dL_law_322 : decode cL_law 322 = .ok (.aload_n 0, 1) := by decide +kernel
theorem dL_law_323 : decode cL_law 323 = .ok (.iload_n 3, 1) := by decide +kernel
theorem dL_law_324 : decode cL_law 324 = .ok (.iconst 1, 1) := by decide +kernel
theorem dL_law_325 : decode cL_law 325 = .ok (.iadd, 1) := by decide +kernel
theorem dL_law_326 : decode cL_law 326 = .ok (.iaload, 1) := by decide +kernel
theorem dL_law_327 : decode cL_law 327 = .ok (.aload_n 0, 1) := by decide +kernel
theorem dL_law_328 : decode cL_law 328 = .ok (.iload_n 3, 1) := by decide +kernel
theorem dL_law_329 : decode cL_law 329 = .ok (.iconst 2, 1) := by decide +kernel
theorem dL_law_330 : decode cL_law 330 = .ok (.iadd, 1) := by decide +kernel
theorem dL_law_331 : decode cL_law 331 = .ok (.iaload, 1) := by decide +kernel
theorem dL_law_332 : decode cL_law 332 = .ok (.aload_n 0, 1) := by decide +kernel
theorem dL_law_333 : decode cL_law 333 = .ok (.iload_n 3, 1) := by decide +kernel
theorem dL_law_334 : decode cL_law 334 = .ok (.iconst 3, 1) := by decide +kernel
theorem dL_law_335 : decode cL_law 335 = .ok (.iadd, 1) := by decide +kernel
theorem dL_law_336 : decode cL_law 336 = .ok (.iaload, 1) := by decide +kernel
theorem dL_law_337 : decode cL_law 337 = .ok (.aload_n 0, 1) := by decide +kernel
theorem dL_law_338 : decode cL_law 338 = .ok (.iload_n 3, 1) := by decide +kernel
theorem dL_law_339 : decode cL_law 339 = .ok (.iconst 4, 1) := by decide +kernel
theorem dL_law_340 : decode cL_law 340 = .ok (.iadd, 1) := by decide +kernel
theorem dL_law_341 : decode cL_law 341 = .ok (.iaload, 1) := by decide +kernel
theorem dL_law_342 : decode cL_law 342 = .ok (.aload_n 0, 1) := by decide +kernel
theorem dL_law_343 : decode cL_law 343 = .ok (.iload_n 3, 1) := by decide +kernel
theorem dL_law_344 : decode cL_law 344 = .ok (.iconst 5, 1) := by decide +kernel
theorem dL_law_345 : decode cL_law 345 = .ok (.iadd, 1) := by decide +kernel
theorem dL_law_346 : decode cL_law 346 = .ok (.iaload, 1) := by decide +kernel
theorem dL_law_347 : decode cL_law 347 = .ok (.invokevirtual 27, 3) := by decide +kernel
theorem dL_law_350 : decode cL_law 350 = .ok (.if_icmp .eq 998, 3) := by decide +kernel
theorem dL_law_353 : decode cL_law 353 = .ok (.iconst 0, 1) := by decide +kernel
theorem dL_law_354 : decode cL_law 354 = .ok (.ireturn, 1) := by decide +kernel
theorem dL_law_355 : decode cL_law 355 = .ok (.aload_n 1, 1) := by decide +kernel
theorem dL_law_356 : decode cL_law 356 = .ok (.aload_n 0, 1) := by decide +kernel
theorem dL_law_357 : decode cL_law 357 = .ok (.iload_n 3, 1) := by decide +kernel
theorem dL_law_358 : decode cL_law 358 = .ok (.iconst 1, 1) := by decide +kernel
theorem dL_law_359 : decode cL_law 359 = .ok (.iadd, 1) := by decide +kernel
theorem dL_law_360 : decode cL_law 360 = .ok (.iaload, 1) := by decide +kernel
theorem dL_law_361 : decode cL_law 361 = .ok (.aload_n 0, 1) := by decide +kernel
theorem dL_law_362 : decode cL_law 362 = .ok (.iload_n 3, 1) := by decide +kernel
theorem dL_law_363 : decode cL_law 363 = .ok (.iconst 2, 1) := by decide +kernel
theorem dL_law_364 : decode cL_law 364 = .ok (.iadd, 1) := by decide +kernel
theorem dL_law_365 : decode cL_law 365 = .ok (.iaload, 1) := by decide +kernel
theorem dL_law_366 : decode cL_law 366 = .ok (.aload_n 0, 1) := by decide +kernel
theorem dL_law_367 : decode cL_law 367 = .ok (.iload_n 3, 1) := by decide +kernel
theorem dL_law_368 : decode cL_law 368 = .ok (.iconst 3, 1) := by decide +kernel
theorem dL_law_369 : decode cL_law 369 = .ok (.iadd, 1) := by decide +kernel
theorem dL_law_370 : decode cL_law 370 = .ok (.iaload, 1) := by decide +kernel
theorem dL_law_371 : decode cL_law 371 = .ok (.invokevirtual 28, 3) := by decide +kernel
theorem dL_law_374 : decode cL_law 374 = .ok (.aload_n 2, 1) := by decide +kernel
theorem dL_law_375 : decode cL_law 375 = .ok (.aload_n 0, 1) := by decide +kernel
theorem dL_law_376 : decode cL_law 376 = .ok (.iload_n 3, 1) := by decide +kernel
theorem dL_law_377 : decode cL_law 377 = .ok (.iconst 1, 1) := by decide +kernel
theorem dL_law_378 : decode cL_law 378 = .ok (.iadd, 1) := by decide +kernel
theorem dL_law_379 : decode cL_law 379 = .ok (.iaload, 1) := by decide +kernel
theorem dL_law_380 : decode cL_law 380 = .ok (.aload_n 0, 1) := by decide +kernel
theorem dL_law_381 : decode cL_law 381 = .ok (.iload_n 3, 1) := by decide +kernel
theorem dL_law_382 : decode cL_law 382 = .ok (.iconst 2, 1) := by decide +kernel
theorem dL_law_383 : decode cL_law 383 = .ok (.iadd, 1) := by decide +kernel
theorem dL_law_384 : decode cL_law 384 = .ok (.iaload, 1) := by decide +kernel
theorem dL_law_385 : decode cL_law 385 = .ok (.aload_n 0, 1) := by decide +kernel
theorem dL_law_386 : decode cL_law 386 = .ok (.iload_n 3, 1) := by decide +kernel
theorem dL_law_387 : decode cL_law 387 = .ok (.iconst 3, 1) := by decide +kernel
theorem dL_law_388 : decode cL_law 388 = .ok (.iadd, 1) := by decide +kernel
theorem dL_law_389 : decode cL_law 389 = .ok (.iaload, 1) := by decide +kernel
theorem dL_law_390 : decode cL_law 390 = .ok (.invokevirtual 32, 3) := by decide +kernel
theorem dL_law_393 : decode cL_law 393 = .ok (.if_icmp .eq 955, 3) := by decide +kernel
theorem dL_law_396 : decode cL_law 396 = .ok (.iconst 0, 1) := by decide +kernel
theorem dL_law_397 : decode cL_law 397 = .ok (.ireturn, 1) := by decide +kernel
theorem dL_law_398 : decode cL_law 398 = .ok (.aload_n 1, 1) := by decide +kernel
theorem dL_law_399 : decode cL_law 399 = .ok (.aload_n 0, 1) := by decide +kernel
theorem dL_law_400 : decode cL_law 400 = .ok (.iload_n 3, 1) := by decide +kernel
theorem dL_law_401 : decode cL_law 401 = .ok (.iconst 1, 1) := by decide +kernel
theorem dL_law_402 : decode cL_law 402 = .ok (.iadd, 1) := by decide +kernel
theorem dL_law_403 : decode cL_law 403 = .ok (.iaload, 1) := by decide +kernel
theorem dL_law_404 : decode cL_law 404 = .ok (.aload_n 0, 1) := by decide +kernel
theorem dL_law_405 : decode cL_law 405 = .ok (.iload_n 3, 1) := by decide +kernel
theorem dL_law_406 : decode cL_law 406 = .ok (.iconst 2, 1) := by decide +kernel
theorem dL_law_407 : decode cL_law 407 = .ok (.iadd, 1) := by decide +kernel
theorem dL_law_408 : decode cL_law 408 = .ok (.iaload, 1) := by decide +kernel
theorem dL_law_409 : decode cL_law 409 = .ok (.invokevirtual 33, 3) := by decide +kernel
theorem dL_law_412 : decode cL_law 412 = .ok (.aload_n 2, 1) := by decide +kernel
theorem dL_law_413 : decode cL_law 413 = .ok (.aload_n 0, 1) := by decide +kernel
theorem dL_law_414 : decode cL_law 414 = .ok (.iload_n 3, 1) := by decide +kernel
theorem dL_law_415 : decode cL_law 415 = .ok (.iconst 1, 1) := by decide +kernel
theorem dL_law_416 : decode cL_law 416 = .ok (.iadd, 1) := by decide +kernel
theorem dL_law_417 : decode cL_law 417 = .ok (.iaload, 1) := by decide +kernel
theorem dL_law_418 : decode cL_law 418 = .ok (.aload_n 0, 1) := by decide +kernel
theorem dL_law_419 : decode cL_law 419 = .ok (.iload_n 3, 1) := by decide +kernel
theorem dL_law_420 : decode cL_law 420 = .ok (.iconst 2, 1) := by decide +kernel
theorem dL_law_421 : decode cL_law 421 = .ok (.iadd, 1) := by decide +kernel
theorem dL_law_422 : decode cL_law 422 = .ok (.iaload, 1) := by decide +kernel
theorem dL_law_423 : decode cL_law 423 = .ok (.invokevirtual 37, 3) := by decide +kernel
theorem dL_law_426 : decode cL_law 426 = .ok (.if_icmp .eq 922, 3) := by decide +kernel
theorem dL_law_429 : decode cL_law 429 = .ok (.iconst 0, 1) := by decide +kernel
theorem dL_law_430 : decode cL_law 430 = .ok (.ireturn, 1) := by decide +kernel
theorem dL_law_431 : decode cL_law 431 = .ok (.aload_n 1, 1) := by decide +kernel
theorem dL_law_432 : decode cL_law 432 = .ok (.aload_n 0, 1) := by decide +kernel
theorem dL_law_433 : decode cL_law 433 = .ok (.iload_n 3, 1) := by decide +kernel
theorem dL_law_434 : decode cL_law 434 = .ok (.iconst 1, 1) := by decide +kernel
theorem dL_law_435 : decode cL_law 435 = .ok (.iadd, 1) := by decide +kernel
theorem dL_law_436 : decode cL_law 436 = .ok (.iaload, 1) := by decide +kernel
theorem dL_law_437 : decode cL_law 437 = .ok (.invokevirtual 38, 3) := by decide +kernel
theorem dL_law_440 : decode cL_law 440 = .ok (.aload_n 2, 1) := by decide +kernel
theorem dL_law_441 : decode cL_law 441 = .ok (.aload_n 0, 1) := by decide +kernel
theorem dL_law_442 : decode cL_law 442 = .ok (.iload_n 3, 1) := by decide +kernel
theorem dL_law_443 : decode cL_law 443 = .ok (.iconst 1, 1) := by decide +kernel
theorem dL_law_444 : decode cL_law 444 = .ok (.iadd, 1) := by decide +kernel
theorem dL_law_445 : decode cL_law 445 = .ok (.iaload, 1) := by decide +kernel
theorem dL_law_446 : decode cL_law 446 = .ok (.invokevirtual 42, 3) := by decide +kernel
theorem dL_law_449 : decode cL_law 449 = .ok (.if_icmp .eq 899, 3) := by decide +kernel
theorem dL_law_452 : decode cL_law 452 = .ok (.iconst 0, 1) := by decide +kernel
theorem dL_law_453 : decode cL_law 453 = .ok (.ireturn, 1) := by decide +kernel
theorem dL_law_454 : decode cL_law 454 = .ok (.aload_n 1, 1) := by decide +kernel
theorem dL_law_455 : decode cL_law 455 = .ok (.aload_n 0, 1) := by decide +kernel
theorem dL_law_456 : decode cL_law 456 = .ok (.iload_n 3, 1) := by decide +kernel
theorem dL_law_457 : decode cL_law 457 = .ok (.iconst 1, 1) := by decide +kernel
theorem dL_law_458 : decode cL_law 458 = .ok (.iadd, 1) := by decide +kernel
theorem dL_law_459 : decode cL_law 459 = .ok (.iaload, 1) := by decide +kernel
theorem dL_law_460 : decode cL_law 460 = .ok (.invokevirtual 43, 3) := by decide +kernel
theorem dL_law_463 : decode cL_law 463 = .ok (.aload_n 2, 1) := by decide +kernel
theorem dL_law_464 : decode cL_law 464 = .ok (.aload_n 0, 1) := by decide +kernel
theorem dL_law_465 : decode cL_law 465 = .ok (.iload_n 3, 1) := by decide +kernel
theorem dL_law_466 : decode cL_law 466 = .ok (.iconst 1, 1) := by decide +kernel
theorem dL_law_467 : decode cL_law 467 = .ok (.iadd, 1) := by decide +kernel
theorem dL_law_468 : decode cL_law 468 = .ok (.iaload, 1) := by decide +kernel
theorem dL_law_469 : decode cL_law 469 = .ok (.invokevirtual 46, 3) := by decide +kernel
theorem dL_law_472 : decode cL_law 472 = .ok (.if_icmp .eq 876, 3) := by decide +kernel
theorem dL_law_475 : decode cL_law 475 = .ok (.iconst 0, 1) := by decide +kernel
theorem dL_law_476 : decode cL_law 476 = .ok (.ireturn, 1) := by decide +kernel
theorem dL_law_477 : decode cL_law 477 = .ok (.aload_n 1, 1) := by decide +kernel
theorem dL_law_478 : decode cL_law 478 = .ok (.aload_n 0, 1) := by decide +kernel
theorem dL_law_479 : decode cL_law 479 = .ok (.iload_n 3, 1) := by decide +kernel
theorem dL_law_480 : decode cL_law 480 = .ok (.iconst 1, 1) := by decide +kernel
theorem dL_law_481 : decode cL_law 481 = .ok (.iadd, 1) := by decide +kernel
theorem dL_law_482 : decode cL_law 482 = .ok (.iaload, 1) := by decide +kernel
theorem dL_law_483 : decode cL_law 483 = .ok (.aload_n 0, 1) := by decide +kernel
theorem dL_law_484 : decode cL_law 484 = .ok (.iload_n 3, 1) := by decide +kernel
theorem dL_law_485 : decode cL_law 485 = .ok (.iconst 2, 1) := by decide +kernel
theorem dL_law_486 : decode cL_law 486 = .ok (.iadd, 1) := by decide +kernel
theorem dL_law_487 : decode cL_law 487 = .ok (.iaload, 1) := by decide +kernel
theorem dL_law_488 : decode cL_law 488 = .ok (.aload_n 0, 1) := by decide +kernel
theorem dL_law_489 : decode cL_law 489 = .ok (.iload_n 3, 1) := by decide +kernel
theorem dL_law_490 : decode cL_law 490 = .ok (.iconst 3, 1) := by decide +kernel
theorem dL_law_491 : decode cL_law 491 = .ok (.iadd, 1) := by decide +kernel
theorem dL_law_492 : decode cL_law 492 = .ok (.iaload, 1) := by decide +kernel
theorem dL_law_493 : decode cL_law 493 = .ok (.invokevirtual 47, 3) := by decide +kernel
theorem dL_law_496 : decode cL_law 496 = .ok (.aload_n 2, 1) := by decide +kernel
theorem dL_law_497 : decode cL_law 497 = .ok (.aload_n 0, 1) := by decide +kernel
theorem dL_law_498 : decode cL_law 498 = .ok (.iload_n 3, 1) := by decide +kernel
theorem dL_law_499 : decode cL_law 499 = .ok (.iconst 1, 1) := by decide +kernel
theorem dL_law_500 : decode cL_law 500 = .ok (.iadd, 1) := by decide +kernel
theorem dL_law_501 : decode cL_law 501 = .ok (.iaload, 1) := by decide +kernel
theorem dL_law_502 : decode cL_law 502 = .ok (.aload_n 0, 1) := by decide +kernel
theorem dL_law_503 : decode cL_law 503 = .ok (.iload_n 3, 1) := by decide +kernel
theorem dL_law_504 : decode cL_law 504 = .ok (.iconst 2, 1) := by decide +kernel
theorem dL_law_505 : decode cL_law 505 = .ok (.iadd, 1) := by decide +kernel
theorem dL_law_506 : decode cL_law 506 = .ok (.iaload, 1) := by decide +kernel
theorem dL_law_507 : decode cL_law 507 = .ok (.aload_n 0, 1) := by decide +kernel
theorem dL_law_508 : decode cL_law 508 = .ok (.iload_n 3, 1) := by decide +kernel
theorem dL_law_509 : decode cL_law 509 = .ok (.iconst 3, 1) := by decide +kernel
theorem dL_law_510 : decode cL_law 510 = .ok (.iadd, 1) := by decide +kernel
theorem dL_law_511 : decode cL_law 511 = .ok (.iaload, 1) := by decide +kernel
theorem dL_law_512 : decode cL_law 512 = .ok (.invokevirtual 50, 3) := by decide +kernel
theorem dL_law_515 : decode cL_law 515 = .ok (.if_icmp .eq 833, 3) := by decide +kernel
theorem dL_law_518 : decode cL_law 518 = .ok (.iconst 0, 1) := by decide +kernel
theorem dL_law_519 : decode cL_law 519 = .ok (.ireturn, 1) := by decide +kernel
theorem dL_law_520 : decode cL_law 520 = .ok (.aload_n 1, 1) := by decide +kernel
theorem dL_law_521 : decode cL_law 521 = .ok (.aload_n 0, 1) := by decide +kernel
theorem dL_law_522 : decode cL_law 522 = .ok (.iload_n 3, 1) := by decide +kernel
theorem dL_law_523 : decode cL_law 523 = .ok (.iconst 1, 1) := by decide +kernel
theorem dL_law_524 : decode cL_law 524 = .ok (.iadd, 1) := by decide +kernel
theorem dL_law_525 : decode cL_law 525 = .ok (.iaload, 1) := by decide +kernel
theorem dL_law_526 : decode cL_law 526 = .ok (.aload_n 0, 1) := by decide +kernel
theorem dL_law_527 : decode cL_law 527 = .ok (.iload_n 3, 1) := by decide +kernel
theorem dL_law_528 : decode cL_law 528 = .ok (.iconst 2, 1) := by decide +kernel
theorem dL_law_529 : decode cL_law 529 = .ok (.iadd, 1) := by decide +kernel
theorem dL_law_530 : decode cL_law 530 = .ok (.iaload, 1) := by decide +kernel
theorem dL_law_531 : decode cL_law 531 = .ok (.invokevirtual 51, 3) := by decide +kernel
theorem dL_law_534 : decode cL_law 534 = .ok (.aload_n 2, 1) := by decide +kernel
theorem dL_law_535 : decode cL_law 535 = .ok (.aload_n 0, 1) := by decide +kernel
theorem dL_law_536 : decode cL_law 536 = .ok (.iload_n 3, 1) := by decide +kernel
theorem dL_law_537 : decode cL_law 537 = .ok (.iconst 1, 1) := by decide +kernel
theorem dL_law_538 : decode cL_law 538 = .ok (.iadd, 1) := by decide +kernel
theorem dL_law_539 : decode cL_law 539 = .ok (.iaload, 1) := by decide +kernel
theorem dL_law_540 : decode cL_law 540 = .ok (.aload_n 0, 1) := by decide +kernel
theorem dL_law_541 : decode cL_law 541 = .ok (.iload_n 3, 1) := by decide +kernel
theorem dL_law_542 : decode cL_law 542 = .ok (.iconst 2, 1) := by decide +kernel
theorem dL_law_543 : decode cL_law 543 = .ok (.iadd, 1) := by decide +kernel
theorem dL_law_544 : decode cL_law 544 = .ok (.iaload, 1) := by decide +kernel
theorem dL_law_545 : decode cL_law 545 = .ok (.invokevirtual 54, 3) := by decide +kernel
theorem dL_law_548 : decode cL_law 548 = .ok (.if_icmp .eq 800, 3) := by decide +kernel
theorem dL_law_551 : decode cL_law 551 = .ok (.iconst 0, 1) := by decide +kernel
theorem dL_law_552 : decode cL_law 552 = .ok (.ireturn, 1) := by decide +kernel
theorem dL_law_553 : decode cL_law 553 = .ok (.aload_n 1, 1) := by decide +kernel
theorem dL_law_554 : decode cL_law 554 = .ok (.aload_n 0, 1) := by decide +kernel
theorem dL_law_555 : decode cL_law 555 = .ok (.iload_n 3, 1) := by decide +kernel
theorem dL_law_556 : decode cL_law 556 = .ok (.iconst 1, 1) := by decide +kernel
theorem dL_law_557 : decode cL_law 557 = .ok (.iadd, 1) := by decide +kernel
theorem dL_law_558 : decode cL_law 558 = .ok (.iaload, 1) := by decide +kernel
theorem dL_law_559 : decode cL_law 559 = .ok (.aload_n 0, 1) := by decide +kernel
theorem dL_law_560 : decode cL_law 560 = .ok (.iload_n 3, 1) := by decide +kernel
theorem dL_law_561 : decode cL_law 561 = .ok (.iconst 2, 1) := by decide +kernel
theorem dL_law_562 : decode cL_law 562 = .ok (.iadd, 1) := by decide +kernel
theorem dL_law_563 : decode cL_law 563 = .ok (.iaload, 1) := by decide +kernel
theorem dL_law_564 : decode cL_law 564 = .ok (.aload_n 0, 1) := by decide +kernel
theorem dL_law_565 : decode cL_law 565 = .ok (.iload_n 3, 1) := by decide +kernel
theorem dL_law_566 : decode cL_law 566 = .ok (.iconst 3, 1) := by decide +kernel
theorem dL_law_567 : decode cL_law 567 = .ok (.iadd, 1) := by decide +kernel
theorem dL_law_568 : decode cL_law 568 = .ok (.iaload, 1) := by decide +kernel
theorem dL_law_569 : decode cL_law 569 = .ok (.invokevirtual 55, 3) := by decide +kernel
theorem dL_law_572 : decode cL_law 572 = .ok (.aload_n 2, 1) := by decide +kernel
theorem dL_law_573 : decode cL_law 573 = .ok (.aload_n 0, 1) := by decide +kernel
theorem dL_law_574 : decode cL_law 574 = .ok (.iload_n 3, 1) := by decide +kernel
theorem dL_law_575 : decode cL_law 575 = .ok (.iconst 1, 1) := by decide +kernel
theorem dL_law_576 : decode cL_law 576 = .ok (.iadd, 1) := by decide +kernel
theorem dL_law_577 : decode cL_law 577 = .ok (.iaload, 1) := by decide +kernel
theorem dL_law_578 : decode cL_law 578 = .ok (.aload_n 0, 1) := by decide +kernel
theorem dL_law_579 : decode cL_law 579 = .ok (.iload_n 3, 1) := by decide +kernel
theorem dL_law_580 : decode cL_law 580 = .ok (.iconst 2, 1) := by decide +kernel
theorem dL_law_581 : decode cL_law 581 = .ok (.iadd, 1) := by decide +kernel
theorem dL_law_582 : decode cL_law 582 = .ok (.iaload, 1) := by decide +kernel
theorem dL_law_583 : decode cL_law 583 = .ok (.aload_n 0, 1) := by decide +kernel
theorem dL_law_584 : decode cL_law 584 = .ok (.iload_n 3, 1) := by decide +kernel
theorem dL_law_585 : decode cL_law 585 = .ok (.iconst 3, 1) := by decide +kernel
theorem dL_law_586 : decode cL_law 586 = .ok (.iadd, 1) := by decide +kernel
theorem dL_law_587 : decode cL_law 587 = .ok (.iaload, 1) := by decide +kernel
theorem dL_law_588 : decode cL_law 588 = .ok (.invokevirtual 58, 3) := by decide +kernel
theorem dL_law_591 : decode cL_law 591 = .ok (.if_icmp .eq 757, 3) := by decide +kernel
theorem dL_law_594 : decode cL_law 594 = .ok (.iconst 0, 1) := by decide +kernel
theorem dL_law_595 : decode cL_law 595 = .ok (.ireturn, 1) := by decide +kernel
theorem dL_law_596 : decode cL_law 596 = .ok (.aload_n 1, 1) := by decide +kernel
theorem dL_law_597 : decode cL_law 597 = .ok (.aload_n 0, 1) := by decide +kernel
theorem dL_law_598 : decode cL_law 598 = .ok (.iload_n 3, 1) := by decide +kernel
theorem dL_law_599 : decode cL_law 599 = .ok (.iconst 1, 1) := by decide +kernel
theorem dL_law_600 : decode cL_law 600 = .ok (.iadd, 1) := by decide +kernel
theorem dL_law_601 : decode cL_law 601 = .ok (.iaload, 1) := by decide +kernel
theorem dL_law_602 : decode cL_law 602 = .ok (.aload_n 0, 1) := by decide +kernel
theorem dL_law_603 : decode cL_law 603 = .ok (.iload_n 3, 1) := by decide +kernel
theorem dL_law_604 : decode cL_law 604 = .ok (.iconst 2, 1) := by decide +kernel
theorem dL_law_605 : decode cL_law 605 = .ok (.iadd, 1) := by decide +kernel
theorem dL_law_606 : decode cL_law 606 = .ok (.iaload, 1) := by decide +kernel
theorem dL_law_607 : decode cL_law 607 = .ok (.invokevirtual 59, 3) := by decide +kernel
theorem dL_law_610 : decode cL_law 610 = .ok (.aload_n 2, 1) := by decide +kernel
theorem dL_law_611 : decode cL_law 611 = .ok (.aload_n 0, 1) := by decide +kernel
theorem dL_law_612 : decode cL_law 612 = .ok (.iload_n 3, 1) := by decide +kernel
theorem dL_law_613 : decode cL_law 613 = .ok (.iconst 1, 1) := by decide +kernel
theorem dL_law_614 : decode cL_law 614 = .ok (.iadd, 1) := by decide +kernel
theorem dL_law_615 : decode cL_law 615 = .ok (.iaload, 1) := by decide +kernel
theorem dL_law_616 : decode cL_law 616 = .ok (.aload_n 0, 1) := by decide +kernel
theorem dL_law_617 : decode cL_law 617 = .ok (.iload_n 3, 1) := by decide +kernel
theorem dL_law_618 : decode cL_law 618 = .ok (.iconst 2, 1) := by decide +kernel
theorem dL_law_619 : decode cL_law 619 = .ok (.iadd, 1) := by decide +kernel
theorem dL_law_620 : decode cL_law 620 = .ok (.iaload, 1) := by decide +kernel
theorem dL_law_621 : decode cL_law 621 = .ok (.invokevirtual 62, 3) := by decide +kernel
theorem dL_law_624 : decode cL_law 624 = .ok (.if_icmp .eq 724, 3) := by decide +kernel
theorem dL_law_627 : decode cL_law 627 = .ok (.iconst 0, 1) := by decide +kernel
theorem dL_law_628 : decode cL_law 628 = .ok (.ireturn, 1) := by decide +kernel
theorem dL_law_629 : decode cL_law 629 = .ok (.aload_n 1, 1) := by decide +kernel
theorem dL_law_630 : decode cL_law 630 = .ok (.aload_n 0, 1) := by decide +kernel
theorem dL_law_631 : decode cL_law 631 = .ok (.iload_n 3, 1) := by decide +kernel
theorem dL_law_632 : decode cL_law 632 = .ok (.iconst 1, 1) := by decide +kernel
theorem dL_law_633 : decode cL_law 633 = .ok (.iadd, 1) := by decide +kernel
theorem dL_law_634 : decode cL_law 634 = .ok (.iaload, 1) := by decide +kernel
theorem dL_law_635 : decode cL_law 635 = .ok (.aload_n 0, 1) := by decide +kernel
theorem dL_law_636 : decode cL_law 636 = .ok (.iload_n 3, 1) := by decide +kernel
theorem dL_law_637 : decode cL_law 637 = .ok (.iconst 2, 1) := by decide +kernel
theorem dL_law_638 : decode cL_law 638 = .ok (.iadd, 1) := by decide +kernel
theorem dL_law_639 : decode cL_law 639 = .ok (.iaload, 1) := by decide +kernel
theorem dL_law_640 : decode cL_law 640 = .ok (.aload_n 0, 1) := by decide +kernel
theorem dL_law_641 : decode cL_law 641 = .ok (.iload_n 3, 1) := by decide +kernel
theorem dL_law_642 : decode cL_law 642 = .ok (.iconst 3, 1) := by decide +kernel
theorem dL_law_643 : decode cL_law 643 = .ok (.iadd, 1) := by decide +kernel
theorem dL_law_644 : decode cL_law 644 = .ok (.iaload, 1) := by decide +kernel
theorem dL_law_645 : decode cL_law 645 = .ok (.invokevirtual 63, 3) := by decide +kernel
theorem dL_law_648 : decode cL_law 648 = .ok (.aload_n 2, 1) := by decide +kernel
theorem dL_law_649 : decode cL_law 649 = .ok (.aload_n 0, 1) := by decide +kernel
theorem dL_law_650 : decode cL_law 650 = .ok (.iload_n 3, 1) := by decide +kernel
theorem dL_law_651 : decode cL_law 651 = .ok (.iconst 1, 1) := by decide +kernel
theorem dL_law_652 : decode cL_law 652 = .ok (.iadd, 1) := by decide +kernel
theorem dL_law_653 : decode cL_law 653 = .ok (.iaload, 1) := by decide +kernel
theorem dL_law_654 : decode cL_law 654 = .ok (.aload_n 0, 1) := by decide +kernel
theorem dL_law_655 : decode cL_law 655 = .ok (.iload_n 3, 1) := by decide +kernel
theorem dL_law_656 : decode cL_law 656 = .ok (.iconst 2, 1) := by decide +kernel
theorem dL_law_657 : decode cL_law 657 = .ok (.iadd, 1) := by decide +kernel
theorem dL_law_658 : decode cL_law 658 = .ok (.iaload, 1) := by decide +kernel
theorem dL_law_659 : decode cL_law 659 = .ok (.aload_n 0, 1) := by decide +kernel
theorem dL_law_660 : decode cL_law 660 = .ok (.iload_n 3, 1) := by decide +kernel
theorem dL_law_661 : decode cL_law 661 = .ok (.iconst 3, 1) := by decide +kernel
theorem dL_law_662 : decode cL_law 662 = .ok (.iadd, 1) := by decide +kernel
theorem dL_law_663 : decode cL_law 663 = .ok (.iaload, 1) := by decide +kernel
theorem dL_law_664 : decode cL_law 664 = .ok (.invokevirtual 66, 3) := by decide +kernel
theorem dL_law_667 : decode cL_law 667 = .ok (.if_icmp .eq 681, 3) := by decide +kernel
theorem dL_law_670 : decode cL_law 670 = .ok (.iconst 0, 1) := by decide +kernel
theorem dL_law_671 : decode cL_law 671 = .ok (.ireturn, 1) := by decide +kernel
theorem dL_law_672 : decode cL_law 672 = .ok (.aload_n 1, 1) := by decide +kernel
theorem dL_law_673 : decode cL_law 673 = .ok (.aload_n 0, 1) := by decide +kernel
theorem dL_law_674 : decode cL_law 674 = .ok (.iload_n 3, 1) := by decide +kernel
theorem dL_law_675 : decode cL_law 675 = .ok (.iconst 1, 1) := by decide +kernel
theorem dL_law_676 : decode cL_law 676 = .ok (.iadd, 1) := by decide +kernel
theorem dL_law_677 : decode cL_law 677 = .ok (.iaload, 1) := by decide +kernel
theorem dL_law_678 : decode cL_law 678 = .ok (.aload_n 0, 1) := by decide +kernel
theorem dL_law_679 : decode cL_law 679 = .ok (.iload_n 3, 1) := by decide +kernel
theorem dL_law_680 : decode cL_law 680 = .ok (.iconst 2, 1) := by decide +kernel
theorem dL_law_681 : decode cL_law 681 = .ok (.iadd, 1) := by decide +kernel
theorem dL_law_682 : decode cL_law 682 = .ok (.iaload, 1) := by decide +kernel
theorem dL_law_683 : decode cL_law 683 = .ok (.aload_n 0, 1) := by decide +kernel
theorem dL_law_684 : decode cL_law 684 = .ok (.iload_n 3, 1) := by decide +kernel
theorem dL_law_685 : decode cL_law 685 = .ok (.iconst 3, 1) := by decide +kernel
theorem dL_law_686 : decode cL_law 686 = .ok (.iadd, 1) := by decide +kernel
theorem dL_law_687 : decode cL_law 687 = .ok (.iaload, 1) := by decide +kernel
theorem dL_law_688 : decode cL_law 688 = .ok (.invokevirtual 67, 3) := by decide +kernel
theorem dL_law_691 : decode cL_law 691 = .ok (.aload_n 2, 1) := by decide +kernel
theorem dL_law_692 : decode cL_law 692 = .ok (.aload_n 0, 1) := by decide +kernel
theorem dL_law_693 : decode cL_law 693 = .ok (.iload_n 3, 1) := by decide +kernel
theorem dL_law_694 : decode cL_law 694 = .ok (.iconst 1, 1) := by decide +kernel
theorem dL_law_695 : decode cL_law 695 = .ok (.iadd, 1) := by decide +kernel
theorem dL_law_696 : decode cL_law 696 = .ok (.iaload, 1) := by decide +kernel
theorem dL_law_697 : decode cL_law 697 = .ok (.aload_n 0, 1) := by decide +kernel
theorem dL_law_698 : decode cL_law 698 = .ok (.iload_n 3, 1) := by decide +kernel
theorem dL_law_699 : decode cL_law 699 = .ok (.iconst 2, 1) := by decide +kernel
theorem dL_law_700 : decode cL_law 700 = .ok (.iadd, 1) := by decide +kernel
theorem dL_law_701 : decode cL_law 701 = .ok (.iaload, 1) := by decide +kernel
theorem dL_law_702 : decode cL_law 702 = .ok (.aload_n 0, 1) := by decide +kernel
end
section
theorem dL_law_703 : decode cL_law 703 = .ok (.iload_n 3, 1) := by decide +kernel
theorem dL_law_704 : decode cL_law 704 = .ok (.iconst 3, 1) := by decide +kernel
theorem dL_law_705 : decode cL_law 705 = .ok (.iadd, 1) := by decide +kernel
theorem dL_law_706 : decode cL_law 706 = .ok (.iaload, 1) := by decide +kernel
theorem dL_law_707 : decode cL_law 707 = .ok (.invokevirtual 70, 3) := by decide +kernel
theorem dL_law_710 : decode cL_law 710 = .ok (.if_icmp .eq 638, 3) := by decide +kernel
theorem dL_law_713 : decode cL_law 713 = .ok (.iconst 0, 1) := by decide +kernel
theorem dL_law_714 : decode cL_law 714 = .ok (.ireturn, 1) := by decide +kernel
theorem dL_law_715 : decode cL_law 715 = .ok (.aload_n 1, 1) := by decide +kernel
theorem dL_law_716 : decode cL_law 716 = .ok (.aload_n 0, 1) := by decide +kernel
theorem dL_law_717 : decode cL_law 717 = .ok (.iload_n 3, 1) := by decide +kernel
theorem dL_law_718 : decode cL_law 718 = .ok (.iconst 1, 1) := by decide +kernel
theorem dL_law_719 : decode cL_law 719 = .ok (.iadd, 1) := by decide +kernel
theorem dL_law_720 : decode cL_law 720 = .ok (.iaload, 1) := by decide +kernel
theorem dL_law_721 : decode cL_law 721 = .ok (.invokevirtual 71, 3) := by decide +kernel
theorem dL_law_724 : decode cL_law 724 = .ok (.aload_n 2, 1) := by decide +kernel
theorem dL_law_725 : decode cL_law 725 = .ok (.aload_n 0, 1) := by decide +kernel
theorem dL_law_726 : decode cL_law 726 = .ok (.iload_n 3, 1) := by decide +kernel
theorem dL_law_727 : decode cL_law 727 = .ok (.iconst 1, 1) := by decide +kernel
theorem dL_law_728 : decode cL_law 728 = .ok (.iadd, 1) := by decide +kernel
theorem dL_law_729 : decode cL_law 729 = .ok (.iaload, 1) := by decide +kernel
theorem dL_law_730 : decode cL_law 730 = .ok (.invokevirtual 74, 3) := by decide +kernel
theorem dL_law_733 : decode cL_law 733 = .ok (.if_icmp .eq 615, 3) := by decide +kernel
theorem dL_law_736 : decode cL_law 736 = .ok (.iconst 0, 1) := by decide +kernel
theorem dL_law_737 : decode cL_law 737 = .ok (.ireturn, 1) := by decide +kernel
theorem dL_law_738 : decode cL_law 738 = .ok (.aload_n 1, 1) := by decide +kernel
theorem dL_law_739 : decode cL_law 739 = .ok (.aload_n 0, 1) := by decide +kernel
theorem dL_law_740 : decode cL_law 740 = .ok (.iload_n 3, 1) := by decide +kernel
theorem dL_law_741 : decode cL_law 741 = .ok (.iconst 1, 1) := by decide +kernel
theorem dL_law_742 : decode cL_law 742 = .ok (.iadd, 1) := by decide +kernel
theorem dL_law_743 : decode cL_law 743 = .ok (.iaload, 1) := by decide +kernel
theorem dL_law_744 : decode cL_law 744 = .ok (.aload_n 0, 1) := by decide +kernel
theorem dL_law_745 : decode cL_law 745 = .ok (.iload_n 3, 1) := by decide +kernel
theorem dL_law_746 : decode cL_law 746 = .ok (.iconst 2, 1) := by decide +kernel
theorem dL_law_747 : decode cL_law 747 = .ok (.iadd, 1) := by decide +kernel
theorem dL_law_748 : decode cL_law 748 = .ok (.iaload, 1) := by decide +kernel
theorem dL_law_749 : decode cL_law 749 = .ok (.aload_n 0, 1) := by decide +kernel
theorem dL_law_750 : decode cL_law 750 = .ok (.iload_n 3, 1) := by decide +kernel
theorem dL_law_751 : decode cL_law 751 = .ok (.iconst 3, 1) := by decide +kernel
theorem dL_law_752 : decode cL_law 752 = .ok (.iadd, 1) := by decide +kernel
theorem dL_law_753 : decode cL_law 753 = .ok (.iaload, 1) := by decide +kernel
theorem dL_law_754 : decode cL_law 754 = .ok (.aload_n 0, 1) := by decide +kernel
theorem dL_law_755 : decode cL_law 755 = .ok (.iload_n 3, 1) := by decide +kernel
theorem dL_law_756 : decode cL_law 756 = .ok (.iconst 4, 1) := by decide +kernel
theorem dL_law_757 : decode cL_law 757 = .ok (.iadd, 1) := by decide +kernel
theorem dL_law_758 : decode cL_law 758 = .ok (.iaload, 1) := by decide +kernel
theorem dL_law_759 : decode cL_law 759 = .ok (.invokevirtual 75, 3) := by decide +kernel
theorem dL_law_762 : decode cL_law 762 = .ok (.aload_n 2, 1) := by decide +kernel
theorem dL_law_763 : decode cL_law 763 = .ok (.aload_n 0, 1) := by decide +kernel
theorem dL_law_764 : decode cL_law 764 = .ok (.iload_n 3, 1) := by decide +kernel
theorem dL_law_765 : decode cL_law 765 = .ok (.iconst 1, 1) := by decide +kernel
theorem dL_law_766 : decode cL_law 766 = .ok (.iadd, 1) := by decide +kernel
theorem dL_law_767 : decode cL_law 767 = .ok (.iaload, 1) := by decide +kernel
theorem dL_law_768 : decode cL_law 768 = .ok (.aload_n 0, 1) := by decide +kernel
theorem dL_law_769 : decode cL_law 769 = .ok (.iload_n 3, 1) := by decide +kernel
theorem dL_law_770 : decode cL_law 770 = .ok (.iconst 2, 1) := by decide +kernel
theorem dL_law_771 : decode cL_law 771 = .ok (.iadd, 1) := by decide +kernel
theorem dL_law_772 : decode cL_law 772 = .ok (.iaload, 1) := by decide +kernel
theorem dL_law_773 : decode cL_law 773 = .ok (.aload_n 0, 1) := by decide +kernel
theorem dL_law_774 : decode cL_law 774 = .ok (.iload_n 3, 1) := by decide +kernel
theorem dL_law_775 : decode cL_law 775 = .ok (.iconst 3, 1) := by decide +kernel
theorem dL_law_776 : decode cL_law 776 = .ok (.iadd, 1) := by decide +kernel
theorem dL_law_777 : decode cL_law 777 = .ok (.iaload, 1) := by decide +kernel
theorem dL_law_778 : decode cL_law 778 = .ok (.aload_n 0, 1) := by decide +kernel
theorem dL_law_779 : decode cL_law 779 = .ok (.iload_n 3, 1) := by decide +kernel
theorem dL_law_780 : decode cL_law 780 = .ok (.iconst 4, 1) := by decide +kernel
theorem dL_law_781 : decode cL_law 781 = .ok (.iadd, 1) := by decide +kernel
theorem dL_law_782 : decode cL_law 782 = .ok (.iaload, 1) := by decide +kernel
theorem dL_law_783 : decode cL_law 783 = .ok (.invokevirtual 79, 3) := by decide +kernel
theorem dL_law_786 : decode cL_law 786 = .ok (.if_icmp .eq 562, 3) := by decide +kernel
theorem dL_law_789 : decode cL_law 789 = .ok (.iconst 0, 1) := by decide +kernel
theorem dL_law_790 : decode cL_law 790 = .ok (.ireturn, 1) := by decide +kernel
theorem dL_law_791 : decode cL_law 791 = .ok (.aload_n 1, 1) := by decide +kernel
theorem dL_law_792 : decode cL_law 792 = .ok (.aload_n 0, 1) := by decide +kernel
theorem dL_law_793 : decode cL_law 793 = .ok (.iload_n 3, 1) := by decide +kernel
theorem dL_law_794 : decode cL_law 794 = .ok (.iconst 1, 1) := by decide +kernel
theorem dL_law_795 : decode cL_law 795 = .ok (.iadd, 1) := by decide +kernel
theorem dL_law_796 : decode cL_law 796 = .ok (.iaload, 1) := by decide +kernel
theorem dL_law_797 : decode cL_law 797 = .ok (.aload_n 0, 1) := by decide +kernel
theorem dL_law_798 : decode cL_law 798 = .ok (.iload_n 3, 1) := by decide +kernel
theorem dL_law_799 : decode cL_law 799 = .ok (.iconst 2, 1) := by decide +kernel
theorem dL_law_800 : decode cL_law 800 = .ok (.iadd, 1) := by decide +kernel
theorem dL_law_801 : decode cL_law 801 = .ok (.iaload, 1) := by decide +kernel
theorem dL_law_802 : decode cL_law 802 = .ok (.i2l, 1) := by decide +kernel
theorem dL_law_803 : decode cL_law 803 = .ok (.bipush 32, 2) := by decide +kernel
theorem dL_law_805 : decode cL_law 805 = .ok (.lshl, 1) := by decide +kernel
theorem dL_law_806 : decode cL_law 806 = .ok (.aload_n 0, 1) := by decide +kernel
theorem dL_law_807 : decode cL_law 807 = .ok (.iload_n 3, 1) := by decide +kernel
theorem dL_law_808 : decode cL_law 808 = .ok (.iconst 3, 1) := by decide +kernel
theorem dL_law_809 : decode cL_law 809 = .ok (.iadd, 1) := by decide +kernel
theorem dL_law_810 : decode cL_law 810 = .ok (.iaload, 1) := by decide +kernel
theorem dL_law_811 : decode cL_law 811 = .ok (.i2l, 1) := by decide +kernel
theorem dL_law_812 : decode cL_law 812 = .ok (.ldc2_w 80, 3) := by decide +kernel
theorem dL_law_815 : decode cL_law 815 = .ok (.land, 1) := by decide +kernel
theorem dL_law_816 : decode cL_law 816 = .ok (.lor, 1) := by decide +kernel
theorem dL_law_817 : decode cL_law 817 = .ok (.invokevirtual 82, 3) := by decide +kernel
theorem dL_law_820 : decode cL_law 820 = .ok (.aload_n 2, 1) := by decide +kernel
theorem dL_law_821 : decode cL_law 821 = .ok (.aload_n 0, 1) := by decide +kernel
theorem dL_law_822 : decode cL_law 822 = .ok (.iload_n 3, 1) := by decide +kernel
theorem dL_law_823 : decode cL_law 823 = .ok (.iconst 1, 1) := by decide +kernel
theorem dL_law_824 : decode cL_law 824 = .ok (.iadd, 1) := by decide +kernel
theorem dL_law_825 : decode cL_law 825 = .ok (.iaload, 1) := by decide +kernel
theorem dL_law_826 : decode cL_law 826 = .ok (.aload_n 0, 1) := by decide +kernel
theorem dL_law_827 : decode cL_law 827 = .ok (.iload_n 3, 1) := by decide +kernel
theorem dL_law_828 : decode cL_law 828 = .ok (.iconst 2, 1) := by decide +kernel
theorem dL_law_829 : decode cL_law 829 = .ok (.iadd, 1) := by decide +kernel
theorem dL_law_830 : decode cL_law 830 = .ok (.iaload, 1) := by decide +kernel
theorem dL_law_831 : decode cL_law 831 = .ok (.i2l, 1) := by decide +kernel
theorem dL_law_832 : decode cL_law 832 = .ok (.bipush 32, 2) := by decide +kernel
theorem dL_law_834 : decode cL_law 834 = .ok (.lshl, 1) := by decide +kernel
theorem dL_law_835 : decode cL_law 835 = .ok (.aload_n 0, 1) := by decide +kernel
theorem dL_law_836 : decode cL_law 836 = .ok (.iload_n 3, 1) := by decide +kernel
theorem dL_law_837 : decode cL_law 837 = .ok (.iconst 3, 1) := by decide +kernel
theorem dL_law_838 : decode cL_law 838 = .ok (.iadd, 1) := by decide +kernel
theorem dL_law_839 : decode cL_law 839 = .ok (.iaload, 1) := by decide +kernel
theorem dL_law_840 : decode cL_law 840 = .ok (.i2l, 1) := by decide +kernel
theorem dL_law_841 : decode cL_law 841 = .ok (.ldc2_w 80, 3) := by decide +kernel
theorem dL_law_844 : decode cL_law 844 = .ok (.land, 1) := by decide +kernel
theorem dL_law_845 : decode cL_law 845 = .ok (.lor, 1) := by decide +kernel
theorem dL_law_846 : decode cL_law 846 = .ok (.invokevirtual 86, 3) := by decide +kernel
theorem dL_law_849 : decode cL_law 849 = .ok (.if_icmp .eq 499, 3) := by decide +kernel
theorem dL_law_852 : decode cL_law 852 = .ok (.iconst 0, 1) := by decide +kernel
theorem dL_law_853 : decode cL_law 853 = .ok (.ireturn, 1) := by decide +kernel
theorem dL_law_854 : decode cL_law 854 = .ok (.aload_n 1, 1) := by decide +kernel
theorem dL_law_855 : decode cL_law 855 = .ok (.aload_n 0, 1) := by decide +kernel
theorem dL_law_856 : decode cL_law 856 = .ok (.iload_n 3, 1) := by decide +kernel
theorem dL_law_857 : decode cL_law 857 = .ok (.iconst 1, 1) := by decide +kernel
theorem dL_law_858 : decode cL_law 858 = .ok (.iadd, 1) := by decide +kernel
theorem dL_law_859 : decode cL_law 859 = .ok (.iaload, 1) := by decide +kernel
theorem dL_law_860 : decode cL_law 860 = .ok (.invokevirtual 87, 3) := by decide +kernel
theorem dL_law_863 : decode cL_law 863 = .ok (.aload_n 2, 1) := by decide +kernel
theorem dL_law_864 : decode cL_law 864 = .ok (.aload_n 0, 1) := by decide +kernel
theorem dL_law_865 : decode cL_law 865 = .ok (.iload_n 3, 1) := by decide +kernel
theorem dL_law_866 : decode cL_law 866 = .ok (.iconst 1, 1) := by decide +kernel
theorem dL_law_867 : decode cL_law 867 = .ok (.iadd, 1) := by decide +kernel
theorem dL_law_868 : decode cL_law 868 = .ok (.iaload, 1) := by decide +kernel
theorem dL_law_869 : decode cL_law 869 = .ok (.invokevirtual 90, 3) := by decide +kernel
theorem dL_law_872 : decode cL_law 872 = .ok (.if_icmp .eq 476, 3) := by decide +kernel
theorem dL_law_875 : decode cL_law 875 = .ok (.iconst 0, 1) := by decide +kernel
theorem dL_law_876 : decode cL_law 876 = .ok (.ireturn, 1) := by decide +kernel
theorem dL_law_877 : decode cL_law 877 = .ok (.aload_n 1, 1) := by decide +kernel
theorem dL_law_878 : decode cL_law 878 = .ok (.aload_n 0, 1) := by decide +kernel
theorem dL_law_879 : decode cL_law 879 = .ok (.iload_n 3, 1) := by decide +kernel
theorem dL_law_880 : decode cL_law 880 = .ok (.iconst 1, 1) := by decide +kernel
theorem dL_law_881 : decode cL_law 881 = .ok (.iadd, 1) := by decide +kernel
theorem dL_law_882 : decode cL_law 882 = .ok (.iaload, 1) := by decide +kernel
theorem dL_law_883 : decode cL_law 883 = .ok (.aload_n 0, 1) := by decide +kernel
theorem dL_law_884 : decode cL_law 884 = .ok (.iload_n 3, 1) := by decide +kernel
theorem dL_law_885 : decode cL_law 885 = .ok (.iconst 2, 1) := by decide +kernel
theorem dL_law_886 : decode cL_law 886 = .ok (.iadd, 1) := by decide +kernel
theorem dL_law_887 : decode cL_law 887 = .ok (.iaload, 1) := by decide +kernel
theorem dL_law_888 : decode cL_law 888 = .ok (.invokevirtual 91, 3) := by decide +kernel
theorem dL_law_891 : decode cL_law 891 = .ok (.aload_n 2, 1) := by decide +kernel
theorem dL_law_892 : decode cL_law 892 = .ok (.aload_n 0, 1) := by decide +kernel
theorem dL_law_893 : decode cL_law 893 = .ok (.iload_n 3, 1) := by decide +kernel
theorem dL_law_894 : decode cL_law 894 = .ok (.iconst 1, 1) := by decide +kernel
theorem dL_law_895 : decode cL_law 895 = .ok (.iadd, 1) := by decide +kernel
theorem dL_law_896 : decode cL_law 896 = .ok (.iaload, 1) := by decide +kernel
theorem dL_law_897 : decode cL_law 897 = .ok (.aload_n 0, 1) := by decide +kernel
theorem dL_law_898 : decode cL_law 898 = .ok (.iload_n 3, 1) := by decide +kernel
theorem dL_law_899 : decode cL_law 899 = .ok (.iconst 2, 1) := by decide +kernel
theorem dL_law_900 : decode cL_law 900 = .ok (.iadd, 1) := by decide +kernel
theorem dL_law_901 : decode cL_law 901 = .ok (.iaload, 1) := by decide +kernel
theorem dL_law_902 : decode cL_law 902 = .ok (.invokevirtual 94, 3) := by decide +kernel
theorem dL_law_905 : decode cL_law 905 = .ok (.if_icmp .eq 443, 3) := by decide +kernel
theorem dL_law_908 : decode cL_law 908 = .ok (.iconst 0, 1) := by decide +kernel
theorem dL_law_909 : decode cL_law 909 = .ok (.ireturn, 1) := by decide +kernel
theorem dL_law_910 : decode cL_law 910 = .ok (.aload_n 1, 1) := by decide +kernel
theorem dL_law_911 : decode cL_law 911 = .ok (.aload_n 0, 1) := by decide +kernel
theorem dL_law_912 : decode cL_law 912 = .ok (.iload_n 3, 1) := by decide +kernel
theorem dL_law_913 : decode cL_law 913 = .ok (.iconst 1, 1) := by decide +kernel
theorem dL_law_914 : decode cL_law 914 = .ok (.iadd, 1) := by decide +kernel
theorem dL_law_915 : decode cL_law 915 = .ok (.iaload, 1) := by decide +kernel
theorem dL_law_916 : decode cL_law 916 = .ok (.invokevirtual 95, 3) := by decide +kernel
theorem dL_law_919 : decode cL_law 919 = .ok (.aload_n 2, 1) := by decide +kernel
theorem dL_law_920 : decode cL_law 920 = .ok (.aload_n 0, 1) := by decide +kernel
theorem dL_law_921 : decode cL_law 921 = .ok (.iload_n 3, 1) := by decide +kernel
theorem dL_law_922 : decode cL_law 922 = .ok (.iconst 1, 1) := by decide +kernel
theorem dL_law_923 : decode cL_law 923 = .ok (.iadd, 1) := by decide +kernel
theorem dL_law_924 : decode cL_law 924 = .ok (.iaload, 1) := by decide +kernel
theorem dL_law_925 : decode cL_law 925 = .ok (.invokevirtual 98, 3) := by decide +kernel
theorem dL_law_928 : decode cL_law 928 = .ok (.if_icmp .eq 420, 3) := by decide +kernel
theorem dL_law_931 : decode cL_law 931 = .ok (.iconst 0, 1) := by decide +kernel
theorem dL_law_932 : decode cL_law 932 = .ok (.ireturn, 1) := by decide +kernel
theorem dL_law_933 : decode cL_law 933 = .ok (.aload_n 1, 1) := by decide +kernel
theorem dL_law_934 : decode cL_law 934 = .ok (.aload_n 0, 1) := by decide +kernel
theorem dL_law_935 : decode cL_law 935 = .ok (.iload_n 3, 1) := by decide +kernel
theorem dL_law_936 : decode cL_law 936 = .ok (.iconst 1, 1) := by decide +kernel
theorem dL_law_937 : decode cL_law 937 = .ok (.iadd, 1) := by decide +kernel
theorem dL_law_938 : decode cL_law 938 = .ok (.iaload, 1) := by decide +kernel
theorem dL_law_939 : decode cL_law 939 = .ok (.aload_n 0, 1) := by decide +kernel
theorem dL_law_940 : decode cL_law 940 = .ok (.iload_n 3, 1) := by decide +kernel
theorem dL_law_941 : decode cL_law 941 = .ok (.iconst 2, 1) := by decide +kernel
theorem dL_law_942 : decode cL_law 942 = .ok (.iadd, 1) := by decide +kernel
theorem dL_law_943 : decode cL_law 943 = .ok (.iaload, 1) := by decide +kernel
theorem dL_law_944 : decode cL_law 944 = .ok (.invokevirtual 99, 3) := by decide +kernel
theorem dL_law_947 : decode cL_law 947 = .ok (.aload_n 2, 1) := by decide +kernel
theorem dL_law_948 : decode cL_law 948 = .ok (.aload_n 0, 1) := by decide +kernel
theorem dL_law_949 : decode cL_law 949 = .ok (.iload_n 3, 1) := by decide +kernel
theorem dL_law_950 : decode cL_law 950 = .ok (.iconst 1, 1) := by decide +kernel
theorem dL_law_951 : decode cL_law 951 = .ok (.iadd, 1) := by decide +kernel
theorem dL_law_952 : decode cL_law 952 = .ok (.iaload, 1) := by decide +kernel
theorem dL_law_953 : decode cL_law 953 = .ok (.aload_n 0, 1) := by decide +kernel
theorem dL_law_954 : decode cL_law 954 = .ok (.iload_n 3, 1) := by decide +kernel
theorem dL_law_955 : decode cL_law 955 = .ok (.iconst 2, 1) := by decide +kernel
theorem dL_law_956 : decode cL_law 956 = .ok (.iadd, 1) := by decide +kernel
theorem dL_law_957 : decode cL_law 957 = .ok (.iaload, 1) := by decide +kernel
theorem dL_law_958 : decode cL_law 958 = .ok (.invokevirtual 102, 3) := by decide +kernel
theorem dL_law_961 : decode cL_law 961 = .ok (.if_icmp .eq 387, 3) := by decide +kernel
theorem dL_law_964 : decode cL_law 964 = .ok (.iconst 0, 1) := by decide +kernel
theorem dL_law_965 : decode cL_law 965 = .ok (.ireturn, 1) := by decide +kernel
theorem dL_law_966 : decode cL_law 966 = .ok (.aload_n 1, 1) := by decide +kernel
theorem dL_law_967 : decode cL_law 967 = .ok (.aload_n 0, 1) := by decide +kernel
theorem dL_law_968 : decode cL_law 968 = .ok (.iload_n 3, 1) := by decide +kernel
theorem dL_law_969 : decode cL_law 969 = .ok (.iconst 1, 1) := by decide +kernel
theorem dL_law_970 : decode cL_law 970 = .ok (.iadd, 1) := by decide +kernel
theorem dL_law_971 : decode cL_law 971 = .ok (.iaload, 1) := by decide +kernel
theorem dL_law_972 : decode cL_law 972 = .ok (.invokevirtual 103, 3) := by decide +kernel
theorem dL_law_975 : decode cL_law 975 = .ok (.aload_n 2, 1) := by decide +kernel
theorem dL_law_976 : decode cL_law 976 = .ok (.aload_n 0, 1) := by decide +kernel
theorem dL_law_977 : decode cL_law 977 = .ok (.iload_n 3, 1) := by decide +kernel
theorem dL_law_978 : decode cL_law 978 = .ok (.iconst 1, 1) := by decide +kernel
theorem dL_law_979 : decode cL_law 979 = .ok (.iadd, 1) := by decide +kernel
theorem dL_law_980 : decode cL_law 980 = .ok (.iaload, 1) := by decide +kernel
theorem dL_law_981 : decode cL_law 981 = .ok (.invokevirtual 106, 3) := by decide +kernel
theorem dL_law_984 : decode cL_law 984 = .ok (.if_icmp .eq 364, 3) := by decide +kernel
theorem dL_law_987 : decode cL_law 987 = .ok (.iconst 0, 1) := by decide +kernel
theorem dL_law_988 : decode cL_law 988 = .ok (.ireturn, 1) := by decide +kernel
theorem dL_law_989 : decode cL_law 989 = .ok (.aload_n 1, 1) := by decide +kernel
theorem dL_law_990 : decode cL_law 990 = .ok (.aload_n 0, 1) := by decide +kernel
theorem dL_law_991 : decode cL_law 991 = .ok (.iload_n 3, 1) := by decide +kernel
theorem dL_law_992 : decode cL_law 992 = .ok (.iconst 1, 1) := by decide +kernel
theorem dL_law_993 : decode cL_law 993 = .ok (.iadd, 1) := by decide +kernel
theorem dL_law_994 : decode cL_law 994 = .ok (.iaload, 1) := by decide +kernel
theorem dL_law_995 : decode cL_law 995 = .ok (.invokevirtual 107, 3) := by decide +kernel
theorem dL_law_998 : decode cL_law 998 = .ok (.aload_n 2, 1) := by decide +kernel
theorem dL_law_999 : decode cL_law 999 = .ok (.aload_n 0, 1) := by decide +kernel
theorem dL_law_1000 : decode cL_law 1000 = .ok (.iload_n 3, 1) := by decide +kernel
theorem dL_law_1001 : decode cL_law 1001 = .ok (.iconst 1, 1) := by decide +kernel
theorem dL_law_1002 : decode cL_law 1002 = .ok (.iadd, 1) := by decide +kernel
theorem dL_law_1003 : decode cL_law 1003 = .ok (.iaload, 1) := by decide +kernel
theorem dL_law_1004 : decode cL_law 1004 = .ok (.invokevirtual 110, 3) := by decide +kernel
theorem dL_law_1007 : decode cL_law 1007 = .ok (.if_icmp .eq 341, 3) := by decide +kernel
theorem dL_law_1010 : decode cL_law 1010 = .ok (.iconst 0, 1) := by decide +kernel
theorem dL_law_1011 : decode cL_law 1011 = .ok (.ireturn, 1) := by decide +kernel
theorem dL_law_1012 : decode cL_law 1012 = .ok (.aload_n 1, 1) := by decide +kernel
theorem dL_law_1013 : decode cL_law 1013 = .ok (.aload_n 0, 1) := by decide +kernel
theorem dL_law_1014 : decode cL_law 1014 = .ok (.iload_n 3, 1) := by decide +kernel
theorem dL_law_1015 : decode cL_law 1015 = .ok (.iconst 1, 1) := by decide +kernel
theorem dL_law_1016 : decode cL_law 1016 = .ok (.iadd, 1) := by decide +kernel
theorem dL_law_1017 : decode cL_law 1017 = .ok (.iaload, 1) := by decide +kernel
theorem dL_law_1018 : decode cL_law 1018 = .ok (.aload_n 0, 1) := by decide +kernel
theorem dL_law_1019 : decode cL_law 1019 = .ok (.iload_n 3, 1) := by decide +kernel
theorem dL_law_1020 : decode cL_law 1020 = .ok (.iconst 2, 1) := by decide +kernel
theorem dL_law_1021 : decode cL_law 1021 = .ok (.iadd, 1) := by decide +kernel
theorem dL_law_1022 : decode cL_law 1022 = .ok (.iaload, 1) := by decide +kernel
theorem dL_law_1023 : decode cL_law 1023 = .ok (.invokevirtual 111, 3) := by decide +kernel
theorem dL_law_1026 : decode cL_law 1026 = .ok (.aload_n 2, 1) := by decide +kernel
theorem dL_law_1027 : decode cL_law 1027 = .ok (.aload_n 0, 1) := by decide +kernel
theorem dL_law_1028 : decode cL_law 1028 = .ok (.iload_n 3, 1) := by decide +kernel
theorem dL_law_1029 : decode cL_law 1029 = .ok (.iconst 1, 1) := by decide +kernel
theorem dL_law_1030 : decode cL_law 1030 = .ok (.iadd, 1) := by decide +kernel
theorem dL_law_1031 : decode cL_law 1031 = .ok (.iaload, 1) := by decide +kernel
theorem dL_law_1032 : decode cL_law 1032 = .ok (.aload_n 0, 1) := by decide +kernel
theorem dL_law_1033 : decode cL_law 1033 = .ok (.iload_n 3, 1) := by decide +kernel
theorem dL_law_1034 : decode cL_law 1034 = .ok (.iconst 2, 1) := by decide +kernel
theorem dL_law_1035 : decode cL_law 1035 = .ok (.iadd, 1) := by decide +kernel
theorem dL_law_1036 : decode cL_law 1036 = .ok (.iaload, 1) := by decide +kernel
theorem dL_law_1037 : decode cL_law 1037 = .ok (.invokevirtual 114, 3) := by decide +kernel
theorem dL_law_1040 : decode cL_law 1040 = .ok (.if_icmp .eq 308, 3) := by decide +kernel
theorem dL_law_1043 : decode cL_law 1043 = .ok (.iconst 0, 1) := by decide +kernel
theorem dL_law_1044 : decode cL_law 1044 = .ok (.ireturn, 1) := by decide +kernel
theorem dL_law_1045 : decode cL_law 1045 = .ok (.aload_n 1, 1) := by decide +kernel
theorem dL_law_1046 : decode cL_law 1046 = .ok (.aload_n 0, 1) := by decide +kernel
theorem dL_law_1047 : decode cL_law 1047 = .ok (.iload_n 3, 1) := by decide +kernel
theorem dL_law_1048 : decode cL_law 1048 = .ok (.iconst 1, 1) := by decide +kernel
theorem dL_law_1049 : decode cL_law 1049 = .ok (.iadd, 1) := by decide +kernel
theorem dL_law_1050 : decode cL_law 1050 = .ok (.iaload, 1) := by decide +kernel
theorem dL_law_1051 : decode cL_law 1051 = .ok (.invokevirtual 115, 3) := by decide +kernel
theorem dL_law_1054 : decode cL_law 1054 = .ok (.aload_n 2, 1) := by decide +kernel
theorem dL_law_1055 : decode cL_law 1055 = .ok (.aload_n 0, 1) := by decide +kernel
theorem dL_law_1056 : decode cL_law 1056 = .ok (.iload_n 3, 1) := by decide +kernel
theorem dL_law_1057 : decode cL_law 1057 = .ok (.iconst 1, 1) := by decide +kernel
theorem dL_law_1058 : decode cL_law 1058 = .ok (.iadd, 1) := by decide +kernel
theorem dL_law_1059 : decode cL_law 1059 = .ok (.iaload, 1) := by decide +kernel
theorem dL_law_1060 : decode cL_law 1060 = .ok (.invokevirtual 118, 3) := by decide +kernel
theorem dL_law_1063 : decode cL_law 1063 = .ok (.if_icmp .eq 285, 3) := by decide +kernel
theorem dL_law_1066 : decode cL_law 1066 = .ok (.iconst 0, 1) := by decide +kernel
theorem dL_law_1067 : decode cL_law 1067 = .ok (.ireturn, 1) := by decide +kernel
theorem dL_law_1068 : decode cL_law 1068 = .ok (.aload_n 1, 1) := by decide +kernel
theorem dL_law_1069 : decode cL_law 1069 = .ok (.aload_n 0, 1) := by decide +kernel
theorem dL_law_1070 : decode cL_law 1070 = .ok (.iload_n 3, 1) := by decide +kernel
theorem dL_law_1071 : decode cL_law 1071 = .ok (.iconst 1, 1) := by decide +kernel
theorem dL_law_1072 : decode cL_law 1072 = .ok (.iadd, 1) := by decide +kernel
theorem dL_law_1073 : decode cL_law 1073 = .ok (.iaload, 1) := by decide +kernel
theorem dL_law_1074 : decode cL_law 1074 = .ok (.aload_n 0, 1) := by decide +kernel
theorem dL_law_1075 : decode cL_law 1075 = .ok (.iload_n 3, 1) := by decide +kernel
theorem dL_law_1076 : decode cL_law 1076 = .ok (.iconst 2, 1) := by decide +kernel
theorem dL_law_1077 : decode cL_law 1077 = .ok (.iadd, 1) := by decide +kernel
theorem dL_law_1078 : decode cL_law 1078 = .ok (.iaload, 1) := by decide +kernel
theorem dL_law_1079 : decode cL_law 1079 = .ok (.invokevirtual 119, 3) := by decide +kernel
theorem dL_law_1082 : decode cL_law 1082 = .ok (.aload_n 2, 1) := by decide +kernel
theorem dL_law_1083 : decode cL_law 1083 = .ok (.aload_n 0, 1) := by decide +kernel
theorem dL_law_1084 : decode cL_law 1084 = .ok (.iload_n 3, 1) := by decide +kernel
theorem dL_law_1085 : decode cL_law 1085 = .ok (.iconst 1, 1) := by decide +kernel
theorem dL_law_1086 : decode cL_law 1086 = .ok (.iadd, 1) := by decide +kernel
theorem dL_law_1087 : decode cL_law 1087 = .ok (.iaload, 1) := by decide +kernel
theorem dL_law_1088 : decode cL_law 1088 = .ok (.aload_n 0, 1) := by decide +kernel
theorem dL_law_1089 : decode cL_law 1089 = .ok (.iload_n 3, 1) := by decide +kernel
theorem dL_law_1090 : decode cL_law 1090 = .ok (.iconst 2, 1) := by decide +kernel
theorem dL_law_1091 : decode cL_law 1091 = .ok (.iadd, 1) := by decide +kernel
theorem dL_law_1092 : decode cL_law 1092 = .ok (.iaload, 1) := by decide +kernel
theorem dL_law_1093 : decode cL_law 1093 = .ok (.invokevirtual 122, 3) := by decide +kernel
theorem dL_law_1096 : decode cL_law 1096 = .ok (.if_icmp .eq 252, 3) := by decide +kernel
theorem dL_law_1099 : decode cL_law 1099 = .ok (.iconst 0, 1) := by decide +kernel
theorem dL_law_1100 : decode cL_law 1100 = .ok (.ireturn, 1) := by decide +kernel
theorem dL_law_1101 : decode cL_law 1101 = .ok (.aload_n 1, 1) := by decide +kernel
theorem dL_law_1102 : decode cL_law 1102 = .ok (.aload_n 0, 1) := by decide +kernel
theorem dL_law_1103 : decode cL_law 1103 = .ok (.iload_n 3, 1) := by decide +kernel
theorem dL_law_1104 : decode cL_law 1104 = .ok (.iconst 1, 1) := by decide +kernel
theorem dL_law_1105 : decode cL_law 1105 = .ok (.iadd, 1) := by decide +kernel
theorem dL_law_1106 : decode cL_law 1106 = .ok (.iaload, 1) := by decide +kernel
theorem dL_law_1107 : decode cL_law 1107 = .ok (.invokevirtual 123, 3) := by decide +kernel
theorem dL_law_1110 : decode cL_law 1110 = .ok (.aload_n 2, 1) := by decide +kernel
theorem dL_law_1111 : decode cL_law 1111 = .ok (.aload_n 0, 1) := by decide +kernel
theorem dL_law_1112 : decode cL_law 1112 = .ok (.iload_n 3, 1) := by decide +kernel
theorem dL_law_1113 : decode cL_law 1113 = .ok (.iconst 1, 1) := by decide +kernel
theorem dL_law_1114 : decode cL_law 1114 = .ok (.iadd, 1) := by decide +kernel
theorem dL_law_1115 : decode cL_law 1115 = .ok (.iaload, 1) := by decide +kernel
theorem dL_law_1116 : decode cL_law 1116 = .ok (.invokevirtual 126, 3) := by decide +kernel
theorem dL_law_1119 : decode cL_law 1119 = .ok (.if_icmp .eq 229, 3) := by decide +kernel
theorem dL_law_1122 : decode cL_law 1122 = .ok (.iconst 0, 1) := by decide +kernel
theorem dL_law_1123 : decode cL_law 1123 = .ok (.ireturn, 1) := by decide +kernel
theorem dL_law_1124 : decode cL_law 1124 = .ok (.aload_n 1, 1) := by decide +kernel
theorem dL_law_1125 : decode cL_law 1125 = .ok (.aload_n 0, 1) := by decide +kernel
theorem dL_law_1126 : decode cL_law 1126 = .ok (.iload_n 3, 1) := by decide +kernel
theorem dL_law_1127 : decode cL_law 1127 = .ok (.iconst 1, 1) := by decide +kernel
theorem dL_law_1128 : decode cL_law 1128 = .ok (.iadd, 1) := by decide +kernel
theorem dL_law_1129 : decode cL_law 1129 = .ok (.iaload, 1) := by decide +kernel
theorem dL_law_1130 : decode cL_law 1130 = .ok (.aload_n 0, 1) := by decide +kernel
theorem dL_law_1131 : decode cL_law 1131 = .ok (.iload_n 3, 1) := by decide +kernel
theorem dL_law_1132 : decode cL_law 1132 = .ok (.iconst 2, 1) := by decide +kernel
theorem dL_law_1133 : decode cL_law 1133 = .ok (.iadd, 1) := by decide +kernel
theorem dL_law_1134 : decode cL_law 1134 = .ok (.iaload, 1) := by decide +kernel
theorem dL_law_1135 : decode cL_law 1135 = .ok (.invokevirtual 127, 3) := by decide +kernel
theorem dL_law_1138 : decode cL_law 1138 = .ok (.aload_n 2, 1) := by decide +kernel
theorem dL_law_1139 : decode cL_law 1139 = .ok (.aload_n 0, 1) := by decide +kernel
theorem dL_law_1140 : decode cL_law 1140 = .ok (.iload_n 3, 1) := by decide +kernel
theorem dL_law_1141 : decode cL_law 1141 = .ok (.iconst 1, 1) := by decide +kernel
theorem dL_law_1142 : decode cL_law 1142 = .ok (.iadd, 1) := by decide +kernel
theorem dL_law_1143 : decode cL_law 1143 = .ok (.iaload, 1) := by decide +kernel
theorem dL_law_1144 : decode cL_law 1144 = .ok (.aload_n 0, 1) := by decide +kernel
theorem dL_law_1145 : decode cL_law 1145 = .ok (.iload_n 3, 1) := by decide +kernel
theorem dL_law_1146 : decode cL_law 1146 = .ok (.iconst 2, 1) := by decide +kernel
theorem dL_law_1147 : decode cL_law 1147 = .ok (.iadd, 1) := by decide +kernel
theorem dL_law_1148 : decode cL_law 1148 = .ok (.iaload, 1) := by decide +kernel
theorem dL_law_1149 : decode cL_law 1149 = .ok (.invokevirtual 130, 3) := by decide +kernel
theorem dL_law_1152 : decode cL_law 1152 = .ok (.if_icmp .eq 196, 3) := by decide +kernel
theorem dL_law_1155 : decode cL_law 1155 = .ok (.iconst 0, 1) := by decide +kernel
theorem dL_law_1156 : decode cL_law 1156 = .ok (.ireturn, 1) := by decide +kernel
theorem dL_law_1157 : decode cL_law 1157 = .ok (.aload_n 1, 1) := by decide +kernel
theorem dL_law_1158 : decode cL_law 1158 = .ok (.aload_n 0, 1) := by decide +kernel
theorem dL_law_1159 : decode cL_law 1159 = .ok (.iload_n 3, 1) := by decide +kernel
theorem dL_law_1160 : decode cL_law 1160 = .ok (.iconst 1, 1) := by decide +kernel
theorem dL_law_1161 : decode cL_law 1161 = .ok (.iadd, 1) := by decide +kernel
theorem dL_law_1162 : decode cL_law 1162 = .ok (.iaload, 1) := by decide +kernel
theorem dL_law_1163 : decode cL_law 1163 = .ok (.aload_n 0, 1) := by decide +kernel
theorem dL_law_1164 : decode cL_law 1164 = .ok (.iload_n 3, 1) := by decide +kernel
theorem dL_law_1165 : decode cL_law 1165 = .ok (.iconst 2, 1) := by decide +kernel
theorem dL_law_1166 : decode cL_law 1166 = .ok (.iadd, 1) := by decide +kernel
theorem dL_law_1167 : decode cL_law 1167 = .ok (.iaload, 1) := by decide +kernel
theorem dL_law_1168 : decode cL_law 1168 = .ok (.invokevirtual 131, 3) := by decide +kernel
theorem dL_law_1171 : decode cL_law 1171 = .ok (.aload_n 2, 1) := by decide +kernel
theorem dL_law_1172 : decode cL_law 1172 = .ok (.aload_n 0, 1) := by decide +kernel
theorem dL_law_1173 : decode cL_law 1173 = .ok (.iload_n 3, 1) := by decide +kernel
theorem dL_law_1174 : decode cL_law 1174 = .ok (.iconst 1, 1) := by decide +kernel
theorem dL_law_1175 : decode cL_law 1175 = .ok (.iadd, 1) := by decide +kernel
theorem dL_law_1176 : decode cL_law 1176 = .ok (.iaload, 1) := by decide +kernel
theorem dL_law_1177 : decode cL_law 1177 = .ok (.aload_n 0, 1) := by decide +kernel
theorem dL_law_1178 : decode cL_law 1178 = .ok (.iload_n 3, 1) := by decide +kernel
theorem dL_law_1179 : decode cL_law 1179 = .ok (.iconst 2, 1) := by decide +kernel
theorem dL_law_1180 : decode cL_law 1180 = .ok (.iadd, 1) := by decide +kernel
theorem dL_law_1181 : decode cL_law 1181 = .ok (.iaload, 1) := by decide +kernel
theorem dL_law_1182 : decode cL_law 1182 = .ok (.invokevirtual 134, 3) := by decide +kernel
theorem dL_law_1185 : decode cL_law 1185 = .ok (.if_icmp .eq 163, 3) := by decide +kernel
theorem dL_law_1188 : decode cL_law 1188 = .ok (.iconst 0, 1) := by decide +kernel
theorem dL_law_1189 : decode cL_law 1189 = .ok (.ireturn, 1) := by decide +kernel
theorem dL_law_1190 : decode cL_law 1190 = .ok (.aload_n 1, 1) := by decide +kernel
theorem dL_law_1191 : decode cL_law 1191 = .ok (.aload_n 0, 1) := by decide +kernel
theorem dL_law_1192 : decode cL_law 1192 = .ok (.iload_n 3, 1) := by decide +kernel
theorem dL_law_1193 : decode cL_law 1193 = .ok (.iconst 1, 1) := by decide +kernel
theorem dL_law_1194 : decode cL_law 1194 = .ok (.iadd, 1) := by decide +kernel
theorem dL_law_1195 : decode cL_law 1195 = .ok (.iaload, 1) := by decide +kernel
theorem dL_law_1196 : decode cL_law 1196 = .ok (.aload_n 0, 1) := by decide +kernel
theorem dL_law_1197 : decode cL_law 1197 = .ok (.iload_n 3, 1) := by decide +kernel
theorem dL_law_1198 : decode cL_law 1198 = .ok (.iconst 2, 1) := by decide +kernel
theorem dL_law_1199 : decode cL_law 1199 = .ok (.iadd, 1) := by decide +kernel
theorem dL_law_1200 : decode cL_law 1200 = .ok (.iaload, 1) := by decide +kernel
theorem dL_law_1201 : decode cL_law 1201 = .ok (.aload_n 0, 1) := by decide +kernel
theorem dL_law_1202 : decode cL_law 1202 = .ok (.iload_n 3, 1) := by decide +kernel
theorem dL_law_1203 : decode cL_law 1203 = .ok (.iconst 3, 1) := by decide +kernel
theorem dL_law_1204 : decode cL_law 1204 = .ok (.iadd, 1) := by decide +kernel
theorem dL_law_1205 : decode cL_law 1205 = .ok (.iaload, 1) := by decide +kernel
theorem dL_law_1206 : decode cL_law 1206 = .ok (.invokevirtual 135, 3) := by decide +kernel
theorem dL_law_1209 : decode cL_law 1209 = .ok (.aload_n 2, 1) := by decide +kernel
theorem dL_law_1210 : decode cL_law 1210 = .ok (.aload_n 0, 1) := by decide +kernel
theorem dL_law_1211 : decode cL_law 1211 = .ok (.iload_n 3, 1) := by decide +kernel
theorem dL_law_1212 : decode cL_law 1212 = .ok (.iconst 1, 1) := by decide +kernel
theorem dL_law_1213 : decode cL_law 1213 = .ok (.iadd, 1) := by decide +kernel
theorem dL_law_1214 : decode cL_law 1214 = .ok (.iaload, 1) := by decide +kernel
theorem dL_law_1215 : decode cL_law 1215 = .ok (.aload_n 0, 1) := by decide +kernel
theorem dL_law_1216 : decode cL_law 1216 = .ok (.iload_n 3, 1) := by decide +kernel
theorem dL_law_1217 : decode cL_law 1217 = .ok (.iconst 2, 1) := by decide +kernel
theorem dL_law_1218 : decode cL_law 1218 = .ok (.iadd, 1) := by decide +kernel
theorem dL_law_1219 : decode cL_law 1219 = .ok (.iaload, 1) := by decide +kernel
theorem dL_law_1220 : decode cL_law 1220 = .ok (.aload_n 0, 1) := by decide +kernel
theorem dL_law_1221 : decode cL_law 1221 = .ok (.iload_n 3, 1) := by decide +kernel
theorem dL_law_1222 : decode cL_law 1222 = .ok (.iconst 3, 1) := by decide +kernel
theorem dL_law_1223 : decode cL_law 1223 = .ok (.iadd, 1) := by decide +kernel
theorem dL_law_1224 : decode cL_law 1224 = .ok (.iaload, 1) := by decide +kernel
theorem dL_law_1225 : decode cL_law 1225 = .ok (.invokevirtual 138, 3) := by decide +kernel
theorem dL_law_1228 : decode cL_law 1228 = .ok (.if_icmp .eq 120, 3) := by decide +kernel
theorem dL_law_1231 : decode cL_law 1231 = .ok (.iconst 0, 1) := by decide +kernel
theorem dL_law_1232 : decode cL_law 1232 = .ok (.ireturn, 1) := by decide +kernel
theorem dL_law_1233 : decode cL_law 1233 = .ok (.aload_n 1, 1) := by decide +kernel
theorem dL_law_1234 : decode cL_law 1234 = .ok (.aload_n 0, 1) := by decide +kernel
theorem dL_law_1235 : decode cL_law 1235 = .ok (.iload_n 3, 1) := by decide +kernel
theorem dL_law_1236 : decode cL_law 1236 = .ok (.iconst 1, 1) := by decide +kernel
theorem dL_law_1237 : decode cL_law 1237 = .ok (.iadd, 1) := by decide +kernel
theorem dL_law_1238 : decode cL_law 1238 = .ok (.iaload, 1) := by decide +kernel
theorem dL_law_1239 : decode cL_law 1239 = .ok (.invokevirtual 139, 3) := by decide +kernel
theorem dL_law_1242 : decode cL_law 1242 = .ok (.aload_n 2, 1) := by decide +kernel
theorem dL_law_1243 : decode cL_law 1243 = .ok (.aload_n 0, 1) := by decide +kernel
theorem dL_law_1244 : decode cL_law 1244 = .ok (.iload_n 3, 1) := by decide +kernel
theorem dL_law_1245 : decode cL_law 1245 = .ok (.iconst 1, 1) := by decide +kernel
theorem dL_law_1246 : decode cL_law 1246 = .ok (.iadd, 1) := by decide +kernel
theorem dL_law_1247 : decode cL_law 1247 = .ok (.iaload, 1) := by decide +kernel
theorem dL_law_1248 : decode cL_law 1248 = .ok (.invokevirtual 142, 3) := by decide +kernel
theorem dL_law_1251 : decode cL_law 1251 = .ok (.if_icmp .eq 97, 3) := by decide +kernel
theorem dL_law_1254 : decode cL_law 1254 = .ok (.iconst 0, 1) := by decide +kernel
theorem dL_law_1255 : decode cL_law 1255 = .ok (.ireturn, 1) := by decide +kernel
theorem dL_law_1256 : decode cL_law 1256 = .ok (.aload_n 1, 1) := by decide +kernel
theorem dL_law_1257 : decode cL_law 1257 = .ok (.aload_n 0, 1) := by decide +kernel
theorem dL_law_1258 : decode cL_law 1258 = .ok (.iload_n 3, 1) := by decide +kernel
theorem dL_law_1259 : decode cL_law 1259 = .ok (.iconst 1, 1) := by decide +kernel
theorem dL_law_1260 : decode cL_law 1260 = .ok (.iadd, 1) := by decide +kernel
theorem dL_law_1261 : decode cL_law 1261 = .ok (.iaload, 1) := by decide +kernel
theorem dL_law_1262 : decode cL_law 1262 = .ok (.invokevirtual 143, 3) := by decide +kernel
theorem dL_law_1265 : decode cL_law 1265 = .ok (.aload_n 2, 1) := by decide +kernel
theorem dL_law_1266 : decode cL_law 1266 = .ok (.aload_n 0, 1) := by decide +kernel
theorem dL_law_1267 : decode cL_law 1267 = .ok (.iload_n 3, 1) := by decide +kernel
theorem dL_law_1268 : decode cL_law 1268 = .ok (.iconst 1, 1) := by decide +kernel
theorem dL_law_1269 : decode cL_law 1269 = .ok (.iadd, 1) := by decide +kernel
theorem dL_law_1270 : decode cL_law 1270 = .ok (.iaload, 1) := by decide +kernel
theorem dL_law_1271 : decode cL_law 1271 = .ok (.invokevirtual 146, 3) := by decide +kernel
theorem dL_law_1274 : decode cL_law 1274 = .ok (.if_icmp .eq 74, 3) := by decide +kernel
theorem dL_law_1277 : decode cL_law 1277 = .ok (.iconst 0, 1) := by decide +kernel
theorem dL_law_1278 : decode cL_law 1278 = .ok (.ireturn, 1) := by decide +kernel
theorem dL_law_1279 : decode cL_law 1279 = .ok (.aload_n 1, 1) := by decide +kernel
theorem dL_law_1280 : decode cL_law 1280 = .ok (.aload_n 0, 1) := by decide +kernel
theorem dL_law_1281 : decode cL_law 1281 = .ok (.iload_n 3, 1) := by decide +kernel
theorem dL_law_1282 : decode cL_law 1282 = .ok (.iconst 1, 1) := by decide +kernel
theorem dL_law_1283 : decode cL_law 1283 = .ok (.iadd, 1) := by decide +kernel
theorem dL_law_1284 : decode cL_law 1284 = .ok (.iaload, 1) := by decide +kernel
theorem dL_law_1285 : decode cL_law 1285 = .ok (.invokevirtual 147, 3) := by decide +kernel
theorem dL_law_1288 : decode cL_law 1288 = .ok (.aload_n 2, 1) := by decide +kernel
theorem dL_law_1289 : decode cL_law 1289 = .ok (.aload_n 0, 1) := by decide +kernel
theorem dL_law_1290 : decode cL_law 1290 = .ok (.iload_n 3, 1) := by decide +kernel
theorem dL_law_1291 : decode cL_law 1291 = .ok (.iconst 1, 1) := by decide +kernel
theorem dL_law_1292 : decode cL_law 1292 = .ok (.iadd, 1) := by decide +kernel
theorem dL_law_1293 : decode cL_law 1293 = .ok (.iaload, 1) := by decide +kernel
theorem dL_law_1294 : decode cL_law 1294 = .ok (.invokevirtual 150, 3) := by decide +kernel
theorem dL_law_1297 : decode cL_law 1297 = .ok (.if_icmp .eq 51, 3) := by decide +kernel
theorem dL_law_1300 : decode cL_law 1300 = .ok (.iconst 0, 1) := by decide +kernel
theorem dL_law_1301 : decode cL_law 1301 = .ok (.ireturn, 1) := by decide +kernel
theorem dL_law_1302 : decode cL_law 1302 = .ok (.aload_n 1, 1) := by decide +kernel
theorem dL_law_1303 : decode cL_law 1303 = .ok (.aload_n 0, 1) := by decide +kernel
theorem dL_law_1304 : decode cL_law 1304 = .ok (.iload_n 3, 1) := by decide +kernel
theorem dL_law_1305 : decode cL_law 1305 = .ok (.iconst 1, 1) := by decide +kernel
theorem dL_law_1306 : decode cL_law 1306 = .ok (.iadd, 1) := by decide +kernel
theorem dL_law_1307 : decode cL_law 1307 = .ok (.iaload, 1) := by decide +kernel
theorem dL_law_1308 : decode cL_law 1308 = .ok (.invokevirtual 151, 3) := by decide +kernel
theorem dL_law_1311 : decode cL_law 1311 = .ok (.aload_n 2, 1) := by decide +kernel
theorem dL_law_1312 : decode cL_law 1312 = .ok (.aload_n 0, 1) := by decide +kernel
theorem dL_law_1313 : decode cL_law 1313 = .ok (.iload_n 3, 1) := by decide +kernel
theorem dL_law_1314 : decode cL_law 1314 = .ok (.iconst 1, 1) := by decide +kernel
theorem dL_law_1315 : decode cL_law 1315 = .ok (.iadd, 1) := by decide +kernel
theorem dL_law_1316 : decode cL_law 1316 = .ok (.iaload, 1) := by decide +kernel
theorem dL_law_1317 : decode cL_law 1317 = .ok (.invokevirtual 154, 3) := by decide +kernel
theorem dL_law_1320 : decode cL_law 1320 = .ok (.if_icmp .eq 28, 3) := by decide +kernel
theorem dL_law_1323 : decode cL_law 1323 = .ok (.iconst 0, 1) := by decide +kernel
theorem dL_law_1324 : decode cL_law 1324 = .ok (.ireturn, 1) := by decide +kernel
theorem dL_law_1325 : decode cL_law 1325 = .ok (.aload_n 1, 1) := by decide +kernel
theorem dL_law_1326 : decode cL_law 1326 = .ok (.aload_n 0, 1) := by decide +kernel
theorem dL_law_1327 : decode cL_law 1327 = .ok (.iload_n 3, 1) := by decide +kernel
theorem dL_law_1328 : decode cL_law 1328 = .ok (.iconst 1, 1) := by decide +kernel
theorem dL_law_1329 : decode cL_law 1329 = .ok (.iadd, 1) := by decide +kernel
theorem dL_law_1330 : decode cL_law 1330 = .ok (.iaload, 1) := by decide +kernel
theorem dL_law_1331 : decode cL_law 1331 = .ok (.invokevirtual 155, 3) := by decide +kernel
theorem dL_law_1334 : decode cL_law 1334 = .ok (.aload_n 2, 1) := by decide +kernel
theorem dL_law_1335 : decode cL_law 1335 = .ok (.aload_n 0, 1) := by decide +kernel
theorem dL_law_1336 : decode cL_law 1336 = .ok (.iload_n 3, 1) := by decide +kernel
theorem dL_law_1337 : decode cL_law 1337 = .ok (.iconst 1, 1) := by decide +kernel
theorem dL_law_1338 : decode cL_law 1338 = .ok (.iadd, 1) := by decide +kernel
theorem dL_law_1339 : decode cL_law 1339 = .ok (.iaload, 1) := by decide +kernel
theorem dL_law_1340 : decode cL_law 1340 = .ok (.invokevirtual 158, 3) := by decide +kernel
theorem dL_law_1343 : decode cL_law 1343 = .ok (.if_icmp .eq 5, 3) := by decide +kernel
theorem dL_law_1346 : decode cL_law 1346 = .ok (.iconst 0, 1) := by decide +kernel
theorem dL_law_1347 : decode cL_law 1347 = .ok (.ireturn, 1) := by decide +kernel
theorem dL_law_1348 : decode cL_law 1348 = .ok (.iinc 3 6, 3) := by decide +kernel
theorem dL_law_1351 : decode cL_law 1351 = .ok (.goto (-1333), 3) := by decide +kernel
theorem dL_law_1354 : decode cL_law 1354 = .ok (.iconst 1, 1) := by decide +kernel
theorem dL_law_1355 : decode cL_law 1355 = .ok (.ireturn, 1) := by decide +kernel
end
section
/-! ===== the cells: class and reference, every object and every row ===== -/
abbrev fp_Sh : Type := (FieldType × Nat) ⊕ (Nat × List (Option Nat))
def fp_NC : Nat := 124
def fp_shT : List fp_Sh := [.inr (8, [some 2, some 6, some 18, some 29, some 37, some 43, some 52, some 61, some 1, none]),
  .inl (.int, 7),
  .inr (4, [some 6, some 18, some 29, some 37, some 3, some 4, some 5, none]),
  .inl (.int, 60),
  .inl (.int, 12),
  .inl (.int, 9),
  .inr (2, [some 7, some 8, some 9, none, some 10, some 11, some 12, some 13, some 14, none, some 15, some 16, some 17, none]),
  .inl (.int, 12),
  .inl (.boolean, 12),
  .inl (.int, 144),
  .inl (.int, 24),
  .inl (.int, 24),
  .inl (.int, 24),
  .inl (.int, 24),
  .inl (.int, 24),
  .inl (.int, 40),
  .inl (.int, 40),
  .inl (.int, 40),
  .inr (6, [some 19, some 20, some 21, some 22, none, some 23, some 24, none, some 25, some 26, some 27, some 28, none]),
  .inl (.int, 60),
  .inl (.int, 60),
  .inl (.int, 60),
  .inl (.int, 60),
  .inl (.int, 40),
  .inl (.int, 40),
  .inl (.int, 80),
  .inl (.int, 80),
  .inl (.int, 80),
  .inl (.int, 80),
  .inr (3, [some 34, none, some 30, some 31, some 32, some 33, none]),
  .inl (.int, 30),
  .inl (.int, 30),
  .inl (.int, 30),
  .inl (.int, 1800),
  .inr (5, [some 35, some 36, none, none, none, none, none]),
  .inl (.byte, 60),
  .inl (.int, 60),
  .inr (1, [some 38, some 39, some 40, some 41, some 42, none]),
  .inl (.int, 60),
  .inl (.int, 60),
  .inl (.int, 60),
  .inl (.int, 60),
  .inl (.int, 60),
  .inr (0, [some 44, some 45, some 46, some 47, some 48, some 49, some 50, some 51]),
  .inl (.int, 60),
  .inl (.int, 60),
  .inl (.int, 60),
  .inl (.boolean, 60),
  .inl (.int, 60),
  .inl (.int, 60),
  .inl (.boolean, 60),
  .inl (.byte, 2400),
  .inr (0, [some 53, some 54, some 55, some 56, some 57, some 58, some 59, some 60]),
  .inl (.int, 60),
  .inl (.int, 60),
  .inl (.int, 60),
  .inl (.boolean, 60),
  .inl (.int, 60),
  .inl (.int, 60),
  .inl (.boolean, 60),
  .inl (.byte, 0),
  .inr (7, [some 62, some 63, some 64, none, some 65, some 66, none]),
  .inl (.int, 7),
  .inl (.int, 7),
  .inl (.int, 7),
  .inl (.int, 7),
  .inl (.int, 12),
  .inr (9, [some 68, some 69, some 70, some 71, some 72, some 73, some 74, some 75, some 76, some 77, some 78, some 79, none, none, none, none, some 80, some 81, some 82, some 83, some 84, some 85, some 86, some 87, some 88, some 89, none, none, none, some 90, some 91, some 92, some 93, some 94, some 95, some 96, some 97, some 98, some 99, some 100, some 101, some 102, none, none, some 103, some 104, some 105, some 106, some 107, some 108, some 109, none, none, none, none, some 110, some 111, none, none, none, some 112, some 113, some 114, some 115, some 116, some 117, some 118, some 119, some 120, some 121, some 122, some 123, none, none, none, none, none]),
  .inl (.int, 7),
  .inl (.int, 12),
  .inl (.int, 24),
  .inl (.int, 24),
  .inl (.int, 24),
  .inl (.int, 24),
  .inl (.int, 24),
  .inl (.int, 40),
  .inl (.int, 40),
  .inl (.int, 40),
  .inl (.int, 144),
  .inl (.boolean, 12),
  .inl (.int, 60),
  .inl (.int, 60),
  .inl (.int, 60),
  .inl (.int, 60),
  .inl (.int, 40),
  .inl (.int, 40),
  .inl (.int, 80),
  .inl (.int, 80),
  .inl (.int, 80),
  .inl (.int, 80),
  .inl (.int, 60),
  .inl (.int, 60),
  .inl (.int, 60),
  .inl (.int, 60),
  .inl (.int, 60),
  .inl (.int, 60),
  .inl (.int, 60),
  .inl (.int, 60),
  .inl (.int, 60),
  .inl (.int, 60),
  .inl (.int, 2400),
  .inl (.boolean, 60),
  .inl (.boolean, 60),
  .inl (.int, 60),
  .inl (.int, 1800),
  .inl (.int, 30),
  .inl (.int, 30),
  .inl (.int, 30),
  .inl (.int, 8),
  .inl (.int, 128),
  .inl (.int, 60),
  .inl (.int, 60),
  .inl (.boolean, 60),
  .inl (.int, 60),
  .inl (.int, 60),
  .inl (.int, 60),
  .inl (.int, 60),
  .inl (.int, 60),
  .inl (.boolean, 60),
  .inl (.boolean, 60),
  .inl (.int, 7),
  .inl (.int, 7),
  .inl (.int, 7),
  .inl (.int, 12)]
def fp_sh (k : Nat) : fp_Sh := fp_shT.getD k (.inl (.int, 0))
/-- F -/
theorem sh_0 : fp_sh 0 = .inr (8, [some 2, some 6, some 18, some 29, some 37, some 43, some 52, some 61, some 1, none]) := by decide +kernel
/-- F.refusals -/
theorem sh_1 : fp_sh 1 = .inl (.int, 7) := by decide +kernel
/-- Post -/
theorem sh_2 : fp_sh 2 = .inr (4, [some 6, some 18, some 29, some 37, some 3, some 4, some 5, none]) := by decide +kernel
/-- Post.queue -/
theorem sh_3 : fp_sh 3 = .inl (.int, 60) := by decide +kernel
/-- Post.seen -/
theorem sh_4 : fp_sh 4 = .inl (.int, 12) := by decide +kernel
/-- Post.facts -/
theorem sh_5 : fp_sh 5 = .inl (.int, 9) := by decide +kernel
/-- Net -/
theorem sh_6 : fp_sh 6 = .inr (2, [some 7, some 8, some 9, none, some 10, some 11, some 12, some 13, some 14, none, some 15, some 16, some 17, none]) := by decide +kernel
/-- Net.hands -/
theorem sh_7 : fp_sh 7 = .inl (.int, 12) := by decide +kernel
/-- Net.wired -/
theorem sh_8 : fp_sh 8 = .inl (.boolean, 12) := by decide +kernel
/-- Net.far -/
theorem sh_9 : fp_sh 9 = .inl (.int, 144) := by decide +kernel
/-- Net.endA -/
theorem sh_10 : fp_sh 10 = .inl (.int, 24) := by decide +kernel
/-- Net.endB -/
theorem sh_11 : fp_sh 11 = .inl (.int, 24) := by decide +kernel
/-- Net.length -/
theorem sh_12 : fp_sh 12 = .inl (.int, 24) := by decide +kernel
/-- Net.first -/
theorem sh_13 : fp_sh 13 = .inl (.int, 24) := by decide +kernel
/-- Net.every -/
theorem sh_14 : fp_sh 14 = .inl (.int, 24) := by decide +kernel
/-- Net.shutWay -/
theorem sh_15 : fp_sh 15 = .inl (.int, 40) := by decide +kernel
/-- Net.shutFrom -/
theorem sh_16 : fp_sh 16 = .inl (.int, 40) := by decide +kernel
/-- Net.shutTo -/
theorem sh_17 : fp_sh 17 = .inl (.int, 40) := by decide +kernel
/-- Roll -/
theorem sh_18 : fp_sh 18 = .inr (6, [some 19, some 20, some 21, some 22, none, some 23, some 24, none, some 25, some 26, some 27, some 28, none]) := by decide +kernel
/-- Roll.moveUnit -/
theorem sh_19 : fp_sh 19 = .inl (.int, 60) := by decide +kernel
/-- Roll.moveOffice -/
theorem sh_20 : fp_sh 20 = .inl (.int, 60) := by decide +kernel
/-- Roll.moveFrom -/
theorem sh_21 : fp_sh 21 = .inl (.int, 60) := by decide +kernel
/-- Roll.moveTold -/
theorem sh_22 : fp_sh 22 = .inl (.int, 60) := by decide +kernel
/-- Roll.manUnit -/
theorem sh_23 : fp_sh 23 = .inl (.int, 40) := by decide +kernel
/-- Roll.manName -/
theorem sh_24 : fp_sh 24 = .inl (.int, 40) := by decide +kernel
/-- Roll.stateMan -/
theorem sh_25 : fp_sh 25 = .inl (.int, 80) := by decide +kernel
/-- Roll.stateNumber -/
theorem sh_26 : fp_sh 26 = .inl (.int, 80) := by decide +kernel
/-- Roll.stateOffice -/
theorem sh_27 : fp_sh 27 = .inl (.int, 80) := by decide +kernel
/-- Roll.stateTold -/
theorem sh_28 : fp_sh 28 = .inl (.int, 80) := by decide +kernel
/-- Orders -/
theorem sh_29 : fp_sh 29 = .inr (3, [some 34, none, some 30, some 31, some 32, some 33, none]) := by decide +kernel
/-- Orders.purposes -/
theorem sh_30 : fp_sh 30 = .inl (.int, 30) := by decide +kernel
/-- Orders.told -/
theorem sh_31 : fp_sh 31 = .inl (.int, 30) := by decide +kernel
/-- Orders.sizes -/
theorem sh_32 : fp_sh 32 = .inl (.int, 30) := by decide +kernel
/-- Orders.steps -/
theorem sh_33 : fp_sh 33 = .inl (.int, 1800) := by decide +kernel
/-- Reader -/
theorem sh_34 : fp_sh 34 = .inr (5, [some 35, some 36, none, none, none, none, none]) := by decide +kernel
/-- Reader.text -/
theorem sh_35 : fp_sh 35 = .inl (.byte, 60) := by decide +kernel
/-- Reader.steps -/
theorem sh_36 : fp_sh 36 = .inl (.int, 60) := by decide +kernel
/-- Mails -/
theorem sh_37 : fp_sh 37 = .inr (1, [some 38, some 39, some 40, some 41, some 42, none]) := by decide +kernel
/-- Mails.kind -/
theorem sh_38 : fp_sh 38 = .inl (.int, 60) := by decide +kernel
/-- Mails.origin -/
theorem sh_39 : fp_sh 39 = .inl (.int, 60) := by decide +kernel
/-- Mails.man -/
theorem sh_40 : fp_sh 40 = .inl (.int, 60) := by decide +kernel
/-- Mails.weight -/
theorem sh_41 : fp_sh 41 = .inl (.int, 60) := by decide +kernel
/-- Mails.posted -/
theorem sh_42 : fp_sh 42 = .inl (.int, 60) := by decide +kernel
/-- Course -/
theorem sh_43 : fp_sh 43 = .inr (0, [some 44, some 45, some 46, some 47, some 48, some 49, some 50, some 51]) := by decide +kernel
/-- Course.where -/
theorem sh_44 : fp_sh 44 = .inl (.int, 60) := by decide +kernel
/-- Course.office -/
theorem sh_45 : fp_sh 45 = .inl (.int, 60) := by decide +kernel
/-- Course.hour -/
theorem sh_46 : fp_sh 46 = .inl (.int, 60) := by decide +kernel
/-- Course.turned -/
theorem sh_47 : fp_sh 47 = .inl (.boolean, 60) := by decide +kernel
/-- Course.word -/
theorem sh_48 : fp_sh 48 = .inl (.int, 60) := by decide +kernel
/-- Course.came -/
theorem sh_49 : fp_sh 49 = .inl (.int, 60) := by decide +kernel
/-- Course.spoilt -/
theorem sh_50 : fp_sh 50 = .inl (.boolean, 60) := by decide +kernel
/-- Course.traces -/
theorem sh_51 : fp_sh 51 = .inl (.byte, 2400) := by decide +kernel
/-- Glass -/
theorem sh_52 : fp_sh 52 = .inr (0, [some 53, some 54, some 55, some 56, some 57, some 58, some 59, some 60]) := by decide +kernel
/-- Glass.where -/
theorem sh_53 : fp_sh 53 = .inl (.int, 60) := by decide +kernel
/-- Glass.office -/
theorem sh_54 : fp_sh 54 = .inl (.int, 60) := by decide +kernel
/-- Glass.hour -/
theorem sh_55 : fp_sh 55 = .inl (.int, 60) := by decide +kernel
/-- Glass.turned -/
theorem sh_56 : fp_sh 56 = .inl (.boolean, 60) := by decide +kernel
/-- Glass.word -/
theorem sh_57 : fp_sh 57 = .inl (.int, 60) := by decide +kernel
/-- Glass.came -/
theorem sh_58 : fp_sh 58 = .inl (.int, 60) := by decide +kernel
/-- Glass.spoilt -/
theorem sh_59 : fp_sh 59 = .inl (.boolean, 60) := by decide +kernel
/-- Glass.traces -/
theorem sh_60 : fp_sh 60 = .inl (.byte, 0) := by decide +kernel
/-- Shed -/
theorem sh_61 : fp_sh 61 = .inr (7, [some 62, some 63, some 64, none, some 65, some 66, none]) := by decide +kernel
/-- Shed.times -/
theorem sh_62 : fp_sh 62 = .inl (.int, 7) := by decide +kernel
/-- Shed.trains -/
theorem sh_63 : fp_sh 63 = .inl (.int, 7) := by decide +kernel
/-- Shed.letters -/
theorem sh_64 : fp_sh 64 = .inl (.int, 7) := by decide +kernel
/-- Shed.byTrain -/
theorem sh_65 : fp_sh 65 = .inl (.int, 7) := by decide +kernel
/-- Shed.row -/
theorem sh_66 : fp_sh 66 = .inl (.int, 12) := by decide +kernel
/-- M -/
theorem sh_67 : fp_sh 67 = .inr (9, [some 68, some 69, some 70, some 71, some 72, some 73, some 74, some 75, some 76, some 77, some 78, some 79, none, none, none, none, some 80, some 81, some 82, some 83, some 84, some 85, some 86, some 87, some 88, some 89, none, none, none, some 90, some 91, some 92, some 93, some 94, some 95, some 96, some 97, some 98, some 99, some 100, some 101, some 102, none, none, some 103, some 104, some 105, some 106, some 107, some 108, some 109, none, none, none, none, some 110, some 111, none, none, none, some 112, some 113, some 114, some 115, some 116, some 117, some 118, some 119, some 120, some 121, some 122, some 123, none, none, none, none, none]) := by decide +kernel
/-- M.refused -/
theorem sh_68 : fp_sh 68 = .inl (.int, 7) := by decide +kernel
/-- M.hands -/
theorem sh_69 : fp_sh 69 = .inl (.int, 12) := by decide +kernel
/-- M.wayA -/
theorem sh_70 : fp_sh 70 = .inl (.int, 24) := by decide +kernel
/-- M.wayB -/
theorem sh_71 : fp_sh 71 = .inl (.int, 24) := by decide +kernel
/-- M.length -/
theorem sh_72 : fp_sh 72 = .inl (.int, 24) := by decide +kernel
/-- M.first -/
theorem sh_73 : fp_sh 73 = .inl (.int, 24) := by decide +kernel
/-- M.every -/
theorem sh_74 : fp_sh 74 = .inl (.int, 24) := by decide +kernel
/-- M.shutWay -/
theorem sh_75 : fp_sh 75 = .inl (.int, 40) := by decide +kernel
/-- M.shutFrom -/
theorem sh_76 : fp_sh 76 = .inl (.int, 40) := by decide +kernel
/-- M.shutTo -/
theorem sh_77 : fp_sh 77 = .inl (.int, 40) := by decide +kernel
/-- M.far -/
theorem sh_78 : fp_sh 78 = .inl (.int, 144) := by decide +kernel
/-- M.isWired -/
theorem sh_79 : fp_sh 79 = .inl (.boolean, 12) := by decide +kernel
/-- M.moveUnit -/
theorem sh_80 : fp_sh 80 = .inl (.int, 60) := by decide +kernel
/-- M.moveTo -/
theorem sh_81 : fp_sh 81 = .inl (.int, 60) := by decide +kernel
/-- M.moveFrom -/
theorem sh_82 : fp_sh 82 = .inl (.int, 60) := by decide +kernel
/-- M.moveTold -/
theorem sh_83 : fp_sh 83 = .inl (.int, 60) := by decide +kernel
/-- M.manUnit -/
theorem sh_84 : fp_sh 84 = .inl (.int, 40) := by decide +kernel
/-- M.manName -/
theorem sh_85 : fp_sh 85 = .inl (.int, 40) := by decide +kernel
/-- M.stateMan -/
theorem sh_86 : fp_sh 86 = .inl (.int, 80) := by decide +kernel
/-- M.stateAs -/
theorem sh_87 : fp_sh 87 = .inl (.int, 80) := by decide +kernel
/-- M.stateIn -/
theorem sh_88 : fp_sh 88 = .inl (.int, 80) := by decide +kernel
/-- M.stateTold -/
theorem sh_89 : fp_sh 89 = .inl (.int, 80) := by decide +kernel
/-- M.kind -/
theorem sh_90 : fp_sh 90 = .inl (.int, 60) := by decide +kernel
/-- M.postedAt -/
theorem sh_91 : fp_sh 91 = .inl (.int, 60) := by decide +kernel
/-- M.posted -/
theorem sh_92 : fp_sh 92 = .inl (.int, 60) := by decide +kernel
/-- M.to -/
theorem sh_93 : fp_sh 93 = .inl (.int, 60) := by decide +kernel
/-- M.weight -/
theorem sh_94 : fp_sh 94 = .inl (.int, 60) := by decide +kernel
/-- M.where -/
theorem sh_95 : fp_sh 95 = .inl (.int, 60) := by decide +kernel
/-- M.place -/
theorem sh_96 : fp_sh 96 = .inl (.int, 60) := by decide +kernel
/-- M.hour -/
theorem sh_97 : fp_sh 97 = .inl (.int, 60) := by decide +kernel
/-- M.word -/
theorem sh_98 : fp_sh 98 = .inl (.int, 60) := by decide +kernel
/-- M.came -/
theorem sh_99 : fp_sh 99 = .inl (.int, 60) := by decide +kernel
/-- M.trace -/
theorem sh_100 : fp_sh 100 = .inl (.int, 2400) := by decide +kernel
/-- M.isTurned -/
theorem sh_101 : fp_sh 101 = .inl (.boolean, 60) := by decide +kernel
/-- M.isSpoilt -/
theorem sh_102 : fp_sh 102 = .inl (.boolean, 60) := by decide +kernel
/-- M.tape -/
theorem sh_103 : fp_sh 103 = .inl (.int, 60) := by decide +kernel
/-- M.text -/
theorem sh_104 : fp_sh 104 = .inl (.int, 1800) := by decide +kernel
/-- M.textSize -/
theorem sh_105 : fp_sh 105 = .inl (.int, 30) := by decide +kernel
/-- M.purpose -/
theorem sh_106 : fp_sh 106 = .inl (.int, 30) := by decide +kernel
/-- M.orderTold -/
theorem sh_107 : fp_sh 107 = .inl (.int, 30) := by decide +kernel
/-- M.stack -/
theorem sh_108 : fp_sh 108 = .inl (.int, 8) := by decide +kernel
/-- M.fact -/
theorem sh_109 : fp_sh 109 = .inl (.int, 128) := by decide +kernel
/-- M.waits -/
theorem sh_110 : fp_sh 110 = .inl (.int, 60) := by decide +kernel
/-- M.values -/
theorem sh_111 : fp_sh 111 = .inl (.int, 60) := by decide +kernel
/-- M.isSeen -/
theorem sh_112 : fp_sh 112 = .inl (.boolean, 60) := by decide +kernel
/-- M.keptWhere -/
theorem sh_113 : fp_sh 113 = .inl (.int, 60) := by decide +kernel
/-- M.keptPlace -/
theorem sh_114 : fp_sh 114 = .inl (.int, 60) := by decide +kernel
/-- M.keptHour -/
theorem sh_115 : fp_sh 115 = .inl (.int, 60) := by decide +kernel
/-- M.keptWord -/
theorem sh_116 : fp_sh 116 = .inl (.int, 60) := by decide +kernel
/-- M.keptCame -/
theorem sh_117 : fp_sh 117 = .inl (.int, 60) := by decide +kernel
/-- M.keptTurned -/
theorem sh_118 : fp_sh 118 = .inl (.boolean, 60) := by decide +kernel
/-- M.keptSpoilt -/
theorem sh_119 : fp_sh 119 = .inl (.boolean, 60) := by decide +kernel
/-- M.time -/
theorem sh_120 : fp_sh 120 = .inl (.int, 7) := by decide +kernel
/-- M.train -/
theorem sh_121 : fp_sh 121 = .inl (.int, 7) := by decide +kernel
/-- M.letters -/
theorem sh_122 : fp_sh 122 = .inl (.int, 7) := by decide +kernel
/-- M.row -/
theorem sh_123 : fp_sh 123 = .inl (.int, 12) := by decide +kernel
def fp_isC (c : Nat) : Prop := c = 43 ∨ c = 52
def fp_trl (c : Nat) : Nat := if c = 43 then 2400 else 0
theorem shC {c : Nat} (h : fp_isC c) : fp_sh c = .inr (0, [some (c + 1), some (c + 2), some (c + 3), some (c + 4), some (c + 5), some (c + 6), some (c + 7), some (c + 8)]) := by rcases h with rfl | rfl <;> decide +kernel
theorem shC_1 {c : Nat} (h : fp_isC c) : fp_sh (c + 1) = .inl (.int, 60) := by rcases h with rfl | rfl <;> decide +kernel
theorem shC_2 {c : Nat} (h : fp_isC c) : fp_sh (c + 2) = .inl (.int, 60) := by rcases h with rfl | rfl <;> decide +kernel
theorem shC_3 {c : Nat} (h : fp_isC c) : fp_sh (c + 3) = .inl (.int, 60) := by rcases h with rfl | rfl <;> decide +kernel
theorem shC_4 {c : Nat} (h : fp_isC c) : fp_sh (c + 4) = .inl (.boolean, 60) := by rcases h with rfl | rfl <;> decide +kernel
theorem shC_5 {c : Nat} (h : fp_isC c) : fp_sh (c + 5) = .inl (.int, 60) := by rcases h with rfl | rfl <;> decide +kernel
theorem shC_6 {c : Nat} (h : fp_isC c) : fp_sh (c + 6) = .inl (.int, 60) := by rcases h with rfl | rfl <;> decide +kernel
theorem shC_7 {c : Nat} (h : fp_isC c) : fp_sh (c + 7) = .inl (.boolean, 60) := by rcases h with rfl | rfl <;> decide +kernel
theorem shC_8 {c : Nat} (h : fp_isC c) : fp_sh (c + 8) = .inl (.byte, fp_trl c) := by rcases h with rfl | rfl <;> decide +kernel
theorem ltC {c i : Nat} (h : fp_isC c) (hi : i < 9) : c + i < fp_NC := by rcases h with rfl | rfl <;> (show _ < 124; omega)
end
section
/-! ===== THE FRAME: all cells of class and reference as one state g : cell → place → int; a walk of a method over it ===== -/
abbrev fp_G : Type := Nat → Nat → Int32
def gu (g : fp_G) (k i : Nat) (x : Int32) : fp_G := fun k' i' => if k' = k ∧ i' = i then x else g k' i'
def gc (g : fp_G) (k : Nat) (f : Nat → Int32) : fp_G := fun k' => if k' = k then f else g k'
def tn (i : Int32) : Nat := i.toNatClampNeg
theorem gu_gc (g : fp_G) (k i : Nat) (x : Int32) : gu g k i x = gc g k (upd (g k) i x) := by
  funext k' i'
  by_cases h : k' = k
  · subst h
    by_cases h2 : i' = i <;> simp [gu, gc, upd, h2]
  · simp [gu, gc, h]
abbrev fp_E : Type := va_G × (Nat → Nat) × (FieldType → ClassId)
def fp_rv (ad : Nat → Nat) (v : Value) : Value := match v with
  | .ref k => .ref (ad k)
  | v => v
def fp_fs (ad : Nat → Nat) (f : Nat → Int32) : Nat → List (Option Nat) → List Value
  | _, [] => []
  | j, none :: r => .int (f j) :: fp_fs ad f (j + 1) r
  | j, some q :: r => .ref (ad q) :: fp_fs ad f (j + 1) r
def fp_cl (E : fp_E) (sh : fp_Sh) (f : Nat → Int32) : va_E := match sh with
  | .inl t => .inl (E.2.2 t.1, t.2, .inl f)
  | .inr o => .inr (o.1, fp_fs E.2.1 f 0 o.2)
def fp_ws (E : fp_E) (g : fp_G) : va_W := (List.range fp_NC).map (fun k => (E.2.1 k, fp_cl E (fp_sh k) (g k)))
def fp_A (E : fp_E) : Nat → Prop := fun q => ∃ k, k < fp_NC ∧ q = E.2.1 k
def fp_Inj (E : fp_E) : Prop := ∀ i j, i < fp_NC → j < fp_NC → E.2.1 i = E.2.1 j → i = j
theorem fp_ws_at (E : fp_E) (g : fp_G) {k : Nat} (hk : k < fp_NC) : (fp_ws E g)[k]? = some (E.2.1 k, fp_cl E (fp_sh k) (g k)) := by
  simp [fp_ws, hk]
theorem fp_ws_len (E : fp_E) (g : fp_G) : (fp_ws E g).length = fp_NC := by simp [fp_ws]
theorem fp_ws_set (E : fp_E) (g : fp_G) {k : Nat} (hk : k < fp_NC) (f : Nat → Int32) : (fp_ws E g).set k (E.2.1 k, fp_cl E (fp_sh k) f) = fp_ws E (gc g k f) := by
  apply List.ext_getElem?
  intro i
  by_cases hi : i < fp_NC
  · rw [fp_ws_at E _ hi]
    by_cases h : i = k
    · subst h
      rw [List.getElem?_set_self (by rw [fp_ws_len]; exact hi)]
      simp [gc]
    · rw [List.getElem?_set_ne (Ne.symm h), fp_ws_at E _ hi]
      simp [gc, h]
  · rw [List.getElem?_eq_none (by rw [List.length_set, fp_ws_len]; omega), List.getElem?_eq_none (by rw [fp_ws_len]; omega)]
theorem fp_ws_inv {E : fp_E} {g : fp_G} {k : Nat} {q : Nat × va_E} (h : (fp_ws E g)[k]? = some q) : k < fp_NC ∧ q = (E.2.1 k, fp_cl E (fp_sh k) (g k)) := by
  have hk : k < fp_NC := by
    have := (List.getElem?_eq_some_iff.mp h).1
    rw [fp_ws_len] at this
    exact this
  rw [fp_ws_at E g hk] at h
  exact ⟨hk, (Option.some.inj h).symm⟩
theorem fp_D {E : fp_E} (hi : fp_Inj E) (g : fp_G) : va_D (fp_A E) (fp_ws E g) := by
  refine ⟨fun i j p q hp hq e => ?_, fun k q hk => ?_⟩
  · obtain ⟨h1, rfl⟩ := fp_ws_inv hp
    obtain ⟨h2, rfl⟩ := fp_ws_inv hq
    exact hi i j h1 h2 e
  · obtain ⟨h1, rfl⟩ := fp_ws_inv hk
    exact ⟨k, h1, rfl⟩
theorem fp_fs_get (ad : Nat → Nat) (f : Nat → Int32) : ∀ (rs : List (Option Nat)) (n j : Nat) (r : Option Nat), rs[j]? = some r → (fp_fs ad f n rs)[j]? = some (match r with | none => .int (f (n + j)) | some q => .ref (ad q))
  | [], n, j, r, h => by simp at h
  | none :: rs, n, 0, r, h => by
    cases h
    rfl
  | some q :: rs, n, 0, r, h => by
    cases h
    rfl
  | none :: rs, n, j + 1, r, h => by
    have := fp_fs_get ad f rs (n + 1) j r h
    rw [show n + 1 + j = n + (j + 1) by omega] at this
    exact this
  | some q :: rs, n, j + 1, r, h => by
    have := fp_fs_get ad f rs (n + 1) j r h
    rw [show n + 1 + j = n + (j + 1) by omega] at this
    exact this
theorem fp_fs_len (ad : Nat → Nat) (f : Nat → Int32) : ∀ (rs : List (Option Nat)) (n : Nat), (fp_fs ad f n rs).length = rs.length
  | [], n => rfl
  | none :: rs, n => by simp [fp_fs, fp_fs_len ad f rs (n + 1)]
  | some q :: rs, n => by simp [fp_fs, fp_fs_len ad f rs (n + 1)]
theorem fp_fs_cong (ad : Nat → Nat) {f h : Nat → Int32} : ∀ (rs : List (Option Nat)) (n : Nat), (∀ j, n ≤ j → f j = h j) → fp_fs ad f n rs = fp_fs ad h n rs
  | [], n, _ => rfl
  | none :: rs, n, e => by rw [fp_fs, fp_fs, e n (Nat.le_refl n), fp_fs_cong ad rs (n + 1) (fun j hj => e j (by omega))]
  | some q :: rs, n, e => by rw [fp_fs, fp_fs, fp_fs_cong ad rs (n + 1) (fun j hj => e j (by omega))]
theorem fp_fs_set (ad : Nat → Nat) (f : Nat → Int32) (x : Int32) : ∀ (rs : List (Option Nat)) (n j : Nat), rs[j]? = some none → (fp_fs ad f n rs).set j (.int x) = fp_fs ad (upd f (n + j) x) n rs
  | [], n, j, h => by simp at h
  | none :: rs, n, 0, h => by
    show Value.int x :: fp_fs ad f (n + 1) rs = Value.int (upd f (n + 0) x n) :: fp_fs ad (upd f (n + 0) x) (n + 1) rs
    rw [fp_fs_cong ad rs (n + 1) (f := f) (h := upd f (n + 0) x) (fun j hj => by simp [upd]; omega)]
    simp [upd]
  | some q :: rs, n, 0, h => by cases h
  | none :: rs, n, j + 1, h => by
    have := fp_fs_set ad f x rs (n + 1) j h
    rw [show n + 1 + j = n + (j + 1) by omega] at this
    show Value.int (f n) :: (fp_fs ad f (n + 1) rs).set j (.int x) = Value.int (upd f (n + (j + 1)) x n) :: fp_fs ad (upd f (n + (j + 1)) x) (n + 1) rs
    rw [this]
    simp [upd]
  | some q :: rs, n, j + 1, h => by
    have := fp_fs_set ad f x rs (n + 1) j h
    rw [show n + 1 + j = n + (j + 1) by omega] at this
    show Value.ref (ad q) :: (fp_fs ad f (n + 1) rs).set j (.int x) = Value.ref (ad q) :: fp_fs ad (upd f (n + (j + 1)) x) (n + 1) rs
    rw [this]
/-- what is known beside the cells: the tables, the String constants -/
def fp_Env (E : fp_E) (U : State) (H : Heap) : Prop :=
  va_K E.1 vwCl [(E.2.2 .int, .int), (E.2.2 .boolean, .boolean), (E.2.2 .byte, .byte)] U ∧ fp_Inj E ∧
  vk_S 2 [9, 3] [[107, 119, 97, 104, 115, 117, 111, 98, 99], [60, 61, 62]] (fun i => E.2.1 (fp_NC + i)) (fun i => E.2.1 (fp_NC + 2 + i)) (fp_A E) U H ∧
  vk_R RX5 72 "kwahsuobc" (E.2.1 fp_NC) U ∧ vk_R RX5 80 "<=>" (E.2.1 (fp_NC + 1)) U ∧ va_Z RJ0 "COMPACT_STRINGS" "Z" (.int 1) (fp_A E) U H
theorem fp_Env.same {E : fp_E} {u U : State} {H : Heap} (hv : U.vm = u.vm) (h : fp_Env E u H) : fp_Env E U H := by
  have hvm : u.vm.Alike U.vm := by rw [hv]; exact Vm.Alike.refl u.vm
  exact ⟨va_K.moved hvm h.1, h.2.1, vk_S.moved hvm h.2.2.1, vk_R.same hv h.2.2.2.1, vk_R.same hv h.2.2.2.2.1, va_Z.moved hvm h.2.2.2.2.2⟩
theorem fp_Env.warm {E : fp_E} {s U : State} {H : Heap} (hW : s.WarmedH U.vm) (h : fp_Env E s H) : fp_Env E U H :=
  ⟨va_K.moved hW.alike h.1, h.2.1, vk_S.moved hW.alike h.2.2.1, vk_R.warm hW h.2.2.2.1, vk_R.warm hW h.2.2.2.2.1, va_Z.moved hW.alike h.2.2.2.2.2⟩
theorem fp_Env.kept {E : fp_E} {s : State} {H H1 : Heap} (hq : ∀ a : Nat, a < H.size → ¬ fp_A E a → H1[a]? = H[a]?) (h : fp_Env E s H) : fp_Env E s H1 :=
  ⟨h.1, h.2.1, h.2.2.1.kept hq, h.2.2.2.1, h.2.2.2.2.1, h.2.2.2.2.2.kept hq⟩
/-- the words that every method here carries along -/
def fp_lw : List Cond := lw_tbl.filter goodWord
theorem fp_mem {w : Cond} (i : Nat) (h : lw_tbl[i]? = some w) (hg : goodWord w = true) : w ∈ fp_lw := List.mem_filter.mpr ⟨List.mem_of_getElem? h, hg⟩
theorem fp_good {c : Cond} (hc : c ∈ fp_lw) (b : Cond) : GoodIn (b :: fp_lw) (c :: fp_lw) := by
  intro w hw
  have : w ∈ fp_lw := by
    rcases List.mem_cons.mp hw with h | h
    · rw [h]; exact hc
    · exact h
  exact ⟨List.mem_cons_of_mem _ this, good_of_word (List.mem_filter.mp this).2⟩
def fp_B (E : fp_E) (g : fp_G) (t : State) : Prop := va_P E.1 vwCl (fp_ws E g) t.heap
def fp_Q (E : fp_E) (isV : Bool) (K : Int32 → fp_G → Prop) : Array Value → State → Outcome → State → Prop := match isV with
  | true => va_Qv (K 0) (fp_B E) (fp_A E)
  | false => va_Qi K (fp_B E) (fp_A E)
def fp_Pc (E : fp_E) (av : List Value) (g : fp_G) : Array Value → State → Prop := va_Pc (av.map (fp_rv E.2.1)) (fun U => fp_Env E U U.heap ∧ fp_B E g U)
def fp_rm (d : Nat) : Room := { frames := d, cells := 0, slots := 0, locals := 60 * d }
/-- a method's contract: called on these values over g it comes back with K -/
def fp_M (l : Launch) (E : fp_E) (y : MethodName) (bytes : ByteArray) (maxL : Nat) (ret : Option FieldType) (isV : Bool) (d : Nat) (av : List Value) (g : fp_G) (K : Int32 → fp_G → Prop) : Prop :=
  Met l y (Cond.code y bytes maxL ret :: fp_lw) (fp_rm d) (fp_Pc E av g) (fp_Q E isV K) 0 0 (fp_A E)
theorem fp_blind (E : fp_E) (av : List Value) (g : fp_G) : FrameBlind (fp_Pc E av g) := by
  intro a U f mk h
  exact ⟨h.1, fp_Env.same rfl h.2.1, h.2.2⟩
abbrev fp_Z : Type := (Program × Launch × Env × Room × State × MethodId × Array Value × List Frame × Method × Code) × fp_E × Bool × (Int32 → fp_G → Prop) × Nat × Nat
def fp_al (ad : Nat → Nat) : Nat → List (Option Value) → List (Nat × Value)
  | _, [] => []
  | i, none :: r => fp_al ad (i + 1) r
  | i, some v :: r => (i, fp_rv ad v) :: fp_al ad (i + 1) r
def WA (Z : fp_Z) (pc : Nat) (L : List (Option Value)) (S : List Value) (g : fp_G) : Prop :=
  ∀ (ls : Array Slot) (H : Heap) (locs : List Loc), lv_has ls Z.2.2.2.2.1 (fp_al Z.2.1.2.1 0 L) → va_P Z.2.1.1 vwCl (fp_ws Z.2.1 g) H → va_S (fp_A Z.2.1) Z.1.2.2.2.2.1.heap H locs →
    W Z.1.1 Z.1.2.1 Z.1.2.2.1 Z.1.2.2.2.1 Z.1.2.2.2.2.1 Z.1.2.2.2.2.2.1 Z.1.2.2.2.2.2.2.1 Z.1.2.2.2.2.2.2.2.1 Z.1.2.2.2.2.2.2.2.2.1 Z.1.2.2.2.2.2.2.2.2.2 H locs 0 0
      (MQ Z.1.2.2.2.2.2.2.2.1 (fp_Q Z.2.1 Z.2.2.1 Z.2.2.2.1) Z.1.2.2.2.2.2.2.1 Z.1.2.2.2.2.1 0 0 (fp_A Z.2.1)) (F0 Z.1.2.2.2.2.2.1 pc ls (S.map (fp_rv Z.2.1.2.1)))
/-- what a walk rests on: the machine, the code, the tables -/
def fp_C (Z : fp_Z) (cc : ByteArray) (own : String) (ret : Option FieldType) : Prop :=
  Z.1.1.tables.exec = Jvm.exec ∧ Z.1.2.2.2.2.2.2.2.2.2.code = cc ∧ Z.1.2.2.2.2.2.2.2.2.2.maxLocals = Z.2.2.2.2.1 ∧ Z.1.2.2.2.2.1.vm.findClass own = some Z.1.2.2.2.2.2.1.cls ∧
  (∃ b, ∀ w ∈ b :: fp_lw, w.before Z.1.2.2.2.2.2.2.1 Z.1.2.2.2.2.1 = true) ∧ fp_Env Z.2.1 Z.1.2.2.2.2.1 Z.1.2.2.2.2.1.heap ∧ Z.1.2.2.2.2.2.2.2.2.1.sig.returnType = ret ∧ Z.1.2.2.2.2.2.2.2.2.1.locks = false ∧ Z.1.2.2.2.1 = fp_rm Z.2.2.2.2.2
theorem fp_C.exec {Z : fp_Z} {cc : ByteArray} {own : String} {ret : Option FieldType} (h : fp_C Z cc own ret) : Z.1.1.tables.exec = Jvm.exec := h.1
theorem fp_C.bytes {Z : fp_Z} {cc : ByteArray} {own : String} {ret : Option FieldType} (h : fp_C Z cc own ret) : Z.1.2.2.2.2.2.2.2.2.2.code = cc := h.2.1
theorem fp_C.word {Z : fp_Z} {cc : ByteArray} {own : String} {ret : Option FieldType} (h : fp_C Z cc own ret) {w : Cond} (hw : w ∈ fp_lw) : w.before Z.1.2.2.2.2.2.2.1 Z.1.2.2.2.2.1 = true := by
  obtain ⟨b, hb⟩ := h.2.2.2.2.1
  exact hb w (List.mem_cons_of_mem _ hw)
theorem fp_C.words {Z : fp_Z} {cc : ByteArray} {own : String} {ret : Option FieldType} (h : fp_C Z cc own ret) : ∀ w ∈ fp_lw, w.before Z.1.2.2.2.2.2.2.1 Z.1.2.2.2.2.1 = true := fun _ hw => h.word hw
/-- into a method -/
theorem fp_enter {l : Launch} {E : fp_E} {y : MethodName} {bytes : ByteArray} {maxL : Nat} {ret : Option FieldType} {isV : Bool} {d : Nat} {av : List Value} {g : fp_G} {K : Int32 → fp_G → Prop}
    (hy : plainName y.cls = true) (L : List (Option Value)) (hlen : (lg_sl (av.map (fp_rv E.2.1))).length ≤ maxL) (hL : ∀ q ∈ fp_al E.2.1 0 L, q ∈ lv_args 0 (av.map (fp_rv E.2.1)))
    (body : ∀ Z : fp_Z, Z.2.1 = E → Z.1.2.1 = l → Z.2.2.1 = isV → Z.2.2.2.1 = K → Z.2.2.2.2.1 = maxL → Z.2.2.2.2.2 = d → fp_C Z bytes y.cls ret → WA Z 0 L [] g) : fp_M l E y bytes maxL ret isV d av g K := by
  refine Met.ofW (cc := bytes) (maxL := maxL) (ret := ret) hy rfl ?_
  intro p e s m args below meth c s₁ B hml hv
  obtain ⟨rfl, hE, hP⟩ := hv
  have hts := atoms_spec (ws := Cond.code y bytes maxL ret :: fp_lw) B.pre
  have hl := lv_entry (av.map (fp_rv E.2.1)) (n := maxL) hlen
  rw [lg_entry_eq]
  exact body ((p, l, e, (headSpec (Cond.code y bytes maxL ret :: fp_lw) (fp_rm d)).room, s, m, _, below, meth, c), E, isV, K, maxL, d) rfl rfl rfl rfl rfl rfl
    ⟨B.exec, B.bytes, hml, findClass_of_methodNamed B.named, ⟨_, hts⟩, hE, B.returns, B.notSynchronized, rfl⟩ _ _ _ ⟨hl.1, hl.2.1, fun q hq => hl.2.2 q (hL q hq)⟩ hP va_S.rf
end
section
/-! ===== one instruction, one law ===== -/
theorem fp_al_mem {ad : Nat → Nat} : ∀ (L : List (Option Value)) (n i : Nat) (w : Value), (i, w) ∈ fp_al ad n L ↔ ∃ j v, L[j]? = some (some v) ∧ i = n + j ∧ w = fp_rv ad v
  | [], n, i, w => by simp [fp_al]
  | none :: L, n, i, w => by
    rw [fp_al, fp_al_mem L (n + 1) i w]
    constructor
    · rintro ⟨j, v, h1, h2, h3⟩
      exact ⟨j + 1, v, h1, by omega, h3⟩
    · rintro ⟨j, v, h1, h2, h3⟩
      cases j with
      | zero => simp at h1
      | succ j => exact ⟨j, v, h1, by omega, h3⟩
  | some u :: L, n, i, w => by
    rw [fp_al, List.mem_cons, fp_al_mem L (n + 1) i w]
    constructor
    · rintro (h | ⟨j, v, h1, h2, h3⟩)
      · cases h
        exact ⟨0, u, rfl, rfl, rfl⟩
      · exact ⟨j + 1, v, h1, by omega, h3⟩
    · rintro ⟨j, v, h1, h2, h3⟩
      cases j with
      | zero =>
        cases h1
        exact Or.inl (by rw [h2, h3]; rfl)
      | succ j => exact Or.inr ⟨j, v, h1, by omega, h3⟩
theorem fp_at {ad : Nat → Nat} {ls : Array Slot} {n i : Nat} {L : List (Option Value)} {v : Value} (h : lv_has ls n (fp_al ad 0 L)) (hL : L[i]? = some (some v)) : ls[i]? = some (.val (fp_rv ad v)) :=
  h.2.2 (i, fp_rv ad v) ((fp_al_mem L 0 i _).mpr ⟨i, v, hL, by omega, rfl⟩)
/-- no long stands just ahead -/
def fp_c1 (L : List (Option Value)) (i : Nat) : Bool := match i with
  | 0 => true
  | j + 1 => match L[j]? with
    | some (some v) => v.category == 1
    | _ => true
theorem fp_rv_cat (ad : Nat → Nat) (v : Value) : (fp_rv ad v).category = v.category := by cases v <;> rfl
theorem fp_st {ad : Nat → Nat} {ls : Array Slot} {n i : Nat} {L : List (Option Value)} {v : Value} (h1 : fp_c1 L i = true) (h : lv_has ls n ((i, fp_rv ad v) :: (fp_al ad 0 L).filter (fun q => !(q.1 == i) && !(q.1 + 1 == i && q.2.category == 2)))) : lv_has ls n (fp_al ad 0 (L.set i (some v))) := by
  refine ⟨h.1, h.2.1, fun q hq => h.2.2 q ?_⟩
  obtain ⟨a, w⟩ := q
  obtain ⟨j, u, e1, e2, e3⟩ := (fp_al_mem _ 0 a w).mp hq
  have e2 : a = j := by omega
  subst e2
  by_cases hj : a = i
  · subst hj
    have hlt : a < L.length := by
      have := (List.getElem?_eq_some_iff.mp e1).1
      simpa using this
    rw [List.getElem?_set_self hlt] at e1
    cases e1
    rw [e3]
    exact List.mem_cons_self
  · rw [List.getElem?_set_ne (Ne.symm hj)] at e1
    refine List.mem_cons_of_mem _ (List.mem_filter.mpr ⟨(fp_al_mem L 0 a w).mpr ⟨a, u, e1, by omega, e3⟩, ?_⟩)
    have hb : (a + 1 == i && w.category == 2) = false := by
      by_cases hi : a + 1 = i
      · subst hi
        simp only [fp_c1, e1] at h1
        have h2 : u.category = 1 := by simpa using h1
        rw [e3, fp_rv_cat, h2]
        simp
      · simp [hi]
    simp [hj, hb]
theorem wa_iload_n {Z : fp_Z} {cc : ByteArray} {own : String} {ret : Option FieldType} {pc : Nat} {L : List (Option Value)} {S : List Value} {g : fp_G} (C : fp_C Z cc own ret) {n : Fin 4} {i : Nat} {x : Int32} (hd : decode cc pc = .ok (.iload_n n, 1)) (hi : (n : Nat) = i) (hL : L[i]? = some (some (.int x))) (k : WA Z (pc + 1) L (.int x :: S) g) : WA Z pc L S g := fun ls H locs hl hP hS => lv_iload_n C.exec C.bytes hd hi (fp_at hl hL) (k ls H locs hl hP hS)
theorem wa_iload {Z : fp_Z} {cc : ByteArray} {own : String} {ret : Option FieldType} {pc : Nat} {L : List (Option Value)} {S : List Value} {g : fp_G} (C : fp_C Z cc own ret) {i : Nat} {x : Int32} (hd : decode cc pc = .ok (.iload i, 2)) (hL : L[i]? = some (some (.int x))) (k : WA Z (pc + 2) L (.int x :: S) g) : WA Z pc L S g := fun ls H locs hl hP hS => lv_iload C.exec C.bytes hd (fp_at hl hL) (k ls H locs hl hP hS)
theorem wa_lload_n {Z : fp_Z} {cc : ByteArray} {own : String} {ret : Option FieldType} {pc : Nat} {L : List (Option Value)} {S : List Value} {g : fp_G} (C : fp_C Z cc own ret) {n : Fin 4} {i : Nat} {x : Int64} (hd : decode cc pc = .ok (.lload_n n, 1)) (hi : (n : Nat) = i) (hL : L[i]? = some (some (.long x))) (k : WA Z (pc + 1) L (.long x :: S) g) : WA Z pc L S g := fun ls H locs hl hP hS => lv_lload_n C.exec C.bytes hd hi (fp_at hl hL) (k ls H locs hl hP hS)
theorem wa_lload {Z : fp_Z} {cc : ByteArray} {own : String} {ret : Option FieldType} {pc : Nat} {L : List (Option Value)} {S : List Value} {g : fp_G} (C : fp_C Z cc own ret) {i : Nat} {x : Int64} (hd : decode cc pc = .ok (.lload i, 2)) (hL : L[i]? = some (some (.long x))) (k : WA Z (pc + 2) L (.long x :: S) g) : WA Z pc L S g := fun ls H locs hl hP hS => lv_lload C.exec C.bytes hd (fp_at hl hL) (k ls H locs hl hP hS)
theorem wa_aload_n {Z : fp_Z} {cc : ByteArray} {own : String} {ret : Option FieldType} {pc : Nat} {L : List (Option Value)} {S : List Value} {g : fp_G} (C : fp_C Z cc own ret) {n : Fin 4} {i : Nat} {x : Nat} (hd : decode cc pc = .ok (.aload_n n, 1)) (hi : (n : Nat) = i) (hL : L[i]? = some (some (.ref x))) (k : WA Z (pc + 1) L (.ref x :: S) g) : WA Z pc L S g := fun ls H locs hl hP hS => lv_aload_n C.exec C.bytes hd hi (fp_at hl hL) (k ls H locs hl hP hS)
theorem wa_aload {Z : fp_Z} {cc : ByteArray} {own : String} {ret : Option FieldType} {pc : Nat} {L : List (Option Value)} {S : List Value} {g : fp_G} (C : fp_C Z cc own ret) {i : Nat} {x : Nat} (hd : decode cc pc = .ok (.aload i, 2)) (hL : L[i]? = some (some (.ref x))) (k : WA Z (pc + 2) L (.ref x :: S) g) : WA Z pc L S g := fun ls H locs hl hP hS => lv_aload C.exec C.bytes hd (fp_at hl hL) (k ls H locs hl hP hS)
theorem wa_istore_n {Z : fp_Z} {cc : ByteArray} {own : String} {ret : Option FieldType} {pc : Nat} {L : List (Option Value)} {S : List Value} {g : fp_G} (C : fp_C Z cc own ret) {n : Fin 4} {i : Nat} {x : Int32} {L2 : List (Option Value)} (hd : decode cc pc = .ok (.istore_n n, 1)) (hi : (n : Nat) = i) (hn : i < Z.2.2.2.2.1) (h1 : fp_c1 L i = true) (hL : L.set i (some (.int x)) = L2) (k : WA Z (pc + 1) L2 S g) : WA Z pc L (.int x :: S) g := fun ls H locs hl hP hS => lv_istore_n C.exec C.bytes hd hi hl hn rfl (fun ls2 h2 => k ls2 H locs (hL ▸ fp_st (v := .int x) h1 h2) hP hS)
theorem wa_istore {Z : fp_Z} {cc : ByteArray} {own : String} {ret : Option FieldType} {pc : Nat} {L : List (Option Value)} {S : List Value} {g : fp_G} (C : fp_C Z cc own ret) {i : Nat} {x : Int32} {L2 : List (Option Value)} (hd : decode cc pc = .ok (.istore i, 2)) (hn : i < Z.2.2.2.2.1) (h1 : fp_c1 L i = true) (hL : L.set i (some (.int x)) = L2) (k : WA Z (pc + 2) L2 S g) : WA Z pc L (.int x :: S) g := fun ls H locs hl hP hS => lv_istore C.exec C.bytes hd hl hn rfl (fun ls2 h2 => k ls2 H locs (hL ▸ fp_st (v := .int x) h1 h2) hP hS)
theorem wa_iinc {Z : fp_Z} {cc : ByteArray} {own : String} {ret : Option FieldType} {pc : Nat} {L : List (Option Value)} {S : List Value} {g : fp_G} (C : fp_C Z cc own ret) {i : Nat} {n : Int} {x v : Int32} {L2 : List (Option Value)} (hd : decode cc pc = .ok (.iinc i n, 3)) (hx : L[i]? = some (some (.int x))) (hv : x + Int32.ofInt n = v) (hn : i < Z.2.2.2.2.1) (h1 : fp_c1 L i = true) (hL : L.set i (some (.int v)) = L2) (k : WA Z (pc + 3) L2 S g) : WA Z pc L S g := by
  intro ls H locs hl hP hS
  obtain ⟨kk, hk⟩ := List.getElem?_of_mem ((fp_al_mem (ad := Z.2.1.2.1) L 0 i (.int x)).mpr ⟨i, .int x, hx, by omega, rfl⟩)
  exact lv_iinc C.exec C.bytes hd hl hk hv hn rfl (fun ls2 h2 => k ls2 H locs (hL ▸ fp_st (v := .int v) h1 h2) hP hS)
theorem wa_iconst {Z : fp_Z} {cc : ByteArray} {own : String} {ret : Option FieldType} {pc : Nat} {L : List (Option Value)} {S : List Value} {g : fp_G} (C : fp_C Z cc own ret) {n : Int} {v : Int32} (hd : decode cc pc = .ok (.iconst n, 1)) (hv : Int32.ofInt n = v) (k : WA Z (pc + 1) L (.int v :: S) g) : WA Z pc L S g := fun ls H locs hl hP hS => lv_iconst C.exec C.bytes hd hv (k ls H locs hl hP hS)
theorem wa_bipush {Z : fp_Z} {cc : ByteArray} {own : String} {ret : Option FieldType} {pc : Nat} {L : List (Option Value)} {S : List Value} {g : fp_G} (C : fp_C Z cc own ret) {n : Int} {v : Int32} (hd : decode cc pc = .ok (.bipush n, 2)) (hv : (Int8.ofInt n).toInt32 = v) (k : WA Z (pc + 2) L (.int v :: S) g) : WA Z pc L S g := fun ls H locs hl hP hS => lv_bipush C.exec C.bytes hd hv (k ls H locs hl hP hS)
theorem wa_sipush {Z : fp_Z} {cc : ByteArray} {own : String} {ret : Option FieldType} {pc : Nat} {L : List (Option Value)} {S : List Value} {g : fp_G} (C : fp_C Z cc own ret) {n : Int} {v : Int32} (hd : decode cc pc = .ok (.sipush n, 3)) (hv : (Int16.ofInt n).toInt32 = v) (k : WA Z (pc + 3) L (.int v :: S) g) : WA Z pc L S g := fun ls H locs hl hP hS => lv_sipush C.exec C.bytes hd hv (k ls H locs hl hP hS)
theorem wa_lconst {Z : fp_Z} {cc : ByteArray} {own : String} {ret : Option FieldType} {pc : Nat} {L : List (Option Value)} {S : List Value} {g : fp_G} (C : fp_C Z cc own ret) {n : Fin 2} {v : Int64} (hd : decode cc pc = .ok (.lconst n, 1)) (hv : Int64.ofNat (n : Nat) = v) (k : WA Z (pc + 1) L (.long v :: S) g) : WA Z pc L S g := fun ls H locs hl hP hS => lv_lconst C.exec C.bytes hd hv (k ls H locs hl hP hS)
theorem wa_ldc {Z : fp_Z} {cc : ByteArray} {own : String} {ret : Option FieldType} {pc : Nat} {L : List (Option Value)} {S : List Value} {g : fp_G} (C : fp_C Z cc own ret) {i : Nat} {v : Int32} (hw : Cond.constant own i v ∈ fp_lw) (hd : decode cc pc = .ok (.ldc i, 2)) (k : WA Z (pc + 2) L (.int v :: S) g) : WA Z pc L S g := fun ls H locs hl hP hS => lv_ldc C.exec C.bytes C.2.2.2.1 (C.word hw) hd (k ls H locs hl hP hS)
theorem wa_ldcw {Z : fp_Z} {cc : ByteArray} {own : String} {ret : Option FieldType} {pc : Nat} {L : List (Option Value)} {S : List Value} {g : fp_G} (C : fp_C Z cc own ret) {i : Nat} {v : Int32} (hw : Cond.constant own i v ∈ fp_lw) (hd : decode cc pc = .ok (.ldc_w i, 3)) (k : WA Z (pc + 3) L (.int v :: S) g) : WA Z pc L S g := fun ls H locs hl hP hS => lv_ldcw C.exec C.bytes C.2.2.2.1 (C.word hw) hd (k ls H locs hl hP hS)
theorem wa_ldc2 {Z : fp_Z} {cc : ByteArray} {own : String} {ret : Option FieldType} {pc : Nat} {L : List (Option Value)} {S : List Value} {g : fp_G} (C : fp_C Z cc own ret) {i : Nat} {v : Int64} (hw : Cond.constantLong own i v ∈ fp_lw) (hd : decode cc pc = .ok (.ldc2_w i, 3)) (k : WA Z (pc + 3) L (.long v :: S) g) : WA Z pc L S g := fun ls H locs hl hP hS => lv_ldc2 C.exec C.bytes C.2.2.2.1 (C.word hw) hd (k ls H locs hl hP hS)
theorem wa_iadd {Z : fp_Z} {cc : ByteArray} {own : String} {ret : Option FieldType} {pc : Nat} {L : List (Option Value)} {S : List Value} {g : fp_G} (C : fp_C Z cc own ret) {x y : Int32} (hd : decode cc pc = .ok (.iadd, 1)) (k : WA Z (pc + 1) L (.int (x + y) :: S) g) : WA Z pc L (.int y :: .int x :: S) g := fun ls H locs hl hP hS => lv_iadd C.exec C.bytes hd (k ls H locs hl hP hS)
theorem wa_isub {Z : fp_Z} {cc : ByteArray} {own : String} {ret : Option FieldType} {pc : Nat} {L : List (Option Value)} {S : List Value} {g : fp_G} (C : fp_C Z cc own ret) {x y : Int32} (hd : decode cc pc = .ok (.isub, 1)) (k : WA Z (pc + 1) L (.int (x - y) :: S) g) : WA Z pc L (.int y :: .int x :: S) g := fun ls H locs hl hP hS => lv_isub C.exec C.bytes hd (k ls H locs hl hP hS)
theorem wa_imul {Z : fp_Z} {cc : ByteArray} {own : String} {ret : Option FieldType} {pc : Nat} {L : List (Option Value)} {S : List Value} {g : fp_G} (C : fp_C Z cc own ret) {x y : Int32} (hd : decode cc pc = .ok (.imul, 1)) (k : WA Z (pc + 1) L (.int (x * y) :: S) g) : WA Z pc L (.int y :: .int x :: S) g := fun ls H locs hl hP hS => lv_imul C.exec C.bytes hd (k ls H locs hl hP hS)
theorem wa_iand {Z : fp_Z} {cc : ByteArray} {own : String} {ret : Option FieldType} {pc : Nat} {L : List (Option Value)} {S : List Value} {g : fp_G} (C : fp_C Z cc own ret) {x y : Int32} (hd : decode cc pc = .ok (.iand, 1)) (k : WA Z (pc + 1) L (.int (x &&& y) :: S) g) : WA Z pc L (.int y :: .int x :: S) g := fun ls H locs hl hP hS => lv_iand C.exec C.bytes hd (k ls H locs hl hP hS)
theorem wa_ior {Z : fp_Z} {cc : ByteArray} {own : String} {ret : Option FieldType} {pc : Nat} {L : List (Option Value)} {S : List Value} {g : fp_G} (C : fp_C Z cc own ret) {x y : Int32} (hd : decode cc pc = .ok (.ior, 1)) (k : WA Z (pc + 1) L (.int (x ||| y) :: S) g) : WA Z pc L (.int y :: .int x :: S) g := fun ls H locs hl hP hS => lv_ior C.exec C.bytes hd (k ls H locs hl hP hS)
theorem wa_ixor {Z : fp_Z} {cc : ByteArray} {own : String} {ret : Option FieldType} {pc : Nat} {L : List (Option Value)} {S : List Value} {g : fp_G} (C : fp_C Z cc own ret) {x y : Int32} (hd : decode cc pc = .ok (.ixor, 1)) (k : WA Z (pc + 1) L (.int (x ^^^ y) :: S) g) : WA Z pc L (.int y :: .int x :: S) g := fun ls H locs hl hP hS => lv_ixor C.exec C.bytes hd (k ls H locs hl hP hS)
theorem wa_ishl {Z : fp_Z} {cc : ByteArray} {own : String} {ret : Option FieldType} {pc : Nat} {L : List (Option Value)} {S : List Value} {g : fp_G} (C : fp_C Z cc own ret) {x y : Int32} (hd : decode cc pc = .ok (.ishl, 1)) (k : WA Z (pc + 1) L (.int (x <<< (y &&& 31)) :: S) g) : WA Z pc L (.int y :: .int x :: S) g := fun ls H locs hl hP hS => lv_ishl C.exec C.bytes hd (k ls H locs hl hP hS)
theorem wa_ishr {Z : fp_Z} {cc : ByteArray} {own : String} {ret : Option FieldType} {pc : Nat} {L : List (Option Value)} {S : List Value} {g : fp_G} (C : fp_C Z cc own ret) {x y : Int32} (hd : decode cc pc = .ok (.ishr, 1)) (k : WA Z (pc + 1) L (.int (x >>> (y &&& 31)) :: S) g) : WA Z pc L (.int y :: .int x :: S) g := fun ls H locs hl hP hS => lv_ishr C.exec C.bytes hd (k ls H locs hl hP hS)
theorem wa_land {Z : fp_Z} {cc : ByteArray} {own : String} {ret : Option FieldType} {pc : Nat} {L : List (Option Value)} {S : List Value} {g : fp_G} (C : fp_C Z cc own ret) {x y : Int64} (hd : decode cc pc = .ok (.land, 1)) (k : WA Z (pc + 1) L (.long (x &&& y) :: S) g) : WA Z pc L (.long y :: .long x :: S) g := fun ls H locs hl hP hS => lv_land C.exec C.bytes hd (k ls H locs hl hP hS)
theorem wa_lor {Z : fp_Z} {cc : ByteArray} {own : String} {ret : Option FieldType} {pc : Nat} {L : List (Option Value)} {S : List Value} {g : fp_G} (C : fp_C Z cc own ret) {x y : Int64} (hd : decode cc pc = .ok (.lor, 1)) (k : WA Z (pc + 1) L (.long (x ||| y) :: S) g) : WA Z pc L (.long y :: .long x :: S) g := fun ls H locs hl hP hS => lv_lor C.exec C.bytes hd (k ls H locs hl hP hS)
theorem wa_lshl {Z : fp_Z} {cc : ByteArray} {own : String} {ret : Option FieldType} {pc : Nat} {L : List (Option Value)} {S : List Value} {g : fp_G} (C : fp_C Z cc own ret) {x : Int64} {y : Int32} (hd : decode cc pc = .ok (.lshl, 1)) (k : WA Z (pc + 1) L (.long (x <<< (y.toInt64 &&& 63)) :: S) g) : WA Z pc L (.int y :: .long x :: S) g := fun ls H locs hl hP hS => lv_lshl C.exec C.bytes hd rfl (k ls H locs hl hP hS)
theorem wa_lshr {Z : fp_Z} {cc : ByteArray} {own : String} {ret : Option FieldType} {pc : Nat} {L : List (Option Value)} {S : List Value} {g : fp_G} (C : fp_C Z cc own ret) {x : Int64} {y : Int32} (hd : decode cc pc = .ok (.lshr, 1)) (k : WA Z (pc + 1) L (.long (x >>> (y.toInt64 &&& 63)) :: S) g) : WA Z pc L (.int y :: .long x :: S) g := fun ls H locs hl hP hS => lv_lshr C.exec C.bytes hd rfl (k ls H locs hl hP hS)
theorem wa_ineg {Z : fp_Z} {cc : ByteArray} {own : String} {ret : Option FieldType} {pc : Nat} {L : List (Option Value)} {S : List Value} {g : fp_G} (C : fp_C Z cc own ret) {x : Int32} (hd : decode cc pc = .ok (.ineg, 1)) (k : WA Z (pc + 1) L (.int (-x) :: S) g) : WA Z pc L (.int x :: S) g := fun ls H locs hl hP hS => lv_ineg C.exec C.bytes hd (k ls H locs hl hP hS)
theorem wa_i2l {Z : fp_Z} {cc : ByteArray} {own : String} {ret : Option FieldType} {pc : Nat} {L : List (Option Value)} {S : List Value} {g : fp_G} (C : fp_C Z cc own ret) {x : Int32} (hd : decode cc pc = .ok (.i2l, 1)) (k : WA Z (pc + 1) L (.long x.toInt64 :: S) g) : WA Z pc L (.int x :: S) g := fun ls H locs hl hP hS => lv_i2l C.exec C.bytes hd rfl (k ls H locs hl hP hS)
theorem wa_l2i {Z : fp_Z} {cc : ByteArray} {own : String} {ret : Option FieldType} {pc : Nat} {L : List (Option Value)} {S : List Value} {g : fp_G} (C : fp_C Z cc own ret) {x : Int64} (hd : decode cc pc = .ok (.l2i, 1)) (k : WA Z (pc + 1) L (.int x.toInt32 :: S) g) : WA Z pc L (.long x :: S) g := fun ls H locs hl hP hS => lv_l2i C.exec C.bytes hd rfl (k ls H locs hl hP hS)
theorem wa_i2b {Z : fp_Z} {cc : ByteArray} {own : String} {ret : Option FieldType} {pc : Nat} {L : List (Option Value)} {S : List Value} {g : fp_G} (C : fp_C Z cc own ret) {x : Int32} (hd : decode cc pc = .ok (.i2b, 1)) (k : WA Z (pc + 1) L (.int x.toInt8.toInt32 :: S) g) : WA Z pc L (.int x :: S) g := fun ls H locs hl hP hS => lv_i2b C.exec C.bytes hd rfl (k ls H locs hl hP hS)
theorem wa_i2c {Z : fp_Z} {cc : ByteArray} {own : String} {ret : Option FieldType} {pc : Nat} {L : List (Option Value)} {S : List Value} {g : fp_G} (C : fp_C Z cc own ret) {x : Int32} (hd : decode cc pc = .ok (.i2c, 1)) (k : WA Z (pc + 1) L (.int (x.toUInt32 % 65536).toInt32 :: S) g) : WA Z pc L (.int x :: S) g := fun ls H locs hl hP hS => lv_i2c C.exec C.bytes hd rfl (k ls H locs hl hP hS)
theorem wa_lcmp {Z : fp_Z} {cc : ByteArray} {own : String} {ret : Option FieldType} {pc : Nat} {L : List (Option Value)} {S : List Value} {g : fp_G} (C : fp_C Z cc own ret) {x y : Int64} (hd : decode cc pc = .ok (.lcmp, 1)) (k : WA Z (pc + 1) L (.int (lg_cmp x y) :: S) g) : WA Z pc L (.long y :: .long x :: S) g := fun ls H locs hl hP hS => W.lcmp C.exec C.bytes hd (k ls H locs hl hP hS)
theorem wa_dup {Z : fp_Z} {cc : ByteArray} {own : String} {ret : Option FieldType} {pc : Nat} {L : List (Option Value)} {S : List Value} {g : fp_G} (C : fp_C Z cc own ret) {v : Value} (hd : decode cc pc = .ok (.dup, 1)) (hv : v.category = 1) (k : WA Z (pc + 1) L (v :: v :: S) g) : WA Z pc L (v :: S) g := fun ls H locs hl hP hS => lv_dup C.exec C.bytes hd (by rw [fp_rv_cat]; exact hv) (k ls H locs hl hP hS)
theorem wa_dup2 {Z : fp_Z} {cc : ByteArray} {own : String} {ret : Option FieldType} {pc : Nat} {L : List (Option Value)} {S : List Value} {g : fp_G} (C : fp_C Z cc own ret) {v w : Value} (hd : decode cc pc = .ok (.dup2, 1)) (hv : v.category = 1) (hw : w.category = 1) (k : WA Z (pc + 1) L (v :: w :: v :: w :: S) g) : WA Z pc L (v :: w :: S) g := fun ls H locs hl hP hS => lv_dup2_11 C.exec C.bytes hd (by rw [fp_rv_cat]; exact hv) (by rw [fp_rv_cat]; exact hw) (k ls H locs hl hP hS)
theorem wa_pop {Z : fp_Z} {cc : ByteArray} {own : String} {ret : Option FieldType} {pc : Nat} {L : List (Option Value)} {S : List Value} {g : fp_G} (C : fp_C Z cc own ret) {v : Value} (hd : decode cc pc = .ok (.pop, 1)) (hv : v.category = 1) (k : WA Z (pc + 1) L S g) : WA Z pc L (v :: S) g := fun ls H locs hl hP hS => lv_pop C.exec C.bytes hd (by rw [fp_rv_cat]; exact hv) (k ls H locs hl hP hS)
theorem wa_goto {Z : fp_Z} {cc : ByteArray} {own : String} {ret : Option FieldType} {pc : Nat} {L : List (Option Value)} {S : List Value} {g : fp_G} (C : fp_C Z cc own ret) {off : Int} {tgt : Nat} (hd : decode cc pc = .ok (.goto off, 3)) (ht : (pc : Int) + off = (tgt : Int)) (k : WA Z tgt L S g) : WA Z pc L S g := fun ls H locs hl hP hS => lv_goto C.exec C.bytes hd ht (k ls H locs hl hP hS)
def fp_dv (y : Int32) (P : Prop) : Prop := ¬ y = 0 ∧ P
theorem wa_idiv {Z : fp_Z} {cc : ByteArray} {own : String} {ret : Option FieldType} {pc : Nat} {L : List (Option Value)} {S : List Value} {g : fp_G} (C : fp_C Z cc own ret) {x y : Int32} {P : Prop} (hd : decode cc pc = .ok (.idiv, 1)) (h : fp_dv y P) (k : P → WA Z (pc + 1) L (.int (x / y) :: S) g) : WA Z pc L (.int y :: .int x :: S) g := fun ls H locs hl hP hS => lv_idiv C.exec C.bytes hd h.1 (k h.2 ls H locs hl hP hS)
theorem wa_irem {Z : fp_Z} {cc : ByteArray} {own : String} {ret : Option FieldType} {pc : Nat} {L : List (Option Value)} {S : List Value} {g : fp_G} (C : fp_C Z cc own ret) {x y : Int32} {P : Prop} (hd : decode cc pc = .ok (.irem, 1)) (h : fp_dv y P) (k : P → WA Z (pc + 1) L (.int (x - x / y * y) :: S) g) : WA Z pc L (.int y :: .int x :: S) g := fun ls H locs hl hP hS => lv_irem C.exec C.bytes hd h.1 (k h.2 ls H locs hl hP hS)
theorem wa_if_eq {Z : fp_Z} {cc : ByteArray} {own : String} {ret : Option FieldType} {pc : Nat} {L : List (Option Value)} {S : List Value} {g : fp_G} (C : fp_C Z cc own ret) {x : Int32} {off : Int} {tgt : Nat} {A B : Prop} (hd : decode cc pc = .ok (.ifCond .eq off, 3)) (ht : (pc : Int) + off = (tgt : Int)) (h : if x = 0 then A else B) (k1 : A → WA Z tgt L S g) (k2 : B → WA Z (pc + 3) L S g) : WA Z pc L (.int x :: S) g := fun ls H locs hl hP hS => lv_if_eq C.exec C.bytes hd ht (fun c => k1 (Eq.mp (if_pos c) h) ls H locs hl hP hS) (fun c => k2 (Eq.mp (if_neg c) h) ls H locs hl hP hS)
theorem wa_icmp_eq {Z : fp_Z} {cc : ByteArray} {own : String} {ret : Option FieldType} {pc : Nat} {L : List (Option Value)} {S : List Value} {g : fp_G} (C : fp_C Z cc own ret) {x y : Int32} {off : Int} {tgt : Nat} {A B : Prop} (hd : decode cc pc = .ok (.if_icmp .eq off, 3)) (ht : (pc : Int) + off = (tgt : Int)) (h : if x = y then A else B) (k1 : A → WA Z tgt L S g) (k2 : B → WA Z (pc + 3) L S g) : WA Z pc L (.int y :: .int x :: S) g := fun ls H locs hl hP hS => lv_icmp_eq C.exec C.bytes hd ht (fun c => k1 (Eq.mp (if_pos c) h) ls H locs hl hP hS) (fun c => k2 (Eq.mp (if_neg c) h) ls H locs hl hP hS)
theorem wa_if_ne {Z : fp_Z} {cc : ByteArray} {own : String} {ret : Option FieldType} {pc : Nat} {L : List (Option Value)} {S : List Value} {g : fp_G} (C : fp_C Z cc own ret) {x : Int32} {off : Int} {tgt : Nat} {A B : Prop} (hd : decode cc pc = .ok (.ifCond .ne off, 3)) (ht : (pc : Int) + off = (tgt : Int)) (h : if x = 0 then A else B) (k1 : A → WA Z (pc + 3) L S g) (k2 : B → WA Z tgt L S g) : WA Z pc L (.int x :: S) g := fun ls H locs hl hP hS => lv_if_ne C.exec C.bytes hd ht (fun c => k2 (Eq.mp (if_neg c) h) ls H locs hl hP hS) (fun c => k1 (Eq.mp (if_pos c) h) ls H locs hl hP hS)
theorem wa_icmp_ne {Z : fp_Z} {cc : ByteArray} {own : String} {ret : Option FieldType} {pc : Nat} {L : List (Option Value)} {S : List Value} {g : fp_G} (C : fp_C Z cc own ret) {x y : Int32} {off : Int} {tgt : Nat} {A B : Prop} (hd : decode cc pc = .ok (.if_icmp .ne off, 3)) (ht : (pc : Int) + off = (tgt : Int)) (h : if x = y then A else B) (k1 : A → WA Z (pc + 3) L S g) (k2 : B → WA Z tgt L S g) : WA Z pc L (.int y :: .int x :: S) g := fun ls H locs hl hP hS => lv_icmp_ne C.exec C.bytes hd ht (fun c => k2 (Eq.mp (if_neg c) h) ls H locs hl hP hS) (fun c => k1 (Eq.mp (if_pos c) h) ls H locs hl hP hS)
theorem wa_if_lt {Z : fp_Z} {cc : ByteArray} {own : String} {ret : Option FieldType} {pc : Nat} {L : List (Option Value)} {S : List Value} {g : fp_G} (C : fp_C Z cc own ret) {x : Int32} {off : Int} {tgt : Nat} {A B : Prop} (hd : decode cc pc = .ok (.ifCond .lt off, 3)) (ht : (pc : Int) + off = (tgt : Int)) (h : if x < 0 then A else B) (k1 : A → WA Z tgt L S g) (k2 : B → WA Z (pc + 3) L S g) : WA Z pc L (.int x :: S) g := fun ls H locs hl hP hS => lv_if_lt C.exec C.bytes hd ht (fun c => k1 (Eq.mp (if_pos c) h) ls H locs hl hP hS) (fun c => k2 (Eq.mp (if_neg c) h) ls H locs hl hP hS)
theorem wa_icmp_lt {Z : fp_Z} {cc : ByteArray} {own : String} {ret : Option FieldType} {pc : Nat} {L : List (Option Value)} {S : List Value} {g : fp_G} (C : fp_C Z cc own ret) {x y : Int32} {off : Int} {tgt : Nat} {A B : Prop} (hd : decode cc pc = .ok (.if_icmp .lt off, 3)) (ht : (pc : Int) + off = (tgt : Int)) (h : if x < y then A else B) (k1 : A → WA Z tgt L S g) (k2 : B → WA Z (pc + 3) L S g) : WA Z pc L (.int y :: .int x :: S) g := fun ls H locs hl hP hS => lv_icmp_lt C.exec C.bytes hd ht (fun c => k1 (Eq.mp (if_pos c) h) ls H locs hl hP hS) (fun c => k2 (Eq.mp (if_neg c) h) ls H locs hl hP hS)
theorem wa_if_ge {Z : fp_Z} {cc : ByteArray} {own : String} {ret : Option FieldType} {pc : Nat} {L : List (Option Value)} {S : List Value} {g : fp_G} (C : fp_C Z cc own ret) {x : Int32} {off : Int} {tgt : Nat} {A B : Prop} (hd : decode cc pc = .ok (.ifCond .ge off, 3)) (ht : (pc : Int) + off = (tgt : Int)) (h : if 0 ≤ x then A else B) (k1 : A → WA Z tgt L S g) (k2 : B → WA Z (pc + 3) L S g) : WA Z pc L (.int x :: S) g := fun ls H locs hl hP hS => lv_if_ge C.exec C.bytes hd ht (fun c => k1 (Eq.mp (if_pos c) h) ls H locs hl hP hS) (fun c => k2 (Eq.mp (if_neg c) h) ls H locs hl hP hS)
theorem wa_icmp_ge {Z : fp_Z} {cc : ByteArray} {own : String} {ret : Option FieldType} {pc : Nat} {L : List (Option Value)} {S : List Value} {g : fp_G} (C : fp_C Z cc own ret) {x y : Int32} {off : Int} {tgt : Nat} {A B : Prop} (hd : decode cc pc = .ok (.if_icmp .ge off, 3)) (ht : (pc : Int) + off = (tgt : Int)) (h : if y ≤ x then A else B) (k1 : A → WA Z tgt L S g) (k2 : B → WA Z (pc + 3) L S g) : WA Z pc L (.int y :: .int x :: S) g := fun ls H locs hl hP hS => lv_icmp_ge C.exec C.bytes hd ht (fun c => k1 (Eq.mp (if_pos c) h) ls H locs hl hP hS) (fun c => k2 (Eq.mp (if_neg c) h) ls H locs hl hP hS)
theorem wa_if_gt {Z : fp_Z} {cc : ByteArray} {own : String} {ret : Option FieldType} {pc : Nat} {L : List (Option Value)} {S : List Value} {g : fp_G} (C : fp_C Z cc own ret) {x : Int32} {off : Int} {tgt : Nat} {A B : Prop} (hd : decode cc pc = .ok (.ifCond .gt off, 3)) (ht : (pc : Int) + off = (tgt : Int)) (h : if 0 < x then A else B) (k1 : A → WA Z tgt L S g) (k2 : B → WA Z (pc + 3) L S g) : WA Z pc L (.int x :: S) g := fun ls H locs hl hP hS => lv_if_gt C.exec C.bytes hd ht (fun c => k1 (Eq.mp (if_pos c) h) ls H locs hl hP hS) (fun c => k2 (Eq.mp (if_neg c) h) ls H locs hl hP hS)
theorem wa_icmp_gt {Z : fp_Z} {cc : ByteArray} {own : String} {ret : Option FieldType} {pc : Nat} {L : List (Option Value)} {S : List Value} {g : fp_G} (C : fp_C Z cc own ret) {x y : Int32} {off : Int} {tgt : Nat} {A B : Prop} (hd : decode cc pc = .ok (.if_icmp .gt off, 3)) (ht : (pc : Int) + off = (tgt : Int)) (h : if y < x then A else B) (k1 : A → WA Z tgt L S g) (k2 : B → WA Z (pc + 3) L S g) : WA Z pc L (.int y :: .int x :: S) g := fun ls H locs hl hP hS => lv_icmp_gt C.exec C.bytes hd ht (fun c => k1 (Eq.mp (if_pos c) h) ls H locs hl hP hS) (fun c => k2 (Eq.mp (if_neg c) h) ls H locs hl hP hS)
theorem wa_if_le {Z : fp_Z} {cc : ByteArray} {own : String} {ret : Option FieldType} {pc : Nat} {L : List (Option Value)} {S : List Value} {g : fp_G} (C : fp_C Z cc own ret) {x : Int32} {off : Int} {tgt : Nat} {A B : Prop} (hd : decode cc pc = .ok (.ifCond .le off, 3)) (ht : (pc : Int) + off = (tgt : Int)) (h : if x ≤ 0 then A else B) (k1 : A → WA Z tgt L S g) (k2 : B → WA Z (pc + 3) L S g) : WA Z pc L (.int x :: S) g := fun ls H locs hl hP hS => lv_if_le C.exec C.bytes hd ht (fun c => k1 (Eq.mp (if_pos c) h) ls H locs hl hP hS) (fun c => k2 (Eq.mp (if_neg c) h) ls H locs hl hP hS)
theorem wa_icmp_le {Z : fp_Z} {cc : ByteArray} {own : String} {ret : Option FieldType} {pc : Nat} {L : List (Option Value)} {S : List Value} {g : fp_G} (C : fp_C Z cc own ret) {x y : Int32} {off : Int} {tgt : Nat} {A B : Prop} (hd : decode cc pc = .ok (.if_icmp .le off, 3)) (ht : (pc : Int) + off = (tgt : Int)) (h : if x ≤ y then A else B) (k1 : A → WA Z tgt L S g) (k2 : B → WA Z (pc + 3) L S g) : WA Z pc L (.int y :: .int x :: S) g := fun ls H locs hl hP hS => lv_icmp_le C.exec C.bytes hd ht (fun c => k1 (Eq.mp (if_pos c) h) ls H locs hl hP hS) (fun c => k2 (Eq.mp (if_neg c) h) ls H locs hl hP hS)
def fp_rd (f : Nat → Int32) (n : Nat) (i : Int32) (P : Int32 → Prop) : Prop := vp_in i n ∧ P (f (tn i))
def fp_wr (g : fp_G) (q n : Nat) (i x : Int32) (P : fp_G → Prop) : Prop := vp_in i n ∧ P (gu g q (tn i) x)
def fp_pf (g : fp_G) (q k : Nat) (x : Int32) (P : fp_G → Prop) : Prop := P (gu g q k x)
def fp_pc (g : fp_G) (q k : Nat) (x : Int32) (P : fp_G → Prop) : Prop := (narrow .char (.int x) = .int x ∧ fits .char (.int x) = true) ∧ P (gu g q k x)
theorem fp_atA {Z : fp_Z} {g : fp_G} {q n : Nat} {ty : FieldType} (hq : q < fp_NC) (hs : fp_sh q = .inl (ty, n)) : (fp_ws Z.2.1 g)[q]? = some (Z.2.1.2.1 q, .inl (Z.2.1.2.2 ty, n, .inl (g q))) := by
  rw [fp_ws_at _ _ hq, hs]
  rfl
theorem fp_atO {Z : fp_Z} {g : fp_G} {q ci : Nat} {rs : List (Option Nat)} (hq : q < fp_NC) (hs : fp_sh q = .inr (ci, rs)) : (fp_ws Z.2.1 g)[q]? = some (Z.2.1.2.1 q, .inr (ci, fp_fs Z.2.1.2.1 (g q) 0 rs)) := by
  rw [fp_ws_at _ _ hq, hs]
  rfl
theorem fp_setA {Z : fp_Z} {g : fp_G} {q n : Nat} {ty : FieldType} (hq : q < fp_NC) (hs : fp_sh q = .inl (ty, n)) (i : Nat) (x : Int32) : (fp_ws Z.2.1 g).set q (Z.2.1.2.1 q, .inl (Z.2.1.2.2 ty, n, .inl (upd (g q) i x))) = fp_ws Z.2.1 (gu g q i x) := by
  have h := fp_ws_set Z.2.1 g hq (upd (g q) i x)
  rw [hs] at h
  rw [gu_gc]
  exact h
theorem wa_iald {Z : fp_Z} {cc : ByteArray} {own : String} {ret : Option FieldType} {pc : Nat} {L : List (Option Value)} {S : List Value} {g : fp_G} (C : fp_C Z cc own ret) {q n : Nat} {i : Int32} {P : Int32 → Prop} (hq : q < fp_NC) (hs : fp_sh q = .inl (.int, n)) (hd : decode cc pc = .ok (.iaload, 1)) (h : fp_rd (g q) n i P) (k : P (g q (tn i)) → WA Z (pc + 1) L (.int (g q (tn i)) :: S) g) : WA Z pc L (.int i :: .ref q :: S) g :=
  fun ls H locs hl hP hS => va_iald C.exec C.bytes C.2.2.2.2.2.1.1 hP q 0 (fp_atA hq hs) rfl h.1 hd (k h.2 ls H locs hl hP hS)
theorem wa_bald {Z : fp_Z} {cc : ByteArray} {own : String} {ret : Option FieldType} {pc : Nat} {L : List (Option Value)} {S : List Value} {g : fp_G} (C : fp_C Z cc own ret) {q n : Nat} {i : Int32} {P : Int32 → Prop} (hq : q < fp_NC) (hs : fp_sh q = .inl (.byte, n)) (hd : decode cc pc = .ok (.baload, 1)) (h : fp_rd (g q) n i P) (k : P (g q (tn i)) → WA Z (pc + 1) L (.int (g q (tn i)) :: S) g) : WA Z pc L (.int i :: .ref q :: S) g :=
  fun ls H locs hl hP hS => va_bald C.exec C.bytes C.2.2.2.2.2.1.1 hP q 2 (fp_atA hq hs) rfl h.1 hd (k h.2 ls H locs hl hP hS)
theorem wa_zald {Z : fp_Z} {cc : ByteArray} {own : String} {ret : Option FieldType} {pc : Nat} {L : List (Option Value)} {S : List Value} {g : fp_G} (C : fp_C Z cc own ret) {q n : Nat} {i : Int32} {P : Int32 → Prop} (hq : q < fp_NC) (hs : fp_sh q = .inl (.boolean, n)) (hd : decode cc pc = .ok (.baload, 1)) (h : fp_rd (g q) n i P) (k : P (g q (tn i)) → WA Z (pc + 1) L (.int (g q (tn i)) :: S) g) : WA Z pc L (.int i :: .ref q :: S) g :=
  fun ls H locs hl hP hS => va_zald C.exec C.bytes C.2.2.2.2.2.1.1 hP q 1 (fp_atA hq hs) rfl h.1 hd (k h.2 ls H locs hl hP hS)
theorem wa_iast {Z : fp_Z} {cc : ByteArray} {own : String} {ret : Option FieldType} {pc : Nat} {L : List (Option Value)} {S : List Value} {g : fp_G} (C : fp_C Z cc own ret) {q n : Nat} {i x : Int32} {P : fp_G → Prop} (hq : q < fp_NC) (hs : fp_sh q = .inl (.int, n)) (hd : decode cc pc = .ok (.iastore, 1)) (h : fp_wr g q n i x P) (k : P (gu g q (tn i) x) → WA Z (pc + 1) L S (gu g q (tn i) x)) : WA Z pc L (.int x :: .int i :: .ref q :: S) g :=
  fun ls H locs hl hP hS => va_iast C.exec C.bytes C.2.2.2.2.2.1.1 hP (fp_D C.2.2.2.2.2.1.2.1 g) hS q 0 (fp_atA hq hs) rfl h.1 hd (fun H1 locs1 hP1 _ hS1 => k h.2 ls H1 locs1 hl (fp_setA (Z := Z) hq hs (tn i) x ▸ hP1) hS1)
theorem wa_bast {Z : fp_Z} {cc : ByteArray} {own : String} {ret : Option FieldType} {pc : Nat} {L : List (Option Value)} {S : List Value} {g : fp_G} (C : fp_C Z cc own ret) {q n : Nat} {i x : Int32} {P : fp_G → Prop} (hq : q < fp_NC) (hs : fp_sh q = .inl (.byte, n)) (hd : decode cc pc = .ok (.bastore, 1)) (h : fp_wr g q n i (vp_nar .byte x) P) (k : P (gu g q (tn i) (vp_nar .byte x)) → WA Z (pc + 1) L S (gu g q (tn i) (vp_nar .byte x))) : WA Z pc L (.int x :: .int i :: .ref q :: S) g :=
  fun ls H locs hl hP hS => va_bast C.exec C.bytes C.2.2.2.2.2.1.1 hP (fp_D C.2.2.2.2.2.1.2.1 g) hS q 2 (fp_atA hq hs) rfl h.1 hd (fun H1 locs1 hP1 _ hS1 => k h.2 ls H1 locs1 hl (fp_setA (Z := Z) hq hs (tn i) (vp_nar .byte x) ▸ hP1) hS1)
theorem wa_zast {Z : fp_Z} {cc : ByteArray} {own : String} {ret : Option FieldType} {pc : Nat} {L : List (Option Value)} {S : List Value} {g : fp_G} (C : fp_C Z cc own ret) {q n : Nat} {i x : Int32} {P : fp_G → Prop} (hq : q < fp_NC) (hs : fp_sh q = .inl (.boolean, n)) (hd : decode cc pc = .ok (.bastore, 1)) (h : fp_wr g q n i (vp_nar .boolean x) P) (k : P (gu g q (tn i) (vp_nar .boolean x)) → WA Z (pc + 1) L S (gu g q (tn i) (vp_nar .boolean x))) : WA Z pc L (.int x :: .int i :: .ref q :: S) g :=
  fun ls H locs hl hP hS => va_zast C.exec C.bytes C.2.2.2.2.2.1.1 hP (fp_D C.2.2.2.2.2.1.2.1 g) hS q 1 (fp_atA hq hs) rfl h.1 hd (fun H1 locs1 hP1 _ hS1 => k h.2 ls H1 locs1 hl (fp_setA (Z := Z) hq hs (tn i) (vp_nar .boolean x) ▸ hP1) hS1)
theorem wa_alen {Z : fp_Z} {cc : ByteArray} {own : String} {ret : Option FieldType} {pc : Nat} {L : List (Option Value)} {S : List Value} {g : fp_G} (C : fp_C Z cc own ret) {q n : Nat} {v : Int32} {ty : FieldType} {t0 : Nat} (hq : q < fp_NC) (hs : fp_sh q = .inl (ty, n)) (ht : ([(Z.2.1.2.2 .int, FieldType.int), (Z.2.1.2.2 .boolean, .boolean), (Z.2.1.2.2 .byte, .byte)] : List (ClassId × FieldType))[t0]? = some (Z.2.1.2.2 ty, ty)) (hv : Int32.ofNat n = v) (hd : decode cc pc = .ok (.arraylength, 1)) (k : WA Z (pc + 1) L (.int v :: S) g) : WA Z pc L (.ref q :: S) g :=
  fun ls H locs hl hP hS => va_alen C.exec C.bytes C.2.2.2.2.2.1.1 hP q t0 (fp_atA hq hs) ht hv hd (k ls H locs hl hP hS)
theorem wa_getI {Z : fp_Z} {cc : ByteArray} {own : String} {ret : Option FieldType} {pc : Nat} {L : List (Option Value)} {S : List Value} {g : fp_G} (C : fp_C Z cc own ret) {q ci j i N : Nat} {rs : List (Option Nat)} {T : u_T} {Cn : String} (hq : q < fp_NC) (hs : fp_sh q = .inr (ci, rs)) (hc : vwCl[ci]? = some (Cn, T, N)) (hin : ∀ w ∈ u_ws Cn T N, w ∈ fp_lw) (hk : j < N) (hr : rs[j]? = some none) (hlink : Cond.fieldLink own i (T j).1 (T j).2.1 (T j).2.2.1 ∈ fp_lw) (hd : decode cc pc = .ok (.getfield i, 3)) (k : WA Z (pc + 3) L (.int (g q j) :: S) g) : WA Z pc L (.ref q :: S) g :=
  fun ls H locs hl hP hS => va_get (ci := ci) C.exec C.bytes C.words hin C.2.2.2.1 C.2.2.2.2.2.1.1 hP q (fp_atO hq hs) hc j hk (C.word hlink) (fun _ h => h) (by have h9 := fp_fs_get Z.2.1.2.1 (g q) rs 0 j none hr; rw [Nat.zero_add] at h9; exact h9) hd (k ls H locs hl hP hS)
theorem wa_getR {Z : fp_Z} {cc : ByteArray} {own : String} {ret : Option FieldType} {pc : Nat} {L : List (Option Value)} {S : List Value} {g : fp_G} (C : fp_C Z cc own ret) {q ci j i N : Nat} {rs : List (Option Nat)} {T : u_T} {Cn : String} (hq : q < fp_NC) (hs : fp_sh q = .inr (ci, rs)) (hc : vwCl[ci]? = some (Cn, T, N)) (hin : ∀ w ∈ u_ws Cn T N, w ∈ fp_lw) (hk : j < N) {r : Nat} (hr : rs[j]? = some (some r)) (hlink : Cond.fieldLink own i (T j).1 (T j).2.1 (T j).2.2.1 ∈ fp_lw) (hd : decode cc pc = .ok (.getfield i, 3)) (k : WA Z (pc + 3) L (.ref r :: S) g) : WA Z pc L (.ref q :: S) g :=
  fun ls H locs hl hP hS => va_get (ci := ci) C.exec C.bytes C.words hin C.2.2.2.1 C.2.2.2.2.2.1.1 hP q (fp_atO hq hs) hc j hk (C.word hlink) (fun _ h => h) (fp_fs_get Z.2.1.2.1 (g q) rs 0 j (some r) hr) hd (k ls H locs hl hP hS)
theorem wa_putI {Z : fp_Z} {cc : ByteArray} {own : String} {ret : Option FieldType} {pc : Nat} {L : List (Option Value)} {S : List Value} {g : fp_G} (C : fp_C Z cc own ret) {q ci j i N : Nat} {rs : List (Option Nat)} {T : u_T} {Cn : String} (hq : q < fp_NC) (hs : fp_sh q = .inr (ci, rs)) (hc : vwCl[ci]? = some (Cn, T, N)) (hin : ∀ w ∈ u_ws Cn T N, w ∈ fp_lw) (hk : j < N) {x : Int32} {P : fp_G → Prop} (ty0 : Nat → FieldType) (hty : ∀ k, k < N → parseFieldDescriptor (T k).2.2.1 = some (ty0 k)) (hnm : ∀ a, a < N → ∀ b, b < N → a ≠ b → (T a).2.1 ≠ (T b).2.1) (hr : rs[j]? = some none) (hfin : (T j).2.2.2 = false) (hpd : parseFieldDescriptor (T j).2.2.1 = some .int) (hlink : Cond.fieldLink own i (T j).1 (T j).2.1 (T j).2.2.1 ∈ fp_lw) (hd : decode cc pc = .ok (.putfield i, 3)) (h : fp_pf g q j x P) (k : P (gu g q j x) → WA Z (pc + 3) L S (gu g q j x)) : WA Z pc L (.int x :: .ref q :: S) g := by
  intro ls H locs hl hP hS
  have hlt : j < (fp_fs Z.2.1.2.1 (g q) 0 rs).length := by rw [fp_fs_len]; exact (List.getElem?_eq_some_iff.mp hr).1
  refine va_put (ci := ci) (v := .int x) (ty := .int) C.exec C.bytes C.words hin ty0 hty hnm C.2.2.2.1 C.2.2.2.2.2.1.1 hP (fp_D C.2.2.2.2.2.1.2.1 g) hS q (fp_atO hq hs) hc j hk (C.word hlink) (fun _ h => h) hfin hpd rfl rfl hlt hd (fun H1 locs1 hP1 _ hS1 => k h ls H1 locs1 hl ?_ hS1)
  have e1 := fp_fs_set Z.2.1.2.1 (g q) x rs 0 j hr
  have e2 := fp_ws_set Z.2.1 g hq (upd (g q) j x)
  rw [e1, Nat.zero_add] at hP1
  rw [hs] at e2
  rw [gu_gc, ← e2]
  exact hP1
theorem wa_putC {Z : fp_Z} {cc : ByteArray} {own : String} {ret : Option FieldType} {pc : Nat} {L : List (Option Value)} {S : List Value} {g : fp_G} (C : fp_C Z cc own ret) {q ci j i N : Nat} {rs : List (Option Nat)} {T : u_T} {Cn : String} (hq : q < fp_NC) (hs : fp_sh q = .inr (ci, rs)) (hc : vwCl[ci]? = some (Cn, T, N)) (hin : ∀ w ∈ u_ws Cn T N, w ∈ fp_lw) (hk : j < N) {x : Int32} {P : fp_G → Prop} (ty0 : Nat → FieldType) (hty : ∀ k, k < N → parseFieldDescriptor (T k).2.2.1 = some (ty0 k)) (hnm : ∀ a, a < N → ∀ b, b < N → a ≠ b → (T a).2.1 ≠ (T b).2.1) (hr : rs[j]? = some none) (hfin : (T j).2.2.2 = false) (hpd : parseFieldDescriptor (T j).2.2.1 = some .char) (hlink : Cond.fieldLink own i (T j).1 (T j).2.1 (T j).2.2.1 ∈ fp_lw) (hd : decode cc pc = .ok (.putfield i, 3)) (h : fp_pc g q j x P) (k : P (gu g q j x) → WA Z (pc + 3) L S (gu g q j x)) : WA Z pc L (.int x :: .ref q :: S) g := by
  intro ls H locs hl hP hS
  have hlt : j < (fp_fs Z.2.1.2.1 (g q) 0 rs).length := by rw [fp_fs_len]; exact (List.getElem?_eq_some_iff.mp hr).1
  refine va_put (ci := ci) (v := .int x) (ty := .char) C.exec C.bytes C.words hin ty0 hty hnm C.2.2.2.1 C.2.2.2.2.2.1.1 hP (fp_D C.2.2.2.2.2.1.2.1 g) hS q (fp_atO hq hs) hc j hk (C.word hlink) (fun _ h => h) hfin hpd h.1.1 h.1.2 hlt hd (fun H1 locs1 hP1 _ hS1 => k h.2 ls H1 locs1 hl ?_ hS1)
  have e1 := fp_fs_set Z.2.1.2.1 (g q) x rs 0 j hr
  have e2 := fp_ws_set Z.2.1 g hq (upd (g q) j x)
  rw [e1, Nat.zero_add] at hP1
  rw [hs] at e2
  rw [gu_gc, ← e2]
  exact hP1
theorem wa_iret {Z : fp_Z} {cc : ByteArray} {own : String} {ret : Option FieldType} {pc : Nat} {L : List (Option Value)} {S : List Value} {g : fp_G} (C : fp_C Z cc own ret) {x : Int32} (hv : Z.2.2.1 = false) (hr : ret = some .int) (hd : decode cc pc = .ok (.ireturn, 1)) (h : Z.2.2.2.1 x g) : WA Z pc L [.int x] g := by
  intro ls H locs hl hP hS
  refine W.iret (v := x) C.exec C.bytes (by rw [C.2.2.2.2.2.2.1]; exact hr) (fun t ht hW => ?_) hS.2.2 hd C.2.2.2.2.2.2.2.1
  rw [hv]
  exact ⟨⟨x, g, rfl, h, by show va_P _ _ _ _; rw [ht]; exact hP⟩, hS.F ht⟩
theorem wa_zret {Z : fp_Z} {cc : ByteArray} {own : String} {ret : Option FieldType} {pc : Nat} {L : List (Option Value)} {S : List Value} {g : fp_G} (C : fp_C Z cc own ret) {x : Int32} {ty : FieldType} (hv : Z.2.2.1 = false) (hr : ret = some ty) (hn : narrow ty (.int x) = .int x) (hd : decode cc pc = .ok (.ireturn, 1)) (h : Z.2.2.2.1 x g) : WA Z pc L [.int x] g := by
  intro ls H locs hl hP hS
  refine W.zret (v := x) C.exec C.bytes (by rw [C.2.2.2.2.2.2.1]; exact hr) hn (fun t ht hW => ?_) hS.2.2 hd C.2.2.2.2.2.2.2.1
  rw [hv]
  exact ⟨⟨x, g, rfl, h, by show va_P _ _ _ _; rw [ht]; exact hP⟩, hS.F ht⟩
theorem wa_vret {Z : fp_Z} {cc : ByteArray} {own : String} {ret : Option FieldType} {pc : Nat} {L : List (Option Value)} {S : List Value} {g : fp_G} (C : fp_C Z cc own ret) (hv : Z.2.2.1 = true) (hr : ret = none) (hd : decode cc pc = .ok (.return_, 1)) (h : Z.2.2.2.1 0 g) : WA Z pc L [] g := by
  intro ls H locs hl hP hS
  refine W.vret C.exec C.bytes (by rw [C.2.2.2.2.2.2.1]; exact hr) (fun t ht hW => ?_) hS.2.2 hd C.2.2.2.2.2.2.2.1
  rw [hv]
  exact ⟨⟨g, rfl, h, by show va_P _ _ _ _; rw [ht]; exact hP⟩, hS.F ht⟩
theorem fp_pre {Z : fp_Z} {cc : ByteArray} {own : String} {ret : Option FieldType} (C : fp_C Z cc own ret) {H : Heap} {locs : List Loc} {g : fp_G} (hP : va_P Z.2.1.1 vwCl (fp_ws Z.2.1 g) H) (hS : va_S (fp_A Z.2.1) Z.1.2.2.2.2.1.heap H locs) (av : List Value) (U : State) (hU : U.heap = H) (hW : Z.1.2.2.2.2.1.WarmedH U.vm) : fp_Pc Z.2.1 av g (av.map (fp_rv Z.2.1.2.1)).toArray U :=
  ⟨rfl, by rw [hU]; exact fp_Env.warm hW (fp_Env.kept hS.2.1 C.2.2.2.2.2.1), by show va_P _ _ _ _; rw [hU]; exact hP⟩
theorem fp_sum (ad : Nat → Nat) (S : List Value) : (((S.map (fp_rv ad)).map fun v => v.category).sum) = ((S.map fun v => v.category).sum) := by
  rw [List.map_map]
  congr 1
  exact List.map_congr_left (fun v _ => fp_rv_cat ad v)
theorem fp_goodW {b : Cond} {own C : String} {idx : Nat} {y : MethodName} {bytes : ByteArray} {maxL : Nat} {ret : Option FieldType} (h0 : Cond.code y bytes maxL ret ∈ fp_lw) (ws : List Cond) (h1 : ∀ w ∈ ws, w ∈ fp_lw) : GoodIn (b :: fp_lw) (ws ++ (Cond.code y bytes maxL ret :: fp_lw)) := by
  intro w hw
  rcases List.mem_append.mp hw with h | h
  · exact ⟨List.mem_cons_of_mem _ (h1 w h), good_of_word (List.mem_filter.mp (h1 w h)).2⟩
  · exact fp_good h0 b w h
theorem fp_roomI {d d2 maxL : Nat} (h : d2 < d) (hm : maxL ≤ 41) : (fp_rm d2).frames + 1 ≤ (fp_rm d).frames ∧ 8 + (maxL + 11) + (fp_rm d2).locals ≤ (fp_rm d).locals := by
  show d2 + 1 ≤ d ∧ 8 + (maxL + 11) + 60 * d2 ≤ 60 * d
  omega
/-- what a call rests on: y's code and its link at this place -/
def fp_site (own : String) (idx : Nat) (y : MethodName) (bytes : ByteArray) (maxL : Nat) (ret : Option FieldType) (n : Nat) : Prop :=
  Cond.code y bytes maxL ret ∈ fp_lw ∧ Cond.methodLink own idx y ∈ fp_lw ∧ Cond.initialized y.cls ∈ fp_lw ∧ maxL ≤ 41 ∧ (y.cls ≠ "java/lang/invoke/MethodHandle" ∧ y.cls ≠ "java/lang/invoke/VarHandle" ∧ (parseMethodDescriptor y.desc).map (fun d => d.parameters.length) = some n)
theorem wa_callVi {Z : fp_Z} {cc : ByteArray} {own : String} {ret : Option FieldType} {pc : Nat} {L : List (Option Value)} {S : List Value} {g : fp_G} (C : fp_C Z cc own ret) {y : MethodName} {bytes : ByteArray} {maxL i d2 n q ci N : Nat} {ret2 : Option FieldType} {P : Int32 → fp_G → Prop} {As S0 : List Value} {rs : List (Option Nat)} {T : u_T}
    (hq : q < fp_NC) (hs : fp_sh q = .inr (ci, rs)) (hc : vwCl[ci]? = some (y.cls, T, N)) (hsite : fp_site own i y bytes maxL ret2 n) (hinst : Cond.instanceMethod y ∈ fp_lw) (hsel : Cond.selects y.cls y y ∈ fp_lw)
    (hd : decode cc pc = .ok (.invokevirtual i, 3)) (hM : fp_M Z.1.2.1 Z.2.1 y bytes maxL ret2 false d2 (.ref q :: As) g P) (hn : As.length = n) (hst : As.reverse ++ .ref q :: S = S0) (hW : (S.map fun v => v.category).sum ≤ 8) (hdp : d2 < Z.2.2.2.2.2)
    (k : ∀ r g2, P r g2 → WA Z (pc + 3) L (.int r :: S) g2) : WA Z pc L S0 g := by
  intro ls H locs hl hP hS
  subst hst
  have hgo := va_recv C.2.2.2.2.2.1.1 hP hc (fp_atO (Z := Z) (g := g) hq hs)
  obtain ⟨b, hb⟩ := C.2.2.2.2.1
  obtain ⟨h1, h2, h3, h4, h5⟩ := hsite
  have hR := fp_roomI hdp h4
  rw [← C.2.2.2.2.2.2.2.2] at hR
  have cw := cwV (R := Z.1.2.2.2.1) (own := own) (index := i) (C := y.cls) (bytes := bytes) (maxL := maxL) (ret := ret2) (rm := fp_rm d2) (mc := 0) (ms := 0) n hb (fp_goodW (own := own) (C := y.cls) (idx := i) (ret := ret2) (maxL := maxL) h1 [.methodLink own i y, .instanceMethod y, .selects y.cls y y, .initialized y.cls] (by
    intro w hw
    simp only [List.mem_cons, List.not_mem_nil, or_false] at hw
    rcases hw with rfl | rfl | rfl | rfl
    · exact h2
    · exact hinst
    · exact hsel
    · exact h3)) rfl rfl rfl ⟨rfl, h5⟩ hR
  have hstk : (As.reverse ++ Value.ref q :: S).map (fp_rv Z.2.1.2.1) = (As.map (fp_rv Z.2.1.2.1)).reverse ++ Value.ref (Z.2.1.2.1 q) :: S.map (fp_rv Z.2.1.2.1) := by
    rw [List.map_append, List.map_reverse]; rfl
  rw [hstk]
  refine va_calli (va_runV (As := As.map (fp_rv Z.2.1.2.1)) (rest := S.map (fp_rv Z.2.1.2.1)) ⟨C.exec, C.bytes, C.2.2.1, C.2.2.2.1, hb⟩ hM cw ⟨fp_blind _ _ _, hgo, fun U hU hW2 => fp_pre C hP hS (.ref q :: As) U hU hW2⟩ rfl (by rw [List.length_map]; exact hn) hl.1 rfl (lv_room (by rw [fp_sum]; exact hW)) hd ⟨Nat.zero_le _, Nat.zero_le _⟩) hS (fun q _ h => h) (fun q h => h) (fun r g2 t H1 locs1 ht _ hp hB _ _ hS1 => k r g2 hp ls H1 locs1 hl (by have hB := hB; unfold fp_B at hB; rw [ht] at hB; exact hB) hS1)
theorem wa_callSi {Z : fp_Z} {cc : ByteArray} {own : String} {ret : Option FieldType} {pc : Nat} {L : List (Option Value)} {S : List Value} {g : fp_G} (C : fp_C Z cc own ret) {y : MethodName} {bytes : ByteArray} {maxL i d2 n : Nat} {ret2 : Option FieldType} {P : Int32 → fp_G → Prop} {As S0 : List Value}
    (hsite : fp_site own i y bytes maxL ret2 n) (hstat : Cond.static y ∈ fp_lw)
    (hd : decode cc pc = .ok (.invokestatic i, 3)) (hM : fp_M Z.1.2.1 Z.2.1 y bytes maxL ret2 false d2 As g P) (hn : As.length = n) (hst : As.reverse ++ S = S0) (hW : (S.map fun v => v.category).sum ≤ 8) (hdp : d2 < Z.2.2.2.2.2)
    (k : ∀ r g2, P r g2 → WA Z (pc + 3) L (.int r :: S) g2) : WA Z pc L S0 g := by
  intro ls H locs hl hP hS
  subst hst
  obtain ⟨b, hb⟩ := C.2.2.2.2.1
  obtain ⟨h1, h2, h3, h4, h5⟩ := hsite
  have hR := fp_roomI hdp h4
  rw [← C.2.2.2.2.2.2.2.2] at hR
  have cw := va_cwS (R := Z.1.2.2.2.1) (own := own) (index := i) (bytes := bytes) (maxL := maxL) (ret := ret2) (rm := fp_rm d2) (mc := 0) (ms := 0) n hb (fp_goodW (own := own) (C := y.cls) (idx := i) (ret := ret2) (maxL := maxL) h1 [.methodLink own i y, .static y, .initialized y.cls] (by
    intro w hw
    simp only [List.mem_cons, List.not_mem_nil, or_false] at hw
    rcases hw with rfl | rfl | rfl
    · exact h2
    · exact hstat
    · exact h3)) rfl rfl rfl h5 hR
  have hstk : (As.reverse ++ S).map (fp_rv Z.2.1.2.1) = (As.map (fp_rv Z.2.1.2.1)).reverse ++ S.map (fp_rv Z.2.1.2.1) := by
    rw [List.map_append, List.map_reverse]
  rw [hstk]
  refine va_calli (va_runS (As := As.map (fp_rv Z.2.1.2.1)) (rest := S.map (fp_rv Z.2.1.2.1)) ⟨C.exec, C.bytes, C.2.2.1, C.2.2.2.1, hb⟩ hM cw ⟨fp_blind _ _ _, fun U hU hW2 => fp_pre C hP hS As U hU hW2⟩ rfl (by rw [List.length_map]; exact hn) hl.1 rfl (lv_room (by rw [fp_sum]; exact hW)) hd ⟨Nat.zero_le _, Nat.zero_le _⟩) hS (fun q _ h => h) (fun q h => h) (fun r g2 t H1 locs1 ht _ hp hB _ _ hS1 => k r g2 hp ls H1 locs1 hl (by have hB := hB; unfold fp_B at hB; rw [ht] at hB; exact hB) hS1)
theorem wa_callVv {Z : fp_Z} {cc : ByteArray} {own : String} {ret : Option FieldType} {pc : Nat} {L : List (Option Value)} {S : List Value} {g : fp_G} (C : fp_C Z cc own ret) {y : MethodName} {bytes : ByteArray} {maxL i d2 n q ci N : Nat} {ret2 : Option FieldType} {P : Int32 → fp_G → Prop} {As S0 : List Value} {rs : List (Option Nat)} {T : u_T}
    (hq : q < fp_NC) (hs : fp_sh q = .inr (ci, rs)) (hc : vwCl[ci]? = some (y.cls, T, N)) (hsite : fp_site own i y bytes maxL ret2 n) (hinst : Cond.instanceMethod y ∈ fp_lw) (hsel : Cond.selects y.cls y y ∈ fp_lw)
    (hd : decode cc pc = .ok (.invokevirtual i, 3)) (hM : fp_M Z.1.2.1 Z.2.1 y bytes maxL ret2 true d2 (.ref q :: As) g P) (hn : As.length = n) (hst : As.reverse ++ .ref q :: S = S0) (hW : (S.map fun v => v.category).sum ≤ 8) (hdp : d2 < Z.2.2.2.2.2)
    (k : ∀ g2, P 0 g2 → WA Z (pc + 3) L S g2) : WA Z pc L S0 g := by
  intro ls H locs hl hP hS
  subst hst
  have hgo := va_recv C.2.2.2.2.2.1.1 hP hc (fp_atO (Z := Z) (g := g) hq hs)
  obtain ⟨b, hb⟩ := C.2.2.2.2.1
  obtain ⟨h1, h2, h3, h4, h5⟩ := hsite
  have hR := fp_roomI hdp h4
  rw [← C.2.2.2.2.2.2.2.2] at hR
  have cw := cwV (R := Z.1.2.2.2.1) (own := own) (index := i) (C := y.cls) (bytes := bytes) (maxL := maxL) (ret := ret2) (rm := fp_rm d2) (mc := 0) (ms := 0) n hb (fp_goodW (own := own) (C := y.cls) (idx := i) (ret := ret2) (maxL := maxL) h1 [.methodLink own i y, .instanceMethod y, .selects y.cls y y, .initialized y.cls] (by
    intro w hw
    simp only [List.mem_cons, List.not_mem_nil, or_false] at hw
    rcases hw with rfl | rfl | rfl | rfl
    · exact h2
    · exact hinst
    · exact hsel
    · exact h3)) rfl rfl rfl ⟨rfl, h5⟩ hR
  have hstk : (As.reverse ++ Value.ref q :: S).map (fp_rv Z.2.1.2.1) = (As.map (fp_rv Z.2.1.2.1)).reverse ++ Value.ref (Z.2.1.2.1 q) :: S.map (fp_rv Z.2.1.2.1) := by
    rw [List.map_append, List.map_reverse]; rfl
  rw [hstk]
  refine va_callv (va_runV (As := As.map (fp_rv Z.2.1.2.1)) (rest := S.map (fp_rv Z.2.1.2.1)) ⟨C.exec, C.bytes, C.2.2.1, C.2.2.2.1, hb⟩ hM cw ⟨fp_blind _ _ _, hgo, fun U hU hW2 => fp_pre C hP hS (.ref q :: As) U hU hW2⟩ rfl (by rw [List.length_map]; exact hn) hl.1 rfl (lv_room (by rw [fp_sum]; exact hW)) hd ⟨Nat.zero_le _, Nat.zero_le _⟩) hS (fun q _ h => h) (fun q h => h) (fun g2 t H1 locs1 ht _ hp hB _ _ hS1 => k g2 hp ls H1 locs1 hl (by have hB := hB; unfold fp_B at hB; rw [ht] at hB; exact hB) hS1)
theorem wa_callSv {Z : fp_Z} {cc : ByteArray} {own : String} {ret : Option FieldType} {pc : Nat} {L : List (Option Value)} {S : List Value} {g : fp_G} (C : fp_C Z cc own ret) {y : MethodName} {bytes : ByteArray} {maxL i d2 n : Nat} {ret2 : Option FieldType} {P : Int32 → fp_G → Prop} {As S0 : List Value}
    (hsite : fp_site own i y bytes maxL ret2 n) (hstat : Cond.static y ∈ fp_lw)
    (hd : decode cc pc = .ok (.invokestatic i, 3)) (hM : fp_M Z.1.2.1 Z.2.1 y bytes maxL ret2 true d2 As g P) (hn : As.length = n) (hst : As.reverse ++ S = S0) (hW : (S.map fun v => v.category).sum ≤ 8) (hdp : d2 < Z.2.2.2.2.2)
    (k : ∀ g2, P 0 g2 → WA Z (pc + 3) L S g2) : WA Z pc L S0 g := by
  intro ls H locs hl hP hS
  subst hst
  obtain ⟨b, hb⟩ := C.2.2.2.2.1
  obtain ⟨h1, h2, h3, h4, h5⟩ := hsite
  have hR := fp_roomI hdp h4
  rw [← C.2.2.2.2.2.2.2.2] at hR
  have cw := va_cwS (R := Z.1.2.2.2.1) (own := own) (index := i) (bytes := bytes) (maxL := maxL) (ret := ret2) (rm := fp_rm d2) (mc := 0) (ms := 0) n hb (fp_goodW (own := own) (C := y.cls) (idx := i) (ret := ret2) (maxL := maxL) h1 [.methodLink own i y, .static y, .initialized y.cls] (by
    intro w hw
    simp only [List.mem_cons, List.not_mem_nil, or_false] at hw
    rcases hw with rfl | rfl | rfl
    · exact h2
    · exact hstat
    · exact h3)) rfl rfl rfl h5 hR
  have hstk : (As.reverse ++ S).map (fp_rv Z.2.1.2.1) = (As.map (fp_rv Z.2.1.2.1)).reverse ++ S.map (fp_rv Z.2.1.2.1) := by
    rw [List.map_append, List.map_reverse]
  rw [hstk]
  refine va_callv (va_runS (As := As.map (fp_rv Z.2.1.2.1)) (rest := S.map (fp_rv Z.2.1.2.1)) ⟨C.exec, C.bytes, C.2.2.1, C.2.2.2.1, hb⟩ hM cw ⟨fp_blind _ _ _, fun U hU hW2 => fp_pre C hP hS As U hU hW2⟩ rfl (by rw [List.length_map]; exact hn) hl.1 rfl (lv_room (by rw [fp_sum]; exact hW)) hd ⟨Nat.zero_le _, Nat.zero_le _⟩) hS (fun q _ h => h) (fun q h => h) (fun g2 t H1 locs1 ht _ hp hB _ _ hS1 => k g2 hp ls H1 locs1 hl (by have hB := hB; unfold fp_B at hB; rw [ht] at hB; exact hB) hS1)
end
