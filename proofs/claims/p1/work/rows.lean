section
-- ===== PART A: goes FIRST, ahead of the names: the tables' words, and 'selects' of the private methods out of them =====
/-- a private method of a class that the tables say can be made, by its rows of tables_1 -/
def lw_okq (q : MethodName × Nat) : Prop := (q.1.cls ≠ "java/lang/invoke/MethodHandle" ∧ q.1.cls ≠ "java/lang/invoke/VarHandle") ∧ Cond.instantiable q.1.cls q.2 ∈ tables_1 ∧ Cond.privateMethod q.1 ∈ tables_1 ∧ Cond.instanceMethod q.1 ∈ tables_1
theorem lw_p0 : lw_okq (⟨"EachBringsAnother$Lines", "readLine", "(LEachBringsAnother$Text;I)Z"⟩, 6) := ⟨⟨by decide +kernel, by decide +kernel⟩, List.mem_of_getElem? (i := 133) (by decide +kernel), List.mem_of_getElem? (i := 420) (by decide +kernel), List.mem_of_getElem? (i := 421) (by decide +kernel)⟩
theorem lw_p1 : lw_okq (⟨"EachBringsAnother$Lines", "take", "(LEachBringsAnother$Text;I)Z"⟩, 6) := ⟨⟨by decide +kernel, by decide +kernel⟩, List.mem_of_getElem? (i := 133) (by decide +kernel), List.mem_of_getElem? (i := 428) (by decide +kernel), List.mem_of_getElem? (i := 429) (by decide +kernel)⟩
theorem lw_p2 : lw_okq (⟨"EachBringsAnother", "peopleCame", "()V"⟩, 10) := ⟨⟨by decide +kernel, by decide +kernel⟩, List.mem_of_getElem? (i := 23) (by decide +kernel), List.mem_of_getElem? (i := 450) (by decide +kernel), List.mem_of_getElem? (i := 451) (by decide +kernel)⟩
theorem lw_p3 : lw_okq (⟨"EachBringsAnother$Wish", "takeThing", "(I)Z"⟩, 11) := ⟨⟨by decide +kernel, by decide +kernel⟩, List.mem_of_getElem? (i := 206) (by decide +kernel), List.mem_of_getElem? (i := 482) (by decide +kernel), List.mem_of_getElem? (i := 483) (by decide +kernel)⟩
theorem lw_p4 : lw_okq (⟨"EachBringsAnother$Wish", "await", "(I)V"⟩, 11) := ⟨⟨by decide +kernel, by decide +kernel⟩, List.mem_of_getElem? (i := 206) (by decide +kernel), List.mem_of_getElem? (i := 486) (by decide +kernel), List.mem_of_getElem? (i := 487) (by decide +kernel)⟩
theorem lw_p5 : lw_okq (⟨"EachBringsAnother$Wish", "write", "(I)V"⟩, 11) := ⟨⟨by decide +kernel, by decide +kernel⟩, List.mem_of_getElem? (i := 206) (by decide +kernel), List.mem_of_getElem? (i := 493) (by decide +kernel), List.mem_of_getElem? (i := 494) (by decide +kernel)⟩
theorem lw_p6 : lw_okq (⟨"EachBringsAnother$Wish", "takeBehindThing", "(I)Z"⟩, 11) := ⟨⟨by decide +kernel, by decide +kernel⟩, List.mem_of_getElem? (i := 206) (by decide +kernel), List.mem_of_getElem? (i := 497) (by decide +kernel), List.mem_of_getElem? (i := 498) (by decide +kernel)⟩
theorem lw_p7 : lw_okq (⟨"EachBringsAnother$Wish", "takeDigit", "(I)Z"⟩, 11) := ⟨⟨by decide +kernel, by decide +kernel⟩, List.mem_of_getElem? (i := 206) (by decide +kernel), List.mem_of_getElem? (i := 501) (by decide +kernel), List.mem_of_getElem? (i := 502) (by decide +kernel)⟩
theorem lw_p8 : lw_okq (⟨"EachBringsAnother$Wish", "release", "(I)V"⟩, 11) := ⟨⟨by decide +kernel, by decide +kernel⟩, List.mem_of_getElem? (i := 206) (by decide +kernel), List.mem_of_getElem? (i := 505) (by decide +kernel), List.mem_of_getElem? (i := 506) (by decide +kernel)⟩
theorem lw_p9 : lw_okq (⟨"EachBringsAnother", "areTwo", "(II)Z"⟩, 10) := ⟨⟨by decide +kernel, by decide +kernel⟩, List.mem_of_getElem? (i := 23) (by decide +kernel), List.mem_of_getElem? (i := 523) (by decide +kernel), List.mem_of_getElem? (i := 524) (by decide +kernel)⟩
theorem lw_p10 : lw_okq (⟨"EachBringsAnother", "pass", "()I"⟩, 10) := ⟨⟨by decide +kernel, by decide +kernel⟩, List.mem_of_getElem? (i := 23) (by decide +kernel), List.mem_of_getElem? (i := 623) (by decide +kernel), List.mem_of_getElem? (i := 624) (by decide +kernel)⟩
theorem lw_p11 : lw_okq (⟨"EachBringsAnother$Wish", "value", "(LEachBringsAnother$Folk;III)I"⟩, 11) := ⟨⟨by decide +kernel, by decide +kernel⟩, List.mem_of_getElem? (i := 206) (by decide +kernel), List.mem_of_getElem? (i := 667) (by decide +kernel), List.mem_of_getElem? (i := 668) (by decide +kernel)⟩
theorem lw_p12 : lw_okq (⟨"EachBringsAnother$Moves", "prepare", "(LEachBringsAnother$Folk;III)V"⟩, 10) := ⟨⟨by decide +kernel, by decide +kernel⟩, List.mem_of_getElem? (i := 246) (by decide +kernel), List.mem_of_getElem? (i := 722) (by decide +kernel), List.mem_of_getElem? (i := 723) (by decide +kernel)⟩
theorem lw_p13 : lw_okq (⟨"EachBringsAnother$Moves", "spread", "(III)V"⟩, 10) := ⟨⟨by decide +kernel, by decide +kernel⟩, List.mem_of_getElem? (i := 246) (by decide +kernel), List.mem_of_getElem? (i := 729) (by decide +kernel), List.mem_of_getElem? (i := 730) (by decide +kernel)⟩
theorem lw_p14 : lw_okq (⟨"EachBringsAnother", "largestWeek", "()I"⟩, 10) := ⟨⟨by decide +kernel, by decide +kernel⟩, List.mem_of_getElem? (i := 23) (by decide +kernel), List.mem_of_getElem? (i := 754) (by decide +kernel), List.mem_of_getElem? (i := 755) (by decide +kernel)⟩
theorem lw_p15 : lw_okq (⟨"EachBringsAnother$Search", "clear", "()V"⟩, 11) := ⟨⟨by decide +kernel, by decide +kernel⟩, List.mem_of_getElem? (i := 285) (by decide +kernel), List.mem_of_getElem? (i := 786) (by decide +kernel), List.mem_of_getElem? (i := 787) (by decide +kernel)⟩
def lw_privs_1 : List (MethodName × Nat) := [(⟨"EachBringsAnother$Lines", "readLine", "(LEachBringsAnother$Text;I)Z"⟩, 6), (⟨"EachBringsAnother$Lines", "take", "(LEachBringsAnother$Text;I)Z"⟩, 6), (⟨"EachBringsAnother", "peopleCame", "()V"⟩, 10), (⟨"EachBringsAnother$Wish", "takeThing", "(I)Z"⟩, 11), (⟨"EachBringsAnother$Wish", "await", "(I)V"⟩, 11), (⟨"EachBringsAnother$Wish", "write", "(I)V"⟩, 11), (⟨"EachBringsAnother$Wish", "takeBehindThing", "(I)Z"⟩, 11), (⟨"EachBringsAnother$Wish", "takeDigit", "(I)Z"⟩, 11), (⟨"EachBringsAnother$Wish", "release", "(I)V"⟩, 11), (⟨"EachBringsAnother", "areTwo", "(II)Z"⟩, 10), (⟨"EachBringsAnother", "pass", "()I"⟩, 10), (⟨"EachBringsAnother$Wish", "value", "(LEachBringsAnother$Folk;III)I"⟩, 11), (⟨"EachBringsAnother$Moves", "prepare", "(LEachBringsAnother$Folk;III)V"⟩, 10), (⟨"EachBringsAnother$Moves", "spread", "(III)V"⟩, 10), (⟨"EachBringsAnother", "largestWeek", "()I"⟩, 10), (⟨"EachBringsAnother$Search", "clear", "()V"⟩, 11)]
theorem lw_r1 : ∀ q ∈ lw_privs_1, lw_okq q := List.forall_mem_cons.mpr ⟨lw_p0, List.forall_mem_cons.mpr ⟨lw_p1, List.forall_mem_cons.mpr ⟨lw_p2, List.forall_mem_cons.mpr ⟨lw_p3, List.forall_mem_cons.mpr ⟨lw_p4, List.forall_mem_cons.mpr ⟨lw_p5, List.forall_mem_cons.mpr ⟨lw_p6, List.forall_mem_cons.mpr ⟨lw_p7, List.forall_mem_cons.mpr ⟨lw_p8, List.forall_mem_cons.mpr ⟨lw_p9, List.forall_mem_cons.mpr ⟨lw_p10, List.forall_mem_cons.mpr ⟨lw_p11, List.forall_mem_cons.mpr ⟨lw_p12, List.forall_mem_cons.mpr ⟨lw_p13, List.forall_mem_cons.mpr ⟨lw_p14, List.forall_mem_cons.mpr ⟨lw_p15, fun _ h => absurd h List.not_mem_nil⟩⟩⟩⟩⟩⟩⟩⟩⟩⟩⟩⟩⟩⟩⟩⟩
theorem lw_p16 : lw_okq (⟨"EachBringsAnother$Search", "place", "(IJ)V"⟩, 11) := ⟨⟨by decide +kernel, by decide +kernel⟩, List.mem_of_getElem? (i := 285) (by decide +kernel), List.mem_of_getElem? (i := 791) (by decide +kernel), List.mem_of_getElem? (i := 792) (by decide +kernel)⟩
theorem lw_p17 : lw_okq (⟨"EachBringsAnother$Search", "slotOf", "(I)I"⟩, 11) := ⟨⟨by decide +kernel, by decide +kernel⟩, List.mem_of_getElem? (i := 285) (by decide +kernel), List.mem_of_getElem? (i := 795) (by decide +kernel), List.mem_of_getElem? (i := 796) (by decide +kernel)⟩
theorem lw_p18 : lw_okq (⟨"EachBringsAnother$Search", "goOn", "(ILEachBringsAnother$Folk;LEachBringsAnother$Moves;)V"⟩, 11) := ⟨⟨by decide +kernel, by decide +kernel⟩, List.mem_of_getElem? (i := 285) (by decide +kernel), List.mem_of_getElem? (i := 805) (by decide +kernel), List.mem_of_getElem? (i := 806) (by decide +kernel)⟩
theorem lw_p19 : lw_okq (⟨"EachBringsAnother$Search", "leftBehind", "(ILEachBringsAnother$Folk;LEachBringsAnother$Moves;)J"⟩, 11) := ⟨⟨by decide +kernel, by decide +kernel⟩, List.mem_of_getElem? (i := 285) (by decide +kernel), List.mem_of_getElem? (i := 898) (by decide +kernel), List.mem_of_getElem? (i := 899) (by decide +kernel)⟩
theorem lw_p20 : lw_okq (⟨"EachBringsAnother$Search", "leftOf", "(I)J"⟩, 11) := ⟨⟨by decide +kernel, by decide +kernel⟩, List.mem_of_getElem? (i := 285) (by decide +kernel), List.mem_of_getElem? (i := 902) (by decide +kernel), List.mem_of_getElem? (i := 903) (by decide +kernel)⟩
theorem lw_p21 : lw_okq (⟨"EachBringsAnother", "tellFirstWeek", "(I)V"⟩, 10) := ⟨⟨by decide +kernel, by decide +kernel⟩, List.mem_of_getElem? (i := 23) (by decide +kernel), List.mem_of_getElem? (i := 906) (by decide +kernel), List.mem_of_getElem? (i := 907) (by decide +kernel)⟩
theorem lw_p22 : lw_okq (⟨"EachBringsAnother", "firstThatLeads", "(I)I"⟩, 10) := ⟨⟨by decide +kernel, by decide +kernel⟩, List.mem_of_getElem? (i := 23) (by decide +kernel), List.mem_of_getElem? (i := 910) (by decide +kernel), List.mem_of_getElem? (i := 911) (by decide +kernel)⟩
theorem lw_p23 : lw_okq (⟨"EachBringsAnother", "firstToBring", "(II)I"⟩, 10) := ⟨⟨by decide +kernel, by decide +kernel⟩, List.mem_of_getElem? (i := 23) (by decide +kernel), List.mem_of_getElem? (i := 927) (by decide +kernel), List.mem_of_getElem? (i := 928) (by decide +kernel)⟩
theorem lw_p24 : lw_okq (⟨"EachBringsAnother", "tellWay", "(III)V"⟩, 10) := ⟨⟨by decide +kernel, by decide +kernel⟩, List.mem_of_getElem? (i := 23) (by decide +kernel), List.mem_of_getElem? (i := 967) (by decide +kernel), List.mem_of_getElem? (i := 968) (by decide +kernel)⟩
theorem lw_p25 : lw_okq (⟨"java/lang/Throwable", "fillInStackTrace", "(I)Ljava/lang/Throwable;"⟩, 6) := ⟨⟨by decide +kernel, by decide +kernel⟩, List.mem_of_getElem? (i := 1082) (by decide +kernel), List.mem_of_getElem? (i := 1080) (by decide +kernel), List.mem_of_getElem? (i := 1081) (by decide +kernel)⟩
theorem lw_p26 : lw_okq (⟨"EachBringsAnotherModel", "begin", "([BII)V"⟩, 60) := ⟨⟨by decide +kernel, by decide +kernel⟩, List.mem_of_getElem? (i := 1130) (by decide +kernel), List.mem_of_getElem? (i := 1339) (by decide +kernel), List.mem_of_getElem? (i := 1340) (by decide +kernel)⟩
theorem lw_p27 : lw_okq (⟨"EachBringsAnotherModel", "fine", "()Z"⟩, 60) := ⟨⟨by decide +kernel, by decide +kernel⟩, List.mem_of_getElem? (i := 1130) (by decide +kernel), List.mem_of_getElem? (i := 1343) (by decide +kernel), List.mem_of_getElem? (i := 1344) (by decide +kernel)⟩
theorem lw_p28 : lw_okq (⟨"EachBringsAnotherModel", "fault", "(I)V"⟩, 60) := ⟨⟨by decide +kernel, by decide +kernel⟩, List.mem_of_getElem? (i := 1130) (by decide +kernel), List.mem_of_getElem? (i := 1347) (by decide +kernel), List.mem_of_getElem? (i := 1348) (by decide +kernel)⟩
theorem lw_p29 : lw_okq (⟨"EachBringsAnotherModel", "readOne", "(I)V"⟩, 60) := ⟨⟨by decide +kernel, by decide +kernel⟩, List.mem_of_getElem? (i := 1130) (by decide +kernel), List.mem_of_getElem? (i := 1351) (by decide +kernel), List.mem_of_getElem? (i := 1352) (by decide +kernel)⟩
theorem lw_p30 : lw_okq (⟨"EachBringsAnotherModel", "here", "()I"⟩, 60) := ⟨⟨by decide +kernel, by decide +kernel⟩, List.mem_of_getElem? (i := 1130) (by decide +kernel), List.mem_of_getElem? (i := 1355) (by decide +kernel), List.mem_of_getElem? (i := 1356) (by decide +kernel)⟩
theorem lw_p31 : lw_okq (⟨"EachBringsAnotherModel", "passes", "(C)Z"⟩, 60) := ⟨⟨by decide +kernel, by decide +kernel⟩, List.mem_of_getElem? (i := 1130) (by decide +kernel), List.mem_of_getElem? (i := 1359) (by decide +kernel), List.mem_of_getElem? (i := 1360) (by decide +kernel)⟩
def lw_privs_2 : List (MethodName × Nat) := [(⟨"EachBringsAnother$Search", "place", "(IJ)V"⟩, 11), (⟨"EachBringsAnother$Search", "slotOf", "(I)I"⟩, 11), (⟨"EachBringsAnother$Search", "goOn", "(ILEachBringsAnother$Folk;LEachBringsAnother$Moves;)V"⟩, 11), (⟨"EachBringsAnother$Search", "leftBehind", "(ILEachBringsAnother$Folk;LEachBringsAnother$Moves;)J"⟩, 11), (⟨"EachBringsAnother$Search", "leftOf", "(I)J"⟩, 11), (⟨"EachBringsAnother", "tellFirstWeek", "(I)V"⟩, 10), (⟨"EachBringsAnother", "firstThatLeads", "(I)I"⟩, 10), (⟨"EachBringsAnother", "firstToBring", "(II)I"⟩, 10), (⟨"EachBringsAnother", "tellWay", "(III)V"⟩, 10), (⟨"java/lang/Throwable", "fillInStackTrace", "(I)Ljava/lang/Throwable;"⟩, 6), (⟨"EachBringsAnotherModel", "begin", "([BII)V"⟩, 60), (⟨"EachBringsAnotherModel", "fine", "()Z"⟩, 60), (⟨"EachBringsAnotherModel", "fault", "(I)V"⟩, 60), (⟨"EachBringsAnotherModel", "readOne", "(I)V"⟩, 60), (⟨"EachBringsAnotherModel", "here", "()I"⟩, 60), (⟨"EachBringsAnotherModel", "passes", "(C)Z"⟩, 60)]
theorem lw_r2 : ∀ q ∈ lw_privs_2, lw_okq q := List.forall_mem_cons.mpr ⟨lw_p16, List.forall_mem_cons.mpr ⟨lw_p17, List.forall_mem_cons.mpr ⟨lw_p18, List.forall_mem_cons.mpr ⟨lw_p19, List.forall_mem_cons.mpr ⟨lw_p20, List.forall_mem_cons.mpr ⟨lw_p21, List.forall_mem_cons.mpr ⟨lw_p22, List.forall_mem_cons.mpr ⟨lw_p23, List.forall_mem_cons.mpr ⟨lw_p24, List.forall_mem_cons.mpr ⟨lw_p25, List.forall_mem_cons.mpr ⟨lw_p26, List.forall_mem_cons.mpr ⟨lw_p27, List.forall_mem_cons.mpr ⟨lw_p28, List.forall_mem_cons.mpr ⟨lw_p29, List.forall_mem_cons.mpr ⟨lw_p30, List.forall_mem_cons.mpr ⟨lw_p31, fun _ h => absurd h List.not_mem_nil⟩⟩⟩⟩⟩⟩⟩⟩⟩⟩⟩⟩⟩⟩⟩⟩
theorem lw_p32 : lw_okq (⟨"EachBringsAnotherModel", "add", "(IIIIZ)V"⟩, 60) := ⟨⟨by decide +kernel, by decide +kernel⟩, List.mem_of_getElem? (i := 1130) (by decide +kernel), List.mem_of_getElem? (i := 1363) (by decide +kernel), List.mem_of_getElem? (i := 1364) (by decide +kernel)⟩
theorem lw_p33 : lw_okq (⟨"EachBringsAnotherModel", "told", "()V"⟩, 60) := ⟨⟨by decide +kernel, by decide +kernel⟩, List.mem_of_getElem? (i := 1130) (by decide +kernel), List.mem_of_getElem? (i := 1370) (by decide +kernel), List.mem_of_getElem? (i := 1371) (by decide +kernel)⟩
theorem lw_p34 : lw_okq (⟨"EachBringsAnotherModel", "guests", "()I"⟩, 60) := ⟨⟨by decide +kernel, by decide +kernel⟩, List.mem_of_getElem? (i := 1130) (by decide +kernel), List.mem_of_getElem? (i := 1374) (by decide +kernel), List.mem_of_getElem? (i := 1375) (by decide +kernel)⟩
theorem lw_p35 : lw_okq (⟨"EachBringsAnotherModel", "those", "(II)I"⟩, 60) := ⟨⟨by decide +kernel, by decide +kernel⟩, List.mem_of_getElem? (i := 1130) (by decide +kernel), List.mem_of_getElem? (i := 1378) (by decide +kernel), List.mem_of_getElem? (i := 1379) (by decide +kernel)⟩
theorem lw_p36 : lw_okq (⟨"EachBringsAnotherModel", "held", "(I)I"⟩, 60) := ⟨⟨by decide +kernel, by decide +kernel⟩, List.mem_of_getElem? (i := 1130) (by decide +kernel), List.mem_of_getElem? (i := 1386) (by decide +kernel), List.mem_of_getElem? (i := 1387) (by decide +kernel)⟩
theorem lw_p37 : lw_okq (⟨"EachBringsAnotherModel", "sum", "(I)I"⟩, 60) := ⟨⟨by decide +kernel, by decide +kernel⟩, List.mem_of_getElem? (i := 1130) (by decide +kernel), List.mem_of_getElem? (i := 1390) (by decide +kernel), List.mem_of_getElem? (i := 1391) (by decide +kernel)⟩
theorem lw_p38 : lw_okq (⟨"EachBringsAnotherModel", "product", "(I)I"⟩, 60) := ⟨⟨by decide +kernel, by decide +kernel⟩, List.mem_of_getElem? (i := 1130) (by decide +kernel), List.mem_of_getElem? (i := 1394) (by decide +kernel), List.mem_of_getElem? (i := 1395) (by decide +kernel)⟩
theorem lw_p39 : lw_okq (⟨"EachBringsAnotherModel", "thing", "(I)I"⟩, 60) := ⟨⟨by decide +kernel, by decide +kernel⟩, List.mem_of_getElem? (i := 1130) (by decide +kernel), List.mem_of_getElem? (i := 1398) (by decide +kernel), List.mem_of_getElem? (i := 1399) (by decide +kernel)⟩
theorem lw_p40 : lw_okq (⟨"EachBringsAnotherModel", "letter", "(I)I"⟩, 60) := ⟨⟨by decide +kernel, by decide +kernel⟩, List.mem_of_getElem? (i := 1130) (by decide +kernel), List.mem_of_getElem? (i := 1402) (by decide +kernel), List.mem_of_getElem? (i := 1403) (by decide +kernel)⟩
theorem lw_p41 : lw_okq (⟨"EachBringsAnotherModel", "isOne", "(I)Z"⟩, 60) := ⟨⟨by decide +kernel, by decide +kernel⟩, List.mem_of_getElem? (i := 1130) (by decide +kernel), List.mem_of_getElem? (i := 1411) (by decide +kernel), List.mem_of_getElem? (i := 1412) (by decide +kernel)⟩
theorem lw_p42 : lw_okq (⟨"EachBringsAnotherModel", "lost", "()I"⟩, 60) := ⟨⟨by decide +kernel, by decide +kernel⟩, List.mem_of_getElem? (i := 1130) (by decide +kernel), List.mem_of_getElem? (i := 1415) (by decide +kernel), List.mem_of_getElem? (i := 1416) (by decide +kernel)⟩
theorem lw_p43 : lw_okq (⟨"EachBringsAnotherModel", "areTwo", "(II)Z"⟩, 60) := ⟨⟨by decide +kernel, by decide +kernel⟩, List.mem_of_getElem? (i := 1130) (by decide +kernel), List.mem_of_getElem? (i := 1430) (by decide +kernel), List.mem_of_getElem? (i := 1431) (by decide +kernel)⟩
theorem lw_p44 : lw_okq (⟨"EachBringsAnotherModel", "readLetter", "()I"⟩, 60) := ⟨⟨by decide +kernel, by decide +kernel⟩, List.mem_of_getElem? (i := 1130) (by decide +kernel), List.mem_of_getElem? (i := 1452) (by decide +kernel), List.mem_of_getElem? (i := 1453) (by decide +kernel)⟩
theorem lw_p45 : lw_okq (⟨"EachBringsAnotherModel", "nobody", "()V"⟩, 60) := ⟨⟨by decide +kernel, by decide +kernel⟩, List.mem_of_getElem? (i := 1130) (by decide +kernel), List.mem_of_getElem? (i := 1456) (by decide +kernel), List.mem_of_getElem? (i := 1457) (by decide +kernel)⟩
theorem lw_p46 : lw_okq (⟨"EachBringsAnotherModel", "free", "()I"⟩, 60) := ⟨⟨by decide +kernel, by decide +kernel⟩, List.mem_of_getElem? (i := 1130) (by decide +kernel), List.mem_of_getElem? (i := 1460) (by decide +kernel), List.mem_of_getElem? (i := 1461) (by decide +kernel)⟩
theorem lw_p47 : lw_okq (⟨"EachBringsAnotherModel", "hidden", "()I"⟩, 60) := ⟨⟨by decide +kernel, by decide +kernel⟩, List.mem_of_getElem? (i := 1130) (by decide +kernel), List.mem_of_getElem? (i := 1464) (by decide +kernel), List.mem_of_getElem? (i := 1465) (by decide +kernel)⟩
def lw_privs_3 : List (MethodName × Nat) := [(⟨"EachBringsAnotherModel", "add", "(IIIIZ)V"⟩, 60), (⟨"EachBringsAnotherModel", "told", "()V"⟩, 60), (⟨"EachBringsAnotherModel", "guests", "()I"⟩, 60), (⟨"EachBringsAnotherModel", "those", "(II)I"⟩, 60), (⟨"EachBringsAnotherModel", "held", "(I)I"⟩, 60), (⟨"EachBringsAnotherModel", "sum", "(I)I"⟩, 60), (⟨"EachBringsAnotherModel", "product", "(I)I"⟩, 60), (⟨"EachBringsAnotherModel", "thing", "(I)I"⟩, 60), (⟨"EachBringsAnotherModel", "letter", "(I)I"⟩, 60), (⟨"EachBringsAnotherModel", "isOne", "(I)Z"⟩, 60), (⟨"EachBringsAnotherModel", "lost", "()I"⟩, 60), (⟨"EachBringsAnotherModel", "areTwo", "(II)Z"⟩, 60), (⟨"EachBringsAnotherModel", "readLetter", "()I"⟩, 60), (⟨"EachBringsAnotherModel", "nobody", "()V"⟩, 60), (⟨"EachBringsAnotherModel", "free", "()I"⟩, 60), (⟨"EachBringsAnotherModel", "hidden", "()I"⟩, 60)]
theorem lw_r3 : ∀ q ∈ lw_privs_3, lw_okq q := List.forall_mem_cons.mpr ⟨lw_p32, List.forall_mem_cons.mpr ⟨lw_p33, List.forall_mem_cons.mpr ⟨lw_p34, List.forall_mem_cons.mpr ⟨lw_p35, List.forall_mem_cons.mpr ⟨lw_p36, List.forall_mem_cons.mpr ⟨lw_p37, List.forall_mem_cons.mpr ⟨lw_p38, List.forall_mem_cons.mpr ⟨lw_p39, List.forall_mem_cons.mpr ⟨lw_p40, List.forall_mem_cons.mpr ⟨lw_p41, List.forall_mem_cons.mpr ⟨lw_p42, List.forall_mem_cons.mpr ⟨lw_p43, List.forall_mem_cons.mpr ⟨lw_p44, List.forall_mem_cons.mpr ⟨lw_p45, List.forall_mem_cons.mpr ⟨lw_p46, List.forall_mem_cons.mpr ⟨lw_p47, fun _ h => absurd h List.not_mem_nil⟩⟩⟩⟩⟩⟩⟩⟩⟩⟩⟩⟩⟩⟩⟩⟩
theorem lw_p48 : lw_okq (⟨"EachBringsAnotherModel", "broughtNow", "()I"⟩, 60) := ⟨⟨by decide +kernel, by decide +kernel⟩, List.mem_of_getElem? (i := 1130) (by decide +kernel), List.mem_of_getElem? (i := 1468) (by decide +kernel), List.mem_of_getElem? (i := 1469) (by decide +kernel)⟩
theorem lw_p49 : lw_okq (⟨"EachBringsAnotherModel", "guestsThen", "()I"⟩, 60) := ⟨⟨by decide +kernel, by decide +kernel⟩, List.mem_of_getElem? (i := 1130) (by decide +kernel), List.mem_of_getElem? (i := 1472) (by decide +kernel), List.mem_of_getElem? (i := 1473) (by decide +kernel)⟩
theorem lw_p50 : lw_okq (⟨"EachBringsAnotherModel", "goWeek", "()I"⟩, 60) := ⟨⟨by decide +kernel, by decide +kernel⟩, List.mem_of_getElem? (i := 1130) (by decide +kernel), List.mem_of_getElem? (i := 1476) (by decide +kernel), List.mem_of_getElem? (i := 1477) (by decide +kernel)⟩
theorem lw_p51 : lw_okq (⟨"EachBringsAnotherModel", "lay", "([II)V"⟩, 60) := ⟨⟨by decide +kernel, by decide +kernel⟩, List.mem_of_getElem? (i := 1130) (by decide +kernel), List.mem_of_getElem? (i := 1480) (by decide +kernel), List.mem_of_getElem? (i := 1481) (by decide +kernel)⟩
theorem lw_p52 : lw_okq (⟨"EachBringsAnotherModel", "findChoices", "()V"⟩, 60) := ⟨⟨by decide +kernel, by decide +kernel⟩, List.mem_of_getElem? (i := 1130) (by decide +kernel), List.mem_of_getElem? (i := 1488) (by decide +kernel), List.mem_of_getElem? (i := 1489) (by decide +kernel)⟩
theorem lw_p53 : lw_okq (⟨"EachBringsAnotherModel", "choice", "(I)I"⟩, 60) := ⟨⟨by decide +kernel, by decide +kernel⟩, List.mem_of_getElem? (i := 1130) (by decide +kernel), List.mem_of_getElem? (i := 1492) (by decide +kernel), List.mem_of_getElem? (i := 1493) (by decide +kernel)⟩
theorem lw_p54 : lw_okq (⟨"EachBringsAnotherModel", "ruleFor", "(II)I"⟩, 60) := ⟨⟨by decide +kernel, by decide +kernel⟩, List.mem_of_getElem? (i := 1130) (by decide +kernel), List.mem_of_getElem? (i := 1496) (by decide +kernel), List.mem_of_getElem? (i := 1497) (by decide +kernel)⟩
theorem lw_p55 : lw_okq (⟨"EachBringsAnotherModel", "tell", "(I)V"⟩, 60) := ⟨⟨by decide +kernel, by decide +kernel⟩, List.mem_of_getElem? (i := 1130) (by decide +kernel), List.mem_of_getElem? (i := 1500) (by decide +kernel), List.mem_of_getElem? (i := 1501) (by decide +kernel)⟩
theorem lw_p56 : lw_okq (⟨"EachBringsAnotherModel", "bring", "([II)V"⟩, 60) := ⟨⟨by decide +kernel, by decide +kernel⟩, List.mem_of_getElem? (i := 1130) (by decide +kernel), List.mem_of_getElem? (i := 1508) (by decide +kernel), List.mem_of_getElem? (i := 1509) (by decide +kernel)⟩
theorem lw_p57 : lw_okq (⟨"EachBringsAnotherModel", "findPairs", "()V"⟩, 60) := ⟨⟨by decide +kernel, by decide +kernel⟩, List.mem_of_getElem? (i := 1130) (by decide +kernel), List.mem_of_getElem? (i := 1524) (by decide +kernel), List.mem_of_getElem? (i := 1525) (by decide +kernel)⟩
theorem lw_p58 : lw_okq (⟨"EachBringsAnotherModel", "findStates", "(I)Z"⟩, 60) := ⟨⟨by decide +kernel, by decide +kernel⟩, List.mem_of_getElem? (i := 1130) (by decide +kernel), List.mem_of_getElem? (i := 1536) (by decide +kernel), List.mem_of_getElem? (i := 1537) (by decide +kernel)⟩
theorem lw_p59 : lw_okq (⟨"EachBringsAnotherModel", "codeNow", "()I"⟩, 60) := ⟨⟨by decide +kernel, by decide +kernel⟩, List.mem_of_getElem? (i := 1130) (by decide +kernel), List.mem_of_getElem? (i := 1540) (by decide +kernel), List.mem_of_getElem? (i := 1541) (by decide +kernel)⟩
theorem lw_p60 : lw_okq (⟨"EachBringsAnotherModel", "stateOf", "(I)I"⟩, 60) := ⟨⟨by decide +kernel, by decide +kernel⟩, List.mem_of_getElem? (i := 1130) (by decide +kernel), List.mem_of_getElem? (i := 1544) (by decide +kernel), List.mem_of_getElem? (i := 1545) (by decide +kernel)⟩
theorem lw_p61 : lw_okq (⟨"EachBringsAnotherModel", "load", "(I)V"⟩, 60) := ⟨⟨by decide +kernel, by decide +kernel⟩, List.mem_of_getElem? (i := 1130) (by decide +kernel), List.mem_of_getElem? (i := 1549) (by decide +kernel), List.mem_of_getElem? (i := 1550) (by decide +kernel)⟩
theorem lw_p62 : lw_okq (⟨"EachBringsAnotherModel", "goPairs", "(IIII)Z"⟩, 60) := ⟨⟨by decide +kernel, by decide +kernel⟩, List.mem_of_getElem? (i := 1130) (by decide +kernel), List.mem_of_getElem? (i := 1553) (by decide +kernel), List.mem_of_getElem? (i := 1554) (by decide +kernel)⟩
theorem lw_p63 : lw_okq (⟨"EachBringsAnotherModel", "behind", "(II)I"⟩, 60) := ⟨⟨by decide +kernel, by decide +kernel⟩, List.mem_of_getElem? (i := 1130) (by decide +kernel), List.mem_of_getElem? (i := 1557) (by decide +kernel), List.mem_of_getElem? (i := 1558) (by decide +kernel)⟩
def lw_privs_4 : List (MethodName × Nat) := [(⟨"EachBringsAnotherModel", "broughtNow", "()I"⟩, 60), (⟨"EachBringsAnotherModel", "guestsThen", "()I"⟩, 60), (⟨"EachBringsAnotherModel", "goWeek", "()I"⟩, 60), (⟨"EachBringsAnotherModel", "lay", "([II)V"⟩, 60), (⟨"EachBringsAnotherModel", "findChoices", "()V"⟩, 60), (⟨"EachBringsAnotherModel", "choice", "(I)I"⟩, 60), (⟨"EachBringsAnotherModel", "ruleFor", "(II)I"⟩, 60), (⟨"EachBringsAnotherModel", "tell", "(I)V"⟩, 60), (⟨"EachBringsAnotherModel", "bring", "([II)V"⟩, 60), (⟨"EachBringsAnotherModel", "findPairs", "()V"⟩, 60), (⟨"EachBringsAnotherModel", "findStates", "(I)Z"⟩, 60), (⟨"EachBringsAnotherModel", "codeNow", "()I"⟩, 60), (⟨"EachBringsAnotherModel", "stateOf", "(I)I"⟩, 60), (⟨"EachBringsAnotherModel", "load", "(I)V"⟩, 60), (⟨"EachBringsAnotherModel", "goPairs", "(IIII)Z"⟩, 60), (⟨"EachBringsAnotherModel", "behind", "(II)I"⟩, 60)]
theorem lw_r4 : ∀ q ∈ lw_privs_4, lw_okq q := List.forall_mem_cons.mpr ⟨lw_p48, List.forall_mem_cons.mpr ⟨lw_p49, List.forall_mem_cons.mpr ⟨lw_p50, List.forall_mem_cons.mpr ⟨lw_p51, List.forall_mem_cons.mpr ⟨lw_p52, List.forall_mem_cons.mpr ⟨lw_p53, List.forall_mem_cons.mpr ⟨lw_p54, List.forall_mem_cons.mpr ⟨lw_p55, List.forall_mem_cons.mpr ⟨lw_p56, List.forall_mem_cons.mpr ⟨lw_p57, List.forall_mem_cons.mpr ⟨lw_p58, List.forall_mem_cons.mpr ⟨lw_p59, List.forall_mem_cons.mpr ⟨lw_p60, List.forall_mem_cons.mpr ⟨lw_p61, List.forall_mem_cons.mpr ⟨lw_p62, List.forall_mem_cons.mpr ⟨lw_p63, fun _ h => absurd h List.not_mem_nil⟩⟩⟩⟩⟩⟩⟩⟩⟩⟩⟩⟩⟩⟩⟩⟩
theorem lw_p64 : lw_okq (⟨"EachBringsAnotherModel", "guestsIn", "(I)I"⟩, 60) := ⟨⟨by decide +kernel, by decide +kernel⟩, List.mem_of_getElem? (i := 1130) (by decide +kernel), List.mem_of_getElem? (i := 1561) (by decide +kernel), List.mem_of_getElem? (i := 1562) (by decide +kernel)⟩
theorem lw_p65 : lw_okq (⟨"EachBringsAnotherModel", "findWeek", "(I)Z"⟩, 60) := ⟨⟨by decide +kernel, by decide +kernel⟩, List.mem_of_getElem? (i := 1130) (by decide +kernel), List.mem_of_getElem? (i := 1572) (by decide +kernel), List.mem_of_getElem? (i := 1573) (by decide +kernel)⟩
theorem lw_p66 : lw_okq (⟨"EachBringsAnotherModel", "beginWeeks", "()V"⟩, 60) := ⟨⟨by decide +kernel, by decide +kernel⟩, List.mem_of_getElem? (i := 1130) (by decide +kernel), List.mem_of_getElem? (i := 1576) (by decide +kernel), List.mem_of_getElem? (i := 1577) (by decide +kernel)⟩
theorem lw_p67 : lw_okq (⟨"EachBringsAnotherModel", "goOneWeek", "()V"⟩, 60) := ⟨⟨by decide +kernel, by decide +kernel⟩, List.mem_of_getElem? (i := 1130) (by decide +kernel), List.mem_of_getElem? (i := 1581) (by decide +kernel), List.mem_of_getElem? (i := 1582) (by decide +kernel)⟩
theorem lw_p68 : lw_okq (⟨"EachBringsAnotherModel", "costOf", "(II)I"⟩, 60) := ⟨⟨by decide +kernel, by decide +kernel⟩, List.mem_of_getElem? (i := 1130) (by decide +kernel), List.mem_of_getElem? (i := 1585) (by decide +kernel), List.mem_of_getElem? (i := 1586) (by decide +kernel)⟩
theorem lw_p69 : lw_okq (⟨"EachBringsAnotherModel", "strangersIn", "(I)I"⟩, 60) := ⟨⟨by decide +kernel, by decide +kernel⟩, List.mem_of_getElem? (i := 1130) (by decide +kernel), List.mem_of_getElem? (i := 1589) (by decide +kernel), List.mem_of_getElem? (i := 1590) (by decide +kernel)⟩
theorem lw_p70 : lw_okq (⟨"EachBringsAnotherModel", "leastPaid", "(I)I"⟩, 60) := ⟨⟨by decide +kernel, by decide +kernel⟩, List.mem_of_getElem? (i := 1130) (by decide +kernel), List.mem_of_getElem? (i := 1605) (by decide +kernel), List.mem_of_getElem? (i := 1606) (by decide +kernel)⟩
theorem lw_p71 : lw_okq (⟨"EachBringsAnotherModel", "all", "()I"⟩, 60) := ⟨⟨by decide +kernel, by decide +kernel⟩, List.mem_of_getElem? (i := 1130) (by decide +kernel), List.mem_of_getElem? (i := 1617) (by decide +kernel), List.mem_of_getElem? (i := 1618) (by decide +kernel)⟩
theorem lw_p72 : lw_okq (⟨"EachBringsAnotherModel", "findLife", "(I)V"⟩, 60) := ⟨⟨by decide +kernel, by decide +kernel⟩, List.mem_of_getElem? (i := 1130) (by decide +kernel), List.mem_of_getElem? (i := 1621) (by decide +kernel), List.mem_of_getElem? (i := 1622) (by decide +kernel)⟩
theorem lw_p73 : lw_okq (⟨"EachBringsAnotherModel", "findOrder", "()V"⟩, 60) := ⟨⟨by decide +kernel, by decide +kernel⟩, List.mem_of_getElem? (i := 1130) (by decide +kernel), List.mem_of_getElem? (i := 1625) (by decide +kernel), List.mem_of_getElem? (i := 1626) (by decide +kernel)⟩
theorem lw_p74 : lw_okq (⟨"EachBringsAnotherModel", "findNext", "()V"⟩, 60) := ⟨⟨by decide +kernel, by decide +kernel⟩, List.mem_of_getElem? (i := 1130) (by decide +kernel), List.mem_of_getElem? (i := 1633) (by decide +kernel), List.mem_of_getElem? (i := 1634) (by decide +kernel)⟩
theorem lw_p75 : lw_okq (⟨"EachBringsAnotherModel", "isNext", "(I)Z"⟩, 60) := ⟨⟨by decide +kernel, by decide +kernel⟩, List.mem_of_getElem? (i := 1130) (by decide +kernel), List.mem_of_getElem? (i := 1637) (by decide +kernel), List.mem_of_getElem? (i := 1638) (by decide +kernel)⟩
theorem lw_p76 : lw_okq (⟨"EachBringsAnotherModel", "tellFirst", "()I"⟩, 60) := ⟨⟨by decide +kernel, by decide +kernel⟩, List.mem_of_getElem? (i := 1130) (by decide +kernel), List.mem_of_getElem? (i := 1641) (by decide +kernel), List.mem_of_getElem? (i := 1642) (by decide +kernel)⟩
theorem lw_p77 : lw_okq (⟨"EachBringsAnotherModel", "tellPairs", "(III)Z"⟩, 60) := ⟨⟨by decide +kernel, by decide +kernel⟩, List.mem_of_getElem? (i := 1130) (by decide +kernel), List.mem_of_getElem? (i := 1645) (by decide +kernel), List.mem_of_getElem? (i := 1646) (by decide +kernel)⟩
theorem lw_p78 : lw_okq (⟨"EachBringsAnotherModel", "canWant", "(IIIII)Z"⟩, 60) := ⟨⟨by decide +kernel, by decide +kernel⟩, List.mem_of_getElem? (i := 1130) (by decide +kernel), List.mem_of_getElem? (i := 1657) (by decide +kernel), List.mem_of_getElem? (i := 1658) (by decide +kernel)⟩
theorem lw_p79 : lw_okq (⟨"EachBringsAnotherModel", "isThere", "(I)Z"⟩, 60) := ⟨⟨by decide +kernel, by decide +kernel⟩, List.mem_of_getElem? (i := 1130) (by decide +kernel), List.mem_of_getElem? (i := 1665) (by decide +kernel), List.mem_of_getElem? (i := 1666) (by decide +kernel)⟩
def lw_privs_5 : List (MethodName × Nat) := [(⟨"EachBringsAnotherModel", "guestsIn", "(I)I"⟩, 60), (⟨"EachBringsAnotherModel", "findWeek", "(I)Z"⟩, 60), (⟨"EachBringsAnotherModel", "beginWeeks", "()V"⟩, 60), (⟨"EachBringsAnotherModel", "goOneWeek", "()V"⟩, 60), (⟨"EachBringsAnotherModel", "costOf", "(II)I"⟩, 60), (⟨"EachBringsAnotherModel", "strangersIn", "(I)I"⟩, 60), (⟨"EachBringsAnotherModel", "leastPaid", "(I)I"⟩, 60), (⟨"EachBringsAnotherModel", "all", "()I"⟩, 60), (⟨"EachBringsAnotherModel", "findLife", "(I)V"⟩, 60), (⟨"EachBringsAnotherModel", "findOrder", "()V"⟩, 60), (⟨"EachBringsAnotherModel", "findNext", "()V"⟩, 60), (⟨"EachBringsAnotherModel", "isNext", "(I)Z"⟩, 60), (⟨"EachBringsAnotherModel", "tellFirst", "()I"⟩, 60), (⟨"EachBringsAnotherModel", "tellPairs", "(III)Z"⟩, 60), (⟨"EachBringsAnotherModel", "canWant", "(IIIII)Z"⟩, 60), (⟨"EachBringsAnotherModel", "isThere", "(I)Z"⟩, 60)]
theorem lw_r5 : ∀ q ∈ lw_privs_5, lw_okq q := List.forall_mem_cons.mpr ⟨lw_p64, List.forall_mem_cons.mpr ⟨lw_p65, List.forall_mem_cons.mpr ⟨lw_p66, List.forall_mem_cons.mpr ⟨lw_p67, List.forall_mem_cons.mpr ⟨lw_p68, List.forall_mem_cons.mpr ⟨lw_p69, List.forall_mem_cons.mpr ⟨lw_p70, List.forall_mem_cons.mpr ⟨lw_p71, List.forall_mem_cons.mpr ⟨lw_p72, List.forall_mem_cons.mpr ⟨lw_p73, List.forall_mem_cons.mpr ⟨lw_p74, List.forall_mem_cons.mpr ⟨lw_p75, List.forall_mem_cons.mpr ⟨lw_p76, List.forall_mem_cons.mpr ⟨lw_p77, List.forall_mem_cons.mpr ⟨lw_p78, List.forall_mem_cons.mpr ⟨lw_p79, fun _ h => absurd h List.not_mem_nil⟩⟩⟩⟩⟩⟩⟩⟩⟩⟩⟩⟩⟩⟩⟩⟩
theorem lw_p80 : lw_okq (⟨"EachBringsAnotherModel", "lastWith", "(I)I"⟩, 60) := ⟨⟨by decide +kernel, by decide +kernel⟩, List.mem_of_getElem? (i := 1130) (by decide +kernel), List.mem_of_getElem? (i := 1673) (by decide +kernel), List.mem_of_getElem? (i := 1674) (by decide +kernel)⟩
theorem lw_p81 : lw_okq (⟨"EachBringsAnotherModel", "depthUnder", "(I)I"⟩, 60) := ⟨⟨by decide +kernel, by decide +kernel⟩, List.mem_of_getElem? (i := 1130) (by decide +kernel), List.mem_of_getElem? (i := 1701) (by decide +kernel), List.mem_of_getElem? (i := 1702) (by decide +kernel)⟩
theorem lw_p82 : lw_okq (⟨"EachBringsAnotherModel", "ledBy", "(I)I"⟩, 60) := ⟨⟨by decide +kernel, by decide +kernel⟩, List.mem_of_getElem? (i := 1130) (by decide +kernel), List.mem_of_getElem? (i := 1705) (by decide +kernel), List.mem_of_getElem? (i := 1706) (by decide +kernel)⟩
def lw_privs_6 : List (MethodName × Nat) := [(⟨"EachBringsAnotherModel", "lastWith", "(I)I"⟩, 60), (⟨"EachBringsAnotherModel", "depthUnder", "(I)I"⟩, 60), (⟨"EachBringsAnotherModel", "ledBy", "(I)I"⟩, 60)]
theorem lw_r6 : ∀ q ∈ lw_privs_6, lw_okq q := List.forall_mem_cons.mpr ⟨lw_p80, List.forall_mem_cons.mpr ⟨lw_p81, List.forall_mem_cons.mpr ⟨lw_p82, fun _ h => absurd h List.not_mem_nil⟩⟩⟩
def lw_privs : List (MethodName × Nat) := lw_privs_1 ++ (lw_privs_2 ++ (lw_privs_3 ++ (lw_privs_4 ++ (lw_privs_5 ++ (lw_privs_6)))))
def lw_tbl : List Cond := k2_sels lw_privs ++ tables_1
theorem lw_privs_ok : ∀ q ∈ lw_privs, lw_okq q := by
  show ∀ q ∈ lw_privs_1 ++ (lw_privs_2 ++ (lw_privs_3 ++ (lw_privs_4 ++ (lw_privs_5 ++ (lw_privs_6))))), lw_okq q
  exact List.forall_mem_append.mpr ⟨lw_r1, List.forall_mem_append.mpr ⟨lw_r2, List.forall_mem_append.mpr ⟨lw_r3, List.forall_mem_append.mpr ⟨lw_r4, List.forall_mem_append.mpr ⟨lw_r5, lw_r6⟩⟩⟩⟩⟩
-- ===== end of PART A; then your names; then what follows =====
/-! THE CLAIM OUT OF ONE WALK OF THE LAW'S BODY. Your part is whole_start (and what it stands on); all else here is the same for every law, but numbers. -/
def R_law : String := "EachBringsAnotherLaw"
def lw_P (b : Addr) (xs : List Int32) (args : Array Value) (s : State) : Prop := args = #[.ref b] ∧ s.IntsAt b xs ∧ xs.length ≤ 5 ∧ (Jvm.Cond.and given_1 narrow_1).before args s = true
def lw_Q (_ : Array Value) (s : State) (o : Outcome) (t : State) : Prop := o = .returned (some (.int 1)) ∧ Framed s o t [] 600002 7302232
def lw_Z (below : List Frame) (a : Array Value) (s : State) : State → Prop := fun t => ∃ o, t.status = .running ∧ Ended t below o ∧ lw_Q a s o t
/-- the law's own end, with 1 on the stack, nothing written that was there before, its room as the claim has it -/
theorem lw_ret {p : Program} {l : Launch} {e : Env} {s : State} {m : MethodId} {below : List Frame} {meth : Method} {c : Code} {b : Nat} (hx : p.tables.exec = Jvm.exec) (hb : c.code = code) (hr : meth.sig.returnType = ret) (hlocks : meth.locks = false) {pc : Nat} {H : Heap} {ls : Array Slot} (hdg : decode code pc = .ok (.ireturn, 1)) : W p l e room_1 s m #[Value.ref b] below meth c H [] 600002 7302232 (lw_Z below #[Value.ref b] s) (F0 m pc ls [.int 1]) := by
  intro T hT X
  obtain ⟨fs, hret, hrun, hended, hW, hframe⟩ := X.leave (v := some (.int 1)) (hlocks := hlocks) (fun h => by rw [hr] at h; cases h)
  have hmeth' : T.vm.method? m = some meth := X.method'
  refine ⟨T.setFrames fs, ?_, .returned (some (.int 1)), hrun, hended, rfl, ⟨_, rfl⟩, hW, hframe⟩
  jvm_step X.here [X.here.top, hx, hb, hdg, hmeth', hr, ret, narrow_b1]
  (try refine ⟨rfl, ?_⟩); (try refine ⟨rfl, ?_⟩)
  first | (intro acts; rw [hret _ acts rfl rfl rfl]) | rw [hret _ _ rfl rfl rfl]
  exact Steps.refl _
/-- what holds at the law's entry: the machine, the code, the tables' words (any of lw_tbl by 'hts w (by decide +kernel)'), the script of L ints xs at the cell b, what the Statement gives of the start (any of its parts by flat_of_before) -/
def lw_At (p : Program) (s : State) (m : MethodId) (meth : Method) (c : Code) (b L : Nat) (xs : Nat → Int32) : Prop :=
  p.tables.exec = Jvm.exec ∧ c.code = code ∧ meth.sig.returnType = ret ∧ c.maxLocals = 7 ∧ s.vm.findClass R_law = some m.cls ∧ (∀ w ∈ lw_tbl, w.before #[Value.ref b] s = true) ∧ va_X b L xs s s.heap ∧ b < s.heap.size ∧ meth.locks = false ∧ (Jvm.Cond.and given_1 narrow_1).before #[Value.ref b] s = true
-- ===== YOUR PART BEGINS =====
end
section
def FN0 : List (String × String × String × Bool) := [("EachBringsAnother$Text", "signs", "[C", true), ("EachBringsAnother$Text", "length", "I", false)]
def TN0 : u_T := fun k => FN0.getD k ("", "", "", false)
def TY0 : Nat → FieldType := fun k => ([.array .char, .int] : List FieldType).getD k .int
def FN1 : List (String × String × String × Bool) := [("EachBringsAnother$Numbers", "numbers", "[I", true), ("EachBringsAnother$Numbers", "size", "I", false)]
def TN1 : u_T := fun k => FN1.getD k ("", "", "", false)
def TY1 : Nat → FieldType := fun k => ([.array .int, .int] : List FieldType).getD k .int
def FN2 : List (String × String × String × Bool) := [("EachBringsAnother$Folk", "price", "[I", true), ("EachBringsAnother$Folk", "knows", "[I", true), ("EachBringsAnother$Folk", "brought", "[I", true), ("EachBringsAnother$Folk", "size", "I", false), ("EachBringsAnother$Folk", "who", "I", false), ("EachBringsAnother$Folk", "hidden", "I", false), ("EachBringsAnother$Folk", "paid", "I", false), ("EachBringsAnother$Folk", "grace", "I", false), ("EachBringsAnother$Folk", "seats", "I", false)]
def TN2 : u_T := fun k => FN2.getD k ("", "", "", false)
def TY2 : Nat → FieldType := fun k => ([.array .int, .array .int, .array .int, .int, .int, .int, .int, .int, .int] : List FieldType).getD k .int
def FN3 : List (String × String × String × Bool) := [("EachBringsAnother$Lines", "price", "[I", true), ("EachBringsAnother$Lines", "knows", "[I", true), ("EachBringsAnother$Lines", "guests", "I", false), ("EachBringsAnother$Lines", "hidden", "I", false), ("EachBringsAnother$Lines", "size", "I", false), ("EachBringsAnother$Lines", "at", "I", false)]
def TN3 : u_T := fun k => FN3.getD k ("", "", "", false)
def TY3 : Nat → FieldType := fun k => ([.array .int, .array .int, .int, .int, .int, .int] : List FieldType).getD k .int
def FN4 : List (String × String × String × Bool) := [("EachBringsAnother$Plan", "bringers", "[I", true), ("EachBringsAnother$Plan", "brought", "[I", true), ("EachBringsAnother$Plan", "size", "I", false), ("EachBringsAnother$Plan", "movers", "I", false)]
def TN4 : u_T := fun k => FN4.getD k ("", "", "", false)
def TY4 : Nat → FieldType := fun k => ([.array .int, .array .int, .int, .int] : List FieldType).getD k .int
def FN5 : List (String × String × String × Bool) := [("EachBringsAnother$Diary", "guests", "[I", true), ("EachBringsAnother$Diary", "whoAhead", "[I", true), ("EachBringsAnother$Diary", "paidAhead", "[I", true), ("EachBringsAnother$Diary", "weeks", "I", false), ("EachBringsAnother$Diary", "undoable", "I", false)]
def TN5 : u_T := fun k => FN5.getD k ("", "", "", false)
def TY5 : Nat → FieldType := fun k => ([.array .int, .array .int, .array .int, .int, .int] : List FieldType).getD k .int
def FN6 : List (String × String × String × Bool) := [("EachBringsAnother$Kept", "brought", "[I", true), ("EachBringsAnother$Kept", "guests", "[I", true), ("EachBringsAnother$Kept", "is", "Z", false), ("EachBringsAnother$Kept", "size", "I", false), ("EachBringsAnother$Kept", "who", "I", false), ("EachBringsAnother$Kept", "hidden", "I", false), ("EachBringsAnother$Kept", "paid", "I", false), ("EachBringsAnother$Kept", "grace", "I", false), ("EachBringsAnother$Kept", "seats", "I", false), ("EachBringsAnother$Kept", "weeks", "I", false)]
def TN6 : u_T := fun k => FN6.getD k ("", "", "", false)
def TY6 : Nat → FieldType := fun k => ([.array .int, .array .int, .boolean, .int, .int, .int, .int, .int, .int, .int] : List FieldType).getD k .int
def FN7 : List (String × String × String × Bool) := [("EachBringsAnother$Wish", "code", "[I", true), ("EachBringsAnother$Wish", "draft", "[I", true), ("EachBringsAnother$Wish", "waiting", "[I", true), ("EachBringsAnother$Wish", "stack", "[I", true), ("EachBringsAnother$Wish", "length", "I", false), ("EachBringsAnother$Wish", "drafted", "I", false), ("EachBringsAnother$Wish", "waits", "I", false), ("EachBringsAnother$Wish", "deep", "I", false), ("EachBringsAnother$Wish", "digits", "I", false), ("EachBringsAnother$Wish", "compared", "I", false), ("EachBringsAnother$Wish", "wantsThing", "Z", false)]
def TN7 : u_T := fun k => FN7.getD k ("", "", "", false)
def TY7 : Nat → FieldType := fun k => ([.array .int, .array .int, .array .int, .array .int, .int, .int, .int, .int, .int, .int, .boolean] : List FieldType).getD k .int
def FN8 : List (String × String × String × Bool) := [("EachBringsAnother$Moves", "movers", "[I", true), ("EachBringsAnother$Moves", "parent", "[I", true), ("EachBringsAnother$Moves", "seen", "[I", true), ("EachBringsAnother$Moves", "size", "I", false), ("EachBringsAnother$Moves", "round", "I", false), ("EachBringsAnother$Moves", "folk", "LEachBringsAnother$Folk;", false), ("EachBringsAnother$Moves", "bringers", "I", false), ("EachBringsAnother$Moves", "free", "I", false), ("EachBringsAnother$Moves", "stay", "I", false), ("EachBringsAnother$Moves", "seats", "I", false)]
def TN8 : u_T := fun k => FN8.getD k ("", "", "", false)
def TY8 : Nat → FieldType := fun k => ([.array .int, .array .int, .array .int, .int, .int, .object "EachBringsAnother$Folk", .int, .int, .int, .int] : List FieldType).getD k .int
def FN9 : List (String × String × String × Bool) := [("EachBringsAnother$Search", "slots", "[I", true), ("EachBringsAnother$Search", "states", "[I", true), ("EachBringsAnother$Search", "when", "[J", true), ("EachBringsAnother$Search", "left", "[J", true), ("EachBringsAnother$Search", "behind", "[I", true), ("EachBringsAnother$Search", "firstOfRank", "[I", true), ("EachBringsAnother$Search", "order", "[I", true), ("EachBringsAnother$Search", "size", "I", false), ("EachBringsAnother$Search", "done", "I", false), ("EachBringsAnother$Search", "fresh", "Z", false), ("EachBringsAnother$Search", "tooMany", "Z", false)]
def TN9 : u_T := fun k => FN9.getD k ("", "", "", false)
def TY9 : Nat → FieldType := fun k => ([.array .int, .array .int, .array .long, .array .long, .array .int, .array .int, .array .int, .int, .int, .boolean, .boolean] : List FieldType).getD k .int
def FN10 : List (String × String × String × Bool) := [("EachBringsAnother", "text", "LEachBringsAnother$Text;", true), ("EachBringsAnother", "told", "LEachBringsAnother$Numbers;", true), ("EachBringsAnother", "folk", "LEachBringsAnother$Folk;", true), ("EachBringsAnother", "lines", "LEachBringsAnother$Lines;", true), ("EachBringsAnother", "plan", "LEachBringsAnother$Plan;", true), ("EachBringsAnother", "diary", "LEachBringsAnother$Diary;", true), ("EachBringsAnother", "wish", "LEachBringsAnother$Wish;", true), ("EachBringsAnother", "moves", "LEachBringsAnother$Moves;", true), ("EachBringsAnother", "search", "LEachBringsAnother$Search;", true), ("EachBringsAnother", "kept", "[LEachBringsAnother$Kept;", true)]
def TN10 : u_T := fun k => FN10.getD k ("", "", "", false)
def TY10 : Nat → FieldType := fun k => ([.object "EachBringsAnother$Text", .object "EachBringsAnother$Numbers", .object "EachBringsAnother$Folk", .object "EachBringsAnother$Lines", .object "EachBringsAnother$Plan", .object "EachBringsAnother$Diary", .object "EachBringsAnother$Wish", .object "EachBringsAnother$Moves", .object "EachBringsAnother$Search", .array (.object "EachBringsAnother$Kept")] : List FieldType).getD k .int
def FN11 : List (String × String × String × Bool) := [("EachBringsAnotherModel", "people", "I", false), ("EachBringsAnotherModel", "price", "[I", true), ("EachBringsAnotherModel", "knows", "[I", true), ("EachBringsAnotherModel", "isHidden", "[Z", true), ("EachBringsAnotherModel", "is", "[I", true), ("EachBringsAnotherModel", "broughtBy", "[I", true), ("EachBringsAnotherModel", "firstWeek", "[I", true), ("EachBringsAnotherModel", "paid", "I", false), ("EachBringsAnotherModel", "weeks", "I", false), ("EachBringsAnotherModel", "were", "[I", true), ("EachBringsAnotherModel", "grace", "I", false), ("EachBringsAnotherModel", "seats", "I", false), ("EachBringsAnotherModel", "text", "[B", true), ("EachBringsAnotherModel", "typed", "I", false), ("EachBringsAnotherModel", "row", "[I", true), ("EachBringsAnotherModel", "rowMany", "I", false), ("EachBringsAnotherModel", "thrown", "I", false), ("EachBringsAnotherModel", "read", "[B", false), ("EachBringsAnotherModel", "size", "I", false), ("EachBringsAnotherModel", "top", "I", false), ("EachBringsAnotherModel", "at", "I", false), ("EachBringsAnotherModel", "wrong", "I", false), ("EachBringsAnotherModel", "newPrice", "[I", true), ("EachBringsAnotherModel", "newKnows", "[I", true), ("EachBringsAnotherModel", "newIs", "[I", true), ("EachBringsAnotherModel", "newHidden", "[Z", true), ("EachBringsAnotherModel", "rule", "[B", true), ("EachBringsAnotherModel", "ruleSize", "I", false), ("EachBringsAnotherModel", "askedOne", "I", false), ("EachBringsAnotherModel", "askedBy", "I", false), ("EachBringsAnotherModel", "brings", "[I", true), ("EachBringsAnotherModel", "undos", "[I", true), ("EachBringsAnotherModel", "undoMany", "I", false), ("EachBringsAnotherModel", "pairBy", "[I", true), ("EachBringsAnotherModel", "pairWho", "[I", true), ("EachBringsAnotherModel", "mostPairs", "[I", true), ("EachBringsAnotherModel", "stateIn", "[I", true), ("EachBringsAnotherModel", "edgeFrom", "[I", true), ("EachBringsAnotherModel", "edges", "[I", true), ("EachBringsAnotherModel", "seenBy", "[I", true), ("EachBringsAnotherModel", "states", "I", false), ("EachBringsAnotherModel", "edgeMany", "I", false), ("EachBringsAnotherModel", "table", "[I", true), ("EachBringsAnotherModel", "now", "[I", true), ("EachBringsAnotherModel", "noMore", "I", false), ("EachBringsAnotherModel", "paidTo", "[I", true), ("EachBringsAnotherModel", "paidThen", "[I", true), ("EachBringsAnotherModel", "life", "[I", true), ("EachBringsAnotherModel", "order", "[I", true), ("EachBringsAnotherModel", "left", "[I", true), ("EachBringsAnotherModel", "isWanted", "[Z", true), ("EachBringsAnotherModel", "pairRow", "[I", true), ("EachBringsAnotherModel", "pairMany", "I", false), ("EachBringsAnotherModel", "nextOf", "[Z", true), ("EachBringsAnotherModel", "least", "[I", true), ("EachBringsAnotherModel", "steps", "[I", true), ("EachBringsAnotherModel", "came", "I", false), ("EachBringsAnotherModel", "kept", "[I", true), ("EachBringsAnotherModel", "isKept", "[Z", true), ("EachBringsAnotherModel", "keptCame", "[I", true)]
def TN11 : u_T := fun k => FN11.getD k ("", "", "", false)
def TY11 : Nat → FieldType := fun k => ([.int, .array .int, .array .int, .array .boolean, .array .int, .array .int, .array .int, .int, .int, .array .int, .int, .int, .array .byte, .int, .array .int, .int, .int, .array .byte, .int, .int, .int, .int, .array .int, .array .int, .array .int, .array .boolean, .array .byte, .int, .int, .int, .array .int, .array .int, .int, .array .int, .array .int, .array .int, .array .int, .array .int, .array .int, .array .int, .int, .int, .array .int, .array .int, .int, .array .int, .array .int, .array .int, .array .int, .array .int, .array .boolean, .array .int, .int, .array .boolean, .array .int, .array .int, .int, .array .int, .array .boolean, .array .int] : List FieldType).getD k .int
def cl : List vw_C := [("EachBringsAnother$Text", TN0, 2), ("EachBringsAnother$Numbers", TN1, 2), ("EachBringsAnother$Folk", TN2, 9), ("EachBringsAnother$Lines", TN3, 6), ("EachBringsAnother$Plan", TN4, 4), ("EachBringsAnother$Diary", TN5, 5), ("EachBringsAnother$Kept", TN6, 10), ("EachBringsAnother$Wish", TN7, 11), ("EachBringsAnother$Moves", TN8, 10), ("EachBringsAnother$Search", TN9, 11), ("EachBringsAnother", TN10, 10), ("EachBringsAnotherModel", TN11, 60)]
def tyL : List (Nat → FieldType) := [TY0, TY1, TY2, TY3, TY4, TY5, TY6, TY7, TY8, TY9, TY10, TY11]
def gw_tbl : List Cond := lw_tbl.filter goodWord
theorem mem_g {w : Cond} (i : Nat) (h : lw_tbl[i]? = some w) (hg : goodWord w = true) : w ∈ gw_tbl := List.mem_filter.mpr ⟨List.mem_of_getElem? h, hg⟩
theorem gw_good : ∀ w ∈ gw_tbl, w ∈ lw_tbl ∧ ((w.onTables && w.keeps) = true ∨ ∃ ty, w = .arrayClass ty) := fun w h => ⟨(List.mem_filter.mp h).1, good_of_word (List.mem_filter.mp h).2⟩
def isNest : Cond → Bool
  | .fieldLinkNest _ _ _ _ _ _ => true
  | .methodLinkNest _ _ _ _ => true
  | .castable _ _ => true
  | .declares _ => true
  | _ => false
def nw_tbl : List Cond := lw_tbl.filter isNest
theorem mem_n {w : Cond} (i : Nat) (h : lw_tbl[i]? = some w) (hg : isNest w = true) : w ∈ nw_tbl := List.mem_filter.mpr ⟨List.mem_of_getElem? h, hg⟩
/-- the cells of the world, in the order of their making: an object (its class' number; of each field kind, and what a final reference holds: the cell + 1), an array (kind of elements, length, what fixed references hold) -/
def shL : List ((Nat × List (Nat × Nat)) ⊕ (Nat × Nat × List Nat)) := [.inl (10, [(3, 2), (3, 4), (3, 6), (3, 10), (3, 13), (3, 16), (3, 20), (3, 25), (3, 29), (3, 37)]), .inl (0, [(3, 3), (0, 0)]), .inr (5, 80, []), .inl (1, [(3, 5), (0, 0)]), .inr (0, 20, []), .inl (2, [(3, 7), (3, 8), (3, 9), (0, 0), (0, 0), (0, 0), (0, 0), (0, 0), (0, 0)]), .inr (0, 10, []), .inr (0, 10, []), .inr (0, 10, []), .inl (3, [(3, 11), (3, 12), (0, 0), (0, 0), (0, 0), (0, 0)]), .inr (0, 10, []), .inr (0, 10, []), .inl (4, [(3, 14), (3, 15), (0, 0), (0, 0)]), .inr (0, 10, []), .inr (0, 10, []), .inl (5, [(3, 17), (3, 18), (3, 19), (0, 0), (0, 0)]), .inr (0, 61, []), .inr (0, 61, []), .inr (0, 61, []), .inl (7, [(3, 21), (3, 22), (3, 23), (3, 24), (0, 0), (0, 0), (0, 0), (0, 0), (0, 0), (0, 0), (4, 0)]), .inr (0, 40, []), .inr (0, 40, []), .inr (0, 40, []), .inr (0, 40, []), .inl (8, [(3, 26), (3, 27), (3, 28), (0, 0), (0, 0), (2, 0), (0, 0), (0, 0), (0, 0), (0, 0)]), .inr (0, 256, []), .inr (0, 256, []), .inr (0, 1024, []), .inl (9, [(3, 30), (3, 31), (3, 32), (3, 33), (3, 34), (3, 35), (3, 36), (0, 0), (0, 0), (4, 0), (4, 0)]), .inr (0, 8192, []), .inr (0, 3000, []), .inr (1, 3000, []), .inr (1, 3000, []), .inr (0, 3000, []), .inr (0, 451, []), .inr (0, 3000, []), .inr (2, 2, [38, 41]), .inl (6, [(3, 39), (3, 40), (4, 0), (0, 0), (0, 0), (0, 0), (0, 0), (0, 0), (0, 0), (0, 0)]), .inr (0, 10, []), .inr (0, 61, []), .inl (6, [(3, 42), (3, 43), (4, 0), (0, 0), (0, 0), (0, 0), (0, 0), (0, 0), (0, 0), (0, 0)]), .inr (0, 10, []), .inr (0, 61, []), .inl (11, [(0, 0), (3, 45), (3, 46), (3, 47), (3, 48), (3, 49), (3, 50), (0, 0), (0, 0), (3, 51), (0, 0), (0, 0), (3, 52), (0, 0), (3, 53), (0, 0), (0, 0), (2, 0), (0, 0), (0, 0), (0, 0), (0, 0), (3, 54), (3, 55), (3, 56), (3, 57), (3, 58), (0, 0), (0, 0), (0, 0), (3, 59), (3, 60), (0, 0), (3, 61), (3, 62), (3, 63), (3, 64), (3, 65), (3, 66), (3, 67), (0, 0), (0, 0), (3, 68), (3, 69), (0, 0), (3, 70), (3, 71), (3, 72), (3, 73), (3, 74), (3, 75), (3, 76), (0, 0), (3, 77), (3, 78), (3, 79), (0, 0), (3, 80), (3, 81), (3, 82)]), .inr (0, 10, []), .inr (0, 10, []), .inr (4, 10, []), .inr (0, 10, []), .inr (0, 10, []), .inr (0, 10, []), .inr (0, 61, []), .inr (3, 80, []), .inr (0, 16, []), .inr (0, 10, []), .inr (0, 10, []), .inr (0, 10, []), .inr (4, 10, []), .inr (3, 40, []), .inr (0, 10, []), .inr (0, 1860, []), .inr (0, 40, []), .inr (0, 40, []), .inr (0, 11264, []), .inr (0, 3000, []), .inr (0, 3001, []), .inr (0, 756000, []), .inr (0, 3000, []), .inr (0, 8192, []), .inr (0, 10, []), .inr (0, 3000, []), .inr (0, 3000, []), .inr (0, 3000, []), .inr (0, 3000, []), .inr (0, 3000, []), .inr (4, 3000, []), .inr (0, 10, []), .inr (4, 3000, []), .inr (0, 135000, []), .inr (0, 10, []), .inr (0, 210, []), .inr (4, 2, []), .inr (0, 2, []), .inr (1, 1, [])]
def NF : Nat := 83
theorem cw0 : ∀ w ∈ u_ws "EachBringsAnother$Text" TN0 2, w ∈ gw_tbl := by
  have h : u_ws "EachBringsAnother$Text" TN0 2 = ([125, 127] : List Nat).filterMap (fun i => lw_tbl[i]?) ∧ (u_ws "EachBringsAnother$Text" TN0 2).all goodWord = true := by decide +kernel
  exact fun w hw => List.mem_filter.mpr ⟨by rw [h.1] at hw; obtain ⟨i, -, hi⟩ := List.mem_filterMap.mp hw; exact List.mem_of_getElem? hi, List.all_eq_true.mp h.2 w hw⟩
theorem ct0 : ∀ k, k < 2 → parseFieldDescriptor (TN0 k).2.2.1 = some (TY0 k) := by decide +kernel
theorem cn0 : ∀ a, a < 2 → ∀ b, b < 2 → a ≠ b → (TN0 a).2.1 ≠ (TN0 b).2.1 := by decide +kernel
theorem cw1 : ∀ w ∈ u_ws "EachBringsAnother$Numbers" TN1 2, w ∈ gw_tbl := by
  have h : u_ws "EachBringsAnother$Numbers" TN1 2 = ([140, 142] : List Nat).filterMap (fun i => lw_tbl[i]?) ∧ (u_ws "EachBringsAnother$Numbers" TN1 2).all goodWord = true := by decide +kernel
  exact fun w hw => List.mem_filter.mpr ⟨by rw [h.1] at hw; obtain ⟨i, -, hi⟩ := List.mem_filterMap.mp hw; exact List.mem_of_getElem? hi, List.all_eq_true.mp h.2 w hw⟩
theorem ct1 : ∀ k, k < 2 → parseFieldDescriptor (TN1 k).2.2.1 = some (TY1 k) := by decide +kernel
theorem cn1 : ∀ a, a < 2 → ∀ b, b < 2 → a ≠ b → (TN1 a).2.1 ≠ (TN1 b).2.1 := by decide +kernel
theorem cw2 : ∀ w ∈ u_ws "EachBringsAnother$Folk" TN2 9, w ∈ gw_tbl := by
  have h : u_ws "EachBringsAnother$Folk" TN2 9 = ([196, 198, 200, 202, 204, 206, 208, 210, 212] : List Nat).filterMap (fun i => lw_tbl[i]?) ∧ (u_ws "EachBringsAnother$Folk" TN2 9).all goodWord = true := by decide +kernel
  exact fun w hw => List.mem_filter.mpr ⟨by rw [h.1] at hw; obtain ⟨i, -, hi⟩ := List.mem_filterMap.mp hw; exact List.mem_of_getElem? hi, List.all_eq_true.mp h.2 w hw⟩
theorem ct2 : ∀ k, k < 9 → parseFieldDescriptor (TN2 k).2.2.1 = some (TY2 k) := by decide +kernel
theorem cn2 : ∀ a, a < 9 → ∀ b, b < 9 → a ≠ b → (TN2 a).2.1 ≠ (TN2 b).2.1 := by decide +kernel
theorem cw3 : ∀ w ∈ u_ws "EachBringsAnother$Lines" TN3 6, w ∈ gw_tbl := by
  have h : u_ws "EachBringsAnother$Lines" TN3 6 = ([227, 229, 231, 233, 235, 237] : List Nat).filterMap (fun i => lw_tbl[i]?) ∧ (u_ws "EachBringsAnother$Lines" TN3 6).all goodWord = true := by decide +kernel
  exact fun w hw => List.mem_filter.mpr ⟨by rw [h.1] at hw; obtain ⟨i, -, hi⟩ := List.mem_filterMap.mp hw; exact List.mem_of_getElem? hi, List.all_eq_true.mp h.2 w hw⟩
theorem ct3 : ∀ k, k < 6 → parseFieldDescriptor (TN3 k).2.2.1 = some (TY3 k) := by decide +kernel
theorem cn3 : ∀ a, a < 6 → ∀ b, b < 6 → a ≠ b → (TN3 a).2.1 ≠ (TN3 b).2.1 := by decide +kernel
theorem cw4 : ∀ w ∈ u_ws "EachBringsAnother$Plan" TN4 4, w ∈ gw_tbl := by
  have h : u_ws "EachBringsAnother$Plan" TN4 4 = ([252, 254, 256, 258] : List Nat).filterMap (fun i => lw_tbl[i]?) ∧ (u_ws "EachBringsAnother$Plan" TN4 4).all goodWord = true := by decide +kernel
  exact fun w hw => List.mem_filter.mpr ⟨by rw [h.1] at hw; obtain ⟨i, -, hi⟩ := List.mem_filterMap.mp hw; exact List.mem_of_getElem? hi, List.all_eq_true.mp h.2 w hw⟩
theorem ct4 : ∀ k, k < 4 → parseFieldDescriptor (TN4 k).2.2.1 = some (TY4 k) := by decide +kernel
theorem cn4 : ∀ a, a < 4 → ∀ b, b < 4 → a ≠ b → (TN4 a).2.1 ≠ (TN4 b).2.1 := by decide +kernel
theorem cw5 : ∀ w ∈ u_ws "EachBringsAnother$Diary" TN5 5, w ∈ gw_tbl := by
  have h : u_ws "EachBringsAnother$Diary" TN5 5 = ([277, 279, 281, 283, 285] : List Nat).filterMap (fun i => lw_tbl[i]?) ∧ (u_ws "EachBringsAnother$Diary" TN5 5).all goodWord = true := by decide +kernel
  exact fun w hw => List.mem_filter.mpr ⟨by rw [h.1] at hw; obtain ⟨i, -, hi⟩ := List.mem_filterMap.mp hw; exact List.mem_of_getElem? hi, List.all_eq_true.mp h.2 w hw⟩
theorem ct5 : ∀ k, k < 5 → parseFieldDescriptor (TN5 k).2.2.1 = some (TY5 k) := by decide +kernel
theorem cn5 : ∀ a, a < 5 → ∀ b, b < 5 → a ≠ b → (TN5 a).2.1 ≠ (TN5 b).2.1 := by decide +kernel
theorem cw6 : ∀ w ∈ u_ws "EachBringsAnother$Kept" TN6 10, w ∈ gw_tbl := by
  have h : u_ws "EachBringsAnother$Kept" TN6 10 = ([426, 428, 430, 432, 434, 436, 438, 440, 442, 444] : List Nat).filterMap (fun i => lw_tbl[i]?) ∧ (u_ws "EachBringsAnother$Kept" TN6 10).all goodWord = true := by decide +kernel
  exact fun w hw => List.mem_filter.mpr ⟨by rw [h.1] at hw; obtain ⟨i, -, hi⟩ := List.mem_filterMap.mp hw; exact List.mem_of_getElem? hi, List.all_eq_true.mp h.2 w hw⟩
theorem ct6 : ∀ k, k < 10 → parseFieldDescriptor (TN6 k).2.2.1 = some (TY6 k) := by decide +kernel
theorem cn6 : ∀ a, a < 10 → ∀ b, b < 10 → a ≠ b → (TN6 a).2.1 ≠ (TN6 b).2.1 := by decide +kernel
theorem cw7 : ∀ w ∈ u_ws "EachBringsAnother$Wish" TN7 11, w ∈ gw_tbl := by
  have h : u_ws "EachBringsAnother$Wish" TN7 11 = ([305, 307, 309, 311, 313, 315, 317, 319, 321, 323, 325] : List Nat).filterMap (fun i => lw_tbl[i]?) ∧ (u_ws "EachBringsAnother$Wish" TN7 11).all goodWord = true := by decide +kernel
  exact fun w hw => List.mem_filter.mpr ⟨by rw [h.1] at hw; obtain ⟨i, -, hi⟩ := List.mem_filterMap.mp hw; exact List.mem_of_getElem? hi, List.all_eq_true.mp h.2 w hw⟩
theorem ct7 : ∀ k, k < 11 → parseFieldDescriptor (TN7 k).2.2.1 = some (TY7 k) := by decide +kernel
theorem cn7 : ∀ a, a < 11 → ∀ b, b < 11 → a ≠ b → (TN7 a).2.1 ≠ (TN7 b).2.1 := by decide +kernel
theorem cw8 : ∀ w ∈ u_ws "EachBringsAnother$Moves" TN8 10, w ∈ gw_tbl := by
  have h : u_ws "EachBringsAnother$Moves" TN8 10 = ([346, 348, 350, 352, 354, 356, 358, 360, 362, 364] : List Nat).filterMap (fun i => lw_tbl[i]?) ∧ (u_ws "EachBringsAnother$Moves" TN8 10).all goodWord = true := by decide +kernel
  exact fun w hw => List.mem_filter.mpr ⟨by rw [h.1] at hw; obtain ⟨i, -, hi⟩ := List.mem_filterMap.mp hw; exact List.mem_of_getElem? hi, List.all_eq_true.mp h.2 w hw⟩
theorem ct8 : ∀ k, k < 10 → parseFieldDescriptor (TN8 k).2.2.1 = some (TY8 k) := by decide +kernel
theorem cn8 : ∀ a, a < 10 → ∀ b, b < 10 → a ≠ b → (TN8 a).2.1 ≠ (TN8 b).2.1 := by decide +kernel
theorem cw9 : ∀ w ∈ u_ws "EachBringsAnother$Search" TN9 11, w ∈ gw_tbl := by
  have h : u_ws "EachBringsAnother$Search" TN9 11 = ([385, 387, 389, 391, 393, 395, 397, 399, 401, 403, 405] : List Nat).filterMap (fun i => lw_tbl[i]?) ∧ (u_ws "EachBringsAnother$Search" TN9 11).all goodWord = true := by decide +kernel
  exact fun w hw => List.mem_filter.mpr ⟨by rw [h.1] at hw; obtain ⟨i, -, hi⟩ := List.mem_filterMap.mp hw; exact List.mem_of_getElem? hi, List.all_eq_true.mp h.2 w hw⟩
theorem ct9 : ∀ k, k < 11 → parseFieldDescriptor (TN9 k).2.2.1 = some (TY9 k) := by decide +kernel
theorem cn9 : ∀ a, a < 11 → ∀ b, b < 11 → a ≠ b → (TN9 a).2.1 ≠ (TN9 b).2.1 := by decide +kernel
theorem cw10 : ∀ w ∈ u_ws "EachBringsAnother" TN10 10, w ∈ gw_tbl := by
  have h : u_ws "EachBringsAnother" TN10 10 = ([457, 459, 461, 463, 465, 467, 469, 471, 473, 475] : List Nat).filterMap (fun i => lw_tbl[i]?) ∧ (u_ws "EachBringsAnother" TN10 10).all goodWord = true := by decide +kernel
  exact fun w hw => List.mem_filter.mpr ⟨by rw [h.1] at hw; obtain ⟨i, -, hi⟩ := List.mem_filterMap.mp hw; exact List.mem_of_getElem? hi, List.all_eq_true.mp h.2 w hw⟩
theorem ct10 : ∀ k, k < 10 → parseFieldDescriptor (TN10 k).2.2.1 = some (TY10 k) := by decide +kernel
theorem cn10 : ∀ a, a < 10 → ∀ b, b < 10 → a ≠ b → (TN10 a).2.1 ≠ (TN10 b).2.1 := by decide +kernel
theorem cw11 : ∀ w ∈ u_ws "EachBringsAnotherModel" TN11 60, w ∈ gw_tbl := by
  have h : u_ws "EachBringsAnotherModel" TN11 60 = ([1280, 1282, 1284, 1286, 1288, 1290, 1292, 1294, 1296, 1298, 1300, 1302, 1304, 1306, 1308, 1310, 1312, 1314, 1316, 1318, 1320, 1322, 1324, 1326, 1328, 1330, 1332, 1334, 1336, 1338, 1340, 1342, 1344, 1346, 1348, 1350, 1352, 1354, 1356, 1358, 1360, 1362, 1364, 1366, 1368, 1370, 1372, 1374, 1376, 1378, 1380, 1382, 1384, 1386, 1388, 1390, 1392, 1394, 1396, 1398] : List Nat).filterMap (fun i => lw_tbl[i]?) ∧ (u_ws "EachBringsAnotherModel" TN11 60).all goodWord = true := by decide +kernel
  exact fun w hw => List.mem_filter.mpr ⟨by rw [h.1] at hw; obtain ⟨i, -, hi⟩ := List.mem_filterMap.mp hw; exact List.mem_of_getElem? hi, List.all_eq_true.mp h.2 w hw⟩
theorem ct11 : ∀ k, k < 60 → parseFieldDescriptor (TN11 k).2.2.1 = some (TY11 k) := by decide +kernel
theorem cn11 : ∀ a, a < 60 → ∀ b, b < 60 → a ≠ b → (TN11 a).2.1 ≠ (TN11 b).2.1 := by decide +kernel
/-- of each class: its words stand in the tables, its fields' types, their names are apart -/
theorem cl_ok : ∀ (i : Nat) (q : vw_C), cl[i]? = some q → (∀ w ∈ u_ws q.1 q.2.1 q.2.2, w ∈ gw_tbl) ∧ (∃ ty : Nat → FieldType, tyL[i]? = some ty ∧ ∀ k, k < q.2.2 → parseFieldDescriptor (q.2.1 k).2.2.1 = some (ty k)) ∧ (∀ a, a < q.2.2 → ∀ b, b < q.2.2 → a ≠ b → (q.2.1 a).2.1 ≠ (q.2.1 b).2.1) := by
  intro i q h
  match i, h with
  | 0, h => cases h; exact ⟨cw0, ⟨_, rfl, ct0⟩, cn0⟩
  | 1, h => cases h; exact ⟨cw1, ⟨_, rfl, ct1⟩, cn1⟩
  | 2, h => cases h; exact ⟨cw2, ⟨_, rfl, ct2⟩, cn2⟩
  | 3, h => cases h; exact ⟨cw3, ⟨_, rfl, ct3⟩, cn3⟩
  | 4, h => cases h; exact ⟨cw4, ⟨_, rfl, ct4⟩, cn4⟩
  | 5, h => cases h; exact ⟨cw5, ⟨_, rfl, ct5⟩, cn5⟩
  | 6, h => cases h; exact ⟨cw6, ⟨_, rfl, ct6⟩, cn6⟩
  | 7, h => cases h; exact ⟨cw7, ⟨_, rfl, ct7⟩, cn7⟩
  | 8, h => cases h; exact ⟨cw8, ⟨_, rfl, ct8⟩, cn8⟩
  | 9, h => cases h; exact ⟨cw9, ⟨_, rfl, ct9⟩, cn9⟩
  | 10, h => cases h; exact ⟨cw10, ⟨_, rfl, ct10⟩, cn10⟩
  | 11, h => cases h; exact ⟨cw11, ⟨_, rfl, ct11⟩, cn11⟩
  | k + 12, h => exact absurd h (by simp [cl])
end
section
/-! THE WORLD AS NUMBERS: a cell and a place in it to an Int; and rows that walk the code beside a plain function of it -/
abbrev jv : Type := Nat × Int
abbrev Wd : Type := Nat → Nat → Int
def rfz (ad : Nat → Nat) (z : Int) : Option Nat := if z ≤ 0 then none else some (ad (z - 1).toNat)
/-- kinds: 0 an int, 1 a long, 2 a reference into the world (0: null, k + 1: the cell k), 3 any address -/
def jc (ad : Nat → Nat) (v : jv) : Value := match v.1 with
  | 0 => .int (Int32.ofInt v.2)
  | 1 => .long (Int64.ofInt v.2)
  | 2 => va_rf (rfz ad v.2)
  | _ => .ref v.2.toNat
def jo (v : jv) : Prop := match v.1 with
  | 0 => -2147483648 ≤ v.2 ∧ v.2 < 2147483648
  | 1 => -9223372036854775808 ≤ v.2 ∧ v.2 < 9223372036854775808
  | _ => 0 ≤ v.2
def jk (fk : Nat) : Nat := match fk with
  | 1 => 1
  | 2 => 2
  | 3 => 2
  | _ => 0
def sh (c : Nat) : Option ((Nat × List (Nat × Nat)) ⊕ (Nat × Nat × List Nat)) := shL[c]?
/-- the kind of a place -/
def jkA (c k : Nat) : Nat := match sh c with
  | some (.inl (_, fs)) => jk (fs.getD k (0, 0)).1
  | some (.inr (1, _, _)) => 1
  | some (.inr (2, _, _)) => 2
  | _ => 0
/-- what a place holds for good, behind the constructors -/
def jpt (c k : Nat) : Option Nat := match sh c with
  | some (.inl (_, fs)) => match fs[k]? with
    | some (3, z) => some z
    | _ => none
  | some (.inr (2, _, ps)) => ps[k]?
  | _ => none
def wok (w : Wd) : Prop := ∀ c k, jo (jkA c k, w c k)
def wpt (w : Wd) : Prop := ∀ c k z, jpt c k = some z → w c k = (z : Int)
def st (w : Wd) (c k : Nat) (z : Int) : Wd := fun c' k' => if c' = c ∧ k' = k then z else w c' k'
theorem st_eq (w : Wd) (c k : Nat) (z : Int) : st w c k z c k = z := by simp [st]
theorem st_c {w : Wd} {c k c' k' : Nat} {z : Int} (h : c' ≠ c) : st w c k z c' k' = w c' k' := by simp [st, h]
theorem st_k {w : Wd} {c k c' k' : Nat} {z : Int} (h : k' ≠ k) : st w c k z c' k' = w c' k' := by simp [st, h]
def jfs (ad : Nat → Nat) (w : Wd) (c : Nat) (fs : List (Nat × Nat)) : List Value := (List.range fs.length).map fun k => jc ad (jk (fs.getD k (0, 0)).1, w c k)
def jar (ad : Nat → Nat) (w : Wd) (c : Nat) (ak n : Nat) : vp_A := (n, match ak with
  | 1 => .inr (.inl fun k => Int64.ofInt (w c k))
  | 2 => .inr (.inr (.inr (.inr fun k => rfz ad (w c k))))
  | _ => .inl fun k => Int32.ofInt (w c k))
def jcell (ad : Nat → Nat) (cA : Nat → ClassId) (w : Wd) (c : Nat) : va_E := match sh c with
  | some (.inl (ci, fs)) => .inr (ci, jfs ad w c fs)
  | some (.inr (ak, n, _)) => .inl (cA ak, jar ad w c ak n)
  | none => .inr (0, [])
def wl (ad : Nat → Nat) (cA : Nat → ClassId) (w : Wd) (N : Nat) : va_W := (List.range N).map fun c => (ad c, jcell ad cA w c)
def jft (ak : Nat) : FieldType := match ak with
  | 0 => .int
  | 1 => .long
  | 2 => .object "EachBringsAnother$Kept"
  | 3 => .byte
  | 4 => .boolean
  | _ => .char
def jtys (cA : Nat → ClassId) : List (ClassId × FieldType) := (List.range 6).map fun k => (cA k, jft k)
theorem wl_at {ad : Nat → Nat} {cA : Nat → ClassId} {w : Wd} {N c : Nat} (h : c < N) : (wl ad cA w N)[c]? = some (ad c, jcell ad cA w c) := by
  simp [wl, h]
theorem jtys_at {cA : Nat → ClassId} {k : Nat} (h : k < 6) : (jtys cA)[k]? = some (cA k, jft k) := by
  simp [jtys, h]
theorem jfs_at {ad : Nat → Nat} {w : Wd} {c k : Nat} {fs : List (Nat × Nat)} {kd z : Nat} (h : fs[k]? = some (kd, z)) : (jfs ad w c fs)[k]? = some (jc ad (jk kd, w c k)) := by
  have hk : k < fs.length := (List.getElem?_eq_some_iff.mp h).1
  have e : fs[k] = (kd, z) := (List.getElem?_eq_some_iff.mp h).2
  simp [jfs, hk, List.getD_eq_getElem?_getD, e]
theorem jfs_len {ad : Nat → Nat} {w : Wd} {c : Nat} {fs : List (Nat × Nat)} : (jfs ad w c fs).length = fs.length := by simp [jfs]
theorem wl_set {ad : Nat → Nat} {cA : Nat → ClassId} {w w' : Wd} {N c : Nat} (h : c < N) (ho : ∀ c', c' ≠ c → w' c' = w c') {e : va_E} (he : e = jcell ad cA w' c) : (wl ad cA w N).set c (ad c, e) = wl ad cA w' N := by
  have hj : ∀ c', c' ≠ c → jcell ad cA w' c' = jcell ad cA w c' := by
    intro c' hc
    unfold jcell
    cases hsh : sh c' with
    | none => rfl
    | some q =>
      cases q with
      | inl q => obtain ⟨ci, fs⟩ := q; simp only [jfs, ho c' hc]
      | inr q => obtain ⟨ak, n, ps⟩ := q; simp only [jar, ho c' hc]
  apply List.ext_getElem?
  intro i
  by_cases hi : i = c
  · subst hi
    rw [List.getElem?_set_self (by simp [wl, h]), wl_at h, he]
  · rw [List.getElem?_set_ne (Ne.symm hi)]
    by_cases hl : i < N
    · rw [wl_at hl, wl_at hl, hj i hi]
    · simp [wl, hl]
def w32 (z : Int) : Int := z.bmod 4294967296
def w64 (z : Int) : Int := z.bmod 18446744073709551616
theorem i32_bmod (z : Int) : Int32.ofInt (w32 z) = Int32.ofInt z := by
  apply Int32.toInt_inj.mp
  rw [Int32.toInt_ofInt, Int32.toInt_ofInt]
  unfold w32
  exact Int.bmod_bmod
theorem i64_bmod (z : Int) : Int64.ofInt (w64 z) = Int64.ofInt z := by
  apply Int64.toInt_inj.mp
  rw [Int64.toInt_ofInt, Int64.toInt_ofInt]
  unfold w64
  exact Int.bmod_bmod
theorem w32_jo (z : Int) : jo (0, w32 z) := by
  show -2147483648 ≤ w32 z ∧ w32 z < 2147483648
  unfold w32
  have h1 := Int.le_bmod (x := z) (m := 4294967296) (by decide)
  have h2 := Int.bmod_lt (x := z) (m := 4294967296) (by decide)
  omega
theorem w64_jo (z : Int) : jo (1, w64 z) := by
  show -9223372036854775808 ≤ w64 z ∧ w64 z < 9223372036854775808
  unfold w64
  have h1 := Int.le_bmod (x := z) (m := 18446744073709551616) (by decide)
  have h2 := Int.bmod_lt (x := z) (m := 18446744073709551616) (by decide)
  omega
theorem i32_toInt {z : Int} (h : jo (0, z)) : (Int32.ofInt z).toInt = z := by
  have h' : -2147483648 ≤ z ∧ z < 2147483648 := h
  rw [Int32.toInt_ofInt]
  exact Int.bmod_eq_of_le (by simp [Int32.size]; omega) (by simp [Int32.size]; omega)
theorem i64_toInt {z : Int} (h : jo (1, z)) : (Int64.ofInt z).toInt = z := by
  have h' : -9223372036854775808 ≤ z ∧ z < 9223372036854775808 := h
  rw [Int64.toInt_ofInt]
  exact Int.bmod_eq_of_le (by simp [Int64.size]; omega) (by simp [Int64.size]; omega)
theorem jo_i (x : Int32) : jo (0, x.toInt) := by
  show -2147483648 ≤ x.toInt ∧ x.toInt < 2147483648
  have h1 := x.le_toInt
  have h2 := x.toInt_lt
  omega
theorem jo_l (x : Int64) : jo (1, x.toInt) := by
  show -9223372036854775808 ≤ x.toInt ∧ x.toInt < 9223372036854775808
  have h1 := x.le_toInt
  have h2 := x.toInt_lt
  omega
theorem i32_lt {x y : Int} (hx : jo (0, x)) (hy : jo (0, y)) : Int32.ofInt x < Int32.ofInt y ↔ x < y := by
  rw [Int32.lt_iff_toInt_lt, i32_toInt hx, i32_toInt hy]
theorem i32_le {x y : Int} (hx : jo (0, x)) (hy : jo (0, y)) : Int32.ofInt x ≤ Int32.ofInt y ↔ x ≤ y := by
  rw [Int32.le_iff_toInt_le, i32_toInt hx, i32_toInt hy]
theorem i32_eq {x y : Int} (hx : jo (0, x)) (hy : jo (0, y)) : Int32.ofInt x = Int32.ofInt y ↔ x = y := by
  rw [← Int32.toInt_inj, i32_toInt hx, i32_toInt hy]
theorem i64_lt {x y : Int} (hx : jo (1, x)) (hy : jo (1, y)) : Int64.ofInt x < Int64.ofInt y ↔ x < y := by
  rw [Int64.lt_iff_toInt_lt, i64_toInt hx, i64_toInt hy]
theorem i64_eq {x y : Int} (hx : jo (1, x)) (hy : jo (1, y)) : Int64.ofInt x = Int64.ofInt y ↔ x = y := by
  rw [← Int64.toInt_inj, i64_toInt hx, i64_toInt hy]

-- the numbers' operations
def iand (x y : Int) : Int := (Int32.ofInt x &&& Int32.ofInt y).toInt
def ior (x y : Int) : Int := (Int32.ofInt x ||| Int32.ofInt y).toInt
def ixor (x y : Int) : Int := (Int32.ofInt x ^^^ Int32.ofInt y).toInt
def ishl (x y : Int) : Int := (Int32.ofInt x <<< (Int32.ofInt y &&& 31)).toInt
def ishr (x y : Int) : Int := (Int32.ofInt x >>> (Int32.ofInt y &&& 31)).toInt
def iush (x y : Int) : Int := ((Int32.ofInt x).toUInt32 >>> ((Int32.ofInt y).toUInt32 &&& Int32.toUInt32 31)).toInt32.toInt
def idiv (x y : Int) : Int := (Int32.ofInt x / Int32.ofInt y).toInt
def irem (x y : Int) : Int := (Int32.ofInt x - Int32.ofInt x / Int32.ofInt y * Int32.ofInt y).toInt
def i2b (x : Int) : Int := (Int32.ofInt x).toInt8.toInt32.toInt
def i2s (x : Int) : Int := (Int32.ofInt x).toInt16.toInt32.toInt
def i2c (x : Int) : Int := ((Int32.ofInt x).toUInt32 % 65536).toInt32.toInt
def land (x y : Int) : Int := (Int64.ofInt x &&& Int64.ofInt y).toInt
def lor (x y : Int) : Int := (Int64.ofInt x ||| Int64.ofInt y).toInt
def lshl (x y : Int) : Int := (Int64.ofInt x <<< ((Int32.ofInt y).toInt64 &&& 63)).toInt
def lshr (x y : Int) : Int := (Int64.ofInt x >>> ((Int32.ofInt y).toInt64 &&& 63)).toInt
def lcmp (x y : Int) : Int := if y < x then 1 else if x = y then 0 else -1
def nb (x : Int) : Int := (vp_nar .byte (Int32.ofInt x)).toInt
def nc (x : Int) : Int := (vp_nar .char (Int32.ofInt x)).toInt
def nz (x : Int) : Int := (vp_nar .boolean (Int32.ofInt x)).toInt
theorem jz {z : Int} (h : (decide (-2147483648 ≤ z) && decide (z < 2147483648)) = true) : jo (0, z) := by
  simp only [Bool.and_eq_true, decide_eq_true_eq] at h
  exact h
theorem jz1 {z : Int} (h : (decide (-9223372036854775808 ≤ z) && decide (z < 9223372036854775808)) = true) : jo (1, z) := by
  simp only [Bool.and_eq_true, decide_eq_true_eq] at h
  exact h
theorem jo00 : jo (0, 0) := jz rfl
-- the walk's context
abbrev jX : Type := Program × Launch × Env × Room × State × MethodId × Array Value × List Frame × Method × Code × va_G × (Nat → ClassId) × (Nat → Prop) × Nat
def xp (X : jX) : Program := X.1
def xl (X : jX) : Launch := X.2.1
def xe (X : jX) : Env := X.2.2.1
def xR (X : jX) : Room := X.2.2.2.1
def xs (X : jX) : State := X.2.2.2.2.1
def xm (X : jX) : MethodId := X.2.2.2.2.2.1
def xa (X : jX) : Array Value := X.2.2.2.2.2.2.1
def xb (X : jX) : List Frame := X.2.2.2.2.2.2.2.1
def xM (X : jX) : Method := X.2.2.2.2.2.2.2.2.1
def xc (X : jX) : Code := X.2.2.2.2.2.2.2.2.2.1
def xD (X : jX) : va_G := X.2.2.2.2.2.2.2.2.2.2.1
def xC (X : jX) : Nat → ClassId := X.2.2.2.2.2.2.2.2.2.2.2.1
def xA (X : jX) : Nat → Prop := X.2.2.2.2.2.2.2.2.2.2.2.2.1
def xn (X : jX) : Nat := X.2.2.2.2.2.2.2.2.2.2.2.2.2
def jinj (ad : Nat → Nat) (N : Nat) (A : Nat → Prop) : Prop := (∀ i j, i < N → j < N → ad i = ad j → i = j) ∧ ∀ i, i < N → A (ad i)
def NW (U : State) : Prop := ∀ w ∈ nw_tbl, va_Nw w U
theorem NW.warm {s U : State} (hW : s.WarmedH U.vm) (h : NW s) : NW U := fun w hw => by
  have h1 := h w hw
  have h2 := (List.mem_filter.mp hw).2
  cases w <;> first | exact va_Nw.warmF hW h1 | exact va_Nw.warmM hW h1 | exact va_Nw.warmC hW h1 | exact va_Nw.warmD hW h1 | cases h2
theorem NW.same {s U : State} (e : s.vm = U.vm) (h : NW s) : NW U := fun w hw => by
  have h1 := h w hw
  have h2 := (List.mem_filter.mp hw).2
  have h3 : w.onTables = true := by cases w <;> first | rfl | cases h2
  exact va_Nw.same h3 e h1
def Cx (X : jX) (cc : ByteArray) (own : String) : Prop :=
  (xp X).tables.exec = Jvm.exec ∧ (xc X).code = cc ∧ (xs X).vm.findClass own = some (xm X).cls ∧ (∀ w ∈ gw_tbl, w.before (xa X) (xs X) = true) ∧ va_K (xD X) cl (jtys (xC X)) (xs X) ∧ (xc X).maxLocals = xn X ∧ NW (xs X)
def jL (ad : Nat → Nat) (L : List (Nat × jv)) : List (Nat × Value) := L.map fun q => (q.1, jc ad q.2)
/-- from here (the world w, the locals L, the stack S) the machine does what the function g says -/
def VF (X : jX) (Qf : Int × Wd → State → Prop) (ad : Nat → Nat) (N k n : Nat) (w : Wd) (pc : Nat) (L : List (Nat × jv)) (S : List jv) (g : Option (Int × Wd)) : Prop :=
  ∀ o, g = some o → wok w → (N = NF → wpt w) → (∀ q ∈ L, jo q.2) → (∀ v ∈ S, jo v) → ∀ (H : Heap) (locs : List Loc) (ls : Array Slot),
    va_P (xD X) cl (wl ad (xC X) w N) H → va_S (xA X) (xs X).heap H locs → lv_has ls (xn X) (jL ad L) → jinj ad N (xA X) →
    W (xp X) (xl X) (xe X) (xR X) (xs X) (xm X) (xa X) (xb X) (xM X) (xc X) H locs k n (Qf o) (F0 (xm X) pc ls (S.map (jc ad)))
theorem al_c {α : Type} {P : α → Prop} {a : α} {l : List α} (h : P a) (t : ∀ x ∈ l, P x) : ∀ x ∈ a :: l, P x := fun x hx => by
  rcases List.mem_cons.mp hx with rfl | hx
  · exact h
  · exact t x hx
theorem al_t {α : Type} {P : α → Prop} {a : α} {l : List α} (t : ∀ x ∈ a :: l, P x) : ∀ x ∈ l, P x := fun x hx => t x (List.mem_cons_of_mem _ hx)
theorem al_h {α : Type} {P : α → Prop} {a : α} {l : List α} (t : ∀ x ∈ a :: l, P x) : P a := t a List.mem_cons_self
theorem jL_at {ad : Nat → Nat} {L : List (Nat × jv)} {i k : Nat} {v : jv} (h : L[i]? = some (k, v)) : (jL ad L)[i]? = some (k, jc ad v) := by
  simp [jL, h]
theorem jc_rf {ad : Nat → Nat} {c : Nat} : jc ad (2, ((c + 1 : Nat) : Int)) = .ref (ad c) := by
  have h : ¬ ((c + 1 : Nat) : Int) ≤ 0 := by omega
  have h2 : (((c + 1 : Nat) : Int) - 1).toNat = c := by omega
  show va_rf (rfz ad ((c + 1 : Nat) : Int)) = _
  unfold rfz
  rw [if_neg h, h2]
  rfl
theorem jc_cat (ad : Nat → Nat) (v : jv) : (jc ad v).category = if v.1 = 1 then 2 else 1 := by
  obtain ⟨k, z⟩ := v
  match k with
  | 0 => rfl
  | 1 => rfl
  | 2 => simp only [jc]; cases rfz ad z <;> rfl
  | k + 3 => rfl
end
section
section
variable {X : jX} {cc : ByteArray} {own : String} {Qf : Int × Wd → State → Prop} {ad : Nat → Nat} {N k n pc : Nat} {w : Wd} {L : List (Nat × jv)} {S : List jv} {g : Option (Int × Wd)}
theorem vf_iconst (C : Cx X cc own) {z : Int} (d : decode cc pc = .ok (.iconst z, 1)) (hz : jo (0, z)) (kk : VF X Qf ad N k n w (pc + 1) L ((0, z) :: S) g) : VF X Qf ad N k n w pc L S g := by
  intro o ho hw hp hL hS H locs ls hP hV hl hI
  exact lv_iconst C.1 C.2.1 d rfl (kk o ho hw hp hL (al_c hz hS) H locs ls hP hV hl hI)
theorem vf_bipush (C : Cx X cc own) {z : Int} (d : decode cc pc = .ok (.bipush z, 2)) (hv : (Int8.ofInt z).toInt32 = Int32.ofInt z) (hz : jo (0, z)) (kk : VF X Qf ad N k n w (pc + 2) L ((0, z) :: S) g) : VF X Qf ad N k n w pc L S g := by
  intro o ho hw hp hL hS H locs ls hP hV hl hI
  exact lv_bipush C.1 C.2.1 d hv (kk o ho hw hp hL (al_c hz hS) H locs ls hP hV hl hI)
theorem vf_sipush (C : Cx X cc own) {z : Int} (d : decode cc pc = .ok (.sipush z, 3)) (hv : (Int16.ofInt z).toInt32 = Int32.ofInt z) (hz : jo (0, z)) (kk : VF X Qf ad N k n w (pc + 3) L ((0, z) :: S) g) : VF X Qf ad N k n w pc L S g := by
  intro o ho hw hp hL hS H locs ls hP hV hl hI
  exact lv_sipush C.1 C.2.1 d hv (kk o ho hw hp hL (al_c hz hS) H locs ls hP hV hl hI)
theorem vf_lconst (C : Cx X cc own) {z : Int} {f : Fin 2} (d : decode cc pc = .ok (.lconst f, 1)) (hv : Int64.ofNat (f : Nat) = Int64.ofInt z) (hz : jo (1, z)) (kk : VF X Qf ad N k n w (pc + 1) L ((1, z) :: S) g) : VF X Qf ad N k n w pc L S g := by
  intro o ho hw hp hL hS H locs ls hP hV hl hI
  exact lv_lconst C.1 C.2.1 d hv (kk o ho hw hp hL (al_c hz hS) H locs ls hP hV hl hI)
theorem vf_ldc (C : Cx X cc own) {z : Int} {i : Nat} (d : decode cc pc = .ok (.ldc i, 2)) {v : Int32} (hm : Cond.constant own i v ∈ gw_tbl) (hv : v = Int32.ofInt z) (hz : jo (0, z)) (kk : VF X Qf ad N k n w (pc + 2) L ((0, z) :: S) g) : VF X Qf ad N k n w pc L S g := by
  subst hv
  intro o ho hw hp hL hS H locs ls hP hV hl hI
  exact lv_ldc C.1 C.2.1 C.2.2.1 (C.2.2.2.1 _ hm) d (kk o ho hw hp hL (al_c hz hS) H locs ls hP hV hl hI)
theorem vf_ldcw (C : Cx X cc own) {z : Int} {i : Nat} (d : decode cc pc = .ok (.ldc_w i, 3)) {v : Int32} (hm : Cond.constant own i v ∈ gw_tbl) (hv : v = Int32.ofInt z) (hz : jo (0, z)) (kk : VF X Qf ad N k n w (pc + 3) L ((0, z) :: S) g) : VF X Qf ad N k n w pc L S g := by
  subst hv
  intro o ho hw hp hL hS H locs ls hP hV hl hI
  exact lv_ldcw C.1 C.2.1 C.2.2.1 (C.2.2.2.1 _ hm) d (kk o ho hw hp hL (al_c hz hS) H locs ls hP hV hl hI)
theorem vf_ldc2 (C : Cx X cc own) {z : Int} {i : Nat} (d : decode cc pc = .ok (.ldc2_w i, 3)) {v : Int64} (hm : Cond.constantLong own i v ∈ gw_tbl) (hv : v = Int64.ofInt z) (hz : jo (1, z)) (kk : VF X Qf ad N k n w (pc + 3) L ((1, z) :: S) g) : VF X Qf ad N k n w pc L S g := by
  subst hv
  intro o ho hw hp hL hS H locs ls hP hV hl hI
  exact lv_ldc2 C.1 C.2.1 C.2.2.1 (C.2.2.2.1 _ hm) d (kk o ho hw hp hL (al_c hz hS) H locs ls hP hV hl hI)
theorem vf_null (C : Cx X cc own) (d : decode cc pc = .ok (.aconst_null, 1)) (kk : VF X Qf ad N k n w (pc + 1) L ((2, 0) :: S) g) : VF X Qf ad N k n w pc L S g := by
  intro o ho hw hp hL hS H locs ls hP hV hl hI
  exact lv_null C.1 C.2.1 d (kk o ho hw hp hL (al_c (Int.le_refl 0) hS) H locs ls hP hV hl hI)
theorem vf_iload_n (C : Cx X cc own) {f : Fin 4} {i : Nat} {x : Int} (d : decode cc pc = .ok (.iload_n f, 1)) (j : Nat) (h : L[j]? = some (i, (0, x))) (hf : (f : Nat) = i) (kk : VF X Qf ad N k n w (pc + 1) L ((0, x) :: S) g) : VF X Qf ad N k n w pc L S g := by
  intro o ho hw hp hL hS H locs ls hP hV hl hI
  exact lv_iload_n C.1 C.2.1 d hf (lv_at hl j (jL_at h)) (kk o ho hw hp hL (al_c (hL _ (List.mem_of_getElem? h)) hS) H locs ls hP hV hl hI)
theorem vf_iload (C : Cx X cc own) {i : Nat} {x : Int} (d : decode cc pc = .ok (.iload i, 2)) (j : Nat) (h : L[j]? = some (i, (0, x))) (kk : VF X Qf ad N k n w (pc + 2) L ((0, x) :: S) g) : VF X Qf ad N k n w pc L S g := by
  intro o ho hw hp hL hS H locs ls hP hV hl hI
  exact lv_iload C.1 C.2.1 d (lv_at hl j (jL_at h)) (kk o ho hw hp hL (al_c (hL _ (List.mem_of_getElem? h)) hS) H locs ls hP hV hl hI)
theorem vf_lload_n (C : Cx X cc own) {f : Fin 4} {i : Nat} {x : Int} (d : decode cc pc = .ok (.lload_n f, 1)) (j : Nat) (h : L[j]? = some (i, (1, x))) (hf : (f : Nat) = i) (kk : VF X Qf ad N k n w (pc + 1) L ((1, x) :: S) g) : VF X Qf ad N k n w pc L S g := by
  intro o ho hw hp hL hS H locs ls hP hV hl hI
  exact lv_lload_n C.1 C.2.1 d hf (lv_at hl j (jL_at h)) (kk o ho hw hp hL (al_c (hL _ (List.mem_of_getElem? h)) hS) H locs ls hP hV hl hI)
theorem vf_lload (C : Cx X cc own) {i : Nat} {x : Int} (d : decode cc pc = .ok (.lload i, 2)) (j : Nat) (h : L[j]? = some (i, (1, x))) (kk : VF X Qf ad N k n w (pc + 2) L ((1, x) :: S) g) : VF X Qf ad N k n w pc L S g := by
  intro o ho hw hp hL hS H locs ls hP hV hl hI
  exact lv_lload C.1 C.2.1 d (lv_at hl j (jL_at h)) (kk o ho hw hp hL (al_c (hL _ (List.mem_of_getElem? h)) hS) H locs ls hP hV hl hI)
theorem vf_aload_n (C : Cx X cc own) {f : Fin 4} {i : Nat} {x : Int} (d : decode cc pc = .ok (.aload_n f, 1)) (j : Nat) (h : L[j]? = some (i, (2, x))) (hf : (f : Nat) = i) (kk : VF X Qf ad N k n w (pc + 1) L ((2, x) :: S) g) : VF X Qf ad N k n w pc L S g := by
  intro o ho hw hp hL hS H locs ls hP hV hl hI
  have hk := kk o ho hw hp hL (al_c (hL _ (List.mem_of_getElem? h)) hS) H locs ls hP hV hl hI
  have ha := lv_at hl j (jL_at h)
  simp only [List.map_cons, jc] at hk ha
  cases hr : rfz ad x with
  | none => rw [hr] at hk ha; exact lv_aload_nN C.1 C.2.1 d hf ha hk
  | some a => rw [hr] at hk ha; exact lv_aload_n C.1 C.2.1 d hf ha hk
theorem vf_aload (C : Cx X cc own) {i : Nat} {x : Int} (d : decode cc pc = .ok (.aload i, 2)) (j : Nat) (h : L[j]? = some (i, (2, x))) (kk : VF X Qf ad N k n w (pc + 2) L ((2, x) :: S) g) : VF X Qf ad N k n w pc L S g := by
  intro o ho hw hp hL hS H locs ls hP hV hl hI
  have hk := kk o ho hw hp hL (al_c (hL _ (List.mem_of_getElem? h)) hS) H locs ls hP hV hl hI
  have ha := lv_at hl j (jL_at h)
  simp only [List.map_cons, jc] at hk ha
  cases hr : rfz ad x with
  | none => rw [hr] at hk ha; exact lv_aloadN C.1 C.2.1 d ha hk
  | some a => rw [hr] at hk ha; exact lv_aload C.1 C.2.1 d ha hk
theorem vf_aload3_n (C : Cx X cc own) {f : Fin 4} {i : Nat} {x : Int} (d : decode cc pc = .ok (.aload_n f, 1)) (j : Nat) (h : L[j]? = some (i, (3, x))) (hf : (f : Nat) = i) (kk : VF X Qf ad N k n w (pc + 1) L ((3, x) :: S) g) : VF X Qf ad N k n w pc L S g := by
  intro o ho hw hp hL hS H locs ls hP hV hl hI
  exact lv_aload_n C.1 C.2.1 d hf (lv_at hl j (jL_at h)) (kk o ho hw hp hL (al_c (hL _ (List.mem_of_getElem? h)) hS) H locs ls hP hV hl hI)
def jrest (L : List (Nat × jv)) (i kd : Nat) (ps : List Nat) (L' : List (Nat × jv)) : Prop := L' = ps.filterMap (fun j => L[j]?) ∧ L'.all (fun q => !(q.1 == i) && !(q.1 + 1 == i && q.2.1 == 1) && !(kd == 1 && q.1 == i + 1)) = true
theorem jrest_lv {ad : Nat → Nat} {nL i : Nat} {L L' : List (Nat × jv)} {v : jv} {ps : List Nat} (h : jrest L i v.1 ps L') : jL ad ((i, v) :: L') = lv_pick ((i, jc ad v) :: (jL ad L).filter (fun q => if v.1 = 1 then !(q.1 == i) && (!(q.1 == i + 1) && !(q.1 + 1 == i && q.2.category == 2)) else !(q.1 == i) && !(q.1 + 1 == i && q.2.category == 2))) [] ++ jL ad ((i, v) :: L') := by
  simp [lv_pick]
theorem jrest_in {ad : Nat → Nat} {i : Nat} {L L' : List (Nat × jv)} {v : jv} {ps : List Nat} {F : List (Nat × Value)} (h : jrest L i v.1 ps L') (hF : F = (jL ad L).filter (fun q => if v.1 = 1 then !(q.1 == i) && (!(q.1 == i + 1) && !(q.1 + 1 == i && q.2.category == 2)) else !(q.1 == i) && !(q.1 + 1 == i && q.2.category == 2))) : ∀ q ∈ jL ad ((i, v) :: L'), q ∈ (i, jc ad v) :: F := by
  intro q hq
  rcases List.mem_map.mp hq with ⟨r, hr, rfl⟩
  rcases List.mem_cons.mp hr with rfl | hr
  · exact List.mem_cons_self
  · refine List.mem_cons_of_mem _ ?_
    rw [hF]
    have h2 := List.all_eq_true.mp h.2 r hr
    rw [h.1] at hr
    obtain ⟨j, -, hj⟩ := List.mem_filterMap.mp hr
    refine List.mem_filter.mpr ⟨List.mem_map.mpr ⟨r, List.mem_of_getElem? hj, rfl⟩, ?_⟩
    have hc : (jc ad r.2).category = if r.2.1 = 1 then 2 else 1 := jc_cat ad r.2
    simp only [Bool.and_eq_true, Bool.not_eq_true', Bool.and_eq_false_iff, beq_eq_false_iff_ne] at h2
    by_cases hv : v.1 = 1
    · by_cases hr1 : r.2.1 = 1 <;> simp_all
    · by_cases hr1 : r.2.1 = 1 <;> simp_all
theorem lv_sup {ls : Array Slot} {nL : Nat} {l l' : List (Nat × Value)} (h : lv_has ls nL l) (hl : ∀ q ∈ l', q ∈ l) : lv_has ls nL l' := ⟨h.1, h.2.1, fun q hq => h.2.2 q (hl q hq)⟩
theorem jrest_ok {L L' : List (Nat × jv)} {i kd : Nat} {ps : List Nat} (h : jrest L i kd ps L') (hL : ∀ q ∈ L, jo q.2) : ∀ q ∈ L', jo q.2 := fun q hq => by
  rw [h.1] at hq
  obtain ⟨j, -, hj⟩ := List.mem_filterMap.mp hq
  exact hL q (List.mem_of_getElem? hj)
theorem vf_istore_n (C : Cx X cc own) {f : Fin 4} {i nL : Nat} {x : Int} {L' : List (Nat × jv)} (d : decode cc pc = .ok (.istore_n f, 1)) (ps : List Nat) (h : jrest L i 0 ps L') (hn : xn X = nL) (hb : i < nL) (hf : (f : Nat) = i) (kk : VF X Qf ad N k n w (pc + 1) ((i, (0, x)) :: L') S g) : VF X Qf ad N k n w pc L ((0, x) :: S) g := by
  subst hn
  intro o ho hw hp hL hS H locs ls hP hV hl hI
  exact lv_istore_n C.1 C.2.1 d hf hl hb rfl fun ls' hl' => kk o ho hw hp (al_c (P := fun q : Nat × jv => jo q.2) (al_h hS) (jrest_ok h hL)) (al_t hS) H locs ls' hP hV (lv_sup hl' (jrest_in (v := (0, x)) h rfl)) hI
theorem vf_istore (C : Cx X cc own) {i nL : Nat} {x : Int} {L' : List (Nat × jv)} (d : decode cc pc = .ok (.istore i, 2)) (ps : List Nat) (h : jrest L i 0 ps L') (hn : xn X = nL) (hb : i < nL) (kk : VF X Qf ad N k n w (pc + 2) ((i, (0, x)) :: L') S g) : VF X Qf ad N k n w pc L ((0, x) :: S) g := by
  subst hn
  intro o ho hw hp hL hS H locs ls hP hV hl hI
  exact lv_istore C.1 C.2.1 d hl hb rfl fun ls' hl' => kk o ho hw hp (al_c (P := fun q : Nat × jv => jo q.2) (al_h hS) (jrest_ok h hL)) (al_t hS) H locs ls' hP hV (lv_sup hl' (jrest_in (v := (0, x)) h rfl)) hI
theorem vf_lstore_n (C : Cx X cc own) {f : Fin 4} {i nL : Nat} {x : Int} {L' : List (Nat × jv)} (d : decode cc pc = .ok (.lstore_n f, 1)) (ps : List Nat) (h : jrest L i 1 ps L') (hn : xn X = nL) (hb : i + 1 < nL) (hf : (f : Nat) = i) (kk : VF X Qf ad N k n w (pc + 1) ((i, (1, x)) :: L') S g) : VF X Qf ad N k n w pc L ((1, x) :: S) g := by
  subst hn
  intro o ho hw hp hL hS H locs ls hP hV hl hI
  exact lv_lstore_n C.1 C.2.1 d hf hl hb rfl fun ls' hl' => kk o ho hw hp (al_c (P := fun q : Nat × jv => jo q.2) (al_h hS) (jrest_ok h hL)) (al_t hS) H locs ls' hP hV (lv_sup hl' (jrest_in (v := (1, x)) h rfl)) hI
theorem vf_lstore (C : Cx X cc own) {i nL : Nat} {x : Int} {L' : List (Nat × jv)} (d : decode cc pc = .ok (.lstore i, 2)) (ps : List Nat) (h : jrest L i 1 ps L') (hn : xn X = nL) (hb : i + 1 < nL) (kk : VF X Qf ad N k n w (pc + 2) ((i, (1, x)) :: L') S g) : VF X Qf ad N k n w pc L ((1, x) :: S) g := by
  subst hn
  intro o ho hw hp hL hS H locs ls hP hV hl hI
  exact lv_lstore C.1 C.2.1 d hl hb rfl fun ls' hl' => kk o ho hw hp (al_c (P := fun q : Nat × jv => jo q.2) (al_h hS) (jrest_ok h hL)) (al_t hS) H locs ls' hP hV (lv_sup hl' (jrest_in (v := (1, x)) h rfl)) hI
theorem vf_astore (C : Cx X cc own) {i nL : Nat} {x : Int} {L' : List (Nat × jv)} (d : decode cc pc = .ok (.astore i, 2)) (ps : List Nat) (h : jrest L i 2 ps L') (hn : xn X = nL) (hb : i < nL) (kk : VF X Qf ad N k n w (pc + 2) ((i, (2, x)) :: L') S g) : VF X Qf ad N k n w pc L ((2, x) :: S) g := by
  subst hn
  intro o ho hw hp hL hS H locs ls hP hV hl hI
  have key : ∀ r, rfz ad x = r → W (xp X) (xl X) (xe X) (xR X) (xs X) (xm X) (xa X) (xb X) (xM X) (xc X) H locs k n (Qf o) (F0 (xm X) pc ls (va_rf r :: S.map (jc ad))) := by
    intro r hr
    cases r with
    | none => exact lv_astoreN C.1 C.2.1 d hl hb rfl fun ls' hl' => kk o ho hw hp (al_c (P := fun q : Nat × jv => jo q.2) (al_h hS) (jrest_ok h hL)) (al_t hS) H locs ls' hP hV (lv_sup hl' (fun q hq => by have := jrest_in (ad := ad) (v := (2, x)) h rfl q hq; simpa [jc, hr, va_rf] using this)) hI
    | some a => exact lv_astore C.1 C.2.1 d hl hb rfl fun ls' hl' => kk o ho hw hp (al_c (P := fun q : Nat × jv => jo q.2) (al_h hS) (jrest_ok h hL)) (al_t hS) H locs ls' hP hV (lv_sup hl' (fun q hq => by have := jrest_in (ad := ad) (v := (2, x)) h rfl q hq; simpa [jc, hr, va_rf] using this)) hI
  exact key _ rfl
theorem vf_iinc (C : Cx X cc own) {i nL : Nat} {z x : Int} {L' : List (Nat × jv)} (d : decode cc pc = .ok (.iinc i z, 3)) (j : Nat) (hj : L[j]? = some (i, (0, x))) (ps : List Nat) (h : jrest L i 0 ps L') (hn : xn X = nL) (hb : i < nL) (kk : VF X Qf ad N k n w (pc + 3) ((i, (0, w32 (x + z))) :: L') S g) : VF X Qf ad N k n w pc L S g := by
  subst hn
  intro o ho hw hp hL hS H locs ls hP hV hl hI
  exact lv_iinc (v := Int32.ofInt (w32 (x + z))) C.1 C.2.1 d hl (jL_at hj) (by rw [i32_bmod, Int32.ofInt_add]) hb rfl fun ls' hl' => kk o ho hw hp (al_c (P := fun q : Nat × jv => jo q.2) (w32_jo _) (jrest_ok h hL)) hS H locs ls' hP hV (lv_sup hl' (jrest_in (v := (0, w32 (x + z))) h rfl)) hI
theorem vf_iadd (C : Cx X cc own) {x y : Int} (d : decode cc pc = .ok (.iadd, 1)) (kk : VF X Qf ad N k n w (pc + 1) L ((0, w32 (x + y)) :: S) g) : VF X Qf ad N k n w pc L ((0, y) :: (0, x) :: S) g := by
  intro o ho hw hp hL hS H locs ls hP hV hl hI
  have e : Int32.ofInt x + Int32.ofInt y = Int32.ofInt (w32 (x + y)) := by rw [i32_bmod, Int32.ofInt_add]
  have hk := kk o ho hw hp hL (al_c (w32_jo _) (al_t (al_t hS))) H locs ls hP hV hl hI
  simp only [List.map_cons, jc] at hk ⊢
  rw [← e] at hk
  exact lv_iadd C.1 C.2.1 d hk
theorem vf_isub (C : Cx X cc own) {x y : Int} (d : decode cc pc = .ok (.isub, 1)) (kk : VF X Qf ad N k n w (pc + 1) L ((0, w32 (x - y)) :: S) g) : VF X Qf ad N k n w pc L ((0, y) :: (0, x) :: S) g := by
  intro o ho hw hp hL hS H locs ls hP hV hl hI
  have e : Int32.ofInt x - Int32.ofInt y = Int32.ofInt (w32 (x - y)) := by rw [i32_bmod, Int32.ofInt_sub]
  have hk := kk o ho hw hp hL (al_c (w32_jo _) (al_t (al_t hS))) H locs ls hP hV hl hI
  simp only [List.map_cons, jc] at hk ⊢
  rw [← e] at hk
  exact lv_isub C.1 C.2.1 d hk
theorem vf_imul (C : Cx X cc own) {x y : Int} (d : decode cc pc = .ok (.imul, 1)) (kk : VF X Qf ad N k n w (pc + 1) L ((0, w32 (x * y)) :: S) g) : VF X Qf ad N k n w pc L ((0, y) :: (0, x) :: S) g := by
  intro o ho hw hp hL hS H locs ls hP hV hl hI
  have e : Int32.ofInt x * Int32.ofInt y = Int32.ofInt (w32 (x * y)) := by rw [i32_bmod, Int32.ofInt_mul]
  have hk := kk o ho hw hp hL (al_c (w32_jo _) (al_t (al_t hS))) H locs ls hP hV hl hI
  simp only [List.map_cons, jc] at hk ⊢
  rw [← e] at hk
  exact lv_imul C.1 C.2.1 d hk
theorem vf_ladd (C : Cx X cc own) {x y : Int} (d : decode cc pc = .ok (.ladd, 1)) (kk : VF X Qf ad N k n w (pc + 1) L ((1, w64 (x + y)) :: S) g) : VF X Qf ad N k n w pc L ((1, y) :: (1, x) :: S) g := by
  intro o ho hw hp hL hS H locs ls hP hV hl hI
  have e : Int64.ofInt x + Int64.ofInt y = Int64.ofInt (w64 (x + y)) := by rw [i64_bmod, Int64.ofInt_add]
  have hk := kk o ho hw hp hL (al_c (w64_jo _) (al_t (al_t hS))) H locs ls hP hV hl hI
  simp only [List.map_cons, jc] at hk ⊢
  rw [← e] at hk
  exact lv_ladd C.1 C.2.1 d hk
theorem vf_lsub (C : Cx X cc own) {x y : Int} (d : decode cc pc = .ok (.lsub, 1)) (kk : VF X Qf ad N k n w (pc + 1) L ((1, w64 (x - y)) :: S) g) : VF X Qf ad N k n w pc L ((1, y) :: (1, x) :: S) g := by
  intro o ho hw hp hL hS H locs ls hP hV hl hI
  have e : Int64.ofInt x - Int64.ofInt y = Int64.ofInt (w64 (x - y)) := by rw [i64_bmod, Int64.ofInt_sub]
  have hk := kk o ho hw hp hL (al_c (w64_jo _) (al_t (al_t hS))) H locs ls hP hV hl hI
  simp only [List.map_cons, jc] at hk ⊢
  rw [← e] at hk
  exact lv_lsub C.1 C.2.1 d hk
theorem vf_lmul (C : Cx X cc own) {x y : Int} (d : decode cc pc = .ok (.lmul, 1)) (kk : VF X Qf ad N k n w (pc + 1) L ((1, w64 (x * y)) :: S) g) : VF X Qf ad N k n w pc L ((1, y) :: (1, x) :: S) g := by
  intro o ho hw hp hL hS H locs ls hP hV hl hI
  have e : Int64.ofInt x * Int64.ofInt y = Int64.ofInt (w64 (x * y)) := by rw [i64_bmod, Int64.ofInt_mul]
  have hk := kk o ho hw hp hL (al_c (w64_jo _) (al_t (al_t hS))) H locs ls hP hV hl hI
  simp only [List.map_cons, jc] at hk ⊢
  rw [← e] at hk
  exact lv_lmul C.1 C.2.1 d hk
theorem vf_iand (C : Cx X cc own) {x y : Int} (d : decode cc pc = .ok (.iand, 1)) (kk : VF X Qf ad N k n w (pc + 1) L ((0, iand x y) :: S) g) : VF X Qf ad N k n w pc L ((0, y) :: (0, x) :: S) g := by
  intro o ho hw hp hL hS H locs ls hP hV hl hI
  have e : Int32.ofInt x &&& Int32.ofInt y = Int32.ofInt (iand x y) := by rw [iand, Int32.ofInt_toInt]
  have hk := kk o ho hw hp hL (al_c (jo_i _) (al_t (al_t hS))) H locs ls hP hV hl hI
  simp only [List.map_cons, jc] at hk ⊢
  rw [← e] at hk
  exact lv_iand C.1 C.2.1 d hk
theorem vf_ior (C : Cx X cc own) {x y : Int} (d : decode cc pc = .ok (.ior, 1)) (kk : VF X Qf ad N k n w (pc + 1) L ((0, ior x y) :: S) g) : VF X Qf ad N k n w pc L ((0, y) :: (0, x) :: S) g := by
  intro o ho hw hp hL hS H locs ls hP hV hl hI
  have e : Int32.ofInt x ||| Int32.ofInt y = Int32.ofInt (ior x y) := by rw [ior, Int32.ofInt_toInt]
  have hk := kk o ho hw hp hL (al_c (jo_i _) (al_t (al_t hS))) H locs ls hP hV hl hI
  simp only [List.map_cons, jc] at hk ⊢
  rw [← e] at hk
  exact lv_ior C.1 C.2.1 d hk
theorem vf_ixor (C : Cx X cc own) {x y : Int} (d : decode cc pc = .ok (.ixor, 1)) (kk : VF X Qf ad N k n w (pc + 1) L ((0, ixor x y) :: S) g) : VF X Qf ad N k n w pc L ((0, y) :: (0, x) :: S) g := by
  intro o ho hw hp hL hS H locs ls hP hV hl hI
  have e : Int32.ofInt x ^^^ Int32.ofInt y = Int32.ofInt (ixor x y) := by rw [ixor, Int32.ofInt_toInt]
  have hk := kk o ho hw hp hL (al_c (jo_i _) (al_t (al_t hS))) H locs ls hP hV hl hI
  simp only [List.map_cons, jc] at hk ⊢
  rw [← e] at hk
  exact lv_ixor C.1 C.2.1 d hk
theorem vf_land (C : Cx X cc own) {x y : Int} (d : decode cc pc = .ok (.land, 1)) (kk : VF X Qf ad N k n w (pc + 1) L ((1, land x y) :: S) g) : VF X Qf ad N k n w pc L ((1, y) :: (1, x) :: S) g := by
  intro o ho hw hp hL hS H locs ls hP hV hl hI
  have e : Int64.ofInt x &&& Int64.ofInt y = Int64.ofInt (land x y) := by rw [land, Int64.ofInt_toInt]
  have hk := kk o ho hw hp hL (al_c (jo_l _) (al_t (al_t hS))) H locs ls hP hV hl hI
  simp only [List.map_cons, jc] at hk ⊢
  rw [← e] at hk
  exact lv_land C.1 C.2.1 d hk
theorem vf_lor (C : Cx X cc own) {x y : Int} (d : decode cc pc = .ok (.lor, 1)) (kk : VF X Qf ad N k n w (pc + 1) L ((1, lor x y) :: S) g) : VF X Qf ad N k n w pc L ((1, y) :: (1, x) :: S) g := by
  intro o ho hw hp hL hS H locs ls hP hV hl hI
  have e : Int64.ofInt x ||| Int64.ofInt y = Int64.ofInt (lor x y) := by rw [lor, Int64.ofInt_toInt]
  have hk := kk o ho hw hp hL (al_c (jo_l _) (al_t (al_t hS))) H locs ls hP hV hl hI
  simp only [List.map_cons, jc] at hk ⊢
  rw [← e] at hk
  exact lv_lor C.1 C.2.1 d hk
theorem vf_ishl (C : Cx X cc own) {x y : Int} (d : decode cc pc = .ok (.ishl, 1)) (kk : VF X Qf ad N k n w (pc + 1) L ((0, ishl x y) :: S) g) : VF X Qf ad N k n w pc L ((0, y) :: (0, x) :: S) g := by
  intro o ho hw hp hL hS H locs ls hP hV hl hI
  have e : Int32.ofInt x <<< (Int32.ofInt y &&& 31) = Int32.ofInt (ishl x y) := by rw [ishl, Int32.ofInt_toInt]
  have hk := kk o ho hw hp hL (al_c (jo_i _) (al_t (al_t hS))) H locs ls hP hV hl hI
  simp only [List.map_cons, jc] at hk ⊢
  rw [← e] at hk
  exact lv_ishl C.1 C.2.1 d hk
theorem vf_ishr (C : Cx X cc own) {x y : Int} (d : decode cc pc = .ok (.ishr, 1)) (kk : VF X Qf ad N k n w (pc + 1) L ((0, ishr x y) :: S) g) : VF X Qf ad N k n w pc L ((0, y) :: (0, x) :: S) g := by
  intro o ho hw hp hL hS H locs ls hP hV hl hI
  have e : Int32.ofInt x >>> (Int32.ofInt y &&& 31) = Int32.ofInt (ishr x y) := by rw [ishr, Int32.ofInt_toInt]
  have hk := kk o ho hw hp hL (al_c (jo_i _) (al_t (al_t hS))) H locs ls hP hV hl hI
  simp only [List.map_cons, jc] at hk ⊢
  rw [← e] at hk
  exact lv_ishr C.1 C.2.1 d hk
theorem vf_iushr (C : Cx X cc own) {x y : Int} (d : decode cc pc = .ok (.iushr, 1)) (kk : VF X Qf ad N k n w (pc + 1) L ((0, iush x y) :: S) g) : VF X Qf ad N k n w pc L ((0, y) :: (0, x) :: S) g := by
  intro o ho hw hp hL hS H locs ls hP hV hl hI
  have e : ((Int32.ofInt x).toUInt32 >>> ((Int32.ofInt y).toUInt32 &&& Int32.toUInt32 31)).toInt32 = Int32.ofInt (iush x y) := by rw [iush, Int32.ofInt_toInt]
  have hk := kk o ho hw hp hL (al_c (jo_i _) (al_t (al_t hS))) H locs ls hP hV hl hI
  simp only [List.map_cons, jc] at hk ⊢
  rw [← e] at hk
  exact lv_iushr C.1 C.2.1 d rfl hk
theorem vf_lshl (C : Cx X cc own) {x y : Int} (d : decode cc pc = .ok (.lshl, 1)) (kk : VF X Qf ad N k n w (pc + 1) L ((1, lshl x y) :: S) g) : VF X Qf ad N k n w pc L ((0, y) :: (1, x) :: S) g := by
  intro o ho hw hp hL hS H locs ls hP hV hl hI
  have e : Int64.ofInt x <<< ((Int32.ofInt y).toInt64 &&& 63) = Int64.ofInt (lshl x y) := by rw [lshl, Int64.ofInt_toInt]
  have hk := kk o ho hw hp hL (al_c (jo_l _) (al_t (al_t hS))) H locs ls hP hV hl hI
  simp only [List.map_cons, jc] at hk ⊢
  rw [← e] at hk
  exact lv_lshl C.1 C.2.1 d rfl hk
theorem vf_lshr (C : Cx X cc own) {x y : Int} (d : decode cc pc = .ok (.lshr, 1)) (kk : VF X Qf ad N k n w (pc + 1) L ((1, lshr x y) :: S) g) : VF X Qf ad N k n w pc L ((0, y) :: (1, x) :: S) g := by
  intro o ho hw hp hL hS H locs ls hP hV hl hI
  have e : Int64.ofInt x >>> ((Int32.ofInt y).toInt64 &&& 63) = Int64.ofInt (lshr x y) := by rw [lshr, Int64.ofInt_toInt]
  have hk := kk o ho hw hp hL (al_c (jo_l _) (al_t (al_t hS))) H locs ls hP hV hl hI
  simp only [List.map_cons, jc] at hk ⊢
  rw [← e] at hk
  exact lv_lshr C.1 C.2.1 d rfl hk
theorem vf_idiv (C : Cx X cc own) {x y : Int} {g1 : Option (Int × Wd)} (d : decode cc pc = .ok (.idiv, 1)) (kk : VF X Qf ad N k n w (pc + 1) L ((0, idiv x y) :: S) g1) : VF X Qf ad N k n w pc L ((0, y) :: (0, x) :: S) (if y = 0 then none else g1) := by
  intro o ho hw hp hL hS H locs ls hP hV hl hI
  by_cases hy : y = 0
  · rw [if_pos hy] at ho; cases ho
  rw [if_neg hy] at ho
  have hy0 : ¬ Int32.ofInt y = 0 := fun q => hy ((i32_eq (al_h hS) jo00).mp q)
  have e : Int32.ofInt x / Int32.ofInt y = Int32.ofInt (idiv x y) := by rw [idiv, Int32.ofInt_toInt]
  have hk := kk o ho hw hp hL (al_c (jo_i _) (al_t (al_t hS))) H locs ls hP hV hl hI
  simp only [List.map_cons, jc] at hk ⊢
  rw [← e] at hk
  exact lv_idiv C.1 C.2.1 d hy0 hk
theorem vf_irem (C : Cx X cc own) {x y : Int} {g1 : Option (Int × Wd)} (d : decode cc pc = .ok (.irem, 1)) (kk : VF X Qf ad N k n w (pc + 1) L ((0, irem x y) :: S) g1) : VF X Qf ad N k n w pc L ((0, y) :: (0, x) :: S) (if y = 0 then none else g1) := by
  intro o ho hw hp hL hS H locs ls hP hV hl hI
  by_cases hy : y = 0
  · rw [if_pos hy] at ho; cases ho
  rw [if_neg hy] at ho
  have hy0 : ¬ Int32.ofInt y = 0 := fun q => hy ((i32_eq (al_h hS) jo00).mp q)
  have e : Int32.ofInt x - Int32.ofInt x / Int32.ofInt y * Int32.ofInt y = Int32.ofInt (irem x y) := by rw [irem, Int32.ofInt_toInt]
  have hk := kk o ho hw hp hL (al_c (jo_i _) (al_t (al_t hS))) H locs ls hP hV hl hI
  simp only [List.map_cons, jc] at hk ⊢
  rw [← e] at hk
  exact lv_irem C.1 C.2.1 d hy0 hk
theorem vf_ineg (C : Cx X cc own) {x : Int} (d : decode cc pc = .ok (.ineg, 1)) (kk : VF X Qf ad N k n w (pc + 1) L ((0, w32 (-x)) :: S) g) : VF X Qf ad N k n w pc L ((0, x) :: S) g := by
  intro o ho hw hp hL hS H locs ls hP hV hl hI
  have e : -Int32.ofInt x = Int32.ofInt (w32 (-x)) := by rw [i32_bmod, Int32.ofInt_neg]
  have hk := kk o ho hw hp hL (al_c (w32_jo _) (al_t hS)) H locs ls hP hV hl hI
  simp only [List.map_cons, jc] at hk ⊢
  rw [← e] at hk
  exact lv_ineg C.1 C.2.1 d hk
theorem vf_lneg (C : Cx X cc own) {x : Int} (d : decode cc pc = .ok (.lneg, 1)) (kk : VF X Qf ad N k n w (pc + 1) L ((1, w64 (-x)) :: S) g) : VF X Qf ad N k n w pc L ((1, x) :: S) g := by
  intro o ho hw hp hL hS H locs ls hP hV hl hI
  have e : -Int64.ofInt x = Int64.ofInt (w64 (-x)) := by rw [i64_bmod, Int64.ofInt_neg]
  have hk := kk o ho hw hp hL (al_c (w64_jo _) (al_t hS)) H locs ls hP hV hl hI
  simp only [List.map_cons, jc] at hk ⊢
  rw [← e] at hk
  exact lv_lneg C.1 C.2.1 d hk
theorem vf_i2b (C : Cx X cc own) {x : Int} (d : decode cc pc = .ok (.i2b, 1)) (kk : VF X Qf ad N k n w (pc + 1) L ((0, i2b x) :: S) g) : VF X Qf ad N k n w pc L ((0, x) :: S) g := by
  intro o ho hw hp hL hS H locs ls hP hV hl hI
  have e : (Int32.ofInt x).toInt8.toInt32 = Int32.ofInt (i2b x) := by rw [i2b, Int32.ofInt_toInt]
  have hk := kk o ho hw hp hL (al_c (jo_i _) (al_t hS)) H locs ls hP hV hl hI
  simp only [List.map_cons, jc] at hk ⊢
  rw [← e] at hk
  exact lv_i2b C.1 C.2.1 d rfl hk
theorem vf_i2s (C : Cx X cc own) {x : Int} (d : decode cc pc = .ok (.i2s, 1)) (kk : VF X Qf ad N k n w (pc + 1) L ((0, i2s x) :: S) g) : VF X Qf ad N k n w pc L ((0, x) :: S) g := by
  intro o ho hw hp hL hS H locs ls hP hV hl hI
  have e : (Int32.ofInt x).toInt16.toInt32 = Int32.ofInt (i2s x) := by rw [i2s, Int32.ofInt_toInt]
  have hk := kk o ho hw hp hL (al_c (jo_i _) (al_t hS)) H locs ls hP hV hl hI
  simp only [List.map_cons, jc] at hk ⊢
  rw [← e] at hk
  exact lv_i2s C.1 C.2.1 d rfl hk
theorem vf_i2c (C : Cx X cc own) {x : Int} (d : decode cc pc = .ok (.i2c, 1)) (kk : VF X Qf ad N k n w (pc + 1) L ((0, i2c x) :: S) g) : VF X Qf ad N k n w pc L ((0, x) :: S) g := by
  intro o ho hw hp hL hS H locs ls hP hV hl hI
  have e : ((Int32.ofInt x).toUInt32 % 65536).toInt32 = Int32.ofInt (i2c x) := by rw [i2c, Int32.ofInt_toInt]
  have hk := kk o ho hw hp hL (al_c (jo_i _) (al_t hS)) H locs ls hP hV hl hI
  simp only [List.map_cons, jc] at hk ⊢
  rw [← e] at hk
  exact lv_i2c C.1 C.2.1 d rfl hk
theorem i2l_eq {x : Int} (h : jo (0, x)) : (Int32.ofInt x).toInt64 = Int64.ofInt x := by
  have h' : -2147483648 ≤ x ∧ x < 2147483648 := h
  apply Int64.toInt_inj.mp
  have h2 : jo (1, x) := ⟨by omega, by omega⟩
  rw [Int32.toInt_toInt64, i32_toInt h, i64_toInt h2]
theorem vf_i2l (C : Cx X cc own) {x : Int} (d : decode cc pc = .ok (.i2l, 1)) (kk : VF X Qf ad N k n w (pc + 1) L ((1, x) :: S) g) : VF X Qf ad N k n w pc L ((0, x) :: S) g := by
  intro o ho hw hp hL hS H locs ls hP hV hl hI
  have h0 : jo (0, x) := al_h hS
  have h' : -2147483648 ≤ x ∧ x < 2147483648 := h0
  have h2 : jo (1, x) := ⟨by omega, by omega⟩
  exact lv_i2l C.1 C.2.1 d (i2l_eq h0) (kk o ho hw hp hL (al_c h2 (al_t hS)) H locs ls hP hV hl hI)
theorem vf_lcmp (C : Cx X cc own) {x y : Int} (d : decode cc pc = .ok (.lcmp, 1)) (kk : VF X Qf ad N k n w (pc + 1) L ((0, lcmp x y) :: S) g) : VF X Qf ad N k n w pc L ((1, y) :: (1, x) :: S) g := by
  intro o ho hw hp hL hS H locs ls hP hV hl hI
  have hy : jo (1, y) := al_h hS
  have hx : jo (1, x) := al_h (al_t hS)
  have e : lg_cmp (Int64.ofInt x) (Int64.ofInt y) = Int32.ofInt (lcmp x y) := by
    unfold lg_cmp lcmp
    by_cases h1 : y < x
    · rw [if_pos ((i64_lt hy hx).mpr h1), if_pos h1]; rfl
    · rw [if_neg (fun q => h1 ((i64_lt hy hx).mp q)), if_neg h1]
      by_cases h2 : x = y
      · rw [if_pos ((i64_eq hx hy).mpr h2), if_pos h2]; rfl
      · rw [if_neg (fun q => h2 ((i64_eq hx hy).mp q)), if_neg h2]; rfl
  have hj : jo (0, lcmp x y) := by
    show -2147483648 ≤ lcmp x y ∧ lcmp x y < 2147483648
    unfold lcmp
    repeat' split
    all_goals omega
  have hk := kk o ho hw hp hL (al_c hj (al_t (al_t hS))) H locs ls hP hV hl hI
  simp only [List.map_cons, jc] at hk ⊢
  rw [← e] at hk
  exact W.lcmp C.1 C.2.1 d hk
theorem jc_cat1 {ad : Nat → Nat} {v : jv} (h : v.1 ≠ 1) : (jc ad v).category = 1 := by rw [jc_cat, if_neg h]
theorem vf_dup (C : Cx X cc own) {v : jv} (d : decode cc pc = .ok (.dup, 1)) (hv : v.1 ≠ 1) (kk : VF X Qf ad N k n w (pc + 1) L (v :: v :: S) g) : VF X Qf ad N k n w pc L (v :: S) g := by
  intro o ho hw hp hL hS H locs ls hP hV hl hI
  exact lv_dup C.1 C.2.1 d (jc_cat1 hv) (kk o ho hw hp hL (al_c (al_h hS) hS) H locs ls hP hV hl hI)
theorem vf_pop (C : Cx X cc own) {v : jv} (d : decode cc pc = .ok (.pop, 1)) (hv : v.1 ≠ 1) (kk : VF X Qf ad N k n w (pc + 1) L S g) : VF X Qf ad N k n w pc L (v :: S) g := by
  intro o ho hw hp hL hS H locs ls hP hV hl hI
  exact lv_pop C.1 C.2.1 d (jc_cat1 hv) (kk o ho hw hp hL (al_t hS) H locs ls hP hV hl hI)
theorem vf_dup2 (C : Cx X cc own) {v u : jv} (d : decode cc pc = .ok (.dup2, 1)) (hv : v.1 ≠ 1) (hu : u.1 ≠ 1) (kk : VF X Qf ad N k n w (pc + 1) L (v :: u :: v :: u :: S) g) : VF X Qf ad N k n w pc L (v :: u :: S) g := by
  intro o ho hw hp hL hS H locs ls hP hV hl hI
  exact lv_dup2_11 C.1 C.2.1 d (jc_cat1 hv) (jc_cat1 hu) (kk o ho hw hp hL (al_c (al_h hS) (al_c (al_h (al_t hS)) hS)) H locs ls hP hV hl hI)
theorem vf_dup_x1 (C : Cx X cc own) {v u : jv} (d : decode cc pc = .ok (.dup_x1, 1)) (hv : v.1 ≠ 1) (hu : u.1 ≠ 1) (kk : VF X Qf ad N k n w (pc + 1) L (v :: u :: v :: S) g) : VF X Qf ad N k n w pc L (v :: u :: S) g := by
  intro o ho hw hp hL hS H locs ls hP hV hl hI
  exact lv_dup_x1 C.1 C.2.1 d (jc_cat1 hv) (jc_cat1 hu) (kk o ho hw hp hL (al_c (al_h hS) (al_c (al_h (al_t hS)) (al_c (al_h hS) (al_t (al_t hS))))) H locs ls hP hV hl hI)
theorem vf_icmp_eq (C : Cx X cc own) {x y : Int} {off : Int} {tgt : Nat} {g1 g2 : Option (Int × Wd)} (d : decode cc pc = .ok (.if_icmp .eq off, 3)) (ht : (pc : Int) + off = (tgt : Int)) (kt : VF X Qf ad N k n w tgt L S g1) (kf : VF X Qf ad N k n w (pc + 3) L S g2) : VF X Qf ad N k n w pc L ((0, y) :: (0, x) :: S) (if x = y then g1 else g2) := by
  intro o ho hw hp hL hS H locs ls hP hV hl hI
  have hy : jo (0, y) := al_h hS
  have hx : jo (0, x) := al_h (al_t hS)
  have he : (Int32.ofInt x = Int32.ofInt y ↔ x = y) := i32_eq hx hy
  refine lv_icmp_eq C.1 C.2.1 d ht (fun h => ?_) (fun h => ?_)
  · have h2 : x = y := he.mp h
    rw [if_pos h2] at ho
    exact kt o ho hw hp hL (al_t (al_t hS)) H locs ls hP hV hl hI
  · have h2 : ¬ (x = y) := fun q => h (he.mpr q)
    rw [if_neg h2] at ho
    exact kf o ho hw hp hL (al_t (al_t hS)) H locs ls hP hV hl hI
theorem vf_if_eq (C : Cx X cc own) {x : Int} {off : Int} {tgt : Nat} {g1 g2 : Option (Int × Wd)} (d : decode cc pc = .ok (.ifCond .eq off, 3)) (ht : (pc : Int) + off = (tgt : Int)) (kt : VF X Qf ad N k n w tgt L S g1) (kf : VF X Qf ad N k n w (pc + 3) L S g2) : VF X Qf ad N k n w pc L ((0, x) :: S) (if x = 0 then g1 else g2) := by
  intro o ho hw hp hL hS H locs ls hP hV hl hI
  have hx : jo (0, x) := al_h hS
  have hy : jo (0, (0 : Int)) := jo00
  have he : (Int32.ofInt x = Int32.ofInt 0 ↔ x = 0) := i32_eq hx hy
  refine lv_if_eq C.1 C.2.1 d ht (fun h => ?_) (fun h => ?_)
  · have h2 : x = 0 := he.mp h
    rw [if_pos h2] at ho
    exact kt o ho hw hp hL (al_t hS) H locs ls hP hV hl hI
  · have h2 : ¬ (x = 0) := fun q => h (he.mpr q)
    rw [if_neg h2] at ho
    exact kf o ho hw hp hL (al_t hS) H locs ls hP hV hl hI
theorem vf_icmp_ne (C : Cx X cc own) {x y : Int} {off : Int} {tgt : Nat} {g1 g2 : Option (Int × Wd)} (d : decode cc pc = .ok (.if_icmp .ne off, 3)) (ht : (pc : Int) + off = (tgt : Int)) (kt : VF X Qf ad N k n w tgt L S g1) (kf : VF X Qf ad N k n w (pc + 3) L S g2) : VF X Qf ad N k n w pc L ((0, y) :: (0, x) :: S) (if x = y then g2 else g1) := by
  intro o ho hw hp hL hS H locs ls hP hV hl hI
  have hy : jo (0, y) := al_h hS
  have hx : jo (0, x) := al_h (al_t hS)
  have he : (Int32.ofInt x = Int32.ofInt y ↔ x = y) := i32_eq hx hy
  refine lv_icmp_ne C.1 C.2.1 d ht (fun h => ?_) (fun h => ?_)
  · have h2 : ¬ (x = y) := fun q => h (he.mpr q)
    rw [if_neg h2] at ho
    exact kt o ho hw hp hL (al_t (al_t hS)) H locs ls hP hV hl hI
  · have h2 : x = y := he.mp h
    rw [if_pos h2] at ho
    exact kf o ho hw hp hL (al_t (al_t hS)) H locs ls hP hV hl hI
theorem vf_if_ne (C : Cx X cc own) {x : Int} {off : Int} {tgt : Nat} {g1 g2 : Option (Int × Wd)} (d : decode cc pc = .ok (.ifCond .ne off, 3)) (ht : (pc : Int) + off = (tgt : Int)) (kt : VF X Qf ad N k n w tgt L S g1) (kf : VF X Qf ad N k n w (pc + 3) L S g2) : VF X Qf ad N k n w pc L ((0, x) :: S) (if x = 0 then g2 else g1) := by
  intro o ho hw hp hL hS H locs ls hP hV hl hI
  have hx : jo (0, x) := al_h hS
  have hy : jo (0, (0 : Int)) := jo00
  have he : (Int32.ofInt x = Int32.ofInt 0 ↔ x = 0) := i32_eq hx hy
  refine lv_if_ne C.1 C.2.1 d ht (fun h => ?_) (fun h => ?_)
  · have h2 : ¬ (x = 0) := fun q => h (he.mpr q)
    rw [if_neg h2] at ho
    exact kt o ho hw hp hL (al_t hS) H locs ls hP hV hl hI
  · have h2 : x = 0 := he.mp h
    rw [if_pos h2] at ho
    exact kf o ho hw hp hL (al_t hS) H locs ls hP hV hl hI
theorem vf_icmp_lt (C : Cx X cc own) {x y : Int} {off : Int} {tgt : Nat} {g1 g2 : Option (Int × Wd)} (d : decode cc pc = .ok (.if_icmp .lt off, 3)) (ht : (pc : Int) + off = (tgt : Int)) (kt : VF X Qf ad N k n w tgt L S g1) (kf : VF X Qf ad N k n w (pc + 3) L S g2) : VF X Qf ad N k n w pc L ((0, y) :: (0, x) :: S) (if x < y then g1 else g2) := by
  intro o ho hw hp hL hS H locs ls hP hV hl hI
  have hy : jo (0, y) := al_h hS
  have hx : jo (0, x) := al_h (al_t hS)
  have he : (Int32.ofInt x < Int32.ofInt y ↔ x < y) := i32_lt hx hy
  refine lv_icmp_lt C.1 C.2.1 d ht (fun h => ?_) (fun h => ?_)
  · have h2 : x < y := he.mp h
    rw [if_pos h2] at ho
    exact kt o ho hw hp hL (al_t (al_t hS)) H locs ls hP hV hl hI
  · have h2 : ¬ (x < y) := fun q => h (he.mpr q)
    rw [if_neg h2] at ho
    exact kf o ho hw hp hL (al_t (al_t hS)) H locs ls hP hV hl hI
theorem vf_if_lt (C : Cx X cc own) {x : Int} {off : Int} {tgt : Nat} {g1 g2 : Option (Int × Wd)} (d : decode cc pc = .ok (.ifCond .lt off, 3)) (ht : (pc : Int) + off = (tgt : Int)) (kt : VF X Qf ad N k n w tgt L S g1) (kf : VF X Qf ad N k n w (pc + 3) L S g2) : VF X Qf ad N k n w pc L ((0, x) :: S) (if x < 0 then g1 else g2) := by
  intro o ho hw hp hL hS H locs ls hP hV hl hI
  have hx : jo (0, x) := al_h hS
  have hy : jo (0, (0 : Int)) := jo00
  have he : (Int32.ofInt x < Int32.ofInt 0 ↔ x < 0) := i32_lt hx hy
  refine lv_if_lt C.1 C.2.1 d ht (fun h => ?_) (fun h => ?_)
  · have h2 : x < 0 := he.mp h
    rw [if_pos h2] at ho
    exact kt o ho hw hp hL (al_t hS) H locs ls hP hV hl hI
  · have h2 : ¬ (x < 0) := fun q => h (he.mpr q)
    rw [if_neg h2] at ho
    exact kf o ho hw hp hL (al_t hS) H locs ls hP hV hl hI
theorem vf_icmp_ge (C : Cx X cc own) {x y : Int} {off : Int} {tgt : Nat} {g1 g2 : Option (Int × Wd)} (d : decode cc pc = .ok (.if_icmp .ge off, 3)) (ht : (pc : Int) + off = (tgt : Int)) (kt : VF X Qf ad N k n w tgt L S g1) (kf : VF X Qf ad N k n w (pc + 3) L S g2) : VF X Qf ad N k n w pc L ((0, y) :: (0, x) :: S) (if y ≤ x then g1 else g2) := by
  intro o ho hw hp hL hS H locs ls hP hV hl hI
  have hy : jo (0, y) := al_h hS
  have hx : jo (0, x) := al_h (al_t hS)
  have he : (Int32.ofInt y ≤ Int32.ofInt x ↔ y ≤ x) := i32_le hy hx
  refine lv_icmp_ge C.1 C.2.1 d ht (fun h => ?_) (fun h => ?_)
  · have h2 : y ≤ x := he.mp h
    rw [if_pos h2] at ho
    exact kt o ho hw hp hL (al_t (al_t hS)) H locs ls hP hV hl hI
  · have h2 : ¬ (y ≤ x) := fun q => h (he.mpr q)
    rw [if_neg h2] at ho
    exact kf o ho hw hp hL (al_t (al_t hS)) H locs ls hP hV hl hI
theorem vf_if_ge (C : Cx X cc own) {x : Int} {off : Int} {tgt : Nat} {g1 g2 : Option (Int × Wd)} (d : decode cc pc = .ok (.ifCond .ge off, 3)) (ht : (pc : Int) + off = (tgt : Int)) (kt : VF X Qf ad N k n w tgt L S g1) (kf : VF X Qf ad N k n w (pc + 3) L S g2) : VF X Qf ad N k n w pc L ((0, x) :: S) (if 0 ≤ x then g1 else g2) := by
  intro o ho hw hp hL hS H locs ls hP hV hl hI
  have hx : jo (0, x) := al_h hS
  have hy : jo (0, (0 : Int)) := jo00
  have he : (Int32.ofInt 0 ≤ Int32.ofInt x ↔ 0 ≤ x) := i32_le hy hx
  refine lv_if_ge C.1 C.2.1 d ht (fun h => ?_) (fun h => ?_)
  · have h2 : 0 ≤ x := he.mp h
    rw [if_pos h2] at ho
    exact kt o ho hw hp hL (al_t hS) H locs ls hP hV hl hI
  · have h2 : ¬ (0 ≤ x) := fun q => h (he.mpr q)
    rw [if_neg h2] at ho
    exact kf o ho hw hp hL (al_t hS) H locs ls hP hV hl hI
theorem vf_icmp_gt (C : Cx X cc own) {x y : Int} {off : Int} {tgt : Nat} {g1 g2 : Option (Int × Wd)} (d : decode cc pc = .ok (.if_icmp .gt off, 3)) (ht : (pc : Int) + off = (tgt : Int)) (kt : VF X Qf ad N k n w tgt L S g1) (kf : VF X Qf ad N k n w (pc + 3) L S g2) : VF X Qf ad N k n w pc L ((0, y) :: (0, x) :: S) (if y < x then g1 else g2) := by
  intro o ho hw hp hL hS H locs ls hP hV hl hI
  have hy : jo (0, y) := al_h hS
  have hx : jo (0, x) := al_h (al_t hS)
  have he : (Int32.ofInt y < Int32.ofInt x ↔ y < x) := i32_lt hy hx
  refine lv_icmp_gt C.1 C.2.1 d ht (fun h => ?_) (fun h => ?_)
  · have h2 : y < x := he.mp h
    rw [if_pos h2] at ho
    exact kt o ho hw hp hL (al_t (al_t hS)) H locs ls hP hV hl hI
  · have h2 : ¬ (y < x) := fun q => h (he.mpr q)
    rw [if_neg h2] at ho
    exact kf o ho hw hp hL (al_t (al_t hS)) H locs ls hP hV hl hI
theorem vf_if_gt (C : Cx X cc own) {x : Int} {off : Int} {tgt : Nat} {g1 g2 : Option (Int × Wd)} (d : decode cc pc = .ok (.ifCond .gt off, 3)) (ht : (pc : Int) + off = (tgt : Int)) (kt : VF X Qf ad N k n w tgt L S g1) (kf : VF X Qf ad N k n w (pc + 3) L S g2) : VF X Qf ad N k n w pc L ((0, x) :: S) (if 0 < x then g1 else g2) := by
  intro o ho hw hp hL hS H locs ls hP hV hl hI
  have hx : jo (0, x) := al_h hS
  have hy : jo (0, (0 : Int)) := jo00
  have he : (Int32.ofInt 0 < Int32.ofInt x ↔ 0 < x) := i32_lt hy hx
  refine lv_if_gt C.1 C.2.1 d ht (fun h => ?_) (fun h => ?_)
  · have h2 : 0 < x := he.mp h
    rw [if_pos h2] at ho
    exact kt o ho hw hp hL (al_t hS) H locs ls hP hV hl hI
  · have h2 : ¬ (0 < x) := fun q => h (he.mpr q)
    rw [if_neg h2] at ho
    exact kf o ho hw hp hL (al_t hS) H locs ls hP hV hl hI
theorem vf_icmp_le (C : Cx X cc own) {x y : Int} {off : Int} {tgt : Nat} {g1 g2 : Option (Int × Wd)} (d : decode cc pc = .ok (.if_icmp .le off, 3)) (ht : (pc : Int) + off = (tgt : Int)) (kt : VF X Qf ad N k n w tgt L S g1) (kf : VF X Qf ad N k n w (pc + 3) L S g2) : VF X Qf ad N k n w pc L ((0, y) :: (0, x) :: S) (if x ≤ y then g1 else g2) := by
  intro o ho hw hp hL hS H locs ls hP hV hl hI
  have hy : jo (0, y) := al_h hS
  have hx : jo (0, x) := al_h (al_t hS)
  have he : (Int32.ofInt x ≤ Int32.ofInt y ↔ x ≤ y) := i32_le hx hy
  refine lv_icmp_le C.1 C.2.1 d ht (fun h => ?_) (fun h => ?_)
  · have h2 : x ≤ y := he.mp h
    rw [if_pos h2] at ho
    exact kt o ho hw hp hL (al_t (al_t hS)) H locs ls hP hV hl hI
  · have h2 : ¬ (x ≤ y) := fun q => h (he.mpr q)
    rw [if_neg h2] at ho
    exact kf o ho hw hp hL (al_t (al_t hS)) H locs ls hP hV hl hI
theorem vf_if_le (C : Cx X cc own) {x : Int} {off : Int} {tgt : Nat} {g1 g2 : Option (Int × Wd)} (d : decode cc pc = .ok (.ifCond .le off, 3)) (ht : (pc : Int) + off = (tgt : Int)) (kt : VF X Qf ad N k n w tgt L S g1) (kf : VF X Qf ad N k n w (pc + 3) L S g2) : VF X Qf ad N k n w pc L ((0, x) :: S) (if x ≤ 0 then g1 else g2) := by
  intro o ho hw hp hL hS H locs ls hP hV hl hI
  have hx : jo (0, x) := al_h hS
  have hy : jo (0, (0 : Int)) := jo00
  have he : (Int32.ofInt x ≤ Int32.ofInt 0 ↔ x ≤ 0) := i32_le hx hy
  refine lv_if_le C.1 C.2.1 d ht (fun h => ?_) (fun h => ?_)
  · have h2 : x ≤ 0 := he.mp h
    rw [if_pos h2] at ho
    exact kt o ho hw hp hL (al_t hS) H locs ls hP hV hl hI
  · have h2 : ¬ (x ≤ 0) := fun q => h (he.mpr q)
    rw [if_neg h2] at ho
    exact kf o ho hw hp hL (al_t hS) H locs ls hP hV hl hI
theorem vf_goto (C : Cx X cc own) {off : Int} {tgt : Nat} (d : decode cc pc = .ok (.goto off, 3)) (ht : (pc : Int) + off = (tgt : Int)) (kk : VF X Qf ad N k n w tgt L S g) : VF X Qf ad N k n w pc L S g := by
  intro o ho hw hp hL hS H locs ls hP hV hl hI
  exact lv_goto C.1 C.2.1 d ht (kk o ho hw hp hL hS H locs ls hP hV hl hI)
end
end
section
section
variable {X : jX} {cc : ByteArray} {own : String} {Qf : Int × Wd → State → Prop} {ad : Nat → Nat} {N k n pc : Nat} {w : Wd} {L : List (Nat × jv)} {S : List jv} {g : Option (Int × Wd)}
/-- a field's link: the entry idx of own's pool names field k of the class number ci -/
def FL (own : String) (idx ci k : Nat) : Prop := ∃ q : vw_C, cl[ci]? = some q ∧ k < q.2.2 ∧ (Cond.fieldLink own idx (q.2.1 k).1 (q.2.1 k).2.1 (q.2.1 k).2.2.1 ∈ gw_tbl ∨ ∃ host, Cond.fieldLinkNest own idx (q.2.1 k).1 (q.2.1 k).2.1 (q.2.1 k).2.2.1 host ∈ nw_tbl)
theorem vf_getq (C : Cx X cc own) {idx c ci fk z : Nat} {fs : List (Nat × Nat)} {i : Nat} (hf : FL own idx ci i) (hs : sh c = some (.inl (ci, fs))) (hk : fs[i]? = some (fk, z)) (hc : c < N) (d : decode cc pc = .ok (.getfield idx, 3)) (kk : VF X Qf ad N k n w (pc + 3) L ((jk fk, w c i) :: S) g) : VF X Qf ad N k n w pc L ((2, ((c + 1 : Nat) : Int)) :: S) g := by
  intro o ho hw hp hL hS H locs ls hP hV hl hI
  obtain ⟨q, h1, h2, h3⟩ := hf
  have hj : jo (jk fk, w c i) := by
    have := hw c i
    simp only [jkA, hs] at this
    rwa [show (fs.getD i (0, 0)) = (fk, z) by simp [List.getD_eq_getElem?_getD, hk]] at this
  have hk2 := kk o ho hw hp hL (al_c hj (al_t hS)) H locs ls hP hV hl hI
  have he : (wl ad (xC X) w N)[c]? = some (ad c, .inr (ci, jfs ad w c fs)) := by rw [wl_at hc]; simp only [jcell, hs]
  have e0 : jc ad (2, ((c + 1 : Nat) : Int)) = .ref (ad c) := jc_rf
  simp only [List.map_cons] at hk2 ⊢
  rw [e0]
  rcases h3 with h3 | ⟨host, h3⟩
  · exact va_get C.1 C.2.1 C.2.2.2.1 (cl_ok ci q h1).1 C.2.2.1 C.2.2.2.2.1 hP c he h1 i h2 (C.2.2.2.1 _ h3) (fun _ h => h) (jfs_at hk) d hk2
  · exact va_getN C.1 C.2.1 C.2.2.2.1 (cl_ok ci q h1).1 C.2.2.1 C.2.2.2.2.1 hP c he h1 i h2 (va_Nw.use rfl (C.2.2.2.2.2.2 _ h3)) (fun _ h => h) (jfs_at hk) d hk2
/-- an int, a long, a boolean -/
theorem vf_get (C : Cx X cc own) {idx c ci fk z kd : Nat} {fs : List (Nat × Nat)} {i : Nat} {r : Int} (hf : FL own idx ci i) (hs : sh c = some (.inl (ci, fs))) (hk : fs[i]? = some (fk, z)) (hc : c < N) (hr : r = ((c + 1 : Nat) : Int)) (hkd : jk fk = kd) (d : decode cc pc = .ok (.getfield idx, 3)) (kk : VF X Qf ad N k n w (pc + 3) L ((kd, w c i) :: S) g) : VF X Qf ad N k n w pc L ((2, r) :: S) g := by
  subst hr
  subst hkd
  exact vf_getq C hf hs hk hc d kk
/-- a final reference, behind the constructors -/
theorem vf_getp (C : Cx X cc own) {idx c ci z : Nat} {fs : List (Nat × Nat)} {i : Nat} {r x : Int} (hf : FL own idx ci i) (hs : sh c = some (.inl (ci, fs))) (hk : fs[i]? = some (3, z)) (hc : c < NF) (hr : r = ((c + 1 : Nat) : Int)) (hx : x = (z : Int)) (d : decode cc pc = .ok (.getfield idx, 3)) (kk : VF X Qf ad NF k n w (pc + 3) L ((2, x) :: S) g) : VF X Qf ad NF k n w pc L ((2, r) :: S) g := by
  subst hr
  subst hx
  intro o ho hw hp
  have e : w c i = (z : Int) := by
    apply hp rfl
    simp only [jpt, hs, hk]
  have kk2 : VF X Qf ad NF k n w (pc + 3) L ((jk 3, w c i) :: S) g := by
    rw [e]; exact kk
  exact vf_getq C hf hs hk hc d kk2 o ho hw hp
theorem st_wok {w : Wd} {c i : Nat} {z : Int} (hw : wok w) (hz : jo (jkA c i, z)) : wok (st w c i z) := by
  intro c' k'
  by_cases h : c' = c ∧ k' = i
  · obtain ⟨rfl, rfl⟩ := h
    rw [st_eq]; exact hz
  · have : st w c i z c' k' = w c' k' := by simp [st, h]
    rw [this]; exact hw c' k'
theorem st_wpt {w : Wd} {c i : Nat} {z : Int} (hw : wpt w) (hz : jpt c i = none) : wpt (st w c i z) := by
  intro c' k' v hv
  by_cases h : c' = c ∧ k' = i
  · obtain ⟨rfl, rfl⟩ := h
    rw [hz] at hv; cases hv
  · have : st w c i z c' k' = w c' k' := by simp [st, h]
    rw [this]; exact hw c' k' v hv
theorem jfs_set {ad : Nat → Nat} {w : Wd} {c i fk z0 : Nat} {z : Int} {fs : List (Nat × Nat)} (hk : fs[i]? = some (fk, z0)) : (jfs ad w c fs).set i (jc ad (jk fk, z)) = jfs ad (st w c i z) c fs := by
  apply List.ext_getElem?
  intro j
  have hi : i < fs.length := (List.getElem?_eq_some_iff.mp hk).1
  by_cases hj : j = i
  · subst hj
    rw [List.getElem?_set_self (by rw [jfs_len]; exact hi), jfs_at hk, st_eq]
  · rw [List.getElem?_set_ne (Ne.symm hj)]
    by_cases hl : j < fs.length
    · have e : fs[j]? = some (fs[j].1, fs[j].2) := by simp [hl]
      rw [jfs_at e, jfs_at e, st_k hj]
    · simp [jfs, hl]
/-- what a field of a kind takes -/
def jfit (fk : Nat) (z : Int) : Prop := fk = 0 ∨ fk = 1 ∨ (fk = 2) ∨ (fk = 4 ∧ (z = 0 ∨ z = 1))
/-- the class ci's field i has a type of kind fk, and isn't final -/
def FK (ci i fk : Nat) : Prop := ∃ q ty, cl[ci]? = some q ∧ parseFieldDescriptor (q.2.1 i).2.2.1 = some ty ∧ (q.2.1 i).2.2.2 = false ∧ ((fk = 0 ∧ ty = .int) ∨ (fk = 1 ∧ ty = .long) ∨ (fk = 4 ∧ ty = .boolean) ∨ (fk = 2 ∧ ((∃ C, ty = .object C) ∨ ∃ t, ty = .array t)))
theorem fit_ok {ad : Nat → Nat} {fk : Nat} {z : Int} {ty : FieldType} (h : (fk = 0 ∧ ty = .int) ∨ (fk = 1 ∧ ty = .long) ∨ (fk = 4 ∧ ty = .boolean) ∨ (fk = 2 ∧ ((∃ C, ty = .object C) ∨ ∃ t, ty = .array t))) (hz : fk = 4 → z = 0 ∨ z = 1) : narrow ty (jc ad (jk fk, z)) = jc ad (jk fk, z) ∧ fits ty (jc ad (jk fk, z)) = true := by
  rcases h with ⟨rfl, rfl⟩ | ⟨rfl, rfl⟩ | ⟨rfl, rfl⟩ | ⟨rfl, h⟩
  · exact ⟨rfl, rfl⟩
  · exact ⟨rfl, rfl⟩
  · rcases hz rfl with rfl | rfl
    · exact ⟨(by decide +kernel : narrow .boolean (.int (Int32.ofInt 0)) = .int (Int32.ofInt 0)), (by decide +kernel : fits .boolean (.int (Int32.ofInt 0)) = true)⟩
    · exact ⟨(by decide +kernel : narrow .boolean (.int (Int32.ofInt 1)) = .int (Int32.ofInt 1)), (by decide +kernel : fits .boolean (.int (Int32.ofInt 1)) = true)⟩
  · have : ∀ r, narrow ty (va_rf r) = va_rf r ∧ fits ty (va_rf r) = true := by
      intro r
      rcases h with ⟨C, rfl⟩ | ⟨t, rfl⟩ <;> cases r <;> exact ⟨rfl, rfl⟩
    exact this _
theorem vf_putq (C : Cx X cc own) {idx c ci fk z0 : Nat} {fs : List (Nat × Nat)} {i : Nat} {z : Int} (hf : FL own idx ci i) (hfk : FK ci i fk) (hs : sh c = some (.inl (ci, fs))) (hk : fs[i]? = some (fk, z0)) (hc : c < N) (h3 : fk ≠ 3) (hz : fk = 4 → z = 0 ∨ z = 1) (d : decode cc pc = .ok (.putfield idx, 3)) (kk : VF X Qf ad N k n (st w c i z) (pc + 3) L S g) : VF X Qf ad N k n w pc L ((jk fk, z) :: (2, ((c + 1 : Nat) : Int)) :: S) g := by
  intro o ho hw hp hL hS H locs ls hP hV hl hI
  obtain ⟨q, h1, h2, hln⟩ := hf
  obtain ⟨q', ty, h1', hty, hfin, hkd⟩ := hfk
  rw [h1] at h1'; cases h1'
  have hgd : fs.getD i (0, 0) = (fk, z0) := by simp [List.getD_eq_getElem?_getD, hk]
  have hjA : jkA c i = jk fk := by simp only [jkA, hs, hgd]
  have hpt : jpt c i = none := by
    simp only [jpt, hs, hk]
    split
    · rename_i heq; cases heq; exact absurd rfl h3
    · rfl
  have hw' : wok (st w c i z) := st_wok hw (by rw [hjA]; exact al_h hS)
  have hk2 := fun H1 locs1 P V => kk o ho hw' (fun e => st_wpt (hp e) hpt) hL (al_t (al_t hS)) H1 locs1 ls P V hl hI
  have he : (wl ad (xC X) w N)[c]? = some (ad c, .inr (ci, jfs ad w c fs)) := by rw [wl_at hc]; simp only [jcell, hs]
  have e0 : jc ad (2, ((c + 1 : Nat) : Int)) = .ref (ad c) := jc_rf
  obtain ⟨hn, hft⟩ := fit_ok (ad := ad) hkd hz
  obtain ⟨hws, ⟨ty0, -, hty0⟩, hnm⟩ := cl_ok ci q h1
  have hD : va_D (xA X) (wl ad (xC X) w N) := by
    refine ⟨fun a b p r ha hb e => ?_, fun a p ha => ?_⟩
    · have la : a < N := by have := (List.getElem?_eq_some_iff.mp ha).1; simpa [wl] using this
      have lb : b < N := by have := (List.getElem?_eq_some_iff.mp hb).1; simpa [wl] using this
      rw [wl_at la] at ha; rw [wl_at lb] at hb; cases ha; cases hb
      exact hI.1 a b la lb e
    · have la : a < N := by have := (List.getElem?_eq_some_iff.mp ha).1; simpa [wl] using this
      rw [wl_at la] at ha; cases ha
      exact hI.2 a la
  have hset : (wl ad (xC X) w N).set c (ad c, .inr (ci, (jfs ad w c fs).set i (jc ad (jk fk, z)))) = wl ad (xC X) (st w c i z) N :=
    wl_set hc (fun c' h => by funext k'; exact st_c h) (by simp only [jcell, hs]; rw [jfs_set hk])
  simp only [List.map_cons] at hk2 ⊢
  rw [e0]
  have hlen : i < (jfs ad w c fs).length := by rw [jfs_len]; exact (List.getElem?_eq_some_iff.mp hk).1
  rcases hln with h3 | ⟨host, h3⟩
  · exact va_put C.1 C.2.1 C.2.2.2.1 hws ty0 hty0 hnm C.2.2.1 C.2.2.2.2.1 hP hD hV c he h1 i h2 (C.2.2.2.1 _ h3) (fun _ h => h) hfin hty hn hft hlen d fun H1 locs1 P1 _ V1 => hk2 H1 locs1 (by rw [← hset]; exact P1) V1
  · exact va_putN C.1 C.2.1 C.2.2.2.1 hws ty0 hty0 hnm C.2.2.1 C.2.2.2.2.1 hP hD hV c he h1 i h2 (va_Nw.use rfl (C.2.2.2.2.2.2 _ h3)) (fun _ h => h) hfin hty hn hft hlen d fun H1 locs1 P1 _ V1 => hk2 H1 locs1 (by rw [← hset]; exact P1) V1
theorem vf_put (C : Cx X cc own) {idx c ci fk z0 kd : Nat} {fs : List (Nat × Nat)} {i : Nat} {z r : Int} (hf : FL own idx ci i) (hfk : FK ci i fk) (hs : sh c = some (.inl (ci, fs))) (hk : fs[i]? = some (fk, z0)) (hc : c < N) (hr : r = ((c + 1 : Nat) : Int)) (hkd : jk fk = kd) (h3 : fk ≠ 3 ∧ fk ≠ 4) (d : decode cc pc = .ok (.putfield idx, 3)) (kk : VF X Qf ad N k n (st w c i z) (pc + 3) L S g) : VF X Qf ad N k n w pc L ((kd, z) :: (2, r) :: S) g := by
  subst hr
  subst hkd
  exact vf_putq C hf hfk hs hk hc h3.1 (fun e => absurd e h3.2) d kk
/-- a boolean -/
theorem vf_putz (C : Cx X cc own) {idx c ci z0 : Nat} {fs : List (Nat × Nat)} {i : Nat} {z r : Int} (hf : FL own idx ci i) (hfk : FK ci i 4) (hs : sh c = some (.inl (ci, fs))) (hk : fs[i]? = some (4, z0)) (hc : c < N) (hr : r = ((c + 1 : Nat) : Int)) (d : decode cc pc = .ok (.putfield idx, 3)) (kk : VF X Qf ad N k n (st w c i z) (pc + 3) L S g) : VF X Qf ad N k n w pc L ((0, z) :: (2, r) :: S) (if z = 0 ∨ z = 1 then g else none) := by
  subst hr
  intro o ho
  by_cases hz : z = 0 ∨ z = 1
  · rw [if_pos hz] at ho
    exact vf_putq C hf hfk hs hk hc (by decide) (fun _ => hz) d kk o ho
  · rw [if_neg hz] at ho; cases ho
theorem wl_D {X : jX} {ad : Nat → Nat} {w : Wd} {N : Nat} (hI : jinj ad N (xA X)) : va_D (xA X) (wl ad (xC X) w N) := by
  refine ⟨fun a b p r ha hb e => ?_, fun a p ha => ?_⟩
  · have la : a < N := by have := (List.getElem?_eq_some_iff.mp ha).1; simpa [wl] using this
    have lb : b < N := by have := (List.getElem?_eq_some_iff.mp hb).1; simpa [wl] using this
    rw [wl_at la] at ha; rw [wl_at lb] at hb; cases ha; cases hb
    exact hI.1 a b la lb e
  · have la : a < N := by have := (List.getElem?_eq_some_iff.mp ha).1; simpa [wl] using this
    rw [wl_at la] at ha; cases ha
    exact hI.2 a la
theorem ix_in {i : Int} {m : Nat} (hi : jo (0, i)) (h : 0 ≤ i ∧ i < (m : Int)) : vp_in (Int32.ofInt i) m := vp_in_iff.mpr (by rw [i32_toInt hi]; exact h)
theorem ix_nat {i : Int} (hi : jo (0, i)) (h : 0 ≤ i) : (Int32.ofInt i).toNatClampNeg = i.toNat := by
  rw [← Int32.toNat_toInt, i32_toInt hi]
theorem vf_iald (C : Cx X cc own) {c m : Nat} {ps : List Nat} {i r mz : Int} (hs : sh c = some (.inr (0, m, ps))) (hc : c < N) (hr : r = ((c + 1 : Nat) : Int)) (hmz : mz = (m : Int)) (d : decode cc pc = .ok (.iaload, 1)) (kk : VF X Qf ad N k n w (pc + 1) L ((0, w c i.toNat) :: S) g) : VF X Qf ad N k n w pc L ((0, i) :: (2, r) :: S) (if 0 ≤ i ∧ i < mz then g else none) := by
  subst hr
  subst hmz
  intro o ho hw hp hL hS H locs ls hP hV hl hI
  by_cases hin : 0 ≤ i ∧ i < (m : Int)
  · rw [if_pos hin] at ho
    have hi : jo (0, i) := al_h hS
    have hj : jo (0, w c i.toNat) := by
      have := hw c i.toNat
      simpa only [jkA, hs] using this
    have hk2 := kk o ho hw hp hL (al_c hj (al_t (al_t hS))) H locs ls hP hV hl hI
    have he : (wl ad (xC X) w N)[c]? = some (ad c, .inl (xC X 0, jar ad w c 0 m)) := by rw [wl_at hc]; simp only [jcell, hs]
    have e0 : jc ad (2, ((c + 1 : Nat) : Int)) = .ref (ad c) := jc_rf
    simp only [List.map_cons] at hk2 ⊢
    rw [e0]
    rw [← ix_nat hi hin.1] at hk2
    exact va_iald C.1 C.2.1 C.2.2.2.2.1 hP c 0 he (jtys_at (by decide)) (ix_in hi hin) d hk2
  · rw [if_neg hin] at ho; cases ho
theorem vf_lald (C : Cx X cc own) {c m : Nat} {ps : List Nat} {i r mz : Int} (hs : sh c = some (.inr (1, m, ps))) (hc : c < N) (hr : r = ((c + 1 : Nat) : Int)) (hmz : mz = (m : Int)) (d : decode cc pc = .ok (.laload, 1)) (kk : VF X Qf ad N k n w (pc + 1) L ((1, w c i.toNat) :: S) g) : VF X Qf ad N k n w pc L ((0, i) :: (2, r) :: S) (if 0 ≤ i ∧ i < mz then g else none) := by
  subst hr
  subst hmz
  intro o ho hw hp hL hS H locs ls hP hV hl hI
  by_cases hin : 0 ≤ i ∧ i < (m : Int)
  · rw [if_pos hin] at ho
    have hi : jo (0, i) := al_h hS
    have hj : jo (1, w c i.toNat) := by
      have := hw c i.toNat
      simpa only [jkA, hs] using this
    have hk2 := kk o ho hw hp hL (al_c hj (al_t (al_t hS))) H locs ls hP hV hl hI
    have he : (wl ad (xC X) w N)[c]? = some (ad c, .inl (xC X 1, jar ad w c 1 m)) := by rw [wl_at hc]; simp only [jcell, hs]
    have e0 : jc ad (2, ((c + 1 : Nat) : Int)) = .ref (ad c) := jc_rf
    simp only [List.map_cons] at hk2 ⊢
    rw [e0]
    rw [← ix_nat hi hin.1] at hk2
    exact va_lald C.1 C.2.1 C.2.2.2.2.1 hP c 1 he (jtys_at (by decide)) (ix_in hi hin) d hk2
  · rw [if_neg hin] at ho; cases ho
theorem vf_bald (C : Cx X cc own) {c m : Nat} {ps : List Nat} {i r mz : Int} (hs : sh c = some (.inr (3, m, ps))) (hc : c < N) (hr : r = ((c + 1 : Nat) : Int)) (hmz : mz = (m : Int)) (d : decode cc pc = .ok (.baload, 1)) (kk : VF X Qf ad N k n w (pc + 1) L ((0, w c i.toNat) :: S) g) : VF X Qf ad N k n w pc L ((0, i) :: (2, r) :: S) (if 0 ≤ i ∧ i < mz then g else none) := by
  subst hr
  subst hmz
  intro o ho hw hp hL hS H locs ls hP hV hl hI
  by_cases hin : 0 ≤ i ∧ i < (m : Int)
  · rw [if_pos hin] at ho
    have hi : jo (0, i) := al_h hS
    have hj : jo (0, w c i.toNat) := by
      have := hw c i.toNat
      simpa only [jkA, hs] using this
    have hk2 := kk o ho hw hp hL (al_c hj (al_t (al_t hS))) H locs ls hP hV hl hI
    have he : (wl ad (xC X) w N)[c]? = some (ad c, .inl (xC X 3, jar ad w c 3 m)) := by rw [wl_at hc]; simp only [jcell, hs]
    have e0 : jc ad (2, ((c + 1 : Nat) : Int)) = .ref (ad c) := jc_rf
    simp only [List.map_cons] at hk2 ⊢
    rw [e0]
    rw [← ix_nat hi hin.1] at hk2
    exact va_bald C.1 C.2.1 C.2.2.2.2.1 hP c 3 he (jtys_at (by decide)) (ix_in hi hin) d hk2
  · rw [if_neg hin] at ho; cases ho
theorem vf_zald (C : Cx X cc own) {c m : Nat} {ps : List Nat} {i r mz : Int} (hs : sh c = some (.inr (4, m, ps))) (hc : c < N) (hr : r = ((c + 1 : Nat) : Int)) (hmz : mz = (m : Int)) (d : decode cc pc = .ok (.baload, 1)) (kk : VF X Qf ad N k n w (pc + 1) L ((0, w c i.toNat) :: S) g) : VF X Qf ad N k n w pc L ((0, i) :: (2, r) :: S) (if 0 ≤ i ∧ i < mz then g else none) := by
  subst hr
  subst hmz
  intro o ho hw hp hL hS H locs ls hP hV hl hI
  by_cases hin : 0 ≤ i ∧ i < (m : Int)
  · rw [if_pos hin] at ho
    have hi : jo (0, i) := al_h hS
    have hj : jo (0, w c i.toNat) := by
      have := hw c i.toNat
      simpa only [jkA, hs] using this
    have hk2 := kk o ho hw hp hL (al_c hj (al_t (al_t hS))) H locs ls hP hV hl hI
    have he : (wl ad (xC X) w N)[c]? = some (ad c, .inl (xC X 4, jar ad w c 4 m)) := by rw [wl_at hc]; simp only [jcell, hs]
    have e0 : jc ad (2, ((c + 1 : Nat) : Int)) = .ref (ad c) := jc_rf
    simp only [List.map_cons] at hk2 ⊢
    rw [e0]
    rw [← ix_nat hi hin.1] at hk2
    exact va_zald C.1 C.2.1 C.2.2.2.2.1 hP c 4 he (jtys_at (by decide)) (ix_in hi hin) d hk2
  · rw [if_neg hin] at ho; cases ho
theorem vf_cald (C : Cx X cc own) {c m : Nat} {ps : List Nat} {i r mz : Int} (hs : sh c = some (.inr (5, m, ps))) (hc : c < N) (hr : r = ((c + 1 : Nat) : Int)) (hmz : mz = (m : Int)) (d : decode cc pc = .ok (.caload, 1)) (kk : VF X Qf ad N k n w (pc + 1) L ((0, w c i.toNat) :: S) g) : VF X Qf ad N k n w pc L ((0, i) :: (2, r) :: S) (if 0 ≤ i ∧ i < mz then g else none) := by
  subst hr
  subst hmz
  intro o ho hw hp hL hS H locs ls hP hV hl hI
  by_cases hin : 0 ≤ i ∧ i < (m : Int)
  · rw [if_pos hin] at ho
    have hi : jo (0, i) := al_h hS
    have hj : jo (0, w c i.toNat) := by
      have := hw c i.toNat
      simpa only [jkA, hs] using this
    have hk2 := kk o ho hw hp hL (al_c hj (al_t (al_t hS))) H locs ls hP hV hl hI
    have he : (wl ad (xC X) w N)[c]? = some (ad c, .inl (xC X 5, jar ad w c 5 m)) := by rw [wl_at hc]; simp only [jcell, hs]
    have e0 : jc ad (2, ((c + 1 : Nat) : Int)) = .ref (ad c) := jc_rf
    simp only [List.map_cons] at hk2 ⊢
    rw [e0]
    rw [← ix_nat hi hin.1] at hk2
    exact va_cald C.1 C.2.1 C.2.2.2.2.1 hP c 5 he (jtys_at (by decide)) (ix_in hi hin) d hk2
  · rw [if_neg hin] at ho; cases ho
theorem vf_aald (C : Cx X cc own) {c m z : Nat} {ps : List Nat} {i r x : Int} (hs : sh c = some (.inr (2, m, ps))) (hc : c < NF) (hr : r = ((c + 1 : Nat) : Int)) (hi : 0 ≤ i ∧ i < (m : Int)) (hz : ps[i.toNat]? = some z) (hx : x = (z : Int)) (d : decode cc pc = .ok (.aaload, 1)) (kk : VF X Qf ad NF k n w (pc + 1) L ((2, x) :: S) g) : VF X Qf ad NF k n w pc L ((0, i) :: (2, r) :: S) g := by
  subst hr
  subst hx
  intro o ho hw hp hL hS H locs ls hP hV hl hI
  have hi0 : jo (0, i) := al_h hS
  have e : w c i.toNat = (z : Int) := by
    apply hp rfl
    simp only [jpt, hs, hz]
  have hk2 := kk o ho hw hp hL (al_c (show jo (2, (z : Int)) from Int.natCast_nonneg z) (al_t (al_t hS))) H locs ls hP hV hl hI
  have he : (wl ad (xC X) w NF)[c]? = some (ad c, .inl (xC X 2, jar ad w c 2 m)) := by rw [wl_at hc]; simp only [jcell, hs]
  have e0 : jc ad (2, ((c + 1 : Nat) : Int)) = .ref (ad c) := jc_rf
  simp only [List.map_cons] at hk2 ⊢
  rw [e0]
  rw [← e, ← ix_nat hi0 hi.1] at hk2
  exact va_aldq (C := "EachBringsAnother$Kept") C.1 C.2.1 C.2.2.2.2.1 hP c 2 he (jtys_at (by decide)) (ix_in hi0 hi) d hk2
theorem vf_iast (C : Cx X cc own) {c m : Nat} {ps : List Nat} {i v r mz : Int} (hs : sh c = some (.inr (0, m, ps))) (hc : c < N) (hr : r = ((c + 1 : Nat) : Int)) (hmz : mz = (m : Int)) (d : decode cc pc = .ok (.iastore, 1)) (kk : VF X Qf ad N k n (st w c i.toNat v) (pc + 1) L S g) : VF X Qf ad N k n w pc L ((0, v) :: (0, i) :: (2, r) :: S) (if 0 ≤ i ∧ i < mz then g else none) := by
  subst hr
  subst hmz
  intro o ho hw hp hL hS H locs ls hP hV hl hI
  by_cases hin : 0 ≤ i ∧ i < (m : Int)
  · rw [if_pos hin] at ho
    have hi : jo (0, i) := al_h (al_t hS)
    have hv : jo (0, v) := al_h hS
    have hw' : wok (st w c i.toNat v) := st_wok hw (by simp only [jkA, hs]; exact hv)
    have hpt : jpt c i.toNat = none := by simp only [jpt, hs]
    have hk2 := fun H1 locs1 P V => kk o ho hw' (fun e => st_wpt (hp e) hpt) hL (al_t (al_t (al_t hS))) H1 locs1 ls P V hl hI
    have he : (wl ad (xC X) w N)[c]? = some (ad c, .inl (xC X 0, jar ad w c 0 m)) := by rw [wl_at hc]; simp only [jcell, hs]
    have e0 : jc ad (2, ((c + 1 : Nat) : Int)) = .ref (ad c) := jc_rf
    simp only [List.map_cons] at hk2 ⊢
    rw [e0]
    refine va_iast C.1 C.2.1 C.2.2.2.2.1 hP (wl_D hI) hV c 0 he (jtys_at (by decide)) (ix_in hi hin) d fun H1 locs1 P1 _ V1 => hk2 H1 locs1 ?_ V1
    rw [← wl_set hc (fun c' h => by funext k'; exact st_c h) ?_]
    · exact P1
    · simp only [jcell, hs, jar]
      congr 1; congr 1; congr 1; congr 1
      funext q
      rw [ix_nat hi hin.1]
      by_cases hq : q = i.toNat
      · subst hq
        simp [upd, st_eq]
      · simp [upd, hq, st_k hq]
  · rw [if_neg hin] at ho; cases ho
theorem vf_last (C : Cx X cc own) {c m : Nat} {ps : List Nat} {i v r mz : Int} (hs : sh c = some (.inr (1, m, ps))) (hc : c < N) (hr : r = ((c + 1 : Nat) : Int)) (hmz : mz = (m : Int)) (d : decode cc pc = .ok (.lastore, 1)) (kk : VF X Qf ad N k n (st w c i.toNat v) (pc + 1) L S g) : VF X Qf ad N k n w pc L ((1, v) :: (0, i) :: (2, r) :: S) (if 0 ≤ i ∧ i < mz then g else none) := by
  subst hr
  subst hmz
  intro o ho hw hp hL hS H locs ls hP hV hl hI
  by_cases hin : 0 ≤ i ∧ i < (m : Int)
  · rw [if_pos hin] at ho
    have hi : jo (0, i) := al_h (al_t hS)
    have hv : jo (1, v) := al_h hS
    have hw' : wok (st w c i.toNat v) := st_wok hw (by simp only [jkA, hs]; exact hv)
    have hpt : jpt c i.toNat = none := by simp only [jpt, hs]
    have hk2 := fun H1 locs1 P V => kk o ho hw' (fun e => st_wpt (hp e) hpt) hL (al_t (al_t (al_t hS))) H1 locs1 ls P V hl hI
    have he : (wl ad (xC X) w N)[c]? = some (ad c, .inl (xC X 1, jar ad w c 1 m)) := by rw [wl_at hc]; simp only [jcell, hs]
    have e0 : jc ad (2, ((c + 1 : Nat) : Int)) = .ref (ad c) := jc_rf
    simp only [List.map_cons] at hk2 ⊢
    rw [e0]
    refine va_last C.1 C.2.1 C.2.2.2.2.1 hP (wl_D hI) hV c 1 he (jtys_at (by decide)) (ix_in hi hin) d fun H1 locs1 P1 _ V1 => hk2 H1 locs1 ?_ V1
    rw [← wl_set hc (fun c' h => by funext k'; exact st_c h) ?_]
    · exact P1
    · simp only [jcell, hs, jar]
      congr 1; congr 1; congr 1; congr 1; congr 1
      funext q
      rw [ix_nat hi hin.1]
      by_cases hq : q = i.toNat
      · subst hq
        simp [vp_updL, st_eq]
      · simp [vp_updL, hq, st_k hq]
  · rw [if_neg hin] at ho; cases ho
theorem vf_bast (C : Cx X cc own) {c m : Nat} {ps : List Nat} {i v r mz : Int} (hs : sh c = some (.inr (3, m, ps))) (hc : c < N) (hr : r = ((c + 1 : Nat) : Int)) (hmz : mz = (m : Int)) (d : decode cc pc = .ok (.bastore, 1)) (kk : VF X Qf ad N k n (st w c i.toNat (nb v)) (pc + 1) L S g) : VF X Qf ad N k n w pc L ((0, v) :: (0, i) :: (2, r) :: S) (if 0 ≤ i ∧ i < mz then g else none) := by
  subst hr
  subst hmz
  intro o ho hw hp hL hS H locs ls hP hV hl hI
  by_cases hin : 0 ≤ i ∧ i < (m : Int)
  · rw [if_pos hin] at ho
    have hi : jo (0, i) := al_h (al_t hS)
    have hv : jo (0, v) := al_h hS
    have hw' : wok (st w c i.toNat (nb v)) := st_wok hw (by simp only [jkA, hs]; exact jo_i _)
    have hpt : jpt c i.toNat = none := by simp only [jpt, hs]
    have hk2 := fun H1 locs1 P V => kk o ho hw' (fun e => st_wpt (hp e) hpt) hL (al_t (al_t (al_t hS))) H1 locs1 ls P V hl hI
    have he : (wl ad (xC X) w N)[c]? = some (ad c, .inl (xC X 3, jar ad w c 3 m)) := by rw [wl_at hc]; simp only [jcell, hs]
    have e0 : jc ad (2, ((c + 1 : Nat) : Int)) = .ref (ad c) := jc_rf
    simp only [List.map_cons] at hk2 ⊢
    rw [e0]
    refine va_bast C.1 C.2.1 C.2.2.2.2.1 hP (wl_D hI) hV c 3 he (jtys_at (by decide)) (ix_in hi hin) d fun H1 locs1 P1 _ V1 => hk2 H1 locs1 ?_ V1
    rw [← wl_set hc (fun c' h => by funext k'; exact st_c h) ?_]
    · exact P1
    · simp only [jcell, hs, jar]
      congr 1; congr 1; congr 1; congr 1
      funext q
      rw [ix_nat hi hin.1]
      by_cases hq : q = i.toNat
      · subst hq
        simp [upd, st_eq, nb, Int32.ofInt_toInt]
      · simp [upd, hq, st_k hq]
  · rw [if_neg hin] at ho; cases ho
theorem vf_zast (C : Cx X cc own) {c m : Nat} {ps : List Nat} {i v r mz : Int} (hs : sh c = some (.inr (4, m, ps))) (hc : c < N) (hr : r = ((c + 1 : Nat) : Int)) (hmz : mz = (m : Int)) (d : decode cc pc = .ok (.bastore, 1)) (kk : VF X Qf ad N k n (st w c i.toNat (nz v)) (pc + 1) L S g) : VF X Qf ad N k n w pc L ((0, v) :: (0, i) :: (2, r) :: S) (if 0 ≤ i ∧ i < mz then g else none) := by
  subst hr
  subst hmz
  intro o ho hw hp hL hS H locs ls hP hV hl hI
  by_cases hin : 0 ≤ i ∧ i < (m : Int)
  · rw [if_pos hin] at ho
    have hi : jo (0, i) := al_h (al_t hS)
    have hv : jo (0, v) := al_h hS
    have hw' : wok (st w c i.toNat (nz v)) := st_wok hw (by simp only [jkA, hs]; exact jo_i _)
    have hpt : jpt c i.toNat = none := by simp only [jpt, hs]
    have hk2 := fun H1 locs1 P V => kk o ho hw' (fun e => st_wpt (hp e) hpt) hL (al_t (al_t (al_t hS))) H1 locs1 ls P V hl hI
    have he : (wl ad (xC X) w N)[c]? = some (ad c, .inl (xC X 4, jar ad w c 4 m)) := by rw [wl_at hc]; simp only [jcell, hs]
    have e0 : jc ad (2, ((c + 1 : Nat) : Int)) = .ref (ad c) := jc_rf
    simp only [List.map_cons] at hk2 ⊢
    rw [e0]
    refine va_zast C.1 C.2.1 C.2.2.2.2.1 hP (wl_D hI) hV c 4 he (jtys_at (by decide)) (ix_in hi hin) d fun H1 locs1 P1 _ V1 => hk2 H1 locs1 ?_ V1
    rw [← wl_set hc (fun c' h => by funext k'; exact st_c h) ?_]
    · exact P1
    · simp only [jcell, hs, jar]
      congr 1; congr 1; congr 1; congr 1
      funext q
      rw [ix_nat hi hin.1]
      by_cases hq : q = i.toNat
      · subst hq
        simp [upd, st_eq, nz, Int32.ofInt_toInt]
      · simp [upd, hq, st_k hq]
  · rw [if_neg hin] at ho; cases ho
theorem vf_cast (C : Cx X cc own) {c m : Nat} {ps : List Nat} {i v r mz : Int} (hs : sh c = some (.inr (5, m, ps))) (hc : c < N) (hr : r = ((c + 1 : Nat) : Int)) (hmz : mz = (m : Int)) (d : decode cc pc = .ok (.castore, 1)) (kk : VF X Qf ad N k n (st w c i.toNat (nc v)) (pc + 1) L S g) : VF X Qf ad N k n w pc L ((0, v) :: (0, i) :: (2, r) :: S) (if 0 ≤ i ∧ i < mz then g else none) := by
  subst hr
  subst hmz
  intro o ho hw hp hL hS H locs ls hP hV hl hI
  by_cases hin : 0 ≤ i ∧ i < (m : Int)
  · rw [if_pos hin] at ho
    have hi : jo (0, i) := al_h (al_t hS)
    have hv : jo (0, v) := al_h hS
    have hw' : wok (st w c i.toNat (nc v)) := st_wok hw (by simp only [jkA, hs]; exact jo_i _)
    have hpt : jpt c i.toNat = none := by simp only [jpt, hs]
    have hk2 := fun H1 locs1 P V => kk o ho hw' (fun e => st_wpt (hp e) hpt) hL (al_t (al_t (al_t hS))) H1 locs1 ls P V hl hI
    have he : (wl ad (xC X) w N)[c]? = some (ad c, .inl (xC X 5, jar ad w c 5 m)) := by rw [wl_at hc]; simp only [jcell, hs]
    have e0 : jc ad (2, ((c + 1 : Nat) : Int)) = .ref (ad c) := jc_rf
    simp only [List.map_cons] at hk2 ⊢
    rw [e0]
    refine va_cast C.1 C.2.1 C.2.2.2.2.1 hP (wl_D hI) hV c 5 he (jtys_at (by decide)) (ix_in hi hin) d fun H1 locs1 P1 _ V1 => hk2 H1 locs1 ?_ V1
    rw [← wl_set hc (fun c' h => by funext k'; exact st_c h) ?_]
    · exact P1
    · simp only [jcell, hs, jar]
      congr 1; congr 1; congr 1; congr 1
      funext q
      rw [ix_nat hi hin.1]
      by_cases hq : q = i.toNat
      · subst hq
        simp [upd, st_eq, nc, Int32.ofInt_toInt]
      · simp [upd, hq, st_k hq]
  · rw [if_neg hin] at ho; cases ho
theorem vf_alen (C : Cx X cc own) {c m ak : Nat} {ps : List Nat} {r x : Int} (hs : sh c = some (.inr (ak, m, ps))) (hak : ak < 6) (hc : c < N) (hr : r = ((c + 1 : Nat) : Int)) (hx : x = (m : Int)) (hm : jo (0, x)) (d : decode cc pc = .ok (.arraylength, 1)) (kk : VF X Qf ad N k n w (pc + 1) L ((0, x) :: S) g) : VF X Qf ad N k n w pc L ((2, r) :: S) g := by
  subst hr
  subst hx
  intro o ho hw hp hL hS H locs ls hP hV hl hI
  have hk2 := kk o ho hw hp hL (al_c hm (al_t hS)) H locs ls hP hV hl hI
  have he : (wl ad (xC X) w N)[c]? = some (ad c, .inl (xC X ak, jar ad w c ak m)) := by rw [wl_at hc]; simp only [jcell, hs]
  have e0 : jc ad (2, ((c + 1 : Nat) : Int)) = .ref (ad c) := jc_rf
  simp only [List.map_cons] at hk2 ⊢
  rw [e0]
  exact va_alen C.1 C.2.1 C.2.2.2.2.1 hP c ak he (jtys_at hak) (v := Int32.ofInt (m : Int)) (by rw [Int32.ofInt_eq_ofNat]; rfl) d hk2
-- naming, guards, switches
def jlet {α : Type} (x : Int) (f : Int → α) : α := f x
def jlw {α : Type} (w : Wd) (f : Wd → α) : α := f w
def jcall (x : Option (Int × Wd)) (f : Int → Wd → Option (Int × Wd)) : Option (Int × Wd) := match x with
  | none => none
  | some (r, w) => f r w
theorem vf_no {S : List jv} : VF X Qf ad N k n w pc L S none := fun o ho => by cases ho
theorem vf_perm {L' : List (Nat × jv)} (ps : List Nat) (h : L' = ps.filterMap (fun j => L[j]?)) (kk : VF X Qf ad N k n w pc L' S g) : VF X Qf ad N k n w pc L S g := by
  intro o ho hw hp hL hS H locs ls hP hV hl hI
  have hm : ∀ q ∈ L', q ∈ L := fun q hq => by
    rw [h] at hq
    obtain ⟨j, -, hj⟩ := List.mem_filterMap.mp hq
    exact List.mem_of_getElem? hj
  exact kk o ho hw hp (fun q hq => hL q (hm q hq)) hS H locs ls hP hV (lv_sup hl (fun q hq => by
    obtain ⟨r, hr, rfl⟩ := List.mem_map.mp hq
    exact List.mem_map.mpr ⟨r, hm r hr, rfl⟩)) hI
theorem vf_if {c : Prop} (dc : Decidable c) {g1 g2 : Option (Int × Wd)} (h1 : c → VF X Qf ad N k n w pc L S g1) (h2 : ¬ c → VF X Qf ad N k n w pc L S g2) : VF X Qf ad N k n w pc L S (@ite _ c dc g1 g2) := by
  by_cases h : c
  · rw [if_pos h]; exact h1 h
  · rw [if_neg h]; exact h2 h
theorem vf_sw (C : Cx X cc own) {dflt lo hi : Int} {offs : Array Int} {len : Nat} {x : Int} {off : Int} {tgt : Nat} (d : decode cc pc = .ok (.tableswitch dflt lo hi offs, len)) (h1 : ¬ x < lo) (h2 : ¬ hi < x) (ho1 : offs[(x - lo).toNat]? = some off) (ht : (pc : Int) + off = (tgt : Int)) (kk : VF X Qf ad N k n w tgt L S g) : VF X Qf ad N k n w pc L ((0, x) :: S) g := by
  intro o ho hw hp hL hS H locs ls hP hV hl hI
  have hx : (Int32.ofInt x).toInt = x := i32_toInt (al_h hS)
  exact lv_tableIn C.1 C.2.1 d (by rw [hx]; exact h1) (by rw [hx]; exact h2) (by rw [hx]; exact ho1) ht (kk o ho hw hp hL (al_t hS) H locs ls hP hV hl hI)
theorem vf_swd (C : Cx X cc own) {dflt lo hi : Int} {offs : Array Int} {len : Nat} {x : Int} {tgt : Nat} (d : decode cc pc = .ok (.tableswitch dflt lo hi offs, len)) (h : x < lo ∨ hi < x) (ht : (pc : Int) + dflt = (tgt : Int)) (kk : VF X Qf ad N k n w tgt L S g) : VF X Qf ad N k n w pc L ((0, x) :: S) g := by
  intro o ho hw hp hL hS H locs ls hP hV hl hI
  have hx : (Int32.ofInt x).toInt = x := i32_toInt (al_h hS)
  exact lv_tableOut C.1 C.2.1 d (by rw [hx]; exact h) ht (kk o ho hw hp hL (al_t hS) H locs ls hP hV hl hI)
theorem vf_lsw (C : Cx X cc own) {dflt : Int} {ps : Array (Int × Int)} {len : Nat} {x : Int} {off : Int} {tgt : Nat} (d : decode cc pc = .ok (.lookupswitch dflt ps, len)) (hp1 : (ps.toList.zip (ps.toList.drop 1)).all (fun (a, next) => a.1 < next.1) = true) (ho1 : Op.lookupswitch.offset ps.toList dflt x = off) (ht : (pc : Int) + off = (tgt : Int)) (kk : VF X Qf ad N k n w tgt L S g) : VF X Qf ad N k n w pc L ((0, x) :: S) g := by
  intro o ho hw hp hL hS H locs ls hP hV hl hI
  have hx : (Int32.ofInt x).toInt = x := i32_toInt (al_h hS)
  exact lv_lookup C.1 C.2.1 d hp1 (by rw [hx]; exact ho1) ht (kk o ho hw hp hL (al_t hS) H locs ls hP hV hl hI)
end
end
section
/-! CONTRACTS: a method does what a function of its arguments and the world says -/
def rmD (d : Nat) : Room := { frames := d, cells := 0, slots := 0, locals := 60 * d }
abbrev wsy (y : MethodName) (cc : ByteArray) (mL : Nat) (rt : Option FieldType) : List Cond := .code y cc mL rt :: gw_tbl
def outc (ad : Nat → Nat) (rk : Nat) (r : Int) : Option Value := match rk with
  | 9 => none
  | k => some (jc ad (jk k, r))
def outj (rk : Nat) (r : Int) : Prop := match rk with
  | 9 => True
  | k => jo (jk k, r)
def PB (D : va_G) (cA : Nat → ClassId) (ad : Nat → Nat) (w : Wd) : State → Prop := fun U => va_P D cl (wl ad cA w NF) U.heap ∧ va_K D cl (jtys cA) U ∧ NW U
def AF (ad : Nat → Nat) : Nat → Prop := fun q => ∃ c, c < NF ∧ q = ad c
def QB (D : va_G) (cA : Nat → ClassId) (ad : Nat → Nat) (rk : Nat) (o : Int × Wd) : Array Value → State → Outcome → State → Prop := fun _ st oc t =>
  (oc = .returned (outc ad rk o.1) ∧ outj rk o.1 ∧ wok o.2 ∧ wpt o.2 ∧ va_P D cl (wl ad cA o.2 NF) t.heap) ∧ va_F (AF ad) st t
def jadd (ad : Nat → Nat) : Prop := ∀ i j, i < NF → j < NF → ad i = ad j → i = j
/-- the contract: where g says an answer, the method gives it, and leaves the world that g says -/
def Ct (y : MethodName) (cc : ByteArray) (mL : Nat) (rt : Option FieldType) (dep rk : Nat) (avs : List jv) (w : Wd) (g : Option (Int × Wd)) : Prop :=
  ∀ (l : Launch) (D : va_G) (cA : Nat → ClassId) (ad : Nat → Nat) (o : Int × Wd), g = some o → wok w → wpt w → (∀ v ∈ avs, jo v) → jadd ad →
    Met l y (wsy y cc mL rt) (rmD dep) (va_Pc (avs.map (jc ad)) (PB D cA ad w)) (QB D cA ad rk o) 0 0 (AF ad)
def jargs : Nat → List jv → List (Nat × jv)
  | _, [] => []
  | i, v :: vs => (i, v) :: jargs (if v.1 = 1 then i + 2 else i + 1) vs
theorem jargs_eq (ad : Nat → Nat) : ∀ (vs : List jv) (i : Nat), jL ad (jargs i vs) = lv_args i (vs.map (jc ad))
  | [], _ => rfl
  | v :: vs, i => by
    have h := jc_cat ad v
    have ih := jargs_eq ad vs (if v.1 = 1 then i + 2 else i + 1)
    simp only [jargs, jL, List.map_cons, lv_args] at ih ⊢
    rw [ih, h]
    by_cases hv : v.1 = 1 <;> simp [hv]
theorem jargs_jo : ∀ (vs : List jv) (i : Nat), (∀ v ∈ vs, jo v) → ∀ q ∈ jargs i vs, jo q.2
  | [], _, _, q, hq => by simp [jargs] at hq
  | v :: vs, i, h, q, hq => by
    rcases List.mem_cons.mp hq with rfl | hq
    · exact h v List.mem_cons_self
    · exact jargs_jo vs _ (fun u hu => h u (List.mem_cons_of_mem _ hu)) q hq
def jwords (vs : List jv) : Nat := (vs.map fun v => if v.1 = 1 then 2 else 1).sum
theorem jwords_eq (ad : Nat → Nat) (vs : List jv) : (lg_sl (vs.map (jc ad))).length = jwords vs := by
  induction vs with
  | nil => rfl
  | cons v vs ih =>
    have h := jc_cat ad v
    simp only [lg_sl, jwords, List.map_cons, List.flatMap_cons, List.length_append, List.sum_cons] at ih ⊢
    rw [ih, h]
    by_cases hv : v.1 = 1 <;> simp [hv]
def retI (rk : Nat) : Instr := match rk with
  | 9 => .return_
  | 1 => .lreturn
  | _ => .ireturn
def retS (rk : Nat) (r : Int) : List jv := match rk with
  | 9 => []
  | k => [(jk k, r)]
/-- the method's own end -/
def Rt (X : jX) (Qf : Int × Wd → State → Prop) (ad : Nat → Nat) (cc : ByteArray) (rk : Nat) : Prop :=
  ∀ (pc : Nat) (w : Wd) (L : List (Nat × jv)) (r : Int), (rk = 4 → r = 0 ∨ r = 1) → decode cc pc = .ok (retI rk, 1) → VF X Qf ad NF 0 0 w pc L (retS rk r) (some (r, w))
/-- a walk of the body -/
def By (cc : ByteArray) (mL dep rk : Nat) (own : String) (avs : List jv) (w : Wd) (g : Option (Int × Wd)) : Prop :=
  ∀ (X : jX) (Qf : Int × Wd → State → Prop) (ad : Nat → Nat), Cx X cc own → xn X = mL → xR X = rmD dep → Rt X Qf ad cc rk → VF X Qf ad NF 0 0 w 0 (jargs 0 avs) [] g
def rkok (rt : Option FieldType) (rk : Nat) : Prop := (rk = 0 ∧ rt = some .int) ∨ (rk = 1 ∧ rt = some .long) ∨ (rk = 4 ∧ rt = some .boolean) ∨ (rk = 9 ∧ rt = none)
theorem ct_of {y : MethodName} {cc : ByteArray} {mL : Nat} {rt : Option FieldType} {dep rk : Nat} {avs : List jv} {w : Wd} {g : Option (Int × Wd)} (hy : plainName y.cls = true) (hrk : rkok rt rk) (hlen : jwords avs ≤ mL) (hb : By cc mL dep rk y.cls avs w g) : Ct y cc mL rt dep rk avs w g := by
  intro l D cA ad o ho hw hp ha hinj
  refine Met.ofW (cc := cc) (maxL := mL) (ret := rt) hy rfl ?_
  intro p e s m args below meth c s₁ B hml hv
  obtain ⟨rfl, hP, hK, hNW⟩ := hv
  have hts := atoms_spec (ws := wsy y cc mL rt) B.pre
  have hr := B.returns
  have hlocks := B.notSynchronized
  let X : jX := (p, l, e, rmD dep, s, m, (avs.map (jc ad)).toArray, below, meth, c, D, cA, AF ad, mL)
  have C : Cx X cc y.cls := ⟨B.exec, B.bytes, findClass_of_methodNamed B.named, fun w hw => hts w (List.mem_cons_of_mem _ hw), hK, hml, hNW⟩
  have hS : va_S (AF ad) s.heap s.heap [] := va_S.rf
  have hIn : jinj ad NF (xA X) := ⟨hinj, fun i hi => ⟨i, hi, rfl⟩⟩
  have hl := lv_entry (avs.map (jc ad)) (n := mL) (by rw [jwords_eq]; exact hlen)
  rw [← jargs_eq ad avs 0] at hl
  rw [lg_entry_eq]
  refine hb X (fun o => MQ below (QB D cA ad rk o) (avs.map (jc ad)).toArray s 0 0 (AF ad)) ad C rfl rfl ?_ o ho hw (fun _ => hp) (jargs_jo avs 0 ha) (fun _ h => by cases h) s.heap [] _ hP hS hl hIn
  intro pc w' L r hz hd o' ho' hw' hp' hL' hS' H locs ls hP' hV' hl' hI'
  cases ho'
  have hq : ∀ (v : Option Value) (t : State), t.heap = H → s.WarmedH t.vm → v = outc ad rk r → outj rk r → QB D cA ad rk (r, w') (avs.map (jc ad)).toArray s (.returned v) t := by
    intro v t ht hW hv hj
    subst hv
    exact ⟨⟨rfl, hj, hw', hp' rfl, by rw [ht]; exact hP'⟩, hV'.F ht⟩
  have hfree : ∀ q ∈ locs, AF ad q.base := fun q h => hV'.2.2 q h
  have hjo : ∀ kd, retS rk r = [(kd, r)] → jo (kd, r) := fun kd e => hS' (kd, r) (by rw [e]; exact List.mem_singleton.mpr rfl)
  rcases hrk with ⟨rfl, rfl⟩ | ⟨rfl, rfl⟩ | ⟨rfl, rfl⟩ | ⟨rfl, rfl⟩
  · exact W.iret B.exec B.bytes hr (fun t ht hW => hq _ t ht hW rfl (hjo 0 rfl)) hfree hd hlocks
  · exact W.lret B.exec B.bytes hr (fun t ht hW => hq _ t ht hW rfl (hjo 1 rfl)) hfree hd hlocks
  · refine W.zret B.exec B.bytes hr ?_ (fun t ht hW => hq _ t ht hW rfl (hjo 0 rfl)) hfree hd hlocks
    rcases hz rfl with rfl | rfl
    · exact (by decide +kernel : narrow .boolean (.int (Int32.ofInt 0)) = .int (Int32.ofInt 0))
    · exact (by decide +kernel : narrow .boolean (.int (Int32.ofInt 1)) = .int (Int32.ofInt 1))
  · exact W.vret B.exec B.bytes hr (fun t ht hW => hq _ t ht hW rfl trivial) hfree hd hlocks
/-- behind a call -/
theorem vr_go {X : jX} {H : Heap} {locs : List Loc} {k n pc rk : Nat} {ls : Array Slot} {st0 rest : List Value} {a : Array Value} {ad : Nat → Nat} {o : Int × Wd} {Q : State → Prop}
    (hr : va_Run (xp X) (xl X) (xe X) (xR X) (xs X) (xm X) (xa X) (xb X) (xM X) (xc X) H locs k n 0 0 (F0 (xm X) pc ls st0) rest (QB (xD X) (xC X) ad rk o a) (AF ad)) (hS : va_S (xA X) (xs X).heap H locs) (hI : jinj ad NF (xA X))
    (kk : ∀ (H1 : Heap) (locs1 : List Loc), outj rk o.1 → wok o.2 → wpt o.2 → va_P (xD X) cl (wl ad (xC X) o.2 NF) H1 → va_S (xA X) (xs X).heap H1 locs1 → W (xp X) (xl X) (xe X) (xR X) (xs X) (xm X) (xa X) (xb X) (xM X) (xc X) H1 locs1 k n Q (F0 (xm X) (pc + 3) ls ((outc ad rk o.1).toList ++ rest))) :
    W (xp X) (xl X) (xe X) (xR X) (xs X) (xm X) (xa X) (xb X) (xM X) (xc X) H locs k n Q (F0 (xm X) pc ls st0) := by
  have hf : ∀ q, AF ad q → xA X q := fun q ⟨c, hc, e⟩ => by rw [e]; exact hI.2 c hc
  intro T hT XX
  obtain ⟨v, st₀, t, T', L, h0, X', hL, e1, e2, ⟨⟨hv, hj, hw, hp, hP⟩, hz, hk⟩, st⟩ := hr T hT XX
  cases hv
  rw [h0] at hz hk
  obtain ⟨t2, a1, b1⟩ := kk T'.heap (locs ++ L) hj hw hp (by rw [e1]; exact hP)
    ⟨Nat.le_trans hS.1 (by rw [e1]; exact hz), fun q h1 h2 => by rw [e1, hk q (Nat.lt_of_lt_of_le h1 hS.1) (fun z => h2 (hf q z))]; exact hS.2.1 q h1 h2, fun q hq => by
      rcases List.mem_append.mp hq with h | h
      · exact hS.2.2 q h
      · exact hf _ (hL q h)⟩ T' rfl X'
  exact ⟨t2, st t2 a1, b1⟩
/-- a callee by its words; static or not -/
def CY (y : MethodName) (cc : ByteArray) (mL : Nat) (rt : Option FieldType) (n : Nat) (stat : Bool) : Prop :=
  (y.cls ≠ "java/lang/invoke/MethodHandle" ∧ y.cls ≠ "java/lang/invoke/VarHandle" ∧ (parseMethodDescriptor y.desc).map (fun d => d.parameters.length) = some n) ∧
  Cond.initialized y.cls ∈ gw_tbl ∧ Cond.code y cc mL rt ∈ gw_tbl ∧ (if stat = true then Cond.static y ∈ gw_tbl else Cond.instanceMethod y ∈ gw_tbl ∧ Cond.selects y.cls y y ∈ gw_tbl)
def ML (own : String) (idx : Nat) (y : MethodName) : Prop := Cond.methodLink own idx y ∈ gw_tbl ∨ ∃ host, Cond.methodLinkNest own idx y host ∈ nw_tbl
def jrm (X : jX) (dep mL k n : Nat) : Prop := dep + 1 ≤ (xR X).frames ∧ 19 + mL + 60 * dep ≤ (xR X).locals ∧ k ≤ (xR X).cells ∧ n ≤ (xR X).slots
theorem jrm_of {X : jX} {d dep mL : Nat} (h : xR X = rmD d) (hd : (decide (dep + 1 ≤ d) && decide (mL ≤ 41)) = true) : jrm X dep mL 0 0 := by
  simp only [Bool.and_eq_true, decide_eq_true_eq] at hd
  unfold jrm
  rw [h]
  simp only [rmD]
  omega
theorem gw_in {y : MethodName} {cc : ByteArray} {mL : Nat} {rt : Option FieldType} (h : Cond.code y cc mL rt ∈ gw_tbl) : GoodIn gw_tbl (wsy y cc mL rt) := fun w hw => by
  rcases List.mem_cons.mp hw with rfl | hw
  · exact ⟨h, (gw_good _ h).2⟩
  · exact ⟨hw, (gw_good _ hw).2⟩
section
variable {X : jX} {cc cy : ByteArray} {own : String} {Qf : Int × Wd → State → Prop} {ad : Nat → Nat} {k n pc idx mL dep rk na : Nat} {w : Wd} {L : List (Nat × jv)} {S S0 avs : List jv} {y : MethodName} {rt : Option FieldType}
theorem PB_blind {avs : List Value} {D : va_G} {cA : Nat → ClassId} {ad : Nat → Nat} {w : Wd} : FrameBlind (va_Pc avs (PB D cA ad w)) := fun a U g mk h => ⟨h.1, h.2.1, va_K.moved (u := U) (U := U.calling g mk a) (Vm.Alike.refl U.vm) h.2.2.1, NW.same (s := U) (U := U.calling g mk a) rfl h.2.2.2⟩
theorem jwords_room {S : List jv} (ad : Nat → Nat) (h : jwords S ≤ 8) : ((S.map (jc ad)).map fun v => v.category).sum ≤ 8 := by
  have e : ((S.map (jc ad)).map fun v => v.category) = S.map fun v => if v.1 = 1 then 2 else 1 := by
    rw [List.map_map]
    apply List.map_congr_left
    intro v _
    exact jc_cat ad v
  rw [e]; exact h
theorem vf_callS (C : Cx X cc own) (hy : CY y cy mL rt na true) (hl : ML own idx y) {g : Option (Int × Wd)} {F : Int → Wd → Option (Int × Wd)} (hct : Ct y cy mL rt dep rk avs w g) (hR : jrm X dep mL k n) (hn : avs.length = na) (hst : S0 = avs.reverse ++ S) (hS8 : jwords S ≤ 8) (d : decode cc pc = .ok (.invokestatic idx, 3))
    (kk : ∀ r w', VF X Qf ad NF k n w' (pc + 3) L (retS rk r ++ S) (F r w')) : VF X Qf ad NF k n w pc L S0 (jcall g F) := by
  intro o ho hw hp hL hS H locs ls hP hV hl hI
  subst hst
  cases hg : g with
  | none => rw [hg] at ho; cases ho
  | some q =>
    rw [hg] at ho
    have ha : ∀ v ∈ avs, jo v := fun v hv => hS v (List.mem_append_left _ (List.mem_reverse.mpr hv))
    have hM := hct (xl X) (xD X) (xC X) ad q hg hw (hp rfl) ha hI.1
    obtain ⟨hd, hini, hcode, hst⟩ := hy
    have hst' : Cond.static y ∈ gw_tbl := by simpa using hst
    have ht := C.2.2.2.1
    have hrun : va_Run (xp X) (xl X) (xe X) (xR X) (xs X) (xm X) (xa X) (xb X) (xM X) (xc X) H locs k n 0 0 (F0 (xm X) pc ls ((avs.reverse ++ S).map (jc ad))) (S.map (jc ad)) (QB (xD X) (xC X) ad rk q (avs.map (jc ad)).toArray) (AF ad) := by
      have hpre : PreS (xs X) H (va_Pc (avs.map (jc ad)) (PB (xD X) (xC X) ad w)) (avs.map (jc ad)) := ⟨PB_blind, fun U hU hW => ⟨rfl, by rw [hU]; exact hP, va_K.moved hW.alike C.2.2.2.2.1, NW.warm hW C.2.2.2.2.2.2⟩⟩
      have hsk : (F0 (xm X) pc ls ((avs.reverse ++ S).map (jc ad))).stack = (avs.map (jc ad)).reverse ++ S.map (jc ad) := by simp
      rcases hl0 : (by assumption : ML own idx y) with hlk | ⟨host, hlk⟩
      · exact va_runS ⟨C.1, C.2.1, C.2.2.2.2.2.1, C.2.2.1, ht⟩ hM ⟨callB_of na ht (gw_in hcode) rfl rfl rfl (ht _ hini) (ht _ hlk) hd ⟨hR.1, by have := hR.2.1; show 8 + (mL + 11) + 60 * dep ≤ _; omega⟩, ht _ hst'⟩ hpre rfl (by simpa using hn) hl.1 hsk (lv_room (jwords_room ad hS8)) d ⟨hR.2.2.1, hR.2.2.2⟩
      · exact va_runSN ⟨C.1, C.2.1, C.2.2.2.2.2.1, C.2.2.1, ht⟩ hM ⟨va_cnB (host := host) na ht (gw_in hcode) rfl rfl rfl (C.2.2.2.2.2.2 _ hlk) (ht _ hini) hd ⟨hR.1, by have := hR.2.1; show 8 + (mL + 11) + 60 * dep ≤ _; omega⟩, ht _ hst', trivial⟩ hpre rfl (by simpa using hn) hl.1 hsk (lv_room (jwords_room ad hS8)) d ⟨hR.2.2.1, hR.2.2.2⟩
    refine vr_go hrun hV hI fun H1 locs1 hj hw1 hp1 P1 V1 => ?_
    have hk2 := kk q.1 q.2 o ho hw1 (fun _ => hp1) hL (fun v hv => by
      rcases List.mem_append.mp hv with h | h
      · revert h hj
        unfold retS outj
        split
        · intro _ h; cases h
        · intro hj h; rw [List.mem_singleton.mp h]; exact hj
      · exact hS v (List.mem_append_right _ h)) H1 locs1 ls P1 V1 hl hI
    have e : (retS rk q.1 ++ S).map (jc ad) = (outc ad rk q.1).toList ++ S.map (jc ad) := by
      rw [List.map_append]
      congr 1
      unfold retS outc
      split <;> rfl
    rw [e] at hk2
    exact hk2
theorem vf_callV (C : Cx X cc own) (hy : CY y cy mL rt na false) (hl : ML own idx y) {g : Option (Int × Wd)} {F : Int → Wd → Option (Int × Wd)} {c ci : Nat} {r0 : Int} {fs : List (Nat × Nat)} {T : u_T} {fn : Nat} (hr : r0 = ((c + 1 : Nat) : Int)) (hct : Ct y cy mL rt dep rk ((2, r0) :: avs) w g) (hs : sh c = some (.inl (ci, fs))) (hc : c < NF) (hcl : cl[ci]? = some (y.cls, T, fn)) (hR : jrm X dep mL k n) (hn : avs.length = na) (hst : S0 = avs.reverse ++ (2, r0) :: S) (hS8 : jwords S ≤ 8) (d : decode cc pc = .ok (.invokevirtual idx, 3))
    (kk : ∀ r w', VF X Qf ad NF k n w' (pc + 3) L (retS rk r ++ S) (F r w')) : VF X Qf ad NF k n w pc L S0 (jcall g F) := by
  intro o ho hw hp hL hS H locs ls hP hV hl hI
  subst hst
  subst hr
  cases hg : g with
  | none => rw [hg] at ho; cases ho
  | some q =>
    rw [hg] at ho
    have ha : ∀ v ∈ ((2, ((c + 1 : Nat) : Int)) :: avs : List jv), jo v := fun v hv => by
      rcases List.mem_cons.mp hv with rfl | hv
      · exact hS _ (List.mem_append_right _ List.mem_cons_self)
      · exact hS v (List.mem_append_left _ (List.mem_reverse.mpr hv))
    have hM := hct (xl X) (xD X) (xC X) ad q hg hw (hp rfl) ha hI.1
    obtain ⟨hd, hini, hcode, hst⟩ := hy
    have hst' : Cond.instanceMethod y ∈ gw_tbl ∧ Cond.selects y.cls y y ∈ gw_tbl := by simpa using hst
    have ht := C.2.2.2.1
    have he : (wl ad (xC X) w NF)[c]? = some (ad c, .inr (ci, jfs ad w c fs)) := by rw [wl_at hc]; simp only [jcell, hs]
    have e0 : jc ad (2, ((c + 1 : Nat) : Int)) = .ref (ad c) := jc_rf
    have hrun : va_Run (xp X) (xl X) (xe X) (xR X) (xs X) (xm X) (xa X) (xb X) (xM X) (xc X) H locs k n 0 0 (F0 (xm X) pc ls ((avs.reverse ++ (2, ((c + 1 : Nat) : Int)) :: S).map (jc ad))) (S.map (jc ad)) (QB (xD X) (xC X) ad rk q (Value.ref (ad c) :: avs.map (jc ad)).toArray) (AF ad) := by
      have hpre : PreV (xs X) H y.cls (ad c) (va_Pc (((2, ((c + 1 : Nat) : Int)) :: avs).map (jc ad)) (PB (xD X) (xC X) ad w)) (avs.map (jc ad)) := ⟨PB_blind, va_recv C.2.2.2.2.1 hP hcl he, fun U hU hW => ⟨by simp only [List.map_cons]; rw [e0], by rw [hU]; exact hP, va_K.moved hW.alike C.2.2.2.2.1, NW.warm hW C.2.2.2.2.2.2⟩⟩
      have hsk : (F0 (xm X) pc ls ((avs.reverse ++ (2, ((c + 1 : Nat) : Int)) :: S).map (jc ad))).stack = (avs.map (jc ad)).reverse ++ .ref (ad c) :: S.map (jc ad) := by
        simp only [List.map_append, List.map_cons, List.map_reverse]; rw [e0]
      rcases hl0 : (by assumption : ML own idx y) with hlk | ⟨host, hlk⟩
      · exact va_runV ⟨C.1, C.2.1, C.2.2.2.2.2.1, C.2.2.1, ht⟩ hM ⟨callB_of na ht (gw_in hcode) rfl rfl rfl (ht _ hini) (ht _ hlk) hd ⟨hR.1, by have := hR.2.1; show 8 + (mL + 11) + 60 * dep ≤ _; omega⟩, ht _ hst'.1, ht _ hst'.2⟩ hpre rfl (by simpa using hn) hl.1 hsk (lv_room (jwords_room ad hS8)) d ⟨hR.2.2.1, hR.2.2.2⟩
      · exact va_runVN ⟨C.1, C.2.1, C.2.2.2.2.2.1, C.2.2.1, ht⟩ hM ⟨va_cnB (host := host) na ht (gw_in hcode) rfl rfl rfl (C.2.2.2.2.2.2 _ hlk) (ht _ hini) hd ⟨hR.1, by have := hR.2.1; show 8 + (mL + 11) + 60 * dep ≤ _; omega⟩, ht _ hst'.1, ht _ hst'.2⟩ hpre rfl (by simpa using hn) hl.1 hsk (lv_room (jwords_room ad hS8)) d ⟨hR.2.2.1, hR.2.2.2⟩
    refine vr_go hrun hV hI fun H1 locs1 hj hw1 hp1 P1 V1 => ?_
    have hk2 := kk q.1 q.2 o ho hw1 (fun _ => hp1) hL (fun v hv => by
      rcases List.mem_append.mp hv with h | h
      · revert h hj
        unfold retS outj
        split
        · intro _ h; cases h
        · intro hj h; rw [List.mem_singleton.mp h]; exact hj
      · exact hS v (List.mem_append_right _ (List.mem_cons_of_mem _ h))) H1 locs1 ls P1 V1 hl hI
    have e : (retS rk q.1 ++ S).map (jc ad) = (outc ad rk q.1).toList ++ S.map (jc ad) := by
      rw [List.map_append]
      congr 1
      unfold retS outc
      split <;> rfl
    rw [e] at hk2
    exact hk2
end
end
section
theorem mth_ini : Cond.initialized "java/lang/Math" ∈ gw_tbl := mem_g 104 (by decide +kernel) (by decide +kernel)
theorem mmn_st : Cond.static Lib.Math.min.name ∈ gw_tbl := mem_g 638 (by decide +kernel) (by decide +kernel)
theorem mmn_co : Cond.code Lib.Math.min.name Lib.Math.min.code 2 (some .int) ∈ gw_tbl := mem_g 639 (by decide +kernel) (by decide +kernel)
theorem mmx_st : Cond.static Lib.Math.max.name ∈ gw_tbl := mem_g 641 (by decide +kernel) (by decide +kernel)
theorem mmx_co : Cond.code Lib.Math.max.name Lib.Math.max.code 2 (some .int) ∈ gw_tbl := mem_g 642 (by decide +kernel) (by decide +kernel)
theorem acp_nat : Cond.native arraycopyName ∈ gw_tbl := mem_g 596 (by decide +kernel) (by decide +kernel)
theorem acp_st : Cond.static arraycopyName ∈ gw_tbl := mem_g 595 (by decide +kernel) (by decide +kernel)
theorem acp_ini : Cond.initialized "java/lang/System" ∈ gw_tbl := mem_g 97 (by decide +kernel) (by decide +kernel)
section
variable {X : jX} {cc cy : ByteArray} {own : String} {Qf : Int × Wd → State → Prop} {ad : Nat → Nat} {N k n pc idx mL dep na : Nat} {w : Wd} {L : List (Nat × jv)} {S S0 avs : List jv} {y : MethodName} {rt : Option FieldType} {g : Option (Int × Wd)}
abbrev jgd {α : Type} (c : Prop) [Decidable c] (x : Option α) : Option α := if c then x else none
theorem jrI {L : List (Nat × jv)} {i kd : Nat} {ps : List Nat} {L' : List (Nat × jv)} (h1 : L' = ps.filterMap (fun j => L[j]?)) (h2 : L'.all (fun q => !(q.1 == i) && !(q.1 + 1 == i && q.2.1 == 1) && !(kd == 1 && q.1 == i + 1)) = true) : jrest L i kd ps L' := ⟨h1, h2⟩
theorem jrm_o {X : jX} {d dep mL : Nat} (h : xR X = rmD d) (hd : dep + 1 ≤ d) (hm : mL ≤ 41) : jrm X dep mL 0 0 := by
  unfold jrm
  rw [h]
  simp only [rmD]
  omega
theorem vf_ul {x : Int} {f : Int → Option (Int × Wd)} (h : VF X Qf ad N k n w pc L S (f x)) : VF X Qf ad N k n w pc L S (jlet x f) := h
theorem vf_uw {x : Wd} {f : Wd → Option (Int × Wd)} (h : VF X Qf ad N k n w pc L S (f x)) : VF X Qf ad N k n w pc L S (jlw x f) := h
theorem vf_gd {c : Prop} (dc : Decidable c) (h1 : c → VF X Qf ad N k n w pc L S g) : VF X Qf ad N k n w pc L S (@ite _ c dc g none) := vf_if dc h1 (fun _ => vf_no)
theorem vf_putzl (C : Cx X cc own) {idx c ci z0 : Nat} {fs : List (Nat × Nat)} {i : Nat} {z r : Int} (hf : FL own idx ci i) (hfk : FK ci i 4) (hs : sh c = some (.inl (ci, fs))) (hk : fs[i]? = some (4, z0)) (hc : c < N) (hr : r = ((c + 1 : Nat) : Int)) (hz : z = 0 ∨ z = 1) (d : decode cc pc = .ok (.putfield idx, 3)) (kk : VF X Qf ad N k n (st w c i z) (pc + 3) L S g) : VF X Qf ad N k n w pc L ((0, z) :: (2, r) :: S) g := by
  subst hr
  exact vf_putq C hf hfk hs hk hc (by decide) (fun _ => hz) d kk
theorem vf_swx (C : Cx X cc own) {dflt lo hi z : Int} {offs : Array Int} {len : Nat} {x : Int} {off : Int} {tgt : Nat} (d : decode cc pc = .ok (.tableswitch dflt lo hi offs, len)) (hx : x = z) (h1 : ¬ z < lo) (h2 : ¬ hi < z) (ho1 : offs[(z - lo).toNat]? = some off) (ht : (pc : Int) + off = (tgt : Int)) (kk : VF X Qf ad N k n w tgt L S g) : VF X Qf ad N k n w pc L ((0, x) :: S) g := by
  subst hx
  exact vf_sw C d h1 h2 ho1 ht kk
theorem vf_callSi (C : Cx X cc own) (hy : CY y cy mL rt na true) (hl : ML own idx y) {F : Int → Wd → Option (Int × Wd)} (hct : Ct y cy mL rt dep 0 avs w g) (hR : jrm X dep mL k n) (hn : avs.length = na) (hst : S0 = avs.reverse ++ S) (hS8 : jwords S ≤ 8) (d : decode cc pc = .ok (.invokestatic idx, 3))
    (kk : ∀ r w', VF X Qf ad NF k n w' (pc + 3) L ((0, r) :: S) (F r w')) : VF X Qf ad NF k n w pc L S0 (jcall g F) := vf_callS C hy hl hct hR hn hst hS8 d kk
theorem vf_callVi (C : Cx X cc own) (hy : CY y cy mL rt na false) (hl : ML own idx y) {F : Int → Wd → Option (Int × Wd)} {c ci : Nat} {r0 : Int} {fs : List (Nat × Nat)} {T : u_T} {fn : Nat} (hr : r0 = ((c + 1 : Nat) : Int)) (hct : Ct y cy mL rt dep 0 ((2, r0) :: avs) w g) (hs : sh c = some (.inl (ci, fs))) (hc : c < NF) (hcl : cl[ci]? = some (y.cls, T, fn)) (hR : jrm X dep mL k n) (hn : avs.length = na) (hst : S0 = avs.reverse ++ (2, r0) :: S) (hS8 : jwords S ≤ 8) (d : decode cc pc = .ok (.invokevirtual idx, 3))
    (kk : ∀ r w', VF X Qf ad NF k n w' (pc + 3) L ((0, r) :: S) (F r w')) : VF X Qf ad NF k n w pc L S0 (jcall g F) := vf_callV C hy hl hr hct hs hc hcl hR hn hst hS8 d kk
theorem vf_callSz (C : Cx X cc own) (hy : CY y cy mL rt na true) (hl : ML own idx y) {F : Int → Wd → Option (Int × Wd)} (hct : Ct y cy mL rt dep 4 avs w g) (hR : jrm X dep mL k n) (hn : avs.length = na) (hst : S0 = avs.reverse ++ S) (hS8 : jwords S ≤ 8) (d : decode cc pc = .ok (.invokestatic idx, 3))
    (kk : ∀ r w', VF X Qf ad NF k n w' (pc + 3) L ((0, r) :: S) (F r w')) : VF X Qf ad NF k n w pc L S0 (jcall g F) := vf_callS C hy hl hct hR hn hst hS8 d kk
theorem vf_callVz (C : Cx X cc own) (hy : CY y cy mL rt na false) (hl : ML own idx y) {F : Int → Wd → Option (Int × Wd)} {c ci : Nat} {r0 : Int} {fs : List (Nat × Nat)} {T : u_T} {fn : Nat} (hr : r0 = ((c + 1 : Nat) : Int)) (hct : Ct y cy mL rt dep 4 ((2, r0) :: avs) w g) (hs : sh c = some (.inl (ci, fs))) (hc : c < NF) (hcl : cl[ci]? = some (y.cls, T, fn)) (hR : jrm X dep mL k n) (hn : avs.length = na) (hst : S0 = avs.reverse ++ (2, r0) :: S) (hS8 : jwords S ≤ 8) (d : decode cc pc = .ok (.invokevirtual idx, 3))
    (kk : ∀ r w', VF X Qf ad NF k n w' (pc + 3) L ((0, r) :: S) (F r w')) : VF X Qf ad NF k n w pc L S0 (jcall g F) := vf_callV C hy hl hr hct hs hc hcl hR hn hst hS8 d kk
theorem vf_callSl (C : Cx X cc own) (hy : CY y cy mL rt na true) (hl : ML own idx y) {F : Int → Wd → Option (Int × Wd)} (hct : Ct y cy mL rt dep 1 avs w g) (hR : jrm X dep mL k n) (hn : avs.length = na) (hst : S0 = avs.reverse ++ S) (hS8 : jwords S ≤ 8) (d : decode cc pc = .ok (.invokestatic idx, 3))
    (kk : ∀ r w', VF X Qf ad NF k n w' (pc + 3) L ((1, r) :: S) (F r w')) : VF X Qf ad NF k n w pc L S0 (jcall g F) := vf_callS C hy hl hct hR hn hst hS8 d kk
theorem vf_callVl (C : Cx X cc own) (hy : CY y cy mL rt na false) (hl : ML own idx y) {F : Int → Wd → Option (Int × Wd)} {c ci : Nat} {r0 : Int} {fs : List (Nat × Nat)} {T : u_T} {fn : Nat} (hr : r0 = ((c + 1 : Nat) : Int)) (hct : Ct y cy mL rt dep 1 ((2, r0) :: avs) w g) (hs : sh c = some (.inl (ci, fs))) (hc : c < NF) (hcl : cl[ci]? = some (y.cls, T, fn)) (hR : jrm X dep mL k n) (hn : avs.length = na) (hst : S0 = avs.reverse ++ (2, r0) :: S) (hS8 : jwords S ≤ 8) (d : decode cc pc = .ok (.invokevirtual idx, 3))
    (kk : ∀ r w', VF X Qf ad NF k n w' (pc + 3) L ((1, r) :: S) (F r w')) : VF X Qf ad NF k n w pc L S0 (jcall g F) := vf_callV C hy hl hr hct hs hc hcl hR hn hst hS8 d kk
theorem vf_callSv (C : Cx X cc own) (hy : CY y cy mL rt na true) (hl : ML own idx y) {F : Int → Wd → Option (Int × Wd)} (hct : Ct y cy mL rt dep 9 avs w g) (hR : jrm X dep mL k n) (hn : avs.length = na) (hst : S0 = avs.reverse ++ S) (hS8 : jwords S ≤ 8) (d : decode cc pc = .ok (.invokestatic idx, 3))
    (kk : ∀ r w', VF X Qf ad NF k n w' (pc + 3) L S (F r w')) : VF X Qf ad NF k n w pc L S0 (jcall g F) := vf_callS C hy hl hct hR hn hst hS8 d kk
theorem vf_callVv (C : Cx X cc own) (hy : CY y cy mL rt na false) (hl : ML own idx y) {F : Int → Wd → Option (Int × Wd)} {c ci : Nat} {r0 : Int} {fs : List (Nat × Nat)} {T : u_T} {fn : Nat} (hr : r0 = ((c + 1 : Nat) : Int)) (hct : Ct y cy mL rt dep 9 ((2, r0) :: avs) w g) (hs : sh c = some (.inl (ci, fs))) (hc : c < NF) (hcl : cl[ci]? = some (y.cls, T, fn)) (hR : jrm X dep mL k n) (hn : avs.length = na) (hst : S0 = avs.reverse ++ (2, r0) :: S) (hS8 : jwords S ≤ 8) (d : decode cc pc = .ok (.invokevirtual idx, 3))
    (kk : ∀ r w', VF X Qf ad NF k n w' (pc + 3) L S (F r w')) : VF X Qf ad NF k n w pc L S0 (jcall g F) := vf_callV C hy hl hr hct hs hc hcl hR hn hst hS8 d kk
def cpy (w : Wd) (src dst : Nat) (sp dp n : Int) : Wd := fun c k => if c = dst ∧ dp.toNat ≤ k ∧ k < dp.toNat + n.toNat then w src (sp.toNat + (k - dp.toNat)) else w c k
theorem jrm_n {X : jX} {d : Nat} (h : xR X = rmD d) (hd : 1 ≤ d) : 1 ≤ (xR X).frames ∧ 60 ≤ (xR X).locals := by
  rw [h]; simp only [rmD]; omega
theorem vf_copy (C : Cx X cc own) {c0 c1 m0 m1 : Nat} {ps0 ps1 : List Nat} {sp dp cn r0 r1 z0 z1 : Int} (hm : Cond.methodLink own idx arraycopyName ∈ gw_tbl) (hs0 : sh c0 = some (.inr (0, m0, ps0))) (hs1 : sh c1 = some (.inr (0, m1, ps1))) (h0 : c0 < N) (h1 : c1 < N) (hne : c0 ≠ c1) (hr0 : r0 = ((c0 + 1 : Nat) : Int)) (hr1 : r1 = ((c1 + 1 : Nat) : Int)) (hz0 : z0 = (m0 : Int)) (hz1 : z1 = (m1 : Int)) (hR : 1 ≤ (xR X).frames ∧ 60 ≤ (xR X).locals) (hS8 : jwords S ≤ 8) (d : decode cc pc = .ok (.invokestatic idx, 3))
    (kk : VF X Qf ad N k n (cpy w c0 c1 sp dp cn) (pc + 3) L S g) : VF X Qf ad N k n w pc L ((0, cn) :: (0, dp) :: (2, r1) :: (0, sp) :: (2, r0) :: S) (if 0 ≤ sp ∧ 0 ≤ dp ∧ 0 ≤ cn ∧ sp + cn ≤ z0 ∧ dp + cn ≤ z1 then g else none) := by
  subst hr0; subst hr1; subst hz0; subst hz1
  intro o ho hw hp hL hS H locs ls hP hV hl hI
  by_cases hin : 0 ≤ sp ∧ 0 ≤ dp ∧ 0 ≤ cn ∧ sp + cn ≤ (m0 : Int) ∧ dp + cn ≤ (m1 : Int)
  · rw [if_pos hin] at ho
    have jn : jo (0, cn) := al_h hS
    have jd : jo (0, dp) := al_h (al_t hS)
    have js : jo (0, sp) := al_h (al_t (al_t (al_t hS)))
    have en := ix_nat jn hin.2.2.1
    have ed := ix_nat jd hin.2.1
    have es := ix_nat js hin.1
    have hw' : wok (cpy w c0 c1 sp dp cn) := by
      intro c' k'
      unfold cpy
      by_cases h : c' = c1 ∧ dp.toNat ≤ k' ∧ k' < dp.toNat + cn.toNat
      · rw [if_pos h]
        have h2 := hw c0 (sp.toNat + (k' - dp.toNat))
        obtain ⟨rfl, -⟩ := h
        simp only [jkA, hs0] at h2
        simp only [jkA, hs1]
        exact h2
      · rw [if_neg h]; exact hw c' k'
    have hp' : wpt w → wpt (cpy w c0 c1 sp dp cn) := by
      intro hq c' k' z hz
      unfold cpy
      by_cases h : c' = c1 ∧ dp.toNat ≤ k' ∧ k' < dp.toNat + cn.toNat
      · obtain ⟨rfl, -⟩ := h
        simp only [jpt, hs1] at hz
        cases hz
      · rw [if_neg h]; exact hq c' k' z hz
    have hk2 := fun H1 locs1 P V => kk o ho hw' (fun e => hp' (hp e)) hL (al_t (al_t (al_t (al_t (al_t hS))))) H1 locs1 ls P V hl hI
    have he0 : (wl ad (xC X) w N)[c0]? = some (ad c0, .inl (xC X 0, jar ad w c0 0 m0)) := by rw [wl_at h0]; simp only [jcell, hs0]
    have he1 : (wl ad (xC X) w N)[c1]? = some (ad c1, .inl (xC X 0, jar ad w c1 0 m1)) := by rw [wl_at h1]; simp only [jcell, hs1]
    have e0 : jc ad (2, ((c0 + 1 : Nat) : Int)) = .ref (ad c0) := jc_rf
    have e1 : jc ad (2, ((c1 + 1 : Nat) : Int)) = .ref (ad c1) := jc_rf
    have ht := C.2.2.2.1
    have nn : ∀ z : Int, jo (0, z) → 0 ≤ z → ¬ Int32.ofInt z < 0 := fun z hz h0 q => by
      have := (i32_lt hz jo00).mp q
      omega
    simp only [List.map_cons] at hk2 ⊢
    rw [e0, e1]
    have hwr := jwords_room ad hS8
    have h60 : nativeFrameWords "java/lang/System" "arraycopy" 5 + 11 ≤ 50 := by decide +kernel
    have hroom : ((S.map (jc ad)).map fun v => v.category).sum + (nativeFrameWords "java/lang/System" "arraycopy" 5 + 11) ≤ (xR X).locals := by
      have := hR.2
      omega
    refine va_copyi C.1 C.2.1 (by rw [C.2.2.2.2.2.1]; exact hl.1.symm) C.2.2.1 (ht _ hm) (ht _ acp_nat) (ht _ acp_st) (ht _ acp_ini) C.2.2.2.2.1 hP (wl_D hI) hV c0 c1 0 0 he0 he1 (jtys_at (by decide)) (jtys_at (by decide)) rfl (nn _ js hin.1) (nn _ jd hin.2.1) (nn _ jn hin.2.2.1) (by rw [es, en]; omega) (by rw [ed, en]; omega) (fun i _ => rfl) hR.1 hroom d fun H1 locs1 P1 _ V1 => hk2 H1 locs1 ?_ V1
    rw [← wl_set h1 (w' := cpy w c0 c1 sp dp cn) (fun c' h => by funext k'; unfold cpy; rw [if_neg (fun q => h q.1)]) ?_]
    · exact P1
    · simp only [jcell, hs1, jar]
      congr 1; congr 1; congr 1; congr 1
      funext q
      rw [es, ed, en]
      unfold va_cpy cpy
      by_cases hq : dp.toNat ≤ q ∧ q < dp.toNat + cn.toNat
      · rw [if_pos hq, if_pos ⟨rfl, hq⟩]
      · rw [if_neg hq, if_neg (fun h => hq h.2)]
  · rw [if_neg hin] at ho; cases ho
def imax (x y : Int) : Int := if x < y then y else x
def imin (x y : Int) : Int := if y < x then y else x
theorem vf_mmax (C : Cx X cc own) {x y : Int} (hm : Cond.methodLink own idx Lib.Math.max.name ∈ gw_tbl) (hR : 1 ≤ (xR X).frames ∧ 60 ≤ (xR X).locals) (hk : k ≤ (xR X).cells ∧ n ≤ (xR X).slots) (hS8 : jwords S ≤ 8) (d : decode cc pc = .ok (.invokestatic idx, 3)) (kk : VF X Qf ad N k n w (pc + 3) L ((0, imax x y) :: S) g) : VF X Qf ad N k n w pc L ((0, y) :: (0, x) :: S) g := by
  intro o ho hw hp hL hS H locs ls hP hV hl hI
  have hy : jo (0, y) := al_h hS
  have hx : jo (0, x) := al_h (al_t hS)
  have e : (if Int32.ofInt x < Int32.ofInt y then Int32.ofInt y else Int32.ofInt x) = Int32.ofInt (imax x y) := by
    unfold imax
    by_cases h : x < y
    · rw [if_pos ((i32_lt hx hy).mpr h), if_pos h]
    · rw [if_neg (fun q => h ((i32_lt hx hy).mp q)), if_neg h]
  have hj : jo (0, imax x y) := by unfold imax; split <;> assumption
  have hk2 := kk o ho hw hp hL (al_c hj (al_t (al_t hS))) H locs ls hP hV hl hI
  have ht := C.2.2.2.1
  have hwr := jwords_room ad hS8
  simp only [List.map_cons, jc] at hk2 ⊢
  rw [← e] at hk2
  exact va_mmax C.1 C.2.1 (by rw [C.2.2.2.2.2.1]; exact hl.1.symm) C.2.2.1 (ht _ hm) (ht _ mmx_st) (ht _ mth_ini) (ht _ mmx_co) hR.1 (by have := hR.2; omega) hk.1 hk.2 d hk2
theorem vf_mmin (C : Cx X cc own) {x y : Int} (hm : Cond.methodLink own idx Lib.Math.min.name ∈ gw_tbl) (hR : 1 ≤ (xR X).frames ∧ 60 ≤ (xR X).locals) (hk : k ≤ (xR X).cells ∧ n ≤ (xR X).slots) (hS8 : jwords S ≤ 8) (d : decode cc pc = .ok (.invokestatic idx, 3)) (kk : VF X Qf ad N k n w (pc + 3) L ((0, imin x y) :: S) g) : VF X Qf ad N k n w pc L ((0, y) :: (0, x) :: S) g := by
  intro o ho hw hp hL hS H locs ls hP hV hl hI
  have hy : jo (0, y) := al_h hS
  have hx : jo (0, x) := al_h (al_t hS)
  have e : (if Int32.ofInt y < Int32.ofInt x then Int32.ofInt y else Int32.ofInt x) = Int32.ofInt (imin x y) := by
    unfold imin
    by_cases h : y < x
    · rw [if_pos ((i32_lt hy hx).mpr h), if_pos h]
    · rw [if_neg (fun q => h ((i32_lt hy hx).mp q)), if_neg h]
  have hj : jo (0, imin x y) := by unfold imin; split <;> assumption
  have hk2 := kk o ho hw hp hL (al_c hj (al_t (al_t hS))) H locs ls hP hV hl hI
  have ht := C.2.2.2.1
  have hwr := jwords_room ad hS8
  simp only [List.map_cons, jc] at hk2 ⊢
  rw [← e] at hk2
  exact va_mmin C.1 C.2.1 (by rw [C.2.2.2.2.2.1]; exact hl.1.symm) C.2.2.1 (ht _ hm) (ht _ mmn_st) (ht _ mth_ini) (ht _ mmn_co) hR.1 (by have := hR.2; omega) hk.1 hk.2 d hk2
end
end
section
theorem fl_E_12 : FL "EachBringsAnother" 12 10 0 := ⟨_, rfl, by decide +kernel, Or.inl (mem_g 447 (by decide +kernel) (by decide +kernel))⟩
theorem sh_0 : sh 0 = some (.inl (10, [(3, 2), (3, 4), (3, 6), (3, 10), (3, 13), (3, 16), (3, 20), (3, 25), (3, 29), (3, 37)])) := rfl
def y_T_append : MethodName := ⟨"EachBringsAnother$Text", "append", "(I)I"⟩
theorem ml_E_79 : ML "EachBringsAnother" 79 y_T_append := Or.inl (mem_g 482 (by decide +kernel) (by decide +kernel))
theorem cy_T_append : CY y_T_append prog_10_method_2_code 3 (some .int) 1 false := ⟨⟨by decide +kernel, by decide +kernel, by decide +kernel⟩, mem_g 85 (by decide +kernel) (by decide +kernel), mem_g 485 (by decide +kernel) (by decide +kernel), ⟨mem_g 483 (by decide +kernel) (by decide +kernel), mem_g 484 (by decide +kernel) (by decide +kernel)⟩⟩
theorem fl_T_15 : FL "EachBringsAnother$Text" 15 0 1 := ⟨_, rfl, by decide +kernel, Or.inl (mem_g 120 (by decide +kernel) (by decide +kernel))⟩
theorem sh_1 : sh 1 = some (.inl (0, [(3, 3), (0, 0)])) := rfl
theorem fl_T_9 : FL "EachBringsAnother$Text" 9 0 0 := ⟨_, rfl, by decide +kernel, Or.inl (mem_g 119 (by decide +kernel) (by decide +kernel))⟩
theorem sh_2 : sh 2 = some (.inr (5, 80, [])) := rfl
theorem fk_0_1 : FK 0 1 0 := ⟨_, .int, rfl, by decide +kernel, by decide +kernel, Or.inl ⟨rfl, rfl⟩⟩
def y_E_sign : MethodName := ⟨"EachBringsAnother", "sign", "(I)I"⟩
def y_T_cut : MethodName := ⟨"EachBringsAnother$Text", "cut", "(I)Z"⟩
theorem ml_E_83 : ML "EachBringsAnother" 83 y_T_cut := Or.inl (mem_g 490 (by decide +kernel) (by decide +kernel))
theorem cy_T_cut : CY y_T_cut prog_10_method_3_code 2 (some .boolean) 1 false := ⟨⟨by decide +kernel, by decide +kernel, by decide +kernel⟩, mem_g 85 (by decide +kernel) (by decide +kernel), mem_g 493 (by decide +kernel) (by decide +kernel), ⟨mem_g 491 (by decide +kernel) (by decide +kernel), mem_g 492 (by decide +kernel) (by decide +kernel)⟩⟩
def y_E_end : MethodName := ⟨"EachBringsAnother", "end", "(I)Z"⟩
theorem fl_E_33 : FL "EachBringsAnother" 33 10 3 := ⟨_, rfl, by decide +kernel, Or.inl (mem_g 450 (by decide +kernel) (by decide +kernel))⟩
theorem fl_E_26 : FL "EachBringsAnother" 26 10 2 := ⟨_, rfl, by decide +kernel, Or.inl (mem_g 449 (by decide +kernel) (by decide +kernel))⟩
theorem fl_E_87 : FL "EachBringsAnother" 87 2 3 := ⟨_, rfl, by decide +kernel, Or.inr ⟨"EachBringsAnother", mem_n 164 (by decide +kernel) (by decide +kernel)⟩⟩
theorem sh_5 : sh 5 = some (.inl (2, [(3, 7), (3, 8), (3, 9), (0, 0), (0, 0), (0, 0), (0, 0), (0, 0), (0, 0)])) := rfl
def y_L_read : MethodName := ⟨"EachBringsAnother$Lines", "read", "(LEachBringsAnother$Text;I)I"⟩
theorem ml_E_91 : ML "EachBringsAnother" 91 y_L_read := Or.inl (mem_g 498 (by decide +kernel) (by decide +kernel))
theorem cy_L_read : CY y_L_read prog_5_method_2_code 5 (some .int) 2 false := ⟨⟨by decide +kernel, by decide +kernel, by decide +kernel⟩, mem_g 88 (by decide +kernel) (by decide +kernel), mem_g 501 (by decide +kernel) (by decide +kernel), ⟨mem_g 499 (by decide +kernel) (by decide +kernel), mem_g 500 (by decide +kernel) (by decide +kernel)⟩⟩
theorem fl_L_18 : FL "EachBringsAnother$Lines" 18 3 2 := ⟨_, rfl, by decide +kernel, Or.inl (mem_g 223 (by decide +kernel) (by decide +kernel))⟩
theorem sh_9 : sh 9 = some (.inl (3, [(3, 11), (3, 12), (0, 0), (0, 0), (0, 0), (0, 0)])) := rfl
theorem fk_3_2 : FK 3 2 0 := ⟨_, .int, rfl, by decide +kernel, by decide +kernel, Or.inl ⟨rfl, rfl⟩⟩
theorem fl_L_22 : FL "EachBringsAnother$Lines" 22 3 3 := ⟨_, rfl, by decide +kernel, Or.inl (mem_g 224 (by decide +kernel) (by decide +kernel))⟩
theorem fk_3_3 : FK 3 3 0 := ⟨_, .int, rfl, by decide +kernel, by decide +kernel, Or.inl ⟨rfl, rfl⟩⟩
theorem fl_L_25 : FL "EachBringsAnother$Lines" 25 3 4 := ⟨_, rfl, by decide +kernel, Or.inl (mem_g 225 (by decide +kernel) (by decide +kernel))⟩
theorem fk_3_4 : FK 3 4 0 := ⟨_, .int, rfl, by decide +kernel, by decide +kernel, Or.inl ⟨rfl, rfl⟩⟩
theorem fl_L_28 : FL "EachBringsAnother$Lines" 28 3 5 := ⟨_, rfl, by decide +kernel, Or.inl (mem_g 226 (by decide +kernel) (by decide +kernel))⟩
theorem fk_3_5 : FK 3 5 0 := ⟨_, .int, rfl, by decide +kernel, by decide +kernel, Or.inl ⟨rfl, rfl⟩⟩
theorem fl_L_31 : FL "EachBringsAnother$Lines" 31 0 1 := ⟨_, rfl, by decide +kernel, Or.inr ⟨"EachBringsAnother", mem_n 122 (by decide +kernel) (by decide +kernel)⟩⟩
def y_L_readLine : MethodName := ⟨"EachBringsAnother$Lines", "readLine", "(LEachBringsAnother$Text;I)Z"⟩
theorem ml_L_36 : ML "EachBringsAnother$Lines" 36 y_L_readLine := Or.inl (mem_g 502 (by decide +kernel) (by decide +kernel))
theorem cy_L_readLine : CY y_L_readLine prog_5_method_3_code 5 (some .boolean) 2 false := ⟨⟨by decide +kernel, by decide +kernel, by decide +kernel⟩, mem_g 88 (by decide +kernel) (by decide +kernel), mem_g 505 (by decide +kernel) (by decide +kernel), ⟨mem_g 504 (by decide +kernel) (by decide +kernel), mem_g 0 (by decide +kernel) (by decide +kernel)⟩⟩
def y_T_signAt : MethodName := ⟨"EachBringsAnother$Text", "signAt", "(II)I"⟩
theorem ml_L_40 : ML "EachBringsAnother$Lines" 40 y_T_signAt := Or.inl (mem_g 506 (by decide +kernel) (by decide +kernel))
theorem cy_T_signAt : CY y_T_signAt prog_10_method_5_code 3 (some .int) 2 false := ⟨⟨by decide +kernel, by decide +kernel, by decide +kernel⟩, mem_g 85 (by decide +kernel) (by decide +kernel), mem_g 509 (by decide +kernel) (by decide +kernel), ⟨mem_g 507 (by decide +kernel) (by decide +kernel), mem_g 508 (by decide +kernel) (by decide +kernel)⟩⟩
theorem fl_L_9 : FL "EachBringsAnother$Lines" 9 3 0 := ⟨_, rfl, by decide +kernel, Or.inl (mem_g 221 (by decide +kernel) (by decide +kernel))⟩
theorem sh_10 : sh 10 = some (.inr (0, 10, [])) := rfl
theorem fl_L_15 : FL "EachBringsAnother$Lines" 15 3 1 := ⟨_, rfl, by decide +kernel, Or.inl (mem_g 222 (by decide +kernel) (by decide +kernel))⟩
theorem sh_11 : sh 11 = some (.inr (0, 10, [])) := rfl
def y_L_take : MethodName := ⟨"EachBringsAnother$Lines", "take", "(LEachBringsAnother$Text;I)Z"⟩
theorem ml_L_44 : ML "EachBringsAnother$Lines" 44 y_L_take := Or.inl (mem_g 510 (by decide +kernel) (by decide +kernel))
theorem cy_L_take : CY y_L_take prog_5_method_4_code 4 (some .boolean) 2 false := ⟨⟨by decide +kernel, by decide +kernel, by decide +kernel⟩, mem_g 88 (by decide +kernel) (by decide +kernel), mem_g 513 (by decide +kernel) (by decide +kernel), ⟨mem_g 512 (by decide +kernel) (by decide +kernel), mem_g 1 (by decide +kernel) (by decide +kernel)⟩⟩
def y_T_clear : MethodName := ⟨"EachBringsAnother$Text", "clear", "()V"⟩
theorem ml_E_95 : ML "EachBringsAnother" 95 y_T_clear := Or.inl (mem_g 514 (by decide +kernel) (by decide +kernel))
theorem cy_T_clear : CY y_T_clear prog_10_method_4_code 1 none 0 false := ⟨⟨by decide +kernel, by decide +kernel, by decide +kernel⟩, mem_g 85 (by decide +kernel) (by decide +kernel), mem_g 517 (by decide +kernel) (by decide +kernel), ⟨mem_g 515 (by decide +kernel) (by decide +kernel), mem_g 516 (by decide +kernel) (by decide +kernel)⟩⟩
def y_L_settle : MethodName := ⟨"EachBringsAnother$Lines", "settle", "(LEachBringsAnother$Folk;)V"⟩
theorem ml_E_98 : ML "EachBringsAnother" 98 y_L_settle := Or.inl (mem_g 518 (by decide +kernel) (by decide +kernel))
theorem cy_L_settle : CY y_L_settle prog_5_method_5_code 3 none 1 false := ⟨⟨by decide +kernel, by decide +kernel, by decide +kernel⟩, mem_g 88 (by decide +kernel) (by decide +kernel), mem_g 521 (by decide +kernel) (by decide +kernel), ⟨mem_g 519 (by decide +kernel) (by decide +kernel), mem_g 520 (by decide +kernel) (by decide +kernel)⟩⟩
theorem fl_L_53 : FL "EachBringsAnother$Lines" 53 2 4 := ⟨_, rfl, by decide +kernel, Or.inr ⟨"EachBringsAnother", mem_n 173 (by decide +kernel) (by decide +kernel)⟩⟩
theorem fk_2_4 : FK 2 4 0 := ⟨_, .int, rfl, by decide +kernel, by decide +kernel, Or.inl ⟨rfl, rfl⟩⟩
theorem fl_L_56 : FL "EachBringsAnother$Lines" 56 2 5 := ⟨_, rfl, by decide +kernel, Or.inr ⟨"EachBringsAnother", mem_n 179 (by decide +kernel) (by decide +kernel)⟩⟩
theorem fk_2_5 : FK 2 5 0 := ⟨_, .int, rfl, by decide +kernel, by decide +kernel, Or.inl ⟨rfl, rfl⟩⟩
def y_F_add : MethodName := ⟨"EachBringsAnother$Folk", "add", "(II)V"⟩
theorem ml_L_47 : ML "EachBringsAnother$Lines" 47 y_F_add := Or.inl (mem_g 522 (by decide +kernel) (by decide +kernel))
theorem cy_F_add : CY y_F_add prog_3_method_10_code 4 none 2 false := ⟨⟨by decide +kernel, by decide +kernel, by decide +kernel⟩, mem_g 87 (by decide +kernel) (by decide +kernel), mem_g 525 (by decide +kernel) (by decide +kernel), ⟨mem_g 523 (by decide +kernel) (by decide +kernel), mem_g 524 (by decide +kernel) (by decide +kernel)⟩⟩
theorem fl_F_28 : FL "EachBringsAnother$Folk" 28 2 3 := ⟨_, rfl, by decide +kernel, Or.inl (mem_g 162 (by decide +kernel) (by decide +kernel))⟩
theorem fl_F_9 : FL "EachBringsAnother$Folk" 9 2 0 := ⟨_, rfl, by decide +kernel, Or.inl (mem_g 152 (by decide +kernel) (by decide +kernel))⟩
theorem sh_6 : sh 6 = some (.inr (0, 10, [])) := rfl
theorem fl_F_15 : FL "EachBringsAnother$Folk" 15 2 1 := ⟨_, rfl, by decide +kernel, Or.inl (mem_g 154 (by decide +kernel) (by decide +kernel))⟩
theorem sh_7 : sh 7 = some (.inr (0, 10, [])) := rfl
theorem fl_F_18 : FL "EachBringsAnother$Folk" 18 2 2 := ⟨_, rfl, by decide +kernel, Or.inl (mem_g 158 (by decide +kernel) (by decide +kernel))⟩
theorem sh_8 : sh 8 = some (.inr (0, 10, [])) := rfl
theorem fk_2_3 : FK 2 3 0 := ⟨_, .int, rfl, by decide +kernel, by decide +kernel, Or.inl ⟨rfl, rfl⟩⟩
def y_E_has : MethodName := ⟨"EachBringsAnother", "has", "(II)Z"⟩
theorem ml_F_62 : ML "EachBringsAnother$Folk" 62 y_E_has := Or.inr ⟨"EachBringsAnother", mem_n 526 (by decide +kernel) (by decide +kernel)⟩
theorem cy_E_has : CY y_E_has prog_1_method_44_code 2 (some .boolean) 2 true := ⟨⟨by decide +kernel, by decide +kernel, by decide +kernel⟩, mem_g 84 (by decide +kernel) (by decide +kernel), mem_g 528 (by decide +kernel) (by decide +kernel), mem_g 527 (by decide +kernel) (by decide +kernel)⟩
def y_E_with : MethodName := ⟨"EachBringsAnother", "with", "(IIZ)I"⟩
theorem ml_F_66 : ML "EachBringsAnother$Folk" 66 y_E_with := Or.inr ⟨"EachBringsAnother", mem_n 529 (by decide +kernel) (by decide +kernel)⟩
theorem cy_E_with : CY y_E_with prog_1_method_45_code 3 (some .int) 3 true := ⟨⟨by decide +kernel, by decide +kernel, by decide +kernel⟩, mem_g 84 (by decide +kernel) (by decide +kernel), mem_g 531 (by decide +kernel) (by decide +kernel), mem_g 530 (by decide +kernel) (by decide +kernel)⟩
def y_E_peopleCame : MethodName := ⟨"EachBringsAnother", "peopleCame", "()V"⟩
theorem ml_E_102 : ML "EachBringsAnother" 102 y_E_peopleCame := Or.inl (mem_g 532 (by decide +kernel) (by decide +kernel))
theorem cy_E_peopleCame : CY y_E_peopleCame prog_1_method_52_code 1 none 0 false := ⟨⟨by decide +kernel, by decide +kernel, by decide +kernel⟩, mem_g 84 (by decide +kernel) (by decide +kernel), mem_g 535 (by decide +kernel) (by decide +kernel), ⟨mem_g 534 (by decide +kernel) (by decide +kernel), mem_g 2 (by decide +kernel) (by decide +kernel)⟩⟩
theorem fl_E_47 : FL "EachBringsAnother" 47 10 5 := ⟨_, rfl, by decide +kernel, Or.inl (mem_g 452 (by decide +kernel) (by decide +kernel))⟩
def y_F_guests : MethodName := ⟨"EachBringsAnother$Folk", "guests", "()I"⟩
theorem ml_E_136 : ML "EachBringsAnother" 136 y_F_guests := Or.inl (mem_g 536 (by decide +kernel) (by decide +kernel))
theorem cy_F_guests : CY y_F_guests prog_3_method_4_code 1 (some .int) 0 false := ⟨⟨by decide +kernel, by decide +kernel, by decide +kernel⟩, mem_g 87 (by decide +kernel) (by decide +kernel), mem_g 539 (by decide +kernel) (by decide +kernel), ⟨mem_g 537 (by decide +kernel) (by decide +kernel), mem_g 538 (by decide +kernel) (by decide +kernel)⟩⟩
theorem fl_F_31 : FL "EachBringsAnother$Folk" 31 2 4 := ⟨_, rfl, by decide +kernel, Or.inl (mem_g 172 (by decide +kernel) (by decide +kernel))⟩
def y_O_guests : MethodName := ⟨"EachBringsAnother$Who", "guests", "(I)I"⟩
theorem ml_F_34 : ML "EachBringsAnother$Folk" 34 y_O_guests := Or.inl (mem_g 540 (by decide +kernel) (by decide +kernel))
theorem cy_O_guests : CY y_O_guests prog_11_method_2_code 1 (some .int) 1 true := ⟨⟨by decide +kernel, by decide +kernel, by decide +kernel⟩, mem_g 96 (by decide +kernel) (by decide +kernel), mem_g 542 (by decide +kernel) (by decide +kernel), mem_g 541 (by decide +kernel) (by decide +kernel)⟩
def y_D_noteGuests : MethodName := ⟨"EachBringsAnother$Diary", "noteGuests", "(I)V"⟩
theorem ml_E_366 : ML "EachBringsAnother" 366 y_D_noteGuests := Or.inl (mem_g 543 (by decide +kernel) (by decide +kernel))
theorem cy_D_noteGuests : CY y_D_noteGuests prog_2_method_5_code 2 none 1 false := ⟨⟨by decide +kernel, by decide +kernel, by decide +kernel⟩, mem_g 90 (by decide +kernel) (by decide +kernel), mem_g 546 (by decide +kernel) (by decide +kernel), ⟨mem_g 544 (by decide +kernel) (by decide +kernel), mem_g 545 (by decide +kernel) (by decide +kernel)⟩⟩
theorem fl_D_21 : FL "EachBringsAnother$Diary" 21 5 3 := ⟨_, rfl, by decide +kernel, Or.inl (mem_g 271 (by decide +kernel) (by decide +kernel))⟩
theorem sh_15 : sh 15 = some (.inl (5, [(3, 17), (3, 18), (3, 19), (0, 0), (0, 0)])) := rfl
def y_D_isOne : MethodName := ⟨"EachBringsAnother$Diary", "isOne", "(I)Z"⟩
theorem ml_D_25 : ML "EachBringsAnother$Diary" 25 y_D_isOne := Or.inl (mem_g 547 (by decide +kernel) (by decide +kernel))
theorem cy_D_isOne : CY y_D_isOne prog_2_method_2_code 2 (some .boolean) 1 false := ⟨⟨by decide +kernel, by decide +kernel, by decide +kernel⟩, mem_g 90 (by decide +kernel) (by decide +kernel), mem_g 550 (by decide +kernel) (by decide +kernel), ⟨mem_g 548 (by decide +kernel) (by decide +kernel), mem_g 549 (by decide +kernel) (by decide +kernel)⟩⟩
theorem fl_D_9 : FL "EachBringsAnother$Diary" 9 5 0 := ⟨_, rfl, by decide +kernel, Or.inl (mem_g 267 (by decide +kernel) (by decide +kernel))⟩
theorem sh_16 : sh 16 = some (.inr (0, 61, [])) := rfl
theorem fl_E_355 : FL "EachBringsAnother" 355 5 4 := ⟨_, rfl, by decide +kernel, Or.inr ⟨"EachBringsAnother", mem_n 276 (by decide +kernel) (by decide +kernel)⟩⟩
theorem fk_5_4 : FK 5 4 0 := ⟨_, .int, rfl, by decide +kernel, by decide +kernel, Or.inl ⟨rfl, rfl⟩⟩
theorem fl_E_68 : FL "EachBringsAnother" 68 10 8 := ⟨_, rfl, by decide +kernel, Or.inl (mem_g 455 (by decide +kernel) (by decide +kernel))⟩
def y_S_forget : MethodName := ⟨"EachBringsAnother$Search", "forget", "()V"⟩
theorem ml_E_162 : ML "EachBringsAnother" 162 y_S_forget := Or.inl (mem_g 551 (by decide +kernel) (by decide +kernel))
theorem cy_S_forget : CY y_S_forget prog_9_method_2_code 1 none 0 false := ⟨⟨by decide +kernel, by decide +kernel, by decide +kernel⟩, mem_g 93 (by decide +kernel) (by decide +kernel), mem_g 554 (by decide +kernel) (by decide +kernel), ⟨mem_g 552 (by decide +kernel) (by decide +kernel), mem_g 553 (by decide +kernel) (by decide +kernel)⟩⟩
theorem fl_S_34 : FL "EachBringsAnother$Search" 34 9 9 := ⟨_, rfl, by decide +kernel, Or.inl (mem_g 383 (by decide +kernel) (by decide +kernel))⟩
theorem sh_28 : sh 28 = some (.inl (9, [(3, 30), (3, 31), (3, 32), (3, 33), (3, 34), (3, 35), (3, 36), (0, 0), (0, 0), (4, 0), (4, 0)])) := rfl
theorem fk_9_9 : FK 9 9 4 := ⟨_, .boolean, rfl, by decide +kernel, by decide +kernel, Or.inr (Or.inr (Or.inl ⟨rfl, rfl⟩))⟩
def y_E_land : MethodName := ⟨"EachBringsAnother", "land", "()I"⟩
theorem fl_E_54 : FL "EachBringsAnother" 54 10 6 := ⟨_, rfl, by decide +kernel, Or.inl (mem_g 453 (by decide +kernel) (by decide +kernel))⟩
def y_W_read : MethodName := ⟨"EachBringsAnother$Wish", "read", "(LEachBringsAnother$Text;)I"⟩
theorem ml_E_105 : ML "EachBringsAnother" 105 y_W_read := Or.inl (mem_g 559 (by decide +kernel) (by decide +kernel))
theorem cy_W_read : CY y_W_read prog_12_method_2_code 4 (some .int) 1 false := ⟨⟨by decide +kernel, by decide +kernel, by decide +kernel⟩, mem_g 91 (by decide +kernel) (by decide +kernel), mem_g 562 (by decide +kernel) (by decide +kernel), ⟨mem_g 560 (by decide +kernel) (by decide +kernel), mem_g 561 (by decide +kernel) (by decide +kernel)⟩⟩
theorem fl_W_24 : FL "EachBringsAnother$Wish" 24 0 1 := ⟨_, rfl, by decide +kernel, Or.inr ⟨"EachBringsAnother", mem_n 121 (by decide +kernel) (by decide +kernel)⟩⟩
theorem fl_W_31 : FL "EachBringsAnother$Wish" 31 7 5 := ⟨_, rfl, by decide +kernel, Or.inl (mem_g 299 (by decide +kernel) (by decide +kernel))⟩
theorem sh_19 : sh 19 = some (.inl (7, [(3, 21), (3, 22), (3, 23), (3, 24), (0, 0), (0, 0), (0, 0), (0, 0), (0, 0), (0, 0), (4, 0)])) := rfl
theorem fk_7_5 : FK 7 5 0 := ⟨_, .int, rfl, by decide +kernel, by decide +kernel, Or.inl ⟨rfl, rfl⟩⟩
theorem fl_W_34 : FL "EachBringsAnother$Wish" 34 7 6 := ⟨_, rfl, by decide +kernel, Or.inl (mem_g 300 (by decide +kernel) (by decide +kernel))⟩
theorem fk_7_6 : FK 7 6 0 := ⟨_, .int, rfl, by decide +kernel, by decide +kernel, Or.inl ⟨rfl, rfl⟩⟩
theorem fl_W_37 : FL "EachBringsAnother$Wish" 37 7 7 := ⟨_, rfl, by decide +kernel, Or.inl (mem_g 301 (by decide +kernel) (by decide +kernel))⟩
theorem fk_7_7 : FK 7 7 0 := ⟨_, .int, rfl, by decide +kernel, by decide +kernel, Or.inl ⟨rfl, rfl⟩⟩
theorem fl_W_40 : FL "EachBringsAnother$Wish" 40 7 8 := ⟨_, rfl, by decide +kernel, Or.inl (mem_g 302 (by decide +kernel) (by decide +kernel))⟩
theorem fk_7_8 : FK 7 8 0 := ⟨_, .int, rfl, by decide +kernel, by decide +kernel, Or.inl ⟨rfl, rfl⟩⟩
theorem fl_W_43 : FL "EachBringsAnother$Wish" 43 7 9 := ⟨_, rfl, by decide +kernel, Or.inl (mem_g 303 (by decide +kernel) (by decide +kernel))⟩
theorem fk_7_9 : FK 7 9 0 := ⟨_, .int, rfl, by decide +kernel, by decide +kernel, Or.inl ⟨rfl, rfl⟩⟩
theorem fl_W_46 : FL "EachBringsAnother$Wish" 46 7 10 := ⟨_, rfl, by decide +kernel, Or.inl (mem_g 304 (by decide +kernel) (by decide +kernel))⟩
theorem fk_7_10 : FK 7 10 4 := ⟨_, .boolean, rfl, by decide +kernel, by decide +kernel, Or.inr (Or.inr (Or.inl ⟨rfl, rfl⟩))⟩
def y_W_release : MethodName := ⟨"EachBringsAnother$Wish", "release", "(I)V"⟩
theorem ml_W_61 : ML "EachBringsAnother$Wish" 61 y_W_release := Or.inl (mem_g 587 (by decide +kernel) (by decide +kernel))
theorem cy_W_release : CY y_W_release prog_12_method_10_code 3 none 1 false := ⟨⟨by decide +kernel, by decide +kernel, by decide +kernel⟩, mem_g 91 (by decide +kernel) (by decide +kernel), mem_g 590 (by decide +kernel) (by decide +kernel), ⟨mem_g 589 (by decide +kernel) (by decide +kernel), mem_g 8 (by decide +kernel) (by decide +kernel)⟩⟩
theorem fl_W_18 : FL "EachBringsAnother$Wish" 18 7 2 := ⟨_, rfl, by decide +kernel, Or.inl (mem_g 296 (by decide +kernel) (by decide +kernel))⟩
theorem sh_22 : sh 22 = some (.inr (0, 40, [])) := rfl
def y_W_strength : MethodName := ⟨"EachBringsAnother$Wish", "strength", "(I)I"⟩
theorem ml_W_83 : ML "EachBringsAnother$Wish" 83 y_W_strength := Or.inl (mem_g 591 (by decide +kernel) (by decide +kernel))
theorem cy_W_strength : CY y_W_strength prog_12_method_7_code 1 (some .int) 1 true := ⟨⟨by decide +kernel, by decide +kernel, by decide +kernel⟩, mem_g 91 (by decide +kernel) (by decide +kernel), mem_g 593 (by decide +kernel) (by decide +kernel), mem_g 592 (by decide +kernel) (by decide +kernel)⟩
def y_W_write : MethodName := ⟨"EachBringsAnother$Wish", "write", "(I)V"⟩
theorem ml_W_77 : ML "EachBringsAnother$Wish" 77 y_W_write := Or.inl (mem_g 575 (by decide +kernel) (by decide +kernel))
theorem cy_W_write : CY y_W_write prog_12_method_8_code 2 none 1 false := ⟨⟨by decide +kernel, by decide +kernel, by decide +kernel⟩, mem_g 91 (by decide +kernel) (by decide +kernel), mem_g 578 (by decide +kernel) (by decide +kernel), ⟨mem_g 577 (by decide +kernel) (by decide +kernel), mem_g 5 (by decide +kernel) (by decide +kernel)⟩⟩
theorem fl_W_15 : FL "EachBringsAnother$Wish" 15 7 1 := ⟨_, rfl, by decide +kernel, Or.inl (mem_g 295 (by decide +kernel) (by decide +kernel))⟩
theorem sh_21 : sh 21 = some (.inr (0, 40, [])) := rfl
theorem fl_W_9 : FL "EachBringsAnother$Wish" 9 7 0 := ⟨_, rfl, by decide +kernel, Or.inl (mem_g 294 (by decide +kernel) (by decide +kernel))⟩
theorem ml_W_65 : Cond.methodLink "EachBringsAnother$Wish" 65 arraycopyName ∈ gw_tbl := mem_g 594 (by decide +kernel) (by decide +kernel)
theorem sh_20 : sh 20 = some (.inr (0, 40, [])) := rfl
theorem fl_W_30 : FL "EachBringsAnother$Wish" 30 7 4 := ⟨_, rfl, by decide +kernel, Or.inl (mem_g 298 (by decide +kernel) (by decide +kernel))⟩
theorem fk_7_4 : FK 7 4 0 := ⟨_, .int, rfl, by decide +kernel, by decide +kernel, Or.inl ⟨rfl, rfl⟩⟩
theorem ml_W_50 : ML "EachBringsAnother$Wish" 50 y_T_signAt := Or.inl (mem_g 563 (by decide +kernel) (by decide +kernel))
def y_W_takeBehindThing : MethodName := ⟨"EachBringsAnother$Wish", "takeBehindThing", "(I)Z"⟩
theorem ml_W_58 : ML "EachBringsAnother$Wish" 58 y_W_takeBehindThing := Or.inl (mem_g 579 (by decide +kernel) (by decide +kernel))
theorem cy_W_takeBehindThing : CY y_W_takeBehindThing prog_12_method_4_code 3 (some .boolean) 1 false := ⟨⟨by decide +kernel, by decide +kernel, by decide +kernel⟩, mem_g 91 (by decide +kernel) (by decide +kernel), mem_g 582 (by decide +kernel) (by decide +kernel), ⟨mem_g 581 (by decide +kernel) (by decide +kernel), mem_g 6 (by decide +kernel) (by decide +kernel)⟩⟩
def y_W_await : MethodName := ⟨"EachBringsAnother$Wish", "await", "(I)V"⟩
theorem ml_W_71 : ML "EachBringsAnother$Wish" 71 y_W_await := Or.inl (mem_g 568 (by decide +kernel) (by decide +kernel))
theorem cy_W_await : CY y_W_await prog_12_method_9_code 2 none 1 false := ⟨⟨by decide +kernel, by decide +kernel, by decide +kernel⟩, mem_g 91 (by decide +kernel) (by decide +kernel), mem_g 571 (by decide +kernel) (by decide +kernel), ⟨mem_g 570 (by decide +kernel) (by decide +kernel), mem_g 4 (by decide +kernel) (by decide +kernel)⟩⟩
def y_W_takeDigit : MethodName := ⟨"EachBringsAnother$Wish", "takeDigit", "(I)Z"⟩
theorem ml_W_80 : ML "EachBringsAnother$Wish" 80 y_W_takeDigit := Or.inl (mem_g 583 (by decide +kernel) (by decide +kernel))
theorem cy_W_takeDigit : CY y_W_takeDigit prog_12_method_5_code 2 (some .boolean) 1 false := ⟨⟨by decide +kernel, by decide +kernel, by decide +kernel⟩, mem_g 91 (by decide +kernel) (by decide +kernel), mem_g 586 (by decide +kernel) (by decide +kernel), ⟨mem_g 585 (by decide +kernel) (by decide +kernel), mem_g 7 (by decide +kernel) (by decide +kernel)⟩⟩
def y_W_takeThing : MethodName := ⟨"EachBringsAnother$Wish", "takeThing", "(I)Z"⟩
theorem ml_W_54 : ML "EachBringsAnother$Wish" 54 y_W_takeThing := Or.inl (mem_g 564 (by decide +kernel) (by decide +kernel))
theorem cy_W_takeThing : CY y_W_takeThing prog_12_method_3_code 3 (some .boolean) 1 false := ⟨⟨by decide +kernel, by decide +kernel, by decide +kernel⟩, mem_g 91 (by decide +kernel) (by decide +kernel), mem_g 567 (by decide +kernel) (by decide +kernel), ⟨mem_g 566 (by decide +kernel) (by decide +kernel), mem_g 3 (by decide +kernel) (by decide +kernel)⟩⟩
def y_W_isLetter : MethodName := ⟨"EachBringsAnother$Wish", "isLetter", "(I)Z"⟩
theorem ml_W_74 : ML "EachBringsAnother$Wish" 74 y_W_isLetter := Or.inl (mem_g 572 (by decide +kernel) (by decide +kernel))
theorem cy_W_isLetter : CY y_W_isLetter prog_12_method_6_code 1 (some .boolean) 1 true := ⟨⟨by decide +kernel, by decide +kernel, by decide +kernel⟩, mem_g 91 (by decide +kernel) (by decide +kernel), mem_g 574 (by decide +kernel) (by decide +kernel), mem_g 573 (by decide +kernel) (by decide +kernel)⟩
def y_E_rule : MethodName := ⟨"EachBringsAnother", "rule", "()I"⟩
theorem fl_E_159 : FL "EachBringsAnother" 159 2 8 := ⟨_, rfl, by decide +kernel, Or.inr ⟨"EachBringsAnother", mem_n 194 (by decide +kernel) (by decide +kernel)⟩⟩
theorem fk_2_8 : FK 2 8 0 := ⟨_, .int, rfl, by decide +kernel, by decide +kernel, Or.inl ⟨rfl, rfl⟩⟩
theorem fl_E_156 : FL "EachBringsAnother" 156 2 7 := ⟨_, rfl, by decide +kernel, Or.inr ⟨"EachBringsAnother", mem_n 189 (by decide +kernel) (by decide +kernel)⟩⟩
theorem fk_2_7 : FK 2 7 0 := ⟨_, .int, rfl, by decide +kernel, by decide +kernel, Or.inl ⟨rfl, rfl⟩⟩
def y_E_law : MethodName := ⟨"EachBringsAnother", "law", "(II)I"⟩
def y_E_areTwo : MethodName := ⟨"EachBringsAnother", "areTwo", "(II)Z"⟩
theorem ml_E_165 : ML "EachBringsAnother" 165 y_E_areTwo := Or.inl (mem_g 605 (by decide +kernel) (by decide +kernel))
theorem cy_E_areTwo : CY y_E_areTwo prog_1_method_48_code 3 (some .boolean) 2 false := ⟨⟨by decide +kernel, by decide +kernel, by decide +kernel⟩, mem_g 84 (by decide +kernel) (by decide +kernel), mem_g 608 (by decide +kernel) (by decide +kernel), ⟨mem_g 607 (by decide +kernel) (by decide +kernel), mem_g 9 (by decide +kernel) (by decide +kernel)⟩⟩
def y_F_isThere : MethodName := ⟨"EachBringsAnother$Folk", "isThere", "(I)Z"⟩
theorem ml_E_108 : ML "EachBringsAnother" 108 y_F_isThere := Or.inl (mem_g 609 (by decide +kernel) (by decide +kernel))
theorem cy_F_isThere : CY y_F_isThere prog_3_method_2_code 2 (some .boolean) 1 false := ⟨⟨by decide +kernel, by decide +kernel, by decide +kernel⟩, mem_g 87 (by decide +kernel) (by decide +kernel), mem_g 612 (by decide +kernel) (by decide +kernel), ⟨mem_g 610 (by decide +kernel) (by decide +kernel), mem_g 611 (by decide +kernel) (by decide +kernel)⟩⟩
theorem fl_E_122 : FL "EachBringsAnother" 122 2 1 := ⟨_, rfl, by decide +kernel, Or.inr ⟨"EachBringsAnother", mem_n 156 (by decide +kernel) (by decide +kernel)⟩⟩
theorem ml_E_168 : ML "EachBringsAnother" 168 y_E_with := Or.inl (mem_g 613 (by decide +kernel) (by decide +kernel))
def y_E_meet : MethodName := ⟨"EachBringsAnother", "meet", "(IIZ)Z"⟩
theorem fl_E_125 : FL "EachBringsAnother" 125 2 5 := ⟨_, rfl, by decide +kernel, Or.inr ⟨"EachBringsAnother", mem_n 181 (by decide +kernel) (by decide +kernel)⟩⟩
def y_E_hide : MethodName := ⟨"EachBringsAnother", "hide", "(IZ)Z"⟩
def y_F_everybody : MethodName := ⟨"EachBringsAnother$Folk", "everybody", "()I"⟩
theorem ml_E_172 : ML "EachBringsAnother" 172 y_F_everybody := Or.inl (mem_g 622 (by decide +kernel) (by decide +kernel))
theorem cy_F_everybody : CY y_F_everybody prog_3_method_3_code 1 (some .int) 0 false := ⟨⟨by decide +kernel, by decide +kernel, by decide +kernel⟩, mem_g 87 (by decide +kernel) (by decide +kernel), mem_g 625 (by decide +kernel) (by decide +kernel), ⟨mem_g 623 (by decide +kernel) (by decide +kernel), mem_g 624 (by decide +kernel) (by decide +kernel)⟩⟩
theorem ml_E_175 : ML "EachBringsAnother" 175 y_F_add := Or.inl (mem_g 626 (by decide +kernel) (by decide +kernel))
def y_E_baby : MethodName := ⟨"EachBringsAnother", "baby", "(I)I"⟩
def y_F_pricesOf : MethodName := ⟨"EachBringsAnother$Folk", "pricesOf", "(I)I"⟩
theorem ml_E_188 : ML "EachBringsAnother" 188 y_F_pricesOf := Or.inl (mem_g 643 (by decide +kernel) (by decide +kernel))
theorem cy_F_pricesOf : CY y_F_pricesOf prog_3_method_9_code 4 (some .int) 1 false := ⟨⟨by decide +kernel, by decide +kernel, by decide +kernel⟩, mem_g 87 (by decide +kernel) (by decide +kernel), mem_g 646 (by decide +kernel) (by decide +kernel), ⟨mem_g 644 (by decide +kernel) (by decide +kernel), mem_g 645 (by decide +kernel) (by decide +kernel)⟩⟩
theorem fl_E_118 : FL "EachBringsAnother" 118 2 0 := ⟨_, rfl, by decide +kernel, Or.inr ⟨"EachBringsAnother", mem_n 153 (by decide +kernel) (by decide +kernel)⟩⟩
def y_E_entry : MethodName := ⟨"EachBringsAnother", "entry", "(II)I"⟩
theorem ml_E_185 : ML "EachBringsAnother" 185 y_E_entry := Or.inl (mem_g 634 (by decide +kernel) (by decide +kernel))
theorem cy_E_entry : CY y_E_entry prog_1_method_51_code 3 (some .int) 2 true := ⟨⟨by decide +kernel, by decide +kernel, by decide +kernel⟩, mem_g 84 (by decide +kernel) (by decide +kernel), mem_g 636 (by decide +kernel) (by decide +kernel), mem_g 635 (by decide +kernel) (by decide +kernel)⟩
theorem ml_E_314 : Cond.methodLink "EachBringsAnother" 314 Lib.Math.min.name ∈ gw_tbl := mem_g 637 (by decide +kernel) (by decide +kernel)
theorem ml_E_269 : Cond.methodLink "EachBringsAnother" 269 Lib.Math.max.name ∈ gw_tbl := mem_g 640 (by decide +kernel) (by decide +kernel)
def y_JA_fill : MethodName := ⟨"java/util/Arrays", "fill", "([II)V"⟩
theorem ml_E_179 : ML "EachBringsAnother" 179 y_JA_fill := Or.inl (mem_g 631 (by decide +kernel) (by decide +kernel))
theorem cy_JA_fill : CY y_JA_fill prog_23_method_103_code 4 none 2 true := ⟨⟨by decide +kernel, by decide +kernel, by decide +kernel⟩, mem_g 103 (by decide +kernel) (by decide +kernel), mem_g 633 (by decide +kernel) (by decide +kernel), mem_g 632 (by decide +kernel) (by decide +kernel)⟩
def y_E_sheet : MethodName := ⟨"EachBringsAnother", "sheet", "(IIII)I"⟩
theorem fl_E_40 : FL "EachBringsAnother" 40 10 4 := ⟨_, rfl, by decide +kernel, Or.inl (mem_g 451 (by decide +kernel) (by decide +kernel))⟩
def y_P_read : MethodName := ⟨"EachBringsAnother$Plan", "read", "(LEachBringsAnother$Text;)I"⟩
theorem ml_E_191 : ML "EachBringsAnother" 191 y_P_read := Or.inl (mem_g 651 (by decide +kernel) (by decide +kernel))
theorem cy_P_read : CY y_P_read prog_8_method_7_code 5 (some .int) 1 false := ⟨⟨by decide +kernel, by decide +kernel, by decide +kernel⟩, mem_g 89 (by decide +kernel) (by decide +kernel), mem_g 654 (by decide +kernel) (by decide +kernel), ⟨mem_g 652 (by decide +kernel) (by decide +kernel), mem_g 653 (by decide +kernel) (by decide +kernel)⟩⟩
def y_P_clear : MethodName := ⟨"EachBringsAnother$Plan", "clear", "()V"⟩
theorem ml_P_25 : ML "EachBringsAnother$Plan" 25 y_P_clear := Or.inl (mem_g 655 (by decide +kernel) (by decide +kernel))
theorem cy_P_clear : CY y_P_clear prog_8_method_2_code 1 none 0 false := ⟨⟨by decide +kernel, by decide +kernel, by decide +kernel⟩, mem_g 89 (by decide +kernel) (by decide +kernel), mem_g 658 (by decide +kernel) (by decide +kernel), ⟨mem_g 656 (by decide +kernel) (by decide +kernel), mem_g 657 (by decide +kernel) (by decide +kernel)⟩⟩
theorem fl_P_18 : FL "EachBringsAnother$Plan" 18 4 2 := ⟨_, rfl, by decide +kernel, Or.inl (mem_g 248 (by decide +kernel) (by decide +kernel))⟩
theorem sh_12 : sh 12 = some (.inl (4, [(3, 14), (3, 15), (0, 0), (0, 0)])) := rfl
theorem fk_4_2 : FK 4 2 0 := ⟨_, .int, rfl, by decide +kernel, by decide +kernel, Or.inl ⟨rfl, rfl⟩⟩
theorem fl_P_22 : FL "EachBringsAnother$Plan" 22 4 3 := ⟨_, rfl, by decide +kernel, Or.inl (mem_g 250 (by decide +kernel) (by decide +kernel))⟩
theorem fk_4_3 : FK 4 3 0 := ⟨_, .int, rfl, by decide +kernel, by decide +kernel, Or.inl ⟨rfl, rfl⟩⟩
theorem fl_P_28 : FL "EachBringsAnother$Plan" 28 0 1 := ⟨_, rfl, by decide +kernel, Or.inr ⟨"EachBringsAnother", mem_n 123 (by decide +kernel) (by decide +kernel)⟩⟩
theorem ml_P_33 : ML "EachBringsAnother$Plan" 33 y_T_signAt := Or.inl (mem_g 659 (by decide +kernel) (by decide +kernel))
def y_P_add : MethodName := ⟨"EachBringsAnother$Plan", "add", "(II)V"⟩
theorem ml_P_37 : ML "EachBringsAnother$Plan" 37 y_P_add := Or.inl (mem_g 660 (by decide +kernel) (by decide +kernel))
theorem cy_P_add : CY y_P_add prog_8_method_3_code 3 none 2 false := ⟨⟨by decide +kernel, by decide +kernel, by decide +kernel⟩, mem_g 89 (by decide +kernel) (by decide +kernel), mem_g 663 (by decide +kernel) (by decide +kernel), ⟨mem_g 661 (by decide +kernel) (by decide +kernel), mem_g 662 (by decide +kernel) (by decide +kernel)⟩⟩
theorem fl_P_9 : FL "EachBringsAnother$Plan" 9 4 0 := ⟨_, rfl, by decide +kernel, Or.inl (mem_g 246 (by decide +kernel) (by decide +kernel))⟩
theorem sh_13 : sh 13 = some (.inr (0, 10, [])) := rfl
theorem fl_P_15 : FL "EachBringsAnother$Plan" 15 4 1 := ⟨_, rfl, by decide +kernel, Or.inl (mem_g 247 (by decide +kernel) (by decide +kernel))⟩
theorem sh_14 : sh 14 = some (.inr (0, 10, [])) := rfl
theorem fl_E_192 : FL "EachBringsAnother" 192 5 3 := ⟨_, rfl, by decide +kernel, Or.inr ⟨"EachBringsAnother", mem_n 273 (by decide +kernel) (by decide +kernel)⟩⟩
def y_P_firstWrongPair : MethodName := ⟨"EachBringsAnother$Plan", "firstWrongPair", "(LEachBringsAnother$Folk;)I"⟩
theorem ml_E_195 : ML "EachBringsAnother" 195 y_P_firstWrongPair := Or.inl (mem_g 664 (by decide +kernel) (by decide +kernel))
theorem cy_P_firstWrongPair : CY y_P_firstWrongPair prog_8_method_8_code 5 (some .int) 1 false := ⟨⟨by decide +kernel, by decide +kernel, by decide +kernel⟩, mem_g 89 (by decide +kernel) (by decide +kernel), mem_g 667 (by decide +kernel) (by decide +kernel), ⟨mem_g 665 (by decide +kernel) (by decide +kernel), mem_g 666 (by decide +kernel) (by decide +kernel)⟩⟩
theorem ml_P_41 : ML "EachBringsAnother$Plan" 41 y_F_guests := Or.inl (mem_g 668 (by decide +kernel) (by decide +kernel))
theorem ml_P_47 : ML "EachBringsAnother$Plan" 47 y_E_has := Or.inr ⟨"EachBringsAnother", mem_n 669 (by decide +kernel) (by decide +kernel)⟩
def y_F_free : MethodName := ⟨"EachBringsAnother$Folk", "free", "()I"⟩
theorem ml_P_55 : ML "EachBringsAnother$Plan" 55 y_F_free := Or.inl (mem_g 674 (by decide +kernel) (by decide +kernel))
theorem cy_F_free : CY y_F_free prog_3_method_6_code 1 (some .int) 0 false := ⟨⟨by decide +kernel, by decide +kernel, by decide +kernel⟩, mem_g 87 (by decide +kernel) (by decide +kernel), mem_g 677 (by decide +kernel) (by decide +kernel), ⟨mem_g 675 (by decide +kernel) (by decide +kernel), mem_g 676 (by decide +kernel) (by decide +kernel)⟩⟩
def y_F_strangers : MethodName := ⟨"EachBringsAnother$Folk", "strangers", "()I"⟩
theorem ml_F_47 : ML "EachBringsAnother$Folk" 47 y_F_strangers := Or.inl (mem_g 678 (by decide +kernel) (by decide +kernel))
theorem cy_F_strangers : CY y_F_strangers prog_3_method_5_code 1 (some .int) 0 false := ⟨⟨by decide +kernel, by decide +kernel, by decide +kernel⟩, mem_g 87 (by decide +kernel) (by decide +kernel), mem_g 681 (by decide +kernel) (by decide +kernel), ⟨mem_g 679 (by decide +kernel) (by decide +kernel), mem_g 680 (by decide +kernel) (by decide +kernel)⟩⟩
theorem ml_F_40 : ML "EachBringsAnother$Folk" 40 y_F_everybody := Or.inl (mem_g 682 (by decide +kernel) (by decide +kernel))
def y_O_known : MethodName := ⟨"EachBringsAnother$Who", "known", "(I)I"⟩
theorem ml_F_44 : ML "EachBringsAnother$Folk" 44 y_O_known := Or.inl (mem_g 683 (by decide +kernel) (by decide +kernel))
theorem cy_O_known : CY y_O_known prog_11_method_4_code 1 (some .int) 1 true := ⟨⟨by decide +kernel, by decide +kernel, by decide +kernel⟩, mem_g 96 (by decide +kernel) (by decide +kernel), mem_g 685 (by decide +kernel) (by decide +kernel), mem_g 684 (by decide +kernel) (by decide +kernel)⟩
theorem fl_F_50 : FL "EachBringsAnother$Folk" 50 2 5 := ⟨_, rfl, by decide +kernel, Or.inl (mem_g 180 (by decide +kernel) (by decide +kernel))⟩
def y_F_knownBy : MethodName := ⟨"EachBringsAnother$Folk", "knownBy", "(I)I"⟩
theorem ml_P_51 : ML "EachBringsAnother$Plan" 51 y_F_knownBy := Or.inl (mem_g 670 (by decide +kernel) (by decide +kernel))
theorem cy_F_knownBy : CY y_F_knownBy prog_3_method_8_code 4 (some .int) 1 false := ⟨⟨by decide +kernel, by decide +kernel, by decide +kernel⟩, mem_g 87 (by decide +kernel) (by decide +kernel), mem_g 673 (by decide +kernel) (by decide +kernel), ⟨mem_g 671 (by decide +kernel) (by decide +kernel), mem_g 672 (by decide +kernel) (by decide +kernel)⟩⟩
theorem fl_E_199 : FL "EachBringsAnother" 199 4 2 := ⟨_, rfl, by decide +kernel, Or.inr ⟨"EachBringsAnother", mem_n 249 (by decide +kernel) (by decide +kernel)⟩⟩
def y_E_pass : MethodName := ⟨"EachBringsAnother", "pass", "()I"⟩
theorem ml_E_206 : ML "EachBringsAnother" 206 y_E_pass := Or.inl (mem_g 705 (by decide +kernel) (by decide +kernel))
theorem cy_E_pass : CY y_E_pass prog_1_method_53_code 3 (some .int) 0 false := ⟨⟨by decide +kernel, by decide +kernel, by decide +kernel⟩, mem_g 84 (by decide +kernel) (by decide +kernel), mem_g 708 (by decide +kernel) (by decide +kernel), ⟨mem_g 707 (by decide +kernel) (by decide +kernel), mem_g 10 (by decide +kernel) (by decide +kernel)⟩⟩
def y_D_noteAhead : MethodName := ⟨"EachBringsAnother$Diary", "noteAhead", "(LEachBringsAnother$Folk;)V"⟩
theorem ml_E_369 : ML "EachBringsAnother" 369 y_D_noteAhead := Or.inl (mem_g 709 (by decide +kernel) (by decide +kernel))
theorem cy_D_noteAhead : CY y_D_noteAhead prog_2_method_6_code 2 none 1 false := ⟨⟨by decide +kernel, by decide +kernel, by decide +kernel⟩, mem_g 90 (by decide +kernel) (by decide +kernel), mem_g 712 (by decide +kernel) (by decide +kernel), ⟨mem_g 710 (by decide +kernel) (by decide +kernel), mem_g 711 (by decide +kernel) (by decide +kernel)⟩⟩
theorem fl_D_15 : FL "EachBringsAnother$Diary" 15 5 1 := ⟨_, rfl, by decide +kernel, Or.inl (mem_g 269 (by decide +kernel) (by decide +kernel))⟩
theorem fl_D_37 : FL "EachBringsAnother$Diary" 37 2 4 := ⟨_, rfl, by decide +kernel, Or.inr ⟨"EachBringsAnother", mem_n 174 (by decide +kernel) (by decide +kernel)⟩⟩
theorem sh_17 : sh 17 = some (.inr (0, 61, [])) := rfl
theorem fl_D_18 : FL "EachBringsAnother$Diary" 18 5 2 := ⟨_, rfl, by decide +kernel, Or.inl (mem_g 270 (by decide +kernel) (by decide +kernel))⟩
theorem fl_D_42 : FL "EachBringsAnother$Diary" 42 2 6 := ⟨_, rfl, by decide +kernel, Or.inr ⟨"EachBringsAnother", mem_n 183 (by decide +kernel) (by decide +kernel)⟩⟩
theorem sh_18 : sh 18 = some (.inr (0, 61, [])) := rfl
theorem fl_D_45 : FL "EachBringsAnother$Diary" 45 5 4 := ⟨_, rfl, by decide +kernel, Or.inl (mem_g 275 (by decide +kernel) (by decide +kernel))⟩
theorem fl_E_352 : FL "EachBringsAnother" 352 2 6 := ⟨_, rfl, by decide +kernel, Or.inr ⟨"EachBringsAnother", mem_n 184 (by decide +kernel) (by decide +kernel)⟩⟩
theorem fk_2_6 : FK 2 6 0 := ⟨_, .int, rfl, by decide +kernel, by decide +kernel, Or.inl ⟨rfl, rfl⟩⟩
theorem fl_E_139 : FL "EachBringsAnother" 139 2 4 := ⟨_, rfl, by decide +kernel, Or.inr ⟨"EachBringsAnother", mem_n 175 (by decide +kernel) (by decide +kernel)⟩⟩
theorem fl_E_200 : FL "EachBringsAnother" 200 4 3 := ⟨_, rfl, by decide +kernel, Or.inr ⟨"EachBringsAnother", mem_n 251 (by decide +kernel) (by decide +kernel)⟩⟩
def y_O_after : MethodName := ⟨"EachBringsAnother$Who", "after", "(III)I"⟩
theorem ml_E_381 : ML "EachBringsAnother" 381 y_O_after := Or.inl (mem_g 726 (by decide +kernel) (by decide +kernel))
theorem cy_O_after : CY y_O_after prog_11_method_9_code 6 (some .int) 3 true := ⟨⟨by decide +kernel, by decide +kernel, by decide +kernel⟩, mem_g 96 (by decide +kernel) (by decide +kernel), mem_g 728 (by decide +kernel) (by decide +kernel), mem_g 727 (by decide +kernel) (by decide +kernel)⟩
def y_O_lateOne : MethodName := ⟨"EachBringsAnother$Who", "lateOne", "(II)I"⟩
theorem ml_O_19 : ML "EachBringsAnother$Who" 19 y_O_lateOne := Or.inl (mem_g 693 (by decide +kernel) (by decide +kernel))
theorem cy_O_lateOne : CY y_O_lateOne prog_11_method_6_code 2 (some .int) 2 true := ⟨⟨by decide +kernel, by decide +kernel, by decide +kernel⟩, mem_g 96 (by decide +kernel) (by decide +kernel), mem_g 695 (by decide +kernel) (by decide +kernel), mem_g 694 (by decide +kernel) (by decide +kernel)⟩
def y_O_lateTwo : MethodName := ⟨"EachBringsAnother$Who", "lateTwo", "(II)I"⟩
theorem ml_O_23 : ML "EachBringsAnother$Who" 23 y_O_lateTwo := Or.inl (mem_g 696 (by decide +kernel) (by decide +kernel))
theorem cy_O_lateTwo : CY y_O_lateTwo prog_11_method_7_code 2 (some .int) 2 true := ⟨⟨by decide +kernel, by decide +kernel, by decide +kernel⟩, mem_g 96 (by decide +kernel) (by decide +kernel), mem_g 698 (by decide +kernel) (by decide +kernel), mem_g 697 (by decide +kernel) (by decide +kernel)⟩
def y_O_out : MethodName := ⟨"EachBringsAnother$Who", "out", "(I)I"⟩
theorem ml_O_26 : ML "EachBringsAnother$Who" 26 y_O_out := Or.inl (mem_g 729 (by decide +kernel) (by decide +kernel))
theorem cy_O_out : CY y_O_out prog_11_method_3_code 1 (some .int) 1 true := ⟨⟨by decide +kernel, by decide +kernel, by decide +kernel⟩, mem_g 96 (by decide +kernel) (by decide +kernel), mem_g 731 (by decide +kernel) (by decide +kernel), mem_g 730 (by decide +kernel) (by decide +kernel)⟩
theorem ml_O_9 : ML "EachBringsAnother$Who" 9 y_O_guests := Or.inl (mem_g 732 (by decide +kernel) (by decide +kernel))
theorem fk_5_3 : FK 5 3 0 := ⟨_, .int, rfl, by decide +kernel, by decide +kernel, Or.inl ⟨rfl, rfl⟩⟩
def y_P_bringer : MethodName := ⟨"EachBringsAnother$Plan", "bringer", "(I)I"⟩
theorem ml_E_372 : ML "EachBringsAnother" 372 y_P_bringer := Or.inl (mem_g 713 (by decide +kernel) (by decide +kernel))
theorem cy_P_bringer : CY y_P_bringer prog_8_method_4_code 2 (some .int) 1 false := ⟨⟨by decide +kernel, by decide +kernel, by decide +kernel⟩, mem_g 89 (by decide +kernel) (by decide +kernel), mem_g 716 (by decide +kernel) (by decide +kernel), ⟨mem_g 714 (by decide +kernel) (by decide +kernel), mem_g 715 (by decide +kernel) (by decide +kernel)⟩⟩
def y_P_whomOf : MethodName := ⟨"EachBringsAnother$Plan", "whomOf", "(I)I"⟩
theorem ml_E_375 : ML "EachBringsAnother" 375 y_P_whomOf := Or.inl (mem_g 717 (by decide +kernel) (by decide +kernel))
theorem cy_P_whomOf : CY y_P_whomOf prog_8_method_5_code 2 (some .int) 1 false := ⟨⟨by decide +kernel, by decide +kernel, by decide +kernel⟩, mem_g 89 (by decide +kernel) (by decide +kernel), mem_g 720 (by decide +kernel) (by decide +kernel), ⟨mem_g 718 (by decide +kernel) (by decide +kernel), mem_g 719 (by decide +kernel) (by decide +kernel)⟩⟩
def y_F_bring : MethodName := ⟨"EachBringsAnother$Folk", "bring", "(II)I"⟩
theorem ml_E_378 : ML "EachBringsAnother" 378 y_F_bring := Or.inl (mem_g 721 (by decide +kernel) (by decide +kernel))
theorem cy_F_bring : CY y_F_bring prog_3_method_11_code 3 (some .int) 2 false := ⟨⟨by decide +kernel, by decide +kernel, by decide +kernel⟩, mem_g 87 (by decide +kernel) (by decide +kernel), mem_g 724 (by decide +kernel) (by decide +kernel), ⟨mem_g 722 (by decide +kernel) (by decide +kernel), mem_g 723 (by decide +kernel) (by decide +kernel)⟩⟩
theorem ml_F_70 : ML "EachBringsAnother$Folk" 70 y_F_isThere := Or.inl (mem_g 725 (by decide +kernel) (by decide +kernel))
def y_F_guestsAfter : MethodName := ⟨"EachBringsAnother$Folk", "guestsAfter", "(I)I"⟩
theorem ml_E_203 : ML "EachBringsAnother" 203 y_F_guestsAfter := Or.inl (mem_g 686 (by decide +kernel) (by decide +kernel))
theorem cy_F_guestsAfter : CY y_F_guestsAfter prog_3_method_7_code 2 (some .int) 1 false := ⟨⟨by decide +kernel, by decide +kernel, by decide +kernel⟩, mem_g 87 (by decide +kernel) (by decide +kernel), mem_g 689 (by decide +kernel) (by decide +kernel), ⟨mem_g 687 (by decide +kernel) (by decide +kernel), mem_g 688 (by decide +kernel) (by decide +kernel)⟩⟩
theorem fl_F_21 : FL "EachBringsAnother$Folk" 21 2 7 := ⟨_, rfl, by decide +kernel, Or.inl (mem_g 185 (by decide +kernel) (by decide +kernel))⟩
def y_O_stay : MethodName := ⟨"EachBringsAnother$Who", "stay", "(II)I"⟩
theorem ml_F_53 : ML "EachBringsAnother$Folk" 53 y_O_stay := Or.inl (mem_g 690 (by decide +kernel) (by decide +kernel))
theorem cy_O_stay : CY y_O_stay prog_11_method_8_code 2 (some .int) 2 true := ⟨⟨by decide +kernel, by decide +kernel, by decide +kernel⟩, mem_g 96 (by decide +kernel) (by decide +kernel), mem_g 692 (by decide +kernel) (by decide +kernel), mem_g 691 (by decide +kernel) (by decide +kernel)⟩
def y_JI_bitCount : MethodName := ⟨"java/lang/Integer", "bitCount", "(I)I"⟩
theorem ml_F_57 : ML "EachBringsAnother$Folk" 57 y_JI_bitCount := Or.inl (mem_g 699 (by decide +kernel) (by decide +kernel))
theorem cy_JI_bitCount : CY y_JI_bitCount prog_17_method_49_code 1 (some .int) 1 true := ⟨⟨by decide +kernel, by decide +kernel, by decide +kernel⟩, mem_g 98 (by decide +kernel) (by decide +kernel), mem_g 701 (by decide +kernel) (by decide +kernel), mem_g 700 (by decide +kernel) (by decide +kernel)⟩
theorem kc_JI_265 : Cond.constant "java/lang/Integer" 265 (1431655765) ∈ gw_tbl := mem_g 702 (by decide +kernel) (by decide +kernel)
theorem kc_JI_266 : Cond.constant "java/lang/Integer" 266 (858993459) ∈ gw_tbl := mem_g 703 (by decide +kernel) (by decide +kernel)
theorem kc_JI_267 : Cond.constant "java/lang/Integer" 267 (252645135) ∈ gw_tbl := mem_g 704 (by decide +kernel) (by decide +kernel)
def y_E_week : MethodName := ⟨"EachBringsAnother", "week", "()I"⟩
def y_E_isWeek : MethodName := ⟨"EachBringsAnother", "isWeek", "(I)Z"⟩
theorem ml_E_209 : ML "EachBringsAnother" 209 y_E_isWeek := Or.inl (mem_g 737 (by decide +kernel) (by decide +kernel))
theorem cy_E_isWeek : CY y_E_isWeek prog_1_method_47_code 1 (some .boolean) 1 true := ⟨⟨by decide +kernel, by decide +kernel, by decide +kernel⟩, mem_g 84 (by decide +kernel) (by decide +kernel), mem_g 739 (by decide +kernel) (by decide +kernel), mem_g 738 (by decide +kernel) (by decide +kernel)⟩
theorem fl_E_19 : FL "EachBringsAnother" 19 10 1 := ⟨_, rfl, by decide +kernel, Or.inl (mem_g 448 (by decide +kernel) (by decide +kernel))⟩
def y_N_tell2 : MethodName := ⟨"EachBringsAnother$Numbers", "tell", "(II)V"⟩
theorem ml_E_216 : ML "EachBringsAnother" 216 y_N_tell2 := Or.inl (mem_g 769 (by decide +kernel) (by decide +kernel))
theorem cy_N_tell2 : CY y_N_tell2 prog_7_method_6_code 3 none 2 false := ⟨⟨by decide +kernel, by decide +kernel, by decide +kernel⟩, mem_g 86 (by decide +kernel) (by decide +kernel), mem_g 772 (by decide +kernel) (by decide +kernel), ⟨mem_g 770 (by decide +kernel) (by decide +kernel), mem_g 771 (by decide +kernel) (by decide +kernel)⟩⟩
def y_N_tell1 : MethodName := ⟨"EachBringsAnother$Numbers", "tell", "(I)V"⟩
theorem ml_N_26 : ML "EachBringsAnother$Numbers" 26 y_N_tell1 := Or.inl (mem_g 773 (by decide +kernel) (by decide +kernel))
theorem cy_N_tell1 : CY y_N_tell1 prog_7_method_5_code 2 none 1 false := ⟨⟨by decide +kernel, by decide +kernel, by decide +kernel⟩, mem_g 86 (by decide +kernel) (by decide +kernel), mem_g 776 (by decide +kernel) (by decide +kernel), ⟨mem_g 774 (by decide +kernel) (by decide +kernel), mem_g 775 (by decide +kernel) (by decide +kernel)⟩⟩
def y_N_clear : MethodName := ⟨"EachBringsAnother$Numbers", "clear", "()V"⟩
theorem ml_N_23 : ML "EachBringsAnother$Numbers" 23 y_N_clear := Or.inl (mem_g 777 (by decide +kernel) (by decide +kernel))
theorem cy_N_clear : CY y_N_clear prog_7_method_2_code 1 none 0 false := ⟨⟨by decide +kernel, by decide +kernel, by decide +kernel⟩, mem_g 86 (by decide +kernel) (by decide +kernel), mem_g 780 (by decide +kernel) (by decide +kernel), ⟨mem_g 778 (by decide +kernel) (by decide +kernel), mem_g 779 (by decide +kernel) (by decide +kernel)⟩⟩
theorem fl_N_15 : FL "EachBringsAnother$Numbers" 15 1 1 := ⟨_, rfl, by decide +kernel, Or.inl (mem_g 138 (by decide +kernel) (by decide +kernel))⟩
theorem sh_3 : sh 3 = some (.inl (1, [(3, 5), (0, 0)])) := rfl
theorem fk_1_1 : FK 1 1 0 := ⟨_, .int, rfl, by decide +kernel, by decide +kernel, Or.inl ⟨rfl, rfl⟩⟩
def y_N_put : MethodName := ⟨"EachBringsAnother$Numbers", "put", "(I)V"⟩
theorem ml_N_19 : ML "EachBringsAnother$Numbers" 19 y_N_put := Or.inl (mem_g 781 (by decide +kernel) (by decide +kernel))
theorem cy_N_put : CY y_N_put prog_7_method_3_code 2 none 1 false := ⟨⟨by decide +kernel, by decide +kernel, by decide +kernel⟩, mem_g 86 (by decide +kernel) (by decide +kernel), mem_g 784 (by decide +kernel) (by decide +kernel), ⟨mem_g 782 (by decide +kernel) (by decide +kernel), mem_g 783 (by decide +kernel) (by decide +kernel)⟩⟩
theorem fl_N_9 : FL "EachBringsAnother$Numbers" 9 1 0 := ⟨_, rfl, by decide +kernel, Or.inl (mem_g 137 (by decide +kernel) (by decide +kernel))⟩
theorem sh_4 : sh 4 = some (.inr (0, 20, [])) := rfl
def y_P_follow : MethodName := ⟨"EachBringsAnother$Plan", "follow", "(LEachBringsAnother$Wish;LEachBringsAnother$Folk;I)V"⟩
theorem ml_E_212 : ML "EachBringsAnother" 212 y_P_follow := Or.inl (mem_g 740 (by decide +kernel) (by decide +kernel))
theorem cy_P_follow : CY y_P_follow prog_8_method_9_code 7 none 3 false := ⟨⟨by decide +kernel, by decide +kernel, by decide +kernel⟩, mem_g 89 (by decide +kernel) (by decide +kernel), mem_g 743 (by decide +kernel) (by decide +kernel), ⟨mem_g 741 (by decide +kernel) (by decide +kernel), mem_g 742 (by decide +kernel) (by decide +kernel)⟩⟩
theorem fl_P_58 : FL "EachBringsAnother$Plan" 58 2 3 := ⟨_, rfl, by decide +kernel, Or.inr ⟨"EachBringsAnother", mem_n 167 (by decide +kernel) (by decide +kernel)⟩⟩
def y_W_favourite : MethodName := ⟨"EachBringsAnother$Wish", "favourite", "(LEachBringsAnother$Folk;III)I"⟩
theorem ml_P_62 : ML "EachBringsAnother$Plan" 62 y_W_favourite := Or.inl (mem_g 744 (by decide +kernel) (by decide +kernel))
theorem cy_W_favourite : CY y_W_favourite prog_12_method_11_code 9 (some .int) 4 false := ⟨⟨by decide +kernel, by decide +kernel, by decide +kernel⟩, mem_g 91 (by decide +kernel) (by decide +kernel), mem_g 747 (by decide +kernel) (by decide +kernel), ⟨mem_g 745 (by decide +kernel) (by decide +kernel), mem_g 746 (by decide +kernel) (by decide +kernel)⟩⟩
theorem fl_W_87 : FL "EachBringsAnother$Wish" 87 2 3 := ⟨_, rfl, by decide +kernel, Or.inr ⟨"EachBringsAnother", mem_n 168 (by decide +kernel) (by decide +kernel)⟩⟩
theorem ml_W_92 : ML "EachBringsAnother$Wish" 92 y_E_has := Or.inr ⟨"EachBringsAnother", mem_n 748 (by decide +kernel) (by decide +kernel)⟩
def y_W_value : MethodName := ⟨"EachBringsAnother$Wish", "value", "(LEachBringsAnother$Folk;III)I"⟩
theorem ml_W_96 : ML "EachBringsAnother$Wish" 96 y_W_value := Or.inl (mem_g 749 (by decide +kernel) (by decide +kernel))
theorem cy_W_value : CY y_W_value prog_12_method_12_code 8 (some .int) 4 false := ⟨⟨by decide +kernel, by decide +kernel, by decide +kernel⟩, mem_g 91 (by decide +kernel) (by decide +kernel), mem_g 752 (by decide +kernel) (by decide +kernel), ⟨mem_g 751 (by decide +kernel) (by decide +kernel), mem_g 11 (by decide +kernel) (by decide +kernel)⟩⟩
theorem fl_W_21 : FL "EachBringsAnother$Wish" 21 7 3 := ⟨_, rfl, by decide +kernel, Or.inl (mem_g 297 (by decide +kernel) (by decide +kernel))⟩
theorem sh_23 : sh 23 = some (.inr (0, 40, [])) := rfl
def y_W_thing : MethodName := ⟨"EachBringsAnother$Wish", "thing", "(ILEachBringsAnother$Folk;III)I"⟩
theorem ml_W_104 : ML "EachBringsAnother$Wish" 104 y_W_thing := Or.inl (mem_g 756 (by decide +kernel) (by decide +kernel))
theorem cy_W_thing : CY y_W_thing prog_12_method_14_code 6 (some .int) 5 true := ⟨⟨by decide +kernel, by decide +kernel, by decide +kernel⟩, mem_g 91 (by decide +kernel) (by decide +kernel), mem_g 758 (by decide +kernel) (by decide +kernel), mem_g 757 (by decide +kernel) (by decide +kernel)⟩
theorem ml_W_108 : ML "EachBringsAnother$Wish" 108 y_F_knownBy := Or.inl (mem_g 759 (by decide +kernel) (by decide +kernel))
theorem ml_W_123 : ML "EachBringsAnother$Wish" 123 y_F_guests := Or.inl (mem_g 763 (by decide +kernel) (by decide +kernel))
theorem ml_W_114 : ML "EachBringsAnother$Wish" 114 y_JI_bitCount := Or.inl (mem_g 761 (by decide +kernel) (by decide +kernel))
theorem fl_W_126 : FL "EachBringsAnother$Wish" 126 2 4 := ⟨_, rfl, by decide +kernel, Or.inr ⟨"EachBringsAnother", mem_n 176 (by decide +kernel) (by decide +kernel)⟩⟩
def y_O_late : MethodName := ⟨"EachBringsAnother$Who", "late", "(II)I"⟩
theorem ml_W_129 : ML "EachBringsAnother$Wish" 129 y_O_late := Or.inl (mem_g 764 (by decide +kernel) (by decide +kernel))
theorem cy_O_late : CY y_O_late prog_11_method_5_code 2 (some .int) 2 true := ⟨⟨by decide +kernel, by decide +kernel, by decide +kernel⟩, mem_g 96 (by decide +kernel) (by decide +kernel), mem_g 766 (by decide +kernel) (by decide +kernel), mem_g 765 (by decide +kernel) (by decide +kernel)⟩
theorem ml_O_15 : ML "EachBringsAnother$Who" 15 y_E_has := Or.inr ⟨"EachBringsAnother", mem_n 767 (by decide +kernel) (by decide +kernel)⟩
theorem ml_W_111 : ML "EachBringsAnother$Wish" 111 y_F_pricesOf := Or.inl (mem_g 760 (by decide +kernel) (by decide +kernel))
theorem ml_W_119 : ML "EachBringsAnother$Wish" 119 y_F_strangers := Or.inl (mem_g 762 (by decide +kernel) (by decide +kernel))
def y_W_operate : MethodName := ⟨"EachBringsAnother$Wish", "operate", "(III)I"⟩
theorem ml_W_100 : ML "EachBringsAnother$Wish" 100 y_W_operate := Or.inl (mem_g 753 (by decide +kernel) (by decide +kernel))
theorem cy_W_operate : CY y_W_operate prog_12_method_13_code 3 (some .int) 3 true := ⟨⟨by decide +kernel, by decide +kernel, by decide +kernel⟩, mem_g 91 (by decide +kernel) (by decide +kernel), mem_g 755 (by decide +kernel) (by decide +kernel), mem_g 754 (by decide +kernel) (by decide +kernel)⟩
theorem ml_P_68 : ML "EachBringsAnother$Plan" 68 y_F_guestsAfter := Or.inl (mem_g 768 (by decide +kernel) (by decide +kernel))
theorem fl_P_71 : FL "EachBringsAnother$Plan" 71 2 8 := ⟨_, rfl, by decide +kernel, Or.inr ⟨"EachBringsAnother", mem_n 195 (by decide +kernel) (by decide +kernel)⟩⟩
theorem fl_P_59 : FL "EachBringsAnother$Plan" 59 2 1 := ⟨_, rfl, by decide +kernel, Or.inr ⟨"EachBringsAnother", mem_n 157 (by decide +kernel) (by decide +kernel)⟩⟩
def y_E_goes : MethodName := ⟨"EachBringsAnother", "goes", "(I)I"⟩
def y_D_goBack : MethodName := ⟨"EachBringsAnother$Diary", "goBack", "(LEachBringsAnother$Folk;)Z"⟩
theorem ml_E_219 : ML "EachBringsAnother" 219 y_D_goBack := Or.inl (mem_g 789 (by decide +kernel) (by decide +kernel))
theorem cy_D_goBack : CY y_D_goBack prog_2_method_7_code 3 (some .boolean) 1 false := ⟨⟨by decide +kernel, by decide +kernel, by decide +kernel⟩, mem_g 90 (by decide +kernel) (by decide +kernel), mem_g 792 (by decide +kernel) (by decide +kernel), ⟨mem_g 790 (by decide +kernel) (by decide +kernel), mem_g 791 (by decide +kernel) (by decide +kernel)⟩⟩
theorem fl_D_48 : FL "EachBringsAnother$Diary" 48 2 3 := ⟨_, rfl, by decide +kernel, Or.inr ⟨"EachBringsAnother", mem_n 166 (by decide +kernel) (by decide +kernel)⟩⟩
theorem ml_D_51 : ML "EachBringsAnother$Diary" 51 y_F_strangers := Or.inl (mem_g 793 (by decide +kernel) (by decide +kernel))
theorem ml_D_33 : ML "EachBringsAnother$Diary" 33 y_E_has := Or.inr ⟨"EachBringsAnother", mem_n 794 (by decide +kernel) (by decide +kernel)⟩
theorem fl_D_55 : FL "EachBringsAnother$Diary" 55 2 2 := ⟨_, rfl, by decide +kernel, Or.inr ⟨"EachBringsAnother", mem_n 161 (by decide +kernel) (by decide +kernel)⟩⟩
def y_E_undo : MethodName := ⟨"EachBringsAnother", "undo", "()I"⟩
theorem fl_E_61 : FL "EachBringsAnother" 61 10 7 := ⟨_, rfl, by decide +kernel, Or.inl (mem_g 454 (by decide +kernel) (by decide +kernel))⟩
def y_M_gather : MethodName := ⟨"EachBringsAnother$Moves", "gather", "(LEachBringsAnother$Folk;II)V"⟩
theorem ml_E_223 : ML "EachBringsAnother" 223 y_M_gather := Or.inl (mem_g 799 (by decide +kernel) (by decide +kernel))
theorem cy_M_gather : CY y_M_gather prog_6_method_2_code 4 none 3 false := ⟨⟨by decide +kernel, by decide +kernel, by decide +kernel⟩, mem_g 92 (by decide +kernel) (by decide +kernel), mem_g 802 (by decide +kernel) (by decide +kernel), ⟨mem_g 800 (by decide +kernel) (by decide +kernel), mem_g 801 (by decide +kernel) (by decide +kernel)⟩⟩
theorem ml_M_21 : ML "EachBringsAnother$Moves" 21 y_O_guests := Or.inl (mem_g 803 (by decide +kernel) (by decide +kernel))
def y_M_prepare : MethodName := ⟨"EachBringsAnother$Moves", "prepare", "(LEachBringsAnother$Folk;III)V"⟩
theorem ml_M_27 : ML "EachBringsAnother$Moves" 27 y_M_prepare := Or.inl (mem_g 804 (by decide +kernel) (by decide +kernel))
theorem cy_M_prepare : CY y_M_prepare prog_6_method_4_code 5 none 4 false := ⟨⟨by decide +kernel, by decide +kernel, by decide +kernel⟩, mem_g 92 (by decide +kernel) (by decide +kernel), mem_g 807 (by decide +kernel) (by decide +kernel), ⟨mem_g 806 (by decide +kernel) (by decide +kernel), mem_g 12 (by decide +kernel) (by decide +kernel)⟩⟩
theorem fl_M_53 : FL "EachBringsAnother$Moves" 53 8 5 := ⟨_, rfl, by decide +kernel, Or.inl (mem_g 341 (by decide +kernel) (by decide +kernel))⟩
theorem sh_24 : sh 24 = some (.inl (8, [(3, 26), (3, 27), (3, 28), (0, 0), (0, 0), (2, 0), (0, 0), (0, 0), (0, 0), (0, 0)])) := rfl
theorem fk_8_5 : FK 8 5 2 := ⟨_, .object "EachBringsAnother$Folk", rfl, by decide +kernel, by decide +kernel, Or.inr (Or.inr (Or.inr ⟨rfl, Or.inl ⟨_, rfl⟩⟩))⟩
theorem fl_M_57 : FL "EachBringsAnother$Moves" 57 8 6 := ⟨_, rfl, by decide +kernel, Or.inl (mem_g 342 (by decide +kernel) (by decide +kernel))⟩
theorem fk_8_6 : FK 8 6 0 := ⟨_, .int, rfl, by decide +kernel, by decide +kernel, Or.inl ⟨rfl, rfl⟩⟩
theorem ml_M_60 : ML "EachBringsAnother$Moves" 60 y_F_everybody := Or.inl (mem_g 808 (by decide +kernel) (by decide +kernel))
theorem ml_M_64 : ML "EachBringsAnother$Moves" 64 y_O_known := Or.inl (mem_g 809 (by decide +kernel) (by decide +kernel))
theorem fl_M_67 : FL "EachBringsAnother$Moves" 67 2 5 := ⟨_, rfl, by decide +kernel, Or.inr ⟨"EachBringsAnother", mem_n 178 (by decide +kernel) (by decide +kernel)⟩⟩
theorem fl_M_70 : FL "EachBringsAnother$Moves" 70 8 7 := ⟨_, rfl, by decide +kernel, Or.inl (mem_g 343 (by decide +kernel) (by decide +kernel))⟩
theorem fk_8_7 : FK 8 7 0 := ⟨_, .int, rfl, by decide +kernel, by decide +kernel, Or.inl ⟨rfl, rfl⟩⟩
theorem fl_M_73 : FL "EachBringsAnother$Moves" 73 2 7 := ⟨_, rfl, by decide +kernel, Or.inr ⟨"EachBringsAnother", mem_n 187 (by decide +kernel) (by decide +kernel)⟩⟩
theorem ml_M_76 : ML "EachBringsAnother$Moves" 76 y_O_stay := Or.inl (mem_g 810 (by decide +kernel) (by decide +kernel))
theorem fl_M_44 : FL "EachBringsAnother$Moves" 44 8 8 := ⟨_, rfl, by decide +kernel, Or.inl (mem_g 344 (by decide +kernel) (by decide +kernel))⟩
theorem fk_8_8 : FK 8 8 0 := ⟨_, .int, rfl, by decide +kernel, by decide +kernel, Or.inl ⟨rfl, rfl⟩⟩
theorem fl_M_52 : FL "EachBringsAnother$Moves" 52 8 9 := ⟨_, rfl, by decide +kernel, Or.inl (mem_g 345 (by decide +kernel) (by decide +kernel))⟩
theorem fk_8_9 : FK 8 9 0 := ⟨_, .int, rfl, by decide +kernel, by decide +kernel, Or.inl ⟨rfl, rfl⟩⟩
theorem fl_M_79 : FL "EachBringsAnother$Moves" 79 8 3 := ⟨_, rfl, by decide +kernel, Or.inl (mem_g 337 (by decide +kernel) (by decide +kernel))⟩
theorem fk_8_3 : FK 8 3 0 := ⟨_, .int, rfl, by decide +kernel, by decide +kernel, Or.inl ⟨rfl, rfl⟩⟩
theorem fl_M_82 : FL "EachBringsAnother$Moves" 82 8 4 := ⟨_, rfl, by decide +kernel, Or.inl (mem_g 340 (by decide +kernel) (by decide +kernel))⟩
theorem fk_8_4 : FK 8 4 0 := ⟨_, .int, rfl, by decide +kernel, by decide +kernel, Or.inl ⟨rfl, rfl⟩⟩
def y_M_spread : MethodName := ⟨"EachBringsAnother$Moves", "spread", "(III)V"⟩
theorem ml_M_31 : ML "EachBringsAnother$Moves" 31 y_M_spread := Or.inl (mem_g 811 (by decide +kernel) (by decide +kernel))
theorem cy_M_spread : CY y_M_spread prog_6_method_5_code 9 none 3 false := ⟨⟨by decide +kernel, by decide +kernel, by decide +kernel⟩, mem_g 92 (by decide +kernel) (by decide +kernel), mem_g 814 (by decide +kernel) (by decide +kernel), ⟨mem_g 813 (by decide +kernel) (by decide +kernel), mem_g 13 (by decide +kernel) (by decide +kernel)⟩⟩
theorem fl_M_18 : FL "EachBringsAnother$Moves" 18 8 2 := ⟨_, rfl, by decide +kernel, Or.inl (mem_g 336 (by decide +kernel) (by decide +kernel))⟩
theorem sh_27 : sh 27 = some (.inr (0, 1024, [])) := rfl
theorem fl_M_11 : FL "EachBringsAnother$Moves" 11 8 0 := ⟨_, rfl, by decide +kernel, Or.inl (mem_g 334 (by decide +kernel) (by decide +kernel))⟩
theorem sh_25 : sh 25 = some (.inr (0, 256, [])) := rfl
theorem fl_M_15 : FL "EachBringsAnother$Moves" 15 8 1 := ⟨_, rfl, by decide +kernel, Or.inl (mem_g 335 (by decide +kernel) (by decide +kernel))⟩
theorem sh_26 : sh 26 = some (.inr (0, 256, [])) := rfl
theorem fl_M_85 : FL "EachBringsAnother$Moves" 85 2 3 := ⟨_, rfl, by decide +kernel, Or.inr ⟨"EachBringsAnother", mem_n 165 (by decide +kernel) (by decide +kernel)⟩⟩
theorem ml_M_86 : ML "EachBringsAnother$Moves" 86 y_E_has := Or.inr ⟨"EachBringsAnother", mem_n 815 (by decide +kernel) (by decide +kernel)⟩
theorem ml_M_47 : ML "EachBringsAnother$Moves" 47 y_JI_bitCount := Or.inl (mem_g 816 (by decide +kernel) (by decide +kernel))
theorem fl_M_90 : FL "EachBringsAnother$Moves" 90 2 1 := ⟨_, rfl, by decide +kernel, Or.inr ⟨"EachBringsAnother", mem_n 155 (by decide +kernel) (by decide +kernel)⟩⟩
theorem fl_E_227 : FL "EachBringsAnother" 227 8 3 := ⟨_, rfl, by decide +kernel, Or.inr ⟨"EachBringsAnother", mem_n 339 (by decide +kernel) (by decide +kernel)⟩⟩
theorem ml_E_132 : ML "EachBringsAnother" 132 y_F_strangers := Or.inl (mem_g 821 (by decide +kernel) (by decide +kernel))
theorem ml_E_231 : ML "EachBringsAnother" 231 y_N_tell1 := Or.inl (mem_g 822 (by decide +kernel) (by decide +kernel))
def y_M_moversOf : MethodName := ⟨"EachBringsAnother$Moves", "moversOf", "(I)I"⟩
theorem ml_E_228 : ML "EachBringsAnother" 228 y_M_moversOf := Or.inl (mem_g 817 (by decide +kernel) (by decide +kernel))
theorem cy_M_moversOf : CY y_M_moversOf prog_6_method_6_code 2 (some .int) 1 false := ⟨⟨by decide +kernel, by decide +kernel, by decide +kernel⟩, mem_g 92 (by decide +kernel) (by decide +kernel), mem_g 820 (by decide +kernel) (by decide +kernel), ⟨mem_g 818 (by decide +kernel) (by decide +kernel), mem_g 819 (by decide +kernel) (by decide +kernel)⟩⟩
def y_E_can : MethodName := ⟨"EachBringsAnother", "can", "()I"⟩
theorem ml_E_128 : ML "EachBringsAnother" 128 y_E_has := Or.inl (mem_g 827 (by decide +kernel) (by decide +kernel))
def y_P_whom : MethodName := ⟨"EachBringsAnother$Plan", "whom", "(I)I"⟩
theorem ml_E_234 : ML "EachBringsAnother" 234 y_P_whom := Or.inl (mem_g 828 (by decide +kernel) (by decide +kernel))
theorem cy_P_whom : CY y_P_whom prog_8_method_6_code 3 (some .int) 1 false := ⟨⟨by decide +kernel, by decide +kernel, by decide +kernel⟩, mem_g 89 (by decide +kernel) (by decide +kernel), mem_g 831 (by decide +kernel) (by decide +kernel), ⟨mem_g 829 (by decide +kernel) (by decide +kernel), mem_g 830 (by decide +kernel) (by decide +kernel)⟩⟩
def y_E_picks : MethodName := ⟨"EachBringsAnother", "picks", "(I)I"⟩
def y_E_largestWeek : MethodName := ⟨"EachBringsAnother", "largestWeek", "()I"⟩
theorem ml_E_237 : ML "EachBringsAnother" 237 y_E_largestWeek := Or.inl (mem_g 836 (by decide +kernel) (by decide +kernel))
theorem cy_E_largestWeek : CY y_E_largestWeek prog_1_method_54_code 3 (some .int) 0 false := ⟨⟨by decide +kernel, by decide +kernel, by decide +kernel⟩, mem_g 84 (by decide +kernel) (by decide +kernel), mem_g 839 (by decide +kernel) (by decide +kernel), ⟨mem_g 838 (by decide +kernel) (by decide +kernel), mem_g 14 (by decide +kernel) (by decide +kernel)⟩⟩
theorem ml_E_245 : ML "EachBringsAnother" 245 y_JI_bitCount := Or.inl (mem_g 840 (by decide +kernel) (by decide +kernel))
def y_M_tellPairs : MethodName := ⟨"EachBringsAnother$Moves", "tellPairs", "(ILEachBringsAnother$Numbers;)V"⟩
theorem ml_E_240 : ML "EachBringsAnother" 240 y_M_tellPairs := Or.inl (mem_g 841 (by decide +kernel) (by decide +kernel))
theorem cy_M_tellPairs : CY y_M_tellPairs prog_6_method_7_code 6 none 2 false := ⟨⟨by decide +kernel, by decide +kernel, by decide +kernel⟩, mem_g 92 (by decide +kernel) (by decide +kernel), mem_g 844 (by decide +kernel) (by decide +kernel), ⟨mem_g 842 (by decide +kernel) (by decide +kernel), mem_g 843 (by decide +kernel) (by decide +kernel)⟩⟩
theorem ml_M_93 : ML "EachBringsAnother$Moves" 93 y_N_clear := Or.inl (mem_g 845 (by decide +kernel) (by decide +kernel))
theorem ml_M_98 : ML "EachBringsAnother$Moves" 98 y_M_moversOf := Or.inl (mem_g 846 (by decide +kernel) (by decide +kernel))
def y_E_lowest : MethodName := ⟨"EachBringsAnother", "lowest", "(I)I"⟩
theorem ml_M_101 : ML "EachBringsAnother$Moves" 101 y_E_lowest := Or.inr ⟨"EachBringsAnother", mem_n 847 (by decide +kernel) (by decide +kernel)⟩
theorem cy_E_lowest : CY y_E_lowest prog_1_method_46_code 1 (some .int) 1 true := ⟨⟨by decide +kernel, by decide +kernel, by decide +kernel⟩, mem_g 84 (by decide +kernel) (by decide +kernel), mem_g 849 (by decide +kernel) (by decide +kernel), mem_g 848 (by decide +kernel) (by decide +kernel)⟩
def y_N_putFirst : MethodName := ⟨"EachBringsAnother$Numbers", "putFirst", "(I)V"⟩
theorem ml_M_104 : ML "EachBringsAnother$Moves" 104 y_N_putFirst := Or.inl (mem_g 850 (by decide +kernel) (by decide +kernel))
theorem cy_N_putFirst : CY y_N_putFirst prog_7_method_4_code 3 none 1 false := ⟨⟨by decide +kernel, by decide +kernel, by decide +kernel⟩, mem_g 86 (by decide +kernel) (by decide +kernel), mem_g 853 (by decide +kernel) (by decide +kernel), ⟨mem_g 851 (by decide +kernel) (by decide +kernel), mem_g 852 (by decide +kernel) (by decide +kernel)⟩⟩
theorem fl_E_244 : FL "EachBringsAnother" 244 1 1 := ⟨_, rfl, by decide +kernel, Or.inr ⟨"EachBringsAnother", mem_n 139 (by decide +kernel) (by decide +kernel)⟩⟩
def y_E_pairs : MethodName := ⟨"EachBringsAnother", "pairs", "()I"⟩
theorem ml_E_250 : ML "EachBringsAnother" 250 y_F_knownBy := Or.inl (mem_g 858 (by decide +kernel) (by decide +kernel))
theorem ml_E_253 : ML "EachBringsAnother" 253 y_F_free := Or.inl (mem_g 859 (by decide +kernel) (by decide +kernel))
def y_E_bars : MethodName := ⟨"EachBringsAnother", "bars", "()I"⟩
def y_S_run : MethodName := ⟨"EachBringsAnother$Search", "run", "(LEachBringsAnother$Folk;LEachBringsAnother$Moves;)Z"⟩
theorem ml_E_256 : ML "EachBringsAnother" 256 y_S_run := Or.inl (mem_g 864 (by decide +kernel) (by decide +kernel))
theorem cy_S_run : CY y_S_run prog_9_method_3_code 5 (some .boolean) 2 false := ⟨⟨by decide +kernel, by decide +kernel, by decide +kernel⟩, mem_g 93 (by decide +kernel) (by decide +kernel), mem_g 867 (by decide +kernel) (by decide +kernel), ⟨mem_g 865 (by decide +kernel) (by decide +kernel), mem_g 866 (by decide +kernel) (by decide +kernel)⟩⟩
def y_S_clear : MethodName := ⟨"EachBringsAnother$Search", "clear", "()V"⟩
theorem ml_S_41 : ML "EachBringsAnother$Search" 41 y_S_clear := Or.inl (mem_g 868 (by decide +kernel) (by decide +kernel))
theorem cy_S_clear : CY y_S_clear prog_9_method_4_code 1 none 0 false := ⟨⟨by decide +kernel, by decide +kernel, by decide +kernel⟩, mem_g 93 (by decide +kernel) (by decide +kernel), mem_g 871 (by decide +kernel) (by decide +kernel), ⟨mem_g 870 (by decide +kernel) (by decide +kernel), mem_g 15 (by decide +kernel) (by decide +kernel)⟩⟩
theorem fl_S_11 : FL "EachBringsAnother$Search" 11 9 0 := ⟨_, rfl, by decide +kernel, Or.inl (mem_g 373 (by decide +kernel) (by decide +kernel))⟩
theorem ml_S_61 : ML "EachBringsAnother$Search" 61 y_JA_fill := Or.inl (mem_g 872 (by decide +kernel) (by decide +kernel))
theorem sh_29 : sh 29 = some (.inr (0, 8192, [])) := rfl
theorem fl_S_28 : FL "EachBringsAnother$Search" 28 9 5 := ⟨_, rfl, by decide +kernel, Or.inl (mem_g 378 (by decide +kernel) (by decide +kernel))⟩
theorem sh_34 : sh 34 = some (.inr (0, 451, [])) := rfl
theorem fl_S_67 : FL "EachBringsAnother$Search" 67 9 7 := ⟨_, rfl, by decide +kernel, Or.inl (mem_g 380 (by decide +kernel) (by decide +kernel))⟩
theorem fk_9_7 : FK 9 7 0 := ⟨_, .int, rfl, by decide +kernel, by decide +kernel, Or.inl ⟨rfl, rfl⟩⟩
theorem fl_S_54 : FL "EachBringsAnother$Search" 54 9 8 := ⟨_, rfl, by decide +kernel, Or.inl (mem_g 382 (by decide +kernel) (by decide +kernel))⟩
theorem fk_9_8 : FK 9 8 0 := ⟨_, .int, rfl, by decide +kernel, by decide +kernel, Or.inl ⟨rfl, rfl⟩⟩
theorem fl_S_38 : FL "EachBringsAnother$Search" 38 9 10 := ⟨_, rfl, by decide +kernel, Or.inl (mem_g 384 (by decide +kernel) (by decide +kernel))⟩
theorem fk_9_10 : FK 9 10 4 := ⟨_, .boolean, rfl, by decide +kernel, by decide +kernel, Or.inr (Or.inr (Or.inl ⟨rfl, rfl⟩))⟩
theorem fl_S_44 : FL "EachBringsAnother$Search" 44 2 4 := ⟨_, rfl, by decide +kernel, Or.inr ⟨"EachBringsAnother", mem_n 171 (by decide +kernel) (by decide +kernel)⟩⟩
def y_S_place : MethodName := ⟨"EachBringsAnother$Search", "place", "(IJ)V"⟩
theorem ml_S_50 : ML "EachBringsAnother$Search" 50 y_S_place := Or.inl (mem_g 873 (by decide +kernel) (by decide +kernel))
theorem cy_S_place : CY y_S_place prog_9_method_7_code 6 none 2 false := ⟨⟨by decide +kernel, by decide +kernel, by decide +kernel⟩, mem_g 93 (by decide +kernel) (by decide +kernel), mem_g 876 (by decide +kernel) (by decide +kernel), ⟨mem_g 875 (by decide +kernel) (by decide +kernel), mem_g 16 (by decide +kernel) (by decide +kernel)⟩⟩
def y_S_slotOf : MethodName := ⟨"EachBringsAnother$Search", "slotOf", "(I)I"⟩
theorem ml_S_99 : ML "EachBringsAnother$Search" 99 y_S_slotOf := Or.inl (mem_g 877 (by decide +kernel) (by decide +kernel))
theorem cy_S_slotOf : CY y_S_slotOf prog_9_method_6_code 4 (some .int) 1 false := ⟨⟨by decide +kernel, by decide +kernel, by decide +kernel⟩, mem_g 93 (by decide +kernel) (by decide +kernel), mem_g 880 (by decide +kernel) (by decide +kernel), ⟨mem_g 879 (by decide +kernel) (by decide +kernel), mem_g 17 (by decide +kernel) (by decide +kernel)⟩⟩
theorem kc_S_98 : Cond.constant "EachBringsAnother$Search" 98 (-1640531535) ∈ gw_tbl := mem_g 881 (by decide +kernel) (by decide +kernel)
theorem fl_S_15 : FL "EachBringsAnother$Search" 15 9 1 := ⟨_, rfl, by decide +kernel, Or.inl (mem_g 374 (by decide +kernel) (by decide +kernel))⟩
theorem sh_30 : sh 30 = some (.inr (0, 3000, [])) := rfl
theorem fl_S_18 : FL "EachBringsAnother$Search" 18 9 2 := ⟨_, rfl, by decide +kernel, Or.inl (mem_g 375 (by decide +kernel) (by decide +kernel))⟩
theorem sh_31 : sh 31 = some (.inr (1, 3000, [])) := rfl
def y_O_rank : MethodName := ⟨"EachBringsAnother$Who", "rank", "(I)I"⟩
theorem ml_S_102 : ML "EachBringsAnother$Search" 102 y_O_rank := Or.inl (mem_g 882 (by decide +kernel) (by decide +kernel))
theorem cy_O_rank : CY y_O_rank prog_11_method_10_code 2 (some .int) 1 true := ⟨⟨by decide +kernel, by decide +kernel, by decide +kernel⟩, mem_g 96 (by decide +kernel) (by decide +kernel), mem_g 884 (by decide +kernel) (by decide +kernel), mem_g 883 (by decide +kernel) (by decide +kernel)⟩
theorem ml_O_29 : ML "EachBringsAnother$Who" 29 y_JI_bitCount := Or.inl (mem_g 885 (by decide +kernel) (by decide +kernel))
theorem ml_O_34 : ML "EachBringsAnother$Who" 34 y_O_known := Or.inl (mem_g 886 (by decide +kernel) (by decide +kernel))
theorem fl_S_25 : FL "EachBringsAnother$Search" 25 9 4 := ⟨_, rfl, by decide +kernel, Or.inl (mem_g 377 (by decide +kernel) (by decide +kernel))⟩
theorem sh_33 : sh 33 = some (.inr (0, 3000, [])) := rfl
theorem fl_S_31 : FL "EachBringsAnother$Search" 31 9 6 := ⟨_, rfl, by decide +kernel, Or.inl (mem_g 379 (by decide +kernel) (by decide +kernel))⟩
theorem sh_35 : sh 35 = some (.inr (0, 3000, [])) := rfl
def y_S_goOn : MethodName := ⟨"EachBringsAnother$Search", "goOn", "(ILEachBringsAnother$Folk;LEachBringsAnother$Moves;)V"⟩
theorem ml_S_57 : ML "EachBringsAnother$Search" 57 y_S_goOn := Or.inl (mem_g 887 (by decide +kernel) (by decide +kernel))
theorem cy_S_goOn : CY y_S_goOn prog_9_method_5_code 5 none 3 false := ⟨⟨by decide +kernel, by decide +kernel, by decide +kernel⟩, mem_g 93 (by decide +kernel) (by decide +kernel), mem_g 890 (by decide +kernel) (by decide +kernel), ⟨mem_g 889 (by decide +kernel) (by decide +kernel), mem_g 18 (by decide +kernel) (by decide +kernel)⟩⟩
def y_S_guests : MethodName := ⟨"EachBringsAnother$Search", "guests", "(I)I"⟩
theorem ml_S_70 : ML "EachBringsAnother$Search" 70 y_S_guests := Or.inl (mem_g 891 (by decide +kernel) (by decide +kernel))
theorem cy_S_guests : CY y_S_guests prog_9_method_8_code 2 (some .int) 1 false := ⟨⟨by decide +kernel, by decide +kernel, by decide +kernel⟩, mem_g 93 (by decide +kernel) (by decide +kernel), mem_g 894 (by decide +kernel) (by decide +kernel), ⟨mem_g 892 (by decide +kernel) (by decide +kernel), mem_g 893 (by decide +kernel) (by decide +kernel)⟩⟩
theorem ml_S_105 : ML "EachBringsAnother$Search" 105 y_O_guests := Or.inl (mem_g 895 (by decide +kernel) (by decide +kernel))
theorem fl_S_76 : FL "EachBringsAnother$Search" 76 2 8 := ⟨_, rfl, by decide +kernel, Or.inr ⟨"EachBringsAnother", mem_n 193 (by decide +kernel) (by decide +kernel)⟩⟩
theorem ml_S_79 : ML "EachBringsAnother$Search" 79 y_M_gather := Or.inl (mem_g 897 (by decide +kernel) (by decide +kernel))
theorem fl_S_85 : FL "EachBringsAnother$Search" 85 8 3 := ⟨_, rfl, by decide +kernel, Or.inr ⟨"EachBringsAnother", mem_n 338 (by decide +kernel) (by decide +kernel)⟩⟩
theorem ml_S_86 : ML "EachBringsAnother$Search" 86 y_M_moversOf := Or.inl (mem_g 898 (by decide +kernel) (by decide +kernel))
theorem fl_S_89 : FL "EachBringsAnother$Search" 89 2 7 := ⟨_, rfl, by decide +kernel, Or.inr ⟨"EachBringsAnother", mem_n 188 (by decide +kernel) (by decide +kernel)⟩⟩
theorem ml_S_92 : ML "EachBringsAnother$Search" 92 y_O_after := Or.inl (mem_g 899 (by decide +kernel) (by decide +kernel))
theorem kc_S_74 : Cond.constantLong "EachBringsAnother$Search" 74 (2305843009213693951) ∈ gw_tbl := mem_g 896 (by decide +kernel) (by decide +kernel)
theorem fl_E_260 : FL "EachBringsAnother" 260 9 7 := ⟨_, rfl, by decide +kernel, Or.inr ⟨"EachBringsAnother", mem_n 381 (by decide +kernel) (by decide +kernel)⟩⟩
def y_S_mostGuests : MethodName := ⟨"EachBringsAnother$Search", "mostGuests", "()I"⟩
theorem ml_E_263 : ML "EachBringsAnother" 263 y_S_mostGuests := Or.inl (mem_g 901 (by decide +kernel) (by decide +kernel))
theorem cy_S_mostGuests : CY y_S_mostGuests prog_9_method_11_code 3 (some .int) 0 false := ⟨⟨by decide +kernel, by decide +kernel, by decide +kernel⟩, mem_g 93 (by decide +kernel) (by decide +kernel), mem_g 904 (by decide +kernel) (by decide +kernel), ⟨mem_g 902 (by decide +kernel) (by decide +kernel), mem_g 903 (by decide +kernel) (by decide +kernel)⟩⟩
theorem ml_S_110 : ML "EachBringsAnother$Search" 110 y_JI_bitCount := Or.inl (mem_g 905 (by decide +kernel) (by decide +kernel))
theorem ml_S_115 : Cond.methodLink "EachBringsAnother$Search" 115 Lib.Math.max.name ∈ gw_tbl := mem_g 906 (by decide +kernel) (by decide +kernel)
theorem ml_E_261 : ML "EachBringsAnother" 261 y_S_guests := Or.inl (mem_g 900 (by decide +kernel) (by decide +kernel))
def y_E_states : MethodName := ⟨"EachBringsAnother", "states", "()I"⟩
def y_S_canBe : MethodName := ⟨"EachBringsAnother$Search", "canBe", "(II)Z"⟩
theorem ml_E_266 : ML "EachBringsAnother" 266 y_S_canBe := Or.inl (mem_g 911 (by decide +kernel) (by decide +kernel))
theorem cy_S_canBe : CY y_S_canBe prog_9_method_10_code 3 (some .boolean) 2 false := ⟨⟨by decide +kernel, by decide +kernel, by decide +kernel⟩, mem_g 93 (by decide +kernel) (by decide +kernel), mem_g 914 (by decide +kernel) (by decide +kernel), ⟨mem_g 912 (by decide +kernel) (by decide +kernel), mem_g 913 (by decide +kernel) (by decide +kernel)⟩⟩
def y_S_weeksOf : MethodName := ⟨"EachBringsAnother$Search", "weeksOf", "(I)J"⟩
theorem ml_S_106 : ML "EachBringsAnother$Search" 106 y_S_weeksOf := Or.inl (mem_g 915 (by decide +kernel) (by decide +kernel))
theorem cy_S_weeksOf : CY y_S_weeksOf prog_9_method_9_code 2 (some .long) 1 false := ⟨⟨by decide +kernel, by decide +kernel, by decide +kernel⟩, mem_g 93 (by decide +kernel) (by decide +kernel), mem_g 918 (by decide +kernel) (by decide +kernel), ⟨mem_g 916 (by decide +kernel) (by decide +kernel), mem_g 917 (by decide +kernel) (by decide +kernel)⟩⟩
def y_E_most : MethodName := ⟨"EachBringsAnother", "most", "(I)I"⟩
def y_E_reach : MethodName := ⟨"EachBringsAnother", "reach", "(I)I"⟩
def y_S_fewestGuests : MethodName := ⟨"EachBringsAnother$Search", "fewestGuests", "(I)I"⟩
theorem ml_E_274 : ML "EachBringsAnother" 274 y_S_fewestGuests := Or.inl (mem_g 927 (by decide +kernel) (by decide +kernel))
theorem cy_S_fewestGuests : CY y_S_fewestGuests prog_9_method_12_code 4 (some .int) 1 false := ⟨⟨by decide +kernel, by decide +kernel, by decide +kernel⟩, mem_g 93 (by decide +kernel) (by decide +kernel), mem_g 930 (by decide +kernel) (by decide +kernel), ⟨mem_g 928 (by decide +kernel) (by decide +kernel), mem_g 929 (by decide +kernel) (by decide +kernel)⟩⟩
theorem ml_S_121 : ML "EachBringsAnother$Search" 121 y_S_canBe := Or.inl (mem_g 931 (by decide +kernel) (by decide +kernel))
def y_E_less : MethodName := ⟨"EachBringsAnother", "less", "(II)I"⟩
theorem ml_S_125 : ML "EachBringsAnother$Search" 125 y_E_less := Or.inr ⟨"EachBringsAnother", mem_n 932 (by decide +kernel) (by decide +kernel)⟩
theorem cy_E_less : CY y_E_less prog_1_method_49_code 2 (some .int) 2 true := ⟨⟨by decide +kernel, by decide +kernel, by decide +kernel⟩, mem_g 84 (by decide +kernel) (by decide +kernel), mem_g 934 (by decide +kernel) (by decide +kernel), mem_g 933 (by decide +kernel) (by decide +kernel)⟩
def y_E_fewest : MethodName := ⟨"EachBringsAnother", "fewest", "(I)I"⟩
def y_E_firstWeek : MethodName := ⟨"EachBringsAnother", "firstWeek", "(J)I"⟩
theorem ml_E_281 : ML "EachBringsAnother" 281 y_E_firstWeek := Or.inl (mem_g 940 (by decide +kernel) (by decide +kernel))
theorem cy_E_firstWeek : CY y_E_firstWeek prog_1_method_50_code 3 (some .int) 1 true := ⟨⟨by decide +kernel, by decide +kernel, by decide +kernel⟩, mem_g 84 (by decide +kernel) (by decide +kernel), mem_g 942 (by decide +kernel) (by decide +kernel), mem_g 941 (by decide +kernel) (by decide +kernel)⟩
def y_S_paidFor : MethodName := ⟨"EachBringsAnother$Search", "paidFor", "(ILEachBringsAnother$Folk;)I"⟩
theorem ml_E_285 : ML "EachBringsAnother" 285 y_S_paidFor := Or.inl (mem_g 943 (by decide +kernel) (by decide +kernel))
theorem cy_S_paidFor : CY y_S_paidFor prog_9_method_13_code 3 (some .int) 2 false := ⟨⟨by decide +kernel, by decide +kernel, by decide +kernel⟩, mem_g 93 (by decide +kernel) (by decide +kernel), mem_g 946 (by decide +kernel) (by decide +kernel), ⟨mem_g 944 (by decide +kernel) (by decide +kernel), mem_g 945 (by decide +kernel) (by decide +kernel)⟩⟩
theorem ml_S_128 : ML "EachBringsAnother$Search" 128 y_F_strangers := Or.inl (mem_g 947 (by decide +kernel) (by decide +kernel))
theorem ml_S_132 : ML "EachBringsAnother$Search" 132 y_O_known := Or.inl (mem_g 948 (by decide +kernel) (by decide +kernel))
theorem ml_S_135 : ML "EachBringsAnother$Search" 135 y_F_pricesOf := Or.inl (mem_g 949 (by decide +kernel) (by decide +kernel))
theorem ml_E_289 : ML "EachBringsAnother" 289 y_E_less := Or.inl (mem_g 950 (by decide +kernel) (by decide +kernel))
theorem ml_E_277 : ML "EachBringsAnother" 277 y_S_weeksOf := Or.inl (mem_g 939 (by decide +kernel) (by decide +kernel))
def y_E_crowd : MethodName := ⟨"EachBringsAnother", "crowd", "()I"⟩
def y_S_leastPaid : MethodName := ⟨"EachBringsAnother$Search", "leastPaid", "(IILEachBringsAnother$Folk;)I"⟩
theorem ml_E_292 : ML "EachBringsAnother" 292 y_S_leastPaid := Or.inl (mem_g 955 (by decide +kernel) (by decide +kernel))
theorem cy_S_leastPaid : CY y_S_leastPaid prog_9_method_14_code 6 (some .int) 3 false := ⟨⟨by decide +kernel, by decide +kernel, by decide +kernel⟩, mem_g 93 (by decide +kernel) (by decide +kernel), mem_g 958 (by decide +kernel) (by decide +kernel), ⟨mem_g 956 (by decide +kernel) (by decide +kernel), mem_g 957 (by decide +kernel) (by decide +kernel)⟩⟩
theorem ml_S_138 : ML "EachBringsAnother$Search" 138 y_S_paidFor := Or.inl (mem_g 959 (by decide +kernel) (by decide +kernel))
def y_E_both : MethodName := ⟨"EachBringsAnother", "both", "(III)I"⟩
def y_S_lastWeek : MethodName := ⟨"EachBringsAnother$Search", "lastWeek", "(II)I"⟩
theorem ml_E_296 : ML "EachBringsAnother" 296 y_S_lastWeek := Or.inl (mem_g 964 (by decide +kernel) (by decide +kernel))
theorem cy_S_lastWeek : CY y_S_lastWeek prog_9_method_16_code 6 (some .int) 2 false := ⟨⟨by decide +kernel, by decide +kernel, by decide +kernel⟩, mem_g 93 (by decide +kernel) (by decide +kernel), mem_g 967 (by decide +kernel) (by decide +kernel), ⟨mem_g 965 (by decide +kernel) (by decide +kernel), mem_g 966 (by decide +kernel) (by decide +kernel)⟩⟩
def y_S_weeksWith : MethodName := ⟨"EachBringsAnother$Search", "weeksWith", "(II)J"⟩
theorem ml_S_142 : ML "EachBringsAnother$Search" 142 y_S_weeksWith := Or.inl (mem_g 968 (by decide +kernel) (by decide +kernel))
theorem cy_S_weeksWith : CY y_S_weeksWith prog_9_method_15_code 6 (some .long) 2 false := ⟨⟨by decide +kernel, by decide +kernel, by decide +kernel⟩, mem_g 93 (by decide +kernel) (by decide +kernel), mem_g 971 (by decide +kernel) (by decide +kernel), ⟨mem_g 969 (by decide +kernel) (by decide +kernel), mem_g 970 (by decide +kernel) (by decide +kernel)⟩⟩
def y_E_last : MethodName := ⟨"EachBringsAnother", "last", "()I"⟩
def y_S_lookBack : MethodName := ⟨"EachBringsAnother$Search", "lookBack", "(LEachBringsAnother$Folk;LEachBringsAnother$Moves;II)V"⟩
theorem ml_E_299 : ML "EachBringsAnother" 299 y_S_lookBack := Or.inl (mem_g 976 (by decide +kernel) (by decide +kernel))
theorem cy_S_lookBack : CY y_S_lookBack prog_9_method_17_code 10 none 4 false := ⟨⟨by decide +kernel, by decide +kernel, by decide +kernel⟩, mem_g 93 (by decide +kernel) (by decide +kernel), mem_g 979 (by decide +kernel) (by decide +kernel), ⟨mem_g 977 (by decide +kernel) (by decide +kernel), mem_g 978 (by decide +kernel) (by decide +kernel)⟩⟩
theorem fl_S_22 : FL "EachBringsAnother$Search" 22 9 3 := ⟨_, rfl, by decide +kernel, Or.inl (mem_g 376 (by decide +kernel) (by decide +kernel))⟩
def y_S_leftBehind : MethodName := ⟨"EachBringsAnother$Search", "leftBehind", "(ILEachBringsAnother$Folk;LEachBringsAnother$Moves;)J"⟩
theorem ml_S_146 : ML "EachBringsAnother$Search" 146 y_S_leftBehind := Or.inl (mem_g 980 (by decide +kernel) (by decide +kernel))
theorem cy_S_leftBehind : CY y_S_leftBehind prog_9_method_18_code 7 (some .long) 3 false := ⟨⟨by decide +kernel, by decide +kernel, by decide +kernel⟩, mem_g 93 (by decide +kernel) (by decide +kernel), mem_g 983 (by decide +kernel) (by decide +kernel), ⟨mem_g 982 (by decide +kernel) (by decide +kernel), mem_g 19 (by decide +kernel) (by decide +kernel)⟩⟩
def y_S_leftOf : MethodName := ⟨"EachBringsAnother$Search", "leftOf", "(I)J"⟩
theorem ml_S_150 : ML "EachBringsAnother$Search" 150 y_S_leftOf := Or.inl (mem_g 984 (by decide +kernel) (by decide +kernel))
theorem cy_S_leftOf : CY y_S_leftOf prog_9_method_19_code 3 (some .long) 1 false := ⟨⟨by decide +kernel, by decide +kernel, by decide +kernel⟩, mem_g 93 (by decide +kernel) (by decide +kernel), mem_g 987 (by decide +kernel) (by decide +kernel), ⟨mem_g 986 (by decide +kernel) (by decide +kernel), mem_g 20 (by decide +kernel) (by decide +kernel)⟩⟩
theorem sh_32 : sh 32 = some (.inr (1, 3000, [])) := rfl
def y_E_tellFirstWeek : MethodName := ⟨"EachBringsAnother", "tellFirstWeek", "(I)V"⟩
theorem ml_E_303 : ML "EachBringsAnother" 303 y_E_tellFirstWeek := Or.inl (mem_g 988 (by decide +kernel) (by decide +kernel))
theorem cy_E_tellFirstWeek : CY y_E_tellFirstWeek prog_1_method_55_code 3 none 1 false := ⟨⟨by decide +kernel, by decide +kernel, by decide +kernel⟩, mem_g 84 (by decide +kernel) (by decide +kernel), mem_g 991 (by decide +kernel) (by decide +kernel), ⟨mem_g 990 (by decide +kernel) (by decide +kernel), mem_g 21 (by decide +kernel) (by decide +kernel)⟩⟩
def y_E_firstThatLeads : MethodName := ⟨"EachBringsAnother", "firstThatLeads", "(I)I"⟩
theorem ml_E_385 : ML "EachBringsAnother" 385 y_E_firstThatLeads := Or.inl (mem_g 992 (by decide +kernel) (by decide +kernel))
theorem cy_E_firstThatLeads : CY y_E_firstThatLeads prog_1_method_56_code 4 (some .int) 1 false := ⟨⟨by decide +kernel, by decide +kernel, by decide +kernel⟩, mem_g 84 (by decide +kernel) (by decide +kernel), mem_g 995 (by decide +kernel) (by decide +kernel), ⟨mem_g 994 (by decide +kernel) (by decide +kernel), mem_g 22 (by decide +kernel) (by decide +kernel)⟩⟩
def y_S_leads : MethodName := ⟨"EachBringsAnother$Search", "leads", "(II)Z"⟩
theorem ml_E_388 : ML "EachBringsAnother" 388 y_S_leads := Or.inl (mem_g 996 (by decide +kernel) (by decide +kernel))
theorem cy_S_leads : CY y_S_leads prog_9_method_20_code 3 (some .boolean) 2 false := ⟨⟨by decide +kernel, by decide +kernel, by decide +kernel⟩, mem_g 93 (by decide +kernel) (by decide +kernel), mem_g 999 (by decide +kernel) (by decide +kernel), ⟨mem_g 997 (by decide +kernel) (by decide +kernel), mem_g 998 (by decide +kernel) (by decide +kernel)⟩⟩
def y_E_begin : MethodName := ⟨"EachBringsAnother", "begin", "()I"⟩
theorem ml_E_306 : ML "EachBringsAnother" 306 y_N_clear := Or.inl (mem_g 1004 (by decide +kernel) (by decide +kernel))
def y_E_cheap : MethodName := ⟨"EachBringsAnother", "cheap", "(I)I"⟩
def y_E_firstToBring : MethodName := ⟨"EachBringsAnother", "firstToBring", "(II)I"⟩
theorem ml_E_307 : ML "EachBringsAnother" 307 y_E_firstToBring := Or.inl (mem_g 1009 (by decide +kernel) (by decide +kernel))
theorem cy_E_firstToBring : CY y_E_firstToBring prog_1_method_57_code 5 (some .int) 2 false := ⟨⟨by decide +kernel, by decide +kernel, by decide +kernel⟩, mem_g 84 (by decide +kernel) (by decide +kernel), mem_g 1012 (by decide +kernel) (by decide +kernel), ⟨mem_g 1011 (by decide +kernel) (by decide +kernel), mem_g 23 (by decide +kernel) (by decide +kernel)⟩⟩
def y_M_gatherBehind : MethodName := ⟨"EachBringsAnother$Moves", "gatherBehind", "(LEachBringsAnother$Folk;II)V"⟩
theorem ml_E_391 : ML "EachBringsAnother" 391 y_M_gatherBehind := Or.inl (mem_g 1013 (by decide +kernel) (by decide +kernel))
theorem cy_M_gatherBehind : CY y_M_gatherBehind prog_6_method_3_code 4 none 3 false := ⟨⟨by decide +kernel, by decide +kernel, by decide +kernel⟩, mem_g 92 (by decide +kernel) (by decide +kernel), mem_g 1016 (by decide +kernel) (by decide +kernel), ⟨mem_g 1014 (by decide +kernel) (by decide +kernel), mem_g 1015 (by decide +kernel) (by decide +kernel)⟩⟩
theorem fl_M_35 : FL "EachBringsAnother$Moves" 35 2 4 := ⟨_, rfl, by decide +kernel, Or.inr ⟨"EachBringsAnother", mem_n 169 (by decide +kernel) (by decide +kernel)⟩⟩
theorem fl_M_41 : FL "EachBringsAnother$Moves" 41 2 8 := ⟨_, rfl, by decide +kernel, Or.inr ⟨"EachBringsAnother", mem_n 191 (by decide +kernel) (by decide +kernel)⟩⟩
def y_E_stays : MethodName := ⟨"EachBringsAnother", "stays", "(I)I"⟩
theorem ml_E_310 : ML "EachBringsAnother" 310 y_S_weeksWith := Or.inl (mem_g 1021 (by decide +kernel) (by decide +kernel))
def y_E_soonest : MethodName := ⟨"EachBringsAnother", "soonest", "(I)I"⟩
def y_E_worth : MethodName := ⟨"EachBringsAnother", "worth", "(I)I"⟩
def y_E_needed : MethodName := ⟨"EachBringsAnother", "needed", "()I"⟩
def y_E_never : MethodName := ⟨"EachBringsAnother", "never", "()I"⟩
theorem ml_E_142 : ML "EachBringsAnother" 142 y_O_late := Or.inl (mem_g 1038 (by decide +kernel) (by decide +kernel))
def y_E_bound : MethodName := ⟨"EachBringsAnother", "bound", "()I"⟩
def y_E_tellWay : MethodName := ⟨"EachBringsAnother", "tellWay", "(III)V"⟩
theorem ml_E_320 : ML "EachBringsAnother" 320 y_E_tellWay := Or.inl (mem_g 1049 (by decide +kernel) (by decide +kernel))
theorem cy_E_tellWay : CY y_E_tellWay prog_1_method_58_code 7 none 3 false := ⟨⟨by decide +kernel, by decide +kernel, by decide +kernel⟩, mem_g 84 (by decide +kernel) (by decide +kernel), mem_g 1052 (by decide +kernel) (by decide +kernel), ⟨mem_g 1051 (by decide +kernel) (by decide +kernel), mem_g 24 (by decide +kernel) (by decide +kernel)⟩⟩
def y_F_within : MethodName := ⟨"EachBringsAnother$Folk", "within", "(II)I"⟩
theorem ml_E_317 : ML "EachBringsAnother" 317 y_F_within := Or.inl (mem_g 1043 (by decide +kernel) (by decide +kernel))
theorem cy_F_within : CY y_F_within prog_3_method_15_code 5 (some .int) 2 false := ⟨⟨by decide +kernel, by decide +kernel, by decide +kernel⟩, mem_g 87 (by decide +kernel) (by decide +kernel), mem_g 1046 (by decide +kernel) (by decide +kernel), ⟨mem_g 1044 (by decide +kernel) (by decide +kernel), mem_g 1045 (by decide +kernel) (by decide +kernel)⟩⟩
theorem ml_F_80 : ML "EachBringsAnother$Folk" 80 y_F_free := Or.inl (mem_g 1047 (by decide +kernel) (by decide +kernel))
theorem ml_F_83 : ML "EachBringsAnother$Folk" 83 y_F_knownBy := Or.inl (mem_g 1048 (by decide +kernel) (by decide +kernel))
theorem ml_E_394 : ML "EachBringsAnother" 394 y_E_lowest := Or.inl (mem_g 1053 (by decide +kernel) (by decide +kernel))
theorem ml_E_397 : ML "EachBringsAnother" 397 y_N_put := Or.inl (mem_g 1054 (by decide +kernel) (by decide +kernel))
def y_E_far : MethodName := ⟨"EachBringsAnother", "far", "(I)I"⟩
def y_F_broughtBy : MethodName := ⟨"EachBringsAnother$Folk", "broughtBy", "(I)I"⟩
theorem ml_E_324 : ML "EachBringsAnother" 324 y_F_broughtBy := Or.inl (mem_g 1059 (by decide +kernel) (by decide +kernel))
theorem cy_F_broughtBy : CY y_F_broughtBy prog_3_method_12_code 2 (some .int) 1 false := ⟨⟨by decide +kernel, by decide +kernel, by decide +kernel⟩, mem_g 87 (by decide +kernel) (by decide +kernel), mem_g 1062 (by decide +kernel) (by decide +kernel), ⟨mem_g 1060 (by decide +kernel) (by decide +kernel), mem_g 1061 (by decide +kernel) (by decide +kernel)⟩⟩
theorem ml_E_327 : ML "EachBringsAnother" 327 y_N_putFirst := Or.inl (mem_g 1063 (by decide +kernel) (by decide +kernel))
def y_E_line : MethodName := ⟨"EachBringsAnother", "line", "(I)I"⟩
def y_F_ledBy : MethodName := ⟨"EachBringsAnother$Folk", "ledBy", "(I)I"⟩
theorem ml_E_333 : ML "EachBringsAnother" 333 y_F_ledBy := Or.inl (mem_g 1073 (by decide +kernel) (by decide +kernel))
theorem cy_F_ledBy : CY y_F_ledBy prog_3_method_14_code 4 (some .int) 1 false := ⟨⟨by decide +kernel, by decide +kernel, by decide +kernel⟩, mem_g 87 (by decide +kernel) (by decide +kernel), mem_g 1076 (by decide +kernel) (by decide +kernel), ⟨mem_g 1074 (by decide +kernel) (by decide +kernel), mem_g 1075 (by decide +kernel) (by decide +kernel)⟩⟩
def y_F_stepsUp : MethodName := ⟨"EachBringsAnother$Folk", "stepsUp", "(II)I"⟩
theorem ml_F_77 : ML "EachBringsAnother$Folk" 77 y_F_stepsUp := Or.inl (mem_g 1077 (by decide +kernel) (by decide +kernel))
theorem cy_F_stepsUp : CY y_F_stepsUp prog_3_method_13_code 5 (some .int) 2 false := ⟨⟨by decide +kernel, by decide +kernel, by decide +kernel⟩, mem_g 87 (by decide +kernel) (by decide +kernel), mem_g 1071 (by decide +kernel) (by decide +kernel), ⟨mem_g 1069 (by decide +kernel) (by decide +kernel), mem_g 1070 (by decide +kernel) (by decide +kernel)⟩⟩
theorem ml_F_74 : ML "EachBringsAnother$Folk" 74 y_F_broughtBy := Or.inl (mem_g 1072 (by decide +kernel) (by decide +kernel))
theorem ml_E_330 : ML "EachBringsAnother" 330 y_F_stepsUp := Or.inl (mem_g 1068 (by decide +kernel) (by decide +kernel))
def y_E_led : MethodName := ⟨"EachBringsAnother", "led", "(I)I"⟩
def y_D_guestsBehind : MethodName := ⟨"EachBringsAnother$Diary", "guestsBehind", "(I)I"⟩
theorem ml_E_336 : ML "EachBringsAnother" 336 y_D_guestsBehind := Or.inl (mem_g 1082 (by decide +kernel) (by decide +kernel))
theorem cy_D_guestsBehind : CY y_D_guestsBehind prog_2_method_3_code 2 (some .int) 1 false := ⟨⟨by decide +kernel, by decide +kernel, by decide +kernel⟩, mem_g 90 (by decide +kernel) (by decide +kernel), mem_g 1085 (by decide +kernel) (by decide +kernel), ⟨mem_g 1083 (by decide +kernel) (by decide +kernel), mem_g 1084 (by decide +kernel) (by decide +kernel)⟩⟩
def y_E_was : MethodName := ⟨"EachBringsAnother", "was", "(I)I"⟩
def y_E_common : MethodName := ⟨"EachBringsAnother", "common", "(II)I"⟩
def y_E_father : MethodName := ⟨"EachBringsAnother", "father", "()I"⟩
theorem fl_E_75 : FL "EachBringsAnother" 75 10 9 := ⟨_, rfl, by decide +kernel, Or.inl (mem_g 456 (by decide +kernel) (by decide +kernel))⟩
theorem sh_36 : sh 36 = some (.inr (2, 2, [38, 41])) := rfl
def y_K_take : MethodName := ⟨"EachBringsAnother$Kept", "take", "(LEachBringsAnother$Folk;LEachBringsAnother$Diary;)V"⟩
theorem ml_E_339 : ML "EachBringsAnother" 339 y_K_take := Or.inl (mem_g 1098 (by decide +kernel) (by decide +kernel))
theorem cy_K_take : CY y_K_take prog_4_method_3_code 3 none 2 false := ⟨⟨by decide +kernel, by decide +kernel, by decide +kernel⟩, mem_g 94 (by decide +kernel) (by decide +kernel), mem_g 1101 (by decide +kernel) (by decide +kernel), ⟨mem_g 1099 (by decide +kernel) (by decide +kernel), mem_g 1100 (by decide +kernel) (by decide +kernel)⟩⟩
theorem fl_K_18 : FL "EachBringsAnother$Kept" 18 6 2 := ⟨_, rfl, by decide +kernel, Or.inl (mem_g 418 (by decide +kernel) (by decide +kernel))⟩
theorem sh_37 : sh 37 = some (.inl (6, [(3, 39), (3, 40), (4, 0), (0, 0), (0, 0), (0, 0), (0, 0), (0, 0), (0, 0), (0, 0)])) := rfl
theorem fk_6_2 : FK 6 2 4 := ⟨_, .boolean, rfl, by decide +kernel, by decide +kernel, Or.inr (Or.inr (Or.inl ⟨rfl, rfl⟩))⟩
theorem fl_K_26 : FL "EachBringsAnother$Kept" 26 2 3 := ⟨_, rfl, by decide +kernel, Or.inr ⟨"EachBringsAnother", mem_n 163 (by decide +kernel) (by decide +kernel)⟩⟩
theorem fl_K_22 : FL "EachBringsAnother$Kept" 22 6 3 := ⟨_, rfl, by decide +kernel, Or.inl (mem_g 419 (by decide +kernel) (by decide +kernel))⟩
theorem fk_6_3 : FK 6 3 0 := ⟨_, .int, rfl, by decide +kernel, by decide +kernel, Or.inl ⟨rfl, rfl⟩⟩
theorem fl_K_29 : FL "EachBringsAnother$Kept" 29 2 4 := ⟨_, rfl, by decide +kernel, Or.inr ⟨"EachBringsAnother", mem_n 170 (by decide +kernel) (by decide +kernel)⟩⟩
theorem fl_K_32 : FL "EachBringsAnother$Kept" 32 6 4 := ⟨_, rfl, by decide +kernel, Or.inl (mem_g 420 (by decide +kernel) (by decide +kernel))⟩
theorem fk_6_4 : FK 6 4 0 := ⟨_, .int, rfl, by decide +kernel, by decide +kernel, Or.inl ⟨rfl, rfl⟩⟩
theorem fl_K_33 : FL "EachBringsAnother$Kept" 33 2 5 := ⟨_, rfl, by decide +kernel, Or.inr ⟨"EachBringsAnother", mem_n 177 (by decide +kernel) (by decide +kernel)⟩⟩
theorem fl_K_36 : FL "EachBringsAnother$Kept" 36 6 5 := ⟨_, rfl, by decide +kernel, Or.inl (mem_g 421 (by decide +kernel) (by decide +kernel))⟩
theorem fk_6_5 : FK 6 5 0 := ⟨_, .int, rfl, by decide +kernel, by decide +kernel, Or.inl ⟨rfl, rfl⟩⟩
theorem fl_K_37 : FL "EachBringsAnother$Kept" 37 2 6 := ⟨_, rfl, by decide +kernel, Or.inr ⟨"EachBringsAnother", mem_n 182 (by decide +kernel) (by decide +kernel)⟩⟩
theorem fl_K_40 : FL "EachBringsAnother$Kept" 40 6 6 := ⟨_, rfl, by decide +kernel, Or.inl (mem_g 422 (by decide +kernel) (by decide +kernel))⟩
theorem fk_6_6 : FK 6 6 0 := ⟨_, .int, rfl, by decide +kernel, by decide +kernel, Or.inl ⟨rfl, rfl⟩⟩
theorem fl_K_41 : FL "EachBringsAnother$Kept" 41 2 7 := ⟨_, rfl, by decide +kernel, Or.inr ⟨"EachBringsAnother", mem_n 186 (by decide +kernel) (by decide +kernel)⟩⟩
theorem fl_K_44 : FL "EachBringsAnother$Kept" 44 6 7 := ⟨_, rfl, by decide +kernel, Or.inl (mem_g 423 (by decide +kernel) (by decide +kernel))⟩
theorem fk_6_7 : FK 6 7 0 := ⟨_, .int, rfl, by decide +kernel, by decide +kernel, Or.inl ⟨rfl, rfl⟩⟩
theorem fl_K_45 : FL "EachBringsAnother$Kept" 45 2 8 := ⟨_, rfl, by decide +kernel, Or.inr ⟨"EachBringsAnother", mem_n 192 (by decide +kernel) (by decide +kernel)⟩⟩
theorem fl_K_48 : FL "EachBringsAnother$Kept" 48 6 8 := ⟨_, rfl, by decide +kernel, Or.inl (mem_g 424 (by decide +kernel) (by decide +kernel))⟩
theorem fk_6_8 : FK 6 8 0 := ⟨_, .int, rfl, by decide +kernel, by decide +kernel, Or.inl ⟨rfl, rfl⟩⟩
theorem fl_K_49 : FL "EachBringsAnother$Kept" 49 5 3 := ⟨_, rfl, by decide +kernel, Or.inr ⟨"EachBringsAnother", mem_n 272 (by decide +kernel) (by decide +kernel)⟩⟩
theorem fl_K_54 : FL "EachBringsAnother$Kept" 54 6 9 := ⟨_, rfl, by decide +kernel, Or.inl (mem_g 425 (by decide +kernel) (by decide +kernel))⟩
theorem fk_6_9 : FK 6 9 0 := ⟨_, .int, rfl, by decide +kernel, by decide +kernel, Or.inl ⟨rfl, rfl⟩⟩
theorem fl_K_55 : FL "EachBringsAnother$Kept" 55 2 2 := ⟨_, rfl, by decide +kernel, Or.inr ⟨"EachBringsAnother", mem_n 159 (by decide +kernel) (by decide +kernel)⟩⟩
theorem fl_K_9 : FL "EachBringsAnother$Kept" 9 6 0 := ⟨_, rfl, by decide +kernel, Or.inl (mem_g 416 (by decide +kernel) (by decide +kernel))⟩
theorem ml_K_56 : Cond.methodLink "EachBringsAnother$Kept" 56 arraycopyName ∈ gw_tbl := mem_g 1102 (by decide +kernel) (by decide +kernel)
theorem sh_38 : sh 38 = some (.inr (0, 10, [])) := rfl
theorem fl_K_62 : FL "EachBringsAnother$Kept" 62 5 0 := ⟨_, rfl, by decide +kernel, Or.inr ⟨"EachBringsAnother", mem_n 268 (by decide +kernel) (by decide +kernel)⟩⟩
theorem fl_K_15 : FL "EachBringsAnother$Kept" 15 6 1 := ⟨_, rfl, by decide +kernel, Or.inl (mem_g 417 (by decide +kernel) (by decide +kernel))⟩
theorem sh_39 : sh 39 = some (.inr (0, 61, [])) := rfl
theorem sh_40 : sh 40 = some (.inl (6, [(3, 42), (3, 43), (4, 0), (0, 0), (0, 0), (0, 0), (0, 0), (0, 0), (0, 0), (0, 0)])) := rfl
theorem sh_41 : sh 41 = some (.inr (0, 10, [])) := rfl
theorem sh_42 : sh 42 = some (.inr (0, 61, [])) := rfl
def y_E_keep : MethodName := ⟨"EachBringsAnother", "keep", "(I)Z"⟩
def y_K_fits : MethodName := ⟨"EachBringsAnother$Kept", "fits", "(LEachBringsAnother$Folk;)Z"⟩
theorem ml_E_343 : ML "EachBringsAnother" 343 y_K_fits := Or.inl (mem_g 1107 (by decide +kernel) (by decide +kernel))
theorem cy_K_fits : CY y_K_fits prog_4_method_2_code 2 (some .boolean) 1 false := ⟨⟨by decide +kernel, by decide +kernel, by decide +kernel⟩, mem_g 94 (by decide +kernel) (by decide +kernel), mem_g 1110 (by decide +kernel) (by decide +kernel), ⟨mem_g 1108 (by decide +kernel) (by decide +kernel), mem_g 1109 (by decide +kernel) (by decide +kernel)⟩⟩
def y_K_giveBack : MethodName := ⟨"EachBringsAnother$Kept", "giveBack", "(LEachBringsAnother$Folk;LEachBringsAnother$Diary;)V"⟩
theorem ml_E_346 : ML "EachBringsAnother" 346 y_K_giveBack := Or.inl (mem_g 1111 (by decide +kernel) (by decide +kernel))
theorem cy_K_giveBack : CY y_K_giveBack prog_4_method_4_code 3 none 2 false := ⟨⟨by decide +kernel, by decide +kernel, by decide +kernel⟩, mem_g 94 (by decide +kernel) (by decide +kernel), mem_g 1114 (by decide +kernel) (by decide +kernel), ⟨mem_g 1112 (by decide +kernel) (by decide +kernel), mem_g 1113 (by decide +kernel) (by decide +kernel)⟩⟩
theorem fl_K_63 : FL "EachBringsAnother$Kept" 63 5 4 := ⟨_, rfl, by decide +kernel, Or.inr ⟨"EachBringsAnother", mem_n 274 (by decide +kernel) (by decide +kernel)⟩⟩
def y_E_again : MethodName := ⟨"EachBringsAnother", "again", "(I)Z"⟩
theorem ml_E_349 : ML "EachBringsAnother" 349 y_O_out := Or.inl (mem_g 1119 (by decide +kernel) (by decide +kernel))
theorem fl_E_358 : FL "EachBringsAnother" 358 0 1 := ⟨_, rfl, by decide +kernel, Or.inr ⟨"EachBringsAnother", mem_n 124 (by decide +kernel) (by decide +kernel)⟩⟩
def y_E_count : MethodName := ⟨"EachBringsAnother", "count", "(I)I"⟩
theorem fl_R_138 : FL "EachBringsAnotherModel" 138 11 16 := ⟨_, rfl, by decide +kernel, Or.inl (mem_g 1236 (by decide +kernel) (by decide +kernel))⟩
theorem sh_43 : sh 43 = some (.inl (11, [(0, 0), (3, 45), (3, 46), (3, 47), (3, 48), (3, 49), (3, 50), (0, 0), (0, 0), (3, 51), (0, 0), (0, 0), (3, 52), (0, 0), (3, 53), (0, 0), (0, 0), (2, 0), (0, 0), (0, 0), (0, 0), (0, 0), (3, 54), (3, 55), (3, 56), (3, 57), (3, 58), (0, 0), (0, 0), (0, 0), (3, 59), (3, 60), (0, 0), (3, 61), (3, 62), (3, 63), (3, 64), (3, 65), (3, 66), (3, 67), (0, 0), (0, 0), (3, 68), (3, 69), (0, 0), (3, 70), (3, 71), (3, 72), (3, 73), (3, 74), (3, 75), (3, 76), (0, 0), (3, 77), (3, 78), (3, 79), (0, 0), (3, 80), (3, 81), (3, 82)])) := rfl
def y_R_thrown : MethodName := ⟨"EachBringsAnotherModel", "thrown", "()I"⟩
def y_R_in : MethodName := ⟨"EachBringsAnotherModel", "in", "(III)Z"⟩
def y_R_has : MethodName := ⟨"EachBringsAnotherModel", "has", "(II)Z"⟩
theorem fk_11_16 : FK 11 16 0 := ⟨_, .int, rfl, by decide +kernel, by decide +kernel, Or.inl ⟨rfl, rfl⟩⟩
def y_R_lost : MethodName := ⟨"EachBringsAnotherModel", "lost", "()I"⟩
theorem fl_R_43 : FL "EachBringsAnotherModel" 43 11 14 := ⟨_, rfl, by decide +kernel, Or.inl (mem_g 1234 (by decide +kernel) (by decide +kernel))⟩
theorem fl_R_141 : FL "EachBringsAnotherModel" 141 11 15 := ⟨_, rfl, by decide +kernel, Or.inl (mem_g 1235 (by decide +kernel) (by decide +kernel))⟩
theorem sh_52 : sh 52 = some (.inr (0, 16, [])) := rfl
theorem fk_11_15 : FK 11 15 0 := ⟨_, .int, rfl, by decide +kernel, by decide +kernel, Or.inl ⟨rfl, rfl⟩⟩
def y_R_tell : MethodName := ⟨"EachBringsAnotherModel", "tell", "(I)V"⟩
theorem fl_R_144 : FL "EachBringsAnotherModel" 144 11 0 := ⟨_, rfl, by decide +kernel, Or.inl (mem_g 1220 (by decide +kernel) (by decide +kernel))⟩
theorem ml_R_147 : ML "EachBringsAnotherModel" 147 y_R_in := Or.inl (mem_g 1414 (by decide +kernel) (by decide +kernel))
theorem cy_R_in : CY y_R_in prog_14_method_3_code 3 (some .boolean) 3 true := ⟨⟨by decide +kernel, by decide +kernel, by decide +kernel⟩, mem_g 95 (by decide +kernel) (by decide +kernel), mem_g 1416 (by decide +kernel) (by decide +kernel), mem_g 1415 (by decide +kernel) (by decide +kernel)⟩
def y_R_isOne : MethodName := ⟨"EachBringsAnotherModel", "isOne", "(I)Z"⟩
theorem ml_R_151 : ML "EachBringsAnotherModel" 151 y_R_isOne := Or.inl (mem_g 1493 (by decide +kernel) (by decide +kernel))
theorem cy_R_isOne : CY y_R_isOne prog_14_method_7_code 2 (some .boolean) 1 false := ⟨⟨by decide +kernel, by decide +kernel, by decide +kernel⟩, mem_g 95 (by decide +kernel) (by decide +kernel), mem_g 1496 (by decide +kernel) (by decide +kernel), ⟨mem_g 1495 (by decide +kernel) (by decide +kernel), mem_g 41 (by decide +kernel) (by decide +kernel)⟩⟩
def y_R_areTwo : MethodName := ⟨"EachBringsAnotherModel", "areTwo", "(II)Z"⟩
def y_R_isGuest : MethodName := ⟨"EachBringsAnotherModel", "isGuest", "(I)Z"⟩
theorem fl_R_20 : FL "EachBringsAnotherModel" 20 11 4 := ⟨_, rfl, by decide +kernel, Or.inl (mem_g 1224 (by decide +kernel) (by decide +kernel))⟩
theorem sh_47 : sh 47 = some (.inr (0, 10, [])) := rfl
def y_R_those : MethodName := ⟨"EachBringsAnotherModel", "those", "(II)I"⟩
theorem ml_R_155 : ML "EachBringsAnotherModel" 155 y_R_those := Or.inl (mem_g 1460 (by decide +kernel) (by decide +kernel))
theorem cy_R_those : CY y_R_those prog_14_method_10_code 5 (some .int) 2 false := ⟨⟨by decide +kernel, by decide +kernel, by decide +kernel⟩, mem_g 95 (by decide +kernel) (by decide +kernel), mem_g 1463 (by decide +kernel) (by decide +kernel), ⟨mem_g 1462 (by decide +kernel) (by decide +kernel), mem_g 35 (by decide +kernel) (by decide +kernel)⟩⟩
def y_R_guests : MethodName := ⟨"EachBringsAnotherModel", "guests", "()I"⟩
theorem fl_R_16 : FL "EachBringsAnotherModel" 16 11 3 := ⟨_, rfl, by decide +kernel, Or.inl (mem_g 1223 (by decide +kernel) (by decide +kernel))⟩
theorem sh_46 : sh 46 = some (.inr (4, 10, [])) := rfl
def y_R_hidden : MethodName := ⟨"EachBringsAnotherModel", "hidden", "()I"⟩
theorem ml_R_159 : ML "EachBringsAnotherModel" 159 y_R_hidden := Or.inl (mem_g 1546 (by decide +kernel) (by decide +kernel))
theorem cy_R_hidden : CY y_R_hidden prog_14_method_12_code 3 (some .int) 0 false := ⟨⟨by decide +kernel, by decide +kernel, by decide +kernel⟩, mem_g 95 (by decide +kernel) (by decide +kernel), mem_g 1549 (by decide +kernel) (by decide +kernel), ⟨mem_g 1548 (by decide +kernel) (by decide +kernel), mem_g 47 (by decide +kernel) (by decide +kernel)⟩⟩
def y_R_free : MethodName := ⟨"EachBringsAnotherModel", "free", "()I"⟩
theorem fl_R_163 : FL "EachBringsAnotherModel" 163 11 13 := ⟨_, rfl, by decide +kernel, Or.inl (mem_g 1233 (by decide +kernel) (by decide +kernel))⟩
theorem fl_R_39 : FL "EachBringsAnotherModel" 39 11 12 := ⟨_, rfl, by decide +kernel, Or.inl (mem_g 1232 (by decide +kernel) (by decide +kernel))⟩
theorem fk_11_13 : FK 11 13 0 := ⟨_, .int, rfl, by decide +kernel, by decide +kernel, Or.inl ⟨rfl, rfl⟩⟩
theorem sh_51 : sh 51 = some (.inr (3, 80, [])) := rfl
def y_R_sign : MethodName := ⟨"EachBringsAnotherModel", "sign", "(I)I"⟩
def y_R_end : MethodName := ⟨"EachBringsAnotherModel", "end", "(I)Z"⟩
theorem fl_R_175 : FL "EachBringsAnotherModel" 175 11 20 := ⟨_, rfl, by decide +kernel, Or.inl (mem_g 1240 (by decide +kernel) (by decide +kernel))⟩
theorem fl_R_169 : FL "EachBringsAnotherModel" 169 11 18 := ⟨_, rfl, by decide +kernel, Or.inl (mem_g 1238 (by decide +kernel) (by decide +kernel))⟩
theorem fl_R_172 : FL "EachBringsAnotherModel" 172 11 19 := ⟨_, rfl, by decide +kernel, Or.inl (mem_g 1239 (by decide +kernel) (by decide +kernel))⟩
theorem fl_R_166 : FL "EachBringsAnotherModel" 166 11 17 := ⟨_, rfl, by decide +kernel, Or.inl (mem_g 1237 (by decide +kernel) (by decide +kernel))⟩
theorem sh_57 : sh 57 = some (.inr (3, 40, [])) := rfl
def y_R_here : MethodName := ⟨"EachBringsAnotherModel", "here", "()I"⟩
theorem fl_R_178 : FL "EachBringsAnotherModel" 178 11 21 := ⟨_, rfl, by decide +kernel, Or.inl (mem_g 1241 (by decide +kernel) (by decide +kernel))⟩
def y_R_fine : MethodName := ⟨"EachBringsAnotherModel", "fine", "()Z"⟩
theorem ml_R_181 : ML "EachBringsAnotherModel" 181 y_R_fine := Or.inl (mem_g 1425 (by decide +kernel) (by decide +kernel))
theorem cy_R_fine : CY y_R_fine prog_14_method_18_code 1 (some .boolean) 0 false := ⟨⟨by decide +kernel, by decide +kernel, by decide +kernel⟩, mem_g 95 (by decide +kernel) (by decide +kernel), mem_g 1428 (by decide +kernel) (by decide +kernel), ⟨mem_g 1427 (by decide +kernel) (by decide +kernel), mem_g 27 (by decide +kernel) (by decide +kernel)⟩⟩
theorem fk_11_21 : FK 11 21 0 := ⟨_, .int, rfl, by decide +kernel, by decide +kernel, Or.inl ⟨rfl, rfl⟩⟩
def y_R_fault : MethodName := ⟨"EachBringsAnotherModel", "fault", "(I)V"⟩
theorem ml_R_185 : ML "EachBringsAnotherModel" 185 y_R_here := Or.inl (mem_g 1437 (by decide +kernel) (by decide +kernel))
theorem cy_R_here : CY y_R_here prog_14_method_17_code 1 (some .int) 0 false := ⟨⟨by decide +kernel, by decide +kernel, by decide +kernel⟩, mem_g 95 (by decide +kernel) (by decide +kernel), mem_g 1440 (by decide +kernel) (by decide +kernel), ⟨mem_g 1439 (by decide +kernel) (by decide +kernel), mem_g 30 (by decide +kernel) (by decide +kernel)⟩⟩
theorem fk_11_20 : FK 11 20 0 := ⟨_, .int, rfl, by decide +kernel, by decide +kernel, Or.inl ⟨rfl, rfl⟩⟩
def y_R_passes : MethodName := ⟨"EachBringsAnotherModel", "passes", "(C)Z"⟩
def y_R_begin1 : MethodName := ⟨"EachBringsAnotherModel", "begin", "([BII)V"⟩
theorem ml_R_188 : ML "EachBringsAnotherModel" 188 y_R_begin1 := Or.inl (mem_g 1421 (by decide +kernel) (by decide +kernel))
theorem cy_R_begin1 : CY y_R_begin1 prog_14_method_16_code 4 none 3 false := ⟨⟨by decide +kernel, by decide +kernel, by decide +kernel⟩, mem_g 95 (by decide +kernel) (by decide +kernel), mem_g 1424 (by decide +kernel) (by decide +kernel), ⟨mem_g 1423 (by decide +kernel) (by decide +kernel), mem_g 26 (by decide +kernel) (by decide +kernel)⟩⟩
theorem fk_11_17 : FK 11 17 2 := ⟨_, .array .byte, rfl, by decide +kernel, by decide +kernel, Or.inr (Or.inr (Or.inr ⟨rfl, Or.inr ⟨_, rfl⟩⟩))⟩
theorem fk_11_18 : FK 11 18 0 := ⟨_, .int, rfl, by decide +kernel, by decide +kernel, Or.inl ⟨rfl, rfl⟩⟩
theorem fk_11_19 : FK 11 19 0 := ⟨_, .int, rfl, by decide +kernel, by decide +kernel, Or.inl ⟨rfl, rfl⟩⟩
theorem fk_11_0 : FK 11 0 0 := ⟨_, .int, rfl, by decide +kernel, by decide +kernel, Or.inl ⟨rfl, rfl⟩⟩
def y_R_told : MethodName := ⟨"EachBringsAnotherModel", "told", "()V"⟩
theorem ml_R_207 : ML "EachBringsAnotherModel" 207 y_R_told := Or.inl (mem_g 1452 (by decide +kernel) (by decide +kernel))
theorem cy_R_told : CY y_R_told prog_14_method_24_code 1 none 0 false := ⟨⟨by decide +kernel, by decide +kernel, by decide +kernel⟩, mem_g 95 (by decide +kernel) (by decide +kernel), mem_g 1455 (by decide +kernel) (by decide +kernel), ⟨mem_g 1454 (by decide +kernel) (by decide +kernel), mem_g 33 (by decide +kernel) (by decide +kernel)⟩⟩
theorem fl_R_29 : FL "EachBringsAnotherModel" 29 11 9 := ⟨_, rfl, by decide +kernel, Or.inl (mem_g 1229 (by decide +kernel) (by decide +kernel))⟩
theorem fl_R_214 : FL "EachBringsAnotherModel" 214 11 8 := ⟨_, rfl, by decide +kernel, Or.inl (mem_g 1228 (by decide +kernel) (by decide +kernel))⟩
theorem ml_R_217 : ML "EachBringsAnotherModel" 217 y_R_guests := Or.inl (mem_g 1456 (by decide +kernel) (by decide +kernel))
theorem cy_R_guests : CY y_R_guests prog_14_method_11_code 1 (some .int) 0 false := ⟨⟨by decide +kernel, by decide +kernel, by decide +kernel⟩, mem_g 95 (by decide +kernel) (by decide +kernel), mem_g 1459 (by decide +kernel) (by decide +kernel), ⟨mem_g 1458 (by decide +kernel) (by decide +kernel), mem_g 34 (by decide +kernel) (by decide +kernel)⟩⟩
theorem sh_50 : sh 50 = some (.inr (0, 61, [])) := rfl
theorem fl_R_220 : FL "EachBringsAnotherModel" 220 11 32 := ⟨_, rfl, by decide +kernel, Or.inl (mem_g 1252 (by decide +kernel) (by decide +kernel))⟩
theorem fk_11_32 : FK 11 32 0 := ⟨_, .int, rfl, by decide +kernel, by decide +kernel, Or.inl ⟨rfl, rfl⟩⟩
theorem fl_R_223 : FL "EachBringsAnotherModel" 223 11 56 := ⟨_, rfl, by decide +kernel, Or.inl (mem_g 1276 (by decide +kernel) (by decide +kernel))⟩
theorem fk_11_56 : FK 11 56 0 := ⟨_, .int, rfl, by decide +kernel, by decide +kernel, Or.inl ⟨rfl, rfl⟩⟩
theorem fl_R_46 : FL "EachBringsAnotherModel" 46 11 22 := ⟨_, rfl, by decide +kernel, Or.inl (mem_g 1242 (by decide +kernel) (by decide +kernel))⟩
theorem sh_53 : sh 53 = some (.inr (0, 10, [])) := rfl
theorem fl_R_49 : FL "EachBringsAnotherModel" 49 11 23 := ⟨_, rfl, by decide +kernel, Or.inl (mem_g 1243 (by decide +kernel) (by decide +kernel))⟩
theorem sh_54 : sh 54 = some (.inr (0, 10, [])) := rfl
theorem fl_R_52 : FL "EachBringsAnotherModel" 52 11 24 := ⟨_, rfl, by decide +kernel, Or.inl (mem_g 1244 (by decide +kernel) (by decide +kernel))⟩
theorem sh_55 : sh 55 = some (.inr (0, 10, [])) := rfl
theorem fl_R_55 : FL "EachBringsAnotherModel" 55 11 25 := ⟨_, rfl, by decide +kernel, Or.inl (mem_g 1245 (by decide +kernel) (by decide +kernel))⟩
theorem sh_56 : sh 56 = some (.inr (4, 10, [])) := rfl
def y_R_add : MethodName := ⟨"EachBringsAnotherModel", "add", "(IIIIZ)V"⟩
theorem ml_R_203 : ML "EachBringsAnotherModel" 203 y_R_add := Or.inl (mem_g 1445 (by decide +kernel) (by decide +kernel))
theorem cy_R_add : CY y_R_add prog_14_method_23_code 7 none 5 false := ⟨⟨by decide +kernel, by decide +kernel, by decide +kernel⟩, mem_g 95 (by decide +kernel) (by decide +kernel), mem_g 1448 (by decide +kernel) (by decide +kernel), ⟨mem_g 1447 (by decide +kernel) (by decide +kernel), mem_g 32 (by decide +kernel) (by decide +kernel)⟩⟩
theorem fl_R_9 : FL "EachBringsAnotherModel" 9 11 1 := ⟨_, rfl, by decide +kernel, Or.inl (mem_g 1221 (by decide +kernel) (by decide +kernel))⟩
theorem sh_44 : sh 44 = some (.inr (0, 10, [])) := rfl
theorem fl_R_13 : FL "EachBringsAnotherModel" 13 11 2 := ⟨_, rfl, by decide +kernel, Or.inl (mem_g 1222 (by decide +kernel) (by decide +kernel))⟩
theorem sh_45 : sh 45 = some (.inr (0, 10, [])) := rfl
theorem fl_R_23 : FL "EachBringsAnotherModel" 23 11 5 := ⟨_, rfl, by decide +kernel, Or.inl (mem_g 1225 (by decide +kernel) (by decide +kernel))⟩
theorem sh_48 : sh 48 = some (.inr (0, 10, [])) := rfl
theorem fl_R_26 : FL "EachBringsAnotherModel" 26 11 6 := ⟨_, rfl, by decide +kernel, Or.inl (mem_g 1226 (by decide +kernel) (by decide +kernel))⟩
theorem sh_49 : sh 49 = some (.inr (0, 10, [])) := rfl
theorem ml_R_210 : ML "EachBringsAnotherModel" 210 y_R_has := Or.inl (mem_g 1449 (by decide +kernel) (by decide +kernel))
theorem cy_R_has : CY y_R_has prog_14_method_4_code 2 (some .boolean) 2 true := ⟨⟨by decide +kernel, by decide +kernel, by decide +kernel⟩, mem_g 95 (by decide +kernel) (by decide +kernel), mem_g 1451 (by decide +kernel) (by decide +kernel), mem_g 1450 (by decide +kernel) (by decide +kernel)⟩
theorem ml_R_192 : ML "EachBringsAnotherModel" 192 y_R_fault := Or.inl (mem_g 1429 (by decide +kernel) (by decide +kernel))
theorem cy_R_fault : CY y_R_fault prog_14_method_19_code 2 none 1 false := ⟨⟨by decide +kernel, by decide +kernel, by decide +kernel⟩, mem_g 95 (by decide +kernel) (by decide +kernel), mem_g 1432 (by decide +kernel) (by decide +kernel), ⟨mem_g 1431 (by decide +kernel) (by decide +kernel), mem_g 28 (by decide +kernel) (by decide +kernel)⟩⟩
def y_R_readOne : MethodName := ⟨"EachBringsAnotherModel", "readOne", "(I)V"⟩
theorem ml_R_196 : ML "EachBringsAnotherModel" 196 y_R_readOne := Or.inl (mem_g 1433 (by decide +kernel) (by decide +kernel))
theorem cy_R_readOne : CY y_R_readOne prog_14_method_22_code 4 none 1 false := ⟨⟨by decide +kernel, by decide +kernel, by decide +kernel⟩, mem_g 95 (by decide +kernel) (by decide +kernel), mem_g 1436 (by decide +kernel) (by decide +kernel), ⟨mem_g 1435 (by decide +kernel) (by decide +kernel), mem_g 29 (by decide +kernel) (by decide +kernel)⟩⟩
theorem ml_R_199 : ML "EachBringsAnotherModel" 199 y_R_passes := Or.inl (mem_g 1441 (by decide +kernel) (by decide +kernel))
theorem cy_R_passes : CY y_R_passes prog_14_method_20_code 2 (some .boolean) 1 false := ⟨⟨by decide +kernel, by decide +kernel, by decide +kernel⟩, mem_g 95 (by decide +kernel) (by decide +kernel), mem_g 1444 (by decide +kernel) (by decide +kernel), ⟨mem_g 1443 (by decide +kernel) (by decide +kernel), mem_g 31 (by decide +kernel) (by decide +kernel)⟩⟩
def y_R_land : MethodName := ⟨"EachBringsAnotherModel", "land", "()I"⟩
def y_R_sum : MethodName := ⟨"EachBringsAnotherModel", "sum", "(I)I"⟩
theorem ml_R_226 : ML "EachBringsAnotherModel" 226 y_R_sum := Or.inl (mem_g 1472 (by decide +kernel) (by decide +kernel))
theorem cy_R_sum : CY y_R_sum prog_14_method_26_code 5 (some .int) 1 false := ⟨⟨by decide +kernel, by decide +kernel, by decide +kernel⟩, mem_g 95 (by decide +kernel) (by decide +kernel), mem_g 1475 (by decide +kernel) (by decide +kernel), ⟨mem_g 1474 (by decide +kernel) (by decide +kernel), mem_g 37 (by decide +kernel) (by decide +kernel)⟩⟩
def y_R_held : MethodName := ⟨"EachBringsAnotherModel", "held", "(I)I"⟩
def y_R_product : MethodName := ⟨"EachBringsAnotherModel", "product", "(I)I"⟩
theorem ml_R_230 : ML "EachBringsAnotherModel" 230 y_R_product := Or.inl (mem_g 1476 (by decide +kernel) (by decide +kernel))
theorem cy_R_product : CY y_R_product prog_14_method_27_code 5 (some .int) 1 false := ⟨⟨by decide +kernel, by decide +kernel, by decide +kernel⟩, mem_g 95 (by decide +kernel) (by decide +kernel), mem_g 1479 (by decide +kernel) (by decide +kernel), ⟨mem_g 1478 (by decide +kernel) (by decide +kernel), mem_g 38 (by decide +kernel) (by decide +kernel)⟩⟩
def y_R_thing : MethodName := ⟨"EachBringsAnotherModel", "thing", "(I)I"⟩
theorem ml_R_233 : ML "EachBringsAnotherModel" 233 y_R_thing := Or.inl (mem_g 1480 (by decide +kernel) (by decide +kernel))
theorem cy_R_thing : CY y_R_thing prog_14_method_28_code 5 (some .int) 1 false := ⟨⟨by decide +kernel, by decide +kernel, by decide +kernel⟩, mem_g 95 (by decide +kernel) (by decide +kernel), mem_g 1483 (by decide +kernel) (by decide +kernel), ⟨mem_g 1482 (by decide +kernel) (by decide +kernel), mem_g 39 (by decide +kernel) (by decide +kernel)⟩⟩
theorem fl_R_61 : FL "EachBringsAnotherModel" 61 11 28 := ⟨_, rfl, by decide +kernel, Or.inl (mem_g 1248 (by decide +kernel) (by decide +kernel))⟩
def y_R_letter : MethodName := ⟨"EachBringsAnotherModel", "letter", "(I)I"⟩
theorem ml_R_239 : ML "EachBringsAnotherModel" 239 y_R_letter := Or.inl (mem_g 1484 (by decide +kernel) (by decide +kernel))
theorem cy_R_letter : CY y_R_letter prog_14_method_29_code 2 (some .int) 1 false := ⟨⟨by decide +kernel, by decide +kernel, by decide +kernel⟩, mem_g 95 (by decide +kernel) (by decide +kernel), mem_g 1487 (by decide +kernel) (by decide +kernel), ⟨mem_g 1486 (by decide +kernel) (by decide +kernel), mem_g 40 (by decide +kernel) (by decide +kernel)⟩⟩
theorem ml_R_242 : ML "EachBringsAnotherModel" 242 y_JI_bitCount := Or.inl (mem_g 1488 (by decide +kernel) (by decide +kernel))
theorem fl_R_247 : FL "EachBringsAnotherModel" 247 11 29 := ⟨_, rfl, by decide +kernel, Or.inl (mem_g 1249 (by decide +kernel) (by decide +kernel))⟩
theorem ml_R_236 : ML "EachBringsAnotherModel" 236 y_R_held := Or.inl (mem_g 1468 (by decide +kernel) (by decide +kernel))
theorem cy_R_held : CY y_R_held prog_14_method_25_code 3 (some .int) 1 false := ⟨⟨by decide +kernel, by decide +kernel, by decide +kernel⟩, mem_g 95 (by decide +kernel) (by decide +kernel), mem_g 1471 (by decide +kernel) (by decide +kernel), ⟨mem_g 1470 (by decide +kernel) (by decide +kernel), mem_g 36 (by decide +kernel) (by decide +kernel)⟩⟩
theorem fk_11_28 : FK 11 28 0 := ⟨_, .int, rfl, by decide +kernel, by decide +kernel, Or.inl ⟨rfl, rfl⟩⟩
theorem fl_R_250 : FL "EachBringsAnotherModel" 250 11 27 := ⟨_, rfl, by decide +kernel, Or.inl (mem_g 1247 (by decide +kernel) (by decide +kernel))⟩
theorem fk_11_27 : FK 11 27 0 := ⟨_, .int, rfl, by decide +kernel, by decide +kernel, Or.inl ⟨rfl, rfl⟩⟩
theorem fl_R_58 : FL "EachBringsAnotherModel" 58 11 26 := ⟨_, rfl, by decide +kernel, Or.inl (mem_g 1246 (by decide +kernel) (by decide +kernel))⟩
def y_R_rule : MethodName := ⟨"EachBringsAnotherModel", "rule", "()I"⟩
theorem fk_11_29 : FK 11 29 0 := ⟨_, .int, rfl, by decide +kernel, by decide +kernel, Or.inl ⟨rfl, rfl⟩⟩
def y_R_ruleFor : MethodName := ⟨"EachBringsAnotherModel", "ruleFor", "(II)I"⟩
theorem ml_R_253 : ML "EachBringsAnotherModel" 253 y_R_lost := Or.inl (mem_g 1497 (by decide +kernel) (by decide +kernel))
theorem cy_R_lost : CY y_R_lost prog_14_method_5_code 1 (some .int) 0 false := ⟨⟨by decide +kernel, by decide +kernel, by decide +kernel⟩, mem_g 95 (by decide +kernel) (by decide +kernel), mem_g 1500 (by decide +kernel) (by decide +kernel), ⟨mem_g 1499 (by decide +kernel) (by decide +kernel), mem_g 42 (by decide +kernel) (by decide +kernel)⟩⟩
theorem ml_R_256 : ML "EachBringsAnotherModel" 256 y_R_isGuest := Or.inl (mem_g 1501 (by decide +kernel) (by decide +kernel))
theorem cy_R_isGuest : CY y_R_isGuest prog_14_method_9_code 1 (some .boolean) 1 true := ⟨⟨by decide +kernel, by decide +kernel, by decide +kernel⟩, mem_g 95 (by decide +kernel) (by decide +kernel), mem_g 1503 (by decide +kernel) (by decide +kernel), mem_g 1502 (by decide +kernel) (by decide +kernel)⟩
def y_R_of : MethodName := ⟨"EachBringsAnotherModel", "of", "(II)I"⟩
theorem fl_R_36 : FL "EachBringsAnotherModel" 36 11 11 := ⟨_, rfl, by decide +kernel, Or.inl (mem_g 1231 (by decide +kernel) (by decide +kernel))⟩
theorem fk_11_11 : FK 11 11 0 := ⟨_, .int, rfl, by decide +kernel, by decide +kernel, Or.inl ⟨rfl, rfl⟩⟩
theorem fl_R_32 : FL "EachBringsAnotherModel" 32 11 10 := ⟨_, rfl, by decide +kernel, Or.inl (mem_g 1230 (by decide +kernel) (by decide +kernel))⟩
theorem fk_11_10 : FK 11 10 0 := ⟨_, .int, rfl, by decide +kernel, by decide +kernel, Or.inl ⟨rfl, rfl⟩⟩
def y_R_law : MethodName := ⟨"EachBringsAnotherModel", "law", "(II)I"⟩
theorem ml_R_259 : ML "EachBringsAnotherModel" 259 y_R_areTwo := Or.inl (mem_g 1512 (by decide +kernel) (by decide +kernel))
theorem cy_R_areTwo : CY y_R_areTwo prog_14_method_8_code 3 (some .boolean) 2 false := ⟨⟨by decide +kernel, by decide +kernel, by decide +kernel⟩, mem_g 95 (by decide +kernel) (by decide +kernel), mem_g 1515 (by decide +kernel) (by decide +kernel), ⟨mem_g 1514 (by decide +kernel) (by decide +kernel), mem_g 43 (by decide +kernel) (by decide +kernel)⟩⟩
def y_R_meet : MethodName := ⟨"EachBringsAnotherModel", "meet", "(IIZ)Z"⟩
def y_R_hide : MethodName := ⟨"EachBringsAnotherModel", "hide", "(IZ)Z"⟩
def y_R_baby : MethodName := ⟨"EachBringsAnotherModel", "baby", "(I)I"⟩
theorem ml_R_262 : Cond.methodLink "EachBringsAnotherModel" 262 Lib.Math.min.name ∈ gw_tbl := mem_g 1528 (by decide +kernel) (by decide +kernel)
theorem ml_R_267 : Cond.methodLink "EachBringsAnotherModel" 267 Lib.Math.max.name ∈ gw_tbl := mem_g 1529 (by decide +kernel) (by decide +kernel)
def y_R_sheet : MethodName := ⟨"EachBringsAnotherModel", "sheet", "(IIII)I"⟩
theorem fl_R_64 : FL "EachBringsAnotherModel" 64 11 30 := ⟨_, rfl, by decide +kernel, Or.inl (mem_g 1250 (by decide +kernel) (by decide +kernel))⟩
theorem sh_58 : sh 58 = some (.inr (0, 10, [])) := rfl
def y_R_nobody : MethodName := ⟨"EachBringsAnotherModel", "nobody", "()V"⟩
def y_R_broughtNow : MethodName := ⟨"EachBringsAnotherModel", "broughtNow", "()I"⟩
def y_R_guestsThen : MethodName := ⟨"EachBringsAnotherModel", "guestsThen", "()I"⟩
theorem fl_R_67 : FL "EachBringsAnotherModel" 67 11 31 := ⟨_, rfl, by decide +kernel, Or.inl (mem_g 1251 (by decide +kernel) (by decide +kernel))⟩
def y_R_lay : MethodName := ⟨"EachBringsAnotherModel", "lay", "([II)V"⟩
theorem ml_R_273 : ML "EachBringsAnotherModel" 273 y_R_lay := Or.inl (mem_g 1562 (by decide +kernel) (by decide +kernel))
theorem cy_R_lay : CY y_R_lay prog_14_method_41_code 4 none 2 false := ⟨⟨by decide +kernel, by decide +kernel, by decide +kernel⟩, mem_g 95 (by decide +kernel) (by decide +kernel), mem_g 1565 (by decide +kernel) (by decide +kernel), ⟨mem_g 1564 (by decide +kernel) (by decide +kernel), mem_g 51 (by decide +kernel) (by decide +kernel)⟩⟩
theorem fl_R_270 : FL "EachBringsAnotherModel" 270 11 7 := ⟨_, rfl, by decide +kernel, Or.inl (mem_g 1227 (by decide +kernel) (by decide +kernel))⟩
theorem sh_59 : sh 59 = some (.inr (0, 1860, [])) := rfl
theorem fk_11_8 : FK 11 8 0 := ⟨_, .int, rfl, by decide +kernel, by decide +kernel, Or.inl ⟨rfl, rfl⟩⟩
theorem ml_R_277 : ML "EachBringsAnotherModel" 277 y_R_broughtNow := Or.inl (mem_g 1550 (by decide +kernel) (by decide +kernel))
theorem cy_R_broughtNow : CY y_R_broughtNow prog_14_method_39_code 3 (some .int) 0 false := ⟨⟨by decide +kernel, by decide +kernel, by decide +kernel⟩, mem_g 95 (by decide +kernel) (by decide +kernel), mem_g 1553 (by decide +kernel) (by decide +kernel), ⟨mem_g 1552 (by decide +kernel) (by decide +kernel), mem_g 48 (by decide +kernel) (by decide +kernel)⟩⟩
theorem fk_11_7 : FK 11 7 0 := ⟨_, .int, rfl, by decide +kernel, by decide +kernel, Or.inl ⟨rfl, rfl⟩⟩
def y_R_goWeek : MethodName := ⟨"EachBringsAnotherModel", "goWeek", "()I"⟩
theorem ml_R_283 : ML "EachBringsAnotherModel" 283 y_R_nobody := Or.inl (mem_g 1538 (by decide +kernel) (by decide +kernel))
theorem cy_R_nobody : CY y_R_nobody prog_14_method_38_code 2 none 0 false := ⟨⟨by decide +kernel, by decide +kernel, by decide +kernel⟩, mem_g 95 (by decide +kernel) (by decide +kernel), mem_g 1541 (by decide +kernel) (by decide +kernel), ⟨mem_g 1540 (by decide +kernel) (by decide +kernel), mem_g 45 (by decide +kernel) (by decide +kernel)⟩⟩
theorem ml_R_292 : ML "EachBringsAnotherModel" 292 y_R_goWeek := Or.inl (mem_g 1558 (by decide +kernel) (by decide +kernel))
theorem cy_R_goWeek : CY y_R_goWeek prog_14_method_43_code 5 (some .int) 0 false := ⟨⟨by decide +kernel, by decide +kernel, by decide +kernel⟩, mem_g 95 (by decide +kernel) (by decide +kernel), mem_g 1561 (by decide +kernel) (by decide +kernel), ⟨mem_g 1560 (by decide +kernel) (by decide +kernel), mem_g 50 (by decide +kernel) (by decide +kernel)⟩⟩
theorem ml_R_289 : ML "EachBringsAnotherModel" 289 y_R_guestsThen := Or.inl (mem_g 1554 (by decide +kernel) (by decide +kernel))
theorem cy_R_guestsThen : CY y_R_guestsThen prog_14_method_40_code 3 (some .int) 0 false := ⟨⟨by decide +kernel, by decide +kernel, by decide +kernel⟩, mem_g 95 (by decide +kernel) (by decide +kernel), mem_g 1557 (by decide +kernel) (by decide +kernel), ⟨mem_g 1556 (by decide +kernel) (by decide +kernel), mem_g 49 (by decide +kernel) (by decide +kernel)⟩⟩
theorem fl_R_70 : FL "EachBringsAnotherModel" 70 11 33 := ⟨_, rfl, by decide +kernel, Or.inl (mem_g 1253 (by decide +kernel) (by decide +kernel))⟩
theorem sh_60 : sh 60 = some (.inr (0, 40, [])) := rfl
theorem fl_R_73 : FL "EachBringsAnotherModel" 73 11 34 := ⟨_, rfl, by decide +kernel, Or.inl (mem_g 1254 (by decide +kernel) (by decide +kernel))⟩
theorem sh_61 : sh 61 = some (.inr (0, 40, [])) := rfl
theorem ml_R_286 : ML "EachBringsAnotherModel" 286 y_R_free := Or.inl (mem_g 1542 (by decide +kernel) (by decide +kernel))
theorem cy_R_free : CY y_R_free prog_14_method_13_code 1 (some .int) 0 false := ⟨⟨by decide +kernel, by decide +kernel, by decide +kernel⟩, mem_g 95 (by decide +kernel) (by decide +kernel), mem_g 1545 (by decide +kernel) (by decide +kernel), ⟨mem_g 1544 (by decide +kernel) (by decide +kernel), mem_g 46 (by decide +kernel) (by decide +kernel)⟩⟩
def y_R_readLetter : MethodName := ⟨"EachBringsAnotherModel", "readLetter", "()I"⟩
theorem ml_R_280 : ML "EachBringsAnotherModel" 280 y_R_readLetter := Or.inl (mem_g 1534 (by decide +kernel) (by decide +kernel))
theorem cy_R_readLetter : CY y_R_readLetter prog_14_method_45_code 1 (some .int) 0 false := ⟨⟨by decide +kernel, by decide +kernel, by decide +kernel⟩, mem_g 95 (by decide +kernel) (by decide +kernel), mem_g 1537 (by decide +kernel) (by decide +kernel), ⟨mem_g 1536 (by decide +kernel) (by decide +kernel), mem_g 44 (by decide +kernel) (by decide +kernel)⟩⟩
def y_R_week : MethodName := ⟨"EachBringsAnotherModel", "week", "()I"⟩
theorem ml_R_295 : ML "EachBringsAnotherModel" 295 y_R_ruleFor := Or.inl (mem_g 1578 (by decide +kernel) (by decide +kernel))
theorem cy_R_ruleFor : CY y_R_ruleFor prog_14_method_31_code 3 (some .int) 2 false := ⟨⟨by decide +kernel, by decide +kernel, by decide +kernel⟩, mem_g 95 (by decide +kernel) (by decide +kernel), mem_g 1581 (by decide +kernel) (by decide +kernel), ⟨mem_g 1580 (by decide +kernel) (by decide +kernel), mem_g 54 (by decide +kernel) (by decide +kernel)⟩⟩
def y_R_choice : MethodName := ⟨"EachBringsAnotherModel", "choice", "(I)I"⟩
theorem ml_R_298 : ML "EachBringsAnotherModel" 298 y_R_choice := Or.inl (mem_g 1574 (by decide +kernel) (by decide +kernel))
theorem cy_R_choice : CY y_R_choice prog_14_method_46_code 7 (some .int) 1 false := ⟨⟨by decide +kernel, by decide +kernel, by decide +kernel⟩, mem_g 95 (by decide +kernel) (by decide +kernel), mem_g 1577 (by decide +kernel) (by decide +kernel), ⟨mem_g 1576 (by decide +kernel) (by decide +kernel), mem_g 53 (by decide +kernel) (by decide +kernel)⟩⟩
def y_R_findChoices : MethodName := ⟨"EachBringsAnotherModel", "findChoices", "()V"⟩
theorem ml_R_304 : ML "EachBringsAnotherModel" 304 y_R_tell := Or.inl (mem_g 1582 (by decide +kernel) (by decide +kernel))
theorem cy_R_tell : CY y_R_tell prog_14_method_6_code 2 none 1 false := ⟨⟨by decide +kernel, by decide +kernel, by decide +kernel⟩, mem_g 95 (by decide +kernel) (by decide +kernel), mem_g 1585 (by decide +kernel) (by decide +kernel), ⟨mem_g 1584 (by decide +kernel) (by decide +kernel), mem_g 55 (by decide +kernel) (by decide +kernel)⟩⟩
theorem ml_R_301 : ML "EachBringsAnotherModel" 301 y_R_findChoices := Or.inl (mem_g 1570 (by decide +kernel) (by decide +kernel))
theorem cy_R_findChoices : CY y_R_findChoices prog_14_method_47_code 2 none 0 false := ⟨⟨by decide +kernel, by decide +kernel, by decide +kernel⟩, mem_g 95 (by decide +kernel) (by decide +kernel), mem_g 1573 (by decide +kernel) (by decide +kernel), ⟨mem_g 1572 (by decide +kernel) (by decide +kernel), mem_g 52 (by decide +kernel) (by decide +kernel)⟩⟩
def y_R_goes : MethodName := ⟨"EachBringsAnotherModel", "goes", "(I)I"⟩
def y_R_bring : MethodName := ⟨"EachBringsAnotherModel", "bring", "([II)V"⟩
theorem ml_R_307 : ML "EachBringsAnotherModel" 307 y_R_bring := Or.inl (mem_g 1590 (by decide +kernel) (by decide +kernel))
theorem cy_R_bring : CY y_R_bring prog_14_method_42_code 4 none 2 false := ⟨⟨by decide +kernel, by decide +kernel, by decide +kernel⟩, mem_g 95 (by decide +kernel) (by decide +kernel), mem_g 1593 (by decide +kernel) (by decide +kernel), ⟨mem_g 1592 (by decide +kernel) (by decide +kernel), mem_g 56 (by decide +kernel) (by decide +kernel)⟩⟩
def y_R_undo : MethodName := ⟨"EachBringsAnotherModel", "undo", "()I"⟩
def y_R_can : MethodName := ⟨"EachBringsAnotherModel", "can", "()I"⟩
def y_R_picks : MethodName := ⟨"EachBringsAnotherModel", "picks", "(I)I"⟩
theorem fl_R_76 : FL "EachBringsAnotherModel" 76 11 35 := ⟨_, rfl, by decide +kernel, Or.inl (mem_g 1255 (by decide +kernel) (by decide +kernel))⟩
theorem sh_62 : sh 62 = some (.inr (0, 11264, [])) := rfl
def y_R_findPairs : MethodName := ⟨"EachBringsAnotherModel", "findPairs", "()V"⟩
theorem ml_R_310 : ML "EachBringsAnotherModel" 310 y_R_findPairs := Or.inl (mem_g 1606 (by decide +kernel) (by decide +kernel))
theorem cy_R_findPairs : CY y_R_findPairs prog_14_method_52_code 6 none 0 false := ⟨⟨by decide +kernel, by decide +kernel, by decide +kernel⟩, mem_g 95 (by decide +kernel) (by decide +kernel), mem_g 1609 (by decide +kernel) (by decide +kernel), ⟨mem_g 1608 (by decide +kernel) (by decide +kernel), mem_g 57 (by decide +kernel) (by decide +kernel)⟩⟩
def y_R_pairs : MethodName := ⟨"EachBringsAnotherModel", "pairs", "()I"⟩
def y_R_bars : MethodName := ⟨"EachBringsAnotherModel", "bars", "()I"⟩
theorem fl_R_79 : FL "EachBringsAnotherModel" 79 11 36 := ⟨_, rfl, by decide +kernel, Or.inl (mem_g 1256 (by decide +kernel) (by decide +kernel))⟩
theorem sh_63 : sh 63 = some (.inr (0, 3000, [])) := rfl
theorem fl_R_95 : FL "EachBringsAnotherModel" 95 11 43 := ⟨_, rfl, by decide +kernel, Or.inl (mem_g 1263 (by decide +kernel) (by decide +kernel))⟩
theorem sh_68 : sh 68 = some (.inr (0, 10, [])) := rfl
def y_R_load : MethodName := ⟨"EachBringsAnotherModel", "load", "(I)V"⟩
theorem kc_R_313 : Cond.constant "EachBringsAnotherModel" 313 (-1640531535) ∈ gw_tbl := mem_g 1630 (by decide +kernel) (by decide +kernel)
theorem fl_R_92 : FL "EachBringsAnotherModel" 92 11 42 := ⟨_, rfl, by decide +kernel, Or.inl (mem_g 1262 (by decide +kernel) (by decide +kernel))⟩
theorem sh_67 : sh 67 = some (.inr (0, 8192, [])) := rfl
theorem fl_R_314 : FL "EachBringsAnotherModel" 314 11 40 := ⟨_, rfl, by decide +kernel, Or.inl (mem_g 1260 (by decide +kernel) (by decide +kernel))⟩
theorem fl_R_89 : FL "EachBringsAnotherModel" 89 11 39 := ⟨_, rfl, by decide +kernel, Or.inl (mem_g 1259 (by decide +kernel) (by decide +kernel))⟩
theorem sh_66 : sh 66 = some (.inr (0, 3000, [])) := rfl
theorem fk_11_40 : FK 11 40 0 := ⟨_, .int, rfl, by decide +kernel, by decide +kernel, Or.inl ⟨rfl, rfl⟩⟩
def y_R_stateOf : MethodName := ⟨"EachBringsAnotherModel", "stateOf", "(I)I"⟩
theorem ml_R_317 : ML "EachBringsAnotherModel" 317 y_R_stateOf := Or.inl (mem_g 1626 (by decide +kernel) (by decide +kernel))
theorem cy_R_stateOf : CY y_R_stateOf prog_14_method_56_code 3 (some .int) 1 false := ⟨⟨by decide +kernel, by decide +kernel, by decide +kernel⟩, mem_g 95 (by decide +kernel) (by decide +kernel), mem_g 1629 (by decide +kernel) (by decide +kernel), ⟨mem_g 1628 (by decide +kernel) (by decide +kernel), mem_g 60 (by decide +kernel) (by decide +kernel)⟩⟩
def y_R_behind : MethodName := ⟨"EachBringsAnotherModel", "behind", "(II)I"⟩
def y_R_goPairs : MethodName := ⟨"EachBringsAnotherModel", "goPairs", "(IIII)Z"⟩
theorem ml_R_326 : ML "EachBringsAnotherModel" 326 y_R_goPairs := Or.inl (mem_g 1635 (by decide +kernel) (by decide +kernel))
theorem cy_R_goPairs : CY y_R_goPairs prog_14_method_58_code 6 (some .boolean) 4 false := ⟨⟨by decide +kernel, by decide +kernel, by decide +kernel⟩, mem_g 95 (by decide +kernel) (by decide +kernel), mem_g 1638 (by decide +kernel) (by decide +kernel), ⟨mem_g 1637 (by decide +kernel) (by decide +kernel), mem_g 62 (by decide +kernel) (by decide +kernel)⟩⟩
theorem fl_R_330 : FL "EachBringsAnotherModel" 330 11 44 := ⟨_, rfl, by decide +kernel, Or.inl (mem_g 1264 (by decide +kernel) (by decide +kernel))⟩
theorem ml_R_320 : ML "EachBringsAnotherModel" 320 y_R_behind := Or.inl (mem_g 1639 (by decide +kernel) (by decide +kernel))
theorem cy_R_behind : CY y_R_behind prog_14_method_57_code 7 (some .int) 2 false := ⟨⟨by decide +kernel, by decide +kernel, by decide +kernel⟩, mem_g 95 (by decide +kernel) (by decide +kernel), mem_g 1642 (by decide +kernel) (by decide +kernel), ⟨mem_g 1641 (by decide +kernel) (by decide +kernel), mem_g 63 (by decide +kernel) (by decide +kernel)⟩⟩
theorem fl_R_86 : FL "EachBringsAnotherModel" 86 11 38 := ⟨_, rfl, by decide +kernel, Or.inl (mem_g 1258 (by decide +kernel) (by decide +kernel))⟩
theorem fl_R_323 : FL "EachBringsAnotherModel" 323 11 41 := ⟨_, rfl, by decide +kernel, Or.inl (mem_g 1261 (by decide +kernel) (by decide +kernel))⟩
theorem sh_65 : sh 65 = some (.inr (0, 756000, [])) := rfl
theorem fk_11_41 : FK 11 41 0 := ⟨_, .int, rfl, by decide +kernel, by decide +kernel, Or.inl ⟨rfl, rfl⟩⟩
def y_R_codeNow : MethodName := ⟨"EachBringsAnotherModel", "codeNow", "()I"⟩
theorem fk_11_44 : FK 11 44 0 := ⟨_, .int, rfl, by decide +kernel, by decide +kernel, Or.inl ⟨rfl, rfl⟩⟩
theorem ml_R_333 : ML "EachBringsAnotherModel" 333 y_R_codeNow := Or.inl (mem_g 1622 (by decide +kernel) (by decide +kernel))
theorem cy_R_codeNow : CY y_R_codeNow prog_14_method_59_code 3 (some .int) 0 false := ⟨⟨by decide +kernel, by decide +kernel, by decide +kernel⟩, mem_g 95 (by decide +kernel) (by decide +kernel), mem_g 1625 (by decide +kernel) (by decide +kernel), ⟨mem_g 1624 (by decide +kernel) (by decide +kernel), mem_g 59 (by decide +kernel) (by decide +kernel)⟩⟩
theorem fl_R_82 : FL "EachBringsAnotherModel" 82 11 37 := ⟨_, rfl, by decide +kernel, Or.inl (mem_g 1257 (by decide +kernel) (by decide +kernel))⟩
theorem sh_64 : sh 64 = some (.inr (0, 3001, [])) := rfl
theorem ml_R_336 : ML "EachBringsAnotherModel" 336 y_R_load := Or.inl (mem_g 1631 (by decide +kernel) (by decide +kernel))
theorem cy_R_load : CY y_R_load prog_14_method_55_code 4 none 1 false := ⟨⟨by decide +kernel, by decide +kernel, by decide +kernel⟩, mem_g 95 (by decide +kernel) (by decide +kernel), mem_g 1634 (by decide +kernel) (by decide +kernel), ⟨mem_g 1633 (by decide +kernel) (by decide +kernel), mem_g 61 (by decide +kernel) (by decide +kernel)⟩⟩
def y_R_findStates : MethodName := ⟨"EachBringsAnotherModel", "findStates", "(I)Z"⟩
def y_R_guestsIn : MethodName := ⟨"EachBringsAnotherModel", "guestsIn", "(I)I"⟩
def y_R_strangersIn : MethodName := ⟨"EachBringsAnotherModel", "strangersIn", "(I)I"⟩
theorem ml_R_339 : ML "EachBringsAnotherModel" 339 y_R_strangersIn := Or.inl (mem_g 1671 (by decide +kernel) (by decide +kernel))
theorem cy_R_strangersIn : CY y_R_strangersIn prog_14_method_62_code 5 (some .int) 1 false := ⟨⟨by decide +kernel, by decide +kernel, by decide +kernel⟩, mem_g 95 (by decide +kernel) (by decide +kernel), mem_g 1674 (by decide +kernel) (by decide +kernel), ⟨mem_g 1673 (by decide +kernel) (by decide +kernel), mem_g 69 (by decide +kernel) (by decide +kernel)⟩⟩
def y_R_costOf : MethodName := ⟨"EachBringsAnotherModel", "costOf", "(II)I"⟩
theorem ml_R_342 : ML "EachBringsAnotherModel" 342 y_R_findStates := Or.inl (mem_g 1618 (by decide +kernel) (by decide +kernel))
theorem cy_R_findStates : CY y_R_findStates prog_14_method_60_code 3 (some .boolean) 1 false := ⟨⟨by decide +kernel, by decide +kernel, by decide +kernel⟩, mem_g 95 (by decide +kernel) (by decide +kernel), mem_g 1621 (by decide +kernel) (by decide +kernel), ⟨mem_g 1620 (by decide +kernel) (by decide +kernel), mem_g 58 (by decide +kernel) (by decide +kernel)⟩⟩
theorem ml_R_345 : ML "EachBringsAnotherModel" 345 y_R_guestsIn := Or.inl (mem_g 1643 (by decide +kernel) (by decide +kernel))
theorem cy_R_guestsIn : CY y_R_guestsIn prog_14_method_61_code 5 (some .int) 1 false := ⟨⟨by decide +kernel, by decide +kernel, by decide +kernel⟩, mem_g 95 (by decide +kernel) (by decide +kernel), mem_g 1646 (by decide +kernel) (by decide +kernel), ⟨mem_g 1645 (by decide +kernel) (by decide +kernel), mem_g 64 (by decide +kernel) (by decide +kernel)⟩⟩
def y_R_states : MethodName := ⟨"EachBringsAnotherModel", "states", "()I"⟩
theorem fl_R_98 : FL "EachBringsAnotherModel" 98 11 45 := ⟨_, rfl, by decide +kernel, Or.inl (mem_g 1265 (by decide +kernel) (by decide +kernel))⟩
theorem kc_R_348 : Cond.constant "EachBringsAnotherModel" 348 (1000000) ∈ gw_tbl := mem_g 1662 (by decide +kernel) (by decide +kernel)
theorem sh_69 : sh 69 = some (.inr (0, 3000, [])) := rfl
def y_R_beginWeeks : MethodName := ⟨"EachBringsAnotherModel", "beginWeeks", "()V"⟩
theorem fl_R_101 : FL "EachBringsAnotherModel" 101 11 46 := ⟨_, rfl, by decide +kernel, Or.inl (mem_g 1266 (by decide +kernel) (by decide +kernel))⟩
theorem sh_70 : sh 70 = some (.inr (0, 3000, [])) := rfl
theorem ml_R_349 : ML "EachBringsAnotherModel" 349 y_R_costOf := Or.inl (mem_g 1667 (by decide +kernel) (by decide +kernel))
theorem cy_R_costOf : CY y_R_costOf prog_14_method_63_code 6 (some .int) 2 false := ⟨⟨by decide +kernel, by decide +kernel, by decide +kernel⟩, mem_g 95 (by decide +kernel) (by decide +kernel), mem_g 1670 (by decide +kernel) (by decide +kernel), ⟨mem_g 1669 (by decide +kernel) (by decide +kernel), mem_g 68 (by decide +kernel) (by decide +kernel)⟩⟩
def y_R_goOneWeek : MethodName := ⟨"EachBringsAnotherModel", "goOneWeek", "()V"⟩
theorem ml_R_352 : ML "EachBringsAnotherModel" 352 y_R_beginWeeks := Or.inl (mem_g 1658 (by decide +kernel) (by decide +kernel))
theorem cy_R_beginWeeks : CY y_R_beginWeeks prog_14_method_65_code 2 none 0 false := ⟨⟨by decide +kernel, by decide +kernel, by decide +kernel⟩, mem_g 95 (by decide +kernel) (by decide +kernel), mem_g 1661 (by decide +kernel) (by decide +kernel), ⟨mem_g 1660 (by decide +kernel) (by decide +kernel), mem_g 66 (by decide +kernel) (by decide +kernel)⟩⟩
theorem ml_R_355 : ML "EachBringsAnotherModel" 355 y_R_goOneWeek := Or.inl (mem_g 1663 (by decide +kernel) (by decide +kernel))
theorem cy_R_goOneWeek : CY y_R_goOneWeek prog_14_method_66_code 3 none 0 false := ⟨⟨by decide +kernel, by decide +kernel, by decide +kernel⟩, mem_g 95 (by decide +kernel) (by decide +kernel), mem_g 1666 (by decide +kernel) (by decide +kernel), ⟨mem_g 1665 (by decide +kernel) (by decide +kernel), mem_g 67 (by decide +kernel) (by decide +kernel)⟩⟩
def y_R_findWeek : MethodName := ⟨"EachBringsAnotherModel", "findWeek", "(I)Z"⟩
def y_R_isWeeks : MethodName := ⟨"EachBringsAnotherModel", "isWeeks", "(I)Z"⟩
theorem ml_R_358 : ML "EachBringsAnotherModel" 358 y_R_isWeeks := Or.inl (mem_g 1651 (by decide +kernel) (by decide +kernel))
theorem cy_R_isWeeks : CY y_R_isWeeks prog_14_method_68_code 1 (some .boolean) 1 true := ⟨⟨by decide +kernel, by decide +kernel, by decide +kernel⟩, mem_g 95 (by decide +kernel) (by decide +kernel), mem_g 1653 (by decide +kernel) (by decide +kernel), mem_g 1652 (by decide +kernel) (by decide +kernel)⟩
theorem ml_R_361 : ML "EachBringsAnotherModel" 361 y_R_findWeek := Or.inl (mem_g 1654 (by decide +kernel) (by decide +kernel))
theorem cy_R_findWeek : CY y_R_findWeek prog_14_method_67_code 3 (some .boolean) 1 false := ⟨⟨by decide +kernel, by decide +kernel, by decide +kernel⟩, mem_g 95 (by decide +kernel) (by decide +kernel), mem_g 1657 (by decide +kernel) (by decide +kernel), ⟨mem_g 1656 (by decide +kernel) (by decide +kernel), mem_g 65 (by decide +kernel) (by decide +kernel)⟩⟩
def y_R_most : MethodName := ⟨"EachBringsAnotherModel", "most", "(I)I"⟩
def y_R_reach : MethodName := ⟨"EachBringsAnotherModel", "reach", "(I)I"⟩
def y_R_fewest : MethodName := ⟨"EachBringsAnotherModel", "fewest", "(I)I"⟩
def y_R_leastPaid : MethodName := ⟨"EachBringsAnotherModel", "leastPaid", "(I)I"⟩
theorem ml_R_364 : ML "EachBringsAnotherModel" 364 y_R_leastPaid := Or.inl (mem_g 1687 (by decide +kernel) (by decide +kernel))
theorem cy_R_leastPaid : CY y_R_leastPaid prog_14_method_73_code 4 (some .int) 1 false := ⟨⟨by decide +kernel, by decide +kernel, by decide +kernel⟩, mem_g 95 (by decide +kernel) (by decide +kernel), mem_g 1690 (by decide +kernel) (by decide +kernel), ⟨mem_g 1689 (by decide +kernel) (by decide +kernel), mem_g 70 (by decide +kernel) (by decide +kernel)⟩⟩
def y_R_crowd : MethodName := ⟨"EachBringsAnotherModel", "crowd", "()I"⟩
def y_R_both : MethodName := ⟨"EachBringsAnotherModel", "both", "(III)I"⟩
theorem fl_R_110 : FL "EachBringsAnotherModel" 110 11 49 := ⟨_, rfl, by decide +kernel, Or.inl (mem_g 1269 (by decide +kernel) (by decide +kernel))⟩
theorem sh_73 : sh 73 = some (.inr (0, 3000, [])) := rfl
theorem fl_R_107 : FL "EachBringsAnotherModel" 107 11 48 := ⟨_, rfl, by decide +kernel, Or.inl (mem_g 1268 (by decide +kernel) (by decide +kernel))⟩
theorem sh_72 : sh 72 = some (.inr (0, 3000, [])) := rfl
def y_R_findOrder : MethodName := ⟨"EachBringsAnotherModel", "findOrder", "()V"⟩
theorem ml_R_367 : ML "EachBringsAnotherModel" 367 y_R_findOrder := Or.inl (mem_g 1707 (by decide +kernel) (by decide +kernel))
theorem cy_R_findOrder : CY y_R_findOrder prog_14_method_75_code 6 none 0 false := ⟨⟨by decide +kernel, by decide +kernel, by decide +kernel⟩, mem_g 95 (by decide +kernel) (by decide +kernel), mem_g 1710 (by decide +kernel) (by decide +kernel), ⟨mem_g 1709 (by decide +kernel) (by decide +kernel), mem_g 73 (by decide +kernel) (by decide +kernel)⟩⟩
theorem fl_R_104 : FL "EachBringsAnotherModel" 104 11 47 := ⟨_, rfl, by decide +kernel, Or.inl (mem_g 1267 (by decide +kernel) (by decide +kernel))⟩
theorem sh_71 : sh 71 = some (.inr (0, 3000, [])) := rfl
def y_R_findLife : MethodName := ⟨"EachBringsAnotherModel", "findLife", "(I)V"⟩
def y_R_all : MethodName := ⟨"EachBringsAnotherModel", "all", "()I"⟩
theorem ml_R_370 : ML "EachBringsAnotherModel" 370 y_R_all := Or.inl (mem_g 1699 (by decide +kernel) (by decide +kernel))
theorem cy_R_all : CY y_R_all prog_14_method_77_code 1 (some .int) 0 false := ⟨⟨by decide +kernel, by decide +kernel, by decide +kernel⟩, mem_g 95 (by decide +kernel) (by decide +kernel), mem_g 1702 (by decide +kernel) (by decide +kernel), ⟨mem_g 1701 (by decide +kernel) (by decide +kernel), mem_g 71 (by decide +kernel) (by decide +kernel)⟩⟩
theorem ml_R_373 : ML "EachBringsAnotherModel" 373 y_R_findLife := Or.inl (mem_g 1703 (by decide +kernel) (by decide +kernel))
theorem cy_R_findLife : CY y_R_findLife prog_14_method_76_code 5 none 1 false := ⟨⟨by decide +kernel, by decide +kernel, by decide +kernel⟩, mem_g 95 (by decide +kernel) (by decide +kernel), mem_g 1706 (by decide +kernel) (by decide +kernel), ⟨mem_g 1705 (by decide +kernel) (by decide +kernel), mem_g 72 (by decide +kernel) (by decide +kernel)⟩⟩
def y_R_last : MethodName := ⟨"EachBringsAnotherModel", "last", "()I"⟩
theorem fl_R_116 : FL "EachBringsAnotherModel" 116 11 51 := ⟨_, rfl, by decide +kernel, Or.inl (mem_g 1271 (by decide +kernel) (by decide +kernel))⟩
theorem fl_R_376 : FL "EachBringsAnotherModel" 376 11 52 := ⟨_, rfl, by decide +kernel, Or.inl (mem_g 1272 (by decide +kernel) (by decide +kernel))⟩
theorem sh_75 : sh 75 = some (.inr (0, 10, [])) := rfl
theorem fk_11_52 : FK 11 52 0 := ⟨_, .int, rfl, by decide +kernel, by decide +kernel, Or.inl ⟨rfl, rfl⟩⟩
def y_R_tellPairs : MethodName := ⟨"EachBringsAnotherModel", "tellPairs", "(III)Z"⟩
theorem ml_R_379 : ML "EachBringsAnotherModel" 379 y_R_tellPairs := Or.inl (mem_g 1727 (by decide +kernel) (by decide +kernel))
theorem cy_R_tellPairs : CY y_R_tellPairs prog_14_method_79_code 7 (some .boolean) 3 false := ⟨⟨by decide +kernel, by decide +kernel, by decide +kernel⟩, mem_g 95 (by decide +kernel) (by decide +kernel), mem_g 1730 (by decide +kernel) (by decide +kernel), ⟨mem_g 1729 (by decide +kernel) (by decide +kernel), mem_g 77 (by decide +kernel) (by decide +kernel)⟩⟩
theorem fl_R_113 : FL "EachBringsAnotherModel" 113 11 50 := ⟨_, rfl, by decide +kernel, Or.inl (mem_g 1270 (by decide +kernel) (by decide +kernel))⟩
theorem sh_74 : sh 74 = some (.inr (4, 3000, [])) := rfl
def y_R_tellFirst : MethodName := ⟨"EachBringsAnotherModel", "tellFirst", "()I"⟩
def y_R_findNext : MethodName := ⟨"EachBringsAnotherModel", "findNext", "()V"⟩
theorem ml_R_382 : ML "EachBringsAnotherModel" 382 y_R_findNext := Or.inl (mem_g 1715 (by decide +kernel) (by decide +kernel))
theorem cy_R_findNext : CY y_R_findNext prog_14_method_82_code 2 none 0 false := ⟨⟨by decide +kernel, by decide +kernel, by decide +kernel⟩, mem_g 95 (by decide +kernel) (by decide +kernel), mem_g 1718 (by decide +kernel) (by decide +kernel), ⟨mem_g 1717 (by decide +kernel) (by decide +kernel), mem_g 74 (by decide +kernel) (by decide +kernel)⟩⟩
theorem fl_R_119 : FL "EachBringsAnotherModel" 119 11 53 := ⟨_, rfl, by decide +kernel, Or.inl (mem_g 1273 (by decide +kernel) (by decide +kernel))⟩
theorem sh_76 : sh 76 = some (.inr (4, 3000, [])) := rfl
theorem ml_R_388 : ML "EachBringsAnotherModel" 388 y_R_tellFirst := Or.inl (mem_g 1723 (by decide +kernel) (by decide +kernel))
theorem cy_R_tellFirst : CY y_R_tellFirst prog_14_method_80_code 1 (some .int) 0 false := ⟨⟨by decide +kernel, by decide +kernel, by decide +kernel⟩, mem_g 95 (by decide +kernel) (by decide +kernel), mem_g 1726 (by decide +kernel) (by decide +kernel), ⟨mem_g 1725 (by decide +kernel) (by decide +kernel), mem_g 76 (by decide +kernel) (by decide +kernel)⟩⟩
def y_R_isNext : MethodName := ⟨"EachBringsAnotherModel", "isNext", "(I)Z"⟩
theorem ml_R_385 : ML "EachBringsAnotherModel" 385 y_R_isNext := Or.inl (mem_g 1719 (by decide +kernel) (by decide +kernel))
theorem cy_R_isNext : CY y_R_isNext prog_14_method_83_code 2 (some .boolean) 1 false := ⟨⟨by decide +kernel, by decide +kernel, by decide +kernel⟩, mem_g 95 (by decide +kernel) (by decide +kernel), mem_g 1722 (by decide +kernel) (by decide +kernel), ⟨mem_g 1721 (by decide +kernel) (by decide +kernel), mem_g 75 (by decide +kernel) (by decide +kernel)⟩⟩
def y_R_begin2 : MethodName := ⟨"EachBringsAnotherModel", "begin", "()I"⟩
theorem fl_R_123 : FL "EachBringsAnotherModel" 123 11 54 := ⟨_, rfl, by decide +kernel, Or.inl (mem_g 1274 (by decide +kernel) (by decide +kernel))⟩
theorem sh_77 : sh 77 = some (.inr (0, 135000, [])) := rfl
def y_R_cheap : MethodName := ⟨"EachBringsAnotherModel", "cheap", "(I)I"⟩
def y_R_canWant : MethodName := ⟨"EachBringsAnotherModel", "canWant", "(IIIII)Z"⟩
theorem ml_R_391 : ML "EachBringsAnotherModel" 391 y_R_canWant := Or.inl (mem_g 1739 (by decide +kernel) (by decide +kernel))
theorem cy_R_canWant : CY y_R_canWant prog_14_method_86_code 7 (some .boolean) 5 false := ⟨⟨by decide +kernel, by decide +kernel, by decide +kernel⟩, mem_g 95 (by decide +kernel) (by decide +kernel), mem_g 1742 (by decide +kernel) (by decide +kernel), ⟨mem_g 1741 (by decide +kernel) (by decide +kernel), mem_g 78 (by decide +kernel) (by decide +kernel)⟩⟩
def y_R_stays : MethodName := ⟨"EachBringsAnotherModel", "stays", "(I)I"⟩
def y_R_isThere : MethodName := ⟨"EachBringsAnotherModel", "isThere", "(I)Z"⟩
theorem ml_R_395 : ML "EachBringsAnotherModel" 395 y_R_isThere := Or.inl (mem_g 1747 (by decide +kernel) (by decide +kernel))
theorem cy_R_isThere : CY y_R_isThere prog_14_method_88_code 3 (some .boolean) 1 false := ⟨⟨by decide +kernel, by decide +kernel, by decide +kernel⟩, mem_g 95 (by decide +kernel) (by decide +kernel), mem_g 1750 (by decide +kernel) (by decide +kernel), ⟨mem_g 1749 (by decide +kernel) (by decide +kernel), mem_g 79 (by decide +kernel) (by decide +kernel)⟩⟩
def y_R_soonest : MethodName := ⟨"EachBringsAnotherModel", "soonest", "(I)I"⟩
def y_R_lastWith : MethodName := ⟨"EachBringsAnotherModel", "lastWith", "(I)I"⟩
theorem ml_R_398 : ML "EachBringsAnotherModel" 398 y_R_lastWith := Or.inl (mem_g 1755 (by decide +kernel) (by decide +kernel))
theorem cy_R_lastWith : CY y_R_lastWith prog_14_method_89_code 2 (some .int) 1 false := ⟨⟨by decide +kernel, by decide +kernel, by decide +kernel⟩, mem_g 95 (by decide +kernel) (by decide +kernel), mem_g 1758 (by decide +kernel) (by decide +kernel), ⟨mem_g 1757 (by decide +kernel) (by decide +kernel), mem_g 80 (by decide +kernel) (by decide +kernel)⟩⟩
def y_R_worth : MethodName := ⟨"EachBringsAnotherModel", "worth", "(I)I"⟩
def y_R_needed : MethodName := ⟨"EachBringsAnotherModel", "needed", "()I"⟩
def y_R_never : MethodName := ⟨"EachBringsAnotherModel", "never", "()I"⟩
def y_R_bound : MethodName := ⟨"EachBringsAnotherModel", "bound", "()I"⟩
theorem fl_R_126 : FL "EachBringsAnotherModel" 126 11 55 := ⟨_, rfl, by decide +kernel, Or.inl (mem_g 1275 (by decide +kernel) (by decide +kernel))⟩
theorem sh_78 : sh 78 = some (.inr (0, 10, [])) := rfl
def y_R_far : MethodName := ⟨"EachBringsAnotherModel", "far", "(I)I"⟩
def y_R_ledBy : MethodName := ⟨"EachBringsAnotherModel", "ledBy", "(I)I"⟩
def y_R_line : MethodName := ⟨"EachBringsAnotherModel", "line", "(I)I"⟩
def y_R_depthUnder : MethodName := ⟨"EachBringsAnotherModel", "depthUnder", "(I)I"⟩
theorem ml_R_401 : ML "EachBringsAnotherModel" 401 y_R_depthUnder := Or.inl (mem_g 1783 (by decide +kernel) (by decide +kernel))
theorem cy_R_depthUnder : CY y_R_depthUnder prog_14_method_97_code 6 (some .int) 1 false := ⟨⟨by decide +kernel, by decide +kernel, by decide +kernel⟩, mem_g 95 (by decide +kernel) (by decide +kernel), mem_g 1786 (by decide +kernel) (by decide +kernel), ⟨mem_g 1785 (by decide +kernel) (by decide +kernel), mem_g 81 (by decide +kernel) (by decide +kernel)⟩⟩
theorem ml_R_404 : ML "EachBringsAnotherModel" 404 y_R_ledBy := Or.inl (mem_g 1787 (by decide +kernel) (by decide +kernel))
theorem cy_R_ledBy : CY y_R_ledBy prog_14_method_95_code 5 (some .int) 1 false := ⟨⟨by decide +kernel, by decide +kernel, by decide +kernel⟩, mem_g 95 (by decide +kernel) (by decide +kernel), mem_g 1790 (by decide +kernel) (by decide +kernel), ⟨mem_g 1789 (by decide +kernel) (by decide +kernel), mem_g 82 (by decide +kernel) (by decide +kernel)⟩⟩
def y_R_led : MethodName := ⟨"EachBringsAnotherModel", "led", "(I)I"⟩
def y_R_was : MethodName := ⟨"EachBringsAnotherModel", "was", "(I)I"⟩
def y_R_common : MethodName := ⟨"EachBringsAnotherModel", "common", "(II)I"⟩
def y_R_father : MethodName := ⟨"EachBringsAnotherModel", "father", "()I"⟩
theorem fl_R_132 : FL "EachBringsAnotherModel" 132 11 58 := ⟨_, rfl, by decide +kernel, Or.inl (mem_g 1278 (by decide +kernel) (by decide +kernel))⟩
theorem sh_80 : sh 80 = some (.inr (4, 2, [])) := rfl
theorem fl_R_135 : FL "EachBringsAnotherModel" 135 11 59 := ⟨_, rfl, by decide +kernel, Or.inl (mem_g 1279 (by decide +kernel) (by decide +kernel))⟩
theorem sh_81 : sh 81 = some (.inr (0, 2, [])) := rfl
theorem fl_R_129 : FL "EachBringsAnotherModel" 129 11 57 := ⟨_, rfl, by decide +kernel, Or.inl (mem_g 1277 (by decide +kernel) (by decide +kernel))⟩
theorem sh_79 : sh 79 = some (.inr (0, 210, [])) := rfl
def y_R_keep : MethodName := ⟨"EachBringsAnotherModel", "keep", "(I)Z"⟩
def y_R_again : MethodName := ⟨"EachBringsAnotherModel", "again", "(I)Z"⟩
def y_R_count : MethodName := ⟨"EachBringsAnotherModel", "count", "(I)I"⟩
def y_R_row : MethodName := ⟨"EachBringsAnotherModel", "row", "(I)I"⟩
theorem ml_D_29 : ML "EachBringsAnother$Diary" 29 y_D_guestsBehind := Or.inl (mem_g 1198 (by decide +kernel) (by decide +kernel))
def y_D_firstWeekOf : MethodName := ⟨"EachBringsAnother$Diary", "firstWeekOf", "(I)I"⟩
def y_N_number : MethodName := ⟨"EachBringsAnother$Numbers", "number", "(I)I"⟩
def FU : Nat := 4000000000
end
section
/-! ===== BEGIN words of one list among another's, by their places ===== -/
theorem goodIn_r {big : List Cond} (ws : List Cond) (ps : List Nat) (hp : ws = ps.filterMap (fun i => big[i]?)) (h : ws.all goodWord = true) : GoodIn big ws := by
  intro w hw
  have h1 := List.all_eq_true.mp h w hw
  rw [hp] at hw
  obtain ⟨i, -, hi⟩ := List.mem_filterMap.mp hw
  have hm : w ∈ big := by first | exact List.mem_of_getElem? hi | exact List.getElem?_mem hi
  exact ⟨hm, good_of_word h1⟩
theorem goodIn_app {big a b : List Cond} (ha : GoodIn big a) (hb : GoodIn big b) : GoodIn big (a ++ b) := fun w h => (List.mem_append.mp h).elim (ha w) (hb w)
theorem goodIn_ca {big a b : List Cond} {c : Cond} (ha : GoodIn big (c :: a)) (hb : GoodIn big b) : GoodIn big (c :: (a ++ b)) := fun w h => (List.mem_cons.mp h).elim (fun e => ha w (List.mem_cons.mpr (Or.inl e))) (fun h => (List.mem_append.mp h).elim (fun h => ha w (List.mem_cons.mpr (Or.inr h))) (hb w))
theorem goodIn_sub {big ws : List Cond} (hm : ∀ w ∈ ws, w ∈ big) (h : ws.all goodWord = true) : GoodIn big ws := fun w hw => ⟨hm w hw, good_of_word (List.all_eq_true.mp h w hw)⟩
/-! ===== END ===== -/
/-! ===== BEGIN exceptions that leave a method, and their catching by the caller (launches without stack traces) ===== -/
section VXA
/-! The laws vx_back, vx_callV, vx_callS, vx_callSW, vx_throw0, vx_throwS follow proofs of the library, with one case more: JvmDerived/Free/Laws.lean (Back.of_free), Shelf42/LK1.lean (callV, callS), Shelf/KitTraced.lean (throwNew0V, throwNewS). -/
/-- where a method has thrown q: the class by its name, the cell, what was written, the world -/
def vx_T (XC : String → State → State → Prop) (st : State) (q : Addr) (t : State) (mc ms : Nat) (free : Addr → Prop) : Prop :=
  ∃ (E : String) (ce : Cell) (L : List Loc), XC E st t ∧ t.heap[q]? = some ce ∧ ce.vm = .none ∧ st.vm.findClass E = some ce.cls ∧ st.WarmedH t.vm ∧ st.sameButNew ({ t with vm := st.vm } : State) L mc ms ∧ ∀ z ∈ L, free z.base
def vx_Q (Qc : Array Value → State → Outcome → State → Prop) (XC : String → State → State → Prop) (mc ms : Nat) (free : Addr → Prop) : Array Value → State → Outcome → State → Prop := fun a st o t =>
  (Qc a st o t ∧ ∃ L, FrameEnd st o t L mc ms ∧ ∀ q ∈ L, free q.base) ∨ ∃ q, o = .threw q ∧ vx_T XC st q t mc ms free
/-- a callee that returns or throws -/
def vx_Met (l : Launch) (y : MethodName) (ws : List Cond) (rm : Room) (Pc : Array Value → State → Prop) (Qc : Array Value → State → Outcome → State → Prop) (XC : String → State → State → Prop) (mc ms : Nat) (free : Addr → Prop) : Prop :=
  MetFree l y (headSpec ws rm) Pc (fun _ _ _ _ _ => True) (vx_Q Qc XC mc ms free)
def vx_Post (XC : String → State → State → Prop) (mc ms : Nat) (free : Addr → Prop) : Pt → Array Value → Addr → Pt → Prop := fun A a q B =>
  ∃ (g : JFrame) (mk : MethodId) (t : State) (L : List Loc) (E : String) (ce : Cell), B.U.heap = t.heap ∧ B.U.vm = t.vm ∧ XC E (A.U.calling g mk a) t ∧ t.heap[q]? = some ce ∧ ce.vm = .none ∧ A.U.vm.findClass E = some ce.cls ∧ B.locs = A.locs ++ L ∧ (∀ z ∈ L, free z.base) ∧ B.cells = A.cells + mc ∧ B.slots = A.slots + ms
def vx_Back (l : Launch) (R : Room) (p : Program) (e : Env) (below : List Frame) (s : State) (sargs : Array Value) (y : MethodName) (len W9 : Nat)
    (Pre : Pt → Array Value → Prop) (Post : Pt → Array Value → Option Value → Pt → Prop) (PostX : Pt → Array Value → Addr → Pt → Prop) : Prop :=
  ∀ (m : MethodId) (meth : Method) (c : Code) (A : Pt) (g : JFrame) (ig : Instr) (mk : MethodId) (a : Array Value),
    Stand p l e R s m sargs below meth c A.U A.locs A.cells A.slots → g.method = m → g.locals.size = c.maxLocals → decode c.code g.pc = .ok (ig, len) →
    2 * g.monitorRoom + (g.stack.map fun v => v.category).sum ≤ W9 → A.U.methodNamed? y = some mk → Pre A a →
    (∃ (v : Option Value) (B : Pt), Stand p l e R s m sargs below meth c B.U B.locs B.cells B.slots ∧ Post A a v B ∧
      Steps p.tables e below (doInvoke e (A.U.setTop g) [] mk a).1 (B.U.setTop { g with pc := g.pc + len, stack := v.toList ++ g.stack })) ∨
    (∃ (q : Addr) (B : Pt), Stand p l e R s m sargs below meth c B.U B.locs B.cells B.slots ∧ PostX A a q B ∧
      Steps p.tables e below (doInvoke e (A.U.setTop g) [] mk a).1 ((B.U.setTop g).pushFrame (.throwing q)))
section Payer
variable {l : Launch} {R : Room} {p : Program} {e : Env} {below : List Frame} {s : State} {sargs : Array Value} {y : MethodName} {len W9 : Nat}
theorem vx_back {ws : List Cond} {rm : Room} {Pc : Array Value → State → Prop} {Qc : Array Value → State → Outcome → State → Prop} {XC : String → State → State → Prop} {mc ms : Nat} {free : Addr → Prop} {bytes : ByteArray} {maxL : Nat} {ret : Option FieldType}
    (hM : vx_Met l y ws rm Pc Qc XC mc ms free) (hblind : FrameBlind Pc) (hrc : rm.cells = mc) (hrs : rm.slots = ms)
    (hframes : rm.frames + 1 ≤ R.frames) (hlocals : W9 + (maxL + 11) + rm.locals ≤ R.locals)
    (hws : ∀ w ∈ ws, ∀ a' U, s.WarmedH U.vm → w.before a' U = true) (hcode : Cond.code y bytes maxL ret ∈ ws) (hinit : ∀ a' U, s.WarmedH U.vm → (Cond.initialized y.cls).before a' U = true) :
    vx_Back l R p e below s sargs y len W9 (PreOf R mc ms Pc) (PostOf Qc mc ms free) (vx_Post XC mc ms free) := by
  intro m meth c A g ig mk a X hg hsize hdg hW hn hp
  have h1 : (headSpec ws rm).pre.before a A.U = true := atoms_intro fun w hw => hws w hw _ _ X.warmed
  have h2 : (Cond.code y bytes maxL ret).before a A.U = true := hws _ hcode _ _ X.warmed
  have h3 : (Cond.initialized y.cls).before a A.U = true := hinit _ _ X.warmed
  have h4 : A.cells + (headSpec ws rm).room.cells ≤ R.cells := by rw [show (headSpec ws rm).room.cells = mc from hrc]; exact hp.1
  have h5 : A.slots + (headSpec ws rm).room.slots ≤ R.slots := by rw [show (headSpec ws rm).room.slots = ms from hrs]; exact hp.2.1
  have hPc : Pc a (A.U.calling g mk a) := hblind _ _ _ _ hp.2.2
  obtain ⟨U, Ls, c0, s0⟩ := A
  dsimp only [Pt.U, Pt.locs, Pt.cells, Pt.slots] at h1 h2 h3 h4 h5 X hn hPc ⊢
  obtain ⟨methY, cY, hmY, hcY, -, hlY, -, -, -, -⟩ := Cond.code_spec hn h2
  obtain ⟨kY, hkY, -⟩ := className_of_methodNamed hn
  have hinitY : kY.init = .initialized := Cond.initialized_spec (findClass_of_methodNamed hn) hkY h3
  have h : At U g.method c below := by rw [hg]; exact X.here
  have hlocals9 : W9 + (maxL + 11) + (headSpec ws rm).room.locals ≤ R.locals := hlocals
  have happ : (headSpec ws rm).appliesLoose y e.platform (U.calling g mk a) = true :=
    Spec.appliesLoose_calling (g := g) h hdg hn hkY hinitY
      (X.room_calling (g := g) (R' := (headSpec ws rm).room) hsize hmY hcY hframes (by rw [hlY]; omega) h4 h5) h1
  obtain ⟨mid, hmid⟩ := h.above
  have hfr : (U.setTop g).frames = (.java g :: mid) ++ below := by rw [State.frames_setTop' g h.top, hmid]; rfl
  obtain ⟨o, s₂, hsteps, -, hend, hq⟩ := Steps.callFree hM p X.admits X.cas X.clock (acts := []) hfr happ hPc trivial
  have hq' : vx_Q Qc XC mc ms free a (U.calling g mk a) o s₂ := hq
  rw [State.frames_setTop' g h.top] at hend
  obtain ⟨g₀, hg0⟩ := Option.isSome_iff_exists.mp h.top
  obtain ⟨r, hr⟩ := State.topJava?_eq_some.mp hg0
  have hr' : (({ U with heap := s₂.heap, slotsUsed := s₂.slotsUsed } : State).setVm s₂.vm).frames = .java g₀ :: r := hr
  rcases hq' with ⟨hqc, L, hfe, hL⟩ | ⟨q, rfl, E, ce, L, hx, hce, hcv, hcl, hW₂, hsm, hL⟩
  · obtain ⟨⟨v, rfl⟩, hW₂, e2, q2, q3, q4, q5, q6⟩ := id hfe
    have e3 : s₂ = ({ (U.calling g mk a).setFrames s₂.frames with heap := s₂.heap, slotsUsed := s₂.slotsUsed } : State).setVm s₂.vm := by
      have : s₂ = ({ s₂ with vm := (U.calling g mk a).vm } : State).setVm s₂.vm := rfl
      rw [e2] at this
      exact this
    obtain ⟨c₂, i₂, len₂, hc₂, hd₂, hf₂⟩ := hend
    have hW' : U.WarmedH s₂.vm := hW₂
    have hcc : c₂ = c := by
      have h1 : s₂.code? g.method = U.code? g.method := by
        rw [State.code?_eq, State.code?_eq, hW'.alike.method?]
      exact Option.some.inj (hc₂.symm.trans (h1.trans h.code))
    subst hcc
    have hlen : len₂ = len := by rw [hdg] at hd₂; cases hd₂; rfl
    subst hlen
    have hs₂ : s₂ = (({ U with heap := s₂.heap, slotsUsed := s₂.slotsUsed } : State).setVm s₂.vm).setTop { g with pc := g.pc + len₂, stack := v.toList ++ g.stack } := by
      refine e3.trans ?_
      rw [hf₂, State.calling_eq h.top, State.setFrames_setFrames, State.setTop_of_frames _ hr', hr]
      rfl
    have hsame : U.sameButNew ({ U with heap := s₂.heap, slotsUsed := s₂.slotsUsed } : State) L mc ms := by
      refine ⟨?_, q2, q3, q4, q5, q6⟩
      obtain ⟨t, ht, -⟩ := State.frames_cons hr
      show ({ U with heap := s₂.heap, slotsUsed := s₂.slotsUsed } : State) = { U.setFrames U.frames with heap := s₂.heap, slotsUsed := s₂.slotsUsed }
      rw [State.setFrames_self ht]
    subst hg
    refine Or.inl ⟨v, ⟨(({ U with heap := s₂.heap, slotsUsed := s₂.slotsUsed } : State).setVm s₂.vm), Ls ++ L, c0 + mc, s0 + ms⟩,
      ⟨X.admits, X.cas, X.clock, X.frames, X.room, X.hears, X.method, X.code, (X.here.setHeapUsed s₂.heap s₂.slotsUsed).setVm hW'.alike, X.tail, State.WarmedH.trans X.warmed hW', X.limits, X.bytes, X.same.trans (hsame.setVm s.vm)⟩,
      ⟨g, mk, s₂, L, rfl, rfl, hqc, rfl, hL, rfl, rfl⟩, ?_⟩
    show Steps p.tables e below _ ((({ U with heap := s₂.heap, slotsUsed := s₂.slotsUsed } : State).setVm s₂.vm).setTop { g with pc := g.pc + len₂, stack := v.toList ++ g.stack })
    rw [← hs₂]
    exact hsteps
  · obtain ⟨e2, q2, q3, q4, q5, q6⟩ := id hsm
    have e3 : s₂ = ({ (U.calling g mk a).setFrames s₂.frames with heap := s₂.heap, slotsUsed := s₂.slotsUsed } : State).setVm s₂.vm := by
      have : s₂ = ({ s₂ with vm := (U.calling g mk a).vm } : State).setVm s₂.vm := rfl
      rw [e2] at this
      exact this
    have hf₂ : s₂.frames = .throwing q :: .java g :: U.frames.tail := hend
    have hW' : U.WarmedH s₂.vm := hW₂
    have hs₂ : s₂ = ((({ U with heap := s₂.heap, slotsUsed := s₂.slotsUsed } : State).setVm s₂.vm).setTop g).pushFrame (.throwing q) := by
      refine e3.trans ?_
      rw [hf₂, State.calling_eq h.top, State.setFrames_setFrames, State.pushFrame, State.frames_setTop _ hr', State.setTop_of_frames _ hr', State.setFrames_setFrames, hr]
      rfl
    have hsame : U.sameButNew ({ U with heap := s₂.heap, slotsUsed := s₂.slotsUsed } : State) L mc ms := by
      refine ⟨?_, q2, q3, q4, q5, q6⟩
      obtain ⟨t, ht, -⟩ := State.frames_cons hr
      show ({ U with heap := s₂.heap, slotsUsed := s₂.slotsUsed } : State) = { U.setFrames U.frames with heap := s₂.heap, slotsUsed := s₂.slotsUsed }
      rw [State.setFrames_self ht]
    subst hg
    refine Or.inr ⟨q, ⟨(({ U with heap := s₂.heap, slotsUsed := s₂.slotsUsed } : State).setVm s₂.vm), Ls ++ L, c0 + mc, s0 + ms⟩,
      ⟨X.admits, X.cas, X.clock, X.frames, X.room, X.hears, X.method, X.code, (X.here.setHeapUsed s₂.heap s₂.slotsUsed).setVm hW'.alike, X.tail, State.WarmedH.trans X.warmed hW', X.limits, X.bytes, X.same.trans (hsame.setVm s.vm)⟩,
      ⟨g, mk, s₂, L, E, ce, rfl, rfl, hx, hce, hcv, hcl, rfl, hL, rfl, rfl⟩, ?_⟩
    show Steps p.tables e below _ (((({ U with heap := s₂.heap, slotsUsed := s₂.slotsUsed } : State).setVm s₂.vm).setTop g).pushFrame (.throwing q))
    rw [← hs₂]
    exact hsteps
end Payer
section Calls
variable {p : Program} {l : Launch} {e : Env} {R : Room} {s : State} {m : MethodId} {args : Array Value} {below : List Frame} {meth : Method} {c : Code} {T : State} {locs : List Loc} {cells slots : Nat}
theorem vx_callV (X : Stand p l e R s m args below meth c T locs cells slots) (hexec : p.tables.exec = Jvm.exec) {own C : String} {index : Nat} {y : MethodName} {bytes : ByteArray} {maxL : Nat} {ret : Option FieldType}
    (hown : s.vm.findClass own = some m.cls) (hlink : (Cond.methodLink own index y).before args s = true) (hinst : (Cond.instanceMethod y).before args s = true) (hsel : (Cond.selects C y y).before args s = true)
    (hcode : (Cond.code y bytes maxL ret).before args s = true) (hy : y.cls ≠ "java/lang/invoke/MethodHandle" ∧ y.cls ≠ "java/lang/invoke/VarHandle")
    {W9 : Nat} {Pre : Pt → Array Value → Prop} {Post : Pt → Array Value → Option Value → Pt → Prop} {PostX : Pt → Array Value → Addr → Pt → Prop} (hK : vx_Back l R p e below s args y 3 W9 Pre Post PostX)
    {b : Addr} {cellB : Cell} (hcell : T.heap[b]? = some cellB) (hobj : cellB.vm.isStatics = false) (hcls : s.vm.findClass C = some cellB.cls)
    {g : JFrame} (hg : g.method = m) (hsize : g.locals.size = c.maxLocals) {argsL rest : List Value} (hlen : ∀ sig, parseMethodDescriptor y.desc = some sig → argsL.length = sig.parameters.length)
    (hstack : g.stack = argsL.reverse ++ .ref b :: rest) (hW : 2 * g.monitorRoom + (rest.map fun v => v.category).sum ≤ W9) (hdg : decode c.code g.pc = .ok (.invokevirtual index, 3))
    (hpre : ∀ vm₁, s.WarmedH vm₁ → Pre ⟨T.setVm vm₁, locs, cells, slots⟩ (Value.ref b :: argsL).toArray) :
    (∃ (v : Option Value) (vm₁ : Vm) (B : Pt), s.WarmedH vm₁ ∧ Stand p l e R s m args below meth c B.U B.locs B.cells B.slots ∧ Post ⟨T.setVm vm₁, locs, cells, slots⟩ (Value.ref b :: argsL).toArray v B ∧
      ∀ target, Steps p.tables e below (B.U.setTop { g with pc := g.pc + 3, stack := v.toList ++ rest }) target → Steps p.tables e below (T.setTop g) target) ∨
    (∃ (q : Addr) (vm₁ : Vm) (B : Pt), s.WarmedH vm₁ ∧ Stand p l e R s m args below meth c B.U B.locs B.cells B.slots ∧ PostX ⟨T.setVm vm₁, locs, cells, slots⟩ (Value.ref b :: argsL).toArray q B ∧
      Steps p.tables e below (T.setTop g) ((B.U.setTop { g with stack := rest }).pushFrame (.throwing q))) := by
  obtain ⟨mk, methM, hnamed, hmethM, hstM, habM⟩ := Cond.instanceMethod_spec hinst
  obtain ⟨methM', cM, hmethM', -, -, -, -, -, -, hsigM⟩ := Cond.code_spec hnamed hcode
  cases hmethM.symm.trans hmethM'
  obtain ⟨c2, r2, m2, q1, q2, q3, q4, kP, hkP, hkPi⟩ := Cond.selects_spec hsel
  cases hcls.symm.trans q1
  cases (State.methodFound?_of_named hnamed hy).symm.trans q2
  cases hnamed.symm.trans q3
  have hselP : selectMethod e.platform s.vm cellB.cls mk = .method mk := by rw [Launch.admits_selectMethod X.admits]; exact q4
  obtain ⟨vm₁, X₁, hstep₁⟩ := X.invokevirtual hexec hown hlink hnamed hmethM hstM hkP hkPi hy (a := b) (cell := cellB) hcell
    (fun z h => by rw [h] at hobj; cases hobj) hselP hmethM habM hkP hkPi (g := g) hg (argsL := argsL) (rest := rest) (hlen _ hsigM) hstack hdg
  rcases hK m meth c ⟨T.setVm vm₁, locs, cells, slots⟩ { g with stack := rest } (.invokevirtual index) mk (Value.ref b :: argsL).toArray X₁ hg hsize hdg hW (X₁.named hnamed) (hpre vm₁ X₁.warmed) with ⟨v, B, X', hpost, hsteps⟩ | ⟨q, B, X', hpost, hsteps⟩
  · exact Or.inl ⟨v, vm₁, B, X₁.warmed, X', hpost, fun target h => hstep₁ _ fun acts => by rw [doInvoke_state]; exact hsteps.trans h⟩
  · exact Or.inr ⟨q, vm₁, B, X₁.warmed, X', hpost, hstep₁ _ fun acts => by rw [doInvoke_state]; exact hsteps⟩
theorem vx_callS (X : Stand p l e R s m args below meth c T locs cells slots) (hexec : p.tables.exec = Jvm.exec) {own : String} {index : Nat} {y : MethodName} {bytes : ByteArray} {maxL : Nat} {ret : Option FieldType}
    (hown : s.vm.findClass own = some m.cls) (hlink : (Cond.methodLink own index y).before args s = true) (hstat : (Cond.static y).before args s = true) (hinit : (Cond.initialized y.cls).before args s = true)
    (hcode : (Cond.code y bytes maxL ret).before args s = true) (hy : y.cls ≠ "java/lang/invoke/MethodHandle" ∧ y.cls ≠ "java/lang/invoke/VarHandle")
    {W9 : Nat} {Pre : Pt → Array Value → Prop} {Post : Pt → Array Value → Option Value → Pt → Prop} {PostX : Pt → Array Value → Addr → Pt → Prop} (hK : vx_Back l R p e below s args y 3 W9 Pre Post PostX)
    {g : JFrame} (hg : g.method = m) (hsize : g.locals.size = c.maxLocals) {argsL rest : List Value} (hlen : ∀ sig, parseMethodDescriptor y.desc = some sig → argsL.length = sig.parameters.length)
    (hstack : g.stack = argsL.reverse ++ rest) (hW : 2 * g.monitorRoom + (rest.map fun v => v.category).sum ≤ W9) (hdg : decode c.code g.pc = .ok (.invokestatic index, 3))
    (hpre : ∀ vm₁, s.WarmedH vm₁ → Pre ⟨T.setVm vm₁, locs, cells, slots⟩ argsL.toArray) :
    (∃ (v : Option Value) (vm₁ : Vm) (B : Pt), s.WarmedH vm₁ ∧ Stand p l e R s m args below meth c B.U B.locs B.cells B.slots ∧ Post ⟨T.setVm vm₁, locs, cells, slots⟩ argsL.toArray v B ∧
      ∀ target, Steps p.tables e below (B.U.setTop { g with pc := g.pc + 3, stack := v.toList ++ rest }) target → Steps p.tables e below (T.setTop g) target) ∨
    (∃ (q : Addr) (vm₁ : Vm) (B : Pt), s.WarmedH vm₁ ∧ Stand p l e R s m args below meth c B.U B.locs B.cells B.slots ∧ PostX ⟨T.setVm vm₁, locs, cells, slots⟩ argsL.toArray q B ∧
      Steps p.tables e below (T.setTop g) ((B.U.setTop { g with stack := rest }).pushFrame (.throwing q))) := by
  obtain ⟨mk, hnamed⟩ := Cond.code_named hcode
  obtain ⟨methM, cM, hmethM, -, -, -, -, -, -, hsigM⟩ := Cond.code_spec hnamed hcode
  have hstatic : methM.isStatic = true := Cond.static_spec hnamed hmethM hstat
  obtain ⟨kP, hkP, -⟩ := className_of_methodNamed hnamed
  have hinitP : kP.init = .initialized := Cond.initialized_spec (findClass_of_methodNamed hnamed) hkP hinit
  obtain ⟨vm₁, X₁, hstep₁⟩ := X.invokestatic hexec hown hlink hnamed hmethM hstatic hkP hinitP hy (g := g) hg (argsL := argsL) (rest := rest) (hlen _ hsigM) hstack hdg
  rcases hK m meth c ⟨T.setVm vm₁, locs, cells, slots⟩ { g with stack := rest } (.invokestatic index) mk argsL.toArray X₁ hg hsize hdg hW (X₁.named hnamed) (hpre vm₁ X₁.warmed) with ⟨v, B, X', hpost, hsteps⟩ | ⟨q, B, X', hpost, hsteps⟩
  · exact Or.inl ⟨v, vm₁, B, X₁.warmed, X', hpost, fun target h => hstep₁ _ fun acts => by rw [doInvoke_state]; exact hsteps.trans h⟩
  · exact Or.inr ⟨q, vm₁, B, X₁.warmed, X', hpost, hstep₁ _ fun acts => by rw [doInvoke_state]; exact hsteps⟩
end Calls
theorem vx_cls {s : State} {T : State} {vm₁ : Vm} {E : String} {k : ClassId} (hW : s.WarmedH vm₁) (h : (T.setVm vm₁).vm.findClass E = some k) : s.vm.findClass E = some k := by
  have h1 : vm₁.findClass E = some k := h
  rw [hW.alike.findClass] at h1
  exact h1
/-- the method's frame g, with q thrown over it -/
def vx_W (p : Program) (l : Launch) (e : Env) (R : Room) (s : State) (m : MethodId) (args : Array Value) (below : List Frame) (meth : Method) (c : Code) (H : Heap) (locs : List Loc) (cells slots : Nat) (Q : State → Prop) (g : JFrame) (q : Addr) : Prop :=
  ∀ T : State, T.heap = H → Stand p l e R s m args below meth c T locs cells slots → ∃ t, Steps p.tables e below ((T.setTop g).pushFrame (.throwing q)) t ∧ Q t
def vx_Run (p : Program) (l : Launch) (e : Env) (R : Room) (s : State) (m : MethodId) (args : Array Value) (below : List Frame) (meth : Method) (c : Code) (H : Heap) (locs : List Loc) (cells slots mc ms : Nat) (g : JFrame) (rest : List Value) (Qa : State → Outcome → State → Prop) (XC : String → State → State → Prop) (free : Addr → Prop) : Prop :=
  ∀ T : State, T.heap = H → Stand p l e R s m args below meth c T locs cells slots →
    (∃ (v : Option Value) (st₀ t T' : State) (L : List Loc), st₀.heap = H ∧ Stand p l e R s m args below meth c T' (locs ++ L) (cells + mc) (slots + ms) ∧ (∀ q ∈ L, free q.base) ∧ T'.heap = t.heap ∧ T'.vm = t.vm ∧ Qa st₀ (.returned v) t ∧
      Goes p e below T g T' { g with pc := g.pc + 3, stack := v.toList ++ rest }) ∨
    (∃ (q : Addr) (st₀ t T' : State) (L : List Loc) (E : String) (ce : Cell), st₀.heap = H ∧ Stand p l e R s m args below meth c T' (locs ++ L) (cells + mc) (slots + ms) ∧ (∀ z ∈ L, free z.base) ∧ T'.heap = t.heap ∧ T'.vm = t.vm ∧ XC E st₀ t ∧ t.heap[q]? = some ce ∧ ce.vm = .none ∧ s.vm.findClass E = some ce.cls ∧
      Steps p.tables e below (T.setTop g) ((T'.setTop { g with stack := rest }).pushFrame (.throwing q)))
def vx_X {S : Type} (px : S → Prop) (B : String → S → State → Prop) (A : Nat → Prop) : String → State → State → Prop := fun E st t => ∃ u : S, px u ∧ B E u t ∧ va_F A st t
section Runs
variable {p : Program} {l : Launch} {e : Env} {R : Room} {s : State} {m : MethodId} {args : Array Value} {below : List Frame} {meth : Method} {c : Code} {H : Heap} {locs : List Loc} {cells slots : Nat}
variable {y : MethodName} {bytes cc : ByteArray} {maxL nL mc ms n index : Nat} {ret : Option FieldType} {ws : List Cond} {rm : Room} {Pc : Array Value → State → Prop} {Qc : Array Value → State → Outcome → State → Prop} {XC : String → State → State → Prop} {free : Addr → Prop} {Ts : List Cond} {own C : String} {b : Addr} {As rest : List Value} {g : JFrame}
theorem vx_callBack (cb : CallB R s args own index y bytes maxL ret ws rm mc ms n) (hM : vx_Met l y ws rm Pc Qc XC mc ms free) (hbl : FrameBlind Pc) : vx_Back l R p e below s args y 3 8 (PreOf R mc ms Pc) (PostOf Qc mc ms free) (vx_Post XC mc ms free) := by
  obtain ⟨hrc, hrs, hfr, hlo, hws, hcw, -, hini, -⟩ := cb
  exact vx_back (bytes := bytes) (maxL := maxL) (ret := ret) hM hbl hrc hrs hfr hlo hws hcw (fun a' U hW => word_at hW (Or.inl (by first | rfl | simp [Cond.onTables, Cond.keeps, Cond.steady])) hini)
theorem vx_runV (S : CallFix p m c cc nL s args Ts own) (hM : vx_Met l y ws rm Pc Qc XC mc ms free) (cw : CallW R s args own C index y bytes maxL ret ws rm mc ms n) (hp : PreV s H C b Pc As)
    (hg : g.method = m) (hn : As.length = n) (hsize : g.locals.size = nL) (hstack : g.stack = As.reverse ++ .ref b :: rest) (hW : 2 * g.monitorRoom + (rest.map fun v => v.category).sum ≤ 8) (hdg : decode cc g.pc = .ok (.invokevirtual index, 3)) (hf : cells + mc ≤ R.cells ∧ slots + ms ≤ R.slots) :
    vx_Run p l e R s m args below meth c H locs cells slots mc ms g rest (Qc (Value.ref b :: As).toArray) XC free := by
  have hK : vx_Back l R p e below s args y 3 8 (PreOf R mc ms Pc) (PostOf Qc mc ms free) (vx_Post XC mc ms free) := vx_callBack cw.1 hM hp.1
  obtain ⟨⟨-, -, -, -, -, -, hcode, -, hy, hlen, hl⟩, hin, hse⟩ := cw
  obtain ⟨hx, hb, hml, ho, -⟩ := S
  obtain ⟨-, ⟨cellB, hcB, hoB, hclB⟩, hPc⟩ := hp
  intro T hT X
  rcases vx_callV X hx (C := C) (bytes := bytes) (maxL := maxL) (ret := ret) ho hl hin hse hcode hy hK (by rw [hT]; exact hcB) hoB hclB hg (hsize.trans hml.symm) (argsL := As) (rest := rest) (fun sig h => hn.trans (hlen sig h)) hstack hW (by rw [hb]; exact hdg)
    (fun vm₁ hW₁ => ⟨hf.1, hf.2, hPc (T.setVm vm₁) hT hW₁⟩) with ⟨v, vm₁, ⟨U', l2, c2, s2⟩, hW₁, X', ⟨g', mk, t, L, e1, e2, hq, h1, hL, h2, h3⟩, st⟩ | ⟨q, vm₁, ⟨U', l2, c2, s2⟩, hW₁, X', ⟨g', mk, t, L, E, ce, e1, e2, hq, hce, hcv, hcl, h1, hL, h2, h3⟩, st⟩
  · dsimp only [Pt.U, Pt.locs, Pt.cells, Pt.slots] at X' e1 e2 h1 h2 h3 st
    subst h1; subst h2; subst h3
    exact Or.inl ⟨v, (T.setVm vm₁).calling g' mk (Value.ref b :: As).toArray, t, U', L, hT, X', hL, e1, e2, hq, st⟩
  · dsimp only [Pt.U, Pt.locs, Pt.cells, Pt.slots] at X' e1 e2 h1 h2 h3 st hcl
    subst h1; subst h2; subst h3
    exact Or.inr ⟨q, (T.setVm vm₁).calling g' mk (Value.ref b :: As).toArray, t, U', L, E, ce, hT, X', hL, e1, e2, hq, hce, hcv, vx_cls hW₁ hcl, st⟩
theorem vx_runS (S : CallFix p m c cc nL s args Ts own) (hM : vx_Met l y ws rm Pc Qc XC mc ms free) (cw : CallB R s args own index y bytes maxL ret ws rm mc ms n ∧ (Cond.static y).before args s = true) (hp : PreS s H Pc As)
    (hg : g.method = m) (hn : As.length = n) (hsize : g.locals.size = nL) (hstack : g.stack = As.reverse ++ rest) (hW : 2 * g.monitorRoom + (rest.map fun v => v.category).sum ≤ 8) (hdg : decode cc g.pc = .ok (.invokestatic index, 3)) (hf : cells + mc ≤ R.cells ∧ slots + ms ≤ R.slots) :
    vx_Run p l e R s m args below meth c H locs cells slots mc ms g rest (Qc As.toArray) XC free := by
  have hK : vx_Back l R p e below s args y 3 8 (PreOf R mc ms Pc) (PostOf Qc mc ms free) (vx_Post XC mc ms free) := vx_callBack cw.1 hM hp.1
  obtain ⟨⟨-, -, -, -, -, -, hcode, hini, hy, hlen, hl⟩, hstt⟩ := cw
  obtain ⟨hx, hb, hml, ho, -⟩ := S
  intro T hT X
  rcases vx_callS X hx (bytes := bytes) (maxL := maxL) (ret := ret) ho hl hstt hini hcode hy hK hg (hsize.trans hml.symm) (argsL := As) (rest := rest) (fun sig h => hn.trans (hlen sig h)) hstack hW (by rw [hb]; exact hdg)
    (fun vm₁ hW₁ => ⟨hf.1, hf.2, hp.2 (T.setVm vm₁) hT hW₁⟩) with ⟨v, vm₁, ⟨U', l2, c2, s2⟩, hW₁, X', ⟨g', mk, t, L, e1, e2, hq, h1, hL, h2, h3⟩, st⟩ | ⟨q, vm₁, ⟨U', l2, c2, s2⟩, hW₁, X', ⟨g', mk, t, L, E, ce, e1, e2, hq, hce, hcv, hcl, h1, hL, h2, h3⟩, st⟩
  · dsimp only [Pt.U, Pt.locs, Pt.cells, Pt.slots] at X' e1 e2 h1 h2 h3 st
    subst h1; subst h2; subst h3
    exact Or.inl ⟨v, (T.setVm vm₁).calling g' mk As.toArray, t, U', L, hT, X', hL, e1, e2, hq, st⟩
  · dsimp only [Pt.U, Pt.locs, Pt.cells, Pt.slots] at X' e1 e2 h1 h2 h3 st hcl
    subst h1; subst h2; subst h3
    exact Or.inr ⟨q, (T.setVm vm₁).calling g' mk As.toArray, t, U', L, E, ce, hT, X', hL, e1, e2, hq, hce, hcv, vx_cls hW₁ hcl, st⟩
end Runs
section Rows
variable {p : Program} {l : Launch} {e : Env} {R : Room} {s : State} {m : MethodId} {args : Array Value} {below : List Frame} {meth : Method} {c : Code} {H : Heap} {locs : List Loc} {cells slots : Nat} {Q : State → Prop}
variable {mc ms : Nat} {free : Addr → Prop} {A0 A1 : Nat → Prop} {H0 : Heap} {a : Array Value} {pc : Nat} {ls : Array Slot} {st0 rest : List Value}
theorem vx_keep {st₀ t T' : State} {L : List Loc} (h0 : st₀.heap = H) (e1 : T'.heap = t.heap) (hS : va_S A0 H0 H locs) (hA : ∀ q, q < H.size → A1 q → A0 q) (hf : ∀ q, free q → A0 q) (hL : ∀ q ∈ L, free q.base) (hF : va_F A1 st₀ t) :
    H.size ≤ T'.heap.size ∧ (∀ q : Nat, q < H.size → ¬ A1 q → T'.heap[q]? = H[q]?) ∧ va_S A0 H0 T'.heap (locs ++ L) := by
  obtain ⟨hz, hk⟩ := hF
  rw [h0] at hz hk
  exact ⟨by rw [e1]; exact hz, fun q h1 h2 => by rw [e1]; exact hk q h1 h2,
    ⟨Nat.le_trans hS.1 (by rw [e1]; exact hz), fun q h1 h2 => by rw [e1, hk q (Nat.lt_of_lt_of_le h1 hS.1) (fun z => h2 (hA q (Nat.lt_of_lt_of_le h1 hS.1) z))]; exact hS.2.1 q h1 h2, fun q hq => by
      rcases List.mem_append.mp hq with h | h
      · exact hS.2.2 q h
      · exact hf _ (hL q h)⟩⟩
theorem vx_calli {S SX : Type} {post : Int32 → S → Prop} {px : SX → Prop} {B : S → State → Prop} {BX : String → SX → State → Prop} {AX : Nat → Prop} (hr : vx_Run p l e R s m args below meth c H locs cells slots mc ms (F0 m pc ls st0) rest (va_Qi post B A1 a) (vx_X px BX AX) free) (hS : va_S A0 H0 H locs) (hA : ∀ q, q < H.size → A1 q → A0 q) (hf : ∀ q, free q → A0 q) (hAX : ∀ q, q < H.size → AX q → A0 q)
    (kx : ∀ (E : String) (ce : Cell) (q9 : Addr) (u : SX) (t : State) (H1 : Heap) (locs1 : List Loc), t.heap = H1 → s.vm.Alike t.vm → px u → BX E u t → H.size ≤ H1.size → (∀ q : Nat, q < H.size → ¬ AX q → H1[q]? = H[q]?) → va_S A0 H0 H1 locs1 → H1[q9]? = some ce → ce.vm = .none → s.vm.findClass E = some ce.cls → vx_W p l e R s m args below meth c H1 locs1 (cells + mc) (slots + ms) Q (F0 m pc ls rest) q9)
    (kk : ∀ (r : Int32) (u : S) (t : State) (H1 : Heap) (locs1 : List Loc), t.heap = H1 → s.vm.Alike t.vm → post r u → B u t → H.size ≤ H1.size → (∀ q : Nat, q < H.size → ¬ A1 q → H1[q]? = H[q]?) → va_S A0 H0 H1 locs1 → W p l e R s m args below meth c H1 locs1 (cells + mc) (slots + ms) Q (F0 m (pc + 3) ls (.int r :: rest))) : W p l e R s m args below meth c H locs cells slots Q (F0 m pc ls st0) := by
  intro T hT X
  rcases hr T hT X with ⟨v, st₀, t, T', L, h0, X', hL, e1, e2, ⟨⟨r, u, hv, hp, hb⟩, hF⟩, st⟩ | ⟨q, st₀, t, T', L, E, ce, h0, X', hL, e1, e2, ⟨u, hp, hb, hF⟩, hce, hcv, hcl, st⟩
  · cases hv
    obtain ⟨k1, k2, k3⟩ := vx_keep h0 e1 hS hA hf hL hF
    obtain ⟨t2, a1, b1⟩ := kk r u t T'.heap (locs ++ L) e1.symm (by rw [← e2]; exact X'.warmed.alike) hp hb k1 k2 k3 T' rfl X'
    exact ⟨t2, st t2 a1, b1⟩
  · obtain ⟨k1, k2, k3⟩ := vx_keep h0 e1 hS hAX hf hL hF
    obtain ⟨t2, a1, b1⟩ := kx E ce q u t T'.heap (locs ++ L) e1.symm (by rw [← e2]; exact X'.warmed.alike) hp hb k1 k2 k3 (by rw [e1]; exact hce) hcv hcl T' rfl X'
    exact ⟨t2, st.trans a1, b1⟩
theorem vx_calll {S SX : Type} {post : Int64 → S → Prop} {px : SX → Prop} {B : S → State → Prop} {BX : String → SX → State → Prop} {AX : Nat → Prop} (hr : vx_Run p l e R s m args below meth c H locs cells slots mc ms (F0 m pc ls st0) rest (va_Ql post B A1 a) (vx_X px BX AX) free) (hS : va_S A0 H0 H locs) (hA : ∀ q, q < H.size → A1 q → A0 q) (hf : ∀ q, free q → A0 q) (hAX : ∀ q, q < H.size → AX q → A0 q)
    (kx : ∀ (E : String) (ce : Cell) (q9 : Addr) (u : SX) (t : State) (H1 : Heap) (locs1 : List Loc), t.heap = H1 → s.vm.Alike t.vm → px u → BX E u t → H.size ≤ H1.size → (∀ q : Nat, q < H.size → ¬ AX q → H1[q]? = H[q]?) → va_S A0 H0 H1 locs1 → H1[q9]? = some ce → ce.vm = .none → s.vm.findClass E = some ce.cls → vx_W p l e R s m args below meth c H1 locs1 (cells + mc) (slots + ms) Q (F0 m pc ls rest) q9)
    (kk : ∀ (r : Int64) (u : S) (t : State) (H1 : Heap) (locs1 : List Loc), t.heap = H1 → s.vm.Alike t.vm → post r u → B u t → H.size ≤ H1.size → (∀ q : Nat, q < H.size → ¬ A1 q → H1[q]? = H[q]?) → va_S A0 H0 H1 locs1 → W p l e R s m args below meth c H1 locs1 (cells + mc) (slots + ms) Q (F0 m (pc + 3) ls (.long r :: rest))) : W p l e R s m args below meth c H locs cells slots Q (F0 m pc ls st0) := by
  intro T hT X
  rcases hr T hT X with ⟨v, st₀, t, T', L, h0, X', hL, e1, e2, ⟨⟨r, u, hv, hp, hb⟩, hF⟩, st⟩ | ⟨q, st₀, t, T', L, E, ce, h0, X', hL, e1, e2, ⟨u, hp, hb, hF⟩, hce, hcv, hcl, st⟩
  · cases hv
    obtain ⟨k1, k2, k3⟩ := vx_keep h0 e1 hS hA hf hL hF
    obtain ⟨t2, a1, b1⟩ := kk r u t T'.heap (locs ++ L) e1.symm (by rw [← e2]; exact X'.warmed.alike) hp hb k1 k2 k3 T' rfl X'
    exact ⟨t2, st t2 a1, b1⟩
  · obtain ⟨k1, k2, k3⟩ := vx_keep h0 e1 hS hAX hf hL hF
    obtain ⟨t2, a1, b1⟩ := kx E ce q u t T'.heap (locs ++ L) e1.symm (by rw [← e2]; exact X'.warmed.alike) hp hb k1 k2 k3 (by rw [e1]; exact hce) hcv hcl T' rfl X'
    exact ⟨t2, st.trans a1, b1⟩
theorem vx_callf {S SX : Type} {post : UInt32 → S → Prop} {px : SX → Prop} {B : S → State → Prop} {BX : String → SX → State → Prop} {AX : Nat → Prop} (hr : vx_Run p l e R s m args below meth c H locs cells slots mc ms (F0 m pc ls st0) rest (va_Qf post B A1 a) (vx_X px BX AX) free) (hS : va_S A0 H0 H locs) (hA : ∀ q, q < H.size → A1 q → A0 q) (hf : ∀ q, free q → A0 q) (hAX : ∀ q, q < H.size → AX q → A0 q)
    (kx : ∀ (E : String) (ce : Cell) (q9 : Addr) (u : SX) (t : State) (H1 : Heap) (locs1 : List Loc), t.heap = H1 → s.vm.Alike t.vm → px u → BX E u t → H.size ≤ H1.size → (∀ q : Nat, q < H.size → ¬ AX q → H1[q]? = H[q]?) → va_S A0 H0 H1 locs1 → H1[q9]? = some ce → ce.vm = .none → s.vm.findClass E = some ce.cls → vx_W p l e R s m args below meth c H1 locs1 (cells + mc) (slots + ms) Q (F0 m pc ls rest) q9)
    (kk : ∀ (r : UInt32) (u : S) (t : State) (H1 : Heap) (locs1 : List Loc), t.heap = H1 → s.vm.Alike t.vm → post r u → B u t → H.size ≤ H1.size → (∀ q : Nat, q < H.size → ¬ A1 q → H1[q]? = H[q]?) → va_S A0 H0 H1 locs1 → W p l e R s m args below meth c H1 locs1 (cells + mc) (slots + ms) Q (F0 m (pc + 3) ls (.float r :: rest))) : W p l e R s m args below meth c H locs cells slots Q (F0 m pc ls st0) := by
  intro T hT X
  rcases hr T hT X with ⟨v, st₀, t, T', L, h0, X', hL, e1, e2, ⟨⟨r, u, hv, hp, hb⟩, hF⟩, st⟩ | ⟨q, st₀, t, T', L, E, ce, h0, X', hL, e1, e2, ⟨u, hp, hb, hF⟩, hce, hcv, hcl, st⟩
  · cases hv
    obtain ⟨k1, k2, k3⟩ := vx_keep h0 e1 hS hA hf hL hF
    obtain ⟨t2, a1, b1⟩ := kk r u t T'.heap (locs ++ L) e1.symm (by rw [← e2]; exact X'.warmed.alike) hp hb k1 k2 k3 T' rfl X'
    exact ⟨t2, st t2 a1, b1⟩
  · obtain ⟨k1, k2, k3⟩ := vx_keep h0 e1 hS hAX hf hL hF
    obtain ⟨t2, a1, b1⟩ := kx E ce q u t T'.heap (locs ++ L) e1.symm (by rw [← e2]; exact X'.warmed.alike) hp hb k1 k2 k3 (by rw [e1]; exact hce) hcv hcl T' rfl X'
    exact ⟨t2, st.trans a1, b1⟩
theorem vx_calld {S SX : Type} {post : UInt64 → S → Prop} {px : SX → Prop} {B : S → State → Prop} {BX : String → SX → State → Prop} {AX : Nat → Prop} (hr : vx_Run p l e R s m args below meth c H locs cells slots mc ms (F0 m pc ls st0) rest (va_Qd post B A1 a) (vx_X px BX AX) free) (hS : va_S A0 H0 H locs) (hA : ∀ q, q < H.size → A1 q → A0 q) (hf : ∀ q, free q → A0 q) (hAX : ∀ q, q < H.size → AX q → A0 q)
    (kx : ∀ (E : String) (ce : Cell) (q9 : Addr) (u : SX) (t : State) (H1 : Heap) (locs1 : List Loc), t.heap = H1 → s.vm.Alike t.vm → px u → BX E u t → H.size ≤ H1.size → (∀ q : Nat, q < H.size → ¬ AX q → H1[q]? = H[q]?) → va_S A0 H0 H1 locs1 → H1[q9]? = some ce → ce.vm = .none → s.vm.findClass E = some ce.cls → vx_W p l e R s m args below meth c H1 locs1 (cells + mc) (slots + ms) Q (F0 m pc ls rest) q9)
    (kk : ∀ (r : UInt64) (u : S) (t : State) (H1 : Heap) (locs1 : List Loc), t.heap = H1 → s.vm.Alike t.vm → post r u → B u t → H.size ≤ H1.size → (∀ q : Nat, q < H.size → ¬ A1 q → H1[q]? = H[q]?) → va_S A0 H0 H1 locs1 → W p l e R s m args below meth c H1 locs1 (cells + mc) (slots + ms) Q (F0 m (pc + 3) ls (.double r :: rest))) : W p l e R s m args below meth c H locs cells slots Q (F0 m pc ls st0) := by
  intro T hT X
  rcases hr T hT X with ⟨v, st₀, t, T', L, h0, X', hL, e1, e2, ⟨⟨r, u, hv, hp, hb⟩, hF⟩, st⟩ | ⟨q, st₀, t, T', L, E, ce, h0, X', hL, e1, e2, ⟨u, hp, hb, hF⟩, hce, hcv, hcl, st⟩
  · cases hv
    obtain ⟨k1, k2, k3⟩ := vx_keep h0 e1 hS hA hf hL hF
    obtain ⟨t2, a1, b1⟩ := kk r u t T'.heap (locs ++ L) e1.symm (by rw [← e2]; exact X'.warmed.alike) hp hb k1 k2 k3 T' rfl X'
    exact ⟨t2, st t2 a1, b1⟩
  · obtain ⟨k1, k2, k3⟩ := vx_keep h0 e1 hS hAX hf hL hF
    obtain ⟨t2, a1, b1⟩ := kx E ce q u t T'.heap (locs ++ L) e1.symm (by rw [← e2]; exact X'.warmed.alike) hp hb k1 k2 k3 (by rw [e1]; exact hce) hcv hcl T' rfl X'
    exact ⟨t2, st.trans a1, b1⟩
theorem vx_callv {S SX : Type} {post : S → Prop} {px : SX → Prop} {B : S → State → Prop} {BX : String → SX → State → Prop} {AX : Nat → Prop} (hr : vx_Run p l e R s m args below meth c H locs cells slots mc ms (F0 m pc ls st0) rest (va_Qv post B A1 a) (vx_X px BX AX) free) (hS : va_S A0 H0 H locs) (hA : ∀ q, q < H.size → A1 q → A0 q) (hf : ∀ q, free q → A0 q) (hAX : ∀ q, q < H.size → AX q → A0 q)
    (kx : ∀ (E : String) (ce : Cell) (q9 : Addr) (u : SX) (t : State) (H1 : Heap) (locs1 : List Loc), t.heap = H1 → s.vm.Alike t.vm → px u → BX E u t → H.size ≤ H1.size → (∀ q : Nat, q < H.size → ¬ AX q → H1[q]? = H[q]?) → va_S A0 H0 H1 locs1 → H1[q9]? = some ce → ce.vm = .none → s.vm.findClass E = some ce.cls → vx_W p l e R s m args below meth c H1 locs1 (cells + mc) (slots + ms) Q (F0 m pc ls rest) q9)
    (kk : ∀ (u : S) (t : State) (H1 : Heap) (locs1 : List Loc), t.heap = H1 → s.vm.Alike t.vm → post u → B u t → H.size ≤ H1.size → (∀ q : Nat, q < H.size → ¬ A1 q → H1[q]? = H[q]?) → va_S A0 H0 H1 locs1 → W p l e R s m args below meth c H1 locs1 (cells + mc) (slots + ms) Q (F0 m (pc + 3) ls (rest))) : W p l e R s m args below meth c H locs cells slots Q (F0 m pc ls st0) := by
  intro T hT X
  rcases hr T hT X with ⟨v, st₀, t, T', L, h0, X', hL, e1, e2, ⟨⟨u, hv, hp, hb⟩, hF⟩, st⟩ | ⟨q, st₀, t, T', L, E, ce, h0, X', hL, e1, e2, ⟨u, hp, hb, hF⟩, hce, hcv, hcl, st⟩
  · cases hv
    obtain ⟨k1, k2, k3⟩ := vx_keep h0 e1 hS hA hf hL hF
    obtain ⟨t2, a1, b1⟩ := kk u t T'.heap (locs ++ L) e1.symm (by rw [← e2]; exact X'.warmed.alike) hp hb k1 k2 k3 T' rfl X'
    exact ⟨t2, st t2 a1, b1⟩
  · obtain ⟨k1, k2, k3⟩ := vx_keep h0 e1 hS hAX hf hL hF
    obtain ⟨t2, a1, b1⟩ := kx E ce q u t T'.heap (locs ++ L) e1.symm (by rw [← e2]; exact X'.warmed.alike) hp hb k1 k2 k3 (by rw [e1]; exact hce) hcv hcl T' rfl X'
    exact ⟨t2, st.trans a1, b1⟩
/-- caught by the row x of this method's table; the rows ahead don't take it -/
theorem vx_catch {own name : String} {E : String} {ce : Cell} {q : Addr} (hown : s.vm.findClass own = some m.cls) (pre : List ExceptionTableEntry) (x : ExceptionTableEntry) (suf : List ExceptionTableEntry) (hsplit : c.exceptionTable.toList = pre ++ x :: suf)
    (hpass : ∀ z ∈ pre, covers z pc = false ∨ (z.catchType ≠ 0 ∧ ∃ nm : String, (Cond.classLink own z.catchType nm).before args s = true ∧ va_Nc E nm s)) (hx : covers x pc = true) (h0 : x.catchType ≠ 0)
    (hlink : (Cond.classLink own x.catchType name).before args s = true) (hcast : (Cond.castable E name).before args s = true) (hcell : H[q]? = some ce) (hv : ce.vm = .none) (hcl : s.vm.findClass E = some ce.cls)
    (kk : W p l e R s m args below meth c H locs cells slots Q (F0 m x.handlerPc ls [.ref q])) : vx_W p l e R s m args below meth c H locs cells slots Q (F0 m pc ls rest) q := by
  intro T hT X
  have hpl : e.platform.magicAccessors = ({} : Platform).magicAccessors := by rw [X.admits.platform]
  obtain ⟨c3, c4, hc3, hc4, hasg⟩ := Cond.castable_spec hcast
  cases Option.some.inj (hc3.symm.trans hcl)
  obtain ⟨c5, hc5, hcl5⟩ := Cond.classLink_spec hown hlink e.platform hpl
  cases Option.some.inj (hc4.symm.trans hc5)
  obtain ⟨vm', X', st⟩ := X.thenCaughtThrough q (g := F0 m pc ls rest) rfl (Steps.refl _) (by rw [hT]; exact hcell) (by rw [hv]; rfl) (by obtain ⟨k9, h9, -⟩ := Vm.findClass_spec hcl; exact ⟨k9, h9⟩) pre x suf hsplit
    (fun z hz => by
      rcases hpass z hz with h | ⟨hz0, nm, hl1, hn1⟩
      · exact Or.inl h
      · obtain ⟨c6, hc6, hcl6⟩ := Cond.classLink_spec hown hl1 e.platform hpl
        obtain ⟨a8, b8, h1, h2, h3⟩ := hn1
        cases Option.some.inj (h1.symm.trans hcl)
        cases Option.some.inj (h2.symm.trans hc6)
        exact Or.inr ⟨hz0, _, hcl6, h3⟩) hx (Or.inr ⟨h0, c4, hcl5, hasg⟩)
  obtain ⟨t, a1, b1⟩ := kk (T.setVm vm') hT X'
  exact ⟨t, st.trans a1, b1⟩
end Rows
section Ends
variable {p : Program} {l : Launch} {e : Env} {R : Room} {s : State} {m : MethodId} {args : Array Value} {below : List Frame} {meth : Method} {c : Code} {H : Heap} {locs : List Loc} {cells slots : Nat} {Q : State → Prop}
variable {mc ms : Nat} {free : Addr → Prop} {A0 A1 : Nat → Prop} {H0 : Heap} {a : Array Value} {ls : Array Slot} {st0 rest : List Value}
variable {Qc : Array Value → State → Outcome → State → Prop} {XC : String → State → State → Prop}
/-- what a body that may throw owes at its end -/
def vx_MQ (below : List Frame) (Qc : Array Value → State → Outcome → State → Prop) (XC : String → State → State → Prop) (a : Array Value) (s : State) (mc ms : Nat) (free : Addr → Prop) : State → Prop := fun t =>
  ∃ o, t.status = .running ∧ Ended t below o ∧ vx_Q Qc XC mc ms free a s o t
theorem vx_ret {g : JFrame} {mc ms : Nat} (k : W p l e R s m args below meth c H locs cells slots (MQ below Qc args s mc ms free) g) : W p l e R s m args below meth c H locs cells slots (vx_MQ below Qc XC args s mc ms free) g := by
  intro T hT X
  obtain ⟨t, a1, o, b1, b2, b3, b4⟩ := k T hT X
  exact ⟨t, a1, o, b1, b2, Or.inl ⟨b3, b4⟩⟩
/-- not caught here: it goes on to the caller -/
theorem vx_widen {g : JFrame} {q : Addr} {k n : Nat} (h1 : cells ≤ k) (h2 : slots ≤ n) (kk : vx_W p l e R s m args below meth c H locs k n Q g q) : vx_W p l e R s m args below meth c H locs cells slots Q g q := fun T hT X => kk T hT (stand_widen X h1 h2)
theorem vx_out {pc : Nat} {E : String} {ce : Cell} {q : Addr} {mc ms : Nat} (hout : ∀ x ∈ c.exceptionTable.toList, covers x pc = false) (hlocks : meth.locks = false) (hcell : H[q]? = some ce) (hv : ce.vm = .none) (hcl : s.vm.findClass E = some ce.cls)
    (hx : ∀ t : State, t.heap = H → s.vm.Alike t.vm → XC E s t) (hf : ∀ z ∈ locs, free z.base) (hc : cells ≤ mc) (hs : slots ≤ ms) :
    vx_W p l e R s m args below meth c H locs cells slots (vx_MQ below Qc XC args s mc ms free) (F0 m pc ls rest) q := by
  intro T hT X
  obtain ⟨st1, hrun, hend, hW, hsm⟩ := X.leaveThrown q (g := F0 m pc ls rest) rfl rfl rfl hout hlocks
  have hcell9 : (T.setFrames (.throwing q :: below)).heap[q]? = some ce := by
    show T.heap[q]? = some ce
    rw [hT]; exact hcell
  exact ⟨_, st1, .threw q, hrun, hend, Or.inr ⟨q, rfl, E, ce, locs, hx _ hT hW.alike, hcell9, hv, hcl, hW, hsm.mono hc hs, hf⟩⟩
theorem vx_frame {U : State} {k n : Nat} (h : s.sameButNew ({ U with vm := s.vm } : State) locs k n) : s.heap.size ≤ U.heap.size ∧ ∀ q : Nat, q < s.heap.size → (∀ z ∈ locs, z.base ≠ q) → U.heap[q]? = s.heap[q]? := by
  obtain ⟨-, h2, -, -, -, h6⟩ := h
  refine ⟨h2, fun q hq hz => ?_⟩
  obtain ⟨c9, e1, e2, e3, e4⟩ := h6 q _ (Array.getElem?_eq_getElem hq)
  have hs : c9.slots = (s.heap[q]).slots := Array.ext_getElem? fun i => e4 i fun hm => hz _ hm rfl
  have h9 : c9 = s.heap[q] := by
    rw [hs] at e2
    exact e2
  have e5 : U.heap[q]? = some c9 := e1
  rw [e5, h9, Array.getElem?_eq_getElem hq]
/-- the words of a throw but the four that speak of the heap -/
def vx_no (w : Cond) : Bool := decide (w ≠ .isRef (.static Bundle.tN "UNASSIGNED_STACK" Bundle.steD)) && decide (w ≠ .isRef (.static Bundle.tN "SUPPRESSED_SENTINEL" Bundle.listD)) && decide (w ≠ .laysStatic Bundle.tN "UNASSIGNED_STACK" Bundle.steD) && decide (w ≠ .laysStatic Bundle.tN "SUPPRESSED_SENTINEL" Bundle.listD)
def vx_at0 (own : String) (ic : Nat) (X : String) (names : List String) : List Cond := (Bundle.ownAtoms0 own ic X names).filter vx_no
def vx_atS (own : String) (ic : Nat) (X : String) (names : List String) : List Cond := (Bundle.ownAtoms own ic X names).filter vx_no
/-- a word that the tables alone decide, or a good one -/
def vx_ot (w : Cond) : Bool := w.onTables || goodWord w
theorem vx_ot_at {args a' : Array Value} {s U : State} {w : Cond} (hW : s.WarmedH U.vm) (hvm : s.vm = U.vm) (hg : vx_ot w = true) (h : w.before args s = true) : w.before a' U = true := by
  simp only [vx_ot, Bool.or_eq_true] at hg
  rcases hg with hg | hg
  · exact va_tabs hg hvm h
  · exact word_at hW (good_of_word hg) h
/-- a list's words: the good ones out of the method's own list, the others by premises of their own -/
theorem vx_hat {args : Array Value} {s : State} {L B : List Cond} (h1 : ∀ w ∈ L.filter goodWord, w.before args s = true) (h2 : ∀ w ∈ L.filter (fun w => !goodWord w), w ∈ B) (h3 : ∀ w ∈ B, w.before args s = true) : ∀ w ∈ L, w.before args s = true := by
  intro w hw
  by_cases g : goodWord w = true
  · exact h1 w (List.mem_filter.mpr ⟨hw, g⟩)
  · refine h3 w (h2 w (List.mem_filter.mpr ⟨hw, ?_⟩))
    show (!goodWord w) = true
    cases hgw : goodWord w
    · rfl
    · exact absurd hgw g
theorem vx_c {args : Array Value} {s : State} {w : Cond} {B : List Cond} (h : w.before args s = true) (t : ∀ w ∈ B, w.before args s = true) : ∀ w' ∈ w :: B, w'.before args s = true := fun w' h' => (List.mem_cons.mp h').elim (fun e => by rw [e]; exact h) (t w')
theorem vx_n {args : Array Value} {s : State} : ∀ w ∈ ([] : List Cond), w.before args s = true := fun _ h => nomatch h
theorem vx_own {args : Array Value} {s : State} {L : List Cond} (h1 : ∀ w ∈ L.filter vx_no, w.before args s = true)
    (hU : (Cond.isRef (.static Bundle.tN "UNASSIGNED_STACK" Bundle.steD)).before args s = true) (hN : (Cond.isRef (.static Bundle.tN "SUPPRESSED_SENTINEL" Bundle.listD)).before args s = true)
    (lU : (Cond.laysStatic Bundle.tN "UNASSIGNED_STACK" Bundle.steD).before args s = true) (lN : (Cond.laysStatic Bundle.tN "SUPPRESSED_SENTINEL" Bundle.listD).before args s = true) : ∀ w ∈ L, w.before args s = true := by
  intro w hw
  by_cases e1 : w = .isRef (.static Bundle.tN "UNASSIGNED_STACK" Bundle.steD)
  · rw [e1]; exact hU
  · by_cases e2 : w = .isRef (.static Bundle.tN "SUPPRESSED_SENTINEL" Bundle.listD)
    · rw [e2]; exact hN
    · by_cases e3 : w = .laysStatic Bundle.tN "UNASSIGNED_STACK" Bundle.steD
      · rw [e3]; exact lU
      · by_cases e4 : w = .laysStatic Bundle.tN "SUPPRESSED_SENTINEL" Bundle.listD
        · rw [e4]; exact lN
        · exact h1 w (List.mem_filter.mpr ⟨hw, by unfold vx_no; rw [decide_eq_true e1, decide_eq_true e2, decide_eq_true e3, decide_eq_true e4]; rfl⟩)
/-- where a static field lies, its class's statics cell in H -/
def vx_L (C n d : String) (A : Nat → Prop) (U : State) (H : Heap) : Prop := ∃ (c : ClassId) (k : Class) (i : Nat) (f : Field) (a : Nat) (cell : Cell), U.vm.findClass C = some c ∧ U.fieldFound? C n d = some (c, k, i, f) ∧ f.isStatic = true ∧ k.statics = some a ∧ H[a]? = some cell ∧ cell.vm.isStatics = true ∧ cell.cls = c ∧ f.slot < cell.slots.size ∧ k.staticTypes[f.slot]? = some f.type ∧ ¬ A a
theorem vx_L.moved {C n d : String} {A : Nat → Prop} {u U : State} {H : Heap} (hvm : u.vm.Alike U.vm) (h : vx_L C n d A u H) : vx_L C n d A U H := by
  obtain ⟨c, k, i, f, a, cell, h1, h2, h3, h4, h5, h6, h7, h8, h9, h10⟩ := h
  obtain ⟨k', hi', he⟩ := State.fieldFound?_setVm hvm h2
  exact ⟨c, k', i, f, a, cell, by rw [hvm.findClass]; exact h1, hi', h3, by rw [he]; exact h4, h5, h6, h7, h8, by rw [he]; exact h9, h10⟩
theorem vx_L.kept {C n d : String} {A : Nat → Prop} {U : State} {H H1 : Heap} (h : vx_L C n d A U H) (hq : ∀ a : Nat, a < H.size → ¬ A a → H1[a]? = H[a]?) : vx_L C n d A U H1 := by
  obtain ⟨c, k, i, f, a, cell, h1, h2, h3, h4, h5, h6, h7, h8, h9, h10⟩ := h
  exact ⟨c, k, i, f, a, cell, h1, h2, h3, h4, by rw [hq a (Array.getElem?_eq_some_iff.mp h5).1 h10]; exact h5, h6, h7, h8, h9, h10⟩
theorem vx_L.narrow {C n d : String} {A B : Nat → Prop} {U : State} {H : Heap} (h : vx_L C n d A U H) (hAB : ∀ q, B q → A q) : vx_L C n d B U H := by
  obtain ⟨c, k, i, f, a, cell, h1, h2, h3, h4, h5, h6, h7, h8, h9, h10⟩ := h
  exact ⟨c, k, i, f, a, cell, h1, h2, h3, h4, h5, h6, h7, h8, h9, fun z => h10 (hAB _ z)⟩
theorem vx_L.word {C n d : String} {A : Nat → Prop} {s : State} {args : Array Value} (h : vx_L C n d A s s.heap) : (Cond.laysStatic C n d).before args s = true := by
  obtain ⟨c, k, i, f, a, cell, h1, h2, h3, h4, h5, h6, h7, h8, h9, -⟩ := h
  show (Cond.laysStatic C n d).holds args s none s [] = true
  exact Cond.laysStatic_of h1 h2 h3 h4 h5 h6 h7 h8 h9
/-- .. and what it holds: null or some reference -/
def vx_Zq (C n d : String) (A : Nat → Prop) (U : State) (H : Heap) : Prop := va_Zq C n d A U H ∧ vx_L C n d A U H
theorem vx_Zq.moved {C n d : String} {A : Nat → Prop} {u U : State} {H : Heap} (hvm : u.vm.Alike U.vm) (h : vx_Zq C n d A u H) : vx_Zq C n d A U H := ⟨va_Zq.moved hvm h.1, vx_L.moved hvm h.2⟩
theorem vx_Zq.kept {C n d : String} {A : Nat → Prop} {U : State} {H H1 : Heap} (h : vx_Zq C n d A U H) (hq : ∀ a : Nat, a < H.size → ¬ A a → H1[a]? = H[a]?) : vx_Zq C n d A U H1 := ⟨va_Zq.kept h.1 hq, vx_L.kept h.2 hq⟩
theorem vx_Zq.narrow {C n d : String} {A B : Nat → Prop} {U : State} {H : Heap} (h : vx_Zq C n d A U H) (hAB : ∀ q, B q → A q) : vx_Zq C n d B U H := ⟨va_Zq.narrow h.1 hAB, vx_L.narrow h.2 hAB⟩
theorem vx_Zqof {args : Array Value} {s : State} {C n d : String} {A : Nat → Prop} (hl : (Cond.laysStatic C n d).before args s = true) (hini : (Cond.initialized C).before args s = true) (h : (Cond.isRef (.static C n d)).before args s = true) (hA : ∀ a : Nat, a < s.heap.size → ¬ A a) : vx_Zq C n d A s s.heap := by
  refine ⟨va_Zqof hl hini h hA, ?_⟩
  obtain ⟨c, k, i, f, a, cell, h1, h2, h3, h4, h5, h6, h7, h8, h9⟩ := Cond.laysStatic_spec hl
  exact ⟨c, k, i, f, a, cell, h1, h2, h3, h4, h5, h6, h7, h8, h9, hA a (Array.getElem?_eq_some_iff.mp h5).1⟩
theorem vx_isRef {C n d : String} {v : Value} {A : Nat → Prop} {s : State} {args : Array Value} (h : va_Z C n d v A s s.heap) (hv : v.isRef = true) : (Cond.isRef (.static C n d)).before args s = true := by
  obtain ⟨cf, kf, fi, f, a, cell, h1, h2, h3, h4, h5, h6, h7, -⟩ := h
  have he : (Term.static C n d).eval args s none [] s = some v := by
    simp [Term.eval, State.fieldNamed?, h1, h2, h4, h5, h6, h7]
  simp only [Cond.before, Cond.holds, Cond.value, he]
  cases v <;> simp_all [Value.isRef]
theorem vx_isRefq {C n d : String} {A : Nat → Prop} {s : State} {args : Array Value} (h : va_Zq C n d A s s.heap) : (Cond.isRef (.static C n d)).before args s = true := by
  rcases h with h | ⟨t, h⟩
  · exact vx_isRef h rfl
  · exact vx_isRef h rfl
/-- the same frame, seen from here: as if the method were called anew in this heap -/
theorem vx_rebase {T : State} (X : Stand p l e R s m args below meth c T locs cells slots) {R' : Room} (hf : R'.frames ≤ R.frames) (hl : R'.locals ≤ R.locals) (hc : cells + R'.cells ≤ R.cells) (hs : slots + R'.slots ≤ R.slots) :
    Stand p l e R' ((T.setVm s.vm).setFrames (.invoking m args :: below)) m args below meth c T [] 0 0 := by
  have htop : (T.setVm s.vm).topJava?.isSome := X.here.top
  have hF : ((T.setVm s.vm).setFrames (.invoking m args :: below)).frames = .invoking m args :: below := State.frames_setFrames _ (State.cur_lt_of_top htop)
  obtain ⟨g₀, hg0⟩ := Option.isSome_iff_exists.mp htop
  obtain ⟨r, hr⟩ := State.topJava?_eq_some.mp hg0
  have hl9 : e.platform.stackLimits (T.setVm s.vm).me = e.platform.stackLimits s.me := X.limits
  have hb9 : (T.setVm s.vm).me.stackBytes = s.me.stackBytes := X.bytes
  refine ⟨X.admits, X.cas, X.clock, hF, ?_, X.hears, X.method, X.code, X.here, X.tail, X.warmed, ?_, ?_, ?_⟩
  · have h := X.room
    have hU : ((T.setVm s.vm).setFrames (.invoking m args :: below)).localsInUse = s.localsInUse := by
      rw [State.localsInUse_invoking hF (meth := meth) (c := c) X.method X.code, State.localsInUse_invoking X.frames X.method X.code]
    simp only [State.hasRoom, Bool.and_eq_true, decide_eq_true_eq] at h ⊢
    obtain ⟨⟨⟨⟨h1, h2, h3, h4, h5, h6⟩, h7⟩, h8⟩, h9⟩ := h
    rw [X.frames, List.length_cons] at h2 h3
    have q1 := X.heapSize
    have q2 := X.used
    simp only [hF, hU, List.length_cons, State.stackLimits_setFrames, State.stackBytes_setFrames, hl9, hb9]
    refine ⟨⟨⟨⟨by omega, by omega, by omega, by omega, by omega, h6⟩, ?_⟩, ?_⟩, X.book⟩
    · show T.heap.size + R'.cells ≤ e.platform.maxCells
      omega
    · show T.slotsUsed + R'.slots ≤ e.platform.maxSlots
      omega
  · rw [State.stackLimits_setFrames]; rfl
  · rw [State.stackBytes_setFrames]; rfl
  · refine ⟨?_, Nat.le_refl _, Nat.le_refl _, ?_, ?_, fun a c9 h9 => ⟨c9, h9, rfl, rfl, fun _ _ => rfl⟩⟩
    · obtain ⟨t, ht, -⟩ := State.frames_cons hr
      show T.setVm s.vm = { ((T.setVm s.vm).setFrames (.invoking m args :: below)).setFrames (T.setVm s.vm).frames with heap := T.heap, slotsUsed := T.slotsUsed }
      rw [State.setFrames_setFrames, State.setFrames_self ht]
      rfl
    · show T.slotsUsed = T.slotsUsed + ((T.heap.toList.drop T.heap.size).map (·.slots.size)).sum
      rw [List.drop_eq_nil_of_le (Nat.le_of_eq Array.length_toList)]
      rfl
    · show ((T.heap.toList.drop T.heap.size).map (·.slots.size)).sum ≤ 0
      rw [List.drop_eq_nil_of_le (Nat.le_of_eq Array.length_toList)]
      exact Nat.le_refl _
/-- 'throw new E()': new; dup; invokespecial; athrow -/
theorem vx_throw0 {cc : ByteArray} {pc : Nat} (hexec : p.tables.exec = Jvm.exec) (hb : c.code = cc) (hl : l.stackTraces = false) {own cls : String} {names : List String} {ik ic mc ms : Nat} {A : Nat → Prop}
    (hown : s.vm.findClass own = some m.cls) (hcls : Bundle.fit cls = true) (hnames : ∀ n ∈ names, Bundle.fit n = true)
    (hk : (Cond.classLink own ik cls).before args s = true) (hini : (Cond.initialized cls).before args s = true) (hat : ∀ w ∈ vx_at0 own ic cls names, w.before args s = true)
    (hgood : ∀ w ∈ Cond.classLink own ik cls :: Cond.initialized cls :: vx_at0 own ic cls names, vx_ot w = true)
    (hU : vx_Zq Bundle.tN "UNASSIGNED_STACK" Bundle.steD A s s.heap) (hN : vx_Zq Bundle.tN "SUPPRESSED_SENTINEL" Bundle.listD A s s.heap) (hS : va_S A s.heap H locs) (hsize : ls.size = c.maxLocals)
    (d0 : decode cc pc = .ok (.new ik, 3)) (d3 : decode cc (pc + 3) = .ok (.dup, 1)) (d4 : decode cc (pc + 4) = .ok (.invokespecial ic, 3)) (d7 : decode cc (pc + 7) = .ok (.athrow, 1))
    (hout : ∀ x ∈ c.exceptionTable.toList, covers x (pc + 7) = false)
    (hRframes : names.length + 3 < R.frames) (hRlocals : (rest.map fun v => v.category).sum + (13 * (names.length + 1) + 42) ≤ R.locals) (hRcells : cells + 1 ≤ R.cells) (hRslots : slots + 6 ≤ R.slots) (hlocks : meth.locks = false)
    (hx : ∀ t : State, s.vm.Alike t.vm → H.size ≤ t.heap.size → (∀ q : Nat, q < H.size → t.heap[q]? = H[q]?) → XC cls s t)
    (hf : ∀ z ∈ locs, free z.base) (hc : cells + 1 ≤ mc) (hs : slots + 6 ≤ ms) :
    W p l e R s m args below meth c H locs cells slots (vx_MQ below Qc XC args s mc ms free) (F0 m pc ls rest) := by
  intro T hT X
  have htr : e.platform.stackTraces = false := (show e.platform.stackTraces = l.stackTraces by rw [X.admits.platform]).trans hl
  have Y := vx_rebase X (R' := { frames := R.frames, locals := R.locals, cells := 1, slots := 6 }) (Nat.le_refl _) (Nat.le_refl _) hRcells hRslots
  obtain ⟨s', hA⟩ : ∃ z, z = (T.setVm s.vm).setFrames (.invoking m args :: below) := ⟨_, rfl⟩
  rw [← hA] at Y
  have hvm : s'.vm = s.vm := by rw [hA]; rfl
  have hhp : s'.heap = H := by rw [hA]; exact hT
  have hW0 : s.WarmedH s'.vm := by rw [hvm]; exact State.WarmedH.refl s
  have hat' : ∀ w ∈ vx_at0 own ic cls names, w.before args s' = true := fun w hw => vx_ot_at hW0 hvm.symm (hgood w (List.mem_cons_of_mem _ (List.mem_cons_of_mem _ hw))) (hat w hw)
  have hk' : (Cond.classLink own ik cls).before args s' = true := vx_ot_at hW0 hvm.symm (hgood _ List.mem_cons_self) hk
  have hini' : (Cond.initialized cls).before args s' = true := vx_ot_at hW0 hvm.symm (hgood _ (List.mem_cons_of_mem _ List.mem_cons_self)) hini
  have hU' : vx_Zq Bundle.tN "UNASSIGNED_STACK" Bundle.steD A s' s'.heap := by rw [hhp]; exact vx_Zq.moved hW0.alike (hU.kept hS.2.1)
  have hN' : vx_Zq Bundle.tN "SUPPRESSED_SENTINEL" Bundle.listD A s' s'.heap := by rw [hhp]; exact vx_Zq.moved hW0.alike (hN.kept hS.2.1)
  have h : ∀ w ∈ Bundle.ownAtoms0 own ic cls names, w.before args s' = true := vx_own hat' (vx_isRefq hU'.1) (vx_isRefq hN'.1) hU'.2.word hN'.2.word
  have hown' : s'.vm.findClass own = some m.cls := by rw [hvm]; exact hown
  have hins : (Cond.instantiable cls 6).before args s' = true := h _ (by simp [Bundle.ownAtoms0])
  obtain ⟨vm₁, cX, kX, hfX, hkX, -, -, X₁, st1⟩ := Y.newCold hexec (own := own) (C := cls) (index := ik) (n := 6) hown' hk' hins hini'
    (g := F0 m pc ls rest) rfl (by rw [hb]; exact d0) (Nat.le_refl _) (Nat.le_refl _)
  generalize hT1 : (T.setVm vm₁).pushCell { cls := cX, slots := kX.instanceTypes.map defaultValue, vm := .none } = T1 at X₁ st1
  have hcat : (Value.ref T.heap.size).category = 1 := rfl
  have hcellA : T1.heap[T.heap.size]? = some (freshCell cX kX) := by rw [← hT1]; exact State.heap_pushCell_size _ _
  have d3' : decode c.code (pc + 3) = .ok (.dup, 1) := by rw [hb]; exact d3
  obtain ⟨U, hsteps, hrun, hend, hW, hsame, ce, hce, hO⟩ := X₁.ctorThrow0 hexec htr (own := own) (cls := cls) (names := names) (ic := ic) hown' hcls hnames h (fun x hx => nomatch hx) hfX hkX hcellA (by rw [hhp, hT]; exact Nat.le_refl _)
    (g := { method := m, pc := pc + 4, locals := ls, stack := .ref T.heap.size :: .ref T.heap.size :: rest, locked := none }) rfl hsize rfl rfl (rest := rest) rfl
    (by rw [hb]; exact d4) (by rw [hb]; exact d7) hout hRframes (by simp only [List.map_cons, List.sum_cons, hcat]; omega) hlocks
  obtain ⟨f1, f2⟩ := vx_frame hsame
  rw [hhp] at f1 f2
  have hWs : s.WarmedH U.vm := State.WarmedH.trans hW0 hW
  have hcl : s.vm.findClass cls = some ce.cls := by
    have h9 := hO.cls
    rw [hvm] at h9
    exact h9
  have hall : s.sameButNew ({ U with vm := s.vm } : State) locs mc ms := by
    subst hA
    obtain ⟨e1, e2⟩ := hsame
    rw [State.setFrames_setFrames] at e1
    have h2 : (T.setVm s.vm).sameButNew ({ U with vm := s.vm } : State) [] (0 + 1) (0 + 6) := ⟨e1, e2⟩
    have h3 := X.same.trans h2
    rw [List.append_nil] at h3
    exact h3.mono hc hs
  refine ⟨U, ?_, .threw T.heap.size, hrun, hend, Or.inr ⟨T.heap.size, rfl, cls, ce, locs, hx U hWs.alike f1 (fun q hq => f2 q hq (fun z hz => nomatch hz)), hce, hO.vm, hcl, hWs, hall, hf⟩⟩
  refine st1 _ ?_
  show Steps p.tables e below (T1.setTop { method := m, pc := pc + 3, locals := ls, stack := .ref T.heap.size :: rest, locked := none }) _
  jvm_step X₁.here [X₁.here.top, hexec, d3', Value.category]
  exact hsteps
/-- 'throw new E("text")': new; dup; ldc; invokespecial; athrow -/
theorem vx_throwS {cc : ByteArray} {pc : Nat} (hexec : p.tables.exec = Jvm.exec) (hb : c.code = cc) (hl : l.stackTraces = false) {own cls text : String} {names : List String} {ik is ic mc ms sa : Nat} {A : Nat → Prop}
    (hown : s.vm.findClass own = some m.cls) (hcls : Bundle.fit cls = true) (hnames : ∀ n ∈ names, Bundle.fit n = true)
    (hk : (Cond.classLink own ik cls).before args s = true) (hini : (Cond.initialized cls).before args s = true) (hstr : vk_R own is text sa s) (hat : ∀ w ∈ vx_atS own ic cls names, w.before args s = true)
    (hgood : ∀ w ∈ Cond.classLink own ik cls :: Cond.initialized cls :: vx_atS own ic cls names, vx_ot w = true)
    (hU : vx_Zq Bundle.tN "UNASSIGNED_STACK" Bundle.steD A s s.heap) (hN : vx_Zq Bundle.tN "SUPPRESSED_SENTINEL" Bundle.listD A s s.heap) (hS : va_S A s.heap H locs) (hsize : ls.size = c.maxLocals)
    (d0 : decode cc pc = .ok (.new ik, 3)) (d3 : decode cc (pc + 3) = .ok (.dup, 1)) (d4 : decode cc (pc + 4) = .ok (.ldc is, 2)) (d6 : decode cc (pc + 6) = .ok (.invokespecial ic, 3)) (d9 : decode cc (pc + 9) = .ok (.athrow, 1))
    (hout : ∀ x ∈ c.exceptionTable.toList, covers x (pc + 9) = false)
    (hRframes : names.length + 3 < R.frames) (hRlocals : (rest.map fun v => v.category).sum + (13 * (names.length + 1) + 43) ≤ R.locals) (hRcells : cells + 1 ≤ R.cells) (hRslots : slots + 6 ≤ R.slots) (hlocks : meth.locks = false)
    (hx : ∀ t : State, s.vm.Alike t.vm → H.size ≤ t.heap.size → (∀ q : Nat, q < H.size → t.heap[q]? = H[q]?) → XC cls s t)
    (hf : ∀ z ∈ locs, free z.base) (hc : cells + 1 ≤ mc) (hs : slots + 6 ≤ ms) :
    W p l e R s m args below meth c H locs cells slots (vx_MQ below Qc XC args s mc ms free) (F0 m pc ls rest) := by
  intro T hT X
  have htr : e.platform.stackTraces = false := (show e.platform.stackTraces = l.stackTraces by rw [X.admits.platform]).trans hl
  have Y := vx_rebase X (R' := { frames := R.frames, locals := R.locals, cells := 1, slots := 6 }) (Nat.le_refl _) (Nat.le_refl _) hRcells hRslots
  obtain ⟨s', hA⟩ : ∃ z, z = (T.setVm s.vm).setFrames (.invoking m args :: below) := ⟨_, rfl⟩
  rw [← hA] at Y
  have hvm : s'.vm = s.vm := by rw [hA]; rfl
  have hhp : s'.heap = H := by rw [hA]; exact hT
  have hW0 : s.WarmedH s'.vm := by rw [hvm]; exact State.WarmedH.refl s
  have hat' : ∀ w ∈ vx_atS own ic cls names, w.before args s' = true := fun w hw => vx_ot_at hW0 hvm.symm (hgood w (List.mem_cons_of_mem _ (List.mem_cons_of_mem _ hw))) (hat w hw)
  have hk' : (Cond.classLink own ik cls).before args s' = true := vx_ot_at hW0 hvm.symm (hgood _ List.mem_cons_self) hk
  have hini' : (Cond.initialized cls).before args s' = true := vx_ot_at hW0 hvm.symm (hgood _ (List.mem_cons_of_mem _ List.mem_cons_self)) hini
  have hU' : vx_Zq Bundle.tN "UNASSIGNED_STACK" Bundle.steD A s' s'.heap := by rw [hhp]; exact vx_Zq.moved hW0.alike (hU.kept hS.2.1)
  have hN' : vx_Zq Bundle.tN "SUPPRESSED_SENTINEL" Bundle.listD A s' s'.heap := by rw [hhp]; exact vx_Zq.moved hW0.alike (hN.kept hS.2.1)
  have h : ∀ w ∈ Bundle.ownAtoms own ic cls names, w.before args s' = true := vx_own hat' (vx_isRefq hU'.1) (vx_isRefq hN'.1) hU'.2.word hN'.2.word
  have hown' : s'.vm.findClass own = some m.cls := by rw [hvm]; exact hown
  have hins : (Cond.instantiable cls 6).before args s' = true := h _ (by simp [Bundle.ownAtoms])
  obtain ⟨vm₁, cX, kX, hfX, hkX, -, -, X₁, st1⟩ := Y.newCold hexec (own := own) (C := cls) (index := ik) (n := 6) hown' hk' hins hini'
    (g := F0 m pc ls rest) rfl (by rw [hb]; exact d0) (Nat.le_refl _) (Nat.le_refl _)
  generalize hT1 : (T.setVm vm₁).pushCell { cls := cX, slots := kX.instanceTypes.map defaultValue, vm := .none } = T1 at X₁ st1
  have hcat : (Value.ref T.heap.size).category = 1 := rfl
  have hcellA : T1.heap[T.heap.size]? = some (freshCell cX kX) := by rw [← hT1]; exact State.heap_pushCell_size _ _
  have d3' : decode c.code (pc + 3) = .ok (.dup, 1) := by rw [hb]; exact d3
  have d4' : decode c.code (pc + 4) = .ok (.ldc is, 2) := by rw [hb]; exact d4
  have hstr' : vk_R own is text sa s' := vk_R.warm hW0 hstr
  obtain ⟨U, hsteps, hrun, hend, hW, hsame, ce, hce, hO⟩ := X₁.ctorThrowS hexec htr (own := own) (cls := cls) (names := names) (ic := ic) hown' hcls hnames h (fun x hx => nomatch hx) hfX hkX hcellA (by rw [hhp, hT]; exact Nat.le_refl _) (msg := .ref sa) rfl
    (g := { method := m, pc := pc + 6, locals := ls, stack := .ref sa :: .ref T.heap.size :: .ref T.heap.size :: rest, locked := none }) rfl hsize rfl rfl (rest := rest) rfl
    (by rw [hb]; exact d6) (by rw [hb]; exact d9) hout hRframes (by simp only [List.map_cons, List.sum_cons, hcat]; omega) hlocks
  obtain ⟨f1, f2⟩ := vx_frame hsame
  rw [hhp] at f1 f2
  have hWs : s.WarmedH U.vm := State.WarmedH.trans hW0 hW
  have hcl : s.vm.findClass cls = some ce.cls := by
    have h9 := hO.cls
    rw [hvm] at h9
    exact h9
  have hall : s.sameButNew ({ U with vm := s.vm } : State) locs mc ms := by
    subst hA
    obtain ⟨e1, e2⟩ := hsame
    rw [State.setFrames_setFrames] at e1
    have h2 : (T.setVm s.vm).sameButNew ({ U with vm := s.vm } : State) [] (0 + 1) (0 + 6) := ⟨e1, e2⟩
    have h3 := X.same.trans h2
    rw [List.append_nil] at h3
    exact h3.mono hc hs
  refine ⟨U, ?_, .threw T.heap.size, hrun, hend, Or.inr ⟨T.heap.size, rfl, cls, ce, locs, hx U hWs.alike f1 (fun q hq => f2 q hq (fun z hz => nomatch hz)), hce, hO.vm, hcl, hWs, hall, hf⟩⟩
  refine st1 _ ?_
  show Steps p.tables e below (T1.setTop { method := m, pc := pc + 3, locals := ls, stack := .ref T.heap.size :: rest, locked := none }) _
  jvm_step X₁.here [X₁.here.top, hexec, d3', Value.category]
  exact X₁.ldcString hexec (own := own) (text := text) (index := is) (a := sa) hown' hstr'.1 hstr'.2
    (g := { method := m, pc := pc + 4, locals := ls, stack := .ref T.heap.size :: .ref T.heap.size :: rest, locked := none }) rfl d4' _ hsteps
/-- 'throw new E("text")', the text by a wide index -/
theorem vx_throwSW {cc : ByteArray} {pc : Nat} (hexec : p.tables.exec = Jvm.exec) (hb : c.code = cc) (hl : l.stackTraces = false) {own cls text : String} {names : List String} {ik is ic mc ms sa : Nat} {A : Nat → Prop}
    (hown : s.vm.findClass own = some m.cls) (hcls : Bundle.fit cls = true) (hnames : ∀ n ∈ names, Bundle.fit n = true)
    (hk : (Cond.classLink own ik cls).before args s = true) (hini : (Cond.initialized cls).before args s = true) (hstr : vk_R own is text sa s) (hat : ∀ w ∈ vx_atS own ic cls names, w.before args s = true)
    (hgood : ∀ w ∈ Cond.classLink own ik cls :: Cond.initialized cls :: vx_atS own ic cls names, vx_ot w = true)
    (hU : vx_Zq Bundle.tN "UNASSIGNED_STACK" Bundle.steD A s s.heap) (hN : vx_Zq Bundle.tN "SUPPRESSED_SENTINEL" Bundle.listD A s s.heap) (hS : va_S A s.heap H locs) (hsize : ls.size = c.maxLocals)
    (d0 : decode cc pc = .ok (.new ik, 3)) (d3 : decode cc (pc + 3) = .ok (.dup, 1)) (d4 : decode cc (pc + 4) = .ok (.ldc_w is, 3)) (d7 : decode cc (pc + 7) = .ok (.invokespecial ic, 3)) (d10 : decode cc (pc + 10) = .ok (.athrow, 1))
    (hout : ∀ x ∈ c.exceptionTable.toList, covers x (pc + 10) = false)
    (hRframes : names.length + 3 < R.frames) (hRlocals : (rest.map fun v => v.category).sum + (13 * (names.length + 1) + 43) ≤ R.locals) (hRcells : cells + 1 ≤ R.cells) (hRslots : slots + 6 ≤ R.slots) (hlocks : meth.locks = false)
    (hx : ∀ t : State, s.vm.Alike t.vm → H.size ≤ t.heap.size → (∀ q : Nat, q < H.size → t.heap[q]? = H[q]?) → XC cls s t)
    (hf : ∀ z ∈ locs, free z.base) (hc : cells + 1 ≤ mc) (hs : slots + 6 ≤ ms) :
    W p l e R s m args below meth c H locs cells slots (vx_MQ below Qc XC args s mc ms free) (F0 m pc ls rest) := by
  intro T hT X
  have htr : e.platform.stackTraces = false := (show e.platform.stackTraces = l.stackTraces by rw [X.admits.platform]).trans hl
  have Y := vx_rebase X (R' := { frames := R.frames, locals := R.locals, cells := 1, slots := 6 }) (Nat.le_refl _) (Nat.le_refl _) hRcells hRslots
  obtain ⟨s', hA⟩ : ∃ z, z = (T.setVm s.vm).setFrames (.invoking m args :: below) := ⟨_, rfl⟩
  rw [← hA] at Y
  have hvm : s'.vm = s.vm := by rw [hA]; rfl
  have hhp : s'.heap = H := by rw [hA]; exact hT
  have hW0 : s.WarmedH s'.vm := by rw [hvm]; exact State.WarmedH.refl s
  have hat' : ∀ w ∈ vx_atS own ic cls names, w.before args s' = true := fun w hw => vx_ot_at hW0 hvm.symm (hgood w (List.mem_cons_of_mem _ (List.mem_cons_of_mem _ hw))) (hat w hw)
  have hk' : (Cond.classLink own ik cls).before args s' = true := vx_ot_at hW0 hvm.symm (hgood _ List.mem_cons_self) hk
  have hini' : (Cond.initialized cls).before args s' = true := vx_ot_at hW0 hvm.symm (hgood _ (List.mem_cons_of_mem _ List.mem_cons_self)) hini
  have hU' : vx_Zq Bundle.tN "UNASSIGNED_STACK" Bundle.steD A s' s'.heap := by rw [hhp]; exact vx_Zq.moved hW0.alike (hU.kept hS.2.1)
  have hN' : vx_Zq Bundle.tN "SUPPRESSED_SENTINEL" Bundle.listD A s' s'.heap := by rw [hhp]; exact vx_Zq.moved hW0.alike (hN.kept hS.2.1)
  have h : ∀ w ∈ Bundle.ownAtoms own ic cls names, w.before args s' = true := vx_own hat' (vx_isRefq hU'.1) (vx_isRefq hN'.1) hU'.2.word hN'.2.word
  have hown' : s'.vm.findClass own = some m.cls := by rw [hvm]; exact hown
  have hins : (Cond.instantiable cls 6).before args s' = true := h _ (by simp [Bundle.ownAtoms])
  obtain ⟨vm₁, cX, kX, hfX, hkX, -, -, X₁, st1⟩ := Y.newCold hexec (own := own) (C := cls) (index := ik) (n := 6) hown' hk' hins hini'
    (g := F0 m pc ls rest) rfl (by rw [hb]; exact d0) (Nat.le_refl _) (Nat.le_refl _)
  generalize hT1 : (T.setVm vm₁).pushCell { cls := cX, slots := kX.instanceTypes.map defaultValue, vm := .none } = T1 at X₁ st1
  have hcat : (Value.ref T.heap.size).category = 1 := rfl
  have hcellA : T1.heap[T.heap.size]? = some (freshCell cX kX) := by rw [← hT1]; exact State.heap_pushCell_size _ _
  have d3' : decode c.code (pc + 3) = .ok (.dup, 1) := by rw [hb]; exact d3
  have d4' : decode c.code (pc + 4) = .ok (.ldc_w is, 3) := by rw [hb]; exact d4
  have hstr' : vk_R own is text sa s' := vk_R.warm hW0 hstr
  obtain ⟨U, hsteps, hrun, hend, hW, hsame, ce, hce, hO⟩ := X₁.ctorThrowS hexec htr (own := own) (cls := cls) (names := names) (ic := ic) hown' hcls hnames h (fun x hx => nomatch hx) hfX hkX hcellA (by rw [hhp, hT]; exact Nat.le_refl _) (msg := .ref sa) rfl
    (g := { method := m, pc := pc + 7, locals := ls, stack := .ref sa :: .ref T.heap.size :: .ref T.heap.size :: rest, locked := none }) rfl hsize rfl rfl (rest := rest) rfl
    (by rw [hb]; exact d7) (by rw [hb]; exact d10) hout hRframes (by simp only [List.map_cons, List.sum_cons, hcat]; omega) hlocks
  obtain ⟨f1, f2⟩ := vx_frame hsame
  rw [hhp] at f1 f2
  have hWs : s.WarmedH U.vm := State.WarmedH.trans hW0 hW
  have hcl : s.vm.findClass cls = some ce.cls := by
    have h9 := hO.cls
    rw [hvm] at h9
    exact h9
  have hall : s.sameButNew ({ U with vm := s.vm } : State) locs mc ms := by
    subst hA
    obtain ⟨e1, e2⟩ := hsame
    rw [State.setFrames_setFrames] at e1
    have h2 : (T.setVm s.vm).sameButNew ({ U with vm := s.vm } : State) [] (0 + 1) (0 + 6) := ⟨e1, e2⟩
    have h3 := X.same.trans h2
    rw [List.append_nil] at h3
    exact h3.mono hc hs
  refine ⟨U, ?_, .threw T.heap.size, hrun, hend, Or.inr ⟨T.heap.size, rfl, cls, ce, locs, hx U hWs.alike f1 (fun q hq => f2 q hq (fun z hz => nomatch hz)), hce, hO.vm, hcl, hWs, hall, hf⟩⟩
  refine st1 _ ?_
  show Steps p.tables e below (T1.setTop { method := m, pc := pc + 3, locals := ls, stack := .ref T.heap.size :: rest, locked := none }) _
  jvm_step X₁.here [X₁.here.top, hexec, d3', Value.category]
  exact X₁.ldcStringW hexec (own := own) (text := text) (index := is) (a := sa) hown' hstr'.1 hstr'.2
    (g := { method := m, pc := pc + 4, locals := ls, stack := .ref T.heap.size :: .ref T.heap.size :: rest, locked := none }) rfl d4' _ hsteps
end Ends
section Bodies
variable {l : Launch}
theorem vx_ofW {y : MethodName} {ws ws' : List Cond} {rm : Room} {Pc : Array Value → State → Prop} {Qc : Array Value → State → Outcome → State → Prop} {XC : String → State → State → Prop} {mc ms : Nat} {free : Addr → Prop} {cc : ByteArray} {maxL : Nat} {ret : Option FieldType}
    (hy : plainName y.cls = true) (hw : ws = Cond.code y cc maxL ret :: ws')
    (body : ∀ p e s m args below meth c s₁, BodyLoose p l y (headSpec ws rm) cc maxL ret e s m args below meth c s₁ → c.maxLocals = maxL → (∀ x ∈ c.exceptionTable.toList, False) → Pc args s →
      W p l e (headSpec ws rm).room s m args below meth c s.heap [] 0 0 (vx_MQ below Qc XC args s mc ms free) (entryFrame m args maxL)) : vx_Met l y ws rm Pc Qc XC mc ms free := by
  refine MetFree.of_bodyS (code := cc) (maxLocals := maxL) (ret := ret) hy ?_ ?_
  · intro args s m h hn
    obtain ⟨meth, c, h1, h2, h3, h4, h5, h6, -, -⟩ := Cond.code_spec hn (atoms_spec (ws := ws) h _ (by rw [hw]; exact List.mem_cons_self))
    exact ⟨meth, c, h1, h2, h3, h4, h5, h6⟩
  · intro p e s m args below meth c s₁ B hml hP _
    have hh0 : s₁.heap = s.heap := by rw [B.state]; rfl
    have ht : ∀ x ∈ c.exceptionTable.toList, False := by
      obtain ⟨meth9, c9, h1, h2, -, -, -, -, h7, -⟩ := Cond.code_spec B.named (atoms_spec (ws := ws) B.pre _ (by rw [hw]; exact List.mem_cons_self))
      cases Option.some.inj (h1.symm.trans B.method)
      cases Option.some.inj (h2.symm.trans (Stand.of_body B).code)
      intro x hx
      rw [Array.isEmpty_iff.mp h7] at hx
      cases hx
    obtain ⟨t, a1, o, b1, b2, b3⟩ := body p e s m args below meth c s₁ B hml ht hP s₁ hh0 (Stand.of_body B)
    exact ⟨t, o, a1, b1, b2, b3⟩
/-- the table of a body with handlers -/
theorem vx_table {p : Program} {x y : MethodName} {S : Spec} {cc bytes : ByteArray} {maxL maxL' : Nat} {ret ret' : Option FieldType} {e : Env} {s s₁ : State} {m : MethodId} {args : Array Value} {below : List Frame} {meth : Method} {c : Code} {hh : List (Nat × Nat × Nat × Nat)}
    (B : BodyLoose p l y S cc maxL ret e s m args below meth c s₁) (h : (Cond.codeWith y bytes maxL' ret' hh).before args s = true) : c.exceptionTable.toList = tableOf hh := by
  obtain ⟨m9, meth9, c9, hn9, h1, h2, -, -, h6, -⟩ := Cond.codeWith_spec h
  cases Option.some.inj (hn9.symm.trans B.named)
  cases Option.some.inj (h1.symm.trans B.method)
  cases Option.some.inj (h2.symm.trans (Stand.of_body B).code)
  rw [← h6, table_eq]
end Bodies
end VXA
/-! ===== END ===== -/
/-! ===== BEGIN a static call of a method with an exception table ===== -/
section VXS
variable {p : Program} {l : Launch} {e : Env} {R : Room} {s : State} {m : MethodId} {args : Array Value} {below : List Frame} {meth : Method} {c : Code} {T : State} {H : Heap} {locs : List Loc} {cells slots : Nat}
abbrev vx_CSW (R : Room) (s : State) (args : Array Value) (own : String) (index : Nat) (y : MethodName) (bytes : ByteArray) (maxL : Nat) (ret : Option FieldType) (hh : List (Nat × Nat × Nat × Nat)) (ws : List Cond) (rm : Room) (mc ms n : Nat) : Prop :=
  (rm.cells = mc ∧ rm.slots = ms ∧ rm.frames + 1 ≤ R.frames ∧ 8 + (maxL + 11) + rm.locals ≤ R.locals ∧ (∀ w ∈ ws, ∀ (a' : Array Value) (U : State), s.WarmedH U.vm → w.before a' U = true) ∧ Cond.codeWith y bytes maxL ret hh ∈ ws) ∧
  (Cond.codeWith y bytes maxL ret hh).before args s = true ∧ (Cond.initialized y.cls).before args s = true ∧ (y.cls ≠ "java/lang/invoke/MethodHandle" ∧ y.cls ≠ "java/lang/invoke/VarHandle") ∧
  (∀ sig, parseMethodDescriptor y.desc = some sig → n = sig.parameters.length) ∧ (Cond.methodLink own index y).before args s = true ∧ (Cond.static y).before args s = true
theorem vx_cwSW {own : String} {index maxL mc ms : Nat} {y : MethodName} {bytes : ByteArray} {ret : Option FieldType} {hh : List (Nat × Nat × Nat × Nat)} {Ts ws ws' : List Cond} {rm : Room} (n : Nat) (ht : ∀ w ∈ Ts, w.before args s = true) (hT : GoodIn Ts (va_wsS own index y ws)) (hw : ws = Cond.codeWith y bytes maxL ret hh :: ws') (hrc : rm.cells = mc) (hrs : rm.slots = ms)
    (hd : y.cls ≠ "java/lang/invoke/MethodHandle" ∧ y.cls ≠ "java/lang/invoke/VarHandle" ∧ (parseMethodDescriptor y.desc).map (fun d => d.parameters.length) = some n) (hR : rm.frames + 1 ≤ R.frames ∧ 8 + (maxL + 11) + rm.locals ≤ R.locals) :
    vx_CSW R s args own index y bytes maxL ret hh ws rm mc ms n := by
  have ok : ∀ w ∈ va_wsS own index y ws, w.before args s = true := fun w h => ht w (hT w h).1
  have hG : GoodIn Ts ws := fun w h => hT w (by unfold va_wsS; exact List.mem_append_right _ h)
  have hc : Cond.codeWith y bytes maxL ret hh ∈ ws := by rw [hw]; exact List.mem_cons_self
  refine ⟨⟨hrc, hrs, hR.1, hR.2, pay_in ht hG, hc⟩, ht _ (hG _ hc).1, ok _ (by simp [va_wsS]), ⟨hd.1, hd.2.1⟩, fun sig h => ?_, ok _ (by simp [va_wsS]), ok _ (by simp [va_wsS])⟩
  have h2 := hd.2.2
  rw [h] at h2
  exact (Option.some.inj h2).symm
theorem vx_callSW (X : Stand p l e R s m args below meth c T locs cells slots) (hexec : p.tables.exec = Jvm.exec) {own : String} {index : Nat} {y : MethodName} {bytes : ByteArray} {maxL : Nat} {ret : Option FieldType} {hh : List (Nat × Nat × Nat × Nat)}
    (hown : s.vm.findClass own = some m.cls) (hlink : (Cond.methodLink own index y).before args s = true) (hstat : (Cond.static y).before args s = true) (hinit : (Cond.initialized y.cls).before args s = true)
    (hcode : (Cond.codeWith y bytes maxL ret hh).before args s = true) (hy : y.cls ≠ "java/lang/invoke/MethodHandle" ∧ y.cls ≠ "java/lang/invoke/VarHandle")
    {W9 : Nat} {Pre : Pt → Array Value → Prop} {Post : Pt → Array Value → Option Value → Pt → Prop} (hK : Back l R p e below s args y 3 W9 Pre Post)
    {g : JFrame} (hg : g.method = m) (hsize : g.locals.size = c.maxLocals) {argsL rest : List Value} (hlen : ∀ sig, parseMethodDescriptor y.desc = some sig → argsL.length = sig.parameters.length)
    (hstack : g.stack = argsL.reverse ++ rest) (hW : 2 * g.monitorRoom + (rest.map fun v => v.category).sum ≤ W9) (hdg : decode c.code g.pc = .ok (.invokestatic index, 3))
    (hpre : ∀ vm₁, s.WarmedH vm₁ → Pre ⟨T.setVm vm₁, locs, cells, slots⟩ argsL.toArray) :
    ∃ (v : Option Value) (vm₁ : Vm) (B : Pt), s.WarmedH vm₁ ∧ Stand p l e R s m args below meth c B.U B.locs B.cells B.slots ∧ Post ⟨T.setVm vm₁, locs, cells, slots⟩ argsL.toArray v B ∧
      ∀ target, Steps p.tables e below (B.U.setTop { g with pc := g.pc + 3, stack := v.toList ++ rest }) target → Steps p.tables e below (T.setTop g) target := by
  obtain ⟨mk, methM, cM, hnamed, hmethM, -, -, -, -, -, -, hsigM⟩ := Cond.codeWith_spec hcode
  have hstatic : methM.isStatic = true := Cond.static_spec hnamed hmethM hstat
  obtain ⟨kP, hkP, -⟩ := className_of_methodNamed hnamed
  have hinitP : kP.init = .initialized := Cond.initialized_spec (findClass_of_methodNamed hnamed) hkP hinit
  obtain ⟨vm₁, X₁, hstep₁⟩ := X.invokestatic hexec hown hlink hnamed hmethM hstatic hkP hinitP hy (g := g) hg (argsL := argsL) (rest := rest) (hlen _ hsigM) hstack hdg
  obtain ⟨v, B, X', hpost, hsteps⟩ := hK m meth c ⟨T.setVm vm₁, locs, cells, slots⟩ { g with stack := rest } (.invokestatic index) mk argsL.toArray X₁ hg hsize hdg hW (X₁.named hnamed) (hpre vm₁ X₁.warmed)
  exact ⟨v, vm₁, B, X₁.warmed, X', hpost, fun target h => hstep₁ _ fun acts => by rw [doInvoke_state]; exact hsteps.trans h⟩
theorem vx_runSW {y : MethodName} {bytes cc : ByteArray} {maxL nL mc ms n index : Nat} {ret : Option FieldType} {hh : List (Nat × Nat × Nat × Nat)} {ws : List Cond} {rm : Room} {Pc : Array Value → State → Prop} {Qc : Array Value → State → Outcome → State → Prop} {free : Addr → Prop} {Ts : List Cond} {own : String} {As rest : List Value} {g : JFrame}
    (S : CallFix p m c cc nL s args Ts own) (hM : Met l y ws rm Pc Qc mc ms free) (cw : vx_CSW R s args own index y bytes maxL ret hh ws rm mc ms n) (hp : PreS s H Pc As)
    (hg : g.method = m) (hn : As.length = n) (hsize : g.locals.size = nL) (hstack : g.stack = As.reverse ++ rest) (hW : 2 * g.monitorRoom + (rest.map fun v => v.category).sum ≤ 8) (hdg : decode cc g.pc = .ok (.invokestatic index, 3)) (hf : cells + mc ≤ R.cells ∧ slots + ms ≤ R.slots) :
    va_Run p l e R s m args below meth c H locs cells slots mc ms g rest (Qc As.toArray) (free) := by
  obtain ⟨⟨hrc, hrs, hfr, hlo, hws, hcw⟩, hcode, hini, hy, hlen, hl, hstt⟩ := cw
  have hK : Back l R p e below s args y 3 8 (PreOf R mc ms Pc) (PostOf Qc mc ms free) := va_backW (hh := hh) (bytes := bytes) (maxL := maxL) (ret := ret) hM hp.1 hrc hrs hfr hlo hws hcw (fun a' U hW => word_at hW (Or.inl (by first | rfl | simp [Cond.onTables, Cond.keeps, Cond.steady])) hini)
  obtain ⟨hx, hb, hml, ho, -⟩ := S
  intro T hT X
  obtain ⟨v, vm₁, ⟨U', l2, c2, s2⟩, hW₁, X', ⟨g', mk, t, L, e1, e2, hq, h1, hL, h2, h3⟩, st⟩ := vx_callSW X hx (hh := hh) (bytes := bytes) (maxL := maxL) (ret := ret) ho hl hstt hini hcode hy hK hg (hsize.trans hml.symm) (argsL := As) (rest := rest) (fun sig h => hn.trans (hlen sig h)) hstack hW (by rw [hb]; exact hdg)
    (fun vm₁ hW₁ => ⟨hf.1, hf.2, hp.2 (T.setVm vm₁) hT hW₁⟩)
  dsimp only [Pt.U, Pt.locs, Pt.cells, Pt.slots] at X' e1 e2 h1 h2 h3 st
  subst h1; subst h2; subst h3
  exact ⟨v, (T.setVm vm₁).calling g' mk As.toArray, t, U', L, hT, X', hL, e1, e2, hq, st⟩
/-- not caught here, past rows that name other classes: it goes on to the caller -/
theorem vx_outP {p : Program} {l : Launch} {e : Env} {R : Room} {s : State} {m : MethodId} {args : Array Value} {below : List Frame} {meth : Method} {c : Code} {H : Heap} {locs : List Loc} {cells slots : Nat} {free : Addr → Prop} {ls : Array Slot} {rest : List Value} {Qc : Array Value → State → Outcome → State → Prop} {XC : String → State → State → Prop}
    {pc : Nat} {own E : String} {ce : Cell} {q : Addr} {mc ms : Nat} (hown : s.vm.findClass own = some m.cls) (hlocks : meth.locks = false)
    (hpass : ∀ z ∈ c.exceptionTable.toList, covers z pc = false ∨ (z.catchType ≠ 0 ∧ ∃ nm : String, (Cond.classLink own z.catchType nm).before args s = true ∧ va_Nc E nm s)) (hcell : H[q]? = some ce) (hv : ce.vm = .none) (hcl : s.vm.findClass E = some ce.cls)
    (hx : ∀ t : State, t.heap = H → s.vm.Alike t.vm → XC E s t) (hf : ∀ z ∈ locs, free z.base) (hc : cells ≤ mc) (hs : slots ≤ ms) :
    vx_W p l e R s m args below meth c H locs cells slots (vx_MQ below Qc XC args s mc ms free) (F0 m pc ls rest) q := by
  intro T hT X
  have hpl : e.platform.magicAccessors = ({} : Platform).magicAccessors := by rw [X.admits.platform]
  obtain ⟨vm', hW', X', st⟩ := X.outThrough hlocks q (g := F0 m pc ls rest) rfl rfl rfl (cell := ce) (by rw [hT]; exact hcell) (by rw [hv]; rfl)
    (by obtain ⟨k9, h9, -⟩ := Vm.findClass_spec hcl; exact ⟨k9, h9⟩) (fun z hz => by
      rcases hpass z hz with h | ⟨hz0, nm, hl1, hn1⟩
      · exact Or.inl h
      · obtain ⟨c6, hc6, hcl6⟩ := Cond.classLink_spec hown hl1 e.platform hpl
        obtain ⟨a8, b8, h1, h2, h3⟩ := hn1
        cases Option.some.inj (h1.symm.trans hcl)
        cases Option.some.inj (h2.symm.trans hc6)
        exact Or.inr ⟨hz0, _, hcl6, h3⟩)
  obtain ⟨g₀, hfr⟩ := X'.frames_eq
  have hcell9 : ((T.setVm vm').setFrames (.throwing q :: below)).heap[q]? = some ce := by
    show T.heap[q]? = some ce
    rw [hT]; exact hcell
  have hend : Ended ((T.setVm vm').setFrames (.throwing q :: below)) below (.threw q) := State.frames_setFrames _ (State.cur_lt_of_frames hfr)
  refine ⟨(T.setVm vm').setFrames (.throwing q :: below), ?_, .threw q, X'.here.running, hend, Or.inr ⟨q, rfl, E, ce, locs, hx _ hT (X'.ends _).1.alike, hcell9, hv, hcl, (X'.ends _).1, (X'.ends _).2.mono hc hs, hf⟩⟩
  rw [X.pushThrowing_eq]
  exact st
/-- a thing of a world lies in the heap -/
theorem vx_lt {D : va_G} {cl : List vw_C} {ws : va_W} {H1 : Heap} (h : va_P D cl ws H1) {k : Nat} {q : Nat × va_E} (hk : ws[k]? = some q) : q.1 < H1.size := (h k q hk).lt
end VXS
/-! ===== END ===== -/
/-! ===== BEGIN methods with a table of their own: called by a name, returning or throwing ===== -/
section VXH
/-! vx_backW, vx_callVX, vx_callSX, vx_callVW, vx_runVW, vx_runVX, vx_runSX, vx_ofWH follow the same proofs as their sisters above (Free/Laws.lean, Shelf42/LK1.lean); vx_outP calls Shelf42/NT130.lean (outThrough). -/
section
variable {l : Launch} {R : Room} {p : Program} {e : Env} {below : List Frame} {s : State} {sargs : Array Value} {y : MethodName} {len W9 : Nat}
theorem vx_backW {ws : List Cond} {rm : Room} {Pc : Array Value → State → Prop} {Qc : Array Value → State → Outcome → State → Prop} {XC : String → State → State → Prop} {mc ms : Nat} {free : Addr → Prop} {bytes : ByteArray} {maxL : Nat} {ret : Option FieldType} {hh : List (Nat × Nat × Nat × Nat)}
    (hM : vx_Met l y ws rm Pc Qc XC mc ms free) (hblind : FrameBlind Pc) (hrc : rm.cells = mc) (hrs : rm.slots = ms)
    (hframes : rm.frames + 1 ≤ R.frames) (hlocals : W9 + (maxL + 11) + rm.locals ≤ R.locals)
    (hws : ∀ w ∈ ws, ∀ a' U, s.WarmedH U.vm → w.before a' U = true) (hcode : Cond.codeWith y bytes maxL ret hh ∈ ws) (hinit : ∀ a' U, s.WarmedH U.vm → (Cond.initialized y.cls).before a' U = true) :
    vx_Back l R p e below s sargs y len W9 (PreOf R mc ms Pc) (PostOf Qc mc ms free) (vx_Post XC mc ms free) := by
  intro m meth c A g ig mk a X hg hsize hdg hW hn hp
  have h1 : (headSpec ws rm).pre.before a A.U = true := atoms_intro fun w hw => hws w hw _ _ X.warmed
  have h2 : (Cond.codeWith y bytes maxL ret hh).before a A.U = true := hws _ hcode _ _ X.warmed
  have h3 : (Cond.initialized y.cls).before a A.U = true := hinit _ _ X.warmed
  have h4 : A.cells + (headSpec ws rm).room.cells ≤ R.cells := by rw [show (headSpec ws rm).room.cells = mc from hrc]; exact hp.1
  have h5 : A.slots + (headSpec ws rm).room.slots ≤ R.slots := by rw [show (headSpec ws rm).room.slots = ms from hrs]; exact hp.2.1
  have hPc : Pc a (A.U.calling g mk a) := hblind _ _ _ _ hp.2.2
  obtain ⟨U, Ls, c0, s0⟩ := A
  dsimp only [Pt.U, Pt.locs, Pt.cells, Pt.slots] at h1 h2 h3 h4 h5 X hn hPc ⊢
  obtain ⟨m9, methY, cY, hn9, hmY, hcY, -, hlY, -⟩ := Cond.codeWith_spec h2
  cases Option.some.inj (hn9.symm.trans hn)
  obtain ⟨kY, hkY, -⟩ := className_of_methodNamed hn
  have hinitY : kY.init = .initialized := Cond.initialized_spec (findClass_of_methodNamed hn) hkY h3
  have h : At U g.method c below := by rw [hg]; exact X.here
  have hlocals9 : W9 + (maxL + 11) + (headSpec ws rm).room.locals ≤ R.locals := hlocals
  have happ : (headSpec ws rm).appliesLoose y e.platform (U.calling g mk a) = true :=
    Spec.appliesLoose_calling (g := g) h hdg hn hkY hinitY
      (X.room_calling (g := g) (R' := (headSpec ws rm).room) hsize hmY hcY hframes (by rw [hlY]; omega) h4 h5) h1
  obtain ⟨mid, hmid⟩ := h.above
  have hfr : (U.setTop g).frames = (.java g :: mid) ++ below := by rw [State.frames_setTop' g h.top, hmid]; rfl
  obtain ⟨o, s₂, hsteps, -, hend, hq⟩ := Steps.callFree hM p X.admits X.cas X.clock (acts := []) hfr happ hPc trivial
  have hq' : vx_Q Qc XC mc ms free a (U.calling g mk a) o s₂ := hq
  rw [State.frames_setTop' g h.top] at hend
  obtain ⟨g₀, hg0⟩ := Option.isSome_iff_exists.mp h.top
  obtain ⟨r, hr⟩ := State.topJava?_eq_some.mp hg0
  have hr' : (({ U with heap := s₂.heap, slotsUsed := s₂.slotsUsed } : State).setVm s₂.vm).frames = .java g₀ :: r := hr
  rcases hq' with ⟨hqc, L, hfe, hL⟩ | ⟨q, rfl, E, ce, L, hx, hce, hcv, hcl, hW₂, hsm, hL⟩
  · obtain ⟨⟨v, rfl⟩, hW₂, e2, q2, q3, q4, q5, q6⟩ := id hfe
    have e3 : s₂ = ({ (U.calling g mk a).setFrames s₂.frames with heap := s₂.heap, slotsUsed := s₂.slotsUsed } : State).setVm s₂.vm := by
      have : s₂ = ({ s₂ with vm := (U.calling g mk a).vm } : State).setVm s₂.vm := rfl
      rw [e2] at this
      exact this
    obtain ⟨c₂, i₂, len₂, hc₂, hd₂, hf₂⟩ := hend
    have hW' : U.WarmedH s₂.vm := hW₂
    have hcc : c₂ = c := by
      have h1 : s₂.code? g.method = U.code? g.method := by
        rw [State.code?_eq, State.code?_eq, hW'.alike.method?]
      exact Option.some.inj (hc₂.symm.trans (h1.trans h.code))
    subst hcc
    have hlen : len₂ = len := by rw [hdg] at hd₂; cases hd₂; rfl
    subst hlen
    have hs₂ : s₂ = (({ U with heap := s₂.heap, slotsUsed := s₂.slotsUsed } : State).setVm s₂.vm).setTop { g with pc := g.pc + len₂, stack := v.toList ++ g.stack } := by
      refine e3.trans ?_
      rw [hf₂, State.calling_eq h.top, State.setFrames_setFrames, State.setTop_of_frames _ hr', hr]
      rfl
    have hsame : U.sameButNew ({ U with heap := s₂.heap, slotsUsed := s₂.slotsUsed } : State) L mc ms := by
      refine ⟨?_, q2, q3, q4, q5, q6⟩
      obtain ⟨t, ht, -⟩ := State.frames_cons hr
      show ({ U with heap := s₂.heap, slotsUsed := s₂.slotsUsed } : State) = { U.setFrames U.frames with heap := s₂.heap, slotsUsed := s₂.slotsUsed }
      rw [State.setFrames_self ht]
    subst hg
    refine Or.inl ⟨v, ⟨(({ U with heap := s₂.heap, slotsUsed := s₂.slotsUsed } : State).setVm s₂.vm), Ls ++ L, c0 + mc, s0 + ms⟩,
      ⟨X.admits, X.cas, X.clock, X.frames, X.room, X.hears, X.method, X.code, (X.here.setHeapUsed s₂.heap s₂.slotsUsed).setVm hW'.alike, X.tail, State.WarmedH.trans X.warmed hW', X.limits, X.bytes, X.same.trans (hsame.setVm s.vm)⟩,
      ⟨g, mk, s₂, L, rfl, rfl, hqc, rfl, hL, rfl, rfl⟩, ?_⟩
    show Steps p.tables e below _ ((({ U with heap := s₂.heap, slotsUsed := s₂.slotsUsed } : State).setVm s₂.vm).setTop { g with pc := g.pc + len₂, stack := v.toList ++ g.stack })
    rw [← hs₂]
    exact hsteps
  · obtain ⟨e2, q2, q3, q4, q5, q6⟩ := id hsm
    have e3 : s₂ = ({ (U.calling g mk a).setFrames s₂.frames with heap := s₂.heap, slotsUsed := s₂.slotsUsed } : State).setVm s₂.vm := by
      have : s₂ = ({ s₂ with vm := (U.calling g mk a).vm } : State).setVm s₂.vm := rfl
      rw [e2] at this
      exact this
    have hf₂ : s₂.frames = .throwing q :: .java g :: U.frames.tail := hend
    have hW' : U.WarmedH s₂.vm := hW₂
    have hs₂ : s₂ = ((({ U with heap := s₂.heap, slotsUsed := s₂.slotsUsed } : State).setVm s₂.vm).setTop g).pushFrame (.throwing q) := by
      refine e3.trans ?_
      rw [hf₂, State.calling_eq h.top, State.setFrames_setFrames, State.pushFrame, State.frames_setTop _ hr', State.setTop_of_frames _ hr', State.setFrames_setFrames, hr]
      rfl
    have hsame : U.sameButNew ({ U with heap := s₂.heap, slotsUsed := s₂.slotsUsed } : State) L mc ms := by
      refine ⟨?_, q2, q3, q4, q5, q6⟩
      obtain ⟨t, ht, -⟩ := State.frames_cons hr
      show ({ U with heap := s₂.heap, slotsUsed := s₂.slotsUsed } : State) = { U.setFrames U.frames with heap := s₂.heap, slotsUsed := s₂.slotsUsed }
      rw [State.setFrames_self ht]
    subst hg
    refine Or.inr ⟨q, ⟨(({ U with heap := s₂.heap, slotsUsed := s₂.slotsUsed } : State).setVm s₂.vm), Ls ++ L, c0 + mc, s0 + ms⟩,
      ⟨X.admits, X.cas, X.clock, X.frames, X.room, X.hears, X.method, X.code, (X.here.setHeapUsed s₂.heap s₂.slotsUsed).setVm hW'.alike, X.tail, State.WarmedH.trans X.warmed hW', X.limits, X.bytes, X.same.trans (hsame.setVm s.vm)⟩,
      ⟨g, mk, s₂, L, E, ce, rfl, rfl, hx, hce, hcv, hcl, rfl, hL, rfl, rfl⟩, ?_⟩
    show Steps p.tables e below _ (((({ U with heap := s₂.heap, slotsUsed := s₂.slotsUsed } : State).setVm s₂.vm).setTop g).pushFrame (.throwing q))
    rw [← hs₂]
    exact hsteps
end
variable {p : Program} {l : Launch} {e : Env} {R : Room} {s : State} {m : MethodId} {args : Array Value} {below : List Frame} {meth : Method} {c : Code} {T : State} {H : Heap} {locs : List Loc} {cells slots : Nat}
theorem vx_callVX (X : Stand p l e R s m args below meth c T locs cells slots) (hexec : p.tables.exec = Jvm.exec) {own C : String} {index : Nat} {y : MethodName} {bytes : ByteArray} {maxL : Nat} {ret : Option FieldType} {hh : List (Nat × Nat × Nat × Nat)}
    (hown : s.vm.findClass own = some m.cls) (hlink : (Cond.methodLink own index y).before args s = true) (hinst : (Cond.instanceMethod y).before args s = true) (hsel : (Cond.selects C y y).before args s = true)
    (hcode : (Cond.codeWith y bytes maxL ret hh).before args s = true) (hy : y.cls ≠ "java/lang/invoke/MethodHandle" ∧ y.cls ≠ "java/lang/invoke/VarHandle")
    {W9 : Nat} {Pre : Pt → Array Value → Prop} {Post : Pt → Array Value → Option Value → Pt → Prop} {PostX : Pt → Array Value → Addr → Pt → Prop} (hK : vx_Back l R p e below s args y 3 W9 Pre Post PostX)
    {b : Addr} {cellB : Cell} (hcell : T.heap[b]? = some cellB) (hobj : cellB.vm.isStatics = false) (hcls : s.vm.findClass C = some cellB.cls)
    {g : JFrame} (hg : g.method = m) (hsize : g.locals.size = c.maxLocals) {argsL rest : List Value} (hlen : ∀ sig, parseMethodDescriptor y.desc = some sig → argsL.length = sig.parameters.length)
    (hstack : g.stack = argsL.reverse ++ .ref b :: rest) (hW : 2 * g.monitorRoom + (rest.map fun v => v.category).sum ≤ W9) (hdg : decode c.code g.pc = .ok (.invokevirtual index, 3))
    (hpre : ∀ vm₁, s.WarmedH vm₁ → Pre ⟨T.setVm vm₁, locs, cells, slots⟩ (Value.ref b :: argsL).toArray) :
    (∃ (v : Option Value) (vm₁ : Vm) (B : Pt), s.WarmedH vm₁ ∧ Stand p l e R s m args below meth c B.U B.locs B.cells B.slots ∧ Post ⟨T.setVm vm₁, locs, cells, slots⟩ (Value.ref b :: argsL).toArray v B ∧
      ∀ target, Steps p.tables e below (B.U.setTop { g with pc := g.pc + 3, stack := v.toList ++ rest }) target → Steps p.tables e below (T.setTop g) target) ∨
    (∃ (q : Addr) (vm₁ : Vm) (B : Pt), s.WarmedH vm₁ ∧ Stand p l e R s m args below meth c B.U B.locs B.cells B.slots ∧ PostX ⟨T.setVm vm₁, locs, cells, slots⟩ (Value.ref b :: argsL).toArray q B ∧
      Steps p.tables e below (T.setTop g) ((B.U.setTop { g with stack := rest }).pushFrame (.throwing q))) := by
  obtain ⟨mk, methM, hnamed, hmethM, hstM, habM⟩ := Cond.instanceMethod_spec hinst
  obtain ⟨m8, methM', cM, hn8, hmethM', -, -, -, -, -, -, hsigM⟩ := Cond.codeWith_spec hcode
  cases Option.some.inj (hn8.symm.trans hnamed)
  cases hmethM.symm.trans hmethM'
  obtain ⟨c2, r2, m2, q1, q2, q3, q4, kP, hkP, hkPi⟩ := Cond.selects_spec hsel
  cases hcls.symm.trans q1
  cases (State.methodFound?_of_named hnamed hy).symm.trans q2
  cases hnamed.symm.trans q3
  have hselP : selectMethod e.platform s.vm cellB.cls mk = .method mk := by rw [Launch.admits_selectMethod X.admits]; exact q4
  obtain ⟨vm₁, X₁, hstep₁⟩ := X.invokevirtual hexec hown hlink hnamed hmethM hstM hkP hkPi hy (a := b) (cell := cellB) hcell
    (fun z h => by rw [h] at hobj; cases hobj) hselP hmethM habM hkP hkPi (g := g) hg (argsL := argsL) (rest := rest) (hlen _ hsigM) hstack hdg
  rcases hK m meth c ⟨T.setVm vm₁, locs, cells, slots⟩ { g with stack := rest } (.invokevirtual index) mk (Value.ref b :: argsL).toArray X₁ hg hsize hdg hW (X₁.named hnamed) (hpre vm₁ X₁.warmed) with ⟨v, B, X', hpost, hsteps⟩ | ⟨q, B, X', hpost, hsteps⟩
  · exact Or.inl ⟨v, vm₁, B, X₁.warmed, X', hpost, fun target h => hstep₁ _ fun acts => by rw [doInvoke_state]; exact hsteps.trans h⟩
  · exact Or.inr ⟨q, vm₁, B, X₁.warmed, X', hpost, hstep₁ _ fun acts => by rw [doInvoke_state]; exact hsteps⟩
theorem vx_callSX (X : Stand p l e R s m args below meth c T locs cells slots) (hexec : p.tables.exec = Jvm.exec) {own : String} {index : Nat} {y : MethodName} {bytes : ByteArray} {maxL : Nat} {ret : Option FieldType} {hh : List (Nat × Nat × Nat × Nat)}
    (hown : s.vm.findClass own = some m.cls) (hlink : (Cond.methodLink own index y).before args s = true) (hstat : (Cond.static y).before args s = true) (hinit : (Cond.initialized y.cls).before args s = true)
    (hcode : (Cond.codeWith y bytes maxL ret hh).before args s = true) (hy : y.cls ≠ "java/lang/invoke/MethodHandle" ∧ y.cls ≠ "java/lang/invoke/VarHandle")
    {W9 : Nat} {Pre : Pt → Array Value → Prop} {Post : Pt → Array Value → Option Value → Pt → Prop} {PostX : Pt → Array Value → Addr → Pt → Prop} (hK : vx_Back l R p e below s args y 3 W9 Pre Post PostX)
    {g : JFrame} (hg : g.method = m) (hsize : g.locals.size = c.maxLocals) {argsL rest : List Value} (hlen : ∀ sig, parseMethodDescriptor y.desc = some sig → argsL.length = sig.parameters.length)
    (hstack : g.stack = argsL.reverse ++ rest) (hW : 2 * g.monitorRoom + (rest.map fun v => v.category).sum ≤ W9) (hdg : decode c.code g.pc = .ok (.invokestatic index, 3))
    (hpre : ∀ vm₁, s.WarmedH vm₁ → Pre ⟨T.setVm vm₁, locs, cells, slots⟩ argsL.toArray) :
    (∃ (v : Option Value) (vm₁ : Vm) (B : Pt), s.WarmedH vm₁ ∧ Stand p l e R s m args below meth c B.U B.locs B.cells B.slots ∧ Post ⟨T.setVm vm₁, locs, cells, slots⟩ argsL.toArray v B ∧
      ∀ target, Steps p.tables e below (B.U.setTop { g with pc := g.pc + 3, stack := v.toList ++ rest }) target → Steps p.tables e below (T.setTop g) target) ∨
    (∃ (q : Addr) (vm₁ : Vm) (B : Pt), s.WarmedH vm₁ ∧ Stand p l e R s m args below meth c B.U B.locs B.cells B.slots ∧ PostX ⟨T.setVm vm₁, locs, cells, slots⟩ argsL.toArray q B ∧
      Steps p.tables e below (T.setTop g) ((B.U.setTop { g with stack := rest }).pushFrame (.throwing q))) := by
  obtain ⟨mk, methM, cM, hnamed, hmethM, -, -, -, -, -, -, hsigM⟩ := Cond.codeWith_spec hcode
  have hstatic : methM.isStatic = true := Cond.static_spec hnamed hmethM hstat
  obtain ⟨kP, hkP, -⟩ := className_of_methodNamed hnamed
  have hinitP : kP.init = .initialized := Cond.initialized_spec (findClass_of_methodNamed hnamed) hkP hinit
  obtain ⟨vm₁, X₁, hstep₁⟩ := X.invokestatic hexec hown hlink hnamed hmethM hstatic hkP hinitP hy (g := g) hg (argsL := argsL) (rest := rest) (hlen _ hsigM) hstack hdg
  rcases hK m meth c ⟨T.setVm vm₁, locs, cells, slots⟩ { g with stack := rest } (.invokestatic index) mk argsL.toArray X₁ hg hsize hdg hW (X₁.named hnamed) (hpre vm₁ X₁.warmed) with ⟨v, B, X', hpost, hsteps⟩ | ⟨q, B, X', hpost, hsteps⟩
  · exact Or.inl ⟨v, vm₁, B, X₁.warmed, X', hpost, fun target h => hstep₁ _ fun acts => by rw [doInvoke_state]; exact hsteps.trans h⟩
  · exact Or.inr ⟨q, vm₁, B, X₁.warmed, X', hpost, hstep₁ _ fun acts => by rw [doInvoke_state]; exact hsteps⟩
theorem vx_callVW (X : Stand p l e R s m args below meth c T locs cells slots) (hexec : p.tables.exec = Jvm.exec) {own C : String} {index : Nat} {y : MethodName} {bytes : ByteArray} {maxL : Nat} {ret : Option FieldType} {hh : List (Nat × Nat × Nat × Nat)}
    (hown : s.vm.findClass own = some m.cls) (hlink : (Cond.methodLink own index y).before args s = true) (hinst : (Cond.instanceMethod y).before args s = true) (hsel : (Cond.selects C y y).before args s = true)
    (hcode : (Cond.codeWith y bytes maxL ret hh).before args s = true) (hy : y.cls ≠ "java/lang/invoke/MethodHandle" ∧ y.cls ≠ "java/lang/invoke/VarHandle")
    {W9 : Nat} {Pre : Pt → Array Value → Prop} {Post : Pt → Array Value → Option Value → Pt → Prop} (hK : Back l R p e below s args y 3 W9 Pre Post)
    {b : Addr} {cellB : Cell} (hcell : T.heap[b]? = some cellB) (hobj : cellB.vm.isStatics = false) (hcls : s.vm.findClass C = some cellB.cls)
    {g : JFrame} (hg : g.method = m) (hsize : g.locals.size = c.maxLocals) {argsL rest : List Value} (hlen : ∀ sig, parseMethodDescriptor y.desc = some sig → argsL.length = sig.parameters.length)
    (hstack : g.stack = argsL.reverse ++ .ref b :: rest) (hW : 2 * g.monitorRoom + (rest.map fun v => v.category).sum ≤ W9) (hdg : decode c.code g.pc = .ok (.invokevirtual index, 3))
    (hpre : ∀ vm₁, s.WarmedH vm₁ → Pre ⟨T.setVm vm₁, locs, cells, slots⟩ (Value.ref b :: argsL).toArray) :
    ∃ (v : Option Value) (vm₁ : Vm) (B : Pt), s.WarmedH vm₁ ∧ Stand p l e R s m args below meth c B.U B.locs B.cells B.slots ∧ Post ⟨T.setVm vm₁, locs, cells, slots⟩ (Value.ref b :: argsL).toArray v B ∧
      ∀ target, Steps p.tables e below (B.U.setTop { g with pc := g.pc + 3, stack := v.toList ++ rest }) target → Steps p.tables e below (T.setTop g) target := by
  obtain ⟨mk, methM, hnamed, hmethM, hstM, habM⟩ := Cond.instanceMethod_spec hinst
  obtain ⟨m8, methM', cM, hn8, hmethM', -, -, -, -, -, -, hsigM⟩ := Cond.codeWith_spec hcode
  cases Option.some.inj (hn8.symm.trans hnamed)
  cases hmethM.symm.trans hmethM'
  obtain ⟨c2, r2, m2, q1, q2, q3, q4, kP, hkP, hkPi⟩ := Cond.selects_spec hsel
  cases hcls.symm.trans q1
  cases (State.methodFound?_of_named hnamed hy).symm.trans q2
  cases hnamed.symm.trans q3
  have hselP : selectMethod e.platform s.vm cellB.cls mk = .method mk := by rw [Launch.admits_selectMethod X.admits]; exact q4
  obtain ⟨vm₁, X₁, hstep₁⟩ := X.invokevirtual hexec hown hlink hnamed hmethM hstM hkP hkPi hy (a := b) (cell := cellB) hcell
    (fun z h => by rw [h] at hobj; cases hobj) hselP hmethM habM hkP hkPi (g := g) hg (argsL := argsL) (rest := rest) (hlen _ hsigM) hstack hdg
  obtain ⟨v, B, X', hpost, hsteps⟩ := hK m meth c ⟨T.setVm vm₁, locs, cells, slots⟩ { g with stack := rest } (.invokevirtual index) mk (Value.ref b :: argsL).toArray X₁ hg hsize hdg hW (X₁.named hnamed) (hpre vm₁ X₁.warmed)
  exact ⟨v, vm₁, B, X₁.warmed, X', hpost, fun target h => hstep₁ _ fun acts => by rw [doInvoke_state]; exact hsteps.trans h⟩
abbrev vx_CVW (R : Room) (s : State) (args : Array Value) (own C : String) (index : Nat) (y : MethodName) (bytes : ByteArray) (maxL : Nat) (ret : Option FieldType) (hh : List (Nat × Nat × Nat × Nat)) (ws : List Cond) (rm : Room) (mc ms n : Nat) : Prop :=
  (rm.cells = mc ∧ rm.slots = ms ∧ rm.frames + 1 ≤ R.frames ∧ 8 + (maxL + 11) + rm.locals ≤ R.locals ∧ (∀ w ∈ ws, ∀ (a' : Array Value) (U : State), s.WarmedH U.vm → w.before a' U = true) ∧ Cond.codeWith y bytes maxL ret hh ∈ ws) ∧
  (Cond.codeWith y bytes maxL ret hh).before args s = true ∧ (Cond.initialized y.cls).before args s = true ∧ (y.cls ≠ "java/lang/invoke/MethodHandle" ∧ y.cls ≠ "java/lang/invoke/VarHandle") ∧
  (∀ sig, parseMethodDescriptor y.desc = some sig → n = sig.parameters.length) ∧ (Cond.methodLink own index y).before args s = true ∧ (Cond.instanceMethod y).before args s = true ∧ (Cond.selects C y y).before args s = true
theorem vx_cwVW {own C : String} {index maxL mc ms : Nat} {y : MethodName} {bytes : ByteArray} {ret : Option FieldType} {hh : List (Nat × Nat × Nat × Nat)} {Ts ws ws' : List Cond} {rm : Room} (n : Nat) (ht : ∀ w ∈ Ts, w.before args s = true) (hT : GoodIn Ts (wsV own index C y ws)) (hw : ws = Cond.codeWith y bytes maxL ret hh :: ws') (hrc : rm.cells = mc) (hrs : rm.slots = ms)
    (hd : y.cls = C ∧ y.cls ≠ "java/lang/invoke/MethodHandle" ∧ y.cls ≠ "java/lang/invoke/VarHandle" ∧ (parseMethodDescriptor y.desc).map (fun d => d.parameters.length) = some n) (hR : rm.frames + 1 ≤ R.frames ∧ 8 + (maxL + 11) + rm.locals ≤ R.locals) :
    vx_CVW R s args own C index y bytes maxL ret hh ws rm mc ms n := by
  obtain ⟨hC, hd⟩ := hd
  subst hC
  have ok : ∀ w ∈ wsV own index y.cls y ws, w.before args s = true := fun w h => ht w (hT w h).1
  have hG : GoodIn Ts ws := fun w h => hT w (by unfold wsV; exact List.mem_append_right _ h)
  have hc : Cond.codeWith y bytes maxL ret hh ∈ ws := by rw [hw]; exact List.mem_cons_self
  refine ⟨⟨hrc, hrs, hR.1, hR.2, pay_in ht hG, hc⟩, ht _ (hG _ hc).1, ok _ (by simp [wsV]), ⟨hd.1, hd.2.1⟩, fun sig h => ?_, ok _ (by simp [wsV]), ok _ (by simp [wsV]), ok _ (by simp [wsV])⟩
  have h2 := hd.2.2
  rw [h] at h2
  exact (Option.some.inj h2).symm
theorem vx_runVW {y : MethodName} {bytes cc : ByteArray} {maxL nL mc ms n index : Nat} {ret : Option FieldType} {hh : List (Nat × Nat × Nat × Nat)} {ws : List Cond} {rm : Room} {Pc : Array Value → State → Prop} {Qc : Array Value → State → Outcome → State → Prop} {free : Addr → Prop} {Ts : List Cond} {own C : String} {b : Addr} {As rest : List Value} {g : JFrame}
    (S : CallFix p m c cc nL s args Ts own) (hM : Met l y ws rm Pc Qc mc ms free) (cw : vx_CVW R s args own C index y bytes maxL ret hh ws rm mc ms n) (hp : PreV s H C b Pc As)
    (hg : g.method = m) (hn : As.length = n) (hsize : g.locals.size = nL) (hstack : g.stack = As.reverse ++ .ref b :: rest) (hW : 2 * g.monitorRoom + (rest.map fun v => v.category).sum ≤ 8) (hdg : decode cc g.pc = .ok (.invokevirtual index, 3)) (hf : cells + mc ≤ R.cells ∧ slots + ms ≤ R.slots) :
    va_Run p l e R s m args below meth c H locs cells slots mc ms g rest (Qc (Value.ref b :: As).toArray) free := by
  obtain ⟨⟨hrc, hrs, hfr, hlo, hws, hcw⟩, hcode, hini, hy, hlen, hl, hin, hse⟩ := cw
  have hK : Back l R p e below s args y 3 8 (PreOf R mc ms Pc) (PostOf Qc mc ms free) := va_backW (hh := hh) (bytes := bytes) (maxL := maxL) (ret := ret) hM hp.1 hrc hrs hfr hlo hws hcw (fun a' U hW => word_at hW (Or.inl (by first | rfl | simp [Cond.onTables, Cond.keeps, Cond.steady])) hini)
  obtain ⟨hx, hb, hml, ho, -⟩ := S
  obtain ⟨-, ⟨cellB, hcB, hoB, hclB⟩, hPc⟩ := hp
  intro T hT X
  obtain ⟨v, vm₁, ⟨U', l2, c2, s2⟩, hW₁, X', ⟨g', mk, t, L, e1, e2, hq, h1, hL, h2, h3⟩, st⟩ := vx_callVW X hx (C := C) (hh := hh) (bytes := bytes) (maxL := maxL) (ret := ret) ho hl hin hse hcode hy hK (by rw [hT]; exact hcB) hoB hclB hg (hsize.trans hml.symm) (argsL := As) (rest := rest) (fun sig h => hn.trans (hlen sig h)) hstack hW (by rw [hb]; exact hdg)
    (fun vm₁ hW₁ => ⟨hf.1, hf.2, hPc (T.setVm vm₁) hT hW₁⟩)
  dsimp only [Pt.U, Pt.locs, Pt.cells, Pt.slots] at X' e1 e2 h1 h2 h3 st
  subst h1; subst h2; subst h3
  exact ⟨v, (T.setVm vm₁).calling g' mk (Value.ref b :: As).toArray, t, U', L, hT, X', hL, e1, e2, hq, st⟩
section
variable {y : MethodName} {bytes cc : ByteArray} {maxL nL mc ms n index : Nat} {ret : Option FieldType} {ws : List Cond} {rm : Room} {Pc : Array Value → State → Prop} {Qc : Array Value → State → Outcome → State → Prop} {XC : String → State → State → Prop} {free : Addr → Prop} {Ts : List Cond} {own C : String} {b : Addr} {As rest : List Value} {g : JFrame}
theorem vx_runVX {hh : List (Nat × Nat × Nat × Nat)} (S : CallFix p m c cc nL s args Ts own) (hM : vx_Met l y ws rm Pc Qc XC mc ms free) (cw : vx_CVW R s args own C index y bytes maxL ret hh ws rm mc ms n) (hp : PreV s H C b Pc As)
    (hg : g.method = m) (hn : As.length = n) (hsize : g.locals.size = nL) (hstack : g.stack = As.reverse ++ .ref b :: rest) (hW : 2 * g.monitorRoom + (rest.map fun v => v.category).sum ≤ 8) (hdg : decode cc g.pc = .ok (.invokevirtual index, 3)) (hf : cells + mc ≤ R.cells ∧ slots + ms ≤ R.slots) :
    vx_Run p l e R s m args below meth c H locs cells slots mc ms g rest (Qc (Value.ref b :: As).toArray) XC free := by
  obtain ⟨⟨hrc, hrs, hfr, hlo, hws, hcw⟩, hcode, hini, hy, hlen, hl, hin, hse⟩ := cw
  have hK : vx_Back l R p e below s args y 3 8 (PreOf R mc ms Pc) (PostOf Qc mc ms free) (vx_Post XC mc ms free) := vx_backW (hh := hh) (bytes := bytes) (maxL := maxL) (ret := ret) hM hp.1 hrc hrs hfr hlo hws hcw (fun a' U hW => word_at hW (Or.inl (by first | rfl | simp [Cond.onTables, Cond.keeps, Cond.steady])) hini)
  obtain ⟨hx, hb, hml, ho, -⟩ := S
  obtain ⟨-, ⟨cellB, hcB, hoB, hclB⟩, hPc⟩ := hp
  intro T hT X
  rcases vx_callVX X hx (C := C) (hh := hh) (bytes := bytes) (maxL := maxL) (ret := ret) ho hl hin hse hcode hy hK (by rw [hT]; exact hcB) hoB hclB hg (hsize.trans hml.symm) (argsL := As) (rest := rest) (fun sig h => hn.trans (hlen sig h)) hstack hW (by rw [hb]; exact hdg)
    (fun vm₁ hW₁ => ⟨hf.1, hf.2, hPc (T.setVm vm₁) hT hW₁⟩) with ⟨v, vm₁, ⟨U', l2, c2, s2⟩, hW₁, X', ⟨g', mk, t, L, e1, e2, hq, h1, hL, h2, h3⟩, st⟩ | ⟨q, vm₁, ⟨U', l2, c2, s2⟩, hW₁, X', ⟨g', mk, t, L, E, ce, e1, e2, hq, hce, hcv, hcl, h1, hL, h2, h3⟩, st⟩
  · dsimp only [Pt.U, Pt.locs, Pt.cells, Pt.slots] at X' e1 e2 h1 h2 h3 st
    subst h1; subst h2; subst h3
    exact Or.inl ⟨v, (T.setVm vm₁).calling g' mk (Value.ref b :: As).toArray, t, U', L, hT, X', hL, e1, e2, hq, st⟩
  · dsimp only [Pt.U, Pt.locs, Pt.cells, Pt.slots] at X' e1 e2 h1 h2 h3 st hcl
    subst h1; subst h2; subst h3
    exact Or.inr ⟨q, (T.setVm vm₁).calling g' mk (Value.ref b :: As).toArray, t, U', L, E, ce, hT, X', hL, e1, e2, hq, hce, hcv, vx_cls hW₁ hcl, st⟩
theorem vx_runSX {hh : List (Nat × Nat × Nat × Nat)} (S : CallFix p m c cc nL s args Ts own) (hM : vx_Met l y ws rm Pc Qc XC mc ms free) (cw : vx_CSW R s args own index y bytes maxL ret hh ws rm mc ms n) (hp : PreS s H Pc As)
    (hg : g.method = m) (hn : As.length = n) (hsize : g.locals.size = nL) (hstack : g.stack = As.reverse ++ rest) (hW : 2 * g.monitorRoom + (rest.map fun v => v.category).sum ≤ 8) (hdg : decode cc g.pc = .ok (.invokestatic index, 3)) (hf : cells + mc ≤ R.cells ∧ slots + ms ≤ R.slots) :
    vx_Run p l e R s m args below meth c H locs cells slots mc ms g rest (Qc As.toArray) XC free := by
  obtain ⟨⟨hrc, hrs, hfr, hlo, hws, hcw⟩, hcode, hini, hy, hlen, hl, hstt⟩ := cw
  have hK : vx_Back l R p e below s args y 3 8 (PreOf R mc ms Pc) (PostOf Qc mc ms free) (vx_Post XC mc ms free) := vx_backW (hh := hh) (bytes := bytes) (maxL := maxL) (ret := ret) hM hp.1 hrc hrs hfr hlo hws hcw (fun a' U hW => word_at hW (Or.inl (by first | rfl | simp [Cond.onTables, Cond.keeps, Cond.steady])) hini)
  obtain ⟨hx, hb, hml, ho, -⟩ := S
  intro T hT X
  rcases vx_callSX X hx (hh := hh) (bytes := bytes) (maxL := maxL) (ret := ret) ho hl hstt hini hcode hy hK hg (hsize.trans hml.symm) (argsL := As) (rest := rest) (fun sig h => hn.trans (hlen sig h)) hstack hW (by rw [hb]; exact hdg)
    (fun vm₁ hW₁ => ⟨hf.1, hf.2, hp.2 (T.setVm vm₁) hT hW₁⟩) with ⟨v, vm₁, ⟨U', l2, c2, s2⟩, hW₁, X', ⟨g', mk, t, L, e1, e2, hq, h1, hL, h2, h3⟩, st⟩ | ⟨q, vm₁, ⟨U', l2, c2, s2⟩, hW₁, X', ⟨g', mk, t, L, E, ce, e1, e2, hq, hce, hcv, hcl, h1, hL, h2, h3⟩, st⟩
  · dsimp only [Pt.U, Pt.locs, Pt.cells, Pt.slots] at X' e1 e2 h1 h2 h3 st
    subst h1; subst h2; subst h3
    exact Or.inl ⟨v, (T.setVm vm₁).calling g' mk As.toArray, t, U', L, hT, X', hL, e1, e2, hq, st⟩
  · dsimp only [Pt.U, Pt.locs, Pt.cells, Pt.slots] at X' e1 e2 h1 h2 h3 st hcl
    subst h1; subst h2; subst h3
    exact Or.inr ⟨q, (T.setVm vm₁).calling g' mk As.toArray, t, U', L, E, ce, hT, X', hL, e1, e2, hq, hce, hcv, vx_cls hW₁ hcl, st⟩
end
end VXH
theorem vx_ofWH {l : Launch} {y : MethodName} {ws ws' : List Cond} {rm : Room} {Pc : Array Value → State → Prop} {Qc : Array Value → State → Outcome → State → Prop} {XC : String → State → State → Prop} {mc ms : Nat} {free : Addr → Prop} {cc : ByteArray} {maxL : Nat} {ret : Option FieldType} {hh : List (Nat × Nat × Nat × Nat)}
    (hy : plainName y.cls = true) (hw : ws = Cond.codeWith y cc maxL ret hh :: ws')
    (body : ∀ p e s m args below meth c s₁, BodyLoose p l y (headSpec ws rm) cc maxL ret e s m args below meth c s₁ → c.maxLocals = maxL → Pc args s →
      W p l e (headSpec ws rm).room s m args below meth c s.heap [] 0 0 (vx_MQ below Qc XC args s mc ms free) (entryFrame m args maxL)) : vx_Met l y ws rm Pc Qc XC mc ms free := by
  refine MetFree.of_bodyS (code := cc) (maxLocals := maxL) (ret := ret) hy ?_ ?_
  · intro args s m h hn
    obtain ⟨m9, meth, c, hn9, h1, h2, h3, h4, -, h5, h6, -⟩ := Cond.codeWith_spec (atoms_spec (ws := ws) h _ (by rw [hw]; exact List.mem_cons_self))
    cases hn.symm.trans hn9
    exact ⟨meth, c, h1, h2, h3, h4, h5, h6⟩
  · intro p e s m args below meth c s₁ B hml hP _
    have hh0 : s₁.heap = s.heap := by rw [B.state]; rfl
    obtain ⟨t, a1, o, b1, b2, b3⟩ := body p e s m args below meth c s₁ B hml hP s₁ hh0 (Stand.of_body B)
    exact ⟨t, o, a1, b1, b2, b3⟩
/-! ===== END ===== -/
/-! ===== BEGIN what the machine throws by itself, no traces kept ===== -/
section VXM
set_option maxHeartbeats 1000000 in
/-- the machine throws cls with the message text, no traces kept: from its note over the frame g to 'throwing' over the same frame (follows the proofs of Stand.vmThrowsMessage, Shelf/KitTracedVmS.lean, and Stand.throwsMessageColdBareV, StandMessageColdV.lean, without the step out of the frame) -/
theorem vx_vmAt {p : Program} {l : Launch} {e : Env} {R : Room} {s : State} {m₀ : MethodId} {args : Array Value} {below : List Frame} {meth : Method} {c : Code} {W : State} {locs : List Loc} {cells slots : Nat}
    (X : Stand p l e R s m₀ args below meth c W locs cells slots) (hexec : p.tables.exec = Jvm.exec) (htr : e.platform.stackTraces = false) {cls : String} {names : List String} {text : String}
    (hcls : Bundle.fit cls = true) (hnames : ∀ n ∈ names, Bundle.fit n = true) (hsoe : (cls == "java/lang/StackOverflowError") = false) (hoom : (cls == "java/lang/OutOfMemoryError") = false)
    (h : ∀ a ∈ Bundle.messageArmAtoms cls names, a.before args s = true)
    (hlocs : ∀ x ∈ locs, ∀ cell, s.heap[x.base]? = some cell → cell.vm.isStatics = false)
    (htext : (text == notModelled) = false) (hlimit : ¬ (stringBytes (stringToUtf16 text)).size > e.platform.arrayLengthLimit) (hheap : ¬ (stringBytes (stringToUtf16 text)).size * componentBytes .byte > e.platform.maxHeapBytes)
    {g : JFrame} (hg : g.method = m₀) (hsize : g.locals.size = c.maxLocals)
    (hRframes : names.length + 4 < R.frames) (hRlocals : 2 * g.monitorRoom + (g.stack.map fun v => v.category).sum + 10240 ≤ R.locals) (hshort : 13 * names.length + 55 ≤ 10240)
    (hRcells : cells + 3 ≤ R.cells) (hRslots : slots + ((stringBytes (stringToUtf16 text)).size + 4 + 6) ≤ R.slots) (hlocks : meth.locks = false) :
    ∃ (S : State) (q : Addr) (ce : Cell), (∀ target, Steps p.tables e below ((S.setTop g).pushFrame (.throwing q)) target → Steps p.tables e below ((W.setTop g).pushFrame (.throwNew cls (some text) none)) target) ∧
      Stand p l e R s m₀ args below meth c S locs (cells + 3) (slots + ((stringBytes (stringToUtf16 text)).size + 4 + 6)) ∧ S.heap[q]? = some ce ∧ s.vm.findClass cls = some ce.cls ∧ ce.vm = .none := by
  have howns : e.platform.frameOwnsMonitors = true := by rw [X.admits.platform]
  have hfin : e.platform.finalization = false := by rw [X.admits.platform]
  have hpl : e.platform.magicAccessors = ({} : Platform).magicAccessors := by rw [X.admits.platform]
  have a : ∀ x, x ∈ Bundle.messageArmAtoms cls names → x.holds args s none s [] = true := fun x hx => h x hx
  obtain ⟨T, Z0, L, -, Y⟩ := ThrowableC.of_atoms (args := args) howns hfin hpl (fun x hx => h x (by simp [Bundle.messageArmAtoms, hx]))
  obtain ⟨Z, M, LZ, LM, hnZ⟩ := Init0T.ofS_atoms (args := args) hpl L Y (fun x hx => h x (by simp [Bundle.messageArmAtoms, hx]))
  obtain ⟨P1, Ps, hlen, L1, hL, hP1m, hlink1, hlink⟩ := Bundle.chainS (args := args) hpl hnZ names cls hcls hnames (fun x hx => h x (by simp [Bundle.messageArmAtoms, hx]))
  obtain ⟨Zs, LZs, hn4, hfitv, hfitc⟩ := StringT.of_atoms (args := args) (fun x hx => h x (by simp [Bundle.messageArmAtoms, hx]))
  have hfound : s.vm.findClass cls = some P1.m.cls := findClass_of_methodNamed hP1m
  obtain ⟨c1, kX, hc1, hk, hord, -, -, hn6⟩ := Cond.instantiable_spec (a (.instantiable cls 6) (by simp [Bundle.messageArmAtoms]))
  cases Option.some.inj (hc1.symm.trans hfound)
  have hinit := Cond.initialized_spec hfound hk (a (.initialized cls) (by simp [Bundle.messageArmAtoms]))
  have hctor : kX.findMethod "<init>" "(Ljava/lang/String;)V" = some P1.m.idx := findMethod_of_methodNamed hP1m hk
  have hsel0 : selectMethod e.platform s.vm P1.m.cls T.fill0 = .method T.fill0 := by
    obtain ⟨c2, r2, m2, q1, q2, q3, q4, -⟩ := Cond.selects_spec (a (.selects cls Bundle.tFill0 Bundle.tFill0) (by simp [Bundle.messageArmAtoms]))
    cases Option.some.inj (q1.symm.trans hfound)
    cases Option.some.inj (q2.symm.trans (State.methodFound?_of_named Y.fill0 (by decide)))
    cases Option.some.inj (q3.symm.trans Y.fill0)
    rw [Launch.admits_selectMethod X.admits]; exact q4
  have hselF : selectMethod e.platform s.vm P1.m.cls T.fill = .method T.fill := by
    obtain ⟨c2, r2, m2, q1, q2, q3, q4, -⟩ := Cond.selects_spec (a (.selects cls Bundle.tFill Bundle.tFill) (by simp [Bundle.messageArmAtoms]))
    cases Option.some.inj (q1.symm.trans hfound)
    cases Option.some.inj (q2.symm.trans (State.methodFound?_of_named Y.fill (by decide)))
    cases Option.some.inj (q3.symm.trans Y.fill)
    rw [Launch.admits_selectMethod X.admits]; exact q4
  obtain ⟨cellS0, hcS0, hiss⟩ := Y.statics
  obtain ⟨u0, hu0⟩ := Cond.staticRefV Y.unassigned L.unassignedStatic L.statics hcS0 hiss (a (.isRef (.static Bundle.tN "UNASSIGNED_STACK" Bundle.steD)) (by simp [Bundle.messageArmAtoms]))
  obtain ⟨sen, hsen⟩ := Cond.staticRefV Y.sentinel L.sentinelStatic L.statics hcS0 hiss (a (.isRef (.static Bundle.tN "SUPPRESSED_SENTINEL" Bundle.listD)) (by simp [Bundle.messageArmAtoms]))
  obtain ⟨ci198, i198, fB, hk198, hg198, ha198, hsB, -, hnB, htB, hffB⟩ := Cond.ownField (t := .object "java/lang/Object") Y.found L.cls (by decide +kernel) (a (.fieldLink Bundle.tN 198 Bundle.tN "backtrace" "Ljava/lang/Object;") (by simp [Bundle.messageArmAtoms])) (a (.lays Bundle.tN Bundle.tN "backtrace" "Ljava/lang/Object;") (by simp [Bundle.messageArmAtoms])) e.platform hpl
  obtain ⟨cellS, hcS', heS, -, hkeep⟩ := X.same.2.2.2.2.2 T.aS cellS0 hcS0
  have hcellS : W.heap[T.aS]? = some cellS := hcS'
  have hout' : ∀ i, (⟨T.aS, i⟩ : Loc) ∉ locs := fun i hmem => by
    have := hlocs _ hmem cellS0 hcS0
    rw [hiss] at this; cases this
  have hknownS : cellS.vm ≠ .unknown := by
    rw [heS]; intro hu
    rw [show cellS0.vm = .unknown from hu] at hiss
    cases hiss
  have hvU : cellS.slots[T.fUnassigned.slot]? = some u0.v := by rw [hkeep _ (hout' _)]; exact hu0
  have hvSen : cellS.slots[T.fSentinel.slot]? = some sen.v := by rw [hkeep _ (hout' _)]; exact hsen
  obtain ⟨iM, hffM⟩ := Y.msg
  obtain ⟨tyC, dC, hdC, hdnC⟩ := Cond.laysAt hfound hk Y.cause (a (.lays cls Bundle.tN "cause" "Ljava/lang/Throwable;") (by simp [Bundle.messageArmAtoms]))
  obtain ⟨tyS, dS, hdS, hdnS⟩ := Cond.laysAt hfound hk Y.stack (a (.lays cls Bundle.tN "stackTrace" Bundle.steD) (by simp [Bundle.messageArmAtoms]))
  obtain ⟨tyP, dP, hdP, hdnP⟩ := Cond.laysAt hfound hk Y.supp (a (.lays cls Bundle.tN "suppressedExceptions" Bundle.listD) (by simp [Bundle.messageArmAtoms]))
  obtain ⟨tyM, dM, hdM, hdnM⟩ := Cond.laysAt hfound hk hffM (a (.lays cls Bundle.tN "detailMessage" "Ljava/lang/String;") (by simp [Bundle.messageArmAtoms]))
  obtain ⟨tyB, dB, hdB, hdnB⟩ := Cond.laysAt hfound hk hffB (a (.lays cls Bundle.tN "backtrace" "Ljava/lang/Object;") (by simp [Bundle.messageArmAtoms]))
  have bC := Cond.laysApart hdB hdC hdnB hdnC (by rw [hnB, Y.causeName]; decide)
  have bS := Cond.laysApart hdB hdS hdnB hdnS (by rw [hnB, Y.stackName]; decide)
  have bP := Cond.laysApart hdB hdP hdnB hdnP (by rw [hnB, Y.suppName]; decide)
  have hbk : ((preparedCellV T.toThrowableT (freshCell P1.m.cls kX) (W.heap.size + 2) u0 sen).withEntry W.cur).slots[fB.slot]? = some .null := by
    have := fresh_default (c := P1.m.cls) tyB
    rw [htB] at this
    simpa [preparedCellV, Cell.setSlot, Cell.withEntry, Array.getElem?_setIfInBounds, bC, bS, bP, bC.symm, bS.symm, bP.symm, defaultValue] using this
  have tkC := Takes.of_laid (v := .ref (W.heap.size + 2)) hk hord tyC (by rw [Y.causeType]; rfl)
  have tkS := Takes.of_laid (v := u0.v) hk hord tyS (by rw [Y.stackType]; exact fits_refV_array _ u0)
  have tkP := Takes.of_laid (v := sen.v) hk hord tyP (by rw [Y.suppType]; exact fits_refV_object _ sen)
  have tkM := Takes.of_laid (v := .ref (W.heap.size + 1)) hk hord tyM (by rw [Y.msgType]; rfl)
  have hskip : SkipFacts T e.platform s (fun u => u) u0 ((preparedCellV T.toThrowableT (freshCell P1.m.cls kX) (W.heap.size + 2) u0 sen).withEntry W.cur) := ⟨{ ci198 := ci198, i198 := i198, fBack := fB }, ⟨hk198, hg198, ha198, hsB⟩, hbk, fun _ _ => rfl⟩
  have h0 : At W g.method c below := by rw [hg]; exact X.here
  obtain ⟨hbeyond, hfreeW⟩ := X.vmMayThrow hsize (.throwNew cls (some text) none) (fun f hf => by cases hf) rfl hRlocals
  have hfr' : W.frames.length + Ps.length + 4 < (e.platform.stackLimits W.me).1 := by have := X.framesAbove hRframes; omega
  have hwd' : (stackUse (.java g :: W.frames.tail)).2 + 13 * Ps.length + 55 ≤ (e.platform.stackLimits W.me).2 := by have := X.stackAbove hsize (K := 13 * Ps.length + 55) (by omega); omega
  have hslots : W.slotsUsed + (stringBytes (stringToUtf16 text)).size + Zs.kS.instanceTypes.size + kX.instanceTypes.size ≤ e.platform.maxSlots := by
    have := X.slotsAbove hRslots
    rw [hn4, hn6]
    omega
  obtain ⟨vm', hW', st⟩ := Steps.vmThrowsMessageColdByV p (s₀ := s) (S := W) (g := g) h0 hexec T L Z LZ M LM X.warmed (t := W.cur) rfl Zs LZs P1 L1 Ps hL hlink1 hlink hsoe hoom hfound hk hinit hord hctor
    (Launch.admits_hotImplicitExceptions X.admits) hbeyond hfreeW htext hlimit hheap (X.cellsAbove hRcells) hslots (hfitv _) (hfitc _)
    (Nn := fun u => u) heapOnly_id (fun _ _ => rfl) (fun _ => rfl) (fun u x y => setCell_twice _ _ _ _) (fun _ => Nat.le_refl _) (cN := ((preparedCellV T.toThrowableT (freshCell P1.m.cls kX) (W.heap.size + 2) u0 sen).withEntry W.cur))
    hsel0 hcellS hknownS hvU tkS (fun _ hu => hu) (fun _ hu => hu) rfl rfl rfl (by simp [preparedCellV, Cell.setSlot, Cell.withEntry]) hskip (fun _ _ hA hW _ hroom _ hrest => L.nativeOff p htr hA hW hroom hrest) hselF hvSen tkC tkP tkM Y.objLocals rfl hfr' hwd'
  rw [plainBareV_eq T.toThrowableT (W.heap.size + 2) u0 sen (.ref (W.heap.size + 1)) W.cur rfl rfl] at st
  obtain ⟨-, -, w3, w4, -, -, -⟩ := withThrown_facts e.platform W Zs text P1.m.cls kX
  have X3 := ((X.pushed (bytesOf Zs.cB (stringToUtf16 text))).pushed (stringAt Zs.cS Zs.kS Zs.fv Zs.fc (stringToUtf16 text) W.heap.size)).pushed (freshCell P1.m.cls kX)
  rw [← withString_eq] at X3
  have X4 := X3.noted hW'
  have ha : (W.heap.size + 2) < ((withThrown W Zs text P1.m.cls kX).setVm vm').heap.size := by show _ < (withThrown W Zs text P1.m.cls kX).heap.size; rw [w3]; omega
  have hcell : ((withThrown W Zs text P1.m.cls kX).setVm vm').heap[(W.heap.size + 2)]? = some (freshCell P1.m.cls kX) := w4
  have X5 := ((((X4.stored hcell T.fCause.slot (.ref (W.heap.size + 2))).storedAgain ha T.fStack.slot u0.v).storedAgain ha T.fSupp.slot sen.v).storedAgain ha T.fStack.slot u0.v).storedAgain ha T.fMsg.slot (.ref (W.heap.size + 1))
  obtain ⟨g₁, hfrM⟩ := X5.frames_eq
  have hU : ((((withThrown W Zs text P1.m.cls kX).setVm vm').setCell (W.heap.size + 2) (plainBareV T.toThrowableT (freshCell P1.m.cls kX) (W.heap.size + 2) u0 sen (.ref (W.heap.size + 1)))).setTop g).pushFrame (.throwing (W.heap.size + 2)) = (((withThrown W Zs text P1.m.cls kX).setVm vm').setCell (W.heap.size + 2) (plainBareV T.toThrowableT (freshCell P1.m.cls kX) (W.heap.size + 2) u0 sen (.ref (W.heap.size + 1)))).setFrames (.throwing (W.heap.size + 2) :: .java g :: below) := by
    rw [State.pushFrame, State.frames_setTop _ hfrM, State.setTop_of_frames _ hfrM, State.setFrames_setFrames]
  have b1 : (bytesOf Zs.cB (stringToUtf16 text)).slots.size = (stringBytes (stringToUtf16 text)).size := by
    rw [(Cell.writeAll_facts _ _).2.2]; simp [bytes0]
  have b2 : (stringAt Zs.cS Zs.kS Zs.fv Zs.fc (stringToUtf16 text) W.heap.size).slots.size = 4 := by simp [string0, Cell.setSlot, hn4]
  have b3 : (freshCell P1.m.cls kX).slots.size = 6 := by simp [hn6]
  rw [b1, b2, b3] at X5
  have e9 : slots + (stringBytes (stringToUtf16 text)).size + 4 + 6 = slots + ((stringBytes (stringToUtf16 text)).size + 4 + 6) := by omega
  rw [e9] at X5
  simp only [List.append_assoc, List.cons_append, List.nil_append] at X5
  refine ⟨((withThrown W Zs text P1.m.cls kX).setVm vm').setCell (W.heap.size + 2) (plainBareV T.toThrowableT (freshCell P1.m.cls kX) (W.heap.size + 2) u0 sen (.ref (W.heap.size + 1))), W.heap.size + 2, _, fun target ht => st _ (by rw [X.tail, ← hU]; exact ht),
    X5.forget (fun y hy => ?_), heapAt_setCell_self _ ha, hfound, rfl⟩
  simp only [List.mem_cons, List.not_mem_nil, or_false] at hy
  have hge : s.heap.size ≤ W.heap.size := X.same.2.1
  rcases hy with rfl | rfl | rfl | rfl | rfl <;> exact Nat.le_trans hge (Nat.le_add_right _ 2)
set_option maxHeartbeats 1000000 in
/-- the machine throws NullPointerException, no traces kept: from its note over the frame g to 'throwing' over the same frame (follows the proof of Stand.vmThrowsNpe, Shelf42/KT2.lean; throwsNpeColdBareVAt, Shelf42/NT91.lean, called) -/
theorem vx_npeAt {p : Program} {l : Launch} {e : Env} {R : Room} {s : State} {m₀ : MethodId} {args : Array Value} {below : List Frame} {meth : Method} {c : Code} {W : State} {locs : List Loc} {cells slots : Nat}
    (X : Stand p l e R s m₀ args below meth c W locs cells slots) (hexec : p.tables.exec = Jvm.exec) (htr : e.platform.stackTraces = false) {n : Nat}
    (h : ∀ a ∈ Bundle.npeArmAtoms n, a.before args s = true)
    (hlocs : ∀ x ∈ locs, ∀ cell, s.heap[x.base]? = some cell → cell.vm.isStatics = false)
    {g : JFrame} (hg : g.method = m₀) (hsize : g.locals.size = c.maxLocals)
    (hRframes : 7 < R.frames) (hRlocals : 2 * g.monitorRoom + (g.stack.map fun v => v.category).sum + 10240 ≤ R.locals)
    (hRcells : cells + 1 ≤ R.cells) (hRslots : slots + n ≤ R.slots) (hlocks : meth.locks = false) :
    ∃ (S : State) (q : Addr) (ce : Cell), (∀ target, Steps p.tables e below ((S.setTop g).pushFrame (.throwing q)) target → Steps p.tables e below ((W.setTop g).pushFrame (.throwNew "java/lang/NullPointerException" none none)) target) ∧
      Stand p l e R s m₀ args below meth c S locs (cells + 1) (slots + n) ∧ S.heap[q]? = some ce ∧ s.vm.findClass "java/lang/NullPointerException" = some ce.cls ∧ ce.vm = .none := by
  have howns : e.platform.frameOwnsMonitors = true := by rw [X.admits.platform]
  have hfin : e.platform.finalization = false := by rw [X.admits.platform]
  have hpl : e.platform.magicAccessors = ({} : Platform).magicAccessors := by rw [X.admits.platform]
  have hpl2 : e.platform.arrayCloneIsPublic = true := by rw [X.admits.platform]
  have a' : ∀ x, x ∈ Bundle.npeArmAtoms n → x.holds args s none s [] = true := fun x hx => h x hx
  obtain ⟨T, Z, L, LZ, Y⟩ := ThrowableC.of_atoms (args := args) howns hfin hpl (fun x hx => h x (by simp [Bundle.npeArmAtoms, hx]))
  obtain ⟨N, LN, hcN, hnNF, hordN, hffS⟩ := NpeC.of_atoms (args := args) hpl hpl2 L Y (fun x hx => h x (by simp [Bundle.npeArmAtoms, hx]))
  obtain ⟨P1, L1, hP1m, hP1s⟩ := PassC.of_atoms (args := args) (s := s) hpl (X := Bundle.nN) (Y := Bundle.rN) (by decide) (by decide) LibCode.NullPointerException.Init0.at_0 LibCode.NullPointerException.Init0.at_1 LibCode.NullPointerException.Init0.at_4 (fun x hx => h x (by simp [Bundle.npeArmAtoms, hx]))
  obtain ⟨PR, LR, hPRm, hPRs⟩ := PassC.of_atoms (args := args) (s := s) hpl (X := Bundle.rN) (Y := Bundle.eN) (by decide) (by decide) LibCode.RuntimeException.Init0.at_0 LibCode.RuntimeException.Init0.at_1 LibCode.RuntimeException.Init0.at_4 (fun x hx => h x (by simp [Bundle.npeArmAtoms, hx]))
  obtain ⟨PE, LEx, hPEm, hPEs⟩ := PassC.of_atoms (args := args) (s := s) hpl (X := Bundle.eN) (Y := Bundle.tN) (by decide) (by decide) LibCode.Exception.Init0.at_0 LibCode.Exception.Init0.at_1 LibCode.Exception.Init0.at_4 (fun x hx => h x (by simp [Bundle.npeArmAtoms, hx]))
  have hfound : s.vm.findClass Bundle.nN = some P1.m.cls := findClass_of_methodNamed hP1m
  have ecls : N.cN = P1.m.cls := Option.some.inj (hcN.symm.trans hfound)
  have hk : s.vm.classes[P1.m.cls]? = some N.kN := by rw [← ecls]; exact LN.cls
  have hinit := Cond.initialized_spec hfound hk (a' (.initialized Bundle.nN) (by simp [Bundle.npeArmAtoms]))
  have hctor : N.kN.findMethod "<init>" "()V" = some P1.m.idx := findMethod_of_methodNamed hP1m hk
  obtain ⟨c1, k1, hc1, hk1, -, -, -, hn⟩ := Cond.instantiable_spec (a' (.instantiable Bundle.nN n) (by simp [Bundle.npeArmAtoms]))
  cases Option.some.inj (hc1.symm.trans hfound)
  cases Option.some.inj (hk1.symm.trans hk)
  have hfsz : (freshCell P1.m.cls N.kN).slots.size = n := by simp [hn]
  have hlink1 : P1.sup = PR.m := Option.some.inj (hP1s.symm.trans hPRm)
  have hlinkR : PR.sup = PE.m := Option.some.inj (hPRs.symm.trans hPEm)
  have hlinkE : PE.sup = Z.m T.toThrowableT := Option.some.inj (hPEs.symm.trans Y.init0)
  have hLs : ∀ P, P ∈ [PR, PE] → P.Links0 e.platform s := fun P hP => by
    simp only [List.mem_cons, List.not_mem_nil, or_false] at hP
    rcases hP with rfl | rfl
    · exact LR
    · exact LEx
  have hsel0 : selectMethod e.platform s.vm P1.m.cls T.fill0 = .method T.fill0 := by
    obtain ⟨c2, r2, m2, q1, q2, q3, q4, -⟩ := Cond.selects_spec (a' (.selects Bundle.nN Bundle.tFill0 Bundle.tFill0) (by simp [Bundle.npeArmAtoms]))
    cases Option.some.inj (q1.symm.trans hfound)
    cases Option.some.inj (q2.symm.trans (State.methodFound?_of_named Y.fill0 (by decide)))
    cases Option.some.inj (q3.symm.trans Y.fill0)
    rw [Launch.admits_selectMethod X.admits]; exact q4
  have hselF : selectMethod e.platform s.vm P1.m.cls T.fill = .method N.fill := by
    obtain ⟨c2, r2, m2, q1, q2, q3, q4, -⟩ := Cond.selects_spec (a' (.selects Bundle.nN Bundle.tFill Bundle.nFill) (by simp [Bundle.npeArmAtoms]))
    cases Option.some.inj (q1.symm.trans hfound)
    cases Option.some.inj (q2.symm.trans (State.methodFound?_of_named Y.fill (by decide)))
    cases Option.some.inj (q3.symm.trans hnNF)
    rw [Launch.admits_selectMethod X.admits]; exact q4
  obtain ⟨cellS0, hcS0, hiss⟩ := Y.statics
  obtain ⟨u0, hu0⟩ := Cond.staticRefV Y.unassigned L.unassignedStatic L.statics hcS0 hiss (a' (.isRef (.static Bundle.tN "UNASSIGNED_STACK" Bundle.steD)) (by simp [Bundle.npeArmAtoms]))
  obtain ⟨sen, hsen⟩ := Cond.staticRefV Y.sentinel L.sentinelStatic L.statics hcS0 hiss (a' (.isRef (.static Bundle.tN "SUPPRESSED_SENTINEL" Bundle.listD)) (by simp [Bundle.npeArmAtoms]))
  obtain ⟨ci198, i198, fB, hk198, hg198, ha198, hsB, -, hnB, htB, hffB⟩ := Cond.ownField (t := .object "java/lang/Object") Y.found L.cls (by decide +kernel) (a' (.fieldLink Bundle.tN 198 Bundle.tN "backtrace" Bundle.objD) (by simp [Bundle.npeArmAtoms])) (a' (.lays Bundle.tN Bundle.tN "backtrace" Bundle.objD) (by simp [Bundle.npeArmAtoms])) e.platform hpl
  obtain ⟨cellS, hcS', heS, -, hkeep⟩ := X.same.2.2.2.2.2 T.aS cellS0 hcS0
  have hcellS : W.heap[T.aS]? = some cellS := hcS'
  have hout' : ∀ i, (⟨T.aS, i⟩ : Loc) ∉ locs := fun i hmem => by
    have := hlocs _ hmem cellS0 hcS0
    rw [hiss] at this; cases this
  have hknownS : cellS.vm ≠ .unknown := by
    rw [heS]; intro hu
    rw [show cellS0.vm = .unknown from hu] at hiss
    cases hiss
  have hvU : cellS.slots[T.fUnassigned.slot]? = some u0.v := by rw [hkeep _ (hout' _)]; exact hu0
  have hvSen : cellS.slots[T.fSentinel.slot]? = some sen.v := by rw [hkeep _ (hout' _)]; exact hsen
  obtain ⟨tyC, dC, hdC, hdnC⟩ := Cond.laysAt hfound hk Y.cause (a' (.lays Bundle.nN Bundle.tN "cause" "Ljava/lang/Throwable;") (by simp [Bundle.npeArmAtoms]))
  obtain ⟨tyS, dS, hdS, hdnS⟩ := Cond.laysAt hfound hk Y.stack (a' (.lays Bundle.nN Bundle.tN "stackTrace" Bundle.steD) (by simp [Bundle.npeArmAtoms]))
  obtain ⟨tyP, dP, hdP, hdnP⟩ := Cond.laysAt hfound hk Y.supp (a' (.lays Bundle.nN Bundle.tN "suppressedExceptions" Bundle.listD) (by simp [Bundle.npeArmAtoms]))
  obtain ⟨tyX, dX, hdX, hdnX⟩ := Cond.laysAt hfound hk hffS (a' (.lays Bundle.nN Bundle.nN "extendedMessageState" "I") (by simp [Bundle.npeArmAtoms, Bundle.npeAtoms]))
  obtain ⟨hnX, htX⟩ := State.fieldFound?_type hffS (t := .int) (by decide +kernel)
  have xC := Cond.laysApart hdC hdX hdnC hdnX (by rw [hnX, Y.causeName]; decide)
  have xS := Cond.laysApart hdS hdX hdnS hdnX (by rw [hnX, Y.stackName]; decide)
  have xP := Cond.laysApart hdP hdX hdnP hdnX (by rw [hnX, Y.suppName]; decide)
  have hv0 : (freshCell P1.m.cls N.kN).slots[N.fState.slot]? = some (.int 0) := by
    have := fresh_default (c := P1.m.cls) tyX
    rw [htX] at this; exact this
  obtain ⟨tyB, dB, hdB, hdnB⟩ := Cond.laysAt hfound hk hffB (a' (.lays Bundle.nN Bundle.tN "backtrace" Bundle.objD) (by simp [Bundle.npeArmAtoms]))
  have bC := Cond.laysApart hdB hdC hdnB hdnC (by rw [hnB, Y.causeName]; decide)
  have bS := Cond.laysApart hdB hdS hdnB hdnS (by rw [hnB, Y.stackName]; decide)
  have bP := Cond.laysApart hdB hdP hdnB hdnP (by rw [hnB, Y.suppName]; decide)
  have bX := Cond.laysApart hdB hdX hdnB hdnX (by rw [hnB, hnX]; decide)
  have hbk : ((npeCell N.toNpeT (preparedCellV T.toThrowableT (freshCell P1.m.cls N.kN) W.heap.size u0 sen) W.cur).withEntry W.cur).slots[fB.slot]? = some .null := by
    have := fresh_default (c := P1.m.cls) tyB
    rw [htB] at this
    simpa [npeCell, preparedCellV, Cell.setSlot, Cell.withEntry, Array.getElem?_setIfInBounds, bC, bS, bP, bX, bC.symm, bS.symm, bP.symm, bX.symm, defaultValue] using this
  have tkC := Takes.of_laid (v := .ref W.heap.size) hk hordN tyC (by rw [Y.causeType]; rfl)
  have tkS := Takes.of_laid (v := u0.v) hk hordN tyS (by rw [Y.stackType]; exact fits_refV_array _ u0)
  have tkP := Takes.of_laid (v := sen.v) hk hordN tyP (by rw [Y.suppType]; exact fits_refV_object _ sen)
  have tkX := Takes.of_laid (v := .int 1) hk hordN tyX (by rw [htX]; rfl)
  have hskip : SkipFacts T e.platform s (fun u => u) u0 ((npeCell N.toNpeT (preparedCellV T.toThrowableT (freshCell P1.m.cls N.kN) W.heap.size u0 sen) W.cur).withEntry W.cur) := ⟨{ ci198 := ci198, i198 := i198, fBack := fB }, ⟨hk198, hg198, ha198, hsB⟩, hbk, fun _ _ => rfl⟩
  obtain ⟨vm', X3, st, -⟩ := X.throwsNpeColdBareVAt hexec hg hsize T L Z LZ N LN P1 L1 [PR, PE] hLs hlink1 ⟨hlinkR, hlinkE, trivial⟩ hfound hk hinit hordN hctor hsel0 hselF hcellS hknownS hvU hvSen
    hv0 xC xS xP tkC tkS tkP tkX Y.objLocals hskip (fun _ _ hA hW _ hroom _ hrest => L.nativeOff p htr hA hW hroom hrest) (by simpa using hRframes) hRlocals (by simp) hRcells (by rw [hn]; exact hRslots)
  have hlt : W.heap.size < ((W.pushCell (freshCell P1.m.cls N.kN)).setVm vm').heap.size := by
    show W.heap.size < (W.pushCell (freshCell P1.m.cls N.kN)).heap.size
    rw [State.heap_size_pushCell]; omega
  rw [hfsz] at X3
  obtain ⟨g₁, hfrM⟩ := X3.frames_eq
  have hU : ((((W.pushCell (freshCell P1.m.cls N.kN)).setVm vm').setCell W.heap.size (npeBareV T.toThrowableT N.toNpeT (freshCell P1.m.cls N.kN) W.heap.size u0 sen)).setTop g).pushFrame (.throwing W.heap.size) = (((W.pushCell (freshCell P1.m.cls N.kN)).setVm vm').setCell W.heap.size (npeBareV T.toThrowableT N.toNpeT (freshCell P1.m.cls N.kN) W.heap.size u0 sen)).setFrames (.throwing W.heap.size :: .java g :: below) := by
    rw [State.pushFrame, State.frames_setTop _ hfrM, State.setTop_of_frames _ hfrM, State.setFrames_setFrames]
  refine ⟨_, W.heap.size, _, fun target ht => st.trans (by rw [← hU]; exact ht), X3.forget (fun y hy => ?_), heapAt_setCell_self _ hlt, hfound, rfl⟩
  simp only [List.mem_cons, List.not_mem_nil, or_false] at hy
  have hge : s.heap.size ≤ W.heap.size := X.same.2.1
  rcases hy with rfl | rfl | rfl | rfl | rfl <;> exact hge
/-- the words of a machine's NullPointerException, but the four that speak of the heap -/
def vx_atN (n : Nat) : List Cond := (Bundle.npeArmAtoms n).filter vx_no
/-- the words of a machine's throw with a message, but the four that speak of the heap -/
def vx_atM (X : String) (names : List String) : List Cond := (Bundle.messageArmAtoms X names).filter vx_no
section
variable {p : Program} {l : Launch} {e : Env} {R : Room} {s : State} {m : MethodId} {args : Array Value} {below : List Frame} {meth : Method} {c : Code} {H : Heap} {locs : List Loc} {cells slots : Nat}
/-- a frame seen from a rebased start, seen from the first start again -/
theorem vx_back9 {T S : State} {R' : Room} {k n : Nat} (X : Stand p l e R s m args below meth c T locs cells slots) (Y : Stand p l e R' ((T.setVm s.vm).setFrames (.invoking m args :: below)) m args below meth c T [] 0 0) (Z : Stand p l e R' ((T.setVm s.vm).setFrames (.invoking m args :: below)) m args below meth c S [] k n) :
    Stand p l e R s m args below meth c S locs (cells + k) (slots + n) := by
  have hW0 : s.WarmedH ((T.setVm s.vm).setFrames (.invoking m args :: below)).vm := State.WarmedH.refl s
  refine { admits := X.admits, cas := X.cas, clock := X.clock, frames := X.frames, room := X.room, hears := X.hears, method := X.method, code := X.code, here := Z.here, tail := Z.tail, warmed := State.WarmedH.trans hW0 Z.warmed, limits := Z.limits.trans (Y.limits.symm.trans X.limits), bytes := Z.bytes.trans (Y.bytes.symm.trans X.bytes), same := ?_ }
  obtain ⟨e1, e2⟩ := Z.same
  rw [State.setFrames_setFrames] at e1
  have h2 : (T.setVm s.vm).sameButNew (S.setVm s.vm) [] k n := ⟨e1, e2⟩
  have h3 := X.same.trans h2
  rw [List.append_nil] at h3
  exact h3
/-- from the machine's note that E is thrown here with this text -/
def vx_Note (p : Program) (l : Launch) (e : Env) (R : Room) (s : State) (m : MethodId) (args : Array Value) (below : List Frame) (meth : Method) (c : Code) (H : Heap) (locs : List Loc) (cells slots : Nat) (Q : State → Prop) (g : JFrame) (E text : String) : Prop :=
  ∀ T : State, T.heap = H → Stand p l e R s m args below meth c T locs cells slots → ∃ t, Steps p.tables e below ((T.setTop g).pushFrame (.throwNew E (some text) none)) t ∧ Q t
theorem vx_vm {pc : Nat} {ls : Array Slot} {rest : List Value} {Q : State → Prop} (hexec : p.tables.exec = Jvm.exec) (hl : l.stackTraces = false) {cls text : String} {names : List String} {nb : Nat} {A : Nat → Prop}
    (hcls : Bundle.fit cls = true) (hnames : ∀ n ∈ names, Bundle.fit n = true) (hsoe : (cls == "java/lang/StackOverflowError") = false) (hoom : (cls == "java/lang/OutOfMemoryError") = false)
    (hat : ∀ w ∈ vx_atM cls names, w.before args s = true) (hgood : ∀ w ∈ vx_atM cls names, vx_ot w = true)
    (hU : vx_Zq Bundle.tN "UNASSIGNED_STACK" Bundle.steD A s s.heap) (hN : vx_Zq Bundle.tN "SUPPRESSED_SENTINEL" Bundle.listD A s s.heap) (hS : va_S A s.heap H locs) (hsize : ls.size = c.maxLocals)
    (htext : (text == notModelled) = false) (hnb : (stringBytes (stringToUtf16 text)).size ≤ nb) (hnb1 : nb ≤ 1000)
    (hRframes : names.length + 4 < R.frames) (hRlocals : (rest.map fun v => v.category).sum + 10240 ≤ R.locals) (hshort : 13 * names.length + 55 ≤ 10240) (hRcells : cells + 3 ≤ R.cells) (hRslots : slots + (nb + 10) ≤ R.slots) (hlocks : meth.locks = false)
    (k : ∀ (H1 : Heap) (q9 : Addr) (ce : Cell), H.size ≤ H1.size → (∀ q : Nat, q < H.size → H1[q]? = H[q]?) → va_S A s.heap H1 locs → H1[q9]? = some ce → ce.vm = .none → s.vm.findClass cls = some ce.cls → vx_W p l e R s m args below meth c H1 locs (cells + 3) (slots + (nb + 10)) Q (F0 m pc ls rest) q9) :
    vx_Note p l e R s m args below meth c H locs cells slots Q (F0 m pc ls rest) cls text := by
  intro T hT X
  have htr : e.platform.stackTraces = false := (show e.platform.stackTraces = l.stackTraces by rw [X.admits.platform]).trans hl
  have Y := vx_rebase X (R' := { frames := R.frames, locals := R.locals, cells := 3, slots := nb + 10 }) (Nat.le_refl _) (Nat.le_refl _) hRcells hRslots
  have hhp : ((T.setVm s.vm).setFrames (.invoking m args :: below)).heap = H := hT
  have hW0 : s.WarmedH ((T.setVm s.vm).setFrames (.invoking m args :: below)).vm := State.WarmedH.refl s
  have hat' : ∀ w ∈ vx_atM cls names, w.before args ((T.setVm s.vm).setFrames (.invoking m args :: below)) = true := fun w hw => vx_ot_at hW0 rfl (hgood w hw) (hat w hw)
  have hU' : vx_Zq Bundle.tN "UNASSIGNED_STACK" Bundle.steD A ((T.setVm s.vm).setFrames (.invoking m args :: below)) ((T.setVm s.vm).setFrames (.invoking m args :: below)).heap := by rw [hhp]; exact vx_Zq.moved hW0.alike (hU.kept hS.2.1)
  have hN' : vx_Zq Bundle.tN "SUPPRESSED_SENTINEL" Bundle.listD A ((T.setVm s.vm).setFrames (.invoking m args :: below)) ((T.setVm s.vm).setFrames (.invoking m args :: below)).heap := by rw [hhp]; exact vx_Zq.moved hW0.alike (hN.kept hS.2.1)
  obtain ⟨S, q, ce, st, Z, hce, hcl', hv⟩ := vx_vmAt Y hexec htr (cls := cls) (names := names) (text := text) hcls hnames hsoe hoom (vx_own hat' (vx_isRefq hU'.1) (vx_isRefq hN'.1) hU'.2.word hN'.2.word) (fun x hx => nomatch hx) htext
    (by rw [Launch.admits_arrayLengthLimit X.admits]; omega) (by rw [Launch.admits_maxHeapBytes X.admits]; simp only [componentBytes]; omega)
    (g := F0 m pc ls rest) rfl hsize hRframes (by show 2 * 0 + (rest.map fun v => v.category).sum + 10240 ≤ R.locals; omega) hshort (by show 0 + 3 ≤ 3; omega) (by show 0 + (_ + 4 + 6) ≤ nb + 10; omega) hlocks
  obtain ⟨f1, f2⟩ := vx_frame Z.same
  have f1' : H.size ≤ S.heap.size := by rw [← hT]; exact f1
  have f2' : ∀ q : Nat, q < H.size → S.heap[q]? = H[q]? := fun q hq => by
    rw [← hT]
    exact f2 q (by rw [← hT] at hq; exact hq) (fun z hz => nomatch hz)
  have X5 := vx_back9 X Y Z
  have X6 : Stand p l e R s m args below meth c S locs (cells + 3) (slots + (nb + 10)) := { X5 with same := X5.same.mono (by omega) (by omega) }
  obtain ⟨t, a1, b1⟩ := k S.heap q ce f1' f2' ⟨Nat.le_trans hS.1 f1', fun q h1 h2 => (f2' q (Nat.lt_of_lt_of_le h1 hS.1)).trans (hS.2.1 q h1 h2), hS.2.2⟩ hce hv hcl' S rfl X6
  exact ⟨t, st t a1, b1⟩
/-- from the machine's note that NullPointerException is thrown here -/
def vx_NoteN (p : Program) (l : Launch) (e : Env) (R : Room) (s : State) (m : MethodId) (args : Array Value) (below : List Frame) (meth : Method) (c : Code) (H : Heap) (locs : List Loc) (cells slots : Nat) (Q : State → Prop) (g : JFrame) : Prop :=
  ∀ T : State, T.heap = H → Stand p l e R s m args below meth c T locs cells slots → ∃ t, Steps p.tables e below ((T.setTop g).pushFrame (.throwNew "java/lang/NullPointerException" none none)) t ∧ Q t
theorem vx_npe {pc : Nat} {ls : Array Slot} {rest : List Value} {Q : State → Prop} (hexec : p.tables.exec = Jvm.exec) (hl : l.stackTraces = false) {nb : Nat} {A : Nat → Prop}
    (hat : ∀ w ∈ vx_atN nb, w.before args s = true) (hgood : ∀ w ∈ vx_atN nb, vx_ot w = true)
    (hU : vx_Zq Bundle.tN "UNASSIGNED_STACK" Bundle.steD A s s.heap) (hN : vx_Zq Bundle.tN "SUPPRESSED_SENTINEL" Bundle.listD A s s.heap) (hS : va_S A s.heap H locs) (hsize : ls.size = c.maxLocals)
    (hRframes : 7 < R.frames) (hRlocals : (rest.map fun v => v.category).sum + 10240 ≤ R.locals) (hRcells : cells + 1 ≤ R.cells) (hRslots : slots + nb ≤ R.slots) (hlocks : meth.locks = false)
    (k : ∀ (H1 : Heap) (q9 : Addr) (ce : Cell), H.size ≤ H1.size → (∀ q : Nat, q < H.size → H1[q]? = H[q]?) → va_S A s.heap H1 locs → H1[q9]? = some ce → ce.vm = .none → s.vm.findClass "java/lang/NullPointerException" = some ce.cls → vx_W p l e R s m args below meth c H1 locs (cells + 1) (slots + nb) Q (F0 m pc ls rest) q9) :
    vx_NoteN p l e R s m args below meth c H locs cells slots Q (F0 m pc ls rest) := by
  intro T hT X
  have htr : e.platform.stackTraces = false := (show e.platform.stackTraces = l.stackTraces by rw [X.admits.platform]).trans hl
  have Y := vx_rebase X (R' := { frames := R.frames, locals := R.locals, cells := 1, slots := nb }) (Nat.le_refl _) (Nat.le_refl _) hRcells hRslots
  have hhp : ((T.setVm s.vm).setFrames (.invoking m args :: below)).heap = H := hT
  have hW0 : s.WarmedH ((T.setVm s.vm).setFrames (.invoking m args :: below)).vm := State.WarmedH.refl s
  have hat' : ∀ w ∈ vx_atN nb, w.before args ((T.setVm s.vm).setFrames (.invoking m args :: below)) = true := fun w hw => vx_ot_at hW0 rfl (hgood w hw) (hat w hw)
  have hU' : vx_Zq Bundle.tN "UNASSIGNED_STACK" Bundle.steD A ((T.setVm s.vm).setFrames (.invoking m args :: below)) ((T.setVm s.vm).setFrames (.invoking m args :: below)).heap := by rw [hhp]; exact vx_Zq.moved hW0.alike (hU.kept hS.2.1)
  have hN' : vx_Zq Bundle.tN "SUPPRESSED_SENTINEL" Bundle.listD A ((T.setVm s.vm).setFrames (.invoking m args :: below)) ((T.setVm s.vm).setFrames (.invoking m args :: below)).heap := by rw [hhp]; exact vx_Zq.moved hW0.alike (hN.kept hS.2.1)
  obtain ⟨S, q, ce, st, Z, hce, hcl', hv⟩ := vx_npeAt Y hexec htr (n := nb) (vx_own hat' (vx_isRefq hU'.1) (vx_isRefq hN'.1) hU'.2.word hN'.2.word) (fun x hx => nomatch hx)
    (g := F0 m pc ls rest) rfl hsize hRframes (by show 2 * 0 + (rest.map fun v => v.category).sum + 10240 ≤ R.locals; omega) (by show 0 + 1 ≤ 1; omega) (by show 0 + nb ≤ nb; omega) hlocks
  obtain ⟨f1, f2⟩ := vx_frame Z.same
  have f1' : H.size ≤ S.heap.size := by rw [← hT]; exact f1
  have f2' : ∀ q : Nat, q < H.size → S.heap[q]? = H[q]? := fun q hq => by
    rw [← hT]
    exact f2 q (by rw [← hT] at hq; exact hq) (fun z hz => nomatch hz)
  have X5 := vx_back9 X Y Z
  have X6 : Stand p l e R s m args below meth c S locs (cells + 1) (slots + nb) := { X5 with same := X5.same.mono (by omega) (by omega) }
  obtain ⟨t, a1, b1⟩ := k S.heap q ce f1' f2' ⟨Nat.le_trans hS.1 f1', fun q h1 h2 => (f2' q (Nat.lt_of_lt_of_le h1 hS.1)).trans (hS.2.1 q h1 h2), hS.2.2⟩ hce hv hcl' S rfl X6
  exact ⟨t, st t a1, b1⟩
variable {Q : State → Prop} {cc : ByteArray} {pc : Nat} {ls : Array Slot} {rest : List Value}
theorem vx_idivZ (hexec : p.tables.exec = Jvm.exec) (hb : c.code = cc) {a b : Int32} (h0 : b = 0) (d : decode cc pc = .ok (.idiv, 1)) (k : vx_Note p l e R s m args below meth c H locs cells slots Q (F0 m pc ls rest) "java/lang/ArithmeticException" "/ by zero") :
    W p l e R s m args below meth c H locs cells slots Q (F0 m pc ls (.int b :: .int a :: rest)) := by
  intro T hT X
  obtain ⟨t, st, q⟩ := k T hT X
  exact ⟨t, X.idivZero hexec (g := F0 m pc ls (.int b :: .int a :: rest)) rfl (a := a) (rest := rest) (by rw [h0]) (by rw [hb]; exact d) t st, q⟩
theorem vx_iremZ (hexec : p.tables.exec = Jvm.exec) (hb : c.code = cc) {a b : Int32} (h0 : b = 0) (d : decode cc pc = .ok (.irem, 1)) (k : vx_Note p l e R s m args below meth c H locs cells slots Q (F0 m pc ls rest) "java/lang/ArithmeticException" "/ by zero") :
    W p l e R s m args below meth c H locs cells slots Q (F0 m pc ls (.int b :: .int a :: rest)) := by
  intro T hT X
  obtain ⟨t, st, q⟩ := k T hT X
  exact ⟨t, X.iremZero hexec (g := F0 m pc ls (.int b :: .int a :: rest)) rfl (a := a) (rest := rest) (by rw [h0]) (by rw [hb]; exact d) t st, q⟩
theorem vx_ldivZ (hexec : p.tables.exec = Jvm.exec) (hb : c.code = cc) {a b : Int64} (h0 : b = 0) (d : decode cc pc = .ok (.ldiv, 1)) (k : vx_Note p l e R s m args below meth c H locs cells slots Q (F0 m pc ls rest) "java/lang/ArithmeticException" "/ by zero") :
    W p l e R s m args below meth c H locs cells slots Q (F0 m pc ls (.long b :: .long a :: rest)) := by
  intro T hT X
  obtain ⟨t, st, q⟩ := k T hT X
  exact ⟨t, X.ldivZero hexec (g := F0 m pc ls (.long b :: .long a :: rest)) rfl (a := a) (rest := rest) (by rw [h0]) (by rw [hb]; exact d) t st, q⟩
theorem vx_lremZ (hexec : p.tables.exec = Jvm.exec) (hb : c.code = cc) {a b : Int64} (h0 : b = 0) (d : decode cc pc = .ok (.lrem, 1)) (k : vx_Note p l e R s m args below meth c H locs cells slots Q (F0 m pc ls rest) "java/lang/ArithmeticException" "/ by zero") :
    W p l e R s m args below meth c H locs cells slots Q (F0 m pc ls (.long b :: .long a :: rest)) := by
  intro T hT X
  obtain ⟨t, st, q⟩ := k T hT X
  exact ⟨t, X.lremZero hexec (g := F0 m pc ls (.long b :: .long a :: rest)) rfl (a := a) (rest := rest) (by rw [h0]) (by rw [hb]; exact d) t st, q⟩
theorem vx_ialdZ {D : va_G} {cl : List vw_C} {ws : va_W} {tys : List (ClassId × FieldType)} {a : Nat} (hexec : p.tables.exec = Jvm.exec) (hb : c.code = cc) (hK : va_K D cl tys s) (hP : va_P D cl ws H) (q0 t0 : Nat) {cA : ClassId} {n : Nat} {f : Nat → Int32} (ha : ws[q0]? = some (a, .inl (cA, n, .inl f))) (ht : tys[t0]? = some (cA, .int)) {i : Int32} (hout : ¬ vp_in i n) (hdg : decode cc pc = .ok (.iaload, 1))
    (k : ∀ tx : String, tx = (toString "Index " ++ toString i ++ toString " out of bounds for length " ++ toString n : String) → vx_Note p l e R s m args below meth c H locs cells slots Q (F0 m pc ls rest) "java/lang/ArrayIndexOutOfBoundsException" tx) : W p l e R s m args below meth c H locs cells slots Q (F0 m pc ls (.int i :: .ref a :: rest)) := by
  intro T hT X
  obtain ⟨t, st, q⟩ := k _ rfl T hT X
  refine ⟨t, ?_, q⟩
  have h1 := X.ialoadOut hexec (by rw [hT]; exact hP q0 _ ha) ((hK.2 t0 _ ht).1 n (fun j => .int (f j))) (j := i) (by show (i < 0 ∨ (arrV _ _ _).slots.size ≤ _); rw [arrV_size]; exact Classical.byContradiction hout) (g := F0 m pc ls (.int i :: .ref a :: rest)) rfl (rest := rest) rfl (by rw [hb]; exact hdg) t
  simp only [arrV_size] at h1
  exact h1 st
theorem vx_iastZ {D : va_G} {cl : List vw_C} {ws : va_W} {tys : List (ClassId × FieldType)} {a : Nat} (hexec : p.tables.exec = Jvm.exec) (hb : c.code = cc) (hK : va_K D cl tys s) (hP : va_P D cl ws H) (q0 t0 : Nat) {cA : ClassId} {n : Nat} {f : Nat → Int32} (ha : ws[q0]? = some (a, .inl (cA, n, .inl f))) (ht : tys[t0]? = some (cA, .int)) {i : Int32} {x : Int32} (hout : ¬ vp_in i n) (hdg : decode cc pc = .ok (.iastore, 1))
    (k : ∀ tx : String, tx = (toString "Index " ++ toString i ++ toString " out of bounds for length " ++ toString n : String) → vx_Note p l e R s m args below meth c H locs cells slots Q (F0 m pc ls rest) "java/lang/ArrayIndexOutOfBoundsException" tx) : W p l e R s m args below meth c H locs cells slots Q (F0 m pc ls (.int x :: .int i :: .ref a :: rest)) := by
  intro T hT X
  obtain ⟨t, st, q⟩ := k _ rfl T hT X
  refine ⟨t, ?_, q⟩
  have h1 := X.iastoreOut hexec (by rw [hT]; exact hP q0 _ ha) ((hK.2 t0 _ ht).1 n (fun j => .int (f j))) (j := i) (by show (i < 0 ∨ (arrV _ _ _).slots.size ≤ _); rw [arrV_size]; exact Classical.byContradiction hout) (g := F0 m pc ls (.int x :: .int i :: .ref a :: rest)) rfl (rest := rest) rfl (by rw [hb]; exact hdg) t
  simp only [arrV_size] at h1
  exact h1 st
theorem vx_baldZ {D : va_G} {cl : List vw_C} {ws : va_W} {tys : List (ClassId × FieldType)} {a : Nat} (hexec : p.tables.exec = Jvm.exec) (hb : c.code = cc) (hK : va_K D cl tys s) (hP : va_P D cl ws H) (q0 t0 : Nat) {cA : ClassId} {n : Nat} {f : Nat → Int32} (ha : ws[q0]? = some (a, .inl (cA, n, .inl f))) (ht : tys[t0]? = some (cA, .byte)) {i : Int32} (hout : ¬ vp_in i n) (hdg : decode cc pc = .ok (.baload, 1))
    (k : ∀ tx : String, tx = (toString "Index " ++ toString i ++ toString " out of bounds for length " ++ toString n : String) → vx_Note p l e R s m args below meth c H locs cells slots Q (F0 m pc ls rest) "java/lang/ArrayIndexOutOfBoundsException" tx) : W p l e R s m args below meth c H locs cells slots Q (F0 m pc ls (.int i :: .ref a :: rest)) := by
  intro T hT X
  obtain ⟨t, st, q⟩ := k _ rfl T hT X
  refine ⟨t, ?_, q⟩
  have h1 := X.baloadOut hexec (by rw [hT]; exact hP q0 _ ha) ((hK.2 t0 _ ht).1 n (fun j => .int (f j))) (j := i) (by show (i < 0 ∨ (arrV _ _ _).slots.size ≤ _); rw [arrV_size]; exact Classical.byContradiction hout) (g := F0 m pc ls (.int i :: .ref a :: rest)) rfl (rest := rest) rfl (by rw [hb]; exact hdg) t
  simp only [arrV_size] at h1
  exact h1 st
theorem vx_bastZ {D : va_G} {cl : List vw_C} {ws : va_W} {tys : List (ClassId × FieldType)} {a : Nat} (hexec : p.tables.exec = Jvm.exec) (hb : c.code = cc) (hK : va_K D cl tys s) (hP : va_P D cl ws H) (q0 t0 : Nat) {cA : ClassId} {n : Nat} {f : Nat → Int32} (ha : ws[q0]? = some (a, .inl (cA, n, .inl f))) (ht : tys[t0]? = some (cA, .byte)) {i : Int32} {x : Int32} (hout : ¬ vp_in i n) (hdg : decode cc pc = .ok (.bastore, 1))
    (k : ∀ tx : String, tx = (toString "Index " ++ toString i ++ toString " out of bounds for length " ++ toString n : String) → vx_Note p l e R s m args below meth c H locs cells slots Q (F0 m pc ls rest) "java/lang/ArrayIndexOutOfBoundsException" tx) : W p l e R s m args below meth c H locs cells slots Q (F0 m pc ls (.int x :: .int i :: .ref a :: rest)) := by
  intro T hT X
  obtain ⟨t, st, q⟩ := k _ rfl T hT X
  refine ⟨t, ?_, q⟩
  have h1 := X.bastoreOut hexec (by rw [hT]; exact hP q0 _ ha) ((hK.2 t0 _ ht).1 n (fun j => .int (f j))) (j := i) (by show (i < 0 ∨ (arrV _ _ _).slots.size ≤ _); rw [arrV_size]; exact Classical.byContradiction hout) (g := F0 m pc ls (.int x :: .int i :: .ref a :: rest)) rfl (rest := rest) rfl (by rw [hb]; exact hdg) t
  simp only [arrV_size] at h1
  exact h1 st
theorem vx_zaldZ {D : va_G} {cl : List vw_C} {ws : va_W} {tys : List (ClassId × FieldType)} {a : Nat} (hexec : p.tables.exec = Jvm.exec) (hb : c.code = cc) (hK : va_K D cl tys s) (hP : va_P D cl ws H) (q0 t0 : Nat) {cA : ClassId} {n : Nat} {f : Nat → Int32} (ha : ws[q0]? = some (a, .inl (cA, n, .inl f))) (ht : tys[t0]? = some (cA, .boolean)) {i : Int32} (hout : ¬ vp_in i n) (hdg : decode cc pc = .ok (.baload, 1))
    (k : ∀ tx : String, tx = (toString "Index " ++ toString i ++ toString " out of bounds for length " ++ toString n : String) → vx_Note p l e R s m args below meth c H locs cells slots Q (F0 m pc ls rest) "java/lang/ArrayIndexOutOfBoundsException" tx) : W p l e R s m args below meth c H locs cells slots Q (F0 m pc ls (.int i :: .ref a :: rest)) := by
  intro T hT X
  obtain ⟨t, st, q⟩ := k _ rfl T hT X
  refine ⟨t, ?_, q⟩
  have h1 := X.baloadOut hexec (by rw [hT]; exact hP q0 _ ha) ((hK.2 t0 _ ht).1 n (fun j => .int (f j))) (j := i) (by show (i < 0 ∨ (arrV _ _ _).slots.size ≤ _); rw [arrV_size]; exact Classical.byContradiction hout) (g := F0 m pc ls (.int i :: .ref a :: rest)) rfl (rest := rest) rfl (by rw [hb]; exact hdg) t
  simp only [arrV_size] at h1
  exact h1 st
theorem vx_zastZ {D : va_G} {cl : List vw_C} {ws : va_W} {tys : List (ClassId × FieldType)} {a : Nat} (hexec : p.tables.exec = Jvm.exec) (hb : c.code = cc) (hK : va_K D cl tys s) (hP : va_P D cl ws H) (q0 t0 : Nat) {cA : ClassId} {n : Nat} {f : Nat → Int32} (ha : ws[q0]? = some (a, .inl (cA, n, .inl f))) (ht : tys[t0]? = some (cA, .boolean)) {i : Int32} {x : Int32} (hout : ¬ vp_in i n) (hdg : decode cc pc = .ok (.bastore, 1))
    (k : ∀ tx : String, tx = (toString "Index " ++ toString i ++ toString " out of bounds for length " ++ toString n : String) → vx_Note p l e R s m args below meth c H locs cells slots Q (F0 m pc ls rest) "java/lang/ArrayIndexOutOfBoundsException" tx) : W p l e R s m args below meth c H locs cells slots Q (F0 m pc ls (.int x :: .int i :: .ref a :: rest)) := by
  intro T hT X
  obtain ⟨t, st, q⟩ := k _ rfl T hT X
  refine ⟨t, ?_, q⟩
  have h1 := X.bastoreOut hexec (by rw [hT]; exact hP q0 _ ha) ((hK.2 t0 _ ht).1 n (fun j => .int (f j))) (j := i) (by show (i < 0 ∨ (arrV _ _ _).slots.size ≤ _); rw [arrV_size]; exact Classical.byContradiction hout) (g := F0 m pc ls (.int x :: .int i :: .ref a :: rest)) rfl (rest := rest) rfl (by rw [hb]; exact hdg) t
  simp only [arrV_size] at h1
  exact h1 st
theorem vx_caldZ {D : va_G} {cl : List vw_C} {ws : va_W} {tys : List (ClassId × FieldType)} {a : Nat} (hexec : p.tables.exec = Jvm.exec) (hb : c.code = cc) (hK : va_K D cl tys s) (hP : va_P D cl ws H) (q0 t0 : Nat) {cA : ClassId} {n : Nat} {f : Nat → Int32} (ha : ws[q0]? = some (a, .inl (cA, n, .inl f))) (ht : tys[t0]? = some (cA, .char)) {i : Int32} (hout : ¬ vp_in i n) (hdg : decode cc pc = .ok (.caload, 1))
    (k : ∀ tx : String, tx = (toString "Index " ++ toString i ++ toString " out of bounds for length " ++ toString n : String) → vx_Note p l e R s m args below meth c H locs cells slots Q (F0 m pc ls rest) "java/lang/ArrayIndexOutOfBoundsException" tx) : W p l e R s m args below meth c H locs cells slots Q (F0 m pc ls (.int i :: .ref a :: rest)) := by
  intro T hT X
  obtain ⟨t, st, q⟩ := k _ rfl T hT X
  refine ⟨t, ?_, q⟩
  have h1 := X.caloadOut hexec (by rw [hT]; exact hP q0 _ ha) ((hK.2 t0 _ ht).1 n (fun j => .int (f j))) (j := i) (by show (i < 0 ∨ (arrV _ _ _).slots.size ≤ _); rw [arrV_size]; exact Classical.byContradiction hout) (g := F0 m pc ls (.int i :: .ref a :: rest)) rfl (rest := rest) rfl (by rw [hb]; exact hdg) t
  simp only [arrV_size] at h1
  exact h1 st
theorem vx_castZ {D : va_G} {cl : List vw_C} {ws : va_W} {tys : List (ClassId × FieldType)} {a : Nat} (hexec : p.tables.exec = Jvm.exec) (hb : c.code = cc) (hK : va_K D cl tys s) (hP : va_P D cl ws H) (q0 t0 : Nat) {cA : ClassId} {n : Nat} {f : Nat → Int32} (ha : ws[q0]? = some (a, .inl (cA, n, .inl f))) (ht : tys[t0]? = some (cA, .char)) {i : Int32} {x : Int32} (hout : ¬ vp_in i n) (hdg : decode cc pc = .ok (.castore, 1))
    (k : ∀ tx : String, tx = (toString "Index " ++ toString i ++ toString " out of bounds for length " ++ toString n : String) → vx_Note p l e R s m args below meth c H locs cells slots Q (F0 m pc ls rest) "java/lang/ArrayIndexOutOfBoundsException" tx) : W p l e R s m args below meth c H locs cells slots Q (F0 m pc ls (.int x :: .int i :: .ref a :: rest)) := by
  intro T hT X
  obtain ⟨t, st, q⟩ := k _ rfl T hT X
  refine ⟨t, ?_, q⟩
  have h1 := X.castoreOut hexec (by rw [hT]; exact hP q0 _ ha) ((hK.2 t0 _ ht).1 n (fun j => .int (f j))) (j := i) (by show (i < 0 ∨ (arrV _ _ _).slots.size ≤ _); rw [arrV_size]; exact Classical.byContradiction hout) (g := F0 m pc ls (.int x :: .int i :: .ref a :: rest)) rfl (rest := rest) rfl (by rw [hb]; exact hdg) t
  simp only [arrV_size] at h1
  exact h1 st
theorem vx_saldZ {D : va_G} {cl : List vw_C} {ws : va_W} {tys : List (ClassId × FieldType)} {a : Nat} (hexec : p.tables.exec = Jvm.exec) (hb : c.code = cc) (hK : va_K D cl tys s) (hP : va_P D cl ws H) (q0 t0 : Nat) {cA : ClassId} {n : Nat} {f : Nat → Int32} (ha : ws[q0]? = some (a, .inl (cA, n, .inl f))) (ht : tys[t0]? = some (cA, .short)) {i : Int32} (hout : ¬ vp_in i n) (hdg : decode cc pc = .ok (.saload, 1))
    (k : ∀ tx : String, tx = (toString "Index " ++ toString i ++ toString " out of bounds for length " ++ toString n : String) → vx_Note p l e R s m args below meth c H locs cells slots Q (F0 m pc ls rest) "java/lang/ArrayIndexOutOfBoundsException" tx) : W p l e R s m args below meth c H locs cells slots Q (F0 m pc ls (.int i :: .ref a :: rest)) := by
  intro T hT X
  obtain ⟨t, st, q⟩ := k _ rfl T hT X
  refine ⟨t, ?_, q⟩
  have h1 := X.saloadOut hexec (by rw [hT]; exact hP q0 _ ha) ((hK.2 t0 _ ht).1 n (fun j => .int (f j))) (j := i) (by show (i < 0 ∨ (arrV _ _ _).slots.size ≤ _); rw [arrV_size]; exact Classical.byContradiction hout) (g := F0 m pc ls (.int i :: .ref a :: rest)) rfl (rest := rest) rfl (by rw [hb]; exact hdg) t
  simp only [arrV_size] at h1
  exact h1 st
theorem vx_sastZ {D : va_G} {cl : List vw_C} {ws : va_W} {tys : List (ClassId × FieldType)} {a : Nat} (hexec : p.tables.exec = Jvm.exec) (hb : c.code = cc) (hK : va_K D cl tys s) (hP : va_P D cl ws H) (q0 t0 : Nat) {cA : ClassId} {n : Nat} {f : Nat → Int32} (ha : ws[q0]? = some (a, .inl (cA, n, .inl f))) (ht : tys[t0]? = some (cA, .short)) {i : Int32} {x : Int32} (hout : ¬ vp_in i n) (hdg : decode cc pc = .ok (.sastore, 1))
    (k : ∀ tx : String, tx = (toString "Index " ++ toString i ++ toString " out of bounds for length " ++ toString n : String) → vx_Note p l e R s m args below meth c H locs cells slots Q (F0 m pc ls rest) "java/lang/ArrayIndexOutOfBoundsException" tx) : W p l e R s m args below meth c H locs cells slots Q (F0 m pc ls (.int x :: .int i :: .ref a :: rest)) := by
  intro T hT X
  obtain ⟨t, st, q⟩ := k _ rfl T hT X
  refine ⟨t, ?_, q⟩
  have h1 := X.sastoreOut hexec (by rw [hT]; exact hP q0 _ ha) ((hK.2 t0 _ ht).1 n (fun j => .int (f j))) (j := i) (by show (i < 0 ∨ (arrV _ _ _).slots.size ≤ _); rw [arrV_size]; exact Classical.byContradiction hout) (g := F0 m pc ls (.int x :: .int i :: .ref a :: rest)) rfl (rest := rest) rfl (by rw [hb]; exact hdg) t
  simp only [arrV_size] at h1
  exact h1 st
theorem vx_laldZ {D : va_G} {cl : List vw_C} {ws : va_W} {tys : List (ClassId × FieldType)} {a : Nat} (hexec : p.tables.exec = Jvm.exec) (hb : c.code = cc) (hK : va_K D cl tys s) (hP : va_P D cl ws H) (q0 t0 : Nat) {cA : ClassId} {n : Nat} {f : Nat → Int64} (ha : ws[q0]? = some (a, .inl (cA, n, .inr (.inl f)))) (ht : tys[t0]? = some (cA, .long)) {i : Int32} (hout : ¬ vp_in i n) (hdg : decode cc pc = .ok (.laload, 1))
    (k : ∀ tx : String, tx = (toString "Index " ++ toString i ++ toString " out of bounds for length " ++ toString n : String) → vx_Note p l e R s m args below meth c H locs cells slots Q (F0 m pc ls rest) "java/lang/ArrayIndexOutOfBoundsException" tx) : W p l e R s m args below meth c H locs cells slots Q (F0 m pc ls (.int i :: .ref a :: rest)) := by
  intro T hT X
  obtain ⟨t, st, q⟩ := k _ rfl T hT X
  refine ⟨t, ?_, q⟩
  have h1 := X.laloadOut hexec (by rw [hT]; exact hP q0 _ ha) ((hK.2 t0 _ ht).1 n (fun j => .long (f j))) (j := i) (by show (i < 0 ∨ (arrV _ _ _).slots.size ≤ _); rw [arrV_size]; exact Classical.byContradiction hout) (g := F0 m pc ls (.int i :: .ref a :: rest)) rfl (rest := rest) rfl (by rw [hb]; exact hdg) t
  simp only [arrV_size] at h1
  exact h1 st
theorem vx_lastZ {D : va_G} {cl : List vw_C} {ws : va_W} {tys : List (ClassId × FieldType)} {a : Nat} (hexec : p.tables.exec = Jvm.exec) (hb : c.code = cc) (hK : va_K D cl tys s) (hP : va_P D cl ws H) (q0 t0 : Nat) {cA : ClassId} {n : Nat} {f : Nat → Int64} (ha : ws[q0]? = some (a, .inl (cA, n, .inr (.inl f)))) (ht : tys[t0]? = some (cA, .long)) {i : Int32} {x : Int64} (hout : ¬ vp_in i n) (hdg : decode cc pc = .ok (.lastore, 1))
    (k : ∀ tx : String, tx = (toString "Index " ++ toString i ++ toString " out of bounds for length " ++ toString n : String) → vx_Note p l e R s m args below meth c H locs cells slots Q (F0 m pc ls rest) "java/lang/ArrayIndexOutOfBoundsException" tx) : W p l e R s m args below meth c H locs cells slots Q (F0 m pc ls (.long x :: .int i :: .ref a :: rest)) := by
  intro T hT X
  obtain ⟨t, st, q⟩ := k _ rfl T hT X
  refine ⟨t, ?_, q⟩
  have h1 := X.lastoreOut hexec (by rw [hT]; exact hP q0 _ ha) ((hK.2 t0 _ ht).1 n (fun j => .long (f j))) (j := i) (by show (i < 0 ∨ (arrV _ _ _).slots.size ≤ _); rw [arrV_size]; exact Classical.byContradiction hout) (g := F0 m pc ls (.long x :: .int i :: .ref a :: rest)) rfl (rest := rest) rfl (by rw [hb]; exact hdg) t
  simp only [arrV_size] at h1
  exact h1 st
theorem vx_faldZ {D : va_G} {cl : List vw_C} {ws : va_W} {tys : List (ClassId × FieldType)} {a : Nat} (hexec : p.tables.exec = Jvm.exec) (hb : c.code = cc) (hK : va_K D cl tys s) (hP : va_P D cl ws H) (q0 t0 : Nat) {cA : ClassId} {n : Nat} {f : Nat → UInt32} (ha : ws[q0]? = some (a, .inl (cA, n, .inr (.inr (.inl f))))) (ht : tys[t0]? = some (cA, .float)) {i : Int32} (hout : ¬ vp_in i n) (hdg : decode cc pc = .ok (.faload, 1))
    (k : ∀ tx : String, tx = (toString "Index " ++ toString i ++ toString " out of bounds for length " ++ toString n : String) → vx_Note p l e R s m args below meth c H locs cells slots Q (F0 m pc ls rest) "java/lang/ArrayIndexOutOfBoundsException" tx) : W p l e R s m args below meth c H locs cells slots Q (F0 m pc ls (.int i :: .ref a :: rest)) := by
  intro T hT X
  obtain ⟨t, st, q⟩ := k _ rfl T hT X
  refine ⟨t, ?_, q⟩
  have h1 := X.faloadOut hexec (by rw [hT]; exact hP q0 _ ha) ((hK.2 t0 _ ht).1 n (fun j => .float (f j))) (j := i) (by show (i < 0 ∨ (arrV _ _ _).slots.size ≤ _); rw [arrV_size]; exact Classical.byContradiction hout) (g := F0 m pc ls (.int i :: .ref a :: rest)) rfl (rest := rest) rfl (by rw [hb]; exact hdg) t
  simp only [arrV_size] at h1
  exact h1 st
theorem vx_fastZ {D : va_G} {cl : List vw_C} {ws : va_W} {tys : List (ClassId × FieldType)} {a : Nat} (hexec : p.tables.exec = Jvm.exec) (hb : c.code = cc) (hK : va_K D cl tys s) (hP : va_P D cl ws H) (q0 t0 : Nat) {cA : ClassId} {n : Nat} {f : Nat → UInt32} (ha : ws[q0]? = some (a, .inl (cA, n, .inr (.inr (.inl f))))) (ht : tys[t0]? = some (cA, .float)) {i : Int32} {x : UInt32} (hout : ¬ vp_in i n) (hdg : decode cc pc = .ok (.fastore, 1))
    (k : ∀ tx : String, tx = (toString "Index " ++ toString i ++ toString " out of bounds for length " ++ toString n : String) → vx_Note p l e R s m args below meth c H locs cells slots Q (F0 m pc ls rest) "java/lang/ArrayIndexOutOfBoundsException" tx) : W p l e R s m args below meth c H locs cells slots Q (F0 m pc ls (.float x :: .int i :: .ref a :: rest)) := by
  intro T hT X
  obtain ⟨t, st, q⟩ := k _ rfl T hT X
  refine ⟨t, ?_, q⟩
  have h1 := X.fastoreOut hexec (by rw [hT]; exact hP q0 _ ha) ((hK.2 t0 _ ht).1 n (fun j => .float (f j))) (j := i) (by show (i < 0 ∨ (arrV _ _ _).slots.size ≤ _); rw [arrV_size]; exact Classical.byContradiction hout) (g := F0 m pc ls (.float x :: .int i :: .ref a :: rest)) rfl (rest := rest) rfl (by rw [hb]; exact hdg) t
  simp only [arrV_size] at h1
  exact h1 st
theorem vx_daldZ {D : va_G} {cl : List vw_C} {ws : va_W} {tys : List (ClassId × FieldType)} {a : Nat} (hexec : p.tables.exec = Jvm.exec) (hb : c.code = cc) (hK : va_K D cl tys s) (hP : va_P D cl ws H) (q0 t0 : Nat) {cA : ClassId} {n : Nat} {f : Nat → UInt64} (ha : ws[q0]? = some (a, .inl (cA, n, .inr (.inr (.inr (.inl f)))))) (ht : tys[t0]? = some (cA, .double)) {i : Int32} (hout : ¬ vp_in i n) (hdg : decode cc pc = .ok (.daload, 1))
    (k : ∀ tx : String, tx = (toString "Index " ++ toString i ++ toString " out of bounds for length " ++ toString n : String) → vx_Note p l e R s m args below meth c H locs cells slots Q (F0 m pc ls rest) "java/lang/ArrayIndexOutOfBoundsException" tx) : W p l e R s m args below meth c H locs cells slots Q (F0 m pc ls (.int i :: .ref a :: rest)) := by
  intro T hT X
  obtain ⟨t, st, q⟩ := k _ rfl T hT X
  refine ⟨t, ?_, q⟩
  have h1 := X.daloadOut hexec (by rw [hT]; exact hP q0 _ ha) ((hK.2 t0 _ ht).1 n (fun j => .double (f j))) (j := i) (by show (i < 0 ∨ (arrV _ _ _).slots.size ≤ _); rw [arrV_size]; exact Classical.byContradiction hout) (g := F0 m pc ls (.int i :: .ref a :: rest)) rfl (rest := rest) rfl (by rw [hb]; exact hdg) t
  simp only [arrV_size] at h1
  exact h1 st
theorem vx_dastZ {D : va_G} {cl : List vw_C} {ws : va_W} {tys : List (ClassId × FieldType)} {a : Nat} (hexec : p.tables.exec = Jvm.exec) (hb : c.code = cc) (hK : va_K D cl tys s) (hP : va_P D cl ws H) (q0 t0 : Nat) {cA : ClassId} {n : Nat} {f : Nat → UInt64} (ha : ws[q0]? = some (a, .inl (cA, n, .inr (.inr (.inr (.inl f)))))) (ht : tys[t0]? = some (cA, .double)) {i : Int32} {x : UInt64} (hout : ¬ vp_in i n) (hdg : decode cc pc = .ok (.dastore, 1))
    (k : ∀ tx : String, tx = (toString "Index " ++ toString i ++ toString " out of bounds for length " ++ toString n : String) → vx_Note p l e R s m args below meth c H locs cells slots Q (F0 m pc ls rest) "java/lang/ArrayIndexOutOfBoundsException" tx) : W p l e R s m args below meth c H locs cells slots Q (F0 m pc ls (.double x :: .int i :: .ref a :: rest)) := by
  intro T hT X
  obtain ⟨t, st, q⟩ := k _ rfl T hT X
  refine ⟨t, ?_, q⟩
  have h1 := X.dastoreOut hexec (by rw [hT]; exact hP q0 _ ha) ((hK.2 t0 _ ht).1 n (fun j => .double (f j))) (j := i) (by show (i < 0 ∨ (arrV _ _ _).slots.size ≤ _); rw [arrV_size]; exact Classical.byContradiction hout) (g := F0 m pc ls (.double x :: .int i :: .ref a :: rest)) rfl (rest := rest) rfl (by rw [hb]; exact hdg) t
  simp only [arrV_size] at h1
  exact h1 st
theorem vx_arraylengthN (hexec : p.tables.exec = Jvm.exec) (hb : c.code = cc) (hdg : decode cc pc = .ok (.arraylength, 1)) (k : vx_NoteN p l e R s m args below meth c H locs cells slots Q (F0 m pc ls rest)) : W p l e R s m args below meth c H locs cells slots Q (F0 m pc ls (.null :: rest)) := by
  intro T hT X
  obtain ⟨t, st, q⟩ := k T hT X
  exact ⟨t, X.arraylengthNull hexec (g := F0 m pc ls (.null :: rest)) rfl (rest := rest) rfl (by rw [hb]; exact hdg) t st, q⟩
theorem vx_ialoadN (hexec : p.tables.exec = Jvm.exec) (hb : c.code = cc) {i : Int32} (hdg : decode cc pc = .ok (.iaload, 1)) (k : vx_NoteN p l e R s m args below meth c H locs cells slots Q (F0 m pc ls rest)) : W p l e R s m args below meth c H locs cells slots Q (F0 m pc ls (.int i :: .null :: rest)) := by
  intro T hT X
  obtain ⟨t, st, q⟩ := k T hT X
  exact ⟨t, X.ialoadNull hexec (g := F0 m pc ls (.int i :: .null :: rest)) rfl (rest := rest) rfl (by rw [hb]; exact hdg) t st, q⟩
theorem vx_laloadN (hexec : p.tables.exec = Jvm.exec) (hb : c.code = cc) {i : Int32} (hdg : decode cc pc = .ok (.laload, 1)) (k : vx_NoteN p l e R s m args below meth c H locs cells slots Q (F0 m pc ls rest)) : W p l e R s m args below meth c H locs cells slots Q (F0 m pc ls (.int i :: .null :: rest)) := by
  intro T hT X
  obtain ⟨t, st, q⟩ := k T hT X
  exact ⟨t, X.laloadNull hexec (g := F0 m pc ls (.int i :: .null :: rest)) rfl (rest := rest) rfl (by rw [hb]; exact hdg) t st, q⟩
theorem vx_faloadN (hexec : p.tables.exec = Jvm.exec) (hb : c.code = cc) {i : Int32} (hdg : decode cc pc = .ok (.faload, 1)) (k : vx_NoteN p l e R s m args below meth c H locs cells slots Q (F0 m pc ls rest)) : W p l e R s m args below meth c H locs cells slots Q (F0 m pc ls (.int i :: .null :: rest)) := by
  intro T hT X
  obtain ⟨t, st, q⟩ := k T hT X
  exact ⟨t, X.faloadNull hexec (g := F0 m pc ls (.int i :: .null :: rest)) rfl (rest := rest) rfl (by rw [hb]; exact hdg) t st, q⟩
theorem vx_daloadN (hexec : p.tables.exec = Jvm.exec) (hb : c.code = cc) {i : Int32} (hdg : decode cc pc = .ok (.daload, 1)) (k : vx_NoteN p l e R s m args below meth c H locs cells slots Q (F0 m pc ls rest)) : W p l e R s m args below meth c H locs cells slots Q (F0 m pc ls (.int i :: .null :: rest)) := by
  intro T hT X
  obtain ⟨t, st, q⟩ := k T hT X
  exact ⟨t, X.daloadNull hexec (g := F0 m pc ls (.int i :: .null :: rest)) rfl (rest := rest) rfl (by rw [hb]; exact hdg) t st, q⟩
theorem vx_aaloadN (hexec : p.tables.exec = Jvm.exec) (hb : c.code = cc) {i : Int32} (hdg : decode cc pc = .ok (.aaload, 1)) (k : vx_NoteN p l e R s m args below meth c H locs cells slots Q (F0 m pc ls rest)) : W p l e R s m args below meth c H locs cells slots Q (F0 m pc ls (.int i :: .null :: rest)) := by
  intro T hT X
  obtain ⟨t, st, q⟩ := k T hT X
  exact ⟨t, X.aaloadNull hexec (g := F0 m pc ls (.int i :: .null :: rest)) rfl (rest := rest) rfl (by rw [hb]; exact hdg) t st, q⟩
theorem vx_baloadN (hexec : p.tables.exec = Jvm.exec) (hb : c.code = cc) {i : Int32} (hdg : decode cc pc = .ok (.baload, 1)) (k : vx_NoteN p l e R s m args below meth c H locs cells slots Q (F0 m pc ls rest)) : W p l e R s m args below meth c H locs cells slots Q (F0 m pc ls (.int i :: .null :: rest)) := by
  intro T hT X
  obtain ⟨t, st, q⟩ := k T hT X
  exact ⟨t, X.baloadNull hexec (g := F0 m pc ls (.int i :: .null :: rest)) rfl (rest := rest) rfl (by rw [hb]; exact hdg) t st, q⟩
theorem vx_caloadN (hexec : p.tables.exec = Jvm.exec) (hb : c.code = cc) {i : Int32} (hdg : decode cc pc = .ok (.caload, 1)) (k : vx_NoteN p l e R s m args below meth c H locs cells slots Q (F0 m pc ls rest)) : W p l e R s m args below meth c H locs cells slots Q (F0 m pc ls (.int i :: .null :: rest)) := by
  intro T hT X
  obtain ⟨t, st, q⟩ := k T hT X
  exact ⟨t, X.caloadNull hexec (g := F0 m pc ls (.int i :: .null :: rest)) rfl (rest := rest) rfl (by rw [hb]; exact hdg) t st, q⟩
theorem vx_saloadN (hexec : p.tables.exec = Jvm.exec) (hb : c.code = cc) {i : Int32} (hdg : decode cc pc = .ok (.saload, 1)) (k : vx_NoteN p l e R s m args below meth c H locs cells slots Q (F0 m pc ls rest)) : W p l e R s m args below meth c H locs cells slots Q (F0 m pc ls (.int i :: .null :: rest)) := by
  intro T hT X
  obtain ⟨t, st, q⟩ := k T hT X
  exact ⟨t, X.saloadNull hexec (g := F0 m pc ls (.int i :: .null :: rest)) rfl (rest := rest) rfl (by rw [hb]; exact hdg) t st, q⟩
theorem vx_iastoreN (hexec : p.tables.exec = Jvm.exec) (hb : c.code = cc) {x : Int32} {i : Int32} (hdg : decode cc pc = .ok (.iastore, 1)) (k : vx_NoteN p l e R s m args below meth c H locs cells slots Q (F0 m pc ls rest)) : W p l e R s m args below meth c H locs cells slots Q (F0 m pc ls (.int x :: .int i :: .null :: rest)) := by
  intro T hT X
  obtain ⟨t, st, q⟩ := k T hT X
  exact ⟨t, X.iastoreNull hexec (g := F0 m pc ls (.int x :: .int i :: .null :: rest)) rfl (rest := rest) rfl (by rw [hb]; exact hdg) t st, q⟩
theorem vx_lastoreN (hexec : p.tables.exec = Jvm.exec) (hb : c.code = cc) {x : Int64} {i : Int32} (hdg : decode cc pc = .ok (.lastore, 1)) (k : vx_NoteN p l e R s m args below meth c H locs cells slots Q (F0 m pc ls rest)) : W p l e R s m args below meth c H locs cells slots Q (F0 m pc ls (.long x :: .int i :: .null :: rest)) := by
  intro T hT X
  obtain ⟨t, st, q⟩ := k T hT X
  exact ⟨t, X.lastoreNull hexec (g := F0 m pc ls (.long x :: .int i :: .null :: rest)) rfl (rest := rest) rfl (by rw [hb]; exact hdg) t st, q⟩
theorem vx_fastoreN (hexec : p.tables.exec = Jvm.exec) (hb : c.code = cc) {x : UInt32} {i : Int32} (hdg : decode cc pc = .ok (.fastore, 1)) (k : vx_NoteN p l e R s m args below meth c H locs cells slots Q (F0 m pc ls rest)) : W p l e R s m args below meth c H locs cells slots Q (F0 m pc ls (.float x :: .int i :: .null :: rest)) := by
  intro T hT X
  obtain ⟨t, st, q⟩ := k T hT X
  exact ⟨t, X.fastoreNull hexec (g := F0 m pc ls (.float x :: .int i :: .null :: rest)) rfl (rest := rest) rfl (by rw [hb]; exact hdg) t st, q⟩
theorem vx_dastoreN (hexec : p.tables.exec = Jvm.exec) (hb : c.code = cc) {x : UInt64} {i : Int32} (hdg : decode cc pc = .ok (.dastore, 1)) (k : vx_NoteN p l e R s m args below meth c H locs cells slots Q (F0 m pc ls rest)) : W p l e R s m args below meth c H locs cells slots Q (F0 m pc ls (.double x :: .int i :: .null :: rest)) := by
  intro T hT X
  obtain ⟨t, st, q⟩ := k T hT X
  exact ⟨t, X.dastoreNull hexec (g := F0 m pc ls (.double x :: .int i :: .null :: rest)) rfl (rest := rest) rfl (by rw [hb]; exact hdg) t st, q⟩
theorem vx_bastoreN (hexec : p.tables.exec = Jvm.exec) (hb : c.code = cc) {x : Int32} {i : Int32} (hdg : decode cc pc = .ok (.bastore, 1)) (k : vx_NoteN p l e R s m args below meth c H locs cells slots Q (F0 m pc ls rest)) : W p l e R s m args below meth c H locs cells slots Q (F0 m pc ls (.int x :: .int i :: .null :: rest)) := by
  intro T hT X
  obtain ⟨t, st, q⟩ := k T hT X
  exact ⟨t, X.bastoreNull hexec (g := F0 m pc ls (.int x :: .int i :: .null :: rest)) rfl (rest := rest) rfl (by rw [hb]; exact hdg) t st, q⟩
theorem vx_castoreN (hexec : p.tables.exec = Jvm.exec) (hb : c.code = cc) {x : Int32} {i : Int32} (hdg : decode cc pc = .ok (.castore, 1)) (k : vx_NoteN p l e R s m args below meth c H locs cells slots Q (F0 m pc ls rest)) : W p l e R s m args below meth c H locs cells slots Q (F0 m pc ls (.int x :: .int i :: .null :: rest)) := by
  intro T hT X
  obtain ⟨t, st, q⟩ := k T hT X
  exact ⟨t, X.castoreNull hexec (g := F0 m pc ls (.int x :: .int i :: .null :: rest)) rfl (rest := rest) rfl (by rw [hb]; exact hdg) t st, q⟩
theorem vx_sastoreN (hexec : p.tables.exec = Jvm.exec) (hb : c.code = cc) {x : Int32} {i : Int32} (hdg : decode cc pc = .ok (.sastore, 1)) (k : vx_NoteN p l e R s m args below meth c H locs cells slots Q (F0 m pc ls rest)) : W p l e R s m args below meth c H locs cells slots Q (F0 m pc ls (.int x :: .int i :: .null :: rest)) := by
  intro T hT X
  obtain ⟨t, st, q⟩ := k T hT X
  exact ⟨t, X.sastoreNull hexec (g := F0 m pc ls (.int x :: .int i :: .null :: rest)) rfl (rest := rest) rfl (by rw [hb]; exact hdg) t st, q⟩
theorem vx_invokeN {own C : String} {index maxL : Nat} {y : MethodName} {bytes : ByteArray} {ret : Option FieldType} (hexec : p.tables.exec = Jvm.exec) (hb : c.code = cc) (hown : s.vm.findClass own = some m.cls) (hlink : (Cond.methodLink own index y).before args s = true) (hinst : (Cond.instanceMethod y).before args s = true) (hcode : (Cond.code y bytes maxL ret).before args s = true) (hsel : (Cond.selects C y y).before args s = true)
    (hx : y.cls ≠ "java/lang/invoke/MethodHandle" ∧ y.cls ≠ "java/lang/invoke/VarHandle") {As : List Value} (hlen : (parseMethodDescriptor y.desc).map (fun d => d.parameters.length) = some As.length) (hdg : decode cc pc = .ok (.invokevirtual index, 3))
    (k : vx_NoteN p l e R s m args below meth c H locs cells slots Q (F0 m pc ls rest)) {st0 : List Value} (hst : st0 = As.reverse ++ .null :: rest) : W p l e R s m args below meth c H locs cells slots Q (F0 m pc ls st0) := by
  intro T hT X
  obtain ⟨r0, r, hn, hrm, hstR, hsigR⟩ := va_Decl.of hinst hcode
  obtain ⟨c2, r2, m2, q1, q2, q3, q4, kP, hkP, hkPi⟩ := Cond.selects_spec hsel
  cases hn.symm.trans q3
  have hl9 : As.length = r.sig.parameters.length := by
    rw [hsigR] at hlen
    exact (Option.some.inj hlen).symm
  obtain ⟨vm', X1, st1⟩ := X.invokevirtualNull hexec hown hlink hn hrm hstR hkP hkPi hx (g := F0 m pc ls st0) rfl (argsL := As) (rest := rest) hl9 hst (by rw [hb]; exact hdg)
  obtain ⟨t, st, q⟩ := k (T.setVm vm') hT X1
  exact ⟨t, st1 t st, q⟩
theorem vx_newarrayZ {atype : ArrayType} (hexec : p.tables.exec = Jvm.exec) (hb : c.code = cc) {n : Int32} (h0 : n < 0) (hdg : decode cc pc = .ok (.newarray atype, 2)) (k : ∀ tx : String, tx = toString n → vx_Note p l e R s m args below meth c H locs cells slots Q (F0 m pc ls rest) "java/lang/NegativeArraySizeException" tx) : W p l e R s m args below meth c H locs cells slots Q (F0 m pc ls (.int n :: rest)) := by
  intro T hT X
  obtain ⟨t, st, q⟩ := k _ rfl T hT X
  exact ⟨t, X.newarrayNegative hexec (g := F0 m pc ls (.int n :: rest)) rfl h0 (rest := rest) rfl (by rw [hb]; exact hdg) t st, q⟩
end
end VXM
/-! ===== END ===== -/
/-! ===== BEGIN an exception as an object: made, kept, thrown later (no traces kept) ===== -/
section VXK
variable {p : Program} {l : Launch} {e : Env} {R : Room} {s : State} {m₀ : MethodId} {args : Array Value} {below : List Frame} {meth : Method} {c : Code} {W : State} {locs : List Loc} {cells slots : Nat}
set_option maxHeartbeats 1000000 in
theorem vx_ctorMadeS (X : Stand p l e R s m₀ args below meth c W locs cells slots) (hexec : p.tables.exec = Jvm.exec) (htr : e.platform.stackTraces = false) {own cls : String} {names : List String} {ic : Nat}
    (hown : s.vm.findClass own = some m₀.cls) (hcls : Bundle.fit cls = true) (hnames : ∀ n ∈ names, Bundle.fit n = true)
    (h : ∀ a ∈ Bundle.ownAtoms own ic cls names, a.before args s = true)
    (hlocs : ∀ x ∈ locs, ∀ cell, s.heap[x.base]? = some cell → cell.vm.isStatics = false)
    {a : Addr} {cX : ClassId} {kX : Class} (hfoundX : s.vm.findClass cls = some cX) (hkX : s.vm.classes[cX]? = some kX) (hcell : W.heap[a]? = some (freshCell cX kX)) (hnew : s.heap.size ≤ a)
    {msg : Value} (hmsg : msg.isRef = true)
    {g : JFrame} (hg : g.method = m₀) (hsize : g.locals.size = c.maxLocals) {rest : List Value} (hstack : g.stack = msg :: .ref a :: .ref a :: rest)
    (hd6 : decode c.code g.pc = .ok (.invokespecial ic, 3))
    (hRframes : names.length + 3 < R.frames) (hRlocals : 2 * g.monitorRoom + ((Value.ref a :: rest).map fun v => v.category).sum + (13 * (names.length + 1) + 42) ≤ R.locals) :
    ∃ (V : State) (ce : Cell) (L : List Loc), Stand p l e R s m₀ args below meth c (V.setCell a ce) (locs ++ L) cells slots ∧ (∀ y ∈ L, y.base = a) ∧ a < V.heap.size ∧ ce.cls = cX ∧ ce.vm = .none ∧
      ∀ target, Steps p.tables e below ((V.setCell a ce).setTop { g with stack := .ref a :: rest, pc := g.pc + 3 }) target → Steps p.tables e below (W.setTop g) target := by
  have howns : e.platform.frameOwnsMonitors = true := by rw [X.admits.platform]
  have hfin : e.platform.finalization = false := by rw [X.admits.platform]
  have hpl : e.platform.magicAccessors = ({} : Platform).magicAccessors := by rw [X.admits.platform]
  have a' : ∀ x, x ∈ Bundle.ownAtoms own ic cls names → x.holds args s none s [] = true := fun x hx => h x hx
  obtain ⟨T, Z0, L, -, Y⟩ := ThrowableC.of_atoms (args := args) howns hfin hpl (fun x hx => h x (by simp [Bundle.ownAtoms, hx]))
  obtain ⟨Z, M, LZ, LM, hnZ⟩ := Init0T.ofS_atoms (args := args) hpl L Y (fun x hx => h x (by simp [Bundle.ownAtoms, hx]))
  obtain ⟨P1, Ps, hlen, L1, hL, hP1m, hlink1, hlink⟩ := Bundle.chainS (args := args) hpl hnZ names cls hcls hnames (fun x hx => h x (by simp [Bundle.ownAtoms, hx]))
  have hfound : s.vm.findClass cls = some P1.m.cls := findClass_of_methodNamed hP1m
  cases Option.some.inj (hfoundX.symm.trans hfound)
  obtain ⟨c1, kX', hc1, hk, hord, -, -, hn6⟩ := Cond.instantiable_spec (a' (.instantiable cls 6) (by simp [Bundle.ownAtoms]))
  cases Option.some.inj (hc1.symm.trans hfound)
  cases Option.some.inj (hkX.symm.trans hk)
  have hsel0 : selectMethod e.platform s.vm P1.m.cls T.fill0 = .method T.fill0 := by
    obtain ⟨c2, r2, m2, q1, q2, q3, q4, -⟩ := Cond.selects_spec (a' (.selects cls Bundle.tFill0 Bundle.tFill0) (by simp [Bundle.ownAtoms]))
    cases Option.some.inj (q1.symm.trans hfound)
    cases Option.some.inj (q2.symm.trans (State.methodFound?_of_named Y.fill0 (by decide)))
    cases Option.some.inj (q3.symm.trans Y.fill0)
    rw [Launch.admits_selectMethod X.admits]; exact q4
  have hselF : selectMethod e.platform s.vm P1.m.cls T.fill = .method T.fill := by
    obtain ⟨c2, r2, m2, q1, q2, q3, q4, -⟩ := Cond.selects_spec (a' (.selects cls Bundle.tFill Bundle.tFill) (by simp [Bundle.ownAtoms]))
    cases Option.some.inj (q1.symm.trans hfound)
    cases Option.some.inj (q2.symm.trans (State.methodFound?_of_named Y.fill (by decide)))
    cases Option.some.inj (q3.symm.trans Y.fill)
    rw [Launch.admits_selectMethod X.admits]; exact q4
  obtain ⟨cellS0, hcS0, hiss⟩ := Y.statics
  obtain ⟨u0, hu0⟩ := Cond.staticRefV Y.unassigned L.unassignedStatic L.statics hcS0 hiss (a' (.isRef (.static Bundle.tN "UNASSIGNED_STACK" Bundle.steD)) (by simp [Bundle.ownAtoms]))
  obtain ⟨sen, hsen⟩ := Cond.staticRefV Y.sentinel L.sentinelStatic L.statics hcS0 hiss (a' (.isRef (.static Bundle.tN "SUPPRESSED_SENTINEL" Bundle.listD)) (by simp [Bundle.ownAtoms]))
  obtain ⟨ci198, i198, fB, hk198, hg198, ha198, hsB, -, hnB, htB, hffB⟩ := Cond.ownField (t := .object "java/lang/Object") Y.found L.cls (by decide +kernel) (a' (.fieldLink Bundle.tN 198 Bundle.tN "backtrace" "Ljava/lang/Object;") (by simp [Bundle.ownAtoms])) (a' (.lays Bundle.tN Bundle.tN "backtrace" "Ljava/lang/Object;") (by simp [Bundle.ownAtoms])) e.platform hpl
  obtain ⟨cellS, hcS', heS, -, hkeep⟩ := X.same.2.2.2.2.2 T.aS cellS0 hcS0
  have hcellS : W.heap[T.aS]? = some cellS := hcS'
  have hout' : ∀ i, (⟨T.aS, i⟩ : Loc) ∉ locs := fun i hmem => by
    have := hlocs _ hmem cellS0 hcS0
    rw [hiss] at this; cases this
  have hknownS : cellS.vm ≠ .unknown := by
    rw [heS]; intro hu
    rw [show cellS0.vm = .unknown from hu] at hiss
    cases hiss
  have hneS : T.aS ≠ a := Nat.ne_of_lt (Nat.lt_of_lt_of_le (Array.getElem?_eq_some_iff.mp hcS0).1 hnew)
  obtain ⟨iM, hffM⟩ := Y.msg
  obtain ⟨tyC, dC, hdC, hdnC⟩ := Cond.laysAt hfound hk Y.cause (a' (.lays cls Bundle.tN "cause" "Ljava/lang/Throwable;") (by simp [Bundle.ownAtoms]))
  obtain ⟨tyS, dS, hdS, hdnS⟩ := Cond.laysAt hfound hk Y.stack (a' (.lays cls Bundle.tN "stackTrace" Bundle.steD) (by simp [Bundle.ownAtoms]))
  obtain ⟨tyP, dP, hdP, hdnP⟩ := Cond.laysAt hfound hk Y.supp (a' (.lays cls Bundle.tN "suppressedExceptions" Bundle.listD) (by simp [Bundle.ownAtoms]))
  obtain ⟨tyM, dM, hdM, hdnM⟩ := Cond.laysAt hfound hk hffM (a' (.lays cls Bundle.tN "detailMessage" "Ljava/lang/String;") (by simp [Bundle.ownAtoms]))
  obtain ⟨tyB, dB, hdB, hdnB⟩ := Cond.laysAt hfound hk hffB (a' (.lays cls Bundle.tN "backtrace" "Ljava/lang/Object;") (by simp [Bundle.ownAtoms]))
  have bC := Cond.laysApart hdB hdC hdnB hdnC (by rw [hnB, Y.causeName]; decide)
  have bS := Cond.laysApart hdB hdS hdnB hdnS (by rw [hnB, Y.stackName]; decide)
  have bP := Cond.laysApart hdB hdP hdnB hdnP (by rw [hnB, Y.suppName]; decide)
  have hskip : SkipFacts T e.platform s (fun u => u) u0 ((preparedCellV T.toThrowableT (freshCell P1.m.cls kX) a u0 sen).withEntry W.cur) :=
    ⟨{ ci198 := ci198, i198 := i198, fBack := fB }, ⟨hk198, hg198, ha198, hsB⟩, by
      have := fresh_default (c := P1.m.cls) tyB
      rw [htB] at this
      simpa [preparedCellV, Cell.setSlot, Cell.withEntry, Array.getElem?_setIfInBounds, bC, bS, bP, bC.symm, bS.symm, bP.symm, defaultValue] using this, fun _ _ => rfl⟩
  obtain ⟨tm, methC, cdC, kC, vm₁, hnC, -, -, -, -, -, -, -, hW₁, st1⟩ := Steps.initColdS (tb := p.tables) (e := e) (below := below) (s := s) (U := W) X.here hexec X.warmed hpl hown (t := Bundle.initS cls) rfl rfl (Bundle.fit_spec hcls).2
    (a' (.methodLink own ic (Bundle.initS cls)) (by simp [Bundle.ownAtoms])) (h (.instanceMethod (Bundle.initS cls)) (by cases names <;> simp [Bundle.ownAtoms, Bundle.chainSAtoms, Bundle.passSAtoms])) (bytes := Bundle.six) (maxL := 2) (h (.code (Bundle.initS cls) Bundle.six 2 none) (by cases names <;> simp [Bundle.ownAtoms, Bundle.chainSAtoms, Bundle.passSAtoms]))
    (f := g) hg (a := a) (msg := msg) (rest := .ref a :: rest) hstack hd6
  cases Option.some.inj (hnC.symm.trans hP1m)
  have X₁ := X.noted hW₁
  obtain ⟨vm₂, X₂, st2⟩ := X₁.ctorMessageOffV hexec (g := { g with stack := .ref a :: rest }) hg hsize T L Z LZ M LM (P1 :: Ps)
    (fun P hP => by rcases List.mem_cons.mp hP with rfl | hP; exact L1; exact hL P hP) ⟨hlink1, hlink⟩ (u0 := u0) (sen := sen) (self := a) hmsg (cell := freshCell P1.m.cls kX) (cellS := cellS)
    hcell (fun _ => by simp) (by simp) rfl rfl hsel0 hselF hcellS hneS hknownS (by rw [hkeep _ (hout' _)]; exact hu0) (by rw [hkeep _ (hout' _)]; exact hsen)
    (Takes.of_laid hk hord tyC (by rw [Y.causeType]; rfl)) (Takes.of_laid hk hord tyS (by rw [Y.stackType]; exact fits_refV_array _ u0)) (Takes.of_laid hk hord tyP (by rw [Y.suppType]; exact fits_refV_object _ sen))
    (Takes.of_laid hk hord tyM (by rw [Y.msgType]; exact fits_refV_object _ ⟨msg, hmsg⟩)) Y.objLocals hskip htr [] hd6
    (by simp only [List.length_cons, hlen]; omega) (by simp only [List.length_cons, hlen]; exact hRlocals)
  have hlt : a < ((W.setVm vm₁).setVm vm₂).heap.size := (Array.getElem?_eq_some_iff.mp hcell).1
  refine ⟨(W.setVm vm₁).setVm vm₂, _, _, X₂, fun y hy => ?_, hlt, rfl, rfl, fun target hwalk => st1 _ (fun acts => ?_)⟩
  · simp only [List.mem_cons, List.not_mem_nil, or_false] at hy
    rcases hy with rfl | rfl | rfl | rfl | rfl <;> rfl
  · rw [doInvoke_state]
    exact st2 _ hwalk
set_option maxHeartbeats 1000000 in
theorem vx_ctorMade0 (X : Stand p l e R s m₀ args below meth c W locs cells slots) (hexec : p.tables.exec = Jvm.exec) (htr : e.platform.stackTraces = false) {own cls : String} {names : List String} {ic : Nat}
    (hown : s.vm.findClass own = some m₀.cls) (hcls : Bundle.fit cls = true) (hnames : ∀ n ∈ names, Bundle.fit n = true)
    (h : ∀ a ∈ Bundle.ownAtoms0 own ic cls names, a.before args s = true)
    (hlocs : ∀ x ∈ locs, ∀ cell, s.heap[x.base]? = some cell → cell.vm.isStatics = false)
    {a : Addr} {cX : ClassId} {kX : Class} (hfoundX : s.vm.findClass cls = some cX) (hkX : s.vm.classes[cX]? = some kX) (hcell : W.heap[a]? = some (freshCell cX kX)) (hnew : s.heap.size ≤ a)
    {g : JFrame} (hg : g.method = m₀) (hsize : g.locals.size = c.maxLocals) {rest : List Value} (hstack : g.stack = .ref a :: .ref a :: rest)
    (hd6 : decode c.code g.pc = .ok (.invokespecial ic, 3))
    (hRframes : names.length + 3 < R.frames) (hRlocals : 2 * g.monitorRoom + ((Value.ref a :: rest).map fun v => v.category).sum + (13 * (names.length + 1) + 41) ≤ R.locals) :
    ∃ (V : State) (ce : Cell) (L : List Loc), Stand p l e R s m₀ args below meth c (V.setCell a ce) (locs ++ L) cells slots ∧ (∀ y ∈ L, y.base = a) ∧ a < V.heap.size ∧ ce.cls = cX ∧ ce.vm = .none ∧
      ∀ target, Steps p.tables e below ((V.setCell a ce).setTop { g with stack := .ref a :: rest, pc := g.pc + 3 }) target → Steps p.tables e below (W.setTop g) target := by
  have howns : e.platform.frameOwnsMonitors = true := by rw [X.admits.platform]
  have hfin : e.platform.finalization = false := by rw [X.admits.platform]
  have hpl : e.platform.magicAccessors = ({} : Platform).magicAccessors := by rw [X.admits.platform]
  have a' : ∀ x, x ∈ Bundle.ownAtoms0 own ic cls names → x.holds args s none s [] = true := fun x hx => h x hx
  obtain ⟨T, Z, L, LZ, Y⟩ := ThrowableC.of_atoms (args := args) howns hfin hpl (fun x hx => h x (by simp [Bundle.ownAtoms0, hx]))
  obtain ⟨P1, Ps, hlen, L1, hL, hP1m, hlink1, hlink⟩ := Bundle.chain0 (args := args) hpl Y.init0 names cls hcls hnames (fun x hx => h x (by simp [Bundle.ownAtoms0, hx]))
  have hfound : s.vm.findClass cls = some P1.m.cls := findClass_of_methodNamed hP1m
  cases Option.some.inj (hfoundX.symm.trans hfound)
  obtain ⟨c1, kX', hc1, hk, hord, -, -, hn6⟩ := Cond.instantiable_spec (a' (.instantiable cls 6) (by simp [Bundle.ownAtoms0]))
  cases Option.some.inj (hc1.symm.trans hfound)
  cases Option.some.inj (hkX.symm.trans hk)
  have hsel0 : selectMethod e.platform s.vm P1.m.cls T.fill0 = .method T.fill0 := by
    obtain ⟨c2, r2, m2, q1, q2, q3, q4, -⟩ := Cond.selects_spec (a' (.selects cls Bundle.tFill0 Bundle.tFill0) (by simp [Bundle.ownAtoms0]))
    cases Option.some.inj (q1.symm.trans hfound)
    cases Option.some.inj (q2.symm.trans (State.methodFound?_of_named Y.fill0 (by decide)))
    cases Option.some.inj (q3.symm.trans Y.fill0)
    rw [Launch.admits_selectMethod X.admits]; exact q4
  have hselF : selectMethod e.platform s.vm P1.m.cls T.fill = .method T.fill := by
    obtain ⟨c2, r2, m2, q1, q2, q3, q4, -⟩ := Cond.selects_spec (a' (.selects cls Bundle.tFill Bundle.tFill) (by simp [Bundle.ownAtoms0]))
    cases Option.some.inj (q1.symm.trans hfound)
    cases Option.some.inj (q2.symm.trans (State.methodFound?_of_named Y.fill (by decide)))
    cases Option.some.inj (q3.symm.trans Y.fill)
    rw [Launch.admits_selectMethod X.admits]; exact q4
  obtain ⟨cellS0, hcS0, hiss⟩ := Y.statics
  obtain ⟨u0, hu0⟩ := Cond.staticRefV Y.unassigned L.unassignedStatic L.statics hcS0 hiss (a' (.isRef (.static Bundle.tN "UNASSIGNED_STACK" Bundle.steD)) (by simp [Bundle.ownAtoms0]))
  obtain ⟨sen, hsen⟩ := Cond.staticRefV Y.sentinel L.sentinelStatic L.statics hcS0 hiss (a' (.isRef (.static Bundle.tN "SUPPRESSED_SENTINEL" Bundle.listD)) (by simp [Bundle.ownAtoms0]))
  obtain ⟨ci198, i198, fB, hk198, hg198, ha198, hsB, -, hnB, htB, hffB⟩ := Cond.ownField (t := .object "java/lang/Object") Y.found L.cls (by decide +kernel) (a' (.fieldLink Bundle.tN 198 Bundle.tN "backtrace" "Ljava/lang/Object;") (by simp [Bundle.ownAtoms0])) (a' (.lays Bundle.tN Bundle.tN "backtrace" "Ljava/lang/Object;") (by simp [Bundle.ownAtoms0])) e.platform hpl
  obtain ⟨cellS, hcS', heS, -, hkeep⟩ := X.same.2.2.2.2.2 T.aS cellS0 hcS0
  have hcellS : W.heap[T.aS]? = some cellS := hcS'
  have hout' : ∀ i, (⟨T.aS, i⟩ : Loc) ∉ locs := fun i hmem => by
    have := hlocs _ hmem cellS0 hcS0
    rw [hiss] at this; cases this
  have hknownS : cellS.vm ≠ .unknown := by
    rw [heS]; intro hu
    rw [show cellS0.vm = .unknown from hu] at hiss
    cases hiss
  have hneS : T.aS ≠ a := Nat.ne_of_lt (Nat.lt_of_lt_of_le (Array.getElem?_eq_some_iff.mp hcS0).1 hnew)
  obtain ⟨iM, hffM⟩ := Y.msg
  obtain ⟨tyC, dC, hdC, hdnC⟩ := Cond.laysAt hfound hk Y.cause (a' (.lays cls Bundle.tN "cause" "Ljava/lang/Throwable;") (by simp [Bundle.ownAtoms0]))
  obtain ⟨tyS, dS, hdS, hdnS⟩ := Cond.laysAt hfound hk Y.stack (a' (.lays cls Bundle.tN "stackTrace" Bundle.steD) (by simp [Bundle.ownAtoms0]))
  obtain ⟨tyP, dP, hdP, hdnP⟩ := Cond.laysAt hfound hk Y.supp (a' (.lays cls Bundle.tN "suppressedExceptions" Bundle.listD) (by simp [Bundle.ownAtoms0]))
  obtain ⟨tyM, dM, hdM, hdnM⟩ := Cond.laysAt hfound hk hffM (a' (.lays cls Bundle.tN "detailMessage" "Ljava/lang/String;") (by simp [Bundle.ownAtoms0]))
  obtain ⟨tyB, dB, hdB, hdnB⟩ := Cond.laysAt hfound hk hffB (a' (.lays cls Bundle.tN "backtrace" "Ljava/lang/Object;") (by simp [Bundle.ownAtoms0]))
  have bC := Cond.laysApart hdB hdC hdnB hdnC (by rw [hnB, Y.causeName]; decide)
  have bS := Cond.laysApart hdB hdS hdnB hdnS (by rw [hnB, Y.stackName]; decide)
  have bP := Cond.laysApart hdB hdP hdnB hdnP (by rw [hnB, Y.suppName]; decide)
  have hskip : SkipFacts T e.platform s (fun u => u) u0 ((preparedCellV T.toThrowableT (freshCell P1.m.cls kX) a u0 sen).withEntry W.cur) :=
    ⟨{ ci198 := ci198, i198 := i198, fBack := fB }, ⟨hk198, hg198, ha198, hsB⟩, by
      have := fresh_default (c := P1.m.cls) tyB
      rw [htB] at this
      simpa [preparedCellV, Cell.setSlot, Cell.withEntry, Array.getElem?_setIfInBounds, bC, bS, bP, bC.symm, bS.symm, bP.symm, defaultValue] using this, fun _ _ => rfl⟩
  obtain ⟨tm, methC, cdC, kC, vm₁, hnC, -, -, -, -, -, -, -, hW₁, st1⟩ := Steps.initCold (tb := p.tables) (e := e) (below := below) (s := s) (U := W) X.here hexec X.warmed hpl hown (t := Bundle.init0 cls) rfl rfl (Bundle.fit_spec hcls).2
    (a' (.methodLink own ic (Bundle.init0 cls)) (by simp [Bundle.ownAtoms0])) (h (.instanceMethod (Bundle.init0 cls)) (by cases names <;> simp [Bundle.ownAtoms0, Bundle.chain0Atoms, Bundle.passAtoms])) (bytes := Bundle.five) (maxL := 1) (h (.code (Bundle.init0 cls) Bundle.five 1 none) (by cases names <;> simp [Bundle.ownAtoms0, Bundle.chain0Atoms, Bundle.passAtoms]))
    (f := g) hg (a := a) (rest := .ref a :: rest) hstack hd6
  cases Option.some.inj (hnC.symm.trans hP1m)
  have X₁ := X.noted hW₁
  obtain ⟨vm₂, X₂, st2⟩ := X₁.ctorPlainOffV hexec (g := { g with stack := .ref a :: rest }) hg hsize T L Z LZ (P1 :: Ps)
    (fun P hP => by rcases List.mem_cons.mp hP with rfl | hP; exact L1; exact hL P hP) ⟨hlink1, hlink⟩ (u0 := u0) (sen := sen) (self := a) (cell := freshCell P1.m.cls kX) (cellS := cellS)
    hcell (fun _ => by simp) (by simp) rfl rfl hsel0 hselF hcellS hneS hknownS (by rw [hkeep _ (hout' _)]; exact hu0) (by rw [hkeep _ (hout' _)]; exact hsen)
    (Takes.of_laid hk hord tyC (by rw [Y.causeType]; rfl)) (Takes.of_laid hk hord tyS (by rw [Y.stackType]; exact fits_refV_array _ u0)) (Takes.of_laid hk hord tyP (by rw [Y.suppType]; exact fits_refV_object _ sen)) Y.objLocals hskip htr [] hd6
    (by simp only [List.length_cons, hlen]; omega) (by simp only [List.length_cons, hlen]; exact hRlocals)
  have hlt : a < ((W.setVm vm₁).setVm vm₂).heap.size := (Array.getElem?_eq_some_iff.mp hcell).1
  refine ⟨(W.setVm vm₁).setVm vm₂, _, _, X₂, fun y hy => ?_, hlt, rfl, rfl, fun target hwalk => st1 _ (fun acts => ?_)⟩
  · simp only [List.mem_cons, List.not_mem_nil, or_false] at hy
    rcases hy with rfl | rfl | rfl | rfl <;> rfl
  · rw [doInvoke_state]
    exact st2 _ hwalk
end VXK
section VXK2
variable {p : Program} {l : Launch} {e : Env} {R : Room} {s : State} {m : MethodId} {args : Array Value} {below : List Frame} {meth : Method} {c : Code} {H : Heap} {locs : List Loc} {cells slots : Nat} {Q : State → Prop}
variable {ls : Array Slot} {rest : List Value} {D : va_G} {cl : List vw_C} {tys : List (ClassId × FieldType)} {ws : va_W}
/-- 'new E("text")' that isn't thrown at once: the object goes on the stack -/
theorem vx_makeS {cc : ByteArray} {pc : Nat} (hexec : p.tables.exec = Jvm.exec) (hb : c.code = cc) (hl : l.stackTraces = false) {own cls text : String} {names : List String} {ik is ic sa ci : Nat} {A : Nat → Prop} {T0 : u_T}
    (hown : s.vm.findClass own = some m.cls) (hcls : Bundle.fit cls = true) (hnames : ∀ n ∈ names, Bundle.fit n = true)
    (hk : (Cond.classLink own ik cls).before args s = true) (hini : (Cond.initialized cls).before args s = true) (hstr : vk_R own is text sa s) (hat : ∀ w ∈ vx_atS own ic cls names, w.before args s = true)
    (hgood : ∀ w ∈ Cond.classLink own ik cls :: Cond.initialized cls :: vx_atS own ic cls names, vx_ot w = true)
    (hU : vx_Zq Bundle.tN "UNASSIGNED_STACK" Bundle.steD A s s.heap) (hN : vx_Zq Bundle.tN "SUPPRESSED_SENTINEL" Bundle.listD A s s.heap) (hS : va_S A s.heap H locs) (hsize : ls.size = c.maxLocals)
    (d0 : decode cc pc = .ok (.new ik, 3)) (d3 : decode cc (pc + 3) = .ok (.dup, 1)) (d4 : decode cc (pc + 4) = .ok (.ldc is, 2)) (d6 : decode cc (pc + 6) = .ok (.invokespecial ic, 3))
    (hK : va_K D cl tys s) (hP : va_P D cl ws H) (hD : va_D A ws) (hA : ∀ q, s.heap.size ≤ q → A q) (hc : cl[ci]? = some (cls, T0, 0))
    (hRframes : names.length + 3 < R.frames) (hRlocals : (rest.map fun v => v.category).sum + (13 * (names.length + 1) + 43) ≤ R.locals) (hRcells : cells + 1 ≤ R.cells) (hRslots : slots + 6 ≤ R.slots)
    (kk : ∀ (q : Nat) (H1 : Heap), va_P D cl (ws ++ [(q, .inr (ci, []))]) H1 → va_D A (ws ++ [(q, .inr (ci, []))]) → va_S A s.heap H1 locs → W p l e R s m args below meth c H1 locs (cells + 1) (slots + 6) Q (F0 m (pc + 9) ls (.ref q :: rest))) :
    W p l e R s m args below meth c H locs cells slots Q (F0 m pc ls rest) := by
  intro T hT X
  subst hT
  have htr : e.platform.stackTraces = false := (show e.platform.stackTraces = l.stackTraces by rw [X.admits.platform]).trans hl
  have Y := vx_rebase X (R' := { frames := R.frames, locals := R.locals, cells := 1, slots := 6 }) (Nat.le_refl _) (Nat.le_refl _) hRcells hRslots
  obtain ⟨s', hA'⟩ : ∃ z, z = (T.setVm s.vm).setFrames (.invoking m args :: below) := ⟨_, rfl⟩
  rw [← hA'] at Y
  have hvm : s'.vm = s.vm := by rw [hA']; rfl
  have hhp : s'.heap = T.heap := by rw [hA']; rfl
  have hW0 : s.WarmedH s'.vm := by rw [hvm]; exact State.WarmedH.refl s
  have hat' : ∀ w ∈ vx_atS own ic cls names, w.before args s' = true := fun w hw => vx_ot_at hW0 hvm.symm (hgood w (List.mem_cons_of_mem _ (List.mem_cons_of_mem _ hw))) (hat w hw)
  have hk' : (Cond.classLink own ik cls).before args s' = true := vx_ot_at hW0 hvm.symm (hgood _ List.mem_cons_self) hk
  have hini' : (Cond.initialized cls).before args s' = true := vx_ot_at hW0 hvm.symm (hgood _ (List.mem_cons_of_mem _ List.mem_cons_self)) hini
  have hU' : vx_Zq Bundle.tN "UNASSIGNED_STACK" Bundle.steD A s' s'.heap := by rw [hhp]; exact vx_Zq.moved hW0.alike (hU.kept hS.2.1)
  have hN' : vx_Zq Bundle.tN "SUPPRESSED_SENTINEL" Bundle.listD A s' s'.heap := by rw [hhp]; exact vx_Zq.moved hW0.alike (hN.kept hS.2.1)
  have h : ∀ w ∈ Bundle.ownAtoms own ic cls names, w.before args s' = true := vx_own hat' (vx_isRefq hU'.1) (vx_isRefq hN'.1) hU'.2.word hN'.2.word
  have hown' : s'.vm.findClass own = some m.cls := by rw [hvm]; exact hown
  have hins : (Cond.instantiable cls 6).before args s' = true := h _ (by simp [Bundle.ownAtoms])
  obtain ⟨vm₁, cX, kX, hfX, hkX, -, -, X₁, st1⟩ := Y.newCold hexec (own := own) (C := cls) (index := ik) (n := 6) hown' hk' hins hini'
    (g := F0 m pc ls rest) rfl (by rw [hb]; exact d0) (Nat.le_refl _) (Nat.le_refl _)
  generalize hT1 : (T.setVm vm₁).pushCell { cls := cX, slots := kX.instanceTypes.map defaultValue, vm := .none } = T1 at X₁ st1
  have hcat : (Value.ref T.heap.size).category = 1 := rfl
  have hcellA : T1.heap[T.heap.size]? = some (freshCell cX kX) := by rw [← hT1]; exact State.heap_pushCell_size _ _
  have d3' : decode c.code (pc + 3) = .ok (.dup, 1) := by rw [hb]; exact d3
  have d4' : decode c.code (pc + 4) = .ok (.ldc is, 2) := by rw [hb]; exact d4
  have hstr' : vk_R own is text sa s' := vk_R.warm hW0 hstr
  obtain ⟨V, ce, L, Z, hL, hlt, hcl9, hvm9, st⟩ := vx_ctorMadeS X₁ hexec htr (own := own) (cls := cls) (names := names) (ic := ic) hown' hcls hnames h (fun x hx => nomatch hx) hfX hkX hcellA (by rw [hhp]; exact Nat.le_refl _) (msg := .ref sa) rfl
    (g := { method := m, pc := pc + 6, locals := ls, stack := .ref sa :: .ref T.heap.size :: .ref T.heap.size :: rest, locked := none }) rfl hsize (rest := rest) rfl
    (by rw [hb]; exact d6) hRframes (by simp only [List.map_cons, List.sum_cons, hcat]; omega)
  have Z0 := Stand.forget (locs := []) Z (fun y hy => by rw [hL y hy, hhp]; exact Nat.le_refl _)
  obtain ⟨f1, f2⟩ := vx_frame Z0.same
  rw [hhp] at f1 f2
  have hcid : ce.cls = D.1 ci := by
    rw [hcl9]
    have h1 := (hK.1 ci _ hc).2.1
    rw [hvm] at hfX
    exact Option.some.inj (hfX.symm.trans h1)
  have hh : (V.setCell T.heap.size ce).heap[T.heap.size]? = some ce := heapAt_setCell_self (s := V) ce hlt
  subst hA'
  have X5 := vx_back9 X Y Z0
  have X6 : Stand p l e R s m args below meth c (V.setCell T.heap.size ce) locs (cells + 1) (slots + 6) := { X5 with same := X5.same.mono (by omega) (by omega) }
  have hk9 : ∀ (k : Nat) (x : Nat × va_E), ws[k]? = some x → (V.setCell T.heap.size ce).heap[x.1]? = T.heap[x.1]? := fun k x hx => f2 x.1 ((hP k x hx).lt) (fun z hz => nomatch hz)
  obtain ⟨t, a1, b1⟩ := kk T.heap.size (V.setCell T.heap.size ce).heap ((hP.kept hk9).app (fun k x hx => by
      have hz : k < 1 := (List.getElem?_eq_some_iff.mp hx).1
      rw [show k = 0 by omega] at hx
      cases hx
      exact ⟨_, hc, ce, hh, hcid, hvm9, fun k hk => absurd hk (Nat.not_lt_zero k)⟩)) (hD.push hP rfl (hA _ hS.1)) ⟨Nat.le_trans hS.1 f1, fun q h1 h2 => (f2 q (Nat.lt_of_lt_of_le h1 hS.1) (fun z hz => nomatch hz)).trans (hS.2.1 q h1 h2), hS.2.2⟩ _ rfl X6
  refine ⟨t, st1 _ ?_, b1⟩
  show Steps p.tables e below (T1.setTop { method := m, pc := pc + 3, locals := ls, stack := .ref T.heap.size :: rest, locked := none }) _
  jvm_step X₁.here [X₁.here.top, hexec, d3', Value.category]
  exact X₁.ldcString hexec (own := own) (text := text) (index := is) (a := sa) hown' hstr'.1 hstr'.2
    (g := { method := m, pc := pc + 4, locals := ls, stack := .ref T.heap.size :: .ref T.heap.size :: rest, locked := none }) rfl d4' _ (st _ a1)
/-- 'new E()' that isn't thrown at once: the object goes on the stack -/
theorem vx_make0 {cc : ByteArray} {pc : Nat} (hexec : p.tables.exec = Jvm.exec) (hb : c.code = cc) (hl : l.stackTraces = false) {own cls : String} {names : List String} {ik ic ci : Nat} {A : Nat → Prop} {T0 : u_T}
    (hown : s.vm.findClass own = some m.cls) (hcls : Bundle.fit cls = true) (hnames : ∀ n ∈ names, Bundle.fit n = true)
    (hk : (Cond.classLink own ik cls).before args s = true) (hini : (Cond.initialized cls).before args s = true) (hat : ∀ w ∈ vx_at0 own ic cls names, w.before args s = true)
    (hgood : ∀ w ∈ Cond.classLink own ik cls :: Cond.initialized cls :: vx_at0 own ic cls names, vx_ot w = true)
    (hU : vx_Zq Bundle.tN "UNASSIGNED_STACK" Bundle.steD A s s.heap) (hN : vx_Zq Bundle.tN "SUPPRESSED_SENTINEL" Bundle.listD A s s.heap) (hS : va_S A s.heap H locs) (hsize : ls.size = c.maxLocals)
    (d0 : decode cc pc = .ok (.new ik, 3)) (d3 : decode cc (pc + 3) = .ok (.dup, 1)) (d4 : decode cc (pc + 4) = .ok (.invokespecial ic, 3))
    (hK : va_K D cl tys s) (hP : va_P D cl ws H) (hD : va_D A ws) (hA : ∀ q, s.heap.size ≤ q → A q) (hc : cl[ci]? = some (cls, T0, 0))
    (hRframes : names.length + 3 < R.frames) (hRlocals : (rest.map fun v => v.category).sum + (13 * (names.length + 1) + 42) ≤ R.locals) (hRcells : cells + 1 ≤ R.cells) (hRslots : slots + 6 ≤ R.slots)
    (kk : ∀ (q : Nat) (H1 : Heap), va_P D cl (ws ++ [(q, .inr (ci, []))]) H1 → va_D A (ws ++ [(q, .inr (ci, []))]) → va_S A s.heap H1 locs → W p l e R s m args below meth c H1 locs (cells + 1) (slots + 6) Q (F0 m (pc + 7) ls (.ref q :: rest))) :
    W p l e R s m args below meth c H locs cells slots Q (F0 m pc ls rest) := by
  intro T hT X
  subst hT
  have htr : e.platform.stackTraces = false := (show e.platform.stackTraces = l.stackTraces by rw [X.admits.platform]).trans hl
  have Y := vx_rebase X (R' := { frames := R.frames, locals := R.locals, cells := 1, slots := 6 }) (Nat.le_refl _) (Nat.le_refl _) hRcells hRslots
  obtain ⟨s', hA'⟩ : ∃ z, z = (T.setVm s.vm).setFrames (.invoking m args :: below) := ⟨_, rfl⟩
  rw [← hA'] at Y
  have hvm : s'.vm = s.vm := by rw [hA']; rfl
  have hhp : s'.heap = T.heap := by rw [hA']; rfl
  have hW0 : s.WarmedH s'.vm := by rw [hvm]; exact State.WarmedH.refl s
  have hat' : ∀ w ∈ vx_at0 own ic cls names, w.before args s' = true := fun w hw => vx_ot_at hW0 hvm.symm (hgood w (List.mem_cons_of_mem _ (List.mem_cons_of_mem _ hw))) (hat w hw)
  have hk' : (Cond.classLink own ik cls).before args s' = true := vx_ot_at hW0 hvm.symm (hgood _ List.mem_cons_self) hk
  have hini' : (Cond.initialized cls).before args s' = true := vx_ot_at hW0 hvm.symm (hgood _ (List.mem_cons_of_mem _ List.mem_cons_self)) hini
  have hU' : vx_Zq Bundle.tN "UNASSIGNED_STACK" Bundle.steD A s' s'.heap := by rw [hhp]; exact vx_Zq.moved hW0.alike (hU.kept hS.2.1)
  have hN' : vx_Zq Bundle.tN "SUPPRESSED_SENTINEL" Bundle.listD A s' s'.heap := by rw [hhp]; exact vx_Zq.moved hW0.alike (hN.kept hS.2.1)
  have h : ∀ w ∈ Bundle.ownAtoms0 own ic cls names, w.before args s' = true := vx_own hat' (vx_isRefq hU'.1) (vx_isRefq hN'.1) hU'.2.word hN'.2.word
  have hown' : s'.vm.findClass own = some m.cls := by rw [hvm]; exact hown
  have hins : (Cond.instantiable cls 6).before args s' = true := h _ (by simp [Bundle.ownAtoms0])
  obtain ⟨vm₁, cX, kX, hfX, hkX, -, -, X₁, st1⟩ := Y.newCold hexec (own := own) (C := cls) (index := ik) (n := 6) hown' hk' hins hini'
    (g := F0 m pc ls rest) rfl (by rw [hb]; exact d0) (Nat.le_refl _) (Nat.le_refl _)
  generalize hT1 : (T.setVm vm₁).pushCell { cls := cX, slots := kX.instanceTypes.map defaultValue, vm := .none } = T1 at X₁ st1
  have hcat : (Value.ref T.heap.size).category = 1 := rfl
  have hcellA : T1.heap[T.heap.size]? = some (freshCell cX kX) := by rw [← hT1]; exact State.heap_pushCell_size _ _
  have d3' : decode c.code (pc + 3) = .ok (.dup, 1) := by rw [hb]; exact d3
  obtain ⟨V, ce, L, Z, hL, hlt, hcl9, hvm9, st⟩ := vx_ctorMade0 X₁ hexec htr (own := own) (cls := cls) (names := names) (ic := ic) hown' hcls hnames h (fun x hx => nomatch hx) hfX hkX hcellA (by rw [hhp]; exact Nat.le_refl _)
    (g := { method := m, pc := pc + 4, locals := ls, stack := .ref T.heap.size :: .ref T.heap.size :: rest, locked := none }) rfl hsize (rest := rest) rfl
    (by rw [hb]; exact d4) hRframes (by simp only [List.map_cons, List.sum_cons, hcat]; omega)
  have Z0 := Stand.forget (locs := []) Z (fun y hy => by rw [hL y hy, hhp]; exact Nat.le_refl _)
  obtain ⟨f1, f2⟩ := vx_frame Z0.same
  rw [hhp] at f1 f2
  have hcid : ce.cls = D.1 ci := by
    rw [hcl9]
    have h1 := (hK.1 ci _ hc).2.1
    rw [hvm] at hfX
    exact Option.some.inj (hfX.symm.trans h1)
  have hh : (V.setCell T.heap.size ce).heap[T.heap.size]? = some ce := heapAt_setCell_self (s := V) ce hlt
  subst hA'
  have X5 := vx_back9 X Y Z0
  have X6 : Stand p l e R s m args below meth c (V.setCell T.heap.size ce) locs (cells + 1) (slots + 6) := { X5 with same := X5.same.mono (by omega) (by omega) }
  have hk9 : ∀ (k : Nat) (x : Nat × va_E), ws[k]? = some x → (V.setCell T.heap.size ce).heap[x.1]? = T.heap[x.1]? := fun k x hx => f2 x.1 ((hP k x hx).lt) (fun z hz => nomatch hz)
  obtain ⟨t, a1, b1⟩ := kk T.heap.size (V.setCell T.heap.size ce).heap ((hP.kept hk9).app (fun k x hx => by
      have hz : k < 1 := (List.getElem?_eq_some_iff.mp hx).1
      rw [show k = 0 by omega] at hx
      cases hx
      exact ⟨_, hc, ce, hh, hcid, hvm9, fun k hk => absurd hk (Nat.not_lt_zero k)⟩)) (hD.push hP rfl (hA _ hS.1)) ⟨Nat.le_trans hS.1 f1, fun q h1 h2 => (f2 q (Nat.lt_of_lt_of_le h1 hS.1) (fun z hz => nomatch hz)).trans (hS.2.1 q h1 h2), hS.2.2⟩ _ rfl X6
  refine ⟨t, st1 _ ?_, b1⟩
  show Steps p.tables e below (T1.setTop { method := m, pc := pc + 3, locals := ls, stack := .ref T.heap.size :: rest, locked := none }) _
  jvm_step X₁.here [X₁.here.top, hexec, d3', Value.category]
  exact st _ a1
/-- 'throw x' of an object that was made before -/
theorem vx_athrow {cc : ByteArray} {pc : Nat} (hexec : p.tables.exec = Jvm.exec) (hb : c.code = cc) {q : Addr} (hdg : decode cc pc = .ok (.athrow, 1)) (k : vx_W p l e R s m args below meth c H locs cells slots Q (F0 m pc ls rest) q) : W p l e R s m args below meth c H locs cells slots Q (F0 m pc ls (.ref q :: rest)) := by
  intro T hT X
  obtain ⟨t, st, hq⟩ := k T hT X
  refine ⟨t, ?_, hq⟩
  have hdg' : decode c.code pc = .ok (.athrow, 1) := by rw [hb]; exact hdg
  jvm_step X.here [X.here.top, hexec, hdg', athrow.wp_sem]
  exact st
end VXK2
/-! ===== END ===== -/
/-! ===== BEGIN a constructor that throws (launches without stack traces) ===== -/
section VXIA
variable {p : Program} {l : Launch} {e : Env} {R : Room} {s : State} {m : MethodId} {args : Array Value} {below : List Frame} {meth : Method} {c : Code} {T : State} {locs : List Loc} {cells slots : Nat}
theorem vx_callI (X : Stand p l e R s m args below meth c T locs cells slots) (hexec : p.tables.exec = Jvm.exec) {own : String} {index : Nat} {y : MethodName} {bytes : ByteArray} {maxL : Nat}
    (hown : s.vm.findClass own = some m.cls) (hy1 : y.name = "<init>") (hlink : (Cond.methodLink own index y).before args s = true) (hinst : (Cond.instanceMethod y).before args s = true)
    (hcode : (Cond.code y bytes maxL none).before args s = true) (hy : y.cls ≠ "java/lang/invoke/MethodHandle" ∧ y.cls ≠ "java/lang/invoke/VarHandle")
    {W9 : Nat} {Pre : Pt → Array Value → Prop} {Post : Pt → Array Value → Option Value → Pt → Prop} {PostX : Pt → Array Value → Addr → Pt → Prop} (hK : vx_Back l R p e below s args y 3 W9 Pre Post PostX)
    {g : JFrame} (hg : g.method = m) (hsize : g.locals.size = c.maxLocals) {a : Addr} {argsL rest : List Value} (hlen : ∀ sig, parseMethodDescriptor y.desc = some sig → argsL.length = sig.parameters.length)
    (hstack : g.stack = argsL.reverse ++ .ref a :: rest) (hW : 2 * g.monitorRoom + (rest.map fun v => v.category).sum ≤ W9) (hdg : decode c.code g.pc = .ok (.invokespecial index, 3))
    (hpre : ∀ vm₁, s.WarmedH vm₁ → Pre ⟨T.setVm vm₁, locs, cells, slots⟩ (Value.ref a :: argsL).toArray) :
    (∃ (v : Option Value) (vm₁ : Vm) (B : Pt), s.WarmedH vm₁ ∧ Stand p l e R s m args below meth c B.U B.locs B.cells B.slots ∧ Post ⟨T.setVm vm₁, locs, cells, slots⟩ (Value.ref a :: argsL).toArray v B ∧
      ∀ target, Steps p.tables e below (B.U.setTop { g with pc := g.pc + 3, stack := v.toList ++ rest }) target → Steps p.tables e below (T.setTop g) target) ∨
    (∃ (q : Addr) (vm₁ : Vm) (B : Pt), s.WarmedH vm₁ ∧ Stand p l e R s m args below meth c B.U B.locs B.cells B.slots ∧ PostX ⟨T.setVm vm₁, locs, cells, slots⟩ (Value.ref a :: argsL).toArray q B ∧
      Steps p.tables e below (T.setTop g) ((B.U.setTop { g with stack := rest }).pushFrame (.throwing q))) := by
  subst hg
  have hpl : e.platform.magicAccessors = ({} : Platform).magicAccessors := by rw [X.admits.platform]
  obtain ⟨mk, methM, cM, kP, vm₁, hnamed, hmethM, hcodeM, -, hlocalsM, -, hkP, -, hW₁, hstep₁⟩ := Steps.initColdArgs (e := e) X.here hexec X.warmed hpl hown hy1 hy hlink hinst hcode (f := g) rfl hlen hstack hdg
  have X₁ := X.noted hW₁
  rcases hK g.method meth c ⟨T.setVm vm₁, locs, cells, slots⟩ { g with stack := rest } (.invokespecial index) mk (Value.ref a :: argsL).toArray X₁ rfl hsize hdg hW (X₁.named hnamed) (hpre vm₁ X₁.warmed) with ⟨v, B, X', hpost, hsteps⟩ | ⟨q, B, X', hpost, hsteps⟩
  · exact Or.inl ⟨v, vm₁, B, X₁.warmed, X', hpost, fun target h => hstep₁ _ fun acts => by rw [doInvoke_state]; exact hsteps.trans h⟩
  · exact Or.inr ⟨q, vm₁, B, X₁.warmed, X', hpost, hstep₁ _ fun acts => by rw [doInvoke_state]; exact hsteps⟩
end VXIA
section VXIB
variable {p : Program} {l : Launch} {e : Env} {R : Room} {s : State} {m : MethodId} {args : Array Value} {below : List Frame} {meth : Method} {c : Code} {H : Heap} {locs : List Loc} {cells slots : Nat}
variable {y : MethodName} {bytes cc : ByteArray} {maxL nL mc ms n index : Nat} {ret : Option FieldType} {ws : List Cond} {rm : Room} {Pc : Array Value → State → Prop} {Qc : Array Value → State → Outcome → State → Prop} {XC : String → State → State → Prop} {free : Addr → Prop} {Ts : List Cond} {own C : String} {b : Addr} {As rest : List Value} {g : JFrame}
theorem vx_runI (S : CallFix p m c cc nL s args Ts own) (hM : vx_Met l y ws rm Pc Qc XC mc ms free) (cw : CallB R s args own index y bytes maxL none ws rm mc ms n ∧ y.name = "<init>" ∧ (Cond.instanceMethod y).before args s = true) (hp : PreS s H Pc (.ref b :: As))
    (hg : g.method = m) (hn : As.length = n) (hsize : g.locals.size = nL) (hstack : g.stack = As.reverse ++ .ref b :: rest) (hW : 2 * g.monitorRoom + (rest.map fun v => v.category).sum ≤ 8) (hdg : decode cc g.pc = .ok (.invokespecial index, 3)) (hf : cells + mc ≤ R.cells ∧ slots + ms ≤ R.slots) :
    vx_Run p l e R s m args below meth c H locs cells slots mc ms g rest (Qc (Value.ref b :: As).toArray) XC free := by
  have hK : vx_Back l R p e below s args y 3 8 (PreOf R mc ms Pc) (PostOf Qc mc ms free) (vx_Post XC mc ms free) := vx_callBack cw.1 hM hp.1
  obtain ⟨⟨-, -, -, -, -, -, hcode, -, hy, hlen, hl⟩, hy1, hin⟩ := cw
  obtain ⟨hx, hb, hml, ho, -⟩ := S
  have hPc := hp.2
  intro T hT X
  rcases vx_callI X hx (bytes := bytes) (maxL := maxL) ho hy1 hl hin hcode hy hK hg (hsize.trans hml.symm) (a := b) (argsL := As) (rest := rest) (fun sig h => hn.trans (hlen sig h)) hstack hW (by rw [hb]; exact hdg)
    (fun vm₁ hW₁ => ⟨hf.1, hf.2, hPc (T.setVm vm₁) hT hW₁⟩) with ⟨v, vm₁, ⟨U', l2, c2, s2⟩, hW₁, X', ⟨g', mk, t, L, e1, e2, hq, h1, hL, h2, h3⟩, st⟩ | ⟨q, vm₁, ⟨U', l2, c2, s2⟩, hW₁, X', ⟨g', mk, t, L, E, ce, e1, e2, hq, hce, hcv, hcl, h1, hL, h2, h3⟩, st⟩
  · dsimp only [Pt.U, Pt.locs, Pt.cells, Pt.slots] at X' e1 e2 h1 h2 h3 st
    subst h1; subst h2; subst h3
    exact Or.inl ⟨v, (T.setVm vm₁).calling g' mk (Value.ref b :: As).toArray, t, U', L, hT, X', hL, e1, e2, hq, st⟩
  · dsimp only [Pt.U, Pt.locs, Pt.cells, Pt.slots] at X' e1 e2 h1 h2 h3 st hcl
    subst h1; subst h2; subst h3
    exact Or.inr ⟨q, (T.setVm vm₁).calling g' mk (Value.ref b :: As).toArray, t, U', L, E, ce, hT, X', hL, e1, e2, hq, hce, hcv, vx_cls hW₁ hcl, st⟩
end VXIB
/-! ===== END ===== -/
/-! ===== BEGIN a private constructor of a nest mate that throws ===== -/
section VXIC
variable {p : Program} {l : Launch} {e : Env} {R : Room} {s : State} {m : MethodId} {args : Array Value} {below : List Frame} {meth : Method} {c : Code} {T : State} {locs : List Loc} {cells slots : Nat}
theorem vx_callIN (X : Stand p l e R s m args below meth c T locs cells slots) (hexec : p.tables.exec = Jvm.exec) {own : String} {index : Nat} {host : String} {y : MethodName} {bytes : ByteArray} {maxL : Nat}
    (hown : s.vm.findClass own = some m.cls) (hy1 : y.name = "<init>") (hlink : (Cond.methodLinkNest own index y host).before args s = true) (hinst : (Cond.instanceMethod y).before args s = true)
    (hcode : (Cond.code y bytes maxL none).before args s = true) (hy : y.cls ≠ "java/lang/invoke/MethodHandle" ∧ y.cls ≠ "java/lang/invoke/VarHandle")
    {W9 : Nat} {Pre : Pt → Array Value → Prop} {Post : Pt → Array Value → Option Value → Pt → Prop} {PostX : Pt → Array Value → Addr → Pt → Prop} (hK : vx_Back l R p e below s args y 3 W9 Pre Post PostX)
    {g : JFrame} (hg : g.method = m) (hsize : g.locals.size = c.maxLocals) {a : Addr} {argsL rest : List Value} (hlen : ∀ sig, parseMethodDescriptor y.desc = some sig → argsL.length = sig.parameters.length)
    (hstack : g.stack = argsL.reverse ++ .ref a :: rest) (hW : 2 * g.monitorRoom + (rest.map fun v => v.category).sum ≤ W9) (hdg : decode c.code g.pc = .ok (.invokespecial index, 3))
    (hpre : ∀ vm₁, s.WarmedH vm₁ → Pre ⟨T.setVm vm₁, locs, cells, slots⟩ (Value.ref a :: argsL).toArray) :
    (∃ (v : Option Value) (vm₁ : Vm) (B : Pt), s.WarmedH vm₁ ∧ Stand p l e R s m args below meth c B.U B.locs B.cells B.slots ∧ Post ⟨T.setVm vm₁, locs, cells, slots⟩ (Value.ref a :: argsL).toArray v B ∧
      ∀ target, Steps p.tables e below (B.U.setTop { g with pc := g.pc + 3, stack := v.toList ++ rest }) target → Steps p.tables e below (T.setTop g) target) ∨
    (∃ (q : Addr) (vm₁ : Vm) (B : Pt), s.WarmedH vm₁ ∧ Stand p l e R s m args below meth c B.U B.locs B.cells B.slots ∧ PostX ⟨T.setVm vm₁, locs, cells, slots⟩ (Value.ref a :: argsL).toArray q B ∧
      Steps p.tables e below (T.setTop g) ((B.U.setTop { g with stack := rest }).pushFrame (.throwing q))) := by
  subst hg
  have hpl : e.platform.magicAccessors = ({} : Platform).magicAccessors := by rw [X.admits.platform]
  obtain ⟨mk, methM, cM, kP, vm₁, hnamed, hmethM, hcodeM, -, hlocalsM, -, hkP, -, hW₁, hstep₁⟩ := Steps.initColdArgsNest (e := e) X.here hexec X.warmed hpl hown hy1 hy hlink hinst hcode (f := g) rfl hlen hstack hdg
  have X₁ := X.noted hW₁
  rcases hK g.method meth c ⟨T.setVm vm₁, locs, cells, slots⟩ { g with stack := rest } (.invokespecial index) mk (Value.ref a :: argsL).toArray X₁ rfl hsize hdg hW (X₁.named hnamed) (hpre vm₁ X₁.warmed) with ⟨v, B, X', hpost, hsteps⟩ | ⟨q, B, X', hpost, hsteps⟩
  · exact Or.inl ⟨v, vm₁, B, X₁.warmed, X', hpost, fun target h => hstep₁ _ fun acts => by rw [doInvoke_state]; exact hsteps.trans h⟩
  · exact Or.inr ⟨q, vm₁, B, X₁.warmed, X', hpost, hstep₁ _ fun acts => by rw [doInvoke_state]; exact hsteps⟩
end VXIC
section VXID
variable {p : Program} {l : Launch} {e : Env} {R : Room} {s : State} {m : MethodId} {args : Array Value} {below : List Frame} {meth : Method} {c : Code} {H : Heap} {locs : List Loc} {cells slots : Nat}
theorem vx_runIN {y : MethodName} {bytes cc : ByteArray} {maxL nL mc ms n index : Nat} {ws : List Cond} {rm : Room} {Pc : Array Value → State → Prop} {Qc : Array Value → State → Outcome → State → Prop} {XC : String → State → State → Prop} {free : Addr → Prop} {Ts : List Cond} {own host : String} {b : Addr} {As rest : List Value} {g : JFrame}
    (S : CallFix p m c cc nL s args Ts own) (hM : vx_Met l y ws rm Pc Qc XC mc ms free) (cw : va_CN R s args own index y host bytes maxL none ws rm mc ms n ∧ y.name = "<init>" ∧ (Cond.instanceMethod y).before args s = true) (hp : PreS s H Pc (.ref b :: As))
    (hg : g.method = m) (hn : As.length = n) (hsize : g.locals.size = nL) (hstack : g.stack = As.reverse ++ .ref b :: rest) (hW : 2 * g.monitorRoom + (rest.map fun v => v.category).sum ≤ 8) (hdg : decode cc g.pc = .ok (.invokespecial index, 3)) (hf : cells + mc ≤ R.cells ∧ slots + ms ≤ R.slots) :
    vx_Run p l e R s m args below meth c H locs cells slots mc ms g rest (Qc (Value.ref b :: As).toArray) XC free := by
  obtain ⟨⟨⟨hrc, hrs, hfr, hlo, hws, hcw⟩, hcode, hini, hy, hlen, hl⟩, hx1, hx2⟩ := cw
  have hK : vx_Back l R p e below s args y 3 8 (PreOf R mc ms Pc) (PostOf Qc mc ms free) (vx_Post XC mc ms free) := vx_back (bytes := bytes) (maxL := maxL) (ret := none) hM hp.1 hrc hrs hfr hlo hws hcw (fun a' U hW => word_at hW (Or.inl (by first | rfl | simp [Cond.onTables, Cond.keeps, Cond.steady])) hini)
  obtain ⟨hx, hb, hml, ho, -⟩ := S
  have hPc := hp.2
  intro T hT X
  rcases vx_callIN X hx (bytes := bytes) (maxL := maxL) ho hx1 hl hx2 hcode hy hK hg (hsize.trans hml.symm) (a := b) (argsL := As) (rest := rest) (fun sig h => hn.trans (hlen sig h)) hstack hW (by rw [hb]; exact hdg)
    (fun vm₁ hW₁ => ⟨hf.1, hf.2, hPc (T.setVm vm₁) hT hW₁⟩) with ⟨v, vm₁, ⟨U', l2, c2, s2⟩, hW₁, X', ⟨g', mk, t, L, e1, e2, hq, h1, hL, h2, h3⟩, st⟩ | ⟨q, vm₁, ⟨U', l2, c2, s2⟩, hW₁, X', ⟨g', mk, t, L, E, ce, e1, e2, hq, hce, hcv, hcl, h1, hL, h2, h3⟩, st⟩
  · dsimp only [Pt.U, Pt.locs, Pt.cells, Pt.slots] at X' e1 e2 h1 h2 h3 st
    subst h1; subst h2; subst h3
    exact Or.inl ⟨v, (T.setVm vm₁).calling g' mk (Value.ref b :: As).toArray, t, U', L, hT, X', hL, e1, e2, hq, st⟩
  · dsimp only [Pt.U, Pt.locs, Pt.cells, Pt.slots] at X' e1 e2 h1 h2 h3 st hcl
    subst h1; subst h2; subst h3
    exact Or.inr ⟨q, (T.setVm vm₁).calling g' mk (Value.ref b :: As).toArray, t, U', L, E, ce, hT, X', hL, e1, e2, hq, hce, hcv, vx_cls hW₁ hcl, st⟩
end VXID
/-! ===== END ===== -/
/-! ===== BEGIN a method of a class above, found by the receiver, that may throw (follows va_callVU, va_runU of this kit) ===== -/
section
variable {p : Program} {l : Launch} {e : Env} {R : Room} {s : State} {m : MethodId} {args : Array Value} {below : List Frame} {meth : Method} {c : Code} {H : Heap} {locs : List Loc} {cells slots : Nat}
theorem vx_callVU {T : State} {locs : List Loc} {cells slots : Nat} (X : Stand p l e R s m args below meth c T locs cells slots) (hexec : p.tables.exec = Jvm.exec) {own C owner : String} {index : Nat} {x y : MethodName} {bytes : ByteArray} {maxL : Nat} {ret : Option FieldType}
    (hown : s.vm.findClass own = some m.cls) (hlink : (Cond.methodLink own index x).before args s = true) (hsame : (Cond.sameMethod x.cls owner x.name x.desc).before args s = true)
    (hd0 : va_Decl s ⟨owner, x.name, x.desc⟩) (howner : owner ≠ "java/lang/invoke/MethodHandle" ∧ owner ≠ "java/lang/invoke/VarHandle")
    (hsel : (Cond.selects C x y).before args s = true) (hinst : (Cond.instanceMethod y).before args s = true) (hcode : (Cond.code y bytes maxL ret).before args s = true)
    {W : Nat} {Pre : Pt → Array Value → Prop} {Post : Pt → Array Value → Option Value → Pt → Prop} {PostX : Pt → Array Value → Addr → Pt → Prop} (hK : vx_Back l R p e below s args y 3 W Pre Post PostX)
    {b : Addr} {cellB : Cell} (hcell : T.heap[b]? = some cellB) (hobj : cellB.vm.isStatics = false) (hcls : s.vm.findClass C = some cellB.cls)
    {g : JFrame} (hg : g.method = m) (hsize : g.locals.size = c.maxLocals) {argsL rest : List Value} (hlen : ∀ sig, parseMethodDescriptor x.desc = some sig → argsL.length = sig.parameters.length)
    (hstack : g.stack = argsL.reverse ++ .ref b :: rest) (hW : 2 * g.monitorRoom + (rest.map fun v => v.category).sum ≤ W) (hdg : decode c.code g.pc = .ok (.invokevirtual index, 3))
    (hpre : ∀ vm₁, s.WarmedH vm₁ → Pre ⟨T.setVm vm₁, locs, cells, slots⟩ (Value.ref b :: argsL).toArray) :
    (∃ (v : Option Value) (vm₁ : Vm) (B : Pt), s.WarmedH vm₁ ∧ Stand p l e R s m args below meth c B.U B.locs B.cells B.slots ∧ Post ⟨T.setVm vm₁, locs, cells, slots⟩ (Value.ref b :: argsL).toArray v B ∧
      ∀ target, Steps p.tables e below (B.U.setTop { g with pc := g.pc + 3, stack := v.toList ++ rest }) target → Steps p.tables e below (T.setTop g) target) ∨
    (∃ (q : Addr) (vm₁ : Vm) (B : Pt), s.WarmedH vm₁ ∧ Stand p l e R s m args below meth c B.U B.locs B.cells B.slots ∧ PostX ⟨T.setVm vm₁, locs, cells, slots⟩ (Value.ref b :: argsL).toArray q B ∧
      Steps p.tables e below (T.setTop g) ((B.U.setTop { g with stack := rest }).pushFrame (.throwing q))) := by
  obtain ⟨r0, r, hn, hrm, hstR, hsigR⟩ := hd0
  obtain ⟨cn, ck, r1, hcn, hck, hni, hf, hn1⟩ := Cond.sameMethod_found hsame
  cases hn.symm.trans hn1
  obtain ⟨mk, methM, hnamed, hmethM, -, habM⟩ := Cond.instanceMethod_spec hinst
  obtain ⟨c2, r2, m2, q1, q2, q3, q4, kP, hkP, hkPi⟩ := Cond.selects_spec hsel
  cases hcls.symm.trans q1
  cases hf.symm.trans q2
  cases hnamed.symm.trans q3
  have hselP : selectMethod e.platform s.vm cellB.cls r0 = .method mk := by rw [Launch.admits_selectMethod X.admits]; exact q4
  obtain ⟨vm₁, X₁, hstep₁⟩ := X.invokevirtualUp hexec hown hlink hsame howner hn hrm hstR (a := b) (cell := cellB) hcell
    (fun z h => by rw [h] at hobj; cases hobj) hselP hmethM habM hkP hkPi (g := g) hg (argsL := argsL) (rest := rest) (hlen _ hsigR) hstack hdg
  rcases hK m meth c ⟨T.setVm vm₁, locs, cells, slots⟩ { g with stack := rest } (.invokevirtual index) mk (Value.ref b :: argsL).toArray X₁ hg hsize hdg hW (X₁.named hnamed) (hpre vm₁ X₁.warmed) with ⟨v, B, X', hpost, hsteps⟩ | ⟨q, B, X', hpost, hsteps⟩
  · exact Or.inl ⟨v, vm₁, B, X₁.warmed, X', hpost, fun target h => hstep₁ _ fun acts => by rw [doInvoke_state]; exact hsteps.trans h⟩
  · exact Or.inr ⟨q, vm₁, B, X₁.warmed, X', hpost, hstep₁ _ fun acts => by rw [doInvoke_state]; exact hsteps⟩
theorem vx_runU {x y : MethodName} {bytes cc : ByteArray} {maxL nL mc ms n index : Nat} {ret : Option FieldType} {ws : List Cond} {rm : Room} {Pc : Array Value → State → Prop} {Qc : Array Value → State → Outcome → State → Prop} {XC : String → State → State → Prop} {free : Addr → Prop} {Ts : List Cond} {own C owner : String} {b : Addr} {As rest : List Value} {g : JFrame}
    (S : CallFix p m c cc nL s args Ts own) (hM : vx_Met l y ws rm Pc Qc XC mc ms free) (cw : va_CU R s args own C owner index x y bytes maxL ret ws rm mc ms n) (hp : PreV s H C b Pc As)
    (hg : g.method = m) (hn : As.length = n) (hsize : g.locals.size = nL) (hstack : g.stack = As.reverse ++ .ref b :: rest) (hW : 2 * g.monitorRoom + (rest.map fun v => v.category).sum ≤ 8) (hdg : decode cc g.pc = .ok (.invokevirtual index, 3)) (hf : cells + mc ≤ R.cells ∧ slots + ms ≤ R.slots) :
    vx_Run p l e R s m args below meth c H locs cells slots mc ms g rest (Qc (Value.ref b :: As).toArray) XC free := by
  obtain ⟨hrc, hrs, hfr, hlo, hws, hcw⟩ := cw.back
  have hini := cw.init
  have hK : vx_Back l R p e below s args y 3 8 (PreOf R mc ms Pc) (PostOf Qc mc ms free) (vx_Post XC mc ms free) := vx_back (bytes := bytes) (maxL := maxL) (ret := ret) hM hp.1 hrc hrs hfr hlo hws hcw (fun a' U hW => word_at hW (Or.inl (by first | rfl | simp [Cond.onTables, Cond.keeps, Cond.steady])) hini)
  obtain ⟨hx, hb, hml, ho, -⟩ := S
  obtain ⟨-, ⟨cellB, hcB, hoB, hclB⟩, hPc⟩ := hp
  intro T hT X
  rcases vx_callVU X hx (C := C) (owner := owner) (bytes := bytes) (maxL := maxL) (ret := ret) ho cw.link cw.same cw.decl cw.notMH cw.sel cw.inst cw.code hK (by rw [hT]; exact hcB) hoB hclB hg (hsize.trans hml.symm) (argsL := As) (rest := rest) (fun sig h => hn.trans (cw.len sig h)) hstack hW (by rw [hb]; exact hdg)
    (fun vm₁ hW₁ => ⟨hf.1, hf.2, hPc (T.setVm vm₁) hT hW₁⟩) with ⟨v, vm₁, ⟨U', l2, c2, s2⟩, hW₁, X', ⟨g', mk, t, L, e1, e2, hq, h1, hL, h2, h3⟩, st⟩ | ⟨q, vm₁, ⟨U', l2, c2, s2⟩, hW₁, X', ⟨g', mk, t, L, E, ce, e1, e2, hq, hce, hcv, hcl, h1, hL, h2, h3⟩, st⟩
  · dsimp only [Pt.U, Pt.locs, Pt.cells, Pt.slots] at X' e1 e2 h1 h2 h3 st
    subst h1; subst h2; subst h3
    exact Or.inl ⟨v, (T.setVm vm₁).calling g' mk (Value.ref b :: As).toArray, t, U', L, hT, X', hL, e1, e2, hq, st⟩
  · dsimp only [Pt.U, Pt.locs, Pt.cells, Pt.slots] at X' e1 e2 h1 h2 h3 st hcl
    subst h1; subst h2; subst h3
    exact Or.inr ⟨q, (T.setVm vm₁).calling g' mk (Value.ref b :: As).toArray, t, U', L, E, ce, hT, X', hL, e1, e2, hq, hce, hcv, vx_cls hW₁ hcl, st⟩
end
/-! ===== END ===== -/
/-! ===== BEGIN super.m(..) that may throw (follows va_callSU, va_runSU) ===== -/
section
variable {p : Program} {l : Launch} {e : Env} {R : Room} {s : State} {m : MethodId} {args : Array Value} {below : List Frame} {meth : Method} {c : Code} {H : Heap} {locs : List Loc} {cells slots : Nat}
theorem vx_callSU {T : State} {locs : List Loc} {cells slots : Nat} (X : Stand p l e R s m args below meth c T locs cells slots) (hexec : p.tables.exec = Jvm.exec) {own : String} {index : Nat} {y : MethodName} {bytes : ByteArray} {maxL : Nat} {ret : Option FieldType}
    (hown : s.vm.findClass own = some m.cls) (hlink : (Cond.methodLink own index y).before args s = true) (hsame : (Cond.sameMethod y.cls y.cls y.name y.desc).before args s = true) (hsup : (Cond.superclass own y.cls).before args s = true)
    (hinst : (Cond.instanceMethod y).before args s = true) (hcode : (Cond.code y bytes maxL ret).before args s = true) (hno : y.name ≠ "<init>")
    {W : Nat} {Pre : Pt → Array Value → Prop} {Post : Pt → Array Value → Option Value → Pt → Prop} {PostX : Pt → Array Value → Addr → Pt → Prop} (hK : vx_Back l R p e below s args y 3 W Pre Post PostX)
    {b : Addr} {cellB : Cell} {kB : Class} (hcell : T.heap[b]? = some cellB) (hobj : cellB.vm.isStatics = false) (hkB : s.vm.classes[cellB.cls]? = some kB)
    {g : JFrame} (hg : g.method = m) (hsize : g.locals.size = c.maxLocals) {argsL rest : List Value} (hlen : ∀ sig, parseMethodDescriptor y.desc = some sig → argsL.length = sig.parameters.length)
    (hstack : g.stack = argsL.reverse ++ .ref b :: rest) (hW : 2 * g.monitorRoom + (rest.map fun v => v.category).sum ≤ W) (hdg : decode c.code g.pc = .ok (.invokespecial index, 3))
    (hpre : ∀ vm₁, s.WarmedH vm₁ → Pre ⟨T.setVm vm₁, locs, cells, slots⟩ (Value.ref b :: argsL).toArray) :
    (∃ (v : Option Value) (vm₁ : Vm) (B : Pt), s.WarmedH vm₁ ∧ Stand p l e R s m args below meth c B.U B.locs B.cells B.slots ∧ Post ⟨T.setVm vm₁, locs, cells, slots⟩ (Value.ref b :: argsL).toArray v B ∧
      ∀ target, Steps p.tables e below (B.U.setTop { g with pc := g.pc + 3, stack := v.toList ++ rest }) target → Steps p.tables e below (T.setTop g) target) ∨
    (∃ (q : Addr) (vm₁ : Vm) (B : Pt), s.WarmedH vm₁ ∧ Stand p l e R s m args below meth c B.U B.locs B.cells B.slots ∧ PostX ⟨T.setVm vm₁, locs, cells, slots⟩ (Value.ref b :: argsL).toArray q B ∧
      Steps p.tables e below (T.setTop g) ((B.U.setTop { g with stack := rest }).pushFrame (.throwing q))) := by
  obtain ⟨mk, methM, hnamed, hmethM, hstM, habM⟩ := Cond.instanceMethod_spec hinst
  obtain ⟨methM', cM, hmethM', -, -, -, -, -, -, hsigM⟩ := Cond.code_spec hnamed hcode
  cases hmethM.symm.trans hmethM'
  obtain ⟨ps, dk, kp, hps, hdk, hkp, hsuper, -, -, hnid⟩ := Cond.superclass_spec hown hsup
  have hn : s.methodNamed? ⟨y.cls, y.name, y.desc⟩ = some mk := hnamed
  have hpm : ps = mk.cls := Option.some.inj (hps.symm.trans (findClass_of_methodNamed hnamed))
  have hsub : s.vm.isSubclass ps mk.cls = true := by rw [hpm]; simp [Vm.isSubclass, Vm.isSubclassAux]
  obtain ⟨vm₁, X₁, hstep₁⟩ := X.invokespecialUp hexec hown hlink hsame hn hmethM hstM habM hno hdk hnid hps hsuper hsub (a := b) (cell := cellB) hcell
    (fun z h => by rw [h] at hobj; cases hobj) hkB (g := g) hg (argsL := argsL) (rest := rest) (hlen _ hsigM) hstack hdg
  rcases hK m meth c ⟨T.setVm vm₁, locs, cells, slots⟩ { g with stack := rest } (.invokespecial index) mk (Value.ref b :: argsL).toArray X₁ hg hsize hdg hW (X₁.named hnamed) (hpre vm₁ X₁.warmed) with ⟨v, B, X', hpost, hsteps⟩ | ⟨q, B, X', hpost, hsteps⟩
  · exact Or.inl ⟨v, vm₁, B, X₁.warmed, X', hpost, fun target h => hstep₁ _ (by rw [doInvoke_state]; exact hsteps.trans h)⟩
  · exact Or.inr ⟨q, vm₁, B, X₁.warmed, X', hpost, hstep₁ _ (by rw [doInvoke_state]; exact hsteps)⟩
theorem vx_runSU {y : MethodName} {bytes cc : ByteArray} {maxL nL mc ms n index : Nat} {ret : Option FieldType} {ws : List Cond} {rm : Room} {Pc : Array Value → State → Prop} {Qc : Array Value → State → Outcome → State → Prop} {XC : String → State → State → Prop} {free : Addr → Prop} {Ts : List Cond} {own C : String} {cC : ClassId} {b : Addr} {As rest : List Value} {g : JFrame}
    (hat : ClassAt s C cC) (S : CallFix p m c cc nL s args Ts own) (hM : vx_Met l y ws rm Pc Qc XC mc ms free) (cw : va_CS R s args own index y bytes maxL ret ws rm mc ms n) (hp : PreV s H C b Pc As)
    (hg : g.method = m) (hn : As.length = n) (hsize : g.locals.size = nL) (hstack : g.stack = As.reverse ++ .ref b :: rest) (hW : 2 * g.monitorRoom + (rest.map fun v => v.category).sum ≤ 8) (hdg : decode cc g.pc = .ok (.invokespecial index, 3)) (hf : cells + mc ≤ R.cells ∧ slots + ms ≤ R.slots) :
    vx_Run p l e R s m args below meth c H locs cells slots mc ms g rest (Qc (Value.ref b :: As).toArray) XC free := by
  obtain ⟨⟨hrc, hrs, hfr, hlo, hws, hcw⟩, hl1, hl2, hl3, hl4, hini, hcode, hno, hlen⟩ := cw
  have hK : vx_Back l R p e below s args y 3 8 (PreOf R mc ms Pc) (PostOf Qc mc ms free) (vx_Post XC mc ms free) := vx_back (bytes := bytes) (maxL := maxL) (ret := ret) hM hp.1 hrc hrs hfr hlo hws hcw (fun a' U hW => word_at hW (Or.inl (by first | rfl | simp [Cond.onTables, Cond.keeps, Cond.steady])) hini)
  obtain ⟨hx, hb, hml, ho, -⟩ := S
  obtain ⟨-, ⟨cellB, hcB, hoB, hclB⟩, hPc⟩ := hp
  obtain ⟨hfc, kB, hkB, -⟩ := hat
  cases hfc.symm.trans hclB
  intro T hT X
  rcases vx_callSU X hx (bytes := bytes) (maxL := maxL) (ret := ret) ho hl1 hl2 hl3 hl4 hcode hno hK (by rw [hT]; exact hcB) hoB hkB hg (hsize.trans hml.symm) (argsL := As) (rest := rest) (fun sig h => hn.trans (hlen sig h)) hstack hW (by rw [hb]; exact hdg)
    (fun vm₁ hW₁ => ⟨hf.1, hf.2, hPc (T.setVm vm₁) hT hW₁⟩) with ⟨v, vm₁, ⟨U', l2, c2, s2⟩, hW₁, X', ⟨g', mk, t, L, e1, e2, hq, h1, hL, h2, h3⟩, st⟩ | ⟨q, vm₁, ⟨U', l2, c2, s2⟩, hW₁, X', ⟨g', mk, t, L, E, ce, e1, e2, hq, hce, hcv, hcl, h1, hL, h2, h3⟩, st⟩
  · dsimp only [Pt.U, Pt.locs, Pt.cells, Pt.slots] at X' e1 e2 h1 h2 h3 st
    subst h1; subst h2; subst h3
    exact Or.inl ⟨v, (T.setVm vm₁).calling g' mk (Value.ref b :: As).toArray, t, U', L, hT, X', hL, e1, e2, hq, st⟩
  · dsimp only [Pt.U, Pt.locs, Pt.cells, Pt.slots] at X' e1 e2 h1 h2 h3 st hcl
    subst h1; subst h2; subst h3
    exact Or.inr ⟨q, (T.setVm vm₁).calling g' mk (Value.ref b :: As).toArray, t, U', L, E, ce, hT, X', hL, e1, e2, hq, hce, hcv, vx_cls hW₁ hcl, st⟩
end
/-! ===== END ===== -/
/-! ===== BEGIN a private method of a nest mate that may throw (follows va_callVN, va_callSN, va_runVN, va_runSN) ===== -/
section
variable {p : Program} {l : Launch} {e : Env} {R : Room} {s : State} {m : MethodId} {args : Array Value} {below : List Frame} {meth : Method} {c : Code} {H : Heap} {locs : List Loc} {cells slots : Nat}
variable {T : State}
theorem vx_callVN (X : Stand p l e R s m args below meth c T locs cells slots) (hexec : p.tables.exec = Jvm.exec) {own C : String} {index : Nat} {host : String} {y : MethodName} {bytes : ByteArray} {maxL : Nat} {ret : Option FieldType}
    (hown : s.vm.findClass own = some m.cls) (hlink : (Cond.methodLinkNest own index y host).before args s = true) (hinst : (Cond.instanceMethod y).before args s = true) (hsel : (Cond.selects C y y).before args s = true)
    (hcode : (Cond.code y bytes maxL ret).before args s = true) (hy : y.cls ≠ "java/lang/invoke/MethodHandle" ∧ y.cls ≠ "java/lang/invoke/VarHandle")
    {W : Nat} {Pre : Pt → Array Value → Prop} {Post : Pt → Array Value → Option Value → Pt → Prop} {PostX : Pt → Array Value → Addr → Pt → Prop} (hK : vx_Back l R p e below s args y 3 W Pre Post PostX)
    {b : Addr} {cellB : Cell} (hcell : T.heap[b]? = some cellB) (hobj : cellB.vm.isStatics = false) (hcls : s.vm.findClass C = some cellB.cls)
    {g : JFrame} (hg : g.method = m) (hsize : g.locals.size = c.maxLocals) {argsL rest : List Value} (hlen : ∀ sig, parseMethodDescriptor y.desc = some sig → argsL.length = sig.parameters.length)
    (hstack : g.stack = argsL.reverse ++ .ref b :: rest) (hW : 2 * g.monitorRoom + (rest.map fun v => v.category).sum ≤ W) (hdg : decode c.code g.pc = .ok (.invokevirtual index, 3))
    (hpre : ∀ vm₁, s.WarmedH vm₁ → Pre ⟨T.setVm vm₁, locs, cells, slots⟩ (Value.ref b :: argsL).toArray) :
    (∃ (v : Option Value) (vm₁ : Vm) (B : Pt), s.WarmedH vm₁ ∧ Stand p l e R s m args below meth c B.U B.locs B.cells B.slots ∧ Post ⟨T.setVm vm₁, locs, cells, slots⟩ (Value.ref b :: argsL).toArray v B ∧
      ∀ target, Steps p.tables e below (B.U.setTop { g with pc := g.pc + 3, stack := v.toList ++ rest }) target → Steps p.tables e below (T.setTop g) target) ∨
    (∃ (q : Addr) (vm₁ : Vm) (B : Pt), s.WarmedH vm₁ ∧ Stand p l e R s m args below meth c B.U B.locs B.cells B.slots ∧ PostX ⟨T.setVm vm₁, locs, cells, slots⟩ (Value.ref b :: argsL).toArray q B ∧
      Steps p.tables e below (T.setTop g) ((B.U.setTop { g with stack := rest }).pushFrame (.throwing q))) := by
  obtain ⟨mk, methM, hnamed, hmethM, hstM, habM⟩ := Cond.instanceMethod_spec hinst
  obtain ⟨methM', cM, hmethM', -, -, -, -, -, -, hsigM⟩ := Cond.code_spec hnamed hcode
  cases hmethM.symm.trans hmethM'
  obtain ⟨c2, r2, m2, q1, q2, q3, q4, kP, hkP, hkPi⟩ := Cond.selects_spec hsel
  cases hcls.symm.trans q1
  cases (State.methodFound?_of_named hnamed hy).symm.trans q2
  cases hnamed.symm.trans q3
  have hselP : selectMethod e.platform s.vm cellB.cls mk = .method mk := by rw [Launch.admits_selectMethod X.admits]; exact q4
  obtain ⟨vm₁, X₁, hstep₁⟩ := X.invokevirtualNest hexec hown hlink hnamed hmethM hstM hkP hkPi hy (a := b) (cell := cellB) hcell
    (fun z h => by rw [h] at hobj; cases hobj) hselP hmethM habM hkP hkPi (g := g) hg (argsL := argsL) (rest := rest) (hlen _ hsigM) hstack hdg
  rcases hK m meth c ⟨T.setVm vm₁, locs, cells, slots⟩ { g with stack := rest } (.invokevirtual index) mk (Value.ref b :: argsL).toArray X₁ hg hsize hdg hW (X₁.named hnamed) (hpre vm₁ X₁.warmed) with ⟨v, B, X', hpost, hsteps⟩ | ⟨q, B, X', hpost, hsteps⟩
  · exact Or.inl ⟨v, vm₁, B, X₁.warmed, X', hpost, fun target h => hstep₁ _ fun acts => by rw [doInvoke_state]; exact hsteps.trans h⟩
  · exact Or.inr ⟨q, vm₁, B, X₁.warmed, X', hpost, hstep₁ _ fun acts => by rw [doInvoke_state]; exact hsteps⟩
theorem vx_callSN (X : Stand p l e R s m args below meth c T locs cells slots) (hexec : p.tables.exec = Jvm.exec) {own : String} {index : Nat} {host : String} {y : MethodName} {bytes : ByteArray} {maxL : Nat} {ret : Option FieldType}
    (hown : s.vm.findClass own = some m.cls) (hlink : (Cond.methodLinkNest own index y host).before args s = true) (hstat : (Cond.static y).before args s = true) (hinit : (Cond.initialized y.cls).before args s = true)
    (hcode : (Cond.code y bytes maxL ret).before args s = true) (hy : y.cls ≠ "java/lang/invoke/MethodHandle" ∧ y.cls ≠ "java/lang/invoke/VarHandle")
    {W : Nat} {Pre : Pt → Array Value → Prop} {Post : Pt → Array Value → Option Value → Pt → Prop} {PostX : Pt → Array Value → Addr → Pt → Prop} (hK : vx_Back l R p e below s args y 3 W Pre Post PostX)
    {g : JFrame} (hg : g.method = m) (hsize : g.locals.size = c.maxLocals) {argsL rest : List Value} (hlen : ∀ sig, parseMethodDescriptor y.desc = some sig → argsL.length = sig.parameters.length)
    (hstack : g.stack = argsL.reverse ++ rest) (hW : 2 * g.monitorRoom + (rest.map fun v => v.category).sum ≤ W) (hdg : decode c.code g.pc = .ok (.invokestatic index, 3))
    (hpre : ∀ vm₁, s.WarmedH vm₁ → Pre ⟨T.setVm vm₁, locs, cells, slots⟩ argsL.toArray) :
    (∃ (v : Option Value) (vm₁ : Vm) (B : Pt), s.WarmedH vm₁ ∧ Stand p l e R s m args below meth c B.U B.locs B.cells B.slots ∧ Post ⟨T.setVm vm₁, locs, cells, slots⟩ argsL.toArray v B ∧
      ∀ target, Steps p.tables e below (B.U.setTop { g with pc := g.pc + 3, stack := v.toList ++ rest }) target → Steps p.tables e below (T.setTop g) target) ∨
    (∃ (q : Addr) (vm₁ : Vm) (B : Pt), s.WarmedH vm₁ ∧ Stand p l e R s m args below meth c B.U B.locs B.cells B.slots ∧ PostX ⟨T.setVm vm₁, locs, cells, slots⟩ argsL.toArray q B ∧
      Steps p.tables e below (T.setTop g) ((B.U.setTop { g with stack := rest }).pushFrame (.throwing q))) := by
  obtain ⟨mk, hnamed⟩ := Cond.code_named hcode
  obtain ⟨methM, cM, hmethM, -, -, -, -, -, -, hsigM⟩ := Cond.code_spec hnamed hcode
  have hstatic : methM.isStatic = true := Cond.static_spec hnamed hmethM hstat
  obtain ⟨kP, hkP, -⟩ := className_of_methodNamed hnamed
  have hinitP : kP.init = .initialized := Cond.initialized_spec (findClass_of_methodNamed hnamed) hkP hinit
  obtain ⟨vm₁, X₁, hstep₁⟩ := X.invokestaticNest hexec hown hlink hnamed hmethM hstatic hkP hinitP hy (g := g) hg (argsL := argsL) (rest := rest) (hlen _ hsigM) hstack hdg
  rcases hK m meth c ⟨T.setVm vm₁, locs, cells, slots⟩ { g with stack := rest } (.invokestatic index) mk argsL.toArray X₁ hg hsize hdg hW (X₁.named hnamed) (hpre vm₁ X₁.warmed) with ⟨v, B, X', hpost, hsteps⟩ | ⟨q, B, X', hpost, hsteps⟩
  · exact Or.inl ⟨v, vm₁, B, X₁.warmed, X', hpost, fun target h => hstep₁ _ fun acts => by rw [doInvoke_state]; exact hsteps.trans h⟩
  · exact Or.inr ⟨q, vm₁, B, X₁.warmed, X', hpost, hstep₁ _ fun acts => by rw [doInvoke_state]; exact hsteps⟩
theorem vx_runVN {y : MethodName} {bytes cc : ByteArray} {maxL nL mc ms n index : Nat} {ret : Option FieldType} {ws : List Cond} {rm : Room} {Pc : Array Value → State → Prop} {Qc : Array Value → State → Outcome → State → Prop} {XC : String → State → State → Prop} {free : Addr → Prop} {Ts : List Cond} {own C host : String} {b : Addr} {As rest : List Value} {g : JFrame}
    (S : CallFix p m c cc nL s args Ts own) (hM : vx_Met l y ws rm Pc Qc XC mc ms free) (cw : va_CN R s args own index y host bytes maxL ret ws rm mc ms n ∧ (Cond.instanceMethod y).before args s = true ∧ (Cond.selects C y y).before args s = true) (hp : PreV s H C b Pc As)
    (hg : g.method = m) (hn : As.length = n) (hsize : g.locals.size = nL) (hstack : g.stack = As.reverse ++ .ref b :: rest) (hW : 2 * g.monitorRoom + (rest.map fun v => v.category).sum ≤ 8) (hdg : decode cc g.pc = .ok (.invokevirtual index, 3)) (hf : cells + mc ≤ R.cells ∧ slots + ms ≤ R.slots) :
    vx_Run p l e R s m args below meth c H locs cells slots mc ms g rest (Qc (Value.ref b :: As).toArray) XC free := by
  obtain ⟨⟨⟨hrc, hrs, hfr, hlo, hws, hcw⟩, hcode, hini, hy, hlen, hl⟩, hx1, hx2⟩ := cw
  have hK : vx_Back l R p e below s args y 3 8 (PreOf R mc ms Pc) (PostOf Qc mc ms free) (vx_Post XC mc ms free) := vx_back (bytes := bytes) (maxL := maxL) (ret := ret) hM hp.1 hrc hrs hfr hlo hws hcw (fun a' U hW => word_at hW (Or.inl (by first | rfl | simp [Cond.onTables, Cond.keeps, Cond.steady])) hini)
  obtain ⟨hx, hb, hml, ho, -⟩ := S
  obtain ⟨-, ⟨cellB, hcB, hoB, hclB⟩, hPc⟩ := hp
  intro T hT X
  rcases vx_callVN X hx (C := C) (bytes := bytes) (maxL := maxL) (ret := ret) ho hl hx1 hx2 hcode hy hK (by rw [hT]; exact hcB) hoB hclB hg (hsize.trans hml.symm) (argsL := As) (rest := rest) (fun sig h => hn.trans (hlen sig h)) hstack hW (by rw [hb]; exact hdg)
    (fun vm₁ hW₁ => ⟨hf.1, hf.2, hPc (T.setVm vm₁) hT hW₁⟩) with ⟨v, vm₁, ⟨U', l2, c2, s2⟩, hW₁, X', ⟨g', mk, t, L, e1, e2, hq, h1, hL, h2, h3⟩, st⟩ | ⟨q, vm₁, ⟨U', l2, c2, s2⟩, hW₁, X', ⟨g', mk, t, L, E, ce, e1, e2, hq, hce, hcv, hcl, h1, hL, h2, h3⟩, st⟩
  · dsimp only [Pt.U, Pt.locs, Pt.cells, Pt.slots] at X' e1 e2 h1 h2 h3 st
    subst h1; subst h2; subst h3
    exact Or.inl ⟨v, (T.setVm vm₁).calling g' mk (Value.ref b :: As).toArray, t, U', L, hT, X', hL, e1, e2, hq, st⟩
  · dsimp only [Pt.U, Pt.locs, Pt.cells, Pt.slots] at X' e1 e2 h1 h2 h3 st hcl
    subst h1; subst h2; subst h3
    exact Or.inr ⟨q, (T.setVm vm₁).calling g' mk (Value.ref b :: As).toArray, t, U', L, E, ce, hT, X', hL, e1, e2, hq, hce, hcv, vx_cls hW₁ hcl, st⟩
theorem vx_runSN {y : MethodName} {bytes cc : ByteArray} {maxL nL mc ms n index : Nat} {ret : Option FieldType} {ws : List Cond} {rm : Room} {Pc : Array Value → State → Prop} {Qc : Array Value → State → Outcome → State → Prop} {XC : String → State → State → Prop} {free : Addr → Prop} {Ts : List Cond} {own host : String} {As rest : List Value} {g : JFrame}
    (S : CallFix p m c cc nL s args Ts own) (hM : vx_Met l y ws rm Pc Qc XC mc ms free) (cw : va_CN R s args own index y host bytes maxL ret ws rm mc ms n ∧ (Cond.static y).before args s = true ∧ True) (hp : PreS s H Pc As)
    (hg : g.method = m) (hn : As.length = n) (hsize : g.locals.size = nL) (hstack : g.stack = As.reverse ++ rest) (hW : 2 * g.monitorRoom + (rest.map fun v => v.category).sum ≤ 8) (hdg : decode cc g.pc = .ok (.invokestatic index, 3)) (hf : cells + mc ≤ R.cells ∧ slots + ms ≤ R.slots) :
    vx_Run p l e R s m args below meth c H locs cells slots mc ms g rest (Qc As.toArray) XC free := by
  obtain ⟨⟨⟨hrc, hrs, hfr, hlo, hws, hcw⟩, hcode, hini, hy, hlen, hl⟩, hx1, hx2⟩ := cw
  have hK : vx_Back l R p e below s args y 3 8 (PreOf R mc ms Pc) (PostOf Qc mc ms free) (vx_Post XC mc ms free) := vx_back (bytes := bytes) (maxL := maxL) (ret := ret) hM hp.1 hrc hrs hfr hlo hws hcw (fun a' U hW => word_at hW (Or.inl (by first | rfl | simp [Cond.onTables, Cond.keeps, Cond.steady])) hini)
  obtain ⟨hx, hb, hml, ho, -⟩ := S
  have hPc := hp.2
  intro T hT X
  rcases vx_callSN X hx (bytes := bytes) (maxL := maxL) (ret := ret) ho hl hx1 hini hcode hy hK hg (hsize.trans hml.symm) (argsL := As) (rest := rest) (fun sig h => hn.trans (hlen sig h)) hstack hW (by rw [hb]; exact hdg)
    (fun vm₁ hW₁ => ⟨hf.1, hf.2, hPc (T.setVm vm₁) hT hW₁⟩) with ⟨v, vm₁, ⟨U', l2, c2, s2⟩, hW₁, X', ⟨g', mk, t, L, e1, e2, hq, h1, hL, h2, h3⟩, st⟩ | ⟨q, vm₁, ⟨U', l2, c2, s2⟩, hW₁, X', ⟨g', mk, t, L, E, ce, e1, e2, hq, hce, hcv, hcl, h1, hL, h2, h3⟩, st⟩
  · dsimp only [Pt.U, Pt.locs, Pt.cells, Pt.slots] at X' e1 e2 h1 h2 h3 st
    subst h1; subst h2; subst h3
    exact Or.inl ⟨v, (T.setVm vm₁).calling g' mk As.toArray, t, U', L, hT, X', hL, e1, e2, hq, st⟩
  · dsimp only [Pt.U, Pt.locs, Pt.cells, Pt.slots] at X' e1 e2 h1 h2 h3 st hcl
    subst h1; subst h2; subst h3
    exact Or.inr ⟨q, (T.setVm vm₁).calling g' mk As.toArray, t, U', L, E, ce, hT, X', hL, e1, e2, hq, hce, hcv, vx_cls hW₁ hcl, st⟩
end
/-! ===== END ===== -/
/-! ===== BEGIN calls by an interface of methods that may throw (vx_callIF, vx_runF follow va_callIF, va_runF of this kit) ===== -/
section
variable {p : Program} {l : Launch} {e : Env} {R : Room} {s : State} {m : MethodId} {args : Array Value} {below : List Frame} {meth : Method} {c : Code} {H : Heap} {locs : List Loc} {cells slots : Nat} {Q : State → Prop}
variable {mc ms : Nat} {free : Addr → Prop} {A0 A1 : Nat → Prop} {H0 : Heap} {a : Array Value} {pc : Nat} {ls : Array Slot} {st0 rest : List Value}
def vx_Run5 (p : Program) (l : Launch) (e : Env) (R : Room) (s : State) (m : MethodId) (args : Array Value) (below : List Frame) (meth : Method) (c : Code) (H : Heap) (locs : List Loc) (cells slots mc ms : Nat) (g : JFrame) (rest : List Value) (Qa : State → Outcome → State → Prop) (XC : String → State → State → Prop) (free : Addr → Prop) : Prop :=
  ∀ T : State, T.heap = H → Stand p l e R s m args below meth c T locs cells slots →
    (∃ (v : Option Value) (st₀ t T' : State) (L : List Loc), st₀.heap = H ∧ Stand p l e R s m args below meth c T' (locs ++ L) (cells + mc) (slots + ms) ∧ (∀ q ∈ L, free q.base) ∧ T'.heap = t.heap ∧ T'.vm = t.vm ∧ Qa st₀ (.returned v) t ∧
      Goes p e below T g T' { g with pc := g.pc + 5, stack := v.toList ++ rest }) ∨
    (∃ (q : Addr) (st₀ t T' : State) (L : List Loc) (E : String) (ce : Cell), st₀.heap = H ∧ Stand p l e R s m args below meth c T' (locs ++ L) (cells + mc) (slots + ms) ∧ (∀ z ∈ L, free z.base) ∧ T'.heap = t.heap ∧ T'.vm = t.vm ∧ XC E st₀ t ∧ t.heap[q]? = some ce ∧ ce.vm = .none ∧ s.vm.findClass E = some ce.cls ∧
      Steps p.tables e below (T.setTop g) ((T'.setTop { g with stack := rest }).pushFrame (.throwing q)))
theorem vx_callIF {T : State} (X : Stand p l e R s m args below meth c T locs cells slots) (hexec : p.tables.exec = Jvm.exec) {own C : String} {index count : Nat} {x y : MethodName} {bytes : ByteArray} {maxL : Nat} {ret : Option FieldType}
    (hown : s.vm.findClass own = some m.cls) (hlink : (Cond.methodLink own index x).before args s = true) (hdecl : (Cond.declares x).before args s = true) (hface : (Cond.interfaceMethod x.cls x.cls x.name x.desc).before args s = true)
    (hsel : (Cond.selects C x y).before args s = true) (hinst : (Cond.instanceMethod y).before args s = true) (hpub : (Cond.publicMethod y).before args s = true) (hunh : (Cond.unhidden C x.name x.desc).before args s = true)
    (hcast : (Cond.castable C x.cls).before args s = true) (hcode : (Cond.code y bytes maxL ret).before args s = true) (hx : x.cls ≠ "java/lang/invoke/MethodHandle" ∧ x.cls ≠ "java/lang/invoke/VarHandle")
    {W9 : Nat} {Pre : Pt → Array Value → Prop} {Post : Pt → Array Value → Option Value → Pt → Prop} {PostX : Pt → Array Value → Addr → Pt → Prop} (hK : vx_Back l R p e below s args y 5 W9 Pre Post PostX)
    {b : Addr} {cellB : Cell} {kB : Class} (hcell : T.heap[b]? = some cellB) (hobj : cellB.vm.isStatics = false) (hcls : s.vm.findClass C = some cellB.cls) (hkB : s.vm.classes[cellB.cls]? = some kB)
    {g : JFrame} (hg : g.method = m) (hsize : g.locals.size = c.maxLocals) {argsL rest : List Value} (hlen : ∀ sig, parseMethodDescriptor x.desc = some sig → argsL.length = sig.parameters.length)
    (hstack : g.stack = argsL.reverse ++ .ref b :: rest) (hW : 2 * g.monitorRoom + (rest.map fun v => v.category).sum ≤ W9) (hdg : decode c.code g.pc = .ok (.invokeinterface index count, 5))
    (hpre : ∀ vm₁, s.WarmedH vm₁ → Pre ⟨T.setVm vm₁, locs, cells, slots⟩ (Value.ref b :: argsL).toArray) :
    (∃ (v : Option Value) (vm₁ : Vm) (B : Pt), s.WarmedH vm₁ ∧ Stand p l e R s m args below meth c B.U B.locs B.cells B.slots ∧ Post ⟨T.setVm vm₁, locs, cells, slots⟩ (Value.ref b :: argsL).toArray v B ∧
      ∀ target, Steps p.tables e below (B.U.setTop { g with pc := g.pc + 5, stack := v.toList ++ rest }) target → Steps p.tables e below (T.setTop g) target) ∨
    (∃ (q : Addr) (vm₁ : Vm) (B : Pt), s.WarmedH vm₁ ∧ Stand p l e R s m args below meth c B.U B.locs B.cells B.slots ∧ PostX ⟨T.setVm vm₁, locs, cells, slots⟩ (Value.ref b :: argsL).toArray q B ∧
      Steps p.tables e below (T.setTop g) ((B.U.setTop { g with stack := rest }).pushFrame (.throwing q))) := by
  obtain ⟨r0, r, hn, hrm, hstR, hsigR⟩ := Cond.declares_spec hdecl
  obtain ⟨cL, kL, r1, hcL, hkL, hiL, hfoundL, hn1⟩ := Cond.interfaceMethod_spec hface
  cases hn.symm.trans hn1
  have hr0cls : r0.cls = cL := Option.some.inj ((findClass_of_methodNamed hn).symm.trans hcL)
  obtain ⟨hnameR, hdescR⟩ := name_of_methodNamed hn hrm
  obtain ⟨mk, methM, hnamed, hmethM, -, habM⟩ := Cond.instanceMethod_spec hinst
  obtain ⟨c2, r2, m2, q1, q2, q3, q4, -⟩ := Cond.selects_spec hsel
  cases hcls.symm.trans q1
  cases hfoundL.symm.trans q2
  cases hnamed.symm.trans q3
  have hselP : selectMethod e.platform s.vm cellB.cls r0 = .method mk := by rw [Launch.admits_selectMethod X.admits]; exact q4
  have hpubM : hasFlag methM.accessFlags Acc.public_ = true := Cond.publicMethod_spec hnamed hmethM hpub
  have hway : ((cellB.cls :: s.vm.superclasses cellB.cls).any fun k => (declaredIn s.vm r.name r.desc k).any fun (_, z) => z.isPrivate || z.isStatic) = false := by
    rw [hnameR, hdescR]; exact Cond.unhidden_spec hcls hunh
  obtain ⟨c3, t3, w1, w2, w3⟩ := Cond.castable_spec hcast
  cases hcls.symm.trans w1
  cases hcL.symm.trans w2
  obtain ⟨vm₁, X₁, hstep₁⟩ := X.invokeinterface hexec hown hlink hn hrm hstR (by rw [hr0cls]; exact hkL) hiL hx (a := b) (cell := cellB) (kcell := kB) hcell
    (fun z h => by rw [h] at hobj; cases hobj) hkB (by rw [hr0cls]; exact w3) hselP hmethM hway hpubM habM (g := g) hg (argsL := argsL) (rest := rest) (hlen _ hsigR) hstack hdg
  rcases hK m meth c ⟨T.setVm vm₁, locs, cells, slots⟩ { g with stack := rest } (.invokeinterface index count) mk (Value.ref b :: argsL).toArray X₁ hg hsize hdg hW (X₁.named hnamed) (hpre vm₁ X₁.warmed) with ⟨v, B, X', hpost, hsteps⟩ | ⟨q, B, X', hpost, hsteps⟩
  · exact Or.inl ⟨v, vm₁, B, X₁.warmed, X', hpost, fun target h => hstep₁ _ fun acts => by rw [doInvoke_state]; exact hsteps.trans h⟩
  · exact Or.inr ⟨q, vm₁, B, X₁.warmed, X', hpost, hstep₁ _ fun acts => by rw [doInvoke_state]; exact hsteps⟩
theorem vx_runF {x y : MethodName} {bytes cc : ByteArray} {maxL nL mc ms n index count : Nat} {ret : Option FieldType} {ws : List Cond} {rm : Room} {Pc : Array Value → State → Prop} {Qc : Array Value → State → Outcome → State → Prop} {XC : String → State → State → Prop} {free : Addr → Prop} {Ts : List Cond} {own C : String} {cC : ClassId} {b : Addr} {As rest : List Value} {g : JFrame}
    (hat : ClassAt s C cC) (S : CallFix p m c cc nL s args Ts own) (hM : vx_Met l y ws rm Pc Qc XC mc ms free) (cw : va_CI R s args own C index x y bytes maxL ret ws rm mc ms n) (hp : PreV s H C b Pc As)
    (hg : g.method = m) (hn : As.length = n) (hsize : g.locals.size = nL) (hstack : g.stack = As.reverse ++ .ref b :: rest) (hW : 2 * g.monitorRoom + (rest.map fun v => v.category).sum ≤ 8) (hdg : decode cc g.pc = .ok (.invokeinterface index count, 5)) (hf : cells + mc ≤ R.cells ∧ slots + ms ≤ R.slots) :
    vx_Run5 p l e R s m args below meth c H locs cells slots mc ms g rest (Qc (Value.ref b :: As).toArray) XC free := by
  obtain ⟨hrc, hrs, hfr, hlo, hws, hcw⟩ := cw.back
  have hini := cw.init
  have hK : vx_Back l R p e below s args y 5 8 (PreOf R mc ms Pc) (PostOf Qc mc ms free) (vx_Post XC mc ms free) := vx_back (bytes := bytes) (maxL := maxL) (ret := ret) hM hp.1 hrc hrs hfr hlo hws hcw (fun a' U hW => word_at hW (Or.inl (by first | rfl | simp [Cond.onTables, Cond.keeps, Cond.steady])) hini)
  obtain ⟨hx, hb, hml, ho, -⟩ := S
  obtain ⟨-, ⟨cellB, hcB, hoB, hclB⟩, hPc⟩ := hp
  obtain ⟨hfc, kB, hkB, -⟩ := hat
  cases hfc.symm.trans hclB
  intro T hT X
  rcases vx_callIF X hx (C := C) (bytes := bytes) (maxL := maxL) (ret := ret) ho cw.link cw.decl cw.face cw.sel cw.inst cw.pub cw.unh cw.cast cw.code cw.notMH hK (by rw [hT]; exact hcB) hoB hclB hkB hg (hsize.trans hml.symm) (argsL := As) (rest := rest) (fun sig h => hn.trans (cw.len sig h)) hstack hW (by rw [hb]; exact hdg)
    (fun vm₁ hW₁ => ⟨hf.1, hf.2, hPc (T.setVm vm₁) hT hW₁⟩) with ⟨v, vm₁, ⟨U', l2, c2, s2⟩, hW₁, X', ⟨g', mk, t, L, e1, e2, hq, h1, hL, h2, h3⟩, st⟩ | ⟨q, vm₁, ⟨U', l2, c2, s2⟩, hW₁, X', ⟨g', mk, t, L, E, ce, e1, e2, hq, hce, hcv, hcl, h1, hL, h2, h3⟩, st⟩
  · dsimp only [Pt.U, Pt.locs, Pt.cells, Pt.slots] at X' e1 e2 h1 h2 h3 st
    subst h1; subst h2; subst h3
    exact Or.inl ⟨v, (T.setVm vm₁).calling g' mk (Value.ref b :: As).toArray, t, U', L, hT, X', hL, e1, e2, hq, st⟩
  · dsimp only [Pt.U, Pt.locs, Pt.cells, Pt.slots] at X' e1 e2 h1 h2 h3 st hcl
    subst h1; subst h2; subst h3
    exact Or.inr ⟨q, (T.setVm vm₁).calling g' mk (Value.ref b :: As).toArray, t, U', L, E, ce, hT, X', hL, e1, e2, hq, hce, hcv, vx_cls hW₁ hcl, st⟩
theorem vx_callFv {S SX : Type} {post : S → Prop} {px : SX → Prop} {B : S → State → Prop} {BX : String → SX → State → Prop} {AX : Nat → Prop} (hr : vx_Run5 p l e R s m args below meth c H locs cells slots mc ms (F0 m pc ls st0) rest (va_Qv post B A1 a) (vx_X px BX AX) free) (hS : va_S A0 H0 H locs) (hA : ∀ q, q < H.size → A1 q → A0 q) (hf : ∀ q, free q → A0 q) (hAX : ∀ q, q < H.size → AX q → A0 q)
    (kx : ∀ (E : String) (ce : Cell) (q9 : Addr) (u : SX) (t : State) (H1 : Heap) (locs1 : List Loc), t.heap = H1 → s.vm.Alike t.vm → px u → BX E u t → H.size ≤ H1.size → (∀ q : Nat, q < H.size → ¬ AX q → H1[q]? = H[q]?) → va_S A0 H0 H1 locs1 → H1[q9]? = some ce → ce.vm = .none → s.vm.findClass E = some ce.cls → vx_W p l e R s m args below meth c H1 locs1 (cells + mc) (slots + ms) Q (F0 m pc ls rest) q9)
    (kk : ∀ (u : S) (t : State) (H1 : Heap) (locs1 : List Loc), t.heap = H1 → s.vm.Alike t.vm → post u → B u t → H.size ≤ H1.size → (∀ q : Nat, q < H.size → ¬ A1 q → H1[q]? = H[q]?) → va_S A0 H0 H1 locs1 → W p l e R s m args below meth c H1 locs1 (cells + mc) (slots + ms) Q (F0 m (pc + 5) ls (rest))) : W p l e R s m args below meth c H locs cells slots Q (F0 m pc ls st0) := by
  intro T hT X
  rcases hr T hT X with ⟨v, st₀, t, T', L, h0, X', hL, e1, e2, ⟨⟨u, hv, hp, hb⟩, hF⟩, st⟩ | ⟨q, st₀, t, T', L, E, ce, h0, X', hL, e1, e2, ⟨u, hp, hb, hF⟩, hce, hcv, hcl, st⟩
  · cases hv
    obtain ⟨k1, k2, k3⟩ := vx_keep h0 e1 hS hA hf hL hF
    obtain ⟨t2, a1, b1⟩ := kk u t T'.heap (locs ++ L) e1.symm (by rw [← e2]; exact X'.warmed.alike) hp hb k1 k2 k3 T' rfl X'
    exact ⟨t2, st t2 a1, b1⟩
  · obtain ⟨k1, k2, k3⟩ := vx_keep h0 e1 hS hAX hf hL hF
    obtain ⟨t2, a1, b1⟩ := kx E ce q u t T'.heap (locs ++ L) e1.symm (by rw [← e2]; exact X'.warmed.alike) hp hb k1 k2 k3 (by rw [e1]; exact hce) hcv hcl T' rfl X'
    exact ⟨t2, st.trans a1, b1⟩
theorem vx_callFi {S SX : Type} {post : Int32 → S → Prop} {px : SX → Prop} {B : S → State → Prop} {BX : String → SX → State → Prop} {AX : Nat → Prop} (hr : vx_Run5 p l e R s m args below meth c H locs cells slots mc ms (F0 m pc ls st0) rest (va_Qi post B A1 a) (vx_X px BX AX) free) (hS : va_S A0 H0 H locs) (hA : ∀ q, q < H.size → A1 q → A0 q) (hf : ∀ q, free q → A0 q) (hAX : ∀ q, q < H.size → AX q → A0 q)
    (kx : ∀ (E : String) (ce : Cell) (q9 : Addr) (u : SX) (t : State) (H1 : Heap) (locs1 : List Loc), t.heap = H1 → s.vm.Alike t.vm → px u → BX E u t → H.size ≤ H1.size → (∀ q : Nat, q < H.size → ¬ AX q → H1[q]? = H[q]?) → va_S A0 H0 H1 locs1 → H1[q9]? = some ce → ce.vm = .none → s.vm.findClass E = some ce.cls → vx_W p l e R s m args below meth c H1 locs1 (cells + mc) (slots + ms) Q (F0 m pc ls rest) q9)
    (kk : ∀ (r : Int32) (u : S) (t : State) (H1 : Heap) (locs1 : List Loc), t.heap = H1 → s.vm.Alike t.vm → post r u → B u t → H.size ≤ H1.size → (∀ q : Nat, q < H.size → ¬ A1 q → H1[q]? = H[q]?) → va_S A0 H0 H1 locs1 → W p l e R s m args below meth c H1 locs1 (cells + mc) (slots + ms) Q (F0 m (pc + 5) ls (.int r :: rest))) : W p l e R s m args below meth c H locs cells slots Q (F0 m pc ls st0) := by
  intro T hT X
  rcases hr T hT X with ⟨v, st₀, t, T', L, h0, X', hL, e1, e2, ⟨⟨r, u, hv, hp, hb⟩, hF⟩, st⟩ | ⟨q, st₀, t, T', L, E, ce, h0, X', hL, e1, e2, ⟨u, hp, hb, hF⟩, hce, hcv, hcl, st⟩
  · cases hv
    obtain ⟨k1, k2, k3⟩ := vx_keep h0 e1 hS hA hf hL hF
    obtain ⟨t2, a1, b1⟩ := kk r u t T'.heap (locs ++ L) e1.symm (by rw [← e2]; exact X'.warmed.alike) hp hb k1 k2 k3 T' rfl X'
    exact ⟨t2, st t2 a1, b1⟩
  · obtain ⟨k1, k2, k3⟩ := vx_keep h0 e1 hS hAX hf hL hF
    obtain ⟨t2, a1, b1⟩ := kx E ce q u t T'.heap (locs ++ L) e1.symm (by rw [← e2]; exact X'.warmed.alike) hp hb k1 k2 k3 (by rw [e1]; exact hce) hcv hcl T' rfl X'
    exact ⟨t2, st.trans a1, b1⟩
theorem vx_callFl {S SX : Type} {post : Int64 → S → Prop} {px : SX → Prop} {B : S → State → Prop} {BX : String → SX → State → Prop} {AX : Nat → Prop} (hr : vx_Run5 p l e R s m args below meth c H locs cells slots mc ms (F0 m pc ls st0) rest (va_Ql post B A1 a) (vx_X px BX AX) free) (hS : va_S A0 H0 H locs) (hA : ∀ q, q < H.size → A1 q → A0 q) (hf : ∀ q, free q → A0 q) (hAX : ∀ q, q < H.size → AX q → A0 q)
    (kx : ∀ (E : String) (ce : Cell) (q9 : Addr) (u : SX) (t : State) (H1 : Heap) (locs1 : List Loc), t.heap = H1 → s.vm.Alike t.vm → px u → BX E u t → H.size ≤ H1.size → (∀ q : Nat, q < H.size → ¬ AX q → H1[q]? = H[q]?) → va_S A0 H0 H1 locs1 → H1[q9]? = some ce → ce.vm = .none → s.vm.findClass E = some ce.cls → vx_W p l e R s m args below meth c H1 locs1 (cells + mc) (slots + ms) Q (F0 m pc ls rest) q9)
    (kk : ∀ (r : Int64) (u : S) (t : State) (H1 : Heap) (locs1 : List Loc), t.heap = H1 → s.vm.Alike t.vm → post r u → B u t → H.size ≤ H1.size → (∀ q : Nat, q < H.size → ¬ A1 q → H1[q]? = H[q]?) → va_S A0 H0 H1 locs1 → W p l e R s m args below meth c H1 locs1 (cells + mc) (slots + ms) Q (F0 m (pc + 5) ls (.long r :: rest))) : W p l e R s m args below meth c H locs cells slots Q (F0 m pc ls st0) := by
  intro T hT X
  rcases hr T hT X with ⟨v, st₀, t, T', L, h0, X', hL, e1, e2, ⟨⟨r, u, hv, hp, hb⟩, hF⟩, st⟩ | ⟨q, st₀, t, T', L, E, ce, h0, X', hL, e1, e2, ⟨u, hp, hb, hF⟩, hce, hcv, hcl, st⟩
  · cases hv
    obtain ⟨k1, k2, k3⟩ := vx_keep h0 e1 hS hA hf hL hF
    obtain ⟨t2, a1, b1⟩ := kk r u t T'.heap (locs ++ L) e1.symm (by rw [← e2]; exact X'.warmed.alike) hp hb k1 k2 k3 T' rfl X'
    exact ⟨t2, st t2 a1, b1⟩
  · obtain ⟨k1, k2, k3⟩ := vx_keep h0 e1 hS hAX hf hL hF
    obtain ⟨t2, a1, b1⟩ := kx E ce q u t T'.heap (locs ++ L) e1.symm (by rw [← e2]; exact X'.warmed.alike) hp hb k1 k2 k3 (by rw [e1]; exact hce) hcv hcl T' rfl X'
    exact ⟨t2, st.trans a1, b1⟩
theorem vx_callFf {S SX : Type} {post : UInt32 → S → Prop} {px : SX → Prop} {B : S → State → Prop} {BX : String → SX → State → Prop} {AX : Nat → Prop} (hr : vx_Run5 p l e R s m args below meth c H locs cells slots mc ms (F0 m pc ls st0) rest (va_Qf post B A1 a) (vx_X px BX AX) free) (hS : va_S A0 H0 H locs) (hA : ∀ q, q < H.size → A1 q → A0 q) (hf : ∀ q, free q → A0 q) (hAX : ∀ q, q < H.size → AX q → A0 q)
    (kx : ∀ (E : String) (ce : Cell) (q9 : Addr) (u : SX) (t : State) (H1 : Heap) (locs1 : List Loc), t.heap = H1 → s.vm.Alike t.vm → px u → BX E u t → H.size ≤ H1.size → (∀ q : Nat, q < H.size → ¬ AX q → H1[q]? = H[q]?) → va_S A0 H0 H1 locs1 → H1[q9]? = some ce → ce.vm = .none → s.vm.findClass E = some ce.cls → vx_W p l e R s m args below meth c H1 locs1 (cells + mc) (slots + ms) Q (F0 m pc ls rest) q9)
    (kk : ∀ (r : UInt32) (u : S) (t : State) (H1 : Heap) (locs1 : List Loc), t.heap = H1 → s.vm.Alike t.vm → post r u → B u t → H.size ≤ H1.size → (∀ q : Nat, q < H.size → ¬ A1 q → H1[q]? = H[q]?) → va_S A0 H0 H1 locs1 → W p l e R s m args below meth c H1 locs1 (cells + mc) (slots + ms) Q (F0 m (pc + 5) ls (.float r :: rest))) : W p l e R s m args below meth c H locs cells slots Q (F0 m pc ls st0) := by
  intro T hT X
  rcases hr T hT X with ⟨v, st₀, t, T', L, h0, X', hL, e1, e2, ⟨⟨r, u, hv, hp, hb⟩, hF⟩, st⟩ | ⟨q, st₀, t, T', L, E, ce, h0, X', hL, e1, e2, ⟨u, hp, hb, hF⟩, hce, hcv, hcl, st⟩
  · cases hv
    obtain ⟨k1, k2, k3⟩ := vx_keep h0 e1 hS hA hf hL hF
    obtain ⟨t2, a1, b1⟩ := kk r u t T'.heap (locs ++ L) e1.symm (by rw [← e2]; exact X'.warmed.alike) hp hb k1 k2 k3 T' rfl X'
    exact ⟨t2, st t2 a1, b1⟩
  · obtain ⟨k1, k2, k3⟩ := vx_keep h0 e1 hS hAX hf hL hF
    obtain ⟨t2, a1, b1⟩ := kx E ce q u t T'.heap (locs ++ L) e1.symm (by rw [← e2]; exact X'.warmed.alike) hp hb k1 k2 k3 (by rw [e1]; exact hce) hcv hcl T' rfl X'
    exact ⟨t2, st.trans a1, b1⟩
theorem vx_callFd {S SX : Type} {post : UInt64 → S → Prop} {px : SX → Prop} {B : S → State → Prop} {BX : String → SX → State → Prop} {AX : Nat → Prop} (hr : vx_Run5 p l e R s m args below meth c H locs cells slots mc ms (F0 m pc ls st0) rest (va_Qd post B A1 a) (vx_X px BX AX) free) (hS : va_S A0 H0 H locs) (hA : ∀ q, q < H.size → A1 q → A0 q) (hf : ∀ q, free q → A0 q) (hAX : ∀ q, q < H.size → AX q → A0 q)
    (kx : ∀ (E : String) (ce : Cell) (q9 : Addr) (u : SX) (t : State) (H1 : Heap) (locs1 : List Loc), t.heap = H1 → s.vm.Alike t.vm → px u → BX E u t → H.size ≤ H1.size → (∀ q : Nat, q < H.size → ¬ AX q → H1[q]? = H[q]?) → va_S A0 H0 H1 locs1 → H1[q9]? = some ce → ce.vm = .none → s.vm.findClass E = some ce.cls → vx_W p l e R s m args below meth c H1 locs1 (cells + mc) (slots + ms) Q (F0 m pc ls rest) q9)
    (kk : ∀ (r : UInt64) (u : S) (t : State) (H1 : Heap) (locs1 : List Loc), t.heap = H1 → s.vm.Alike t.vm → post r u → B u t → H.size ≤ H1.size → (∀ q : Nat, q < H.size → ¬ A1 q → H1[q]? = H[q]?) → va_S A0 H0 H1 locs1 → W p l e R s m args below meth c H1 locs1 (cells + mc) (slots + ms) Q (F0 m (pc + 5) ls (.double r :: rest))) : W p l e R s m args below meth c H locs cells slots Q (F0 m pc ls st0) := by
  intro T hT X
  rcases hr T hT X with ⟨v, st₀, t, T', L, h0, X', hL, e1, e2, ⟨⟨r, u, hv, hp, hb⟩, hF⟩, st⟩ | ⟨q, st₀, t, T', L, E, ce, h0, X', hL, e1, e2, ⟨u, hp, hb, hF⟩, hce, hcv, hcl, st⟩
  · cases hv
    obtain ⟨k1, k2, k3⟩ := vx_keep h0 e1 hS hA hf hL hF
    obtain ⟨t2, a1, b1⟩ := kk r u t T'.heap (locs ++ L) e1.symm (by rw [← e2]; exact X'.warmed.alike) hp hb k1 k2 k3 T' rfl X'
    exact ⟨t2, st t2 a1, b1⟩
  · obtain ⟨k1, k2, k3⟩ := vx_keep h0 e1 hS hAX hf hL hF
    obtain ⟨t2, a1, b1⟩ := kx E ce q u t T'.heap (locs ++ L) e1.symm (by rw [← e2]; exact X'.warmed.alike) hp hb k1 k2 k3 (by rw [e1]; exact hce) hcv hcl T' rfl X'
    exact ⟨t2, st.trans a1, b1⟩
end
/-! ===== END ===== -/
/-! ===== BEGIN by an interface, a method with a table of its own that may throw (follows va_callIFW, va_runFW) ===== -/
section
variable {p : Program} {l : Launch} {e : Env} {R : Room} {s : State} {m : MethodId} {args : Array Value} {below : List Frame} {meth : Method} {c : Code} {H : Heap} {locs : List Loc} {cells slots : Nat}
theorem vx_callIFW {T : State} (X : Stand p l e R s m args below meth c T locs cells slots) (hexec : p.tables.exec = Jvm.exec) {own C : String} {index count : Nat} {x y : MethodName} {bytes : ByteArray} {maxL : Nat} {ret : Option FieldType} {hh : List (Nat × Nat × Nat × Nat)}
    (hown : s.vm.findClass own = some m.cls) (hlink : (Cond.methodLink own index x).before args s = true) (hdecl : (Cond.declares x).before args s = true) (hface : (Cond.interfaceMethod x.cls x.cls x.name x.desc).before args s = true)
    (hsel : (Cond.selects C x y).before args s = true) (hinst : (Cond.instanceMethod y).before args s = true) (hpub : (Cond.publicMethod y).before args s = true) (hunh : (Cond.unhidden C x.name x.desc).before args s = true)
    (hcast : (Cond.castable C x.cls).before args s = true) (hcode : (Cond.codeWith y bytes maxL ret hh).before args s = true) (hx : x.cls ≠ "java/lang/invoke/MethodHandle" ∧ x.cls ≠ "java/lang/invoke/VarHandle")
    {W : Nat} {Pre : Pt → Array Value → Prop} {Post : Pt → Array Value → Option Value → Pt → Prop} {PostX : Pt → Array Value → Addr → Pt → Prop} (hK : vx_Back l R p e below s args y 5 W Pre Post PostX)
    {b : Addr} {cellB : Cell} {kB : Class} (hcell : T.heap[b]? = some cellB) (hobj : cellB.vm.isStatics = false) (hcls : s.vm.findClass C = some cellB.cls) (hkB : s.vm.classes[cellB.cls]? = some kB)
    {g : JFrame} (hg : g.method = m) (hsize : g.locals.size = c.maxLocals) {argsL rest : List Value} (hlen : ∀ sig, parseMethodDescriptor x.desc = some sig → argsL.length = sig.parameters.length)
    (hstack : g.stack = argsL.reverse ++ .ref b :: rest) (hW : 2 * g.monitorRoom + (rest.map fun v => v.category).sum ≤ W) (hdg : decode c.code g.pc = .ok (.invokeinterface index count, 5))
    (hpre : ∀ vm₁, s.WarmedH vm₁ → Pre ⟨T.setVm vm₁, locs, cells, slots⟩ (Value.ref b :: argsL).toArray) :
    (∃ (v : Option Value) (vm₁ : Vm) (B : Pt), s.WarmedH vm₁ ∧ Stand p l e R s m args below meth c B.U B.locs B.cells B.slots ∧ Post ⟨T.setVm vm₁, locs, cells, slots⟩ (Value.ref b :: argsL).toArray v B ∧
      ∀ target, Steps p.tables e below (B.U.setTop { g with pc := g.pc + 5, stack := v.toList ++ rest }) target → Steps p.tables e below (T.setTop g) target) ∨
    (∃ (q : Addr) (vm₁ : Vm) (B : Pt), s.WarmedH vm₁ ∧ Stand p l e R s m args below meth c B.U B.locs B.cells B.slots ∧ PostX ⟨T.setVm vm₁, locs, cells, slots⟩ (Value.ref b :: argsL).toArray q B ∧
      Steps p.tables e below (T.setTop g) ((B.U.setTop { g with stack := rest }).pushFrame (.throwing q))) := by
  obtain ⟨r0, r, hn, hrm, hstR, hsigR⟩ := Cond.declares_spec hdecl
  obtain ⟨cL, kL, r1, hcL, hkL, hiL, hfoundL, hn1⟩ := Cond.interfaceMethod_spec hface
  cases hn.symm.trans hn1
  have hr0cls : r0.cls = cL := Option.some.inj ((findClass_of_methodNamed hn).symm.trans hcL)
  obtain ⟨hnameR, hdescR⟩ := name_of_methodNamed hn hrm
  obtain ⟨mk, methM, hnamed, hmethM, -, habM⟩ := Cond.instanceMethod_spec hinst
  obtain ⟨c2, r2, m2, q1, q2, q3, q4, -⟩ := Cond.selects_spec hsel
  cases hcls.symm.trans q1
  cases hfoundL.symm.trans q2
  cases hnamed.symm.trans q3
  have hselP : selectMethod e.platform s.vm cellB.cls r0 = .method mk := by rw [Launch.admits_selectMethod X.admits]; exact q4
  have hpubM : hasFlag methM.accessFlags Acc.public_ = true := Cond.publicMethod_spec hnamed hmethM hpub
  have hway : ((cellB.cls :: s.vm.superclasses cellB.cls).any fun k => (declaredIn s.vm r.name r.desc k).any fun (_, z) => z.isPrivate || z.isStatic) = false := by
    rw [hnameR, hdescR]; exact Cond.unhidden_spec hcls hunh
  obtain ⟨c3, t3, w1, w2, w3⟩ := Cond.castable_spec hcast
  cases hcls.symm.trans w1
  cases hcL.symm.trans w2
  obtain ⟨vm₁, X₁, hstep₁⟩ := X.invokeinterface hexec hown hlink hn hrm hstR (by rw [hr0cls]; exact hkL) hiL hx (a := b) (cell := cellB) (kcell := kB) hcell
    (fun z h => by rw [h] at hobj; cases hobj) hkB (by rw [hr0cls]; exact w3) hselP hmethM hway hpubM habM (g := g) hg (argsL := argsL) (rest := rest) (hlen _ hsigR) hstack hdg
  rcases hK m meth c ⟨T.setVm vm₁, locs, cells, slots⟩ { g with stack := rest } (.invokeinterface index count) mk (Value.ref b :: argsL).toArray X₁ hg hsize hdg hW (X₁.named hnamed) (hpre vm₁ X₁.warmed) with ⟨v, B, X', hpost, hsteps⟩ | ⟨q, B, X', hpost, hsteps⟩
  · exact Or.inl ⟨v, vm₁, B, X₁.warmed, X', hpost, fun target h => hstep₁ _ fun acts => by rw [doInvoke_state]; exact hsteps.trans h⟩
  · exact Or.inr ⟨q, vm₁, B, X₁.warmed, X', hpost, hstep₁ _ fun acts => by rw [doInvoke_state]; exact hsteps⟩
theorem vx_runFW {x y : MethodName} {bytes cc : ByteArray} {maxL nL mc ms n index count : Nat} {ret : Option FieldType} {hh : List (Nat × Nat × Nat × Nat)} {ws : List Cond} {rm : Room} {Pc : Array Value → State → Prop} {Qc : Array Value → State → Outcome → State → Prop} {XC : String → State → State → Prop} {free : Addr → Prop} {Ts : List Cond} {own C : String} {cC : ClassId} {b : Addr} {As rest : List Value} {g : JFrame}
    (hat : ClassAt s C cC) (S : CallFix p m c cc nL s args Ts own) (hM : vx_Met l y ws rm Pc Qc XC mc ms free) (cw : va_CIW R s args own C index x y bytes maxL ret hh ws rm mc ms n) (hp : PreV s H C b Pc As)
    (hg : g.method = m) (hn : As.length = n) (hsize : g.locals.size = nL) (hstack : g.stack = As.reverse ++ .ref b :: rest) (hW : 2 * g.monitorRoom + (rest.map fun v => v.category).sum ≤ 8) (hdg : decode cc g.pc = .ok (.invokeinterface index count, 5)) (hf : cells + mc ≤ R.cells ∧ slots + ms ≤ R.slots) :
    vx_Run5 p l e R s m args below meth c H locs cells slots mc ms g rest (Qc (Value.ref b :: As).toArray) XC free := by
  obtain ⟨hrc, hrs, hfr, hlo, hws, hcw⟩ := cw.back
  have hini := cw.init
  have hK : vx_Back l R p e below s args y 5 8 (PreOf R mc ms Pc) (PostOf Qc mc ms free) (vx_Post XC mc ms free) := vx_backW (hh := hh) (bytes := bytes) (maxL := maxL) (ret := ret) hM hp.1 hrc hrs hfr hlo hws hcw (fun a' U hW => word_at hW (Or.inl (by first | rfl | simp [Cond.onTables, Cond.keeps, Cond.steady])) hini)
  obtain ⟨hx, hb, hml, ho, -⟩ := S
  obtain ⟨-, ⟨cellB, hcB, hoB, hclB⟩, hPc⟩ := hp
  obtain ⟨hfc, kB, hkB, -⟩ := hat
  cases hfc.symm.trans hclB
  intro T hT X
  rcases vx_callIFW X hx (C := C) (hh := hh) (bytes := bytes) (maxL := maxL) (ret := ret) ho cw.link cw.decl cw.face cw.sel cw.inst cw.pub cw.unh cw.cast cw.code cw.notMH hK (by rw [hT]; exact hcB) hoB hclB hkB hg (hsize.trans hml.symm) (argsL := As) (rest := rest) (fun sig h => hn.trans (cw.len sig h)) hstack hW (by rw [hb]; exact hdg)
    (fun vm₁ hW₁ => ⟨hf.1, hf.2, hPc (T.setVm vm₁) hT hW₁⟩) with ⟨v, vm₁, ⟨U', l2, c2, s2⟩, hW₁, X', ⟨g', mk, t, L, e1, e2, hq, h1, hL, h2, h3⟩, st⟩ | ⟨q, vm₁, ⟨U', l2, c2, s2⟩, hW₁, X', ⟨g', mk, t, L, E, ce, e1, e2, hq, hce, hcv, hcl, h1, hL, h2, h3⟩, st⟩
  · dsimp only [Pt.U, Pt.locs, Pt.cells, Pt.slots] at X' e1 e2 h1 h2 h3 st
    subst h1; subst h2; subst h3
    exact Or.inl ⟨v, (T.setVm vm₁).calling g' mk (Value.ref b :: As).toArray, t, U', L, hT, X', hL, e1, e2, hq, st⟩
  · dsimp only [Pt.U, Pt.locs, Pt.cells, Pt.slots] at X' e1 e2 h1 h2 h3 st hcl
    subst h1; subst h2; subst h3
    exact Or.inr ⟨q, (T.setVm vm₁).calling g' mk (Value.ref b :: As).toArray, t, U', L, E, ce, hT, X', hL, e1, e2, hq, hce, hcv, vx_cls hW₁ hcl, st⟩
end
/-! ===== END ===== -/
/-! ===== BEGIN .. of methods that hand back an object of the pool ===== -/
section
variable {p : Program} {l : Launch} {e : Env} {R : Room} {s : State} {m : MethodId} {args : Array Value} {below : List Frame} {meth : Method} {c : Code} {H : Heap} {locs : List Loc} {cells slots : Nat} {Q : State → Prop}
variable {mc ms : Nat} {free : Addr → Prop} {A0 A1 : Nat → Prop} {H0 : Heap} {a : Array Value} {pc : Nat} {ls : Array Slot} {st0 rest : List Value}
theorem vx_callq {S SX : Type} {post : Option Nat → S → Prop} {px : SX → Prop} {B : S → State → Prop} {BX : String → SX → State → Prop} {AX : Nat → Prop} (hr : vx_Run p l e R s m args below meth c H locs cells slots mc ms (F0 m pc ls st0) rest (va_Qq post B A1 a) (vx_X px BX AX) free) (hS : va_S A0 H0 H locs) (hA : ∀ q, q < H.size → A1 q → A0 q) (hf : ∀ q, free q → A0 q) (hAX : ∀ q, q < H.size → AX q → A0 q)
    (kx : ∀ (E : String) (ce : Cell) (q9 : Addr) (u : SX) (t : State) (H1 : Heap) (locs1 : List Loc), t.heap = H1 → s.vm.Alike t.vm → px u → BX E u t → H.size ≤ H1.size → (∀ q : Nat, q < H.size → ¬ AX q → H1[q]? = H[q]?) → va_S A0 H0 H1 locs1 → H1[q9]? = some ce → ce.vm = .none → s.vm.findClass E = some ce.cls → vx_W p l e R s m args below meth c H1 locs1 (cells + mc) (slots + ms) Q (F0 m pc ls rest) q9)
    (kk : ∀ (r : Option Nat) (u : S) (t : State) (H1 : Heap) (locs1 : List Loc), t.heap = H1 → s.vm.Alike t.vm → post r u → B u t → H.size ≤ H1.size → (∀ q : Nat, q < H.size → ¬ A1 q → H1[q]? = H[q]?) → va_S A0 H0 H1 locs1 → W p l e R s m args below meth c H1 locs1 (cells + mc) (slots + ms) Q (F0 m (pc + 3) ls (va_rf r :: rest))) : W p l e R s m args below meth c H locs cells slots Q (F0 m pc ls st0) := by
  intro T hT X
  rcases hr T hT X with ⟨v, st₀, t, T', L, h0, X', hL, e1, e2, ⟨⟨r, u, hv, hp, hb⟩, hF⟩, st⟩ | ⟨q, st₀, t, T', L, E, ce, h0, X', hL, e1, e2, ⟨u, hp, hb, hF⟩, hce, hcv, hcl, st⟩
  · cases hv
    obtain ⟨k1, k2, k3⟩ := vx_keep h0 e1 hS hA hf hL hF
    obtain ⟨t2, a1, b1⟩ := kk r u t T'.heap (locs ++ L) e1.symm (by rw [← e2]; exact X'.warmed.alike) hp hb k1 k2 k3 T' rfl X'
    exact ⟨t2, st t2 a1, b1⟩
  · obtain ⟨k1, k2, k3⟩ := vx_keep h0 e1 hS hAX hf hL hF
    obtain ⟨t2, a1, b1⟩ := kx E ce q u t T'.heap (locs ++ L) e1.symm (by rw [← e2]; exact X'.warmed.alike) hp hb k1 k2 k3 (by rw [e1]; exact hce) hcv hcl T' rfl X'
    exact ⟨t2, st.trans a1, b1⟩
end
/-! ===== END ===== -/
/-! ===== BEGIN .. a constant ===== -/
section
variable {p : Program} {l : Launch} {e : Env} {R : Room} {s : State} {m : MethodId} {args : Array Value} {below : List Frame} {meth : Method} {c : Code} {H : Heap} {locs : List Loc} {cells slots : Nat} {Q : State → Prop}
variable {mc ms : Nat} {free : Addr → Prop} {A0 A1 : Nat → Prop} {H0 : Heap} {a : Array Value} {pc : Nat} {ls : Array Slot} {st0 rest : List Value}
theorem vx_calle {ad : Nat → Nat} {S SX : Type} {post : Option Nat → S → Prop} {px : SX → Prop} {B : S → State → Prop} {BX : String → SX → State → Prop} {AX : Nat → Prop} (hr : vx_Run p l e R s m args below meth c H locs cells slots mc ms (F0 m pc ls st0) rest (va_Qe ad post B A1 a) (vx_X px BX AX) free) (hS : va_S A0 H0 H locs) (hA : ∀ q, q < H.size → A1 q → A0 q) (hf : ∀ q, free q → A0 q) (hAX : ∀ q, q < H.size → AX q → A0 q)
    (kx : ∀ (E : String) (ce : Cell) (q9 : Addr) (u : SX) (t : State) (H1 : Heap) (locs1 : List Loc), t.heap = H1 → s.vm.Alike t.vm → px u → BX E u t → H.size ≤ H1.size → (∀ q : Nat, q < H.size → ¬ AX q → H1[q]? = H[q]?) → va_S A0 H0 H1 locs1 → H1[q9]? = some ce → ce.vm = .none → s.vm.findClass E = some ce.cls → vx_W p l e R s m args below meth c H1 locs1 (cells + mc) (slots + ms) Q (F0 m pc ls rest) q9)
    (kk : ∀ (r : Option Nat) (u : S) (t : State) (H1 : Heap) (locs1 : List Loc), t.heap = H1 → s.vm.Alike t.vm → post r u → B u t → H.size ≤ H1.size → (∀ q : Nat, q < H.size → ¬ A1 q → H1[q]? = H[q]?) → va_S A0 H0 H1 locs1 → W p l e R s m args below meth c H1 locs1 (cells + mc) (slots + ms) Q (F0 m (pc + 3) ls (va_re ad r :: rest))) : W p l e R s m args below meth c H locs cells slots Q (F0 m pc ls st0) := by
  intro T hT X
  rcases hr T hT X with ⟨v, st₀, t, T', L, h0, X', hL, e1, e2, ⟨⟨r, u, hv, hp, hb⟩, hF⟩, st⟩ | ⟨q, st₀, t, T', L, E, ce, h0, X', hL, e1, e2, ⟨u, hp, hb, hF⟩, hce, hcv, hcl, st⟩
  · cases hv
    obtain ⟨k1, k2, k3⟩ := vx_keep h0 e1 hS hA hf hL hF
    obtain ⟨t2, a1, b1⟩ := kk r u t T'.heap (locs ++ L) e1.symm (by rw [← e2]; exact X'.warmed.alike) hp hb k1 k2 k3 T' rfl X'
    exact ⟨t2, st t2 a1, b1⟩
  · obtain ⟨k1, k2, k3⟩ := vx_keep h0 e1 hS hAX hf hL hF
    obtain ⟨t2, a1, b1⟩ := kx E ce q u t T'.heap (locs ++ L) e1.symm (by rw [← e2]; exact X'.warmed.alike) hp hb k1 k2 k3 (by rw [e1]; exact hce) hcv hcl T' rfl X'
    exact ⟨t2, st.trans a1, b1⟩
end
/-! ===== END ===== -/
/-! ===== BEGIN .. by an interface, an object ===== -/
section
variable {p : Program} {l : Launch} {e : Env} {R : Room} {s : State} {m : MethodId} {args : Array Value} {below : List Frame} {meth : Method} {c : Code} {H : Heap} {locs : List Loc} {cells slots : Nat} {Q : State → Prop}
variable {mc ms : Nat} {free : Addr → Prop} {A0 A1 : Nat → Prop} {H0 : Heap} {a : Array Value} {pc : Nat} {ls : Array Slot} {st0 rest : List Value}
theorem vx_callFq {S SX : Type} {post : Option Nat → S → Prop} {px : SX → Prop} {B : S → State → Prop} {BX : String → SX → State → Prop} {AX : Nat → Prop} (hr : vx_Run5 p l e R s m args below meth c H locs cells slots mc ms (F0 m pc ls st0) rest (va_Qq post B A1 a) (vx_X px BX AX) free) (hS : va_S A0 H0 H locs) (hA : ∀ q, q < H.size → A1 q → A0 q) (hf : ∀ q, free q → A0 q) (hAX : ∀ q, q < H.size → AX q → A0 q)
    (kx : ∀ (E : String) (ce : Cell) (q9 : Addr) (u : SX) (t : State) (H1 : Heap) (locs1 : List Loc), t.heap = H1 → s.vm.Alike t.vm → px u → BX E u t → H.size ≤ H1.size → (∀ q : Nat, q < H.size → ¬ AX q → H1[q]? = H[q]?) → va_S A0 H0 H1 locs1 → H1[q9]? = some ce → ce.vm = .none → s.vm.findClass E = some ce.cls → vx_W p l e R s m args below meth c H1 locs1 (cells + mc) (slots + ms) Q (F0 m pc ls rest) q9)
    (kk : ∀ (r : Option Nat) (u : S) (t : State) (H1 : Heap) (locs1 : List Loc), t.heap = H1 → s.vm.Alike t.vm → post r u → B u t → H.size ≤ H1.size → (∀ q : Nat, q < H.size → ¬ A1 q → H1[q]? = H[q]?) → va_S A0 H0 H1 locs1 → W p l e R s m args below meth c H1 locs1 (cells + mc) (slots + ms) Q (F0 m (pc + 5) ls (va_rf r :: rest))) : W p l e R s m args below meth c H locs cells slots Q (F0 m pc ls st0) := by
  intro T hT X
  rcases hr T hT X with ⟨v, st₀, t, T', L, h0, X', hL, e1, e2, ⟨⟨r, u, hv, hp, hb⟩, hF⟩, st⟩ | ⟨q, st₀, t, T', L, E, ce, h0, X', hL, e1, e2, ⟨u, hp, hb, hF⟩, hce, hcv, hcl, st⟩
  · cases hv
    obtain ⟨k1, k2, k3⟩ := vx_keep h0 e1 hS hA hf hL hF
    obtain ⟨t2, a1, b1⟩ := kk r u t T'.heap (locs ++ L) e1.symm (by rw [← e2]; exact X'.warmed.alike) hp hb k1 k2 k3 T' rfl X'
    exact ⟨t2, st t2 a1, b1⟩
  · obtain ⟨k1, k2, k3⟩ := vx_keep h0 e1 hS hAX hf hL hF
    obtain ⟨t2, a1, b1⟩ := kx E ce q u t T'.heap (locs ++ L) e1.symm (by rw [← e2]; exact X'.warmed.alike) hp hb k1 k2 k3 (by rw [e1]; exact hce) hcv hcl T' rfl X'
    exact ⟨t2, st.trans a1, b1⟩
end
/-! ===== END ===== -/
/-! ===== BEGIN .. by an interface, a constant ===== -/
section
variable {p : Program} {l : Launch} {e : Env} {R : Room} {s : State} {m : MethodId} {args : Array Value} {below : List Frame} {meth : Method} {c : Code} {H : Heap} {locs : List Loc} {cells slots : Nat} {Q : State → Prop}
variable {mc ms : Nat} {free : Addr → Prop} {A0 A1 : Nat → Prop} {H0 : Heap} {a : Array Value} {pc : Nat} {ls : Array Slot} {st0 rest : List Value}
theorem vx_callFe {ad : Nat → Nat} {S SX : Type} {post : Option Nat → S → Prop} {px : SX → Prop} {B : S → State → Prop} {BX : String → SX → State → Prop} {AX : Nat → Prop} (hr : vx_Run5 p l e R s m args below meth c H locs cells slots mc ms (F0 m pc ls st0) rest (va_Qe ad post B A1 a) (vx_X px BX AX) free) (hS : va_S A0 H0 H locs) (hA : ∀ q, q < H.size → A1 q → A0 q) (hf : ∀ q, free q → A0 q) (hAX : ∀ q, q < H.size → AX q → A0 q)
    (kx : ∀ (E : String) (ce : Cell) (q9 : Addr) (u : SX) (t : State) (H1 : Heap) (locs1 : List Loc), t.heap = H1 → s.vm.Alike t.vm → px u → BX E u t → H.size ≤ H1.size → (∀ q : Nat, q < H.size → ¬ AX q → H1[q]? = H[q]?) → va_S A0 H0 H1 locs1 → H1[q9]? = some ce → ce.vm = .none → s.vm.findClass E = some ce.cls → vx_W p l e R s m args below meth c H1 locs1 (cells + mc) (slots + ms) Q (F0 m pc ls rest) q9)
    (kk : ∀ (r : Option Nat) (u : S) (t : State) (H1 : Heap) (locs1 : List Loc), t.heap = H1 → s.vm.Alike t.vm → post r u → B u t → H.size ≤ H1.size → (∀ q : Nat, q < H.size → ¬ A1 q → H1[q]? = H[q]?) → va_S A0 H0 H1 locs1 → W p l e R s m args below meth c H1 locs1 (cells + mc) (slots + ms) Q (F0 m (pc + 5) ls (va_re ad r :: rest))) : W p l e R s m args below meth c H locs cells slots Q (F0 m pc ls st0) := by
  intro T hT X
  rcases hr T hT X with ⟨v, st₀, t, T', L, h0, X', hL, e1, e2, ⟨⟨r, u, hv, hp, hb⟩, hF⟩, st⟩ | ⟨q, st₀, t, T', L, E, ce, h0, X', hL, e1, e2, ⟨u, hp, hb, hF⟩, hce, hcv, hcl, st⟩
  · cases hv
    obtain ⟨k1, k2, k3⟩ := vx_keep h0 e1 hS hA hf hL hF
    obtain ⟨t2, a1, b1⟩ := kk r u t T'.heap (locs ++ L) e1.symm (by rw [← e2]; exact X'.warmed.alike) hp hb k1 k2 k3 T' rfl X'
    exact ⟨t2, st t2 a1, b1⟩
  · obtain ⟨k1, k2, k3⟩ := vx_keep h0 e1 hS hAX hf hL hF
    obtain ⟨t2, a1, b1⟩ := kx E ce q u t T'.heap (locs ++ L) e1.symm (by rw [← e2]; exact X'.warmed.alike) hp hb k1 k2 k3 (by rw [e1]; exact hce) hcv hcl T' rfl X'
    exact ⟨t2, st.trans a1, b1⟩
end
/-! ===== END ===== -/
/-! ===== BEGIN what the machine throws by itself: null at a field, at athrow ===== -/
section VXM2
variable {p : Program} {l : Launch} {e : Env} {R : Room} {s : State} {m : MethodId} {args : Array Value} {below : List Frame} {meth : Method} {c : Code} {H : Heap} {locs : List Loc} {cells slots : Nat}
variable {Q : State → Prop} {cc : ByteArray} {pc : Nat} {ls : Array Slot} {rest : List Value}
theorem vx_getfN {D cl tys} {own ref C : String} {T : u_T} {N ci index : Nat} {Ts : List Cond} (hexec : p.tables.exec = Jvm.exec) (hb : c.code = cc) (hts : ∀ w ∈ Ts, w.before args s = true) (hin : ∀ w ∈ u_ws C T N, w ∈ Ts) (hown : s.vm.findClass own = some m.cls) (hK : va_K D cl tys s) (hc : cl[ci]? = some (C, T, N)) (k : Nat) (hk : k < N) (hlink : (Cond.fieldLink own index ref (T k).2.1 (T k).2.2.1).before args s = true) (hsame : ∀ x, s.fieldFound? (T k).1 (T k).2.1 (T k).2.2.1 = some x → s.fieldFound? ref (T k).2.1 (T k).2.2.1 = some x) (hdg : decode cc pc = .ok (.getfield index, 3)) (kk : vx_NoteN p l e R s m args below meth c H locs cells slots Q (F0 m pc ls rest)) : W p l e R s m args below meth c H locs cells slots Q (F0 m pc ls (.null :: rest)) := by
  obtain ⟨hS, hfc, kC, hkC, -⟩ := hK.1 ci _ hc
  obtain ⟨cf, kf, fi, f, hi, -⟩ := hS k hk
  intro U hU X
  obtain ⟨vm', X1, st1⟩ := X.getfieldNull hexec hown hlink (hsame _ hi) (u_facts hfc hkC (u_lays hts hin hk) hi).1 (g := F0 m pc ls (.null :: rest)) rfl (rest := rest) rfl (by rw [hb]; exact hdg)
  obtain ⟨t, st, q⟩ := kk (U.setVm vm') hU X1
  exact ⟨t, st1 t st, q⟩
theorem vx_getfNN {D cl tys} {own ref C host : String} {T : u_T} {N ci index : Nat} {Ts : List Cond} (hexec : p.tables.exec = Jvm.exec) (hb : c.code = cc) (hts : ∀ w ∈ Ts, w.before args s = true) (hin : ∀ w ∈ u_ws C T N, w ∈ Ts) (hown : s.vm.findClass own = some m.cls) (hK : va_K D cl tys s) (hc : cl[ci]? = some (C, T, N)) (k : Nat) (hk : k < N) (hlink : (Cond.fieldLinkNest own index ref (T k).2.1 (T k).2.2.1 host).before args s = true) (hsame : ∀ x, s.fieldFound? (T k).1 (T k).2.1 (T k).2.2.1 = some x → s.fieldFound? ref (T k).2.1 (T k).2.2.1 = some x) (hdg : decode cc pc = .ok (.getfield index, 3)) (kk : vx_NoteN p l e R s m args below meth c H locs cells slots Q (F0 m pc ls rest)) : W p l e R s m args below meth c H locs cells slots Q (F0 m pc ls (.null :: rest)) := by
  obtain ⟨hS, hfc, kC, hkC, -⟩ := hK.1 ci _ hc
  obtain ⟨cf, kf, fi, f, hi, -⟩ := hS k hk
  intro U hU X
  obtain ⟨vm', X1, st1⟩ := X.getfieldNullNest hexec hown hlink (hsame _ hi) (u_facts hfc hkC (u_lays hts hin hk) hi).1 (g := F0 m pc ls (.null :: rest)) rfl (rest := rest) rfl (by rw [hb]; exact hdg)
  obtain ⟨t, st, q⟩ := kk (U.setVm vm') hU X1
  exact ⟨t, st1 t st, q⟩
theorem vx_putfN {D cl tys} {own ref C : String} {T : u_T} {N ci index : Nat} {Ts : List Cond} (hexec : p.tables.exec = Jvm.exec) (hb : c.code = cc) (hts : ∀ w ∈ Ts, w.before args s = true) (hin : ∀ w ∈ u_ws C T N, w ∈ Ts) (hown : s.vm.findClass own = some m.cls) (hK : va_K D cl tys s) (hc : cl[ci]? = some (C, T, N)) (k : Nat) (hk : k < N) (hlink : (Cond.fieldLink own index ref (T k).2.1 (T k).2.2.1).before args s = true) (hsame : ∀ x, s.fieldFound? (T k).1 (T k).2.1 (T k).2.2.1 = some x → s.fieldFound? ref (T k).2.1 (T k).2.2.1 = some x) (hfin : (T k).2.2.2 = false) {v : Value} (hdg : decode cc pc = .ok (.putfield index, 3)) (kk : vx_NoteN p l e R s m args below meth c H locs cells slots Q (F0 m pc ls rest)) : W p l e R s m args below meth c H locs cells slots Q (F0 m pc ls (v :: .null :: rest)) := by
  obtain ⟨hS, hfc, kC, hkC, -⟩ := hK.1 ci _ hc
  obtain ⟨cf, kf, fi, f, hi, -⟩ := hS k hk
  have hlay := hts _ (hin _ (u_in_lay hk))
  unfold u_lay at hlay
  rw [if_neg (by rw [hfin]; decide)] at hlay
  obtain ⟨c9, k9, cf9, kf9, fi9, f9, -, -, hi9, hst9, hnf9, -⟩ := Cond.lays_spec hlay
  cases hi.symm.trans hi9
  intro U hU X
  obtain ⟨vm', X1, st1⟩ := X.putfieldNull hexec hown hlink (hsame _ hi) hst9 hnf9 (g := F0 m pc ls (v :: .null :: rest)) rfl (v := v) (rest := rest) rfl (by rw [hb]; exact hdg)
  obtain ⟨t, st, q⟩ := kk (U.setVm vm') hU X1
  exact ⟨t, st1 t st, q⟩
theorem vx_putfNN {D cl tys} {own ref C host : String} {T : u_T} {N ci index : Nat} {Ts : List Cond} (hexec : p.tables.exec = Jvm.exec) (hb : c.code = cc) (hts : ∀ w ∈ Ts, w.before args s = true) (hin : ∀ w ∈ u_ws C T N, w ∈ Ts) (hown : s.vm.findClass own = some m.cls) (hK : va_K D cl tys s) (hc : cl[ci]? = some (C, T, N)) (k : Nat) (hk : k < N) (hlink : (Cond.fieldLinkNest own index ref (T k).2.1 (T k).2.2.1 host).before args s = true) (hsame : ∀ x, s.fieldFound? (T k).1 (T k).2.1 (T k).2.2.1 = some x → s.fieldFound? ref (T k).2.1 (T k).2.2.1 = some x) (hfin : (T k).2.2.2 = false) {v : Value} (hdg : decode cc pc = .ok (.putfield index, 3)) (kk : vx_NoteN p l e R s m args below meth c H locs cells slots Q (F0 m pc ls rest)) : W p l e R s m args below meth c H locs cells slots Q (F0 m pc ls (v :: .null :: rest)) := by
  obtain ⟨hS, hfc, kC, hkC, -⟩ := hK.1 ci _ hc
  obtain ⟨cf, kf, fi, f, hi, -⟩ := hS k hk
  have hlay := hts _ (hin _ (u_in_lay hk))
  unfold u_lay at hlay
  rw [if_neg (by rw [hfin]; decide)] at hlay
  obtain ⟨c9, k9, cf9, kf9, fi9, f9, -, -, hi9, hst9, hnf9, -⟩ := Cond.lays_spec hlay
  cases hi.symm.trans hi9
  intro U hU X
  obtain ⟨vm', X1, st1⟩ := X.putfieldNullNest hexec hown hlink (hsame _ hi) hst9 hnf9 (g := F0 m pc ls (v :: .null :: rest)) rfl (v := v) (rest := rest) rfl (by rw [hb]; exact hdg)
  obtain ⟨t, st, q⟩ := kk (U.setVm vm') hU X1
  exact ⟨t, st1 t st, q⟩
theorem vx_athrowN (hexec : p.tables.exec = Jvm.exec) (hb : c.code = cc) (hdg : decode cc pc = .ok (.athrow, 1)) (k : vx_NoteN p l e R s m args below meth c H locs cells slots Q (F0 m pc ls rest)) : W p l e R s m args below meth c H locs cells slots Q (F0 m pc ls (.null :: rest)) := by
  intro T hT X
  obtain ⟨t, st, q⟩ := k T hT X
  exact ⟨t, X.athrowNull hexec (g := F0 m pc ls (.null :: rest)) rfl (rest := rest) rfl (by rw [hb]; exact hdg) t st, q⟩
end VXM2
/-! ===== END ===== -/
end
section
/-! throwing NoSuchElementException, whose constructor (a text) goes on by an entry of its own: the rows of EXCEPTIONS (vx_ctorMadeS, vx_makeS) turned to that -/
section VYK
variable {p : Program} {l : Launch} {e : Env} {R : Room} {s : State} {m₀ : MethodId} {args : Array Value} {below : List Frame} {meth : Method} {c : Code} {W : State} {locs : List Loc} {cells slots : Nat}
def vyA (own : String) (ic ix : Nat) (rx : ByteArray) (X Y : String) (names : List String) : List Cond :=
  Bundle.throwableAtoms ++ Bundle.throwableSAtoms ++ Bundle.passSAtoms X Y ix rx ++ Bundle.chainSAtoms Y names ++
  ((Bundle.ownAtoms own ic X []).drop (Bundle.throwableAtoms.length + Bundle.throwableSAtoms.length + (Bundle.chainSAtoms X []).length))
theorem vyA_own {own : String} {ic ix : Nat} {rx : ByteArray} {X Y : String} {names : List String} : vyA own ic ix rx X Y names = Bundle.throwableAtoms ++ Bundle.throwableSAtoms ++ Bundle.passSAtoms X Y ix rx ++ Bundle.chainSAtoms Y names ++
  [.methodLink own ic (Bundle.initS X), .instantiable X 6, .castable X X, .selects X Bundle.tFill0 Bundle.tFill0, .selects X Bundle.tFill Bundle.tFill,
   .lays X Bundle.tN "cause" "Ljava/lang/Throwable;", .lays X Bundle.tN "stackTrace" Bundle.steD, .lays X Bundle.tN "suppressedExceptions" Bundle.listD, .lays X Bundle.tN "detailMessage" "Ljava/lang/String;",
   .isRef (.static Bundle.tN "UNASSIGNED_STACK" Bundle.steD), .isRef (.static Bundle.tN "SUPPRESSED_SENTINEL" Bundle.listD),
   .fieldLink Bundle.tN 198 Bundle.tN "backtrace" "Ljava/lang/Object;", .lays Bundle.tN Bundle.tN "backtrace" "Ljava/lang/Object;", .lays X Bundle.tN "backtrace" "Ljava/lang/Object;"] := by
  unfold vyA Bundle.ownAtoms
  congr 1
set_option maxHeartbeats 2000000 in
theorem vy_ctorMadeS (X : Stand p l e R s m₀ args below meth c W locs cells slots) (hexec : p.tables.exec = Jvm.exec) (htr : e.platform.stackTraces = false) {own cls Y9 : String} {names : List String} {ic ix : Nat} {rx : ByteArray}
    (hown : s.vm.findClass own = some m₀.cls) (hcls : Bundle.fit cls = true) (hY : Bundle.fit Y9 = true) (hnames : ∀ n ∈ names, Bundle.fit n = true) (r0 : decode rx 0 = .ok (.aload_n 0, 1)) (r1 : decode rx 1 = .ok (.aload_n 1, 1)) (r2 : decode rx 2 = .ok (.invokespecial ix, 3)) (r5 : decode rx 5 = .ok (.return_, 1))
    (h : ∀ a ∈ vyA own ic ix rx cls Y9 names, a.before args s = true)
    (hlocs : ∀ x ∈ locs, ∀ cell, s.heap[x.base]? = some cell → cell.vm.isStatics = false)
    {a : Addr} {cX : ClassId} {kX : Class} (hfoundX : s.vm.findClass cls = some cX) (hkX : s.vm.classes[cX]? = some kX) (hcell : W.heap[a]? = some (freshCell cX kX)) (hnew : s.heap.size ≤ a)
    {msg : Value} (hmsg : msg.isRef = true)
    {g : JFrame} (hg : g.method = m₀) (hsize : g.locals.size = c.maxLocals) {rest : List Value} (hstack : g.stack = msg :: .ref a :: .ref a :: rest)
    (hd6 : decode c.code g.pc = .ok (.invokespecial ic, 3))
    (hRframes : names.length + 1 + 3 < R.frames) (hRlocals : 2 * g.monitorRoom + ((Value.ref a :: rest).map fun v => v.category).sum + (13 * (names.length + 1 + 1) + 42) ≤ R.locals) :
    ∃ (V : State) (ce : Cell) (L : List Loc), Stand p l e R s m₀ args below meth c (V.setCell a ce) (locs ++ L) cells slots ∧ (∀ y ∈ L, y.base = a) ∧ a < V.heap.size ∧ ce.cls = cX ∧ ce.vm = .none ∧
      ∀ target, Steps p.tables e below ((V.setCell a ce).setTop { g with stack := .ref a :: rest, pc := g.pc + 3 }) target → Steps p.tables e below (W.setTop g) target := by
  have howns : e.platform.frameOwnsMonitors = true := by rw [X.admits.platform]
  have hfin : e.platform.finalization = false := by rw [X.admits.platform]
  have hpl : e.platform.magicAccessors = ({} : Platform).magicAccessors := by rw [X.admits.platform]
  have a' : ∀ x, x ∈ vyA own ic ix rx cls Y9 names → x.holds args s none s [] = true := fun x hx => h x hx
  obtain ⟨T, Z0, L, -, Y⟩ := ThrowableC.of_atoms (args := args) howns hfin hpl (fun x hx => h x (by simp [vyA_own, hx]))
  obtain ⟨Z, M, LZ, LM, hnZ⟩ := Init0T.ofS_atoms (args := args) hpl L Y (fun x hx => h x (by simp [vyA_own, hx]))
  obtain ⟨P1, L1, hP1m, hs1⟩ := PassC.ofS_atoms (args := args) (s := s) hpl (X := cls) (Y := Y9) (Bundle.fit_spec hcls).1 (Bundle.fit_spec hY).2 r0 r1 r2 r5 (fun x hx => h x (by simp [vyA_own, hx]))
  obtain ⟨P2, Ps2, hlen2, L2, hL2, hP2m, hlink21, hlink2⟩ := Bundle.chainS (args := args) hpl hnZ names Y9 hY hnames (fun x hx => h x (by simp [vyA_own, hx]))
  have hlen : (P2 :: Ps2).length = names.length + 1 := by rw [List.length_cons, hlen2]
  have hL : ∀ P, P ∈ P2 :: Ps2 → P.LinksS e.platform s := fun P hP => by
    rcases List.mem_cons.mp hP with rfl | hP
    · exact L2
    · exact hL2 P hP
  have hfound : s.vm.findClass cls = some P1.m.cls := findClass_of_methodNamed hP1m
  cases Option.some.inj (hfoundX.symm.trans hfound)
  obtain ⟨c1, kX', hc1, hk, hord, -, -, hn6⟩ := Cond.instantiable_spec (a' (.instantiable cls 6) (by simp [vyA_own]))
  cases Option.some.inj (hc1.symm.trans hfound)
  cases Option.some.inj (hkX.symm.trans hk)
  have hsel0 : selectMethod e.platform s.vm P1.m.cls T.fill0 = .method T.fill0 := by
    obtain ⟨c2, r2, m2, q1, q2, q3, q4, -⟩ := Cond.selects_spec (a' (.selects cls Bundle.tFill0 Bundle.tFill0) (by simp [vyA_own]))
    cases Option.some.inj (q1.symm.trans hfound)
    cases Option.some.inj (q2.symm.trans (State.methodFound?_of_named Y.fill0 (by decide)))
    cases Option.some.inj (q3.symm.trans Y.fill0)
    rw [Launch.admits_selectMethod X.admits]; exact q4
  have hselF : selectMethod e.platform s.vm P1.m.cls T.fill = .method T.fill := by
    obtain ⟨c2, r2, m2, q1, q2, q3, q4, -⟩ := Cond.selects_spec (a' (.selects cls Bundle.tFill Bundle.tFill) (by simp [vyA_own]))
    cases Option.some.inj (q1.symm.trans hfound)
    cases Option.some.inj (q2.symm.trans (State.methodFound?_of_named Y.fill (by decide)))
    cases Option.some.inj (q3.symm.trans Y.fill)
    rw [Launch.admits_selectMethod X.admits]; exact q4
  obtain ⟨cellS0, hcS0, hiss⟩ := Y.statics
  obtain ⟨u0, hu0⟩ := Cond.staticRefV Y.unassigned L.unassignedStatic L.statics hcS0 hiss (a' (.isRef (.static Bundle.tN "UNASSIGNED_STACK" Bundle.steD)) (by simp [vyA_own]))
  obtain ⟨sen, hsen⟩ := Cond.staticRefV Y.sentinel L.sentinelStatic L.statics hcS0 hiss (a' (.isRef (.static Bundle.tN "SUPPRESSED_SENTINEL" Bundle.listD)) (by simp [vyA_own]))
  obtain ⟨ci198, i198, fB, hk198, hg198, ha198, hsB, -, hnB, htB, hffB⟩ := Cond.ownField (t := .object "java/lang/Object") Y.found L.cls (by decide +kernel) (a' (.fieldLink Bundle.tN 198 Bundle.tN "backtrace" "Ljava/lang/Object;") (by simp [vyA_own])) (a' (.lays Bundle.tN Bundle.tN "backtrace" "Ljava/lang/Object;") (by simp [vyA_own])) e.platform hpl
  obtain ⟨cellS, hcS', heS, -, hkeep⟩ := X.same.2.2.2.2.2 T.aS cellS0 hcS0
  have hcellS : W.heap[T.aS]? = some cellS := hcS'
  have hout' : ∀ i, (⟨T.aS, i⟩ : Loc) ∉ locs := fun i hmem => by
    have := hlocs _ hmem cellS0 hcS0
    rw [hiss] at this; cases this
  have hknownS : cellS.vm ≠ .unknown := by
    rw [heS]; intro hu
    rw [show cellS0.vm = .unknown from hu] at hiss
    cases hiss
  have hneS : T.aS ≠ a := Nat.ne_of_lt (Nat.lt_of_lt_of_le (Array.getElem?_eq_some_iff.mp hcS0).1 hnew)
  obtain ⟨iM, hffM⟩ := Y.msg
  obtain ⟨tyC, dC, hdC, hdnC⟩ := Cond.laysAt hfound hk Y.cause (a' (.lays cls Bundle.tN "cause" "Ljava/lang/Throwable;") (by simp [vyA_own]))
  obtain ⟨tyS, dS, hdS, hdnS⟩ := Cond.laysAt hfound hk Y.stack (a' (.lays cls Bundle.tN "stackTrace" Bundle.steD) (by simp [vyA_own]))
  obtain ⟨tyP, dP, hdP, hdnP⟩ := Cond.laysAt hfound hk Y.supp (a' (.lays cls Bundle.tN "suppressedExceptions" Bundle.listD) (by simp [vyA_own]))
  obtain ⟨tyM, dM, hdM, hdnM⟩ := Cond.laysAt hfound hk hffM (a' (.lays cls Bundle.tN "detailMessage" "Ljava/lang/String;") (by simp [vyA_own]))
  obtain ⟨tyB, dB, hdB, hdnB⟩ := Cond.laysAt hfound hk hffB (a' (.lays cls Bundle.tN "backtrace" "Ljava/lang/Object;") (by simp [vyA_own]))
  have bC := Cond.laysApart hdB hdC hdnB hdnC (by rw [hnB, Y.causeName]; decide)
  have bS := Cond.laysApart hdB hdS hdnB hdnS (by rw [hnB, Y.stackName]; decide)
  have bP := Cond.laysApart hdB hdP hdnB hdnP (by rw [hnB, Y.suppName]; decide)
  have hskip : SkipFacts T e.platform s (fun u => u) u0 ((preparedCellV T.toThrowableT (freshCell P1.m.cls kX) a u0 sen).withEntry W.cur) :=
    ⟨{ ci198 := ci198, i198 := i198, fBack := fB }, ⟨hk198, hg198, ha198, hsB⟩, by
      have := fresh_default (c := P1.m.cls) tyB
      rw [htB] at this
      simpa [preparedCellV, Cell.setSlot, Cell.withEntry, Array.getElem?_setIfInBounds, bC, bS, bP, bC.symm, bS.symm, bP.symm, defaultValue] using this, fun _ _ => rfl⟩
  obtain ⟨tm, methC, cdC, kC, vm₁, hnC, -, -, -, -, -, -, -, hW₁, st1⟩ := Steps.initColdS (tb := p.tables) (e := e) (below := below) (s := s) (U := W) X.here hexec X.warmed hpl hown (t := Bundle.initS cls) rfl rfl (Bundle.fit_spec hcls).2
    (a' (.methodLink own ic (Bundle.initS cls)) (by simp [vyA_own])) (h (.instanceMethod (Bundle.initS cls)) (by simp [vyA_own, Bundle.passSAtoms])) (bytes := rx) (maxL := 2) (h (.code (Bundle.initS cls) rx 2 none) (by simp [vyA_own, Bundle.passSAtoms]))
    (f := g) hg (a := a) (msg := msg) (rest := .ref a :: rest) hstack hd6
  cases Option.some.inj (hnC.symm.trans hP1m)
  have X₁ := X.noted hW₁
  obtain ⟨vm₂, X₂, st2⟩ := X₁.ctorMessageOffV hexec (g := { g with stack := .ref a :: rest }) hg hsize T L Z LZ M LM (P1 :: P2 :: Ps2)
    (fun P hP => by rcases List.mem_cons.mp hP with rfl | hP; exact L1; exact hL P hP) ⟨Option.some.inj (hs1.symm.trans hP2m), hlink21, hlink2⟩ (u0 := u0) (sen := sen) (self := a) hmsg (cell := freshCell P1.m.cls kX) (cellS := cellS)
    hcell (fun _ => by simp) (by simp) rfl rfl hsel0 hselF hcellS hneS hknownS (by rw [hkeep _ (hout' _)]; exact hu0) (by rw [hkeep _ (hout' _)]; exact hsen)
    (Takes.of_laid hk hord tyC (by rw [Y.causeType]; rfl)) (Takes.of_laid hk hord tyS (by rw [Y.stackType]; exact fits_refV_array _ u0)) (Takes.of_laid hk hord tyP (by rw [Y.suppType]; exact fits_refV_object _ sen))
    (Takes.of_laid hk hord tyM (by rw [Y.msgType]; exact fits_refV_object _ ⟨msg, hmsg⟩)) Y.objLocals hskip htr [] hd6
    (by simp only [List.length_cons, hlen2]; omega) (by simp only [List.length_cons, hlen2]; exact hRlocals)
  have hlt : a < ((W.setVm vm₁).setVm vm₂).heap.size := (Array.getElem?_eq_some_iff.mp hcell).1
  refine ⟨(W.setVm vm₁).setVm vm₂, _, _, X₂, fun y hy => ?_, hlt, rfl, rfl, fun target hwalk => st1 _ (fun acts => ?_)⟩
  · simp only [List.mem_cons, List.not_mem_nil, or_false] at hy
    rcases hy with rfl | rfl | rfl | rfl | rfl <;> rfl
  · rw [doInvoke_state]
    exact st2 _ hwalk
end VYK
section VYK2
variable {p : Program} {l : Launch} {e : Env} {R : Room} {s : State} {m : MethodId} {args : Array Value} {below : List Frame} {meth : Method} {c : Code} {H : Heap} {locs : List Loc} {cells slots : Nat} {Q : State → Prop}
variable {ls : Array Slot} {rest : List Value}
set_option maxHeartbeats 2000000 in
theorem vy_makeS {cc : ByteArray} {pc : Nat} (hexec : p.tables.exec = Jvm.exec) (hb : c.code = cc) (hl : l.stackTraces = false) {own cls Y9 text : String} {names : List String} {ik is ic ix sa : Nat} {rx : ByteArray} {A : Nat → Prop}
    (hown : s.vm.findClass own = some m.cls) (hcls : Bundle.fit cls = true) (hY : Bundle.fit Y9 = true) (hnames : ∀ n ∈ names, Bundle.fit n = true) (r0 : decode rx 0 = .ok (.aload_n 0, 1)) (r1 : decode rx 1 = .ok (.aload_n 1, 1)) (r2 : decode rx 2 = .ok (.invokespecial ix, 3)) (r5 : decode rx 5 = .ok (.return_, 1))
    (hk : (Cond.classLink own ik cls).before args s = true) (hini : (Cond.initialized cls).before args s = true) (hstr : vk_R own is text sa s) (hat : ∀ w ∈ (vyA own ic ix rx cls Y9 names).filter vx_no, w.before args s = true)
    (hgood : ∀ w ∈ Cond.classLink own ik cls :: Cond.initialized cls :: (vyA own ic ix rx cls Y9 names).filter vx_no, vx_ot w = true)
    (hU : vx_Zq Bundle.tN "UNASSIGNED_STACK" Bundle.steD A s s.heap) (hN : vx_Zq Bundle.tN "SUPPRESSED_SENTINEL" Bundle.listD A s s.heap) (hS : va_S A s.heap H locs) (hsize : ls.size = c.maxLocals)
    (d0 : decode cc pc = .ok (.new ik, 3)) (d3 : decode cc (pc + 3) = .ok (.dup, 1)) (d4 : decode cc (pc + 4) = .ok (.ldc is, 2)) (d6 : decode cc (pc + 6) = .ok (.invokespecial ic, 3))
    (hRframes : names.length + 1 + 3 < R.frames) (hRlocals : (rest.map fun v => v.category).sum + (13 * (names.length + 1 + 1) + 43) ≤ R.locals) (hRcells : cells + 1 ≤ R.cells) (hRslots : slots + 6 ≤ R.slots)
    (kk : ∀ (q : Nat) (H1 : Heap) (ce : Cell), H1[q]? = some ce → ce.vm = .none → s.vm.findClass cls = some ce.cls → H.size ≤ H1.size → (∀ x, x < H.size → H1[x]? = H[x]?) → W p l e R s m args below meth c H1 locs (cells + 1) (slots + 6) Q (F0 m (pc + 9) ls (.ref q :: rest))) :
    W p l e R s m args below meth c H locs cells slots Q (F0 m pc ls rest) := by
  intro T hT X
  subst hT
  have htr : e.platform.stackTraces = false := (show e.platform.stackTraces = l.stackTraces by rw [X.admits.platform]).trans hl
  have Y := vx_rebase X (R' := { frames := R.frames, locals := R.locals, cells := 1, slots := 6 }) (Nat.le_refl _) (Nat.le_refl _) hRcells hRslots
  obtain ⟨s', hA'⟩ : ∃ z, z = (T.setVm s.vm).setFrames (.invoking m args :: below) := ⟨_, rfl⟩
  rw [← hA'] at Y
  have hvm : s'.vm = s.vm := by rw [hA']; rfl
  have hhp : s'.heap = T.heap := by rw [hA']; rfl
  have hW0 : s.WarmedH s'.vm := by rw [hvm]; exact State.WarmedH.refl s
  have hat' : ∀ w ∈ (vyA own ic ix rx cls Y9 names).filter vx_no, w.before args s' = true := fun w hw => vx_ot_at hW0 hvm.symm (hgood w (List.mem_cons_of_mem _ (List.mem_cons_of_mem _ hw))) (hat w hw)
  have hk' : (Cond.classLink own ik cls).before args s' = true := vx_ot_at hW0 hvm.symm (hgood _ List.mem_cons_self) hk
  have hini' : (Cond.initialized cls).before args s' = true := vx_ot_at hW0 hvm.symm (hgood _ (List.mem_cons_of_mem _ List.mem_cons_self)) hini
  have hU' : vx_Zq Bundle.tN "UNASSIGNED_STACK" Bundle.steD A s' s'.heap := by rw [hhp]; exact vx_Zq.moved hW0.alike (hU.kept hS.2.1)
  have hN' : vx_Zq Bundle.tN "SUPPRESSED_SENTINEL" Bundle.listD A s' s'.heap := by rw [hhp]; exact vx_Zq.moved hW0.alike (hN.kept hS.2.1)
  have h : ∀ w ∈ vyA own ic ix rx cls Y9 names, w.before args s' = true := vx_own hat' (vx_isRefq hU'.1) (vx_isRefq hN'.1) hU'.2.word hN'.2.word
  have hown' : s'.vm.findClass own = some m.cls := by rw [hvm]; exact hown
  have hins : (Cond.instantiable cls 6).before args s' = true := h _ (by simp [vyA_own])
  obtain ⟨vm₁, cX, kX, hfX, hkX, -, -, X₁, st1⟩ := Y.newCold hexec (own := own) (C := cls) (index := ik) (n := 6) hown' hk' hins hini'
    (g := F0 m pc ls rest) rfl (by rw [hb]; exact d0) (Nat.le_refl _) (Nat.le_refl _)
  generalize hT1 : (T.setVm vm₁).pushCell { cls := cX, slots := kX.instanceTypes.map defaultValue, vm := .none } = T1 at X₁ st1
  have hcat : (Value.ref T.heap.size).category = 1 := rfl
  have hcellA : T1.heap[T.heap.size]? = some (freshCell cX kX) := by rw [← hT1]; exact State.heap_pushCell_size _ _
  have d3' : decode c.code (pc + 3) = .ok (.dup, 1) := by rw [hb]; exact d3
  have d4' : decode c.code (pc + 4) = .ok (.ldc is, 2) := by rw [hb]; exact d4
  have hstr' : vk_R own is text sa s' := vk_R.warm hW0 hstr
  obtain ⟨V, ce, L, Z, hL, hlt, hcl9, hvm9, st⟩ := vy_ctorMadeS X₁ hexec htr (own := own) (cls := cls) (names := names) (ic := ic) (ix := ix) (rx := rx) hown' hcls hY hnames r0 r1 r2 r5 h (fun x hx => nomatch hx) hfX hkX hcellA (by rw [hhp]; exact Nat.le_refl _) (msg := .ref sa) rfl
    (g := { method := m, pc := pc + 6, locals := ls, stack := .ref sa :: .ref T.heap.size :: .ref T.heap.size :: rest, locked := none }) rfl hsize (rest := rest) rfl
    (by rw [hb]; exact d6) hRframes (by simp only [List.map_cons, List.sum_cons, hcat]; omega)
  have Z0 := Stand.forget (locs := []) Z (fun y hy => by rw [hL y hy, hhp]; exact Nat.le_refl _)
  obtain ⟨f1, f2⟩ := vx_frame Z0.same
  rw [hhp] at f1 f2
  have hh : (V.setCell T.heap.size ce).heap[T.heap.size]? = some ce := heapAt_setCell_self (s := V) ce hlt
  subst hA'
  have X5 := vx_back9 X Y Z0
  have X6 : Stand p l e R s m args below meth c (V.setCell T.heap.size ce) locs (cells + 1) (slots + 6) := { X5 with same := X5.same.mono (by omega) (by omega) }
  obtain ⟨t, a1, b1⟩ := kk T.heap.size (V.setCell T.heap.size ce).heap ce hh hvm9 (by rw [hcl9, ← hvm]; exact hfX) f1 (fun x hx => f2 x hx (fun z hz => nomatch hz)) _ rfl X6
  refine ⟨t, st1 _ ?_, b1⟩
  show Steps p.tables e below (T1.setTop { method := m, pc := pc + 3, locals := ls, stack := .ref T.heap.size :: rest, locked := none }) _
  jvm_step X₁.here [X₁.here.top, hexec, d3', Value.category]
  exact X₁.ldcString hexec (own := own) (text := text) (index := is) (a := sa) hown' hstr'.1 hstr'.2
    (g := { method := m, pc := pc + 4, locals := ls, stack := .ref T.heap.size :: .ref T.heap.size :: rest, locked := none }) rfl d4' _ (st _ a1)
set_option maxHeartbeats 2000000 in
theorem vy_makeSW {cc : ByteArray} {pc : Nat} (hexec : p.tables.exec = Jvm.exec) (hb : c.code = cc) (hl : l.stackTraces = false) {own cls Y9 text : String} {names : List String} {ik is ic ix sa : Nat} {rx : ByteArray} {A : Nat → Prop}
    (hown : s.vm.findClass own = some m.cls) (hcls : Bundle.fit cls = true) (hY : Bundle.fit Y9 = true) (hnames : ∀ n ∈ names, Bundle.fit n = true) (r0 : decode rx 0 = .ok (.aload_n 0, 1)) (r1 : decode rx 1 = .ok (.aload_n 1, 1)) (r2 : decode rx 2 = .ok (.invokespecial ix, 3)) (r5 : decode rx 5 = .ok (.return_, 1))
    (hk : (Cond.classLink own ik cls).before args s = true) (hini : (Cond.initialized cls).before args s = true) (hstr : vk_R own is text sa s) (hat : ∀ w ∈ (vyA own ic ix rx cls Y9 names).filter vx_no, w.before args s = true)
    (hgood : ∀ w ∈ Cond.classLink own ik cls :: Cond.initialized cls :: (vyA own ic ix rx cls Y9 names).filter vx_no, vx_ot w = true)
    (hU : vx_Zq Bundle.tN "UNASSIGNED_STACK" Bundle.steD A s s.heap) (hN : vx_Zq Bundle.tN "SUPPRESSED_SENTINEL" Bundle.listD A s s.heap) (hS : va_S A s.heap H locs) (hsize : ls.size = c.maxLocals)
    (d0 : decode cc pc = .ok (.new ik, 3)) (d3 : decode cc (pc + 3) = .ok (.dup, 1)) (d4 : decode cc (pc + 4) = .ok (.ldc_w is, 3)) (d6 : decode cc (pc + 7) = .ok (.invokespecial ic, 3))
    (hRframes : names.length + 1 + 3 < R.frames) (hRlocals : (rest.map fun v => v.category).sum + (13 * (names.length + 1 + 1) + 43) ≤ R.locals) (hRcells : cells + 1 ≤ R.cells) (hRslots : slots + 6 ≤ R.slots)
    (kk : ∀ (q : Nat) (H1 : Heap) (ce : Cell), H1[q]? = some ce → ce.vm = .none → s.vm.findClass cls = some ce.cls → H.size ≤ H1.size → (∀ x, x < H.size → H1[x]? = H[x]?) → W p l e R s m args below meth c H1 locs (cells + 1) (slots + 6) Q (F0 m (pc + 10) ls (.ref q :: rest))) :
    W p l e R s m args below meth c H locs cells slots Q (F0 m pc ls rest) := by
  intro T hT X
  subst hT
  have htr : e.platform.stackTraces = false := (show e.platform.stackTraces = l.stackTraces by rw [X.admits.platform]).trans hl
  have Y := vx_rebase X (R' := { frames := R.frames, locals := R.locals, cells := 1, slots := 6 }) (Nat.le_refl _) (Nat.le_refl _) hRcells hRslots
  obtain ⟨s', hA'⟩ : ∃ z, z = (T.setVm s.vm).setFrames (.invoking m args :: below) := ⟨_, rfl⟩
  rw [← hA'] at Y
  have hvm : s'.vm = s.vm := by rw [hA']; rfl
  have hhp : s'.heap = T.heap := by rw [hA']; rfl
  have hW0 : s.WarmedH s'.vm := by rw [hvm]; exact State.WarmedH.refl s
  have hat' : ∀ w ∈ (vyA own ic ix rx cls Y9 names).filter vx_no, w.before args s' = true := fun w hw => vx_ot_at hW0 hvm.symm (hgood w (List.mem_cons_of_mem _ (List.mem_cons_of_mem _ hw))) (hat w hw)
  have hk' : (Cond.classLink own ik cls).before args s' = true := vx_ot_at hW0 hvm.symm (hgood _ List.mem_cons_self) hk
  have hini' : (Cond.initialized cls).before args s' = true := vx_ot_at hW0 hvm.symm (hgood _ (List.mem_cons_of_mem _ List.mem_cons_self)) hini
  have hU' : vx_Zq Bundle.tN "UNASSIGNED_STACK" Bundle.steD A s' s'.heap := by rw [hhp]; exact vx_Zq.moved hW0.alike (hU.kept hS.2.1)
  have hN' : vx_Zq Bundle.tN "SUPPRESSED_SENTINEL" Bundle.listD A s' s'.heap := by rw [hhp]; exact vx_Zq.moved hW0.alike (hN.kept hS.2.1)
  have h : ∀ w ∈ vyA own ic ix rx cls Y9 names, w.before args s' = true := vx_own hat' (vx_isRefq hU'.1) (vx_isRefq hN'.1) hU'.2.word hN'.2.word
  have hown' : s'.vm.findClass own = some m.cls := by rw [hvm]; exact hown
  have hins : (Cond.instantiable cls 6).before args s' = true := h _ (by simp [vyA_own])
  obtain ⟨vm₁, cX, kX, hfX, hkX, -, -, X₁, st1⟩ := Y.newCold hexec (own := own) (C := cls) (index := ik) (n := 6) hown' hk' hins hini'
    (g := F0 m pc ls rest) rfl (by rw [hb]; exact d0) (Nat.le_refl _) (Nat.le_refl _)
  generalize hT1 : (T.setVm vm₁).pushCell { cls := cX, slots := kX.instanceTypes.map defaultValue, vm := .none } = T1 at X₁ st1
  have hcat : (Value.ref T.heap.size).category = 1 := rfl
  have hcellA : T1.heap[T.heap.size]? = some (freshCell cX kX) := by rw [← hT1]; exact State.heap_pushCell_size _ _
  have d3' : decode c.code (pc + 3) = .ok (.dup, 1) := by rw [hb]; exact d3
  have d4' : decode c.code (pc + 4) = .ok (.ldc_w is, 3) := by rw [hb]; exact d4
  have hstr' : vk_R own is text sa s' := vk_R.warm hW0 hstr
  obtain ⟨V, ce, L, Z, hL, hlt, hcl9, hvm9, st⟩ := vy_ctorMadeS X₁ hexec htr (own := own) (cls := cls) (names := names) (ic := ic) (ix := ix) (rx := rx) hown' hcls hY hnames r0 r1 r2 r5 h (fun x hx => nomatch hx) hfX hkX hcellA (by rw [hhp]; exact Nat.le_refl _) (msg := .ref sa) rfl
    (g := { method := m, pc := pc + 7, locals := ls, stack := .ref sa :: .ref T.heap.size :: .ref T.heap.size :: rest, locked := none }) rfl hsize (rest := rest) rfl
    (by rw [hb]; exact d6) hRframes (by simp only [List.map_cons, List.sum_cons, hcat]; omega)
  have Z0 := Stand.forget (locs := []) Z (fun y hy => by rw [hL y hy, hhp]; exact Nat.le_refl _)
  obtain ⟨f1, f2⟩ := vx_frame Z0.same
  rw [hhp] at f1 f2
  have hh : (V.setCell T.heap.size ce).heap[T.heap.size]? = some ce := heapAt_setCell_self (s := V) ce hlt
  subst hA'
  have X5 := vx_back9 X Y Z0
  have X6 : Stand p l e R s m args below meth c (V.setCell T.heap.size ce) locs (cells + 1) (slots + 6) := { X5 with same := X5.same.mono (by omega) (by omega) }
  obtain ⟨t, a1, b1⟩ := kk T.heap.size (V.setCell T.heap.size ce).heap ce hh hvm9 (by rw [hcl9, ← hvm]; exact hfX) f1 (fun x hx => f2 x hx (fun z hz => nomatch hz)) _ rfl X6
  refine ⟨t, st1 _ ?_, b1⟩
  show Steps p.tables e below (T1.setTop { method := m, pc := pc + 3, locals := ls, stack := .ref T.heap.size :: rest, locked := none }) _
  jvm_step X₁.here [X₁.here.top, hexec, d3', Value.category]
  exact X₁.ldcStringW hexec (own := own) (text := text) (index := is) (a := sa) hown' hstr'.1 hstr'.2
    (g := { method := m, pc := pc + 4, locals := ls, stack := .ref T.heap.size :: .ref T.heap.size :: rest, locked := none }) rfl d4' _ (st _ a1)
end VYK2
end
section
/-! methods that throw: contracts, the throw itself -/
def THR : Int := 4294967296
def nse : String := "java/util/NoSuchElementException"
def vyL : List Cond := (vyA "EachBringsAnother" 115 13 prog_24_method_4_code "java/util/NoSuchElementException" "java/lang/RuntimeException" ["java/lang/Exception"]).filter vx_no
theorem vyL_in : ∀ w ∈ vyL, w ∈ gw_tbl ∨ w ∈ nw_tbl := by
  have h : vyL.all (fun w => decide (w ∈ lw_tbl) && (goodWord w || isNest w)) = true := by decide +kernel
  intro w hw
  have h1 := List.all_eq_true.mp h w hw
  simp only [Bool.and_eq_true, decide_eq_true_eq, Bool.or_eq_true] at h1
  rcases h1.2 with h2 | h2
  · exact Or.inl (List.mem_filter.mpr ⟨h1.1, h2⟩)
  · exact Or.inr (List.mem_filter.mpr ⟨h1.1, h2⟩)
theorem vyL_good : ∀ w ∈ Cond.classLink "EachBringsAnother" 111 "java/util/NoSuchElementException" :: Cond.initialized "java/util/NoSuchElementException" :: vyL, vx_ot w = true := by decide +kernel
def rmX (d : Nat) : Room := { frames := d, cells := 1, slots := 6, locals := 60 * d }
def ZX (A : Nat → Prop) (U : State) : Prop := vx_Zq Bundle.tN "UNASSIGNED_STACK" Bundle.steD A U U.heap ∧ vx_Zq Bundle.tN "SUPPRESSED_SENTINEL" Bundle.listD A U U.heap
def SX (U : State) : Prop := (∃ sa, vk_R "EachBringsAnother" 113 "none such of PEOPLE" sa U) ∧ (∃ sa, vk_R "EachBringsAnother" 154 "nothing such is told of PEOPLE" sa U) ∧ ∃ sa, vk_R "EachBringsAnother" 361 "the ROW has no such number" sa U
theorem SX.warm {s U : State} (hW : s.WarmedH U.vm) (h : SX s) : SX U := ⟨h.1.elim fun a q => ⟨a, vk_R.warm hW q⟩, h.2.1.elim fun a q => ⟨a, vk_R.warm hW q⟩, h.2.2.elim fun a q => ⟨a, vk_R.warm hW q⟩⟩
theorem SX.same {s U : State} (e : U.vm = s.vm) (h : SX s) : SX U := ⟨h.1.elim fun a q => ⟨a, vk_R.same e q⟩, h.2.1.elim fun a q => ⟨a, vk_R.same e q⟩, h.2.2.elim fun a q => ⟨a, vk_R.same e q⟩⟩
def ThS (cc : ByteArray) (pc is : Nat) : Prop := decode cc pc = .ok (.new 111, 3) ∧ decode cc (pc + 3) = .ok (.dup, 1) ∧ decode cc (pc + 4) = .ok (.ldc is, 2) ∧ decode cc (pc + 6) = .ok (.invokespecial 115, 3) ∧ decode cc (pc + 9) = .ok (.athrow, 1)
def ThW (cc : ByteArray) (pc is : Nat) : Prop := decode cc pc = .ok (.new 111, 3) ∧ decode cc (pc + 3) = .ok (.dup, 1) ∧ decode cc (pc + 4) = .ok (.ldc_w is, 3) ∧ decode cc (pc + 7) = .ok (.invokespecial 115, 3) ∧ decode cc (pc + 10) = .ok (.athrow, 1)
def Tw (X : jX) (Qf : Int × Wd → State → Prop) (ad : Nat → Nat) (cc : ByteArray) : Prop := ∀ (pc : Nat) (w : Wd) (L : List (Nat × jv)), (ThS cc pc 113 ∨ ThS cc pc 154 ∨ ThW cc pc 361) → VF X Qf ad NF 0 0 w pc L [] (some (THR, w))
def PBX (D : va_G) (cA : Nat → ClassId) (ad : Nat → Nat) (w : Wd) : State → Prop := fun U => PB D cA ad w U ∧ ZX (AF ad) U ∧ SX U
def QBX (D : va_G) (cA : Nat → ClassId) (ad : Nat → Nat) (o : Int × Wd) : Array Value → State → Outcome → State → Prop := fun a st oc t => o.1 ≠ THR ∧ QB D cA ad 0 o a st oc t
def XCX (D : va_G) (cA : Nat → ClassId) (ad : Nat → Nat) (o : Int × Wd) : String → State → State → Prop := fun E st t => E = nse ∧ o.1 = THR ∧ wok o.2 ∧ wpt o.2 ∧ va_P D cl (wl ad cA o.2 NF) t.heap ∧ va_F (AF ad) st t
def CtX (y : MethodName) (cc : ByteArray) (mL : Nat) (rt : Option FieldType) (dep : Nat) (avs : List jv) (w : Wd) (g : Option (Int × Wd)) : Prop :=
  ∀ (l : Launch) (D : va_G) (cA : Nat → ClassId) (ad : Nat → Nat) (o : Int × Wd), l.stackTraces = false → g = some o → wok w → wpt w → (∀ v ∈ avs, jo v) → jadd ad →
    vx_Met l y (wsy y cc mL rt) (rmX dep) (va_Pc (avs.map (jc ad)) (PBX D cA ad w)) (QBX D cA ad o) (XCX D cA ad o) 1 6 (AF ad)
theorem jrm_x {X : jX} {d dep mL : Nat} (h : xR X = rmX d) (hd : (decide (dep + 1 ≤ d) && decide (mL ≤ 41)) = true) : jrm X dep mL 0 0 := by
  simp only [Bool.and_eq_true, decide_eq_true_eq] at hd
  unfold jrm
  rw [h]
  simp only [rmX]
  omega
theorem kT_cl : Cond.classLink "EachBringsAnother" 111 "java/util/NoSuchElementException" ∈ gw_tbl := mem_g 1128 (by decide +kernel) (by decide +kernel)
theorem kT_in : Cond.initialized "java/util/NoSuchElementException" ∈ gw_tbl := mem_g 102 (by decide +kernel) (by decide +kernel)
theorem ctx_of {y : MethodName} {cc : ByteArray} {mL : Nat} {dep : Nat} {avs : List jv} {w : Wd} {g : Option (Int × Wd)} (hy : plainName y.cls = true) (hyc : y.cls = "EachBringsAnother") (hdep : 8 ≤ dep) (hlen : jwords avs ≤ mL)
    (hb : ∀ (X : jX) (Qf : Int × Wd → State → Prop) (ad : Nat → Nat), Cx X cc "EachBringsAnother" → xn X = mL → xR X = rmX dep → Rt X Qf ad cc 0 → Tw X Qf ad cc → VF X Qf ad NF 0 0 w 0 (jargs 0 avs) [] g) : CtX y cc mL (some .int) dep avs w g := by
  intro l D cA ad o hst ho hw hp ha hinj
  refine vx_ofW (cc := cc) (maxL := mL) (ret := some .int) hy rfl ?_
  intro p e s m args below meth c s₁ B hml hnt hv
  obtain ⟨rfl, ⟨hP, hK, hNW⟩, hZX, hSX⟩ := hv
  have hts := atoms_spec (ws := wsy y cc mL (some .int)) B.pre
  have hr := B.returns
  have hlocks := B.notSynchronized
  let X : jX := (p, l, e, rmX dep, s, m, (avs.map (jc ad)).toArray, below, meth, c, D, cA, AF ad, mL)
  have hown : s.vm.findClass "EachBringsAnother" = some m.cls := by rw [← hyc]; exact findClass_of_methodNamed B.named
  have C : Cx X cc "EachBringsAnother" := ⟨B.exec, B.bytes, hown, fun w hw => hts w (List.mem_cons_of_mem _ hw), hK, hml, hNW⟩
  have hS : va_S (AF ad) s.heap s.heap [] := va_S.rf
  have hIn : jinj ad NF (xA X) := ⟨hinj, fun i hi => ⟨i, hi, rfl⟩⟩
  have hl := lv_entry (avs.map (jc ad)) (n := mL) (by rw [jwords_eq]; exact hlen)
  rw [← jargs_eq ad avs 0] at hl
  rw [lg_entry_eq]
  refine hb X (fun o => vx_MQ below (QBX D cA ad o) (XCX D cA ad o) (avs.map (jc ad)).toArray s 1 6 (AF ad)) ad C rfl rfl ?_ ?_ o ho hw (fun _ => hp) (jargs_jo avs 0 ha) (fun _ h => by cases h) s.heap [] _ hP hS hl hIn
  · intro pc w' L r hz hd o' ho' hw' hp' hL' hS' H locs ls hP' hV' hl' hI'
    cases ho'
    have hj : jo (0, r) := hS' (0, r) (List.mem_singleton.mpr rfl)
    have hfree : ∀ q ∈ locs, AF ad q.base := fun q h => hV'.2.2 q h
    refine W.widen (k := 1) (n := 6) (by omega) (by omega) (vx_ret ?_)
    refine W.iret B.exec B.bytes hr (fun t ht hW => ⟨?_, ⟨rfl, hj, hw', hp' rfl, by rw [ht]; exact hP'⟩, hV'.F ht⟩) hfree hd hlocks
    have h2 : -2147483648 ≤ r ∧ r < 2147483648 := hj
    show r ≠ 4294967296
    omega
  · intro pc w' L hth o' ho' hw' hp' hL' hS' H locs ls hP' hV' hl' hI'
    cases ho'
    have hat : ∀ w ∈ vyL, w.before (avs.map (jc ad)).toArray s = true := fun w hw => by
      rcases vyL_in w hw with h | h
      · exact C.2.2.2.1 w h
      · have h2 := (List.mem_filter.mp h).2
        have h3 : w.onTables = true := by cases w <;> first | rfl | cases h2
        exact va_Nw.use h3 (hNW w h)
    have fin : ∀ (pc9 : Nat) (H1 : Heap) (q : Nat) (ce : Cell), decode cc pc9 = .ok (.athrow, 1) → H1[q]? = some ce → ce.vm = .none → s.vm.findClass "java/util/NoSuchElementException" = some ce.cls → H.size ≤ H1.size → (∀ x, x < H.size → H1[x]? = H[x]?) → W p l e (rmX dep) s m (avs.map (jc ad)).toArray below meth c H1 locs (0 + 1) (0 + 6) (vx_MQ below (QBX D cA ad (THR, w')) (XCX D cA ad (THR, w')) (avs.map (jc ad)).toArray s 1 6 (AF ad)) (F0 m pc9 ls (.ref q :: [])) := by
      intro pc9 H1 q ce hd9 h1 h2 h3 h4 h5
      refine vx_athrow B.exec B.bytes hd9 ?_
      refine vx_out (fun x hx => (hnt x hx).elim) hlocks h1 h2 h3 (fun t ht _ => ⟨rfl, rfl, hw', hp' rfl, ?_, ?_, ?_⟩) (fun z hz => hV'.2.2 z hz) (Nat.le_refl _) (Nat.le_refl _)
      · rw [ht]
        exact hP'.kept fun k x hx => h5 x.1 ((hP' k x hx).lt)
      · rw [ht]; exact Nat.le_trans hV'.1 h4
      · intro x hx hn
        rw [ht, h5 x (Nat.lt_of_lt_of_le hx hV'.1)]
        exact hV'.2.1 x hx hn
    have hsz : ls.size = c.maxLocals := by rw [hml]; exact hl'.1
    have hfr : ["java/lang/Exception"].length + 1 + 3 < (rmX dep).frames := by show 5 < dep; omega
    have hlo : (([] : List Value).map fun v => v.category).sum + (13 * (["java/lang/Exception"].length + 1 + 1) + 43) ≤ (rmX dep).locals := by show 0 + (13 * 3 + 43) ≤ 60 * dep; omega
    rcases hth with ⟨d0, d3, d4, d6, d9⟩ | ⟨d0, d3, d4, d6, d9⟩ | ⟨d0, d3, d4, d6, d9⟩
    · obtain ⟨sa, hsa⟩ := hSX.1
      exact vy_makeS (Y9 := "java/lang/RuntimeException") (names := ["java/lang/Exception"]) (ix := 13) (rx := prog_24_method_4_code) B.exec B.bytes hst hown (by decide +kernel) (by decide +kernel) (by decide +kernel) (by decide +kernel) (by decide +kernel) (by decide +kernel) (by decide +kernel) (C.2.2.2.1 _ kT_cl) (C.2.2.2.1 _ kT_in) hsa hat vyL_good hZX.1 hZX.2 hV' hsz d0 d3 d4 d6 hfr hlo (Nat.le_refl _) (Nat.le_refl _) (fun q H1 ce h1 h2 h3 h4 h5 => fin _ H1 q ce d9 h1 h2 h3 h4 h5)
    · obtain ⟨sa, hsa⟩ := hSX.2.1
      exact vy_makeS (Y9 := "java/lang/RuntimeException") (names := ["java/lang/Exception"]) (ix := 13) (rx := prog_24_method_4_code) B.exec B.bytes hst hown (by decide +kernel) (by decide +kernel) (by decide +kernel) (by decide +kernel) (by decide +kernel) (by decide +kernel) (by decide +kernel) (C.2.2.2.1 _ kT_cl) (C.2.2.2.1 _ kT_in) hsa hat vyL_good hZX.1 hZX.2 hV' hsz d0 d3 d4 d6 hfr hlo (Nat.le_refl _) (Nat.le_refl _) (fun q H1 ce h1 h2 h3 h4 h5 => fin _ H1 q ce d9 h1 h2 h3 h4 h5)
    · obtain ⟨sa, hsa⟩ := hSX.2.2
      exact vy_makeSW (Y9 := "java/lang/RuntimeException") (names := ["java/lang/Exception"]) (ix := 13) (rx := prog_24_method_4_code) B.exec B.bytes hst hown (by decide +kernel) (by decide +kernel) (by decide +kernel) (by decide +kernel) (by decide +kernel) (by decide +kernel) (by decide +kernel) (C.2.2.2.1 _ kT_cl) (C.2.2.2.1 _ kT_in) hsa hat vyL_good hZX.1 hZX.2 hV' hsz d0 d3 d4 d6 hfr hlo (Nat.le_refl _) (Nat.le_refl _) (fun q H1 ce h1 h2 h3 h4 h5 => fin _ H1 q ce d9 h1 h2 h3 h4 h5)
end
