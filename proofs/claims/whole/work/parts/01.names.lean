-- ===== PART A: goes FIRST, ahead of the names: the tables' words, and 'selects' of the private methods out of them =====
/-- a private method of a class that the tables say can be made, by its rows of tables_1 -/
def lw_okq (q : MethodName × Nat) : Prop := (q.1.cls ≠ "java/lang/invoke/MethodHandle" ∧ q.1.cls ≠ "java/lang/invoke/VarHandle") ∧ Cond.instantiable q.1.cls q.2 ∈ tables_1 ∧ Cond.privateMethod q.1 ∈ tables_1 ∧ Cond.instanceMethod q.1 ∈ tables_1
theorem lw_p0 : lw_okq (⟨"FootKeeper", "find", "(I)LFootKeeper$Shooter;"⟩, 17) := ⟨⟨by decide +kernel, by decide +kernel⟩, List.mem_of_getElem? (i := 23) (by decide +kernel), List.mem_of_getElem? (i := 317) (by decide +kernel), List.mem_of_getElem? (i := 318) (by decide +kernel)⟩
theorem lw_p1 : lw_okq (⟨"FootKeeper", "look", "(LFootKeeper$Table;LFootKeeper$Shooter;)V"⟩, 17) := ⟨⟨by decide +kernel, by decide +kernel⟩, List.mem_of_getElem? (i := 23) (by decide +kernel), List.mem_of_getElem? (i := 356) (by decide +kernel), List.mem_of_getElem? (i := 357) (by decide +kernel)⟩
theorem lw_p2 : lw_okq (⟨"FootKeeper$Ground", "setValues", "(LFootKeeper$Table;LFootKeeper$Shooter;)V"⟩, 9) := ⟨⟨by decide +kernel, by decide +kernel⟩, List.mem_of_getElem? (i := 34) (by decide +kernel), List.mem_of_getElem? (i := 374) (by decide +kernel), List.mem_of_getElem? (i := 375) (by decide +kernel)⟩
theorem lw_p3 : lw_okq (⟨"FootKeeper$Ground", "holds", "(II)I"⟩, 9) := ⟨⟨by decide +kernel, by decide +kernel⟩, List.mem_of_getElem? (i := 34) (by decide +kernel), List.mem_of_getElem? (i := 381) (by decide +kernel), List.mem_of_getElem? (i := 382) (by decide +kernel)⟩
theorem lw_p4 : lw_okq (⟨"FootKeeper$Ground", "tested", "(I)I"⟩, 9) := ⟨⟨by decide +kernel, by decide +kernel⟩, List.mem_of_getElem? (i := 34) (by decide +kernel), List.mem_of_getElem? (i := 388) (by decide +kernel), List.mem_of_getElem? (i := 389) (by decide +kernel)⟩
theorem lw_p5 : lw_okq (⟨"FootKeeper", "seenOf", "(LFootKeeper$Shooter;I)I"⟩, 17) := ⟨⟨by decide +kernel, by decide +kernel⟩, List.mem_of_getElem? (i := 23) (by decide +kernel), List.mem_of_getElem? (i := 413) (by decide +kernel), List.mem_of_getElem? (i := 414) (by decide +kernel)⟩
theorem lw_p6 : lw_okq (⟨"FootKeeper$Ground", "clause", "(LFootKeeper$Row;I)Z"⟩, 9) := ⟨⟨by decide +kernel, by decide +kernel⟩, List.mem_of_getElem? (i := 34) (by decide +kernel), List.mem_of_getElem? (i := 503) (by decide +kernel), List.mem_of_getElem? (i := 504) (by decide +kernel)⟩
theorem lw_p7 : lw_okq (⟨"FootKeeper$Ground", "word", "(LFootKeeper$Row;)I"⟩, 9) := ⟨⟨by decide +kernel, by decide +kernel⟩, List.mem_of_getElem? (i := 34) (by decide +kernel), List.mem_of_getElem? (i := 507) (by decide +kernel), List.mem_of_getElem? (i := 508) (by decide +kernel)⟩
theorem lw_p8 : lw_okq (⟨"FootKeeper$Ground", "alike", "(LFootKeeper$Row;Ljava/lang/String;)I"⟩, 9) := ⟨⟨by decide +kernel, by decide +kernel⟩, List.mem_of_getElem? (i := 34) (by decide +kernel), List.mem_of_getElem? (i := 519) (by decide +kernel), List.mem_of_getElem? (i := 520) (by decide +kernel)⟩
theorem lw_p9 : lw_okq (⟨"FootKeeper$Ground", "skip", "(LFootKeeper$Row;C)Z"⟩, 9) := ⟨⟨by decide +kernel, by decide +kernel⟩, List.mem_of_getElem? (i := 34) (by decide +kernel), List.mem_of_getElem? (i := 575) (by decide +kernel), List.mem_of_getElem? (i := 576) (by decide +kernel)⟩
theorem lw_p10 : lw_okq (⟨"FootKeeper$Ground", "number", "(LFootKeeper$Row;)I"⟩, 9) := ⟨⟨by decide +kernel, by decide +kernel⟩, List.mem_of_getElem? (i := 34) (by decide +kernel), List.mem_of_getElem? (i := 579) (by decide +kernel), List.mem_of_getElem? (i := 580) (by decide +kernel)⟩
theorem lw_p11 : lw_okq (⟨"FootKeeper$Ground", "either", "(LFootKeeper$Row;I)Z"⟩, 9) := ⟨⟨by decide +kernel, by decide +kernel⟩, List.mem_of_getElem? (i := 34) (by decide +kernel), List.mem_of_getElem? (i := 586) (by decide +kernel), List.mem_of_getElem? (i := 587) (by decide +kernel)⟩
theorem lw_p12 : lw_okq (⟨"FootKeeper$Ground", "both", "(LFootKeeper$Row;I)Z"⟩, 9) := ⟨⟨by decide +kernel, by decide +kernel⟩, List.mem_of_getElem? (i := 34) (by decide +kernel), List.mem_of_getElem? (i := 590) (by decide +kernel), List.mem_of_getElem? (i := 591) (by decide +kernel)⟩
theorem lw_p13 : lw_okq (⟨"FootKeeper$Ground", "unit", "(LFootKeeper$Row;I)Z"⟩, 9) := ⟨⟨by decide +kernel, by decide +kernel⟩, List.mem_of_getElem? (i := 34) (by decide +kernel), List.mem_of_getElem? (i := 594) (by decide +kernel), List.mem_of_getElem? (i := 595) (by decide +kernel)⟩
theorem lw_p14 : lw_okq (⟨"FootKeeper$Ground", "negated", "(LFootKeeper$Row;I)Z"⟩, 9) := ⟨⟨by decide +kernel, by decide +kernel⟩, List.mem_of_getElem? (i := 34) (by decide +kernel), List.mem_of_getElem? (i := 598) (by decide +kernel), List.mem_of_getElem? (i := 599) (by decide +kernel)⟩
theorem lw_p15 : lw_okq (⟨"FootKeeper$Ground", "addStep", "(I)Z"⟩, 9) := ⟨⟨by decide +kernel, by decide +kernel⟩, List.mem_of_getElem? (i := 34) (by decide +kernel), List.mem_of_getElem? (i := 602) (by decide +kernel), List.mem_of_getElem? (i := 603) (by decide +kernel)⟩
def lw_privs_1 : List (MethodName × Nat) := [(⟨"FootKeeper", "find", "(I)LFootKeeper$Shooter;"⟩, 17), (⟨"FootKeeper", "look", "(LFootKeeper$Table;LFootKeeper$Shooter;)V"⟩, 17), (⟨"FootKeeper$Ground", "setValues", "(LFootKeeper$Table;LFootKeeper$Shooter;)V"⟩, 9), (⟨"FootKeeper$Ground", "holds", "(II)I"⟩, 9), (⟨"FootKeeper$Ground", "tested", "(I)I"⟩, 9), (⟨"FootKeeper", "seenOf", "(LFootKeeper$Shooter;I)I"⟩, 17), (⟨"FootKeeper$Ground", "clause", "(LFootKeeper$Row;I)Z"⟩, 9), (⟨"FootKeeper$Ground", "word", "(LFootKeeper$Row;)I"⟩, 9), (⟨"FootKeeper$Ground", "alike", "(LFootKeeper$Row;Ljava/lang/String;)I"⟩, 9), (⟨"FootKeeper$Ground", "skip", "(LFootKeeper$Row;C)Z"⟩, 9), (⟨"FootKeeper$Ground", "number", "(LFootKeeper$Row;)I"⟩, 9), (⟨"FootKeeper$Ground", "either", "(LFootKeeper$Row;I)Z"⟩, 9), (⟨"FootKeeper$Ground", "both", "(LFootKeeper$Row;I)Z"⟩, 9), (⟨"FootKeeper$Ground", "unit", "(LFootKeeper$Row;I)Z"⟩, 9), (⟨"FootKeeper$Ground", "negated", "(LFootKeeper$Row;I)Z"⟩, 9), (⟨"FootKeeper$Ground", "addStep", "(I)Z"⟩, 9)]
theorem lw_r1 : ∀ q ∈ lw_privs_1, lw_okq q := List.forall_mem_cons.mpr ⟨lw_p0, List.forall_mem_cons.mpr ⟨lw_p1, List.forall_mem_cons.mpr ⟨lw_p2, List.forall_mem_cons.mpr ⟨lw_p3, List.forall_mem_cons.mpr ⟨lw_p4, List.forall_mem_cons.mpr ⟨lw_p5, List.forall_mem_cons.mpr ⟨lw_p6, List.forall_mem_cons.mpr ⟨lw_p7, List.forall_mem_cons.mpr ⟨lw_p8, List.forall_mem_cons.mpr ⟨lw_p9, List.forall_mem_cons.mpr ⟨lw_p10, List.forall_mem_cons.mpr ⟨lw_p11, List.forall_mem_cons.mpr ⟨lw_p12, List.forall_mem_cons.mpr ⟨lw_p13, List.forall_mem_cons.mpr ⟨lw_p14, List.forall_mem_cons.mpr ⟨lw_p15, fun _ h => absurd h List.not_mem_nil⟩⟩⟩⟩⟩⟩⟩⟩⟩⟩⟩⟩⟩⟩⟩⟩
theorem lw_p16 : lw_okq (⟨"FootKeeper$Ground", "oneOf", "(LFootKeeper$Row;Ljava/lang/String;)I"⟩, 9) := ⟨⟨by decide +kernel, by decide +kernel⟩, List.mem_of_getElem? (i := 34) (by decide +kernel), List.mem_of_getElem? (i := 607) (by decide +kernel), List.mem_of_getElem? (i := 608) (by decide +kernel)⟩
theorem lw_p17 : lw_okq (⟨"FootKeeper$View", "sum", "(IIII)I"⟩, 3) := ⟨⟨by decide +kernel, by decide +kernel⟩, List.mem_of_getElem? (i := 150) (by decide +kernel), List.mem_of_getElem? (i := 722) (by decide +kernel), List.mem_of_getElem? (i := 723) (by decide +kernel)⟩
theorem lw_p18 : lw_okq (⟨"FootKeeper", "reckonLine", "()V"⟩, 17) := ⟨⟨by decide +kernel, by decide +kernel⟩, List.mem_of_getElem? (i := 23) (by decide +kernel), List.mem_of_getElem? (i := 735) (by decide +kernel), List.mem_of_getElem? (i := 736) (by decide +kernel)⟩
theorem lw_p19 : lw_okq (⟨"FootKeeper", "beginReckoning", "()V"⟩, 17) := ⟨⟨by decide +kernel, by decide +kernel⟩, List.mem_of_getElem? (i := 23) (by decide +kernel), List.mem_of_getElem? (i := 739) (by decide +kernel), List.mem_of_getElem? (i := 740) (by decide +kernel)⟩
theorem lw_p20 : lw_okq (⟨"FootKeeper", "supposed", "()LFootKeeper$Table;"⟩, 17) := ⟨⟨by decide +kernel, by decide +kernel⟩, List.mem_of_getElem? (i := 23) (by decide +kernel), List.mem_of_getElem? (i := 746) (by decide +kernel), List.mem_of_getElem? (i := 747) (by decide +kernel)⟩
theorem lw_p21 : lw_okq (⟨"FootKeeper", "spread", "(IIJ)V"⟩, 17) := ⟨⟨by decide +kernel, by decide +kernel⟩, List.mem_of_getElem? (i := 23) (by decide +kernel), List.mem_of_getElem? (i := 757) (by decide +kernel), List.mem_of_getElem? (i := 758) (by decide +kernel)⟩
theorem lw_p22 : lw_okq (⟨"FootKeeper", "goOn", "(IIIZIJ)V"⟩, 17) := ⟨⟨by decide +kernel, by decide +kernel⟩, List.mem_of_getElem? (i := 23) (by decide +kernel), List.mem_of_getElem? (i := 762) (by decide +kernel), List.mem_of_getElem? (i := 763) (by decide +kernel)⟩
theorem lw_p23 : lw_okq (⟨"FootKeeper", "chooseOrder", "(I)V"⟩, 17) := ⟨⟨by decide +kernel, by decide +kernel⟩, List.mem_of_getElem? (i := 23) (by decide +kernel), List.mem_of_getElem? (i := 777) (by decide +kernel), List.mem_of_getElem? (i := 778) (by decide +kernel)⟩
theorem lw_p24 : lw_okq (⟨"FootKeeper", "arrange", "(II)Z"⟩, 17) := ⟨⟨by decide +kernel, by decide +kernel⟩, List.mem_of_getElem? (i := 23) (by decide +kernel), List.mem_of_getElem? (i := 782) (by decide +kernel), List.mem_of_getElem? (i := 783) (by decide +kernel)⟩
theorem lw_p25 : lw_okq (⟨"FootKeeper", "moreThanHalf", "(I)J"⟩, 17) := ⟨⟨by decide +kernel, by decide +kernel⟩, List.mem_of_getElem? (i := 23) (by decide +kernel), List.mem_of_getElem? (i := 786) (by decide +kernel), List.mem_of_getElem? (i := 787) (by decide +kernel)⟩
theorem lw_p26 : lw_okq (⟨"FootKeeper", "reckonOthers", "(II)V"⟩, 17) := ⟨⟨by decide +kernel, by decide +kernel⟩, List.mem_of_getElem? (i := 23) (by decide +kernel), List.mem_of_getElem? (i := 795) (by decide +kernel), List.mem_of_getElem? (i := 796) (by decide +kernel)⟩
theorem lw_p27 : lw_okq (⟨"FootKeeper", "goesAsSeen", "(LFootKeeper$Shooter;)Z"⟩, 17) := ⟨⟨by decide +kernel, by decide +kernel⟩, List.mem_of_getElem? (i := 23) (by decide +kernel), List.mem_of_getElem? (i := 824) (by decide +kernel), List.mem_of_getElem? (i := 825) (by decide +kernel)⟩
theorem lw_p28 : lw_okq (⟨"FootKeeper", "isTape", "(I)Z"⟩, 17) := ⟨⟨by decide +kernel, by decide +kernel⟩, List.mem_of_getElem? (i := 23) (by decide +kernel), List.mem_of_getElem? (i := 849) (by decide +kernel), List.mem_of_getElem? (i := 850) (by decide +kernel)⟩
theorem lw_p29 : lw_okq (⟨"FootKeeper", "hasPlace", "(II)Z"⟩, 17) := ⟨⟨by decide +kernel, by decide +kernel⟩, List.mem_of_getElem? (i := 23) (by decide +kernel), List.mem_of_getElem? (i := 853) (by decide +kernel), List.mem_of_getElem? (i := 854) (by decide +kernel)⟩
theorem lw_p30 : lw_okq (⟨"FootKeeper", "hasPart", "(III)Z"⟩, 17) := ⟨⟨by decide +kernel, by decide +kernel⟩, List.mem_of_getElem? (i := 23) (by decide +kernel), List.mem_of_getElem? (i := 990) (by decide +kernel), List.mem_of_getElem? (i := 991) (by decide +kernel)⟩
theorem lw_p31 : lw_okq (⟨"FootKeeperModel", "in", "(III)Z"⟩, 67) := ⟨⟨by decide +kernel, by decide +kernel⟩, List.mem_of_getElem? (i := 994) (by decide +kernel), List.mem_of_getElem? (i := 1207) (by decide +kernel), List.mem_of_getElem? (i := 1208) (by decide +kernel)⟩
def lw_privs_2 : List (MethodName × Nat) := [(⟨"FootKeeper$Ground", "oneOf", "(LFootKeeper$Row;Ljava/lang/String;)I"⟩, 9), (⟨"FootKeeper$View", "sum", "(IIII)I"⟩, 3), (⟨"FootKeeper", "reckonLine", "()V"⟩, 17), (⟨"FootKeeper", "beginReckoning", "()V"⟩, 17), (⟨"FootKeeper", "supposed", "()LFootKeeper$Table;"⟩, 17), (⟨"FootKeeper", "spread", "(IIJ)V"⟩, 17), (⟨"FootKeeper", "goOn", "(IIIZIJ)V"⟩, 17), (⟨"FootKeeper", "chooseOrder", "(I)V"⟩, 17), (⟨"FootKeeper", "arrange", "(II)Z"⟩, 17), (⟨"FootKeeper", "moreThanHalf", "(I)J"⟩, 17), (⟨"FootKeeper", "reckonOthers", "(II)V"⟩, 17), (⟨"FootKeeper", "goesAsSeen", "(LFootKeeper$Shooter;)Z"⟩, 17), (⟨"FootKeeper", "isTape", "(I)Z"⟩, 17), (⟨"FootKeeper", "hasPlace", "(II)Z"⟩, 17), (⟨"FootKeeper", "hasPart", "(III)Z"⟩, 17), (⟨"FootKeeperModel", "in", "(III)Z"⟩, 67)]
theorem lw_r2 : ∀ q ∈ lw_privs_2, lw_okq q := List.forall_mem_cons.mpr ⟨lw_p16, List.forall_mem_cons.mpr ⟨lw_p17, List.forall_mem_cons.mpr ⟨lw_p18, List.forall_mem_cons.mpr ⟨lw_p19, List.forall_mem_cons.mpr ⟨lw_p20, List.forall_mem_cons.mpr ⟨lw_p21, List.forall_mem_cons.mpr ⟨lw_p22, List.forall_mem_cons.mpr ⟨lw_p23, List.forall_mem_cons.mpr ⟨lw_p24, List.forall_mem_cons.mpr ⟨lw_p25, List.forall_mem_cons.mpr ⟨lw_p26, List.forall_mem_cons.mpr ⟨lw_p27, List.forall_mem_cons.mpr ⟨lw_p28, List.forall_mem_cons.mpr ⟨lw_p29, List.forall_mem_cons.mpr ⟨lw_p30, List.forall_mem_cons.mpr ⟨lw_p31, fun _ h => absurd h List.not_mem_nil⟩⟩⟩⟩⟩⟩⟩⟩⟩⟩⟩⟩⟩⟩⟩⟩
theorem lw_p32 : lw_okq (⟨"FootKeeperModel", "isShooter", "(I)Z"⟩, 67) := ⟨⟨by decide +kernel, by decide +kernel⟩, List.mem_of_getElem? (i := 994) (by decide +kernel), List.mem_of_getElem? (i := 1215) (by decide +kernel), List.mem_of_getElem? (i := 1216) (by decide +kernel)⟩
theorem lw_p33 : lw_okq (⟨"FootKeeperModel", "isSide", "(I)Z"⟩, 67) := ⟨⟨by decide +kernel, by decide +kernel⟩, List.mem_of_getElem? (i := 994) (by decide +kernel), List.mem_of_getElem? (i := 1223) (by decide +kernel), List.mem_of_getElem? (i := 1224) (by decide +kernel)⟩
theorem lw_p34 : lw_okq (⟨"FootKeeperModel", "goesText", "(I)Z"⟩, 67) := ⟨⟨by decide +kernel, by decide +kernel⟩, List.mem_of_getElem? (i := 994) (by decide +kernel), List.mem_of_getElem? (i := 1235) (by decide +kernel), List.mem_of_getElem? (i := 1236) (by decide +kernel)⟩
theorem lw_p35 : lw_okq (⟨"FootKeeperModel", "takesClause", "(I)Z"⟩, 67) := ⟨⟨by decide +kernel, by decide +kernel⟩, List.mem_of_getElem? (i := 994) (by decide +kernel), List.mem_of_getElem? (i := 1239) (by decide +kernel), List.mem_of_getElem? (i := 1240) (by decide +kernel)⟩
theorem lw_p36 : lw_okq (⟨"FootKeeperModel", "takesHead", "(I)Z"⟩, 67) := ⟨⟨by decide +kernel, by decide +kernel⟩, List.mem_of_getElem? (i := 994) (by decide +kernel), List.mem_of_getElem? (i := 1243) (by decide +kernel), List.mem_of_getElem? (i := 1244) (by decide +kernel)⟩
theorem lw_p37 : lw_okq (⟨"FootKeeperModel", "next", "()I"⟩, 67) := ⟨⟨by decide +kernel, by decide +kernel⟩, List.mem_of_getElem? (i := 994) (by decide +kernel), List.mem_of_getElem? (i := 1247) (by decide +kernel), List.mem_of_getElem? (i := 1248) (by decide +kernel)⟩
theorem lw_p38 : lw_okq (⟨"FootKeeperModel", "takesWord", "(II)Z"⟩, 67) := ⟨⟨by decide +kernel, by decide +kernel⟩, List.mem_of_getElem? (i := 994) (by decide +kernel), List.mem_of_getElem? (i := 1251) (by decide +kernel), List.mem_of_getElem? (i := 1252) (by decide +kernel)⟩
theorem lw_p39 : lw_okq (⟨"FootKeeperModel", "takes", "(I)Z"⟩, 67) := ⟨⟨by decide +kernel, by decide +kernel⟩, List.mem_of_getElem? (i := 994) (by decide +kernel), List.mem_of_getElem? (i := 1255) (by decide +kernel), List.mem_of_getElem? (i := 1256) (by decide +kernel)⟩
theorem lw_p40 : lw_okq (⟨"FootKeeperModel", "second", "()I"⟩, 67) := ⟨⟨by decide +kernel, by decide +kernel⟩, List.mem_of_getElem? (i := 994) (by decide +kernel), List.mem_of_getElem? (i := 1259) (by decide +kernel), List.mem_of_getElem? (i := 1260) (by decide +kernel)⟩
theorem lw_p41 : lw_okq (⟨"FootKeeperModel", "takesE", "(I)Z"⟩, 67) := ⟨⟨by decide +kernel, by decide +kernel⟩, List.mem_of_getElem? (i := 994) (by decide +kernel), List.mem_of_getElem? (i := 1263) (by decide +kernel), List.mem_of_getElem? (i := 1264) (by decide +kernel)⟩
theorem lw_p42 : lw_okq (⟨"FootKeeperModel", "takesTest", "()Z"⟩, 67) := ⟨⟨by decide +kernel, by decide +kernel⟩, List.mem_of_getElem? (i := 994) (by decide +kernel), List.mem_of_getElem? (i := 1267) (by decide +kernel), List.mem_of_getElem? (i := 1268) (by decide +kernel)⟩
theorem lw_p43 : lw_okq (⟨"FootKeeperModel", "place", "(I)I"⟩, 67) := ⟨⟨by decide +kernel, by decide +kernel⟩, List.mem_of_getElem? (i := 994) (by decide +kernel), List.mem_of_getElem? (i := 1271) (by decide +kernel), List.mem_of_getElem? (i := 1272) (by decide +kernel)⟩
theorem lw_p44 : lw_okq (⟨"FootKeeperModel", "takesNumber", "()Z"⟩, 67) := ⟨⟨by decide +kernel, by decide +kernel⟩, List.mem_of_getElem? (i := 994) (by decide +kernel), List.mem_of_getElem? (i := 1275) (by decide +kernel), List.mem_of_getElem? (i := 1276) (by decide +kernel)⟩
theorem lw_p45 : lw_okq (⟨"FootKeeperModel", "isDigit", "()Z"⟩, 67) := ⟨⟨by decide +kernel, by decide +kernel⟩, List.mem_of_getElem? (i := 994) (by decide +kernel), List.mem_of_getElem? (i := 1279) (by decide +kernel), List.mem_of_getElem? (i := 1280) (by decide +kernel)⟩
theorem lw_p46 : lw_okq (⟨"FootKeeperModel", "emits", "(I)V"⟩, 67) := ⟨⟨by decide +kernel, by decide +kernel⟩, List.mem_of_getElem? (i := 994) (by decide +kernel), List.mem_of_getElem? (i := 1283) (by decide +kernel), List.mem_of_getElem? (i := 1284) (by decide +kernel)⟩
theorem lw_p47 : lw_okq (⟨"FootKeeperModel", "whole", "()V"⟩, 67) := ⟨⟨by decide +kernel, by decide +kernel⟩, List.mem_of_getElem? (i := 994) (by decide +kernel), List.mem_of_getElem? (i := 1287) (by decide +kernel), List.mem_of_getElem? (i := 1288) (by decide +kernel)⟩
def lw_privs_3 : List (MethodName × Nat) := [(⟨"FootKeeperModel", "isShooter", "(I)Z"⟩, 67), (⟨"FootKeeperModel", "isSide", "(I)Z"⟩, 67), (⟨"FootKeeperModel", "goesText", "(I)Z"⟩, 67), (⟨"FootKeeperModel", "takesClause", "(I)Z"⟩, 67), (⟨"FootKeeperModel", "takesHead", "(I)Z"⟩, 67), (⟨"FootKeeperModel", "next", "()I"⟩, 67), (⟨"FootKeeperModel", "takesWord", "(II)Z"⟩, 67), (⟨"FootKeeperModel", "takes", "(I)Z"⟩, 67), (⟨"FootKeeperModel", "second", "()I"⟩, 67), (⟨"FootKeeperModel", "takesE", "(I)Z"⟩, 67), (⟨"FootKeeperModel", "takesTest", "()Z"⟩, 67), (⟨"FootKeeperModel", "place", "(I)I"⟩, 67), (⟨"FootKeeperModel", "takesNumber", "()Z"⟩, 67), (⟨"FootKeeperModel", "isDigit", "()Z"⟩, 67), (⟨"FootKeeperModel", "emits", "(I)V"⟩, 67), (⟨"FootKeeperModel", "whole", "()V"⟩, 67)]
theorem lw_r3 : ∀ q ∈ lw_privs_3, lw_okq q := List.forall_mem_cons.mpr ⟨lw_p32, List.forall_mem_cons.mpr ⟨lw_p33, List.forall_mem_cons.mpr ⟨lw_p34, List.forall_mem_cons.mpr ⟨lw_p35, List.forall_mem_cons.mpr ⟨lw_p36, List.forall_mem_cons.mpr ⟨lw_p37, List.forall_mem_cons.mpr ⟨lw_p38, List.forall_mem_cons.mpr ⟨lw_p39, List.forall_mem_cons.mpr ⟨lw_p40, List.forall_mem_cons.mpr ⟨lw_p41, List.forall_mem_cons.mpr ⟨lw_p42, List.forall_mem_cons.mpr ⟨lw_p43, List.forall_mem_cons.mpr ⟨lw_p44, List.forall_mem_cons.mpr ⟨lw_p45, List.forall_mem_cons.mpr ⟨lw_p46, List.forall_mem_cons.mpr ⟨lw_p47, fun _ h => absurd h List.not_mem_nil⟩⟩⟩⟩⟩⟩⟩⟩⟩⟩⟩⟩⟩⟩⟩⟩
theorem lw_p48 : lw_okq (⟨"FootKeeperModel", "settle", "(I)V"⟩, 67) := ⟨⟨by decide +kernel, by decide +kernel⟩, List.mem_of_getElem? (i := 994) (by decide +kernel), List.mem_of_getElem? (i := 1291) (by decide +kernel), List.mem_of_getElem? (i := 1292) (by decide +kernel)⟩
theorem lw_p49 : lw_okq (⟨"FootKeeperModel", "sure", "(II)I"⟩, 67) := ⟨⟨by decide +kernel, by decide +kernel⟩, List.mem_of_getElem? (i := 994) (by decide +kernel), List.mem_of_getElem? (i := 1299) (by decide +kernel), List.mem_of_getElem? (i := 1300) (by decide +kernel)⟩
theorem lw_p50 : lw_okq (⟨"FootKeeperModel", "percent", "(IIII)I"⟩, 67) := ⟨⟨by decide +kernel, by decide +kernel⟩, List.mem_of_getElem? (i := 994) (by decide +kernel), List.mem_of_getElem? (i := 1303) (by decide +kernel), List.mem_of_getElem? (i := 1304) (by decide +kernel)⟩
theorem lw_p51 : lw_okq (⟨"FootKeeperModel", "begin", "()I"⟩, 67) := ⟨⟨by decide +kernel, by decide +kernel⟩, List.mem_of_getElem? (i := 994) (by decide +kernel), List.mem_of_getElem? (i := 1307) (by decide +kernel), List.mem_of_getElem? (i := 1308) (by decide +kernel)⟩
theorem lw_p52 : lw_okq (⟨"FootKeeperModel", "behind", "()I"⟩, 67) := ⟨⟨by decide +kernel, by decide +kernel⟩, List.mem_of_getElem? (i := 994) (by decide +kernel), List.mem_of_getElem? (i := 1311) (by decide +kernel), List.mem_of_getElem? (i := 1312) (by decide +kernel)⟩
theorem lw_p53 : lw_okq (⟨"FootKeeperModel", "holds", "(III)Z"⟩, 67) := ⟨⟨by decide +kernel, by decide +kernel⟩, List.mem_of_getElem? (i := 994) (by decide +kernel), List.mem_of_getElem? (i := 1315) (by decide +kernel), List.mem_of_getElem? (i := 1316) (by decide +kernel)⟩
theorem lw_p54 : lw_okq (⟨"FootKeeperModel", "factOf", "(III)I"⟩, 67) := ⟨⟨by decide +kernel, by decide +kernel⟩, List.mem_of_getElem? (i := 994) (by decide +kernel), List.mem_of_getElem? (i := 1319) (by decide +kernel), List.mem_of_getElem? (i := 1320) (by decide +kernel)⟩
theorem lw_p55 : lw_okq (⟨"FootKeeperModel", "saves", "(II)I"⟩, 67) := ⟨⟨by decide +kernel, by decide +kernel⟩, List.mem_of_getElem? (i := 994) (by decide +kernel), List.mem_of_getElem? (i := 1323) (by decide +kernel), List.mem_of_getElem? (i := 1324) (by decide +kernel)⟩
theorem lw_p56 : lw_okq (⟨"FootKeeperModel", "aim", "(I)I"⟩, 67) := ⟨⟨by decide +kernel, by decide +kernel⟩, List.mem_of_getElem? (i := 994) (by decide +kernel), List.mem_of_getElem? (i := 1327) (by decide +kernel), List.mem_of_getElem? (i := 1328) (by decide +kernel)⟩
theorem lw_p57 : lw_okq (⟨"FootKeeperModel", "turned", "(I)I"⟩, 67) := ⟨⟨by decide +kernel, by decide +kernel⟩, List.mem_of_getElem? (i := 994) (by decide +kernel), List.mem_of_getElem? (i := 1331) (by decide +kernel), List.mem_of_getElem? (i := 1332) (by decide +kernel)⟩
theorem lw_p58 : lw_okq (⟨"FootKeeperModel", "plainly", "(I)I"⟩, 67) := ⟨⟨by decide +kernel, by decide +kernel⟩, List.mem_of_getElem? (i := 994) (by decide +kernel), List.mem_of_getElem? (i := 1335) (by decide +kernel), List.mem_of_getElem? (i := 1336) (by decide +kernel)⟩
theorem lw_p59 : lw_okq (⟨"FootKeeperModel", "steady", "(I)I"⟩, 67) := ⟨⟨by decide +kernel, by decide +kernel⟩, List.mem_of_getElem? (i := 994) (by decide +kernel), List.mem_of_getElem? (i := 1339) (by decide +kernel), List.mem_of_getElem? (i := 1340) (by decide +kernel)⟩
theorem lw_p60 : lw_okq (⟨"FootKeeperModel", "waits", "(I)I"⟩, 67) := ⟨⟨by decide +kernel, by decide +kernel⟩, List.mem_of_getElem? (i := 994) (by decide +kernel), List.mem_of_getElem? (i := 1343) (by decide +kernel), List.mem_of_getElem? (i := 1344) (by decide +kernel)⟩
theorem lw_p61 : lw_okq (⟨"FootKeeperModel", "note", "(I)I"⟩, 67) := ⟨⟨by decide +kernel, by decide +kernel⟩, List.mem_of_getElem? (i := 994) (by decide +kernel), List.mem_of_getElem? (i := 1347) (by decide +kernel), List.mem_of_getElem? (i := 1348) (by decide +kernel)⟩
theorem lw_p62 : lw_okq (⟨"FootKeeperModel", "chanceOf", "(III)I"⟩, 67) := ⟨⟨by decide +kernel, by decide +kernel⟩, List.mem_of_getElem? (i := 994) (by decide +kernel), List.mem_of_getElem? (i := 1359) (by decide +kernel), List.mem_of_getElem? (i := 1360) (by decide +kernel)⟩
theorem lw_p63 : lw_okq (⟨"FootKeeperModel", "chanceNow", "(I)I"⟩, 67) := ⟨⟨by decide +kernel, by decide +kernel⟩, List.mem_of_getElem? (i := 994) (by decide +kernel), List.mem_of_getElem? (i := 1367) (by decide +kernel), List.mem_of_getElem? (i := 1368) (by decide +kernel)⟩
def lw_privs_4 : List (MethodName × Nat) := [(⟨"FootKeeperModel", "settle", "(I)V"⟩, 67), (⟨"FootKeeperModel", "sure", "(II)I"⟩, 67), (⟨"FootKeeperModel", "percent", "(IIII)I"⟩, 67), (⟨"FootKeeperModel", "begin", "()I"⟩, 67), (⟨"FootKeeperModel", "behind", "()I"⟩, 67), (⟨"FootKeeperModel", "holds", "(III)Z"⟩, 67), (⟨"FootKeeperModel", "factOf", "(III)I"⟩, 67), (⟨"FootKeeperModel", "saves", "(II)I"⟩, 67), (⟨"FootKeeperModel", "aim", "(I)I"⟩, 67), (⟨"FootKeeperModel", "turned", "(I)I"⟩, 67), (⟨"FootKeeperModel", "plainly", "(I)I"⟩, 67), (⟨"FootKeeperModel", "steady", "(I)I"⟩, 67), (⟨"FootKeeperModel", "waits", "(I)I"⟩, 67), (⟨"FootKeeperModel", "note", "(I)I"⟩, 67), (⟨"FootKeeperModel", "chanceOf", "(III)I"⟩, 67), (⟨"FootKeeperModel", "chanceNow", "(I)I"⟩, 67)]
theorem lw_r4 : ∀ q ∈ lw_privs_4, lw_okq q := List.forall_mem_cons.mpr ⟨lw_p48, List.forall_mem_cons.mpr ⟨lw_p49, List.forall_mem_cons.mpr ⟨lw_p50, List.forall_mem_cons.mpr ⟨lw_p51, List.forall_mem_cons.mpr ⟨lw_p52, List.forall_mem_cons.mpr ⟨lw_p53, List.forall_mem_cons.mpr ⟨lw_p54, List.forall_mem_cons.mpr ⟨lw_p55, List.forall_mem_cons.mpr ⟨lw_p56, List.forall_mem_cons.mpr ⟨lw_p57, List.forall_mem_cons.mpr ⟨lw_p58, List.forall_mem_cons.mpr ⟨lw_p59, List.forall_mem_cons.mpr ⟨lw_p60, List.forall_mem_cons.mpr ⟨lw_p61, List.forall_mem_cons.mpr ⟨lw_p62, List.forall_mem_cons.mpr ⟨lw_p63, fun _ h => absurd h List.not_mem_nil⟩⟩⟩⟩⟩⟩⟩⟩⟩⟩⟩⟩⟩⟩⟩⟩
theorem lw_p64 : lw_okq (⟨"FootKeeperModel", "goes", "(IZ)I"⟩, 67) := ⟨⟨by decide +kernel, by decide +kernel⟩, List.mem_of_getElem? (i := 994) (by decide +kernel), List.mem_of_getElem? (i := 1371) (by decide +kernel), List.mem_of_getElem? (i := 1372) (by decide +kernel)⟩
theorem lw_p65 : lw_okq (⟨"FootKeeperModel", "more", "(I)I"⟩, 67) := ⟨⟨by decide +kernel, by decide +kernel⟩, List.mem_of_getElem? (i := 994) (by decide +kernel), List.mem_of_getElem? (i := 1375) (by decide +kernel), List.mem_of_getElem? (i := 1376) (by decide +kernel)⟩
theorem lw_p66 : lw_okq (⟨"FootKeeperModel", "mixed", "(III)I"⟩, 67) := ⟨⟨by decide +kernel, by decide +kernel⟩, List.mem_of_getElem? (i := 994) (by decide +kernel), List.mem_of_getElem? (i := 1391) (by decide +kernel), List.mem_of_getElem? (i := 1392) (by decide +kernel)⟩
theorem lw_p67 : lw_okq (⟨"FootKeeperModel", "layInOrder", "()V"⟩, 67) := ⟨⟨by decide +kernel, by decide +kernel⟩, List.mem_of_getElem? (i := 994) (by decide +kernel), List.mem_of_getElem? (i := 1404) (by decide +kernel), List.mem_of_getElem? (i := 1405) (by decide +kernel)⟩
theorem lw_p68 : lw_okq (⟨"FootKeeperModel", "layParts", "()V"⟩, 67) := ⟨⟨by decide +kernel, by decide +kernel⟩, List.mem_of_getElem? (i := 994) (by decide +kernel), List.mem_of_getElem? (i := 1408) (by decide +kernel), List.mem_of_getElem? (i := 1409) (by decide +kernel)⟩
theorem lw_p69 : lw_okq (⟨"FootKeeperModel", "save", "()V"⟩, 67) := ⟨⟨by decide +kernel, by decide +kernel⟩, List.mem_of_getElem? (i := 994) (by decide +kernel), List.mem_of_getElem? (i := 1412) (by decide +kernel), List.mem_of_getElem? (i := 1413) (by decide +kernel)⟩
theorem lw_p70 : lw_okq (⟨"FootKeeperModel", "has", "(II)Z"⟩, 67) := ⟨⟨by decide +kernel, by decide +kernel⟩, List.mem_of_getElem? (i := 994) (by decide +kernel), List.mem_of_getElem? (i := 1416) (by decide +kernel), List.mem_of_getElem? (i := 1417) (by decide +kernel)⟩
theorem lw_p71 : lw_okq (⟨"FootKeeperModel", "putBack", "()V"⟩, 67) := ⟨⟨by decide +kernel, by decide +kernel⟩, List.mem_of_getElem? (i := 994) (by decide +kernel), List.mem_of_getElem? (i := 1420) (by decide +kernel), List.mem_of_getElem? (i := 1421) (by decide +kernel)⟩
theorem lw_p72 : lw_okq (⟨"FootKeeperModel", "hundreds", "(I)J"⟩, 67) := ⟨⟨by decide +kernel, by decide +kernel⟩, List.mem_of_getElem? (i := 994) (by decide +kernel), List.mem_of_getElem? (i := 1424) (by decide +kernel), List.mem_of_getElem? (i := 1425) (by decide +kernel)⟩
theorem lw_p73 : lw_okq (⟨"FootKeeperModel", "lowest", "(JJI)J"⟩, 67) := ⟨⟨by decide +kernel, by decide +kernel⟩, List.mem_of_getElem? (i := 994) (by decide +kernel), List.mem_of_getElem? (i := 1429) (by decide +kernel), List.mem_of_getElem? (i := 1430) (by decide +kernel)⟩
theorem lw_p74 : lw_okq (⟨"FootKeeperModel", "divisor", "(JJ)J"⟩, 67) := ⟨⟨by decide +kernel, by decide +kernel⟩, List.mem_of_getElem? (i := 994) (by decide +kernel), List.mem_of_getElem? (i := 1433) (by decide +kernel), List.mem_of_getElem? (i := 1434) (by decide +kernel)⟩
theorem lw_p75 : lw_okq (⟨"FootKeeperModel", "layOrder", "(I)Z"⟩, 67) := ⟨⟨by decide +kernel, by decide +kernel⟩, List.mem_of_getElem? (i := 994) (by decide +kernel), List.mem_of_getElem? (i := 1442) (by decide +kernel), List.mem_of_getElem? (i := 1443) (by decide +kernel)⟩
theorem lw_p76 : lw_okq (⟨"FootKeeperModel", "layOthers", "(I)V"⟩, 67) := ⟨⟨by decide +kernel, by decide +kernel⟩, List.mem_of_getElem? (i := 994) (by decide +kernel), List.mem_of_getElem? (i := 1450) (by decide +kernel), List.mem_of_getElem? (i := 1451) (by decide +kernel)⟩
theorem lw_p77 : lw_okq (⟨"FootKeeperModel", "isSeen", "(I)Z"⟩, 67) := ⟨⟨by decide +kernel, by decide +kernel⟩, List.mem_of_getElem? (i := 994) (by decide +kernel), List.mem_of_getElem? (i := 1478) (by decide +kernel), List.mem_of_getElem? (i := 1479) (by decide +kernel)⟩
theorem lw_p78 : lw_okq (⟨"FootKeeperModel", "isTape", "(I)Z"⟩, 67) := ⟨⟨by decide +kernel, by decide +kernel⟩, List.mem_of_getElem? (i := 994) (by decide +kernel), List.mem_of_getElem? (i := 1503) (by decide +kernel), List.mem_of_getElem? (i := 1504) (by decide +kernel)⟩
theorem lw_p79 : lw_okq (⟨"FootKeeperModel", "aimsAct", "(II)I"⟩, 67) := ⟨⟨by decide +kernel, by decide +kernel⟩, List.mem_of_getElem? (i := 994) (by decide +kernel), List.mem_of_getElem? (i := 1519) (by decide +kernel), List.mem_of_getElem? (i := 1520) (by decide +kernel)⟩
def lw_privs_5 : List (MethodName × Nat) := [(⟨"FootKeeperModel", "goes", "(IZ)I"⟩, 67), (⟨"FootKeeperModel", "more", "(I)I"⟩, 67), (⟨"FootKeeperModel", "mixed", "(III)I"⟩, 67), (⟨"FootKeeperModel", "layInOrder", "()V"⟩, 67), (⟨"FootKeeperModel", "layParts", "()V"⟩, 67), (⟨"FootKeeperModel", "save", "()V"⟩, 67), (⟨"FootKeeperModel", "has", "(II)Z"⟩, 67), (⟨"FootKeeperModel", "putBack", "()V"⟩, 67), (⟨"FootKeeperModel", "hundreds", "(I)J"⟩, 67), (⟨"FootKeeperModel", "lowest", "(JJI)J"⟩, 67), (⟨"FootKeeperModel", "divisor", "(JJ)J"⟩, 67), (⟨"FootKeeperModel", "layOrder", "(I)Z"⟩, 67), (⟨"FootKeeperModel", "layOthers", "(I)V"⟩, 67), (⟨"FootKeeperModel", "isSeen", "(I)Z"⟩, 67), (⟨"FootKeeperModel", "isTape", "(I)Z"⟩, 67), (⟨"FootKeeperModel", "aimsAct", "(II)I"⟩, 67)]
theorem lw_r5 : ∀ q ∈ lw_privs_5, lw_okq q := List.forall_mem_cons.mpr ⟨lw_p64, List.forall_mem_cons.mpr ⟨lw_p65, List.forall_mem_cons.mpr ⟨lw_p66, List.forall_mem_cons.mpr ⟨lw_p67, List.forall_mem_cons.mpr ⟨lw_p68, List.forall_mem_cons.mpr ⟨lw_p69, List.forall_mem_cons.mpr ⟨lw_p70, List.forall_mem_cons.mpr ⟨lw_p71, List.forall_mem_cons.mpr ⟨lw_p72, List.forall_mem_cons.mpr ⟨lw_p73, List.forall_mem_cons.mpr ⟨lw_p74, List.forall_mem_cons.mpr ⟨lw_p75, List.forall_mem_cons.mpr ⟨lw_p76, List.forall_mem_cons.mpr ⟨lw_p77, List.forall_mem_cons.mpr ⟨lw_p78, List.forall_mem_cons.mpr ⟨lw_p79, fun _ h => absurd h List.not_mem_nil⟩⟩⟩⟩⟩⟩⟩⟩⟩⟩⟩⟩⟩⟩⟩⟩
theorem lw_p80 : lw_okq (⟨"FootKeeperModel", "body", "(I)V"⟩, 67) := ⟨⟨by decide +kernel, by decide +kernel⟩, List.mem_of_getElem? (i := 994) (by decide +kernel), List.mem_of_getElem? (i := 1523) (by decide +kernel), List.mem_of_getElem? (i := 1524) (by decide +kernel)⟩
theorem lw_p81 : lw_okq (⟨"FootKeeperModel", "shooterAims", "(II)I"⟩, 67) := ⟨⟨by decide +kernel, by decide +kernel⟩, List.mem_of_getElem? (i := 994) (by decide +kernel), List.mem_of_getElem? (i := 1527) (by decide +kernel), List.mem_of_getElem? (i := 1528) (by decide +kernel)⟩
theorem lw_p82 : lw_okq (⟨"FootKeeperModel", "showsAct", "(II)I"⟩, 67) := ⟨⟨by decide +kernel, by decide +kernel⟩, List.mem_of_getElem? (i := 994) (by decide +kernel), List.mem_of_getElem? (i := 1531) (by decide +kernel), List.mem_of_getElem? (i := 1532) (by decide +kernel)⟩
theorem lw_p83 : lw_okq (⟨"FootKeeperModel", "turnedShows", "(II)I"⟩, 67) := ⟨⟨by decide +kernel, by decide +kernel⟩, List.mem_of_getElem? (i := 994) (by decide +kernel), List.mem_of_getElem? (i := 1535) (by decide +kernel), List.mem_of_getElem? (i := 1536) (by decide +kernel)⟩
theorem lw_p84 : lw_okq (⟨"FootKeeperModel", "shooterShows", "(II)I"⟩, 67) := ⟨⟨by decide +kernel, by decide +kernel⟩, List.mem_of_getElem? (i := 994) (by decide +kernel), List.mem_of_getElem? (i := 1539) (by decide +kernel), List.mem_of_getElem? (i := 1540) (by decide +kernel)⟩
theorem lw_p85 : lw_okq (⟨"FootKeeperModel", "tellsAct", "(II)I"⟩, 67) := ⟨⟨by decide +kernel, by decide +kernel⟩, List.mem_of_getElem? (i := 994) (by decide +kernel), List.mem_of_getElem? (i := 1543) (by decide +kernel), List.mem_of_getElem? (i := 1544) (by decide +kernel)⟩
theorem lw_p86 : lw_okq (⟨"FootKeeperModel", "shooterTells", "(II)I"⟩, 67) := ⟨⟨by decide +kernel, by decide +kernel⟩, List.mem_of_getElem? (i := 994) (by decide +kernel), List.mem_of_getElem? (i := 1547) (by decide +kernel), List.mem_of_getElem? (i := 1548) (by decide +kernel)⟩
theorem lw_p87 : lw_okq (⟨"FootKeeperModel", "narrow", "(IJ)J"⟩, 67) := ⟨⟨by decide +kernel, by decide +kernel⟩, List.mem_of_getElem? (i := 994) (by decide +kernel), List.mem_of_getElem? (i := 1571) (by decide +kernel), List.mem_of_getElem? (i := 1572) (by decide +kernel)⟩
def lw_privs_6 : List (MethodName × Nat) := [(⟨"FootKeeperModel", "body", "(I)V"⟩, 67), (⟨"FootKeeperModel", "shooterAims", "(II)I"⟩, 67), (⟨"FootKeeperModel", "showsAct", "(II)I"⟩, 67), (⟨"FootKeeperModel", "turnedShows", "(II)I"⟩, 67), (⟨"FootKeeperModel", "shooterShows", "(II)I"⟩, 67), (⟨"FootKeeperModel", "tellsAct", "(II)I"⟩, 67), (⟨"FootKeeperModel", "shooterTells", "(II)I"⟩, 67), (⟨"FootKeeperModel", "narrow", "(IJ)J"⟩, 67)]
theorem lw_r6 : ∀ q ∈ lw_privs_6, lw_okq q := List.forall_mem_cons.mpr ⟨lw_p80, List.forall_mem_cons.mpr ⟨lw_p81, List.forall_mem_cons.mpr ⟨lw_p82, List.forall_mem_cons.mpr ⟨lw_p83, List.forall_mem_cons.mpr ⟨lw_p84, List.forall_mem_cons.mpr ⟨lw_p85, List.forall_mem_cons.mpr ⟨lw_p86, List.forall_mem_cons.mpr ⟨lw_p87, fun _ h => absurd h List.not_mem_nil⟩⟩⟩⟩⟩⟩⟩⟩
def lw_privs : List (MethodName × Nat) := lw_privs_1 ++ (lw_privs_2 ++ (lw_privs_3 ++ (lw_privs_4 ++ (lw_privs_5 ++ (lw_privs_6)))))
def lw_tbl : List Cond := k2_sels lw_privs ++ tables_1
theorem lw_privs_ok : ∀ q ∈ lw_privs, lw_okq q := by
  show ∀ q ∈ lw_privs_1 ++ (lw_privs_2 ++ (lw_privs_3 ++ (lw_privs_4 ++ (lw_privs_5 ++ (lw_privs_6))))), lw_okq q
  exact List.forall_mem_append.mpr ⟨lw_r1, List.forall_mem_append.mpr ⟨lw_r2, List.forall_mem_append.mpr ⟨lw_r3, List.forall_mem_append.mpr ⟨lw_r4, List.forall_mem_append.mpr ⟨lw_r5, lw_r6⟩⟩⟩⟩⟩
-- ===== end of PART A; then your names; then what follows =====
def RX0 : String := "FootKeeper$Changing"
def TX0 : u_T := fun k => match k with
  | 0 => ("FootKeeper$Shooter", "number", "I", true)
  | _ => ("FootKeeper$Shooter", "v", "I", true)
def tyX0 : Nat → FieldType := fun k => match k with
  | 0 => .int
  | _ => .int
abbrev wsX00 : List Cond := u_ws RX0 TX0 2
theorem nmX0 : ∀ a, a < 2 → ∀ b, b < 2 → a ≠ b → (TX0 a).2.1 ≠ (TX0 b).2.1 := by decide +kernel
theorem tyX0_ok : ∀ k, k < 2 → parseFieldDescriptor (TX0 k).2.2.1 = some (tyX0 k) := by decide +kernel
abbrev cX0_init : ByteArray := prog_2_method_1_code
def yX0_init : MethodName := ⟨RX0, "<init>", "(II)V"⟩
abbrev cX0_kind : ByteArray := prog_2_method_2_code
def yX0_kind : MethodName := ⟨RX0, "kind", "()I"⟩
abbrev cX0_side : ByteArray := prog_2_method_3_code
def yX0_side : MethodName := ⟨RX0, "side", "(LFootKeeper$View;LFootKeeper$Table;)I"⟩
abbrev cX0_aims : ByteArray := prog_2_method_4_code
def yX0_aims : MethodName := ⟨RX0, "aims", "(ILFootKeeper$Row;)I"⟩
abbrev cX0_shows : ByteArray := prog_2_method_5_code
def yX0_shows : MethodName := ⟨RX0, "shows", "(ILFootKeeper$Row;)I"⟩
def RX1 : String := "FootKeeper$Ground"
def TX1 : u_T := fun k => match k with
  | 0 => ("FootKeeper$Ground", "words", "[I", true)
  | 1 => ("FootKeeper$Ground", "amounts", "[I", true)
  | 2 => ("FootKeeper$Ground", "starts", "[I", true)
  | 3 => ("FootKeeper$Ground", "ends", "[I", true)
  | 4 => ("FootKeeper$Ground", "clauses", "I", false)
  | 5 => ("FootKeeper$Ground", "steps", "[I", true)
  | 6 => ("FootKeeper$Ground", "stepCount", "I", false)
  | 7 => ("FootKeeper$Ground", "place", "I", false)
  | _ => ("FootKeeper$Ground", "values", "[I", true)
def tyX1 : Nat → FieldType := fun k => match k with
  | 0 => .array .int
  | 1 => .array .int
  | 2 => .array .int
  | 3 => .array .int
  | 4 => .int
  | 5 => .array .int
  | 6 => .int
  | 7 => .int
  | _ => .array .int
abbrev wsX10 : List Cond := u_ws RX1 TX1 9
theorem nmX1 : ∀ a, a < 9 → ∀ b, b < 9 → a ≠ b → (TX1 a).2.1 ≠ (TX1 b).2.1 := by decide +kernel
theorem tyX1_ok : ∀ k, k < 9 → parseFieldDescriptor (TX1 k).2.2.1 = some (tyX1 k) := by decide +kernel
abbrev cX1_init : ByteArray := prog_3_method_1_code
def yX1_init : MethodName := ⟨RX1, "<init>", "()V"⟩
abbrev cX1_parse : ByteArray := prog_3_method_2_code
def yX1_parse : MethodName := ⟨RX1, "parse", "(LFootKeeper$Row;)I"⟩
abbrev cX1_clause : ByteArray := prog_3_method_3_code
def yX1_clause : MethodName := ⟨RX1, "clause", "(LFootKeeper$Row;I)Z"⟩
abbrev cX1_word : ByteArray := prog_3_method_4_code
def yX1_word : MethodName := ⟨RX1, "word", "(LFootKeeper$Row;)I"⟩
abbrev cX1_spelling : ByteArray := prog_3_method_5_code
def yX1_spelling : MethodName := ⟨RX1, "spelling", "(I)Ljava/lang/String;"⟩
abbrev cX1_alike : ByteArray := prog_3_method_6_code
def yX1_alike : MethodName := ⟨RX1, "alike", "(LFootKeeper$Row;Ljava/lang/String;)I"⟩
abbrev cX1_skip : ByteArray := prog_3_method_7_code
def yX1_skip : MethodName := ⟨RX1, "skip", "(LFootKeeper$Row;C)Z"⟩
abbrev cX1_number : ByteArray := prog_3_method_8_code
def yX1_number : MethodName := ⟨RX1, "number", "(LFootKeeper$Row;)I"⟩
abbrev cX1_isDigit : ByteArray := prog_3_method_9_code
def yX1_isDigit : MethodName := ⟨RX1, "isDigit", "(I)Z"⟩
abbrev cX1_either : ByteArray := prog_3_method_10_code
def yX1_either : MethodName := ⟨RX1, "either", "(LFootKeeper$Row;I)Z"⟩
abbrev cX1_both : ByteArray := prog_3_method_11_code
def yX1_both : MethodName := ⟨RX1, "both", "(LFootKeeper$Row;I)Z"⟩
abbrev cX1_unit : ByteArray := prog_3_method_12_code
def yX1_unit : MethodName := ⟨RX1, "unit", "(LFootKeeper$Row;I)Z"⟩
abbrev cX1_negated : ByteArray := prog_3_method_13_code
def yX1_negated : MethodName := ⟨RX1, "negated", "(LFootKeeper$Row;I)Z"⟩
abbrev cX1_oneOf : ByteArray := prog_3_method_14_code
def yX1_oneOf : MethodName := ⟨RX1, "oneOf", "(LFootKeeper$Row;Ljava/lang/String;)I"⟩
abbrev cX1_addStep : ByteArray := prog_3_method_15_code
def yX1_addStep : MethodName := ⟨RX1, "addStep", "(I)Z"⟩
abbrev cX1_tell : ByteArray := prog_3_method_16_code
def yX1_tell : MethodName := ⟨RX1, "tell", "(LFootKeeper$Table;LFootKeeper$Shooter;LFootKeeper$View;)V"⟩
abbrev cX1_setValues : ByteArray := prog_3_method_17_code
def yX1_setValues : MethodName := ⟨RX1, "setValues", "(LFootKeeper$Table;LFootKeeper$Shooter;)V"⟩
abbrev cX1_sideOf : ByteArray := prog_3_method_18_code
def yX1_sideOf : MethodName := ⟨RX1, "sideOf", "(I)I"⟩
abbrev cX1_holds : ByteArray := prog_3_method_19_code
def yX1_holds : MethodName := ⟨RX1, "holds", "(II)I"⟩
abbrev cX1_tested : ByteArray := prog_3_method_20_code
def yX1_tested : MethodName := ⟨RX1, "tested", "(I)I"⟩
abbrev cX1_compared : ByteArray := prog_3_method_21_code
def yX1_compared : MethodName := ⟨RX1, "compared", "(III)Z"⟩
def RX2 : String := "FootKeeper$Read"
def TX2 : u_T := fun k => match k with
  | 0 => ("FootKeeper$Shooter", "number", "I", true)
  | _ => ("FootKeeper$Shooter", "v", "I", true)
def tyX2 : Nat → FieldType := fun k => match k with
  | 0 => .int
  | _ => .int
abbrev wsX20 : List Cond := u_ws RX2 TX2 2
theorem nmX2 : ∀ a, a < 2 → ∀ b, b < 2 → a ≠ b → (TX2 a).2.1 ≠ (TX2 b).2.1 := by decide +kernel
theorem tyX2_ok : ∀ k, k < 2 → parseFieldDescriptor (TX2 k).2.2.1 = some (tyX2 k) := by decide +kernel
abbrev cX2_init : ByteArray := prog_4_method_1_code
def yX2_init : MethodName := ⟨RX2, "<init>", "(II)V"⟩
abbrev cX2_kind : ByteArray := prog_4_method_2_code
def yX2_kind : MethodName := ⟨RX2, "kind", "()I"⟩
abbrev cX2_side : ByteArray := prog_4_method_3_code
def yX2_side : MethodName := ⟨RX2, "side", "(LFootKeeper$View;LFootKeeper$Table;)I"⟩
abbrev cX2_tells : ByteArray := prog_4_method_4_code
def yX2_tells : MethodName := ⟨RX2, "tells", "(ILFootKeeper$Row;)I"⟩
def RX3 : String := "FootKeeper$Row"
def TX3 : u_T := fun k => match k with
  | 0 => ("FootKeeper$Row", "items", "[I", true)
  | 1 => ("FootKeeper$Row", "size", "I", false)
  | _ => ("FootKeeper$Row", "offered", "I", false)
def tyX3 : Nat → FieldType := fun k => match k with
  | 0 => .array .int
  | 1 => .int
  | _ => .int
abbrev wsX30 : List Cond := u_ws RX3 TX3 3
theorem nmX3 : ∀ a, a < 3 → ∀ b, b < 3 → a ≠ b → (TX3 a).2.1 ≠ (TX3 b).2.1 := by decide +kernel
theorem tyX3_ok : ∀ k, k < 3 → parseFieldDescriptor (TX3 k).2.2.1 = some (tyX3 k) := by decide +kernel
abbrev cX3_init : ByteArray := prog_5_method_1_code
def yX3_init : MethodName := ⟨RX3, "<init>", "(I)V"⟩
abbrev cX3_add : ByteArray := prog_5_method_2_code
def yX3_add : MethodName := ⟨RX3, "add", "(I)Z"⟩
abbrev cX3_clear : ByteArray := prog_5_method_3_code
def yX3_clear : MethodName := ⟨RX3, "clear", "()I"⟩
abbrev cX3_at : ByteArray := prog_5_method_4_code
def yX3_at : MethodName := ⟨RX3, "at", "(I)I"⟩
abbrev cX3_takeAll : ByteArray := prog_5_method_5_code
def yX3_takeAll : MethodName := ⟨RX3, "takeAll", "(LFootKeeper$Row;)V"⟩
def RX4 : String := "FootKeeper$Shooter"
def TX4 : u_T := fun k => match k with
  | 0 => ("FootKeeper$Shooter", "number", "I", true)
  | _ => ("FootKeeper$Shooter", "v", "I", true)
def tyX4 : Nat → FieldType := fun k => match k with
  | 0 => .int
  | _ => .int
abbrev wsX40 : List Cond := u_ws RX4 TX4 2
theorem nmX4 : ∀ a, a < 2 → ∀ b, b < 2 → a ≠ b → (TX4 a).2.1 ≠ (TX4 b).2.1 := by decide +kernel
theorem tyX4_ok : ∀ k, k < 2 → parseFieldDescriptor (TX4 k).2.2.1 = some (tyX4 k) := by decide +kernel
abbrev cX4_init : ByteArray := prog_6_method_1_code
def yX4_init : MethodName := ⟨RX4, "<init>", "(II)V"⟩
abbrev cX4_kind : ByteArray := prog_6_method_2_code
def yX4_kind : MethodName := ⟨RX4, "kind", "()I"⟩
abbrev cX4_side : ByteArray := prog_6_method_3_code
def yX4_side : MethodName := ⟨RX4, "side", "(LFootKeeper$View;LFootKeeper$Table;)I"⟩
abbrev cX4_aims : ByteArray := prog_6_method_4_code
def yX4_aims : MethodName := ⟨RX4, "aims", "(ILFootKeeper$Row;)I"⟩
abbrev cX4_shows : ByteArray := prog_6_method_5_code
def yX4_shows : MethodName := ⟨RX4, "shows", "(ILFootKeeper$Row;)I"⟩
abbrev cX4_tells : ByteArray := prog_6_method_6_code
def yX4_tells : MethodName := ⟨RX4, "tells", "(ILFootKeeper$Row;)I"⟩
def RX5 : String := "FootKeeper$Steady"
def TX5 : u_T := fun k => match k with
  | 0 => ("FootKeeper$Shooter", "number", "I", true)
  | _ => ("FootKeeper$Shooter", "v", "I", true)
def tyX5 : Nat → FieldType := fun k => match k with
  | 0 => .int
  | _ => .int
abbrev wsX50 : List Cond := u_ws RX5 TX5 2
theorem nmX5 : ∀ a, a < 2 → ∀ b, b < 2 → a ≠ b → (TX5 a).2.1 ≠ (TX5 b).2.1 := by decide +kernel
theorem tyX5_ok : ∀ k, k < 2 → parseFieldDescriptor (TX5 k).2.2.1 = some (tyX5 k) := by decide +kernel
abbrev cX5_init : ByteArray := prog_7_method_1_code
def yX5_init : MethodName := ⟨RX5, "<init>", "(II)V"⟩
abbrev cX5_kind : ByteArray := prog_7_method_2_code
def yX5_kind : MethodName := ⟨RX5, "kind", "()I"⟩
abbrev cX5_side : ByteArray := prog_7_method_3_code
def yX5_side : MethodName := ⟨RX5, "side", "(LFootKeeper$View;LFootKeeper$Table;)I"⟩
abbrev cX5_aims : ByteArray := prog_7_method_4_code
def yX5_aims : MethodName := ⟨RX5, "aims", "(ILFootKeeper$Row;)I"⟩
def RX6 : String := "FootKeeper$Table"
def TX6 : u_T := fun k => match k with
  | 0 => ("FootKeeper$Table", "shooters", "I", false)
  | 1 => ("FootKeeper$Table", "holding", "I", false)
  | 2 => ("FootKeeper$Table", "shots", "I", false)
  | 3 => ("FootKeeper$Table", "goals", "I", false)
  | 4 => ("FootKeeper$Table", "lasts", "[I", true)
  | 5 => ("FootKeeper$Table", "ownShots", "[I", true)
  | 6 => ("FootKeeper$Table", "ownGoals", "[I", true)
  | 7 => ("FootKeeper$Table", "toldSides", "[I", true)
  | 8 => ("FootKeeper$Table", "line", "LFootKeeper$Row;", true)
  | 9 => ("FootKeeper$Table", "seen", "LFootKeeper$Row;", true)
  | 10 => ("FootKeeper$Table", "bookShooters", "LFootKeeper$Row;", true)
  | _ => ("FootKeeper$Table", "bookDraws", "LFootKeeper$Row;", true)
def tyX6 : Nat → FieldType := fun k => match k with
  | 0 => .int
  | 1 => .int
  | 2 => .int
  | 3 => .int
  | 4 => .array .int
  | 5 => .array .int
  | 6 => .array .int
  | 7 => .array .int
  | 8 => .object "FootKeeper$Row"
  | 9 => .object "FootKeeper$Row"
  | 10 => .object "FootKeeper$Row"
  | _ => .object "FootKeeper$Row"
abbrev wsX60 : List Cond := u_ws RX6 TX6 12
theorem nmX6 : ∀ a, a < 12 → ∀ b, b < 12 → a ≠ b → (TX6 a).2.1 ≠ (TX6 b).2.1 := by decide +kernel
theorem tyX6_ok : ∀ k, k < 12 → parseFieldDescriptor (TX6 k).2.2.1 = some (tyX6 k) := by decide +kernel
abbrev cX6_init : ByteArray := prog_8_method_1_code
def yX6_init : MethodName := ⟨RX6, "<init>", "()V"⟩
abbrev cX6_takeRound : ByteArray := prog_8_method_2_code
def yX6_takeRound : MethodName := ⟨RX6, "takeRound", "(LFootKeeper$Table;)V"⟩
abbrev cX6_takeAll : ByteArray := prog_8_method_3_code
def yX6_takeAll : MethodName := ⟨RX6, "takeAll", "(LFootKeeper$Table;)V"⟩
abbrev cX6_lastOf : ByteArray := prog_8_method_4_code
def yX6_lastOf : MethodName := ⟨RX6, "lastOf", "(I)I"⟩
abbrev cX6_setLast : ByteArray := prog_8_method_5_code
def yX6_setLast : MethodName := ⟨RX6, "setLast", "(II)V"⟩
abbrev cX6_shotsOf : ByteArray := prog_8_method_6_code
def yX6_shotsOf : MethodName := ⟨RX6, "shotsOf", "(I)I"⟩
abbrev cX6_goalsOf : ByteArray := prog_8_method_7_code
def yX6_goalsOf : MethodName := ⟨RX6, "goalsOf", "(I)I"⟩
abbrev cX6_toldOf : ByteArray := prog_8_method_8_code
def yX6_toldOf : MethodName := ⟨RX6, "toldOf", "(II)I"⟩
abbrev cX6_setTold : ByteArray := prog_8_method_9_code
def yX6_setTold : MethodName := ⟨RX6, "setTold", "(III)V"⟩
abbrev cX6_addShot : ByteArray := prog_8_method_10_code
def yX6_addShot : MethodName := ⟨RX6, "addShot", "(IIZ)V"⟩
def RX7 : String := "FootKeeper$Told"
def TX7 : u_T := fun k => match k with
  | 0 => ("FootKeeper$Shooter", "number", "I", true)
  | _ => ("FootKeeper$Shooter", "v", "I", true)
def tyX7 : Nat → FieldType := fun k => match k with
  | 0 => .int
  | _ => .int
abbrev wsX70 : List Cond := u_ws RX7 TX7 2
theorem nmX7 : ∀ a, a < 2 → ∀ b, b < 2 → a ≠ b → (TX7 a).2.1 ≠ (TX7 b).2.1 := by decide +kernel
theorem tyX7_ok : ∀ k, k < 2 → parseFieldDescriptor (TX7 k).2.2.1 = some (tyX7 k) := by decide +kernel
abbrev cX7_init : ByteArray := prog_9_method_1_code
def yX7_init : MethodName := ⟨RX7, "<init>", "(II)V"⟩
abbrev cX7_kind : ByteArray := prog_9_method_2_code
def yX7_kind : MethodName := ⟨RX7, "kind", "()I"⟩
abbrev cX7_side : ByteArray := prog_9_method_3_code
def yX7_side : MethodName := ⟨RX7, "side", "(LFootKeeper$View;LFootKeeper$Table;)I"⟩
abbrev cX7_shows : ByteArray := prog_9_method_4_code
def yX7_shows : MethodName := ⟨RX7, "shows", "(ILFootKeeper$Row;)I"⟩
abbrev cX7_aims : ByteArray := prog_9_method_5_code
def yX7_aims : MethodName := ⟨RX7, "aims", "(ILFootKeeper$Row;)I"⟩
def RX8 : String := "FootKeeper$Turned"
def TX8 : u_T := fun k => match k with
  | 0 => ("FootKeeper$Shooter", "number", "I", true)
  | _ => ("FootKeeper$Shooter", "v", "I", true)
def tyX8 : Nat → FieldType := fun k => match k with
  | 0 => .int
  | _ => .int
abbrev wsX80 : List Cond := u_ws RX8 TX8 2
theorem nmX8 : ∀ a, a < 2 → ∀ b, b < 2 → a ≠ b → (TX8 a).2.1 ≠ (TX8 b).2.1 := by decide +kernel
theorem tyX8_ok : ∀ k, k < 2 → parseFieldDescriptor (TX8 k).2.2.1 = some (tyX8 k) := by decide +kernel
abbrev cX8_init : ByteArray := prog_10_method_1_code
def yX8_init : MethodName := ⟨RX8, "<init>", "(II)V"⟩
abbrev cX8_kind : ByteArray := prog_10_method_2_code
def yX8_kind : MethodName := ⟨RX8, "kind", "()I"⟩
abbrev cX8_side : ByteArray := prog_10_method_3_code
def yX8_side : MethodName := ⟨RX8, "side", "(LFootKeeper$View;LFootKeeper$Table;)I"⟩
abbrev cX8_shows : ByteArray := prog_10_method_4_code
def yX8_shows : MethodName := ⟨RX8, "shows", "(ILFootKeeper$Row;)I"⟩
def RX9 : String := "FootKeeper$View"
def TX9 : u_T := fun k => match k with
  | 0 => ("FootKeeper$View", "sure", "[I", true)
  | 1 => ("FootKeeper$View", "saves", "[I", true)
  | _ => ("FootKeeper$View", "note", "I", false)
def tyX9 : Nat → FieldType := fun k => match k with
  | 0 => .array .int
  | 1 => .array .int
  | _ => .int
abbrev wsX90 : List Cond := u_ws RX9 TX9 3
theorem nmX9 : ∀ a, a < 3 → ∀ b, b < 3 → a ≠ b → (TX9 a).2.1 ≠ (TX9 b).2.1 := by decide +kernel
theorem tyX9_ok : ∀ k, k < 3 → parseFieldDescriptor (TX9 k).2.2.1 = some (tyX9 k) := by decide +kernel
abbrev cX9_init : ByteArray := prog_11_method_1_code
def yX9_init : MethodName := ⟨RX9, "<init>", "()V"⟩
abbrev cX9_begin : ByteArray := prog_11_method_2_code
def yX9_begin : MethodName := ⟨RX9, "begin", "(I)V"⟩
abbrev cX9_addSure : ByteArray := prog_11_method_3_code
def yX9_addSure : MethodName := ⟨RX9, "addSure", "(II)V"⟩
abbrev cX9_addSaves : ByteArray := prog_11_method_4_code
def yX9_addSaves : MethodName := ⟨RX9, "addSaves", "(II)V"⟩
abbrev cX9_addTo : ByteArray := prog_11_method_5_code
def yX9_addTo : MethodName := ⟨RX9, "addTo", "([III)V"⟩
abbrev cX9_end : ByteArray := prog_11_method_6_code
def yX9_end : MethodName := ⟨RX9, "end", "(ZZ)V"⟩
abbrev cX9_sureOf : ByteArray := prog_11_method_7_code
def yX9_sureOf : MethodName := ⟨RX9, "sureOf", "(I)I"⟩
abbrev cX9_savesOf : ByteArray := prog_11_method_8_code
def yX9_savesOf : MethodName := ⟨RX9, "savesOf", "(I)I"⟩
abbrev cX9_chanceBy : ByteArray := prog_11_method_9_code
def yX9_chanceBy : MethodName := ⟨RX9, "chanceBy", "(II)I"⟩
abbrev cX9_bestSide : ByteArray := prog_11_method_10_code
def yX9_bestSide : MethodName := ⟨RX9, "bestSide", "()I"⟩
abbrev cX9_sideAway : ByteArray := prog_11_method_11_code
def yX9_sideAway : MethodName := ⟨RX9, "sideAway", "()I"⟩
abbrev cX9_leastSum : ByteArray := prog_11_method_12_code
def yX9_leastSum : MethodName := ⟨RX9, "leastSum", "(III)I"⟩
abbrev cX9_sum : ByteArray := prog_11_method_13_code
def yX9_sum : MethodName := ⟨RX9, "sum", "(IIII)I"⟩
def RX10 : String := "FootKeeper$Waiting"
def TX10 : u_T := fun k => match k with
  | 0 => ("FootKeeper$Shooter", "number", "I", true)
  | _ => ("FootKeeper$Shooter", "v", "I", true)
def tyX10 : Nat → FieldType := fun k => match k with
  | 0 => .int
  | _ => .int
abbrev wsX100 : List Cond := u_ws RX10 TX10 2
theorem nmX10 : ∀ a, a < 2 → ∀ b, b < 2 → a ≠ b → (TX10 a).2.1 ≠ (TX10 b).2.1 := by decide +kernel
theorem tyX10_ok : ∀ k, k < 2 → parseFieldDescriptor (TX10 k).2.2.1 = some (tyX10 k) := by decide +kernel
abbrev cX10_init : ByteArray := prog_12_method_1_code
def yX10_init : MethodName := ⟨RX10, "<init>", "(II)V"⟩
abbrev cX10_kind : ByteArray := prog_12_method_2_code
def yX10_kind : MethodName := ⟨RX10, "kind", "()I"⟩
abbrev cX10_side : ByteArray := prog_12_method_3_code
def yX10_side : MethodName := ⟨RX10, "side", "(LFootKeeper$View;LFootKeeper$Table;)I"⟩
abbrev cX10_tells : ByteArray := prog_12_method_4_code
def yX10_tells : MethodName := ⟨RX10, "tells", "(ILFootKeeper$Row;)I"⟩
def RX11 : String := "FootKeeper"
def TX11 : u_T := fun k => match k with
  | 0 => ("FootKeeper", "shooters", "[LFootKeeper$Shooter;", true)
  | 1 => ("FootKeeper", "grounds", "[LFootKeeper$Ground;", true)
  | 2 => ("FootKeeper", "groundCount", "I", false)
  | 3 => ("FootKeeper", "text", "LFootKeeper$Row;", true)
  | 4 => ("FootKeeper", "now", "LFootKeeper$Table;", true)
  | 5 => ("FootKeeper", "kept", "LFootKeeper$Table;", true)
  | 6 => ("FootKeeper", "imageTaken", "Z", false)
  | 7 => ("FootKeeper", "then", "[LFootKeeper$Table;", true)
  | 8 => ("FootKeeper", "view", "LFootKeeper$View;", true)
  | 9 => ("FootKeeper", "ran", "LFootKeeper$Row;", true)
  | 10 => ("FootKeeper", "tapes", "[[J", true)
  | 11 => ("FootKeeper", "sorts", "[I", true)
  | 12 => ("FootKeeper", "sizes", "[I", true)
  | 13 => ("FootKeeper", "chances", "[J", true)
  | 14 => ("FootKeeper", "others", "[J", true)
  | 15 => ("FootKeeper", "places", "[I", true)
  | _ => ("FootKeeper", "bestPlaces", "[I", true)
def tyX11 : Nat → FieldType := fun k => match k with
  | 0 => .array (.object "FootKeeper$Shooter")
  | 1 => .array (.object "FootKeeper$Ground")
  | 2 => .int
  | 3 => .object "FootKeeper$Row"
  | 4 => .object "FootKeeper$Table"
  | 5 => .object "FootKeeper$Table"
  | 6 => .boolean
  | 7 => .array (.object "FootKeeper$Table")
  | 8 => .object "FootKeeper$View"
  | 9 => .object "FootKeeper$Row"
  | 10 => .array (.array .long)
  | 11 => .array .int
  | 12 => .array .int
  | 13 => .array .long
  | 14 => .array .long
  | 15 => .array .int
  | _ => .array .int
abbrev wsX110 : List Cond := u_ws RX11 TX11 17
theorem nmX11 : ∀ a, a < 17 → ∀ b, b < 17 → a ≠ b → (TX11 a).2.1 ≠ (TX11 b).2.1 := by decide +kernel
theorem tyX11_ok : ∀ k, k < 17 → parseFieldDescriptor (TX11 k).2.2.1 = some (tyX11 k) := by decide +kernel
abbrev cX11_init : ByteArray := prog_1_method_1_code
def yX11_init : MethodName := ⟨RX11, "<init>", "()V"⟩
abbrev cX11_shooter : ByteArray := prog_1_method_2_code
def yX11_shooter : MethodName := ⟨RX11, "shooter", "(II)I"⟩
abbrev cX11_of : ByteArray := prog_1_method_3_code
def yX11_of : MethodName := ⟨RX11, "of", "(II)I"⟩
abbrev cX11_last : ByteArray := prog_1_method_4_code
def yX11_last : MethodName := ⟨RX11, "last", "(II)I"⟩
abbrev cX11_row : ByteArray := prog_1_method_5_code
def yX11_row : MethodName := ⟨RX11, "row", "(III)I"⟩
abbrev cX11_feed : ByteArray := prog_1_method_6_code
def yX11_feed : MethodName := ⟨RX11, "feed", "(I)I"⟩
abbrev cX11_ground : ByteArray := prog_1_method_7_code
def yX11_ground : MethodName := ⟨RX11, "ground", "()I"⟩
abbrev cX11_told : ByteArray := prog_1_method_8_code
def yX11_told : MethodName := ⟨RX11, "told", "(I)I"⟩
abbrev cX11_chance : ByteArray := prog_1_method_9_code
def yX11_chance : MethodName := ⟨RX11, "chance", "(III)I"⟩
abbrev cX11_shoot : ByteArray := prog_1_method_10_code
def yX11_shoot : MethodName := ⟨RX11, "shoot", "(II)I"⟩
abbrev cX11_anew : ByteArray := prog_1_method_11_code
def yX11_anew : MethodName := ⟨RX11, "anew", "()I"⟩
abbrev cX11_best : ByteArray := prog_1_method_12_code
def yX11_best : MethodName := ⟨RX11, "best", "(II)I"⟩
abbrev cX11_mix : ByteArray := prog_1_method_13_code
def yX11_mix : MethodName := ⟨RX11, "mix", "(II)I"⟩
abbrev cX11_line : ByteArray := prog_1_method_14_code
def yX11_line : MethodName := ⟨RX11, "line", "(I)I"⟩
abbrev cX11_likely : ByteArray := prog_1_method_15_code
def yX11_likely : MethodName := ⟨RX11, "likely", "(II)J"⟩
abbrev cX11_order : ByteArray := prog_1_method_16_code
def yX11_order : MethodName := ⟨RX11, "order", "(I)I"⟩
abbrev cX11_win : ByteArray := prog_1_method_17_code
def yX11_win : MethodName := ⟨RX11, "win", "(III)J"⟩
abbrev cX11_worth : ByteArray := prog_1_method_18_code
def yX11_worth : MethodName := ⟨RX11, "worth", "(I)I"⟩
abbrev cX11_stop : ByteArray := prog_1_method_19_code
def yX11_stop : MethodName := ⟨RX11, "stop", "(I)I"⟩
abbrev cX11_forget : ByteArray := prog_1_method_20_code
def yX11_forget : MethodName := ⟨RX11, "forget", "(II)I"⟩
abbrev cX11_caught : ByteArray := prog_1_method_21_code
def yX11_caught : MethodName := ⟨RX11, "caught", "(II)I"⟩
abbrev cX11_see : ByteArray := prog_1_method_22_code
def yX11_see : MethodName := ⟨RX11, "see", "(I)I"⟩
abbrev cX11_who : ByteArray := prog_1_method_23_code
def yX11_who : MethodName := ⟨RX11, "who", "()I"⟩
abbrev cX11_odds : ByteArray := prog_1_method_24_code
def yX11_odds : MethodName := ⟨RX11, "odds", "(II)J"⟩
abbrev cX11_mean : ByteArray := prog_1_method_25_code
def yX11_mean : MethodName := ⟨RX11, "mean", "(I)J"⟩
abbrev cX11_book : ByteArray := prog_1_method_26_code
def yX11_book : MethodName := ⟨RX11, "book", "(II)I"⟩
abbrev cX11_looked : ByteArray := prog_1_method_27_code
def yX11_looked : MethodName := ⟨RX11, "looked", "()I"⟩
abbrev cX11_judge : ByteArray := prog_1_method_28_code
def yX11_judge : MethodName := ⟨RX11, "judge", "(II)I"⟩
abbrev cX11_image : ByteArray := prog_1_method_29_code
def yX11_image : MethodName := ⟨RX11, "image", "()I"⟩
abbrev cX11_undo : ByteArray := prog_1_method_30_code
def yX11_undo : MethodName := ⟨RX11, "undo", "()I"⟩
abbrev cX11_act : ByteArray := prog_1_method_31_code
def yX11_act : MethodName := ⟨RX11, "act", "(III)I"⟩
abbrev cX11_trace : ByteArray := prog_1_method_32_code
def yX11_trace : MethodName := ⟨RX11, "trace", "(I)I"⟩
abbrev cX11_taken : ByteArray := prog_1_method_33_code
def yX11_taken : MethodName := ⟨RX11, "taken", "(II)I"⟩
abbrev cX11_count : ByteArray := prog_1_method_34_code
def yX11_count : MethodName := ⟨RX11, "count", "(I)I"⟩
abbrev cX11_tape : ByteArray := prog_1_method_35_code
def yX11_tape : MethodName := ⟨RX11, "tape", "(III)I"⟩
abbrev cX11_item : ByteArray := prog_1_method_36_code
def yX11_item : MethodName := ⟨RX11, "item", "(IIJ)I"⟩
abbrev cX11_read : ByteArray := prog_1_method_37_code
def yX11_read : MethodName := ⟨RX11, "read", "(II)J"⟩
abbrev cX11_shift : ByteArray := prog_1_method_38_code
def yX11_shift : MethodName := ⟨RX11, "shift", "(IIIII)I"⟩
abbrev cX11_isSide : ByteArray := prog_1_method_39_code
def yX11_isSide : MethodName := ⟨RX11, "isSide", "(I)Z"⟩
abbrev cX11_isDraw : ByteArray := prog_1_method_40_code
def yX11_isDraw : MethodName := ⟨RX11, "isDraw", "(I)Z"⟩
abbrev cX11_isHalf : ByteArray := prog_1_method_41_code
def yX11_isHalf : MethodName := ⟨RX11, "isHalf", "(I)Z"⟩
abbrev cX11_find : ByteArray := prog_1_method_42_code
def yX11_find : MethodName := ⟨RX11, "find", "(I)LFootKeeper$Shooter;"⟩
abbrev cX11_newShooter : ByteArray := prog_1_method_43_code
def yX11_newShooter : MethodName := ⟨RX11, "newShooter", "(III)LFootKeeper$Shooter;"⟩
abbrev cX11_isOfKind : ByteArray := prog_1_method_44_code
def yX11_isOfKind : MethodName := ⟨RX11, "isOfKind", "(LFootKeeper$Shooter;I)Z"⟩
abbrev cX11_look : ByteArray := prog_1_method_45_code
def yX11_look : MethodName := ⟨RX11, "look", "(LFootKeeper$Table;LFootKeeper$Shooter;)V"⟩
abbrev cX11_seenOf : ByteArray := prog_1_method_46_code
def yX11_seenOf : MethodName := ⟨RX11, "seenOf", "(LFootKeeper$Shooter;I)I"⟩
abbrev cX11_supposed : ByteArray := prog_1_method_47_code
def yX11_supposed : MethodName := ⟨RX11, "supposed", "()LFootKeeper$Table;"⟩
abbrev cX11_goesAsSeen : ByteArray := prog_1_method_48_code
def yX11_goesAsSeen : MethodName := ⟨RX11, "goesAsSeen", "(LFootKeeper$Shooter;)Z"⟩
abbrev cX11_reckonLine : ByteArray := prog_1_method_49_code
def yX11_reckonLine : MethodName := ⟨RX11, "reckonLine", "()V"⟩
abbrev cX11_beginReckoning : ByteArray := prog_1_method_50_code
def yX11_beginReckoning : MethodName := ⟨RX11, "beginReckoning", "()V"⟩
abbrev cX11_spread : ByteArray := prog_1_method_51_code
def yX11_spread : MethodName := ⟨RX11, "spread", "(IIJ)V"⟩
abbrev cX11_goOn : ByteArray := prog_1_method_52_code
def yX11_goOn : MethodName := ⟨RX11, "goOn", "(IIIZIJ)V"⟩
abbrev cX11_chooseOrder : ByteArray := prog_1_method_53_code
def yX11_chooseOrder : MethodName := ⟨RX11, "chooseOrder", "(I)V"⟩
abbrev cX11_arrange : ByteArray := prog_1_method_54_code
def yX11_arrange : MethodName := ⟨RX11, "arrange", "(II)Z"⟩
abbrev cX11_moreThanHalf : ByteArray := prog_1_method_55_code
def yX11_moreThanHalf : MethodName := ⟨RX11, "moreThanHalf", "(I)J"⟩
abbrev cX11_reckonOthers : ByteArray := prog_1_method_56_code
def yX11_reckonOthers : MethodName := ⟨RX11, "reckonOthers", "(II)V"⟩
abbrev cX11_hundreds : ByteArray := prog_1_method_57_code
def yX11_hundreds : MethodName := ⟨RX11, "hundreds", "(I)J"⟩
abbrev cX11_lowest : ByteArray := prog_1_method_58_code
def yX11_lowest : MethodName := ⟨RX11, "lowest", "(JJI)J"⟩
abbrev cX11_isTape : ByteArray := prog_1_method_59_code
def yX11_isTape : MethodName := ⟨RX11, "isTape", "(I)Z"⟩
abbrev cX11_hasPlace : ByteArray := prog_1_method_60_code
def yX11_hasPlace : MethodName := ⟨RX11, "hasPlace", "(II)Z"⟩
abbrev cX11_hasPart : ByteArray := prog_1_method_61_code
def yX11_hasPart : MethodName := ⟨RX11, "hasPart", "(III)Z"⟩
abbrev cX11_narrowed : ByteArray := prog_1_method_62_code
def yX11_narrowed : MethodName := ⟨RX11, "narrowed", "(IJ)J"⟩
def RX12 : String := "FootKeeperModel"
def TX12 : u_T := fun k => match k with
  | 0 => ("FootKeeperModel", "shooters", "I", false)
  | 1 => ("FootKeeperModel", "allShots", "I", false)
  | 2 => ("FootKeeperModel", "allGoals", "I", false)
  | 3 => ("FootKeeperModel", "kind", "[I", true)
  | 4 => ("FootKeeperModel", "v", "[I", true)
  | 5 => ("FootKeeperModel", "last", "[I", true)
  | 6 => ("FootKeeperModel", "shots", "[I", true)
  | 7 => ("FootKeeperModel", "goals", "[I", true)
  | 8 => ("FootKeeperModel", "rows", "[I", true)
  | 9 => ("FootKeeperModel", "grounds", "I", false)
  | 10 => ("FootKeeperModel", "the", "I", false)
  | 11 => ("FootKeeperModel", "fed", "I", false)
  | 12 => ("FootKeeperModel", "at", "I", false)
  | 13 => ("FootKeeperModel", "digits", "I", false)
  | 14 => ("FootKeeperModel", "text", "[I", true)
  | 15 => ("FootKeeperModel", "clauses", "[I", true)
  | 16 => ("FootKeeperModel", "word", "[I", true)
  | 17 => ("FootKeeperModel", "number", "[I", true)
  | 18 => ("FootKeeperModel", "from", "[I", true)
  | 19 => ("FootKeeperModel", "to", "[I", true)
  | 20 => ("FootKeeperModel", "sign", "[I", true)
  | 21 => ("FootKeeperModel", "waits", "[I", true)
  | 22 => ("FootKeeperModel", "signs", "I", false)
  | 23 => ("FootKeeperModel", "waiting", "I", false)
  | 24 => ("FootKeeperModel", "open", "I", false)
  | 25 => ("FootKeeperModel", "letters", "[I", true)
  | 26 => ("FootKeeperModel", "pile", "[Z", true)
  | 27 => ("FootKeeperModel", "keptShots", "I", false)
  | 28 => ("FootKeeperModel", "keptGoals", "I", false)
  | 29 => ("FootKeeperModel", "keptLast", "[I", true)
  | 30 => ("FootKeeperModel", "keptOwn", "[I", true)
  | 31 => ("FootKeeperModel", "keptIn", "[I", true)
  | 32 => ("FootKeeperModel", "lines", "I", false)
  | 33 => ("FootKeeperModel", "line", "[I", true)
  | 34 => ("FootKeeperModel", "places", "[I", true)
  | 35 => ("FootKeeperModel", "bestPlaces", "[I", true)
  | 36 => ("FootKeeperModel", "parts", "[J", true)
  | 37 => ("FootKeeperModel", "others", "[J", true)
  | 38 => ("FootKeeperModel", "seen", "I", false)
  | 39 => ("FootKeeperModel", "side", "[I", true)
  | 40 => ("FootKeeperModel", "books", "I", false)
  | 41 => ("FootKeeperModel", "bookWho", "[I", true)
  | 42 => ("FootKeeperModel", "bookDraw", "[I", true)
  | 43 => ("FootKeeperModel", "hasImage", "Z", false)
  | 44 => ("FootKeeperModel", "imageThe", "I", false)
  | 45 => ("FootKeeperModel", "imageShooters", "I", false)
  | 46 => ("FootKeeperModel", "imageShots", "I", false)
  | 47 => ("FootKeeperModel", "imageGoals", "I", false)
  | 48 => ("FootKeeperModel", "imageLines", "I", false)
  | 49 => ("FootKeeperModel", "imageSeen", "I", false)
  | 50 => ("FootKeeperModel", "imageBooks", "I", false)
  | 51 => ("FootKeeperModel", "imageKind", "[I", true)
  | 52 => ("FootKeeperModel", "imageV", "[I", true)
  | 53 => ("FootKeeperModel", "imageLast", "[I", true)
  | 54 => ("FootKeeperModel", "imageOwn", "[I", true)
  | 55 => ("FootKeeperModel", "imageIn", "[I", true)
  | 56 => ("FootKeeperModel", "imageRows", "[I", true)
  | 57 => ("FootKeeperModel", "imageLine", "[I", true)
  | 58 => ("FootKeeperModel", "imageSide", "[I", true)
  | 59 => ("FootKeeperModel", "imageWho", "[I", true)
  | 60 => ("FootKeeperModel", "imageDraw", "[I", true)
  | 61 => ("FootKeeperModel", "ran", "I", false)
  | 62 => ("FootKeeperModel", "bodies", "[I", true)
  | 63 => ("FootKeeperModel", "sort", "[I", true)
  | 64 => ("FootKeeperModel", "length", "[I", true)
  | 65 => ("FootKeeperModel", "item", "[J", true)
  | _ => ("FootKeeperModel", "aside", "[J", true)
def tyX12 : Nat → FieldType := fun k => match k with
  | 0 => .int
  | 1 => .int
  | 2 => .int
  | 3 => .array .int
  | 4 => .array .int
  | 5 => .array .int
  | 6 => .array .int
  | 7 => .array .int
  | 8 => .array .int
  | 9 => .int
  | 10 => .int
  | 11 => .int
  | 12 => .int
  | 13 => .int
  | 14 => .array .int
  | 15 => .array .int
  | 16 => .array .int
  | 17 => .array .int
  | 18 => .array .int
  | 19 => .array .int
  | 20 => .array .int
  | 21 => .array .int
  | 22 => .int
  | 23 => .int
  | 24 => .int
  | 25 => .array .int
  | 26 => .array .boolean
  | 27 => .int
  | 28 => .int
  | 29 => .array .int
  | 30 => .array .int
  | 31 => .array .int
  | 32 => .int
  | 33 => .array .int
  | 34 => .array .int
  | 35 => .array .int
  | 36 => .array .long
  | 37 => .array .long
  | 38 => .int
  | 39 => .array .int
  | 40 => .int
  | 41 => .array .int
  | 42 => .array .int
  | 43 => .boolean
  | 44 => .int
  | 45 => .int
  | 46 => .int
  | 47 => .int
  | 48 => .int
  | 49 => .int
  | 50 => .int
  | 51 => .array .int
  | 52 => .array .int
  | 53 => .array .int
  | 54 => .array .int
  | 55 => .array .int
  | 56 => .array .int
  | 57 => .array .int
  | 58 => .array .int
  | 59 => .array .int
  | 60 => .array .int
  | 61 => .int
  | 62 => .array .int
  | 63 => .array .int
  | 64 => .array .int
  | 65 => .array .long
  | _ => .array .long
abbrev wsX120 : List Cond := u_ws RX12 TX12 67
theorem nmX12 : ∀ a, a < 67 → ∀ b, b < 67 → a ≠ b → (TX12 a).2.1 ≠ (TX12 b).2.1 := by decide +kernel
theorem tyX12_ok : ∀ k, k < 67 → parseFieldDescriptor (TX12 k).2.2.1 = some (tyX12 k) := by decide +kernel
abbrev cX12_init : ByteArray := prog_14_method_1_code
def yX12_init : MethodName := ⟨RX12, "<init>", "()V"⟩
abbrev cX12_in : ByteArray := prog_14_method_2_code
def yX12_in : MethodName := ⟨RX12, "in", "(III)Z"⟩
abbrev cX12_has : ByteArray := prog_14_method_3_code
def yX12_has : MethodName := ⟨RX12, "has", "(II)Z"⟩
abbrev cX12_isShooter : ByteArray := prog_14_method_4_code
def yX12_isShooter : MethodName := ⟨RX12, "isShooter", "(I)Z"⟩
abbrev cX12_isSide : ByteArray := prog_14_method_5_code
def yX12_isSide : MethodName := ⟨RX12, "isSide", "(I)Z"⟩
abbrev cX12_shooter : ByteArray := prog_14_method_6_code
def yX12_shooter : MethodName := ⟨RX12, "shooter", "(II)I"⟩
abbrev cX12_last : ByteArray := prog_14_method_7_code
def yX12_last : MethodName := ⟨RX12, "last", "(II)I"⟩
abbrev cX12_row : ByteArray := prog_14_method_8_code
def yX12_row : MethodName := ⟨RX12, "row", "(III)I"⟩
abbrev cX12_feed : ByteArray := prog_14_method_9_code
def yX12_feed : MethodName := ⟨RX12, "feed", "(I)I"⟩
abbrev cX12_next : ByteArray := prog_14_method_10_code
def yX12_next : MethodName := ⟨RX12, "next", "()I"⟩
abbrev cX12_second : ByteArray := prog_14_method_11_code
def yX12_second : MethodName := ⟨RX12, "second", "()I"⟩
abbrev cX12_takes : ByteArray := prog_14_method_12_code
def yX12_takes : MethodName := ⟨RX12, "takes", "(I)Z"⟩
abbrev cX12_takesWord : ByteArray := prog_14_method_13_code
def yX12_takesWord : MethodName := ⟨RX12, "takesWord", "(II)Z"⟩
abbrev cX12_isDigit : ByteArray := prog_14_method_14_code
def yX12_isDigit : MethodName := ⟨RX12, "isDigit", "()Z"⟩
abbrev cX12_takesNumber : ByteArray := prog_14_method_15_code
def yX12_takesNumber : MethodName := ⟨RX12, "takesNumber", "()Z"⟩
abbrev cX12_emits : ByteArray := prog_14_method_16_code
def yX12_emits : MethodName := ⟨RX12, "emits", "(I)V"⟩
abbrev cX12_whole : ByteArray := prog_14_method_17_code
def yX12_whole : MethodName := ⟨RX12, "whole", "()V"⟩
abbrev cX12_settle : ByteArray := prog_14_method_18_code
def yX12_settle : MethodName := ⟨RX12, "settle", "(I)V"⟩
abbrev cX12_place : ByteArray := prog_14_method_19_code
def yX12_place : MethodName := ⟨RX12, "place", "(I)I"⟩
abbrev cX12_takesTest : ByteArray := prog_14_method_20_code
def yX12_takesTest : MethodName := ⟨RX12, "takesTest", "()Z"⟩
abbrev cX12_takesE : ByteArray := prog_14_method_21_code
def yX12_takesE : MethodName := ⟨RX12, "takesE", "(I)Z"⟩
abbrev cX12_takesHead : ByteArray := prog_14_method_22_code
def yX12_takesHead : MethodName := ⟨RX12, "takesHead", "(I)Z"⟩
abbrev cX12_takesClause : ByteArray := prog_14_method_23_code
def yX12_takesClause : MethodName := ⟨RX12, "takesClause", "(I)Z"⟩
abbrev cX12_goesText : ByteArray := prog_14_method_24_code
def yX12_goesText : MethodName := ⟨RX12, "goesText", "(I)Z"⟩
abbrev cX12_ground : ByteArray := prog_14_method_25_code
def yX12_ground : MethodName := ⟨RX12, "ground", "()I"⟩
abbrev cX12_begin : ByteArray := prog_14_method_26_code
def yX12_begin : MethodName := ⟨RX12, "begin", "()I"⟩
abbrev cX12_behind : ByteArray := prog_14_method_27_code
def yX12_behind : MethodName := ⟨RX12, "behind", "()I"⟩
abbrev cX12_factOf : ByteArray := prog_14_method_28_code
def yX12_factOf : MethodName := ⟨RX12, "factOf", "(III)I"⟩
abbrev cX12_holds : ByteArray := prog_14_method_29_code
def yX12_holds : MethodName := ⟨RX12, "holds", "(III)Z"⟩
abbrev cX12_percent : ByteArray := prog_14_method_30_code
def yX12_percent : MethodName := ⟨RX12, "percent", "(IIII)I"⟩
abbrev cX12_sure : ByteArray := prog_14_method_31_code
def yX12_sure : MethodName := ⟨RX12, "sure", "(II)I"⟩
abbrev cX12_saves : ByteArray := prog_14_method_32_code
def yX12_saves : MethodName := ⟨RX12, "saves", "(II)I"⟩
abbrev cX12_note : ByteArray := prog_14_method_33_code
def yX12_note : MethodName := ⟨RX12, "note", "(I)I"⟩
abbrev cX12_plainly : ByteArray := prog_14_method_34_code
def yX12_plainly : MethodName := ⟨RX12, "plainly", "(I)I"⟩
abbrev cX12_turned : ByteArray := prog_14_method_35_code
def yX12_turned : MethodName := ⟨RX12, "turned", "(I)I"⟩
abbrev cX12_steady : ByteArray := prog_14_method_36_code
def yX12_steady : MethodName := ⟨RX12, "steady", "(I)I"⟩
abbrev cX12_waits : ByteArray := prog_14_method_37_code
def yX12_waits : MethodName := ⟨RX12, "waits", "(I)I"⟩
abbrev cX12_aim : ByteArray := prog_14_method_38_code
def yX12_aim : MethodName := ⟨RX12, "aim", "(I)I"⟩
abbrev cX12_of : ByteArray := prog_14_method_39_code
def yX12_of : MethodName := ⟨RX12, "of", "(II)I"⟩
abbrev cX12_told : ByteArray := prog_14_method_40_code
def yX12_told : MethodName := ⟨RX12, "told", "(I)I"⟩
abbrev cX12_chanceOf : ByteArray := prog_14_method_41_code
def yX12_chanceOf : MethodName := ⟨RX12, "chanceOf", "(III)I"⟩
abbrev cX12_chance : ByteArray := prog_14_method_42_code
def yX12_chance : MethodName := ⟨RX12, "chance", "(III)I"⟩
abbrev cX12_chanceNow : ByteArray := prog_14_method_43_code
def yX12_chanceNow : MethodName := ⟨RX12, "chanceNow", "(I)I"⟩
abbrev cX12_more : ByteArray := prog_14_method_44_code
def yX12_more : MethodName := ⟨RX12, "more", "(I)I"⟩
abbrev cX12_goes : ByteArray := prog_14_method_45_code
def yX12_goes : MethodName := ⟨RX12, "goes", "(IZ)I"⟩
abbrev cX12_shoot : ByteArray := prog_14_method_46_code
def yX12_shoot : MethodName := ⟨RX12, "shoot", "(II)I"⟩
abbrev cX12_anew : ByteArray := prog_14_method_47_code
def yX12_anew : MethodName := ⟨RX12, "anew", "()I"⟩
abbrev cX12_best : ByteArray := prog_14_method_48_code
def yX12_best : MethodName := ⟨RX12, "best", "(II)I"⟩
abbrev cX12_mixed : ByteArray := prog_14_method_49_code
def yX12_mixed : MethodName := ⟨RX12, "mixed", "(III)I"⟩
abbrev cX12_mix : ByteArray := prog_14_method_50_code
def yX12_mix : MethodName := ⟨RX12, "mix", "(II)I"⟩
abbrev cX12_save : ByteArray := prog_14_method_51_code
def yX12_save : MethodName := ⟨RX12, "save", "()V"⟩
abbrev cX12_putBack : ByteArray := prog_14_method_52_code
def yX12_putBack : MethodName := ⟨RX12, "putBack", "()V"⟩
abbrev cX12_line : ByteArray := prog_14_method_53_code
def yX12_line : MethodName := ⟨RX12, "line", "(I)I"⟩
abbrev cX12_layParts : ByteArray := prog_14_method_54_code
def yX12_layParts : MethodName := ⟨RX12, "layParts", "()V"⟩
abbrev cX12_layInOrder : ByteArray := prog_14_method_55_code
def yX12_layInOrder : MethodName := ⟨RX12, "layInOrder", "()V"⟩
abbrev cX12_hundreds : ByteArray := prog_14_method_56_code
def yX12_hundreds : MethodName := ⟨RX12, "hundreds", "(I)J"⟩
abbrev cX12_divisor : ByteArray := prog_14_method_57_code
def yX12_divisor : MethodName := ⟨RX12, "divisor", "(JJ)J"⟩
abbrev cX12_lowest : ByteArray := prog_14_method_58_code
def yX12_lowest : MethodName := ⟨RX12, "lowest", "(JJI)J"⟩
abbrev cX12_likely : ByteArray := prog_14_method_59_code
def yX12_likely : MethodName := ⟨RX12, "likely", "(II)J"⟩
abbrev cX12_layOrder : ByteArray := prog_14_method_60_code
def yX12_layOrder : MethodName := ⟨RX12, "layOrder", "(I)Z"⟩
abbrev cX12_order : ByteArray := prog_14_method_61_code
def yX12_order : MethodName := ⟨RX12, "order", "(I)I"⟩
abbrev cX12_layOthers : ByteArray := prog_14_method_62_code
def yX12_layOthers : MethodName := ⟨RX12, "layOthers", "(I)V"⟩
abbrev cX12_win : ByteArray := prog_14_method_63_code
def yX12_win : MethodName := ⟨RX12, "win", "(III)J"⟩
abbrev cX12_worth : ByteArray := prog_14_method_64_code
def yX12_worth : MethodName := ⟨RX12, "worth", "(I)I"⟩
abbrev cX12_stop : ByteArray := prog_14_method_65_code
def yX12_stop : MethodName := ⟨RX12, "stop", "(I)I"⟩
abbrev cX12_forget : ByteArray := prog_14_method_66_code
def yX12_forget : MethodName := ⟨RX12, "forget", "(II)I"⟩
abbrev cX12_caught : ByteArray := prog_14_method_67_code
def yX12_caught : MethodName := ⟨RX12, "caught", "(II)I"⟩
abbrev cX12_see : ByteArray := prog_14_method_68_code
def yX12_see : MethodName := ⟨RX12, "see", "(I)I"⟩
abbrev cX12_isSeen : ByteArray := prog_14_method_69_code
def yX12_isSeen : MethodName := ⟨RX12, "isSeen", "(I)Z"⟩
abbrev cX12_who : ByteArray := prog_14_method_70_code
def yX12_who : MethodName := ⟨RX12, "who", "()I"⟩
abbrev cX12_odds : ByteArray := prog_14_method_71_code
def yX12_odds : MethodName := ⟨RX12, "odds", "(II)J"⟩
abbrev cX12_mean : ByteArray := prog_14_method_72_code
def yX12_mean : MethodName := ⟨RX12, "mean", "(I)J"⟩
abbrev cX12_book : ByteArray := prog_14_method_73_code
def yX12_book : MethodName := ⟨RX12, "book", "(II)I"⟩
abbrev cX12_looked : ByteArray := prog_14_method_74_code
def yX12_looked : MethodName := ⟨RX12, "looked", "()I"⟩
abbrev cX12_judge : ByteArray := prog_14_method_75_code
def yX12_judge : MethodName := ⟨RX12, "judge", "(II)I"⟩
abbrev cX12_image : ByteArray := prog_14_method_76_code
def yX12_image : MethodName := ⟨RX12, "image", "()I"⟩
abbrev cX12_undo : ByteArray := prog_14_method_77_code
def yX12_undo : MethodName := ⟨RX12, "undo", "()I"⟩
abbrev cX12_body : ByteArray := prog_14_method_78_code
def yX12_body : MethodName := ⟨RX12, "body", "(I)V"⟩
abbrev cX12_shooterAims : ByteArray := prog_14_method_79_code
def yX12_shooterAims : MethodName := ⟨RX12, "shooterAims", "(II)I"⟩
abbrev cX12_aimsAct : ByteArray := prog_14_method_80_code
def yX12_aimsAct : MethodName := ⟨RX12, "aimsAct", "(II)I"⟩
abbrev cX12_shooterShows : ByteArray := prog_14_method_81_code
def yX12_shooterShows : MethodName := ⟨RX12, "shooterShows", "(II)I"⟩
abbrev cX12_turnedShows : ByteArray := prog_14_method_82_code
def yX12_turnedShows : MethodName := ⟨RX12, "turnedShows", "(II)I"⟩
abbrev cX12_showsAct : ByteArray := prog_14_method_83_code
def yX12_showsAct : MethodName := ⟨RX12, "showsAct", "(II)I"⟩
abbrev cX12_shooterTells : ByteArray := prog_14_method_84_code
def yX12_shooterTells : MethodName := ⟨RX12, "shooterTells", "(II)I"⟩
abbrev cX12_tellsAct : ByteArray := prog_14_method_85_code
def yX12_tellsAct : MethodName := ⟨RX12, "tellsAct", "(II)I"⟩
abbrev cX12_act : ByteArray := prog_14_method_86_code
def yX12_act : MethodName := ⟨RX12, "act", "(III)I"⟩
abbrev cX12_trace : ByteArray := prog_14_method_87_code
def yX12_trace : MethodName := ⟨RX12, "trace", "(I)I"⟩
abbrev cX12_taken : ByteArray := prog_14_method_88_code
def yX12_taken : MethodName := ⟨RX12, "taken", "(II)I"⟩
abbrev cX12_count : ByteArray := prog_14_method_89_code
def yX12_count : MethodName := ⟨RX12, "count", "(I)I"⟩
abbrev cX12_isTape : ByteArray := prog_14_method_90_code
def yX12_isTape : MethodName := ⟨RX12, "isTape", "(I)Z"⟩
abbrev cX12_tape : ByteArray := prog_14_method_91_code
def yX12_tape : MethodName := ⟨RX12, "tape", "(III)I"⟩
abbrev cX12_narrow : ByteArray := prog_14_method_92_code
def yX12_narrow : MethodName := ⟨RX12, "narrow", "(IJ)J"⟩
abbrev cX12_item : ByteArray := prog_14_method_93_code
def yX12_item : MethodName := ⟨RX12, "item", "(IIJ)I"⟩
abbrev cX12_read : ByteArray := prog_14_method_94_code
def yX12_read : MethodName := ⟨RX12, "read", "(II)J"⟩
abbrev cX12_shift : ByteArray := prog_14_method_95_code
def yX12_shift : MethodName := ⟨RX12, "shift", "(IIIII)I"⟩
def RJx145de : String := "java/io/Serializable"
def TJx145de : u_T := fun k => match k with
  | _ => ("", "", "", false)
def RJx9f9b0 : String := "java/lang/CharSequence"
def TJx9f9b0 : u_T := fun k => match k with
  | _ => ("", "", "", false)
def RJ11 : String := "java/lang/Character"
def TJ11 : u_T := fun k => match k with
  | _ => ("", "", "", false)
abbrev cJ11_isValidCodePoint_9a6ad : ByteArray := prog_15_method_11_code
def yJ11_isValidCodePoint_9a6ad : MethodName := ⟨RJ11, "isValidCodePoint", "(I)Z"⟩
abbrev cJ11_highSurrogate_5068e : ByteArray := prog_15_method_28_code
def yJ11_highSurrogate_5068e : MethodName := ⟨RJ11, "highSurrogate", "(I)C"⟩
abbrev cJ11_lowSurrogate_5068e : ByteArray := prog_15_method_29_code
def yJ11_lowSurrogate_5068e : MethodName := ⟨RJ11, "lowSurrogate", "(I)C"⟩
def RJxb160c : String := "java/lang/Comparable"
def TJxb160c : u_T := fun k => match k with
  | _ => ("", "", "", false)
def RJ9 : String := "java/lang/Math"
def TJ9 : u_T := fun k => match k with
  | _ => ("", "", "", false)
abbrev cJ9_max_7cf53 : ByteArray := prog_16_method_65_code
def yJ9_max_7cf53 : MethodName := ⟨RJ9, "max", "(II)I"⟩
abbrev cJ9_min_7cf53 : ByteArray := prog_16_method_69_code
def yJ9_min_7cf53 : MethodName := ⟨RJ9, "min", "(II)I"⟩
def RJ0 : String := "java/lang/String"
def TJ0 : u_T := fun k => match k with
  | _ => ("", "", "", false)
abbrev cJ0_length_8abf5 : ByteArray := prog_17_method_54_code
def yJ0_length_8abf5 : MethodName := ⟨RJ0, "length", "()I"⟩
abbrev cJ0_charAt_5068e : ByteArray := prog_17_method_56_code
def yJ0_charAt_5068e : MethodName := ⟨RJ0, "charAt", "(I)C"⟩
abbrev cJ0_indexOf_0f7a4 : ByteArray := prog_17_method_79_code
def yJ0_indexOf_0f7a4 : MethodName := ⟨RJ0, "indexOf", "(I)I"⟩
abbrev cJ0_indexOf_7cf53 : ByteArray := prog_17_method_80_code
def yJ0_indexOf_7cf53 : MethodName := ⟨RJ0, "indexOf", "(II)I"⟩
abbrev cJ0_coder_7d493 : ByteArray := prog_17_method_152_code
def yJ0_coder_7d493 : MethodName := ⟨RJ0, "coder", "()B"⟩
abbrev cJ0_isLatin1_aae02 : ByteArray := prog_17_method_154_code
def yJ0_isLatin1_aae02 : MethodName := ⟨RJ0, "isLatin1", "()Z"⟩
abbrev cJ0_checkIndex_df160 : ByteArray := prog_17_method_155_code
def yJ0_checkIndex_df160 : MethodName := ⟨RJ0, "checkIndex", "(II)V"⟩
abbrev cJ0_checkBoundsBeginEnd_23922 : ByteArray := prog_17_method_158_code
def yJ0_checkBoundsBeginEnd_23922 : MethodName := ⟨RJ0, "checkBoundsBeginEnd", "(III)V"⟩
def RJ1 : String := "java/lang/StringLatin1"
def TJ1 : u_T := fun k => match k with
  | _ => ("", "", "", false)
abbrev cJ1_charAt_3b067 : ByteArray := prog_18_method_2_code
def yJ1_charAt_3b067 : MethodName := ⟨RJ1, "charAt", "([BI)C"⟩
abbrev cJ1_canEncode_9a6ad : ByteArray := prog_18_method_4_code
def yJ1_canEncode_9a6ad : MethodName := ⟨RJ1, "canEncode", "(I)Z"⟩
abbrev cJ1_indexOf_4cfef : ByteArray := prog_18_method_22_code
def yJ1_indexOf_4cfef : MethodName := ⟨RJ1, "indexOf", "([BIII)I"⟩
abbrev cJ1_indexOfChar_4cfef : ByteArray := prog_18_method_23_code
def yJ1_indexOfChar_4cfef : MethodName := ⟨RJ1, "indexOfChar", "([BIII)I"⟩
def RJ2 : String := "java/lang/StringUTF16"
def TJ2 : u_T := fun k => match k with
  | _ => ("", "", "", false)
abbrev cJ2_getChar_3b067 : ByteArray := prog_19_method_5_code
def yJ2_getChar_3b067 : MethodName := ⟨RJ2, "getChar", "([BI)C"⟩
abbrev cJ2_length_9d52b : ByteArray := prog_19_method_6_code
def yJ2_length_9d52b : MethodName := ⟨RJ2, "length", "([B)I"⟩
abbrev cJ2_indexOf_4cfef : ByteArray := prog_19_method_40_code
def yJ2_indexOf_4cfef : MethodName := ⟨RJ2, "indexOf", "([BIII)I"⟩
abbrev cJ2_indexOfChar_4cfef : ByteArray := prog_19_method_47_code
def yJ2_indexOfChar_4cfef : MethodName := ⟨RJ2, "indexOfChar", "([BIII)I"⟩
abbrev cJ2_indexOfCharUnsafe_4cfef : ByteArray := prog_19_method_48_code
def yJ2_indexOfCharUnsafe_4cfef : MethodName := ⟨RJ2, "indexOfCharUnsafe", "([BIII)I"⟩
abbrev cJ2_indexOfSupplementary_4cfef : ByteArray := prog_19_method_49_code
def yJ2_indexOfSupplementary_4cfef : MethodName := ⟨RJ2, "indexOfSupplementary", "([BIII)I"⟩
abbrev cJ2_charAt_3b067 : ByteArray := prog_19_method_83_code
def yJ2_charAt_3b067 : MethodName := ⟨RJ2, "charAt", "([BI)C"⟩
abbrev cJ2_checkIndex_2214a : ByteArray := prog_19_method_91_code
def yJ2_checkIndex_2214a : MethodName := ⟨RJ2, "checkIndex", "(I[B)V"⟩
abbrev cJ2_checkBoundsBeginEnd_d044e : ByteArray := prog_19_method_93_code
def yJ2_checkBoundsBeginEnd_d044e : MethodName := ⟨RJ2, "checkBoundsBeginEnd", "(II[B)V"⟩
def RJ10 : String := "java/lang/System"
def TJ10 : u_T := fun k => match k with
  | _ => ("", "", "", false)
def RJxfd54e : String := "java/lang/constant/Constable"
def TJxfd54e : u_T := fun k => match k with
  | _ => ("", "", "", false)
def RJx3cf43 : String := "java/lang/constant/ConstantDesc"
def TJx3cf43 : u_T := fun k => match k with
  | _ => ("", "", "", false)
def RJ7 : String := "java/util/Arrays"
def TJ7 : u_T := fun k => match k with
  | _ => ("", "", "", false)
abbrev cJ7_fill_d0a16 : ByteArray := prog_21_method_101_code
def yJ7_fill_d0a16 : MethodName := ⟨RJ7, "fill", "([JJ)V"⟩
abbrev cJ7_fill_53178 : ByteArray := prog_21_method_103_code
def yJ7_fill_53178 : MethodName := ⟨RJ7, "fill", "([II)V"⟩
def RJ3 : String := "jdk/internal/util/Preconditions"
def TJ3 : u_T := fun k => match k with
  | _ => ("", "", "", false)
abbrev cJ3_checkIndex_8e157 : ByteArray := prog_22_method_11_code
def yJ3_checkIndex_8e157 : MethodName := ⟨RJ3, "checkIndex", "(IILjava/util/function/BiFunction;)I"⟩
abbrev cJ3_checkFromToIndex_8c36e : ByteArray := prog_22_method_12_code
def yJ3_checkFromToIndex_8c36e : MethodName := ⟨RJ3, "checkFromToIndex", "(IIILjava/util/function/BiFunction;)I"⟩
def RL : String := "FootKeeperLaw"
abbrev cL_law : ByteArray := code
