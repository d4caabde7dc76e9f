section
-- ===== PART A: goes FIRST, ahead of the names: the tables' words, and 'selects' of the private methods out of them =====
/-- a private method of a class that the tables say can be made, by its rows of tables_1 -/
def lw_okq (q : MethodName × Nat) : Prop := (q.1.cls ≠ "java/lang/invoke/MethodHandle" ∧ q.1.cls ≠ "java/lang/invoke/VarHandle") ∧ Cond.instantiable q.1.cls q.2 ∈ tables_1 ∧ Cond.privateMethod q.1 ∈ tables_1 ∧ Cond.instanceMethod q.1 ∈ tables_1
theorem lw_p0 : lw_okq (⟨"FootKeeper", "find", "(I)LFootKeeper$Shooter;"⟩, 17) := ⟨⟨by decide +kernel, by decide +kernel⟩, List.mem_of_getElem? (i := 23) (by decide +kernel), List.mem_of_getElem? (i := 317) (by decide +kernel), List.mem_of_getElem? (i := 318) (by decide +kernel)⟩
theorem lw_p1 : lw_okq (⟨"FootKeeper", "look", "(LFootKeeper$Table;LFootKeeper$Shooter;)V"⟩, 17) := ⟨⟨by decide +kernel, by decide +kernel⟩, List.mem_of_getElem? (i := 23) (by decide +kernel), List.mem_of_getElem? (i := 356) (by decide +kernel), List.mem_of_getElem? (i := 357) (by decide +kernel)⟩
theorem lw_p2 : lw_okq (⟨"FootKeeper$Ground", "setValues", "(LFootKeeper$Table;LFootKeeper$Shooter;)V"⟩, 9) := ⟨⟨by decide +kernel, by decide +kernel⟩, List.mem_of_getElem? (i := 34) (by decide +kernel), List.mem_of_getElem? (i := 374) (by decide +kernel), List.mem_of_getElem? (i := 375) (by decide +kernel)⟩
theorem lw_p3 : lw_okq (⟨"FootKeeper$Ground", "holds", "(II)I"⟩, 9) := ⟨⟨by decide +kernel, by decide +kernel⟩, List.mem_of_getElem? (i := 34) (by decide +kernel), List.mem_of_getElem? (i := 381) (by decide +kernel), List.mem_of_getElem? (i := 382) (by decide +kernel)⟩
theorem lw_p4 : lw_okq (⟨"FootKeeper$Ground", "tested", "(I)I"⟩, 9) := ⟨⟨by decide +kernel, by decide +kernel⟩, List.mem_of_getElem? (i := 34) (by decide +kernel), List.mem_of_getElem? (i := 388) (by decide +kernel), List.mem_of_getElem? (i := 389) (by decide +kernel)⟩
theorem lw_p5 : lw_okq (⟨"FootKeeper", "seenOf", "(LFootKeeper$Shooter;I)I"⟩, 17) := ⟨⟨by decide +kernel, by decide +kernel⟩, List.mem_of_getElem? (i := 23) (by decide +kernel), List.mem_of_getElem? (i := 413) (by decide +kernel), List.mem_of_getElem? (i := 414) (by decide +kernel)⟩
theorem lw_p6 : lw_okq (⟨"FootKeeper$Ground", "clause", "(LFootKeeper$Row;I)Z"⟩, 9) := ⟨⟨by decide +kernel, by decide +kernel⟩, List.mem_of_getElem? (i := 34) (by decide +kernel), List.mem_of_getElem? (i := 503) (by decide +kernel), List.mem_of_getElem? (i := 504) (by decide +kernel)⟩
theorem lw_p7 : lw_okq (⟨"FootKeeper$Ground", "word", "(LFootKeeper$Row;)I"⟩, 9) := ⟨⟨by decide +kernel, by decide +kernel⟩, List.mem_of_getElem? (i := 34) (by decide +kernel), List.mem_of_getElem? (i := 507) (by decide +kernel), List.mem_of_getElem? (i := 508) (by decide +kernel)⟩
theorem lw_p8 : lw_okq (⟨"FootKeeper$Ground", "alike", "(LFootKeeper$Row;Ljava/lang/String;)I"⟩, 9) := ⟨⟨by decide +kernel, by decide +kernel⟩, List.mem_of_getElem? (i := 34) (by decide +kernel), List.mem_of_getElem? (i := 519) (by decide +kernel), List.mem_of_getElem? (i := 520) (by decide +kernel)⟩
theorem lw_p9 : lw_okq (⟨"FootKeeper$Ground", "skip", "(LFootKeeper$Row;C)Z"⟩, 9) := ⟨⟨by decide +kernel, by decide +kernel⟩, List.mem_of_getElem? (i := 34) (by decide +kernel), List.mem_of_getElem? (i := 575) (by decide +kernel), List.mem_of_getElem? (i := 576) (by decide +kernel)⟩
theorem lw_p10 : lw_okq (⟨"FootKeeper$Ground", "number", "(LFootKeeper$Row;)I"⟩, 9) := ⟨⟨by decide +kernel, by decide +kernel⟩, List.mem_of_getElem? (i := 34) (by decide +kernel), List.mem_of_getElem? (i := 579) (by decide +kernel), List.mem_of_getElem? (i := 580) (by decide +kernel)⟩
theorem lw_p11 : lw_okq (⟨"FootKeeper$Ground", "either", "(LFootKeeper$Row;I)Z"⟩, 9) := ⟨⟨by decide +kernel, by decide +kernel⟩, List.mem_of_getElem? (i := 34) (by decide +kernel), List.mem_of_getElem? (i := 586) (by decide +kernel), List.mem_of_getElem? (i := 587) (by decide +kernel)⟩
theorem lw_p12 : lw_okq (⟨"FootKeeper$Ground", "both", "(LFootKeeper$Row;I)Z"⟩, 9) := ⟨⟨by decide +kernel, by decide +kernel⟩, List.mem_of_getElem? (i := 34) (by decide +kernel), List.mem_of_getElem? (i := 590) (by decide +kernel), List.mem_of_getElem? (i := 591) (by decide +kernel)⟩
theorem lw_p13 : lw_okq (⟨"FootKeeper$Ground", "unit", "(LFootKeeper$Row;I)Z"⟩, 9) := ⟨⟨by decide +kernel, by decide +kernel⟩, List.mem_of_getElem? (i := 34) (by decide +kernel), List.mem_of_getElem? (i := 594) (by decide +kernel), List.mem_of_getElem? (i := 595) (by decide +kernel)⟩
theorem lw_p14 : lw_okq (⟨"FootKeeper$Ground", "addStep", "(I)Z"⟩, 9) := ⟨⟨by decide +kernel, by decide +kernel⟩, List.mem_of_getElem? (i := 34) (by decide +kernel), List.mem_of_getElem? (i := 598) (by decide +kernel), List.mem_of_getElem? (i := 599) (by decide +kernel)⟩
theorem lw_p15 : lw_okq (⟨"FootKeeper$Ground", "oneOf", "(LFootKeeper$Row;Ljava/lang/String;)I"⟩, 9) := ⟨⟨by decide +kernel, by decide +kernel⟩, List.mem_of_getElem? (i := 34) (by decide +kernel), List.mem_of_getElem? (i := 603) (by decide +kernel), List.mem_of_getElem? (i := 604) (by decide +kernel)⟩
def lw_privs_1 : List (MethodName × Nat) := [(⟨"FootKeeper", "find", "(I)LFootKeeper$Shooter;"⟩, 17), (⟨"FootKeeper", "look", "(LFootKeeper$Table;LFootKeeper$Shooter;)V"⟩, 17), (⟨"FootKeeper$Ground", "setValues", "(LFootKeeper$Table;LFootKeeper$Shooter;)V"⟩, 9), (⟨"FootKeeper$Ground", "holds", "(II)I"⟩, 9), (⟨"FootKeeper$Ground", "tested", "(I)I"⟩, 9), (⟨"FootKeeper", "seenOf", "(LFootKeeper$Shooter;I)I"⟩, 17), (⟨"FootKeeper$Ground", "clause", "(LFootKeeper$Row;I)Z"⟩, 9), (⟨"FootKeeper$Ground", "word", "(LFootKeeper$Row;)I"⟩, 9), (⟨"FootKeeper$Ground", "alike", "(LFootKeeper$Row;Ljava/lang/String;)I"⟩, 9), (⟨"FootKeeper$Ground", "skip", "(LFootKeeper$Row;C)Z"⟩, 9), (⟨"FootKeeper$Ground", "number", "(LFootKeeper$Row;)I"⟩, 9), (⟨"FootKeeper$Ground", "either", "(LFootKeeper$Row;I)Z"⟩, 9), (⟨"FootKeeper$Ground", "both", "(LFootKeeper$Row;I)Z"⟩, 9), (⟨"FootKeeper$Ground", "unit", "(LFootKeeper$Row;I)Z"⟩, 9), (⟨"FootKeeper$Ground", "addStep", "(I)Z"⟩, 9), (⟨"FootKeeper$Ground", "oneOf", "(LFootKeeper$Row;Ljava/lang/String;)I"⟩, 9)]
theorem lw_r1 : ∀ q ∈ lw_privs_1, lw_okq q := List.forall_mem_cons.mpr ⟨lw_p0, List.forall_mem_cons.mpr ⟨lw_p1, List.forall_mem_cons.mpr ⟨lw_p2, List.forall_mem_cons.mpr ⟨lw_p3, List.forall_mem_cons.mpr ⟨lw_p4, List.forall_mem_cons.mpr ⟨lw_p5, List.forall_mem_cons.mpr ⟨lw_p6, List.forall_mem_cons.mpr ⟨lw_p7, List.forall_mem_cons.mpr ⟨lw_p8, List.forall_mem_cons.mpr ⟨lw_p9, List.forall_mem_cons.mpr ⟨lw_p10, List.forall_mem_cons.mpr ⟨lw_p11, List.forall_mem_cons.mpr ⟨lw_p12, List.forall_mem_cons.mpr ⟨lw_p13, List.forall_mem_cons.mpr ⟨lw_p14, List.forall_mem_cons.mpr ⟨lw_p15, fun _ h => absurd h List.not_mem_nil⟩⟩⟩⟩⟩⟩⟩⟩⟩⟩⟩⟩⟩⟩⟩⟩
theorem lw_p16 : lw_okq (⟨"FootKeeper$View", "sum", "(IIII)I"⟩, 3) := ⟨⟨by decide +kernel, by decide +kernel⟩, List.mem_of_getElem? (i := 150) (by decide +kernel), List.mem_of_getElem? (i := 718) (by decide +kernel), List.mem_of_getElem? (i := 719) (by decide +kernel)⟩
theorem lw_p17 : lw_okq (⟨"FootKeeper", "reckonLine", "()V"⟩, 17) := ⟨⟨by decide +kernel, by decide +kernel⟩, List.mem_of_getElem? (i := 23) (by decide +kernel), List.mem_of_getElem? (i := 731) (by decide +kernel), List.mem_of_getElem? (i := 732) (by decide +kernel)⟩
theorem lw_p18 : lw_okq (⟨"FootKeeper", "beginReckoning", "()V"⟩, 17) := ⟨⟨by decide +kernel, by decide +kernel⟩, List.mem_of_getElem? (i := 23) (by decide +kernel), List.mem_of_getElem? (i := 735) (by decide +kernel), List.mem_of_getElem? (i := 736) (by decide +kernel)⟩
theorem lw_p19 : lw_okq (⟨"FootKeeper", "supposed", "()LFootKeeper$Table;"⟩, 17) := ⟨⟨by decide +kernel, by decide +kernel⟩, List.mem_of_getElem? (i := 23) (by decide +kernel), List.mem_of_getElem? (i := 742) (by decide +kernel), List.mem_of_getElem? (i := 743) (by decide +kernel)⟩
theorem lw_p20 : lw_okq (⟨"FootKeeper", "spread", "(IIJ)V"⟩, 17) := ⟨⟨by decide +kernel, by decide +kernel⟩, List.mem_of_getElem? (i := 23) (by decide +kernel), List.mem_of_getElem? (i := 753) (by decide +kernel), List.mem_of_getElem? (i := 754) (by decide +kernel)⟩
theorem lw_p21 : lw_okq (⟨"FootKeeper", "chooseOrder", "(I)V"⟩, 17) := ⟨⟨by decide +kernel, by decide +kernel⟩, List.mem_of_getElem? (i := 23) (by decide +kernel), List.mem_of_getElem? (i := 769) (by decide +kernel), List.mem_of_getElem? (i := 770) (by decide +kernel)⟩
theorem lw_p22 : lw_okq (⟨"FootKeeper", "arrange", "(II)Z"⟩, 17) := ⟨⟨by decide +kernel, by decide +kernel⟩, List.mem_of_getElem? (i := 23) (by decide +kernel), List.mem_of_getElem? (i := 774) (by decide +kernel), List.mem_of_getElem? (i := 775) (by decide +kernel)⟩
theorem lw_p23 : lw_okq (⟨"FootKeeper", "moreThanHalf", "(I)J"⟩, 17) := ⟨⟨by decide +kernel, by decide +kernel⟩, List.mem_of_getElem? (i := 23) (by decide +kernel), List.mem_of_getElem? (i := 778) (by decide +kernel), List.mem_of_getElem? (i := 779) (by decide +kernel)⟩
theorem lw_p24 : lw_okq (⟨"FootKeeper", "reckonOthers", "(II)V"⟩, 17) := ⟨⟨by decide +kernel, by decide +kernel⟩, List.mem_of_getElem? (i := 23) (by decide +kernel), List.mem_of_getElem? (i := 787) (by decide +kernel), List.mem_of_getElem? (i := 788) (by decide +kernel)⟩
theorem lw_p25 : lw_okq (⟨"FootKeeper", "goesAsSeen", "(LFootKeeper$Shooter;)Z"⟩, 17) := ⟨⟨by decide +kernel, by decide +kernel⟩, List.mem_of_getElem? (i := 23) (by decide +kernel), List.mem_of_getElem? (i := 816) (by decide +kernel), List.mem_of_getElem? (i := 817) (by decide +kernel)⟩
theorem lw_p26 : lw_okq (⟨"FootKeeper", "isTape", "(I)Z"⟩, 17) := ⟨⟨by decide +kernel, by decide +kernel⟩, List.mem_of_getElem? (i := 23) (by decide +kernel), List.mem_of_getElem? (i := 841) (by decide +kernel), List.mem_of_getElem? (i := 842) (by decide +kernel)⟩
theorem lw_p27 : lw_okq (⟨"FootKeeper", "hasPlace", "(II)Z"⟩, 17) := ⟨⟨by decide +kernel, by decide +kernel⟩, List.mem_of_getElem? (i := 23) (by decide +kernel), List.mem_of_getElem? (i := 845) (by decide +kernel), List.mem_of_getElem? (i := 846) (by decide +kernel)⟩
theorem lw_p28 : lw_okq (⟨"FootKeeper", "hasPart", "(III)Z"⟩, 17) := ⟨⟨by decide +kernel, by decide +kernel⟩, List.mem_of_getElem? (i := 23) (by decide +kernel), List.mem_of_getElem? (i := 982) (by decide +kernel), List.mem_of_getElem? (i := 983) (by decide +kernel)⟩
theorem lw_p29 : lw_okq (⟨"FootKeeperModel", "in", "(III)Z"⟩, 67) := ⟨⟨by decide +kernel, by decide +kernel⟩, List.mem_of_getElem? (i := 986) (by decide +kernel), List.mem_of_getElem? (i := 1199) (by decide +kernel), List.mem_of_getElem? (i := 1200) (by decide +kernel)⟩
theorem lw_p30 : lw_okq (⟨"FootKeeperModel", "isShooter", "(I)Z"⟩, 67) := ⟨⟨by decide +kernel, by decide +kernel⟩, List.mem_of_getElem? (i := 986) (by decide +kernel), List.mem_of_getElem? (i := 1207) (by decide +kernel), List.mem_of_getElem? (i := 1208) (by decide +kernel)⟩
theorem lw_p31 : lw_okq (⟨"FootKeeperModel", "isSide", "(I)Z"⟩, 67) := ⟨⟨by decide +kernel, by decide +kernel⟩, List.mem_of_getElem? (i := 986) (by decide +kernel), List.mem_of_getElem? (i := 1215) (by decide +kernel), List.mem_of_getElem? (i := 1216) (by decide +kernel)⟩
def lw_privs_2 : List (MethodName × Nat) := [(⟨"FootKeeper$View", "sum", "(IIII)I"⟩, 3), (⟨"FootKeeper", "reckonLine", "()V"⟩, 17), (⟨"FootKeeper", "beginReckoning", "()V"⟩, 17), (⟨"FootKeeper", "supposed", "()LFootKeeper$Table;"⟩, 17), (⟨"FootKeeper", "spread", "(IIJ)V"⟩, 17), (⟨"FootKeeper", "chooseOrder", "(I)V"⟩, 17), (⟨"FootKeeper", "arrange", "(II)Z"⟩, 17), (⟨"FootKeeper", "moreThanHalf", "(I)J"⟩, 17), (⟨"FootKeeper", "reckonOthers", "(II)V"⟩, 17), (⟨"FootKeeper", "goesAsSeen", "(LFootKeeper$Shooter;)Z"⟩, 17), (⟨"FootKeeper", "isTape", "(I)Z"⟩, 17), (⟨"FootKeeper", "hasPlace", "(II)Z"⟩, 17), (⟨"FootKeeper", "hasPart", "(III)Z"⟩, 17), (⟨"FootKeeperModel", "in", "(III)Z"⟩, 67), (⟨"FootKeeperModel", "isShooter", "(I)Z"⟩, 67), (⟨"FootKeeperModel", "isSide", "(I)Z"⟩, 67)]
theorem lw_r2 : ∀ q ∈ lw_privs_2, lw_okq q := List.forall_mem_cons.mpr ⟨lw_p16, List.forall_mem_cons.mpr ⟨lw_p17, List.forall_mem_cons.mpr ⟨lw_p18, List.forall_mem_cons.mpr ⟨lw_p19, List.forall_mem_cons.mpr ⟨lw_p20, List.forall_mem_cons.mpr ⟨lw_p21, List.forall_mem_cons.mpr ⟨lw_p22, List.forall_mem_cons.mpr ⟨lw_p23, List.forall_mem_cons.mpr ⟨lw_p24, List.forall_mem_cons.mpr ⟨lw_p25, List.forall_mem_cons.mpr ⟨lw_p26, List.forall_mem_cons.mpr ⟨lw_p27, List.forall_mem_cons.mpr ⟨lw_p28, List.forall_mem_cons.mpr ⟨lw_p29, List.forall_mem_cons.mpr ⟨lw_p30, List.forall_mem_cons.mpr ⟨lw_p31, fun _ h => absurd h List.not_mem_nil⟩⟩⟩⟩⟩⟩⟩⟩⟩⟩⟩⟩⟩⟩⟩⟩
theorem lw_p32 : lw_okq (⟨"FootKeeperModel", "goesText", "(I)Z"⟩, 67) := ⟨⟨by decide +kernel, by decide +kernel⟩, List.mem_of_getElem? (i := 986) (by decide +kernel), List.mem_of_getElem? (i := 1227) (by decide +kernel), List.mem_of_getElem? (i := 1228) (by decide +kernel)⟩
theorem lw_p33 : lw_okq (⟨"FootKeeperModel", "takesClause", "(I)Z"⟩, 67) := ⟨⟨by decide +kernel, by decide +kernel⟩, List.mem_of_getElem? (i := 986) (by decide +kernel), List.mem_of_getElem? (i := 1231) (by decide +kernel), List.mem_of_getElem? (i := 1232) (by decide +kernel)⟩
theorem lw_p34 : lw_okq (⟨"FootKeeperModel", "takesHead", "(I)Z"⟩, 67) := ⟨⟨by decide +kernel, by decide +kernel⟩, List.mem_of_getElem? (i := 986) (by decide +kernel), List.mem_of_getElem? (i := 1235) (by decide +kernel), List.mem_of_getElem? (i := 1236) (by decide +kernel)⟩
theorem lw_p35 : lw_okq (⟨"FootKeeperModel", "next", "()I"⟩, 67) := ⟨⟨by decide +kernel, by decide +kernel⟩, List.mem_of_getElem? (i := 986) (by decide +kernel), List.mem_of_getElem? (i := 1239) (by decide +kernel), List.mem_of_getElem? (i := 1240) (by decide +kernel)⟩
theorem lw_p36 : lw_okq (⟨"FootKeeperModel", "takesWord", "(II)Z"⟩, 67) := ⟨⟨by decide +kernel, by decide +kernel⟩, List.mem_of_getElem? (i := 986) (by decide +kernel), List.mem_of_getElem? (i := 1243) (by decide +kernel), List.mem_of_getElem? (i := 1244) (by decide +kernel)⟩
theorem lw_p37 : lw_okq (⟨"FootKeeperModel", "takes", "(I)Z"⟩, 67) := ⟨⟨by decide +kernel, by decide +kernel⟩, List.mem_of_getElem? (i := 986) (by decide +kernel), List.mem_of_getElem? (i := 1247) (by decide +kernel), List.mem_of_getElem? (i := 1248) (by decide +kernel)⟩
theorem lw_p38 : lw_okq (⟨"FootKeeperModel", "second", "()I"⟩, 67) := ⟨⟨by decide +kernel, by decide +kernel⟩, List.mem_of_getElem? (i := 986) (by decide +kernel), List.mem_of_getElem? (i := 1251) (by decide +kernel), List.mem_of_getElem? (i := 1252) (by decide +kernel)⟩
theorem lw_p39 : lw_okq (⟨"FootKeeperModel", "takesE", "(I)Z"⟩, 67) := ⟨⟨by decide +kernel, by decide +kernel⟩, List.mem_of_getElem? (i := 986) (by decide +kernel), List.mem_of_getElem? (i := 1255) (by decide +kernel), List.mem_of_getElem? (i := 1256) (by decide +kernel)⟩
theorem lw_p40 : lw_okq (⟨"FootKeeperModel", "takesTest", "()Z"⟩, 67) := ⟨⟨by decide +kernel, by decide +kernel⟩, List.mem_of_getElem? (i := 986) (by decide +kernel), List.mem_of_getElem? (i := 1259) (by decide +kernel), List.mem_of_getElem? (i := 1260) (by decide +kernel)⟩
theorem lw_p41 : lw_okq (⟨"FootKeeperModel", "place", "(I)I"⟩, 67) := ⟨⟨by decide +kernel, by decide +kernel⟩, List.mem_of_getElem? (i := 986) (by decide +kernel), List.mem_of_getElem? (i := 1263) (by decide +kernel), List.mem_of_getElem? (i := 1264) (by decide +kernel)⟩
theorem lw_p42 : lw_okq (⟨"FootKeeperModel", "takesNumber", "()Z"⟩, 67) := ⟨⟨by decide +kernel, by decide +kernel⟩, List.mem_of_getElem? (i := 986) (by decide +kernel), List.mem_of_getElem? (i := 1267) (by decide +kernel), List.mem_of_getElem? (i := 1268) (by decide +kernel)⟩
theorem lw_p43 : lw_okq (⟨"FootKeeperModel", "isDigit", "()Z"⟩, 67) := ⟨⟨by decide +kernel, by decide +kernel⟩, List.mem_of_getElem? (i := 986) (by decide +kernel), List.mem_of_getElem? (i := 1271) (by decide +kernel), List.mem_of_getElem? (i := 1272) (by decide +kernel)⟩
theorem lw_p44 : lw_okq (⟨"FootKeeperModel", "emits", "(I)V"⟩, 67) := ⟨⟨by decide +kernel, by decide +kernel⟩, List.mem_of_getElem? (i := 986) (by decide +kernel), List.mem_of_getElem? (i := 1275) (by decide +kernel), List.mem_of_getElem? (i := 1276) (by decide +kernel)⟩
theorem lw_p45 : lw_okq (⟨"FootKeeperModel", "whole", "()V"⟩, 67) := ⟨⟨by decide +kernel, by decide +kernel⟩, List.mem_of_getElem? (i := 986) (by decide +kernel), List.mem_of_getElem? (i := 1279) (by decide +kernel), List.mem_of_getElem? (i := 1280) (by decide +kernel)⟩
theorem lw_p46 : lw_okq (⟨"FootKeeperModel", "settle", "(I)V"⟩, 67) := ⟨⟨by decide +kernel, by decide +kernel⟩, List.mem_of_getElem? (i := 986) (by decide +kernel), List.mem_of_getElem? (i := 1283) (by decide +kernel), List.mem_of_getElem? (i := 1284) (by decide +kernel)⟩
theorem lw_p47 : lw_okq (⟨"FootKeeperModel", "sure", "(II)I"⟩, 67) := ⟨⟨by decide +kernel, by decide +kernel⟩, List.mem_of_getElem? (i := 986) (by decide +kernel), List.mem_of_getElem? (i := 1291) (by decide +kernel), List.mem_of_getElem? (i := 1292) (by decide +kernel)⟩
def lw_privs_3 : List (MethodName × Nat) := [(⟨"FootKeeperModel", "goesText", "(I)Z"⟩, 67), (⟨"FootKeeperModel", "takesClause", "(I)Z"⟩, 67), (⟨"FootKeeperModel", "takesHead", "(I)Z"⟩, 67), (⟨"FootKeeperModel", "next", "()I"⟩, 67), (⟨"FootKeeperModel", "takesWord", "(II)Z"⟩, 67), (⟨"FootKeeperModel", "takes", "(I)Z"⟩, 67), (⟨"FootKeeperModel", "second", "()I"⟩, 67), (⟨"FootKeeperModel", "takesE", "(I)Z"⟩, 67), (⟨"FootKeeperModel", "takesTest", "()Z"⟩, 67), (⟨"FootKeeperModel", "place", "(I)I"⟩, 67), (⟨"FootKeeperModel", "takesNumber", "()Z"⟩, 67), (⟨"FootKeeperModel", "isDigit", "()Z"⟩, 67), (⟨"FootKeeperModel", "emits", "(I)V"⟩, 67), (⟨"FootKeeperModel", "whole", "()V"⟩, 67), (⟨"FootKeeperModel", "settle", "(I)V"⟩, 67), (⟨"FootKeeperModel", "sure", "(II)I"⟩, 67)]
theorem lw_r3 : ∀ q ∈ lw_privs_3, lw_okq q := List.forall_mem_cons.mpr ⟨lw_p32, List.forall_mem_cons.mpr ⟨lw_p33, List.forall_mem_cons.mpr ⟨lw_p34, List.forall_mem_cons.mpr ⟨lw_p35, List.forall_mem_cons.mpr ⟨lw_p36, List.forall_mem_cons.mpr ⟨lw_p37, List.forall_mem_cons.mpr ⟨lw_p38, List.forall_mem_cons.mpr ⟨lw_p39, List.forall_mem_cons.mpr ⟨lw_p40, List.forall_mem_cons.mpr ⟨lw_p41, List.forall_mem_cons.mpr ⟨lw_p42, List.forall_mem_cons.mpr ⟨lw_p43, List.forall_mem_cons.mpr ⟨lw_p44, List.forall_mem_cons.mpr ⟨lw_p45, List.forall_mem_cons.mpr ⟨lw_p46, List.forall_mem_cons.mpr ⟨lw_p47, fun _ h => absurd h List.not_mem_nil⟩⟩⟩⟩⟩⟩⟩⟩⟩⟩⟩⟩⟩⟩⟩⟩
theorem lw_p48 : lw_okq (⟨"FootKeeperModel", "percent", "(IIII)I"⟩, 67) := ⟨⟨by decide +kernel, by decide +kernel⟩, List.mem_of_getElem? (i := 986) (by decide +kernel), List.mem_of_getElem? (i := 1295) (by decide +kernel), List.mem_of_getElem? (i := 1296) (by decide +kernel)⟩
theorem lw_p49 : lw_okq (⟨"FootKeeperModel", "begin", "()I"⟩, 67) := ⟨⟨by decide +kernel, by decide +kernel⟩, List.mem_of_getElem? (i := 986) (by decide +kernel), List.mem_of_getElem? (i := 1299) (by decide +kernel), List.mem_of_getElem? (i := 1300) (by decide +kernel)⟩
theorem lw_p50 : lw_okq (⟨"FootKeeperModel", "behind", "()I"⟩, 67) := ⟨⟨by decide +kernel, by decide +kernel⟩, List.mem_of_getElem? (i := 986) (by decide +kernel), List.mem_of_getElem? (i := 1303) (by decide +kernel), List.mem_of_getElem? (i := 1304) (by decide +kernel)⟩
theorem lw_p51 : lw_okq (⟨"FootKeeperModel", "holds", "(III)Z"⟩, 67) := ⟨⟨by decide +kernel, by decide +kernel⟩, List.mem_of_getElem? (i := 986) (by decide +kernel), List.mem_of_getElem? (i := 1307) (by decide +kernel), List.mem_of_getElem? (i := 1308) (by decide +kernel)⟩
theorem lw_p52 : lw_okq (⟨"FootKeeperModel", "factOf", "(III)I"⟩, 67) := ⟨⟨by decide +kernel, by decide +kernel⟩, List.mem_of_getElem? (i := 986) (by decide +kernel), List.mem_of_getElem? (i := 1311) (by decide +kernel), List.mem_of_getElem? (i := 1312) (by decide +kernel)⟩
theorem lw_p53 : lw_okq (⟨"FootKeeperModel", "saves", "(II)I"⟩, 67) := ⟨⟨by decide +kernel, by decide +kernel⟩, List.mem_of_getElem? (i := 986) (by decide +kernel), List.mem_of_getElem? (i := 1315) (by decide +kernel), List.mem_of_getElem? (i := 1316) (by decide +kernel)⟩
theorem lw_p54 : lw_okq (⟨"FootKeeperModel", "aim", "(I)I"⟩, 67) := ⟨⟨by decide +kernel, by decide +kernel⟩, List.mem_of_getElem? (i := 986) (by decide +kernel), List.mem_of_getElem? (i := 1319) (by decide +kernel), List.mem_of_getElem? (i := 1320) (by decide +kernel)⟩
theorem lw_p55 : lw_okq (⟨"FootKeeperModel", "turned", "(I)I"⟩, 67) := ⟨⟨by decide +kernel, by decide +kernel⟩, List.mem_of_getElem? (i := 986) (by decide +kernel), List.mem_of_getElem? (i := 1323) (by decide +kernel), List.mem_of_getElem? (i := 1324) (by decide +kernel)⟩
theorem lw_p56 : lw_okq (⟨"FootKeeperModel", "plainly", "(I)I"⟩, 67) := ⟨⟨by decide +kernel, by decide +kernel⟩, List.mem_of_getElem? (i := 986) (by decide +kernel), List.mem_of_getElem? (i := 1327) (by decide +kernel), List.mem_of_getElem? (i := 1328) (by decide +kernel)⟩
theorem lw_p57 : lw_okq (⟨"FootKeeperModel", "steady", "(I)I"⟩, 67) := ⟨⟨by decide +kernel, by decide +kernel⟩, List.mem_of_getElem? (i := 986) (by decide +kernel), List.mem_of_getElem? (i := 1331) (by decide +kernel), List.mem_of_getElem? (i := 1332) (by decide +kernel)⟩
theorem lw_p58 : lw_okq (⟨"FootKeeperModel", "waits", "(I)I"⟩, 67) := ⟨⟨by decide +kernel, by decide +kernel⟩, List.mem_of_getElem? (i := 986) (by decide +kernel), List.mem_of_getElem? (i := 1335) (by decide +kernel), List.mem_of_getElem? (i := 1336) (by decide +kernel)⟩
theorem lw_p59 : lw_okq (⟨"FootKeeperModel", "note", "(I)I"⟩, 67) := ⟨⟨by decide +kernel, by decide +kernel⟩, List.mem_of_getElem? (i := 986) (by decide +kernel), List.mem_of_getElem? (i := 1339) (by decide +kernel), List.mem_of_getElem? (i := 1340) (by decide +kernel)⟩
theorem lw_p60 : lw_okq (⟨"FootKeeperModel", "chanceOf", "(III)I"⟩, 67) := ⟨⟨by decide +kernel, by decide +kernel⟩, List.mem_of_getElem? (i := 986) (by decide +kernel), List.mem_of_getElem? (i := 1351) (by decide +kernel), List.mem_of_getElem? (i := 1352) (by decide +kernel)⟩
theorem lw_p61 : lw_okq (⟨"FootKeeperModel", "chanceNow", "(I)I"⟩, 67) := ⟨⟨by decide +kernel, by decide +kernel⟩, List.mem_of_getElem? (i := 986) (by decide +kernel), List.mem_of_getElem? (i := 1359) (by decide +kernel), List.mem_of_getElem? (i := 1360) (by decide +kernel)⟩
theorem lw_p62 : lw_okq (⟨"FootKeeperModel", "goes", "(IZ)I"⟩, 67) := ⟨⟨by decide +kernel, by decide +kernel⟩, List.mem_of_getElem? (i := 986) (by decide +kernel), List.mem_of_getElem? (i := 1363) (by decide +kernel), List.mem_of_getElem? (i := 1364) (by decide +kernel)⟩
theorem lw_p63 : lw_okq (⟨"FootKeeperModel", "more", "(I)I"⟩, 67) := ⟨⟨by decide +kernel, by decide +kernel⟩, List.mem_of_getElem? (i := 986) (by decide +kernel), List.mem_of_getElem? (i := 1367) (by decide +kernel), List.mem_of_getElem? (i := 1368) (by decide +kernel)⟩
def lw_privs_4 : List (MethodName × Nat) := [(⟨"FootKeeperModel", "percent", "(IIII)I"⟩, 67), (⟨"FootKeeperModel", "begin", "()I"⟩, 67), (⟨"FootKeeperModel", "behind", "()I"⟩, 67), (⟨"FootKeeperModel", "holds", "(III)Z"⟩, 67), (⟨"FootKeeperModel", "factOf", "(III)I"⟩, 67), (⟨"FootKeeperModel", "saves", "(II)I"⟩, 67), (⟨"FootKeeperModel", "aim", "(I)I"⟩, 67), (⟨"FootKeeperModel", "turned", "(I)I"⟩, 67), (⟨"FootKeeperModel", "plainly", "(I)I"⟩, 67), (⟨"FootKeeperModel", "steady", "(I)I"⟩, 67), (⟨"FootKeeperModel", "waits", "(I)I"⟩, 67), (⟨"FootKeeperModel", "note", "(I)I"⟩, 67), (⟨"FootKeeperModel", "chanceOf", "(III)I"⟩, 67), (⟨"FootKeeperModel", "chanceNow", "(I)I"⟩, 67), (⟨"FootKeeperModel", "goes", "(IZ)I"⟩, 67), (⟨"FootKeeperModel", "more", "(I)I"⟩, 67)]
theorem lw_r4 : ∀ q ∈ lw_privs_4, lw_okq q := List.forall_mem_cons.mpr ⟨lw_p48, List.forall_mem_cons.mpr ⟨lw_p49, List.forall_mem_cons.mpr ⟨lw_p50, List.forall_mem_cons.mpr ⟨lw_p51, List.forall_mem_cons.mpr ⟨lw_p52, List.forall_mem_cons.mpr ⟨lw_p53, List.forall_mem_cons.mpr ⟨lw_p54, List.forall_mem_cons.mpr ⟨lw_p55, List.forall_mem_cons.mpr ⟨lw_p56, List.forall_mem_cons.mpr ⟨lw_p57, List.forall_mem_cons.mpr ⟨lw_p58, List.forall_mem_cons.mpr ⟨lw_p59, List.forall_mem_cons.mpr ⟨lw_p60, List.forall_mem_cons.mpr ⟨lw_p61, List.forall_mem_cons.mpr ⟨lw_p62, List.forall_mem_cons.mpr ⟨lw_p63, fun _ h => absurd h List.not_mem_nil⟩⟩⟩⟩⟩⟩⟩⟩⟩⟩⟩⟩⟩⟩⟩⟩
theorem lw_p64 : lw_okq (⟨"FootKeeperModel", "mixed", "(III)I"⟩, 67) := ⟨⟨by decide +kernel, by decide +kernel⟩, List.mem_of_getElem? (i := 986) (by decide +kernel), List.mem_of_getElem? (i := 1383) (by decide +kernel), List.mem_of_getElem? (i := 1384) (by decide +kernel)⟩
theorem lw_p65 : lw_okq (⟨"FootKeeperModel", "layInOrder", "()V"⟩, 67) := ⟨⟨by decide +kernel, by decide +kernel⟩, List.mem_of_getElem? (i := 986) (by decide +kernel), List.mem_of_getElem? (i := 1396) (by decide +kernel), List.mem_of_getElem? (i := 1397) (by decide +kernel)⟩
theorem lw_p66 : lw_okq (⟨"FootKeeperModel", "layParts", "()V"⟩, 67) := ⟨⟨by decide +kernel, by decide +kernel⟩, List.mem_of_getElem? (i := 986) (by decide +kernel), List.mem_of_getElem? (i := 1400) (by decide +kernel), List.mem_of_getElem? (i := 1401) (by decide +kernel)⟩
theorem lw_p67 : lw_okq (⟨"FootKeeperModel", "save", "()V"⟩, 67) := ⟨⟨by decide +kernel, by decide +kernel⟩, List.mem_of_getElem? (i := 986) (by decide +kernel), List.mem_of_getElem? (i := 1404) (by decide +kernel), List.mem_of_getElem? (i := 1405) (by decide +kernel)⟩
theorem lw_p68 : lw_okq (⟨"FootKeeperModel", "has", "(II)Z"⟩, 67) := ⟨⟨by decide +kernel, by decide +kernel⟩, List.mem_of_getElem? (i := 986) (by decide +kernel), List.mem_of_getElem? (i := 1408) (by decide +kernel), List.mem_of_getElem? (i := 1409) (by decide +kernel)⟩
theorem lw_p69 : lw_okq (⟨"FootKeeperModel", "putBack", "()V"⟩, 67) := ⟨⟨by decide +kernel, by decide +kernel⟩, List.mem_of_getElem? (i := 986) (by decide +kernel), List.mem_of_getElem? (i := 1412) (by decide +kernel), List.mem_of_getElem? (i := 1413) (by decide +kernel)⟩
theorem lw_p70 : lw_okq (⟨"FootKeeperModel", "hundreds", "(I)J"⟩, 67) := ⟨⟨by decide +kernel, by decide +kernel⟩, List.mem_of_getElem? (i := 986) (by decide +kernel), List.mem_of_getElem? (i := 1416) (by decide +kernel), List.mem_of_getElem? (i := 1417) (by decide +kernel)⟩
theorem lw_p71 : lw_okq (⟨"FootKeeperModel", "lowest", "(JJI)J"⟩, 67) := ⟨⟨by decide +kernel, by decide +kernel⟩, List.mem_of_getElem? (i := 986) (by decide +kernel), List.mem_of_getElem? (i := 1421) (by decide +kernel), List.mem_of_getElem? (i := 1422) (by decide +kernel)⟩
theorem lw_p72 : lw_okq (⟨"FootKeeperModel", "divisor", "(JJ)J"⟩, 67) := ⟨⟨by decide +kernel, by decide +kernel⟩, List.mem_of_getElem? (i := 986) (by decide +kernel), List.mem_of_getElem? (i := 1425) (by decide +kernel), List.mem_of_getElem? (i := 1426) (by decide +kernel)⟩
theorem lw_p73 : lw_okq (⟨"FootKeeperModel", "layOrder", "(I)Z"⟩, 67) := ⟨⟨by decide +kernel, by decide +kernel⟩, List.mem_of_getElem? (i := 986) (by decide +kernel), List.mem_of_getElem? (i := 1434) (by decide +kernel), List.mem_of_getElem? (i := 1435) (by decide +kernel)⟩
theorem lw_p74 : lw_okq (⟨"FootKeeperModel", "layOthers", "(I)V"⟩, 67) := ⟨⟨by decide +kernel, by decide +kernel⟩, List.mem_of_getElem? (i := 986) (by decide +kernel), List.mem_of_getElem? (i := 1442) (by decide +kernel), List.mem_of_getElem? (i := 1443) (by decide +kernel)⟩
theorem lw_p75 : lw_okq (⟨"FootKeeperModel", "isSeen", "(I)Z"⟩, 67) := ⟨⟨by decide +kernel, by decide +kernel⟩, List.mem_of_getElem? (i := 986) (by decide +kernel), List.mem_of_getElem? (i := 1470) (by decide +kernel), List.mem_of_getElem? (i := 1471) (by decide +kernel)⟩
theorem lw_p76 : lw_okq (⟨"FootKeeperModel", "isTape", "(I)Z"⟩, 67) := ⟨⟨by decide +kernel, by decide +kernel⟩, List.mem_of_getElem? (i := 986) (by decide +kernel), List.mem_of_getElem? (i := 1495) (by decide +kernel), List.mem_of_getElem? (i := 1496) (by decide +kernel)⟩
theorem lw_p77 : lw_okq (⟨"FootKeeperModel", "aimsAct", "(II)I"⟩, 67) := ⟨⟨by decide +kernel, by decide +kernel⟩, List.mem_of_getElem? (i := 986) (by decide +kernel), List.mem_of_getElem? (i := 1511) (by decide +kernel), List.mem_of_getElem? (i := 1512) (by decide +kernel)⟩
theorem lw_p78 : lw_okq (⟨"FootKeeperModel", "body", "(I)V"⟩, 67) := ⟨⟨by decide +kernel, by decide +kernel⟩, List.mem_of_getElem? (i := 986) (by decide +kernel), List.mem_of_getElem? (i := 1515) (by decide +kernel), List.mem_of_getElem? (i := 1516) (by decide +kernel)⟩
theorem lw_p79 : lw_okq (⟨"FootKeeperModel", "shooterAims", "(II)I"⟩, 67) := ⟨⟨by decide +kernel, by decide +kernel⟩, List.mem_of_getElem? (i := 986) (by decide +kernel), List.mem_of_getElem? (i := 1519) (by decide +kernel), List.mem_of_getElem? (i := 1520) (by decide +kernel)⟩
def lw_privs_5 : List (MethodName × Nat) := [(⟨"FootKeeperModel", "mixed", "(III)I"⟩, 67), (⟨"FootKeeperModel", "layInOrder", "()V"⟩, 67), (⟨"FootKeeperModel", "layParts", "()V"⟩, 67), (⟨"FootKeeperModel", "save", "()V"⟩, 67), (⟨"FootKeeperModel", "has", "(II)Z"⟩, 67), (⟨"FootKeeperModel", "putBack", "()V"⟩, 67), (⟨"FootKeeperModel", "hundreds", "(I)J"⟩, 67), (⟨"FootKeeperModel", "lowest", "(JJI)J"⟩, 67), (⟨"FootKeeperModel", "divisor", "(JJ)J"⟩, 67), (⟨"FootKeeperModel", "layOrder", "(I)Z"⟩, 67), (⟨"FootKeeperModel", "layOthers", "(I)V"⟩, 67), (⟨"FootKeeperModel", "isSeen", "(I)Z"⟩, 67), (⟨"FootKeeperModel", "isTape", "(I)Z"⟩, 67), (⟨"FootKeeperModel", "aimsAct", "(II)I"⟩, 67), (⟨"FootKeeperModel", "body", "(I)V"⟩, 67), (⟨"FootKeeperModel", "shooterAims", "(II)I"⟩, 67)]
theorem lw_r5 : ∀ q ∈ lw_privs_5, lw_okq q := List.forall_mem_cons.mpr ⟨lw_p64, List.forall_mem_cons.mpr ⟨lw_p65, List.forall_mem_cons.mpr ⟨lw_p66, List.forall_mem_cons.mpr ⟨lw_p67, List.forall_mem_cons.mpr ⟨lw_p68, List.forall_mem_cons.mpr ⟨lw_p69, List.forall_mem_cons.mpr ⟨lw_p70, List.forall_mem_cons.mpr ⟨lw_p71, List.forall_mem_cons.mpr ⟨lw_p72, List.forall_mem_cons.mpr ⟨lw_p73, List.forall_mem_cons.mpr ⟨lw_p74, List.forall_mem_cons.mpr ⟨lw_p75, List.forall_mem_cons.mpr ⟨lw_p76, List.forall_mem_cons.mpr ⟨lw_p77, List.forall_mem_cons.mpr ⟨lw_p78, List.forall_mem_cons.mpr ⟨lw_p79, fun _ h => absurd h List.not_mem_nil⟩⟩⟩⟩⟩⟩⟩⟩⟩⟩⟩⟩⟩⟩⟩⟩
theorem lw_p80 : lw_okq (⟨"FootKeeperModel", "showsAct", "(II)I"⟩, 67) := ⟨⟨by decide +kernel, by decide +kernel⟩, List.mem_of_getElem? (i := 986) (by decide +kernel), List.mem_of_getElem? (i := 1523) (by decide +kernel), List.mem_of_getElem? (i := 1524) (by decide +kernel)⟩
theorem lw_p81 : lw_okq (⟨"FootKeeperModel", "turnedShows", "(II)I"⟩, 67) := ⟨⟨by decide +kernel, by decide +kernel⟩, List.mem_of_getElem? (i := 986) (by decide +kernel), List.mem_of_getElem? (i := 1527) (by decide +kernel), List.mem_of_getElem? (i := 1528) (by decide +kernel)⟩
theorem lw_p82 : lw_okq (⟨"FootKeeperModel", "shooterShows", "(II)I"⟩, 67) := ⟨⟨by decide +kernel, by decide +kernel⟩, List.mem_of_getElem? (i := 986) (by decide +kernel), List.mem_of_getElem? (i := 1531) (by decide +kernel), List.mem_of_getElem? (i := 1532) (by decide +kernel)⟩
theorem lw_p83 : lw_okq (⟨"FootKeeperModel", "tellsAct", "(II)I"⟩, 67) := ⟨⟨by decide +kernel, by decide +kernel⟩, List.mem_of_getElem? (i := 986) (by decide +kernel), List.mem_of_getElem? (i := 1535) (by decide +kernel), List.mem_of_getElem? (i := 1536) (by decide +kernel)⟩
theorem lw_p84 : lw_okq (⟨"FootKeeperModel", "shooterTells", "(II)I"⟩, 67) := ⟨⟨by decide +kernel, by decide +kernel⟩, List.mem_of_getElem? (i := 986) (by decide +kernel), List.mem_of_getElem? (i := 1539) (by decide +kernel), List.mem_of_getElem? (i := 1540) (by decide +kernel)⟩
theorem lw_p85 : lw_okq (⟨"FootKeeperModel", "narrow", "(IJ)J"⟩, 67) := ⟨⟨by decide +kernel, by decide +kernel⟩, List.mem_of_getElem? (i := 986) (by decide +kernel), List.mem_of_getElem? (i := 1563) (by decide +kernel), List.mem_of_getElem? (i := 1564) (by decide +kernel)⟩
def lw_privs_6 : List (MethodName × Nat) := [(⟨"FootKeeperModel", "showsAct", "(II)I"⟩, 67), (⟨"FootKeeperModel", "turnedShows", "(II)I"⟩, 67), (⟨"FootKeeperModel", "shooterShows", "(II)I"⟩, 67), (⟨"FootKeeperModel", "tellsAct", "(II)I"⟩, 67), (⟨"FootKeeperModel", "shooterTells", "(II)I"⟩, 67), (⟨"FootKeeperModel", "narrow", "(IJ)J"⟩, 67)]
theorem lw_r6 : ∀ q ∈ lw_privs_6, lw_okq q := List.forall_mem_cons.mpr ⟨lw_p80, List.forall_mem_cons.mpr ⟨lw_p81, List.forall_mem_cons.mpr ⟨lw_p82, List.forall_mem_cons.mpr ⟨lw_p83, List.forall_mem_cons.mpr ⟨lw_p84, List.forall_mem_cons.mpr ⟨lw_p85, fun _ h => absurd h List.not_mem_nil⟩⟩⟩⟩⟩⟩
def lw_privs : List (MethodName × Nat) := lw_privs_1 ++ (lw_privs_2 ++ (lw_privs_3 ++ (lw_privs_4 ++ (lw_privs_5 ++ (lw_privs_6)))))
def lw_tbl : List Cond := k2_sels lw_privs ++ tables_1
theorem lw_privs_ok : ∀ q ∈ lw_privs, lw_okq q := by
  show ∀ q ∈ lw_privs_1 ++ (lw_privs_2 ++ (lw_privs_3 ++ (lw_privs_4 ++ (lw_privs_5 ++ (lw_privs_6))))), lw_okq q
  exact List.forall_mem_append.mpr ⟨lw_r1, List.forall_mem_append.mpr ⟨lw_r2, List.forall_mem_append.mpr ⟨lw_r3, List.forall_mem_append.mpr ⟨lw_r4, List.forall_mem_append.mpr ⟨lw_r5, lw_r6⟩⟩⟩⟩⟩
-- ===== end of PART A; then your names; then what follows =====
def RX0 : String := "FootKeeper$Changing"
def TX0 : u_T := fun k => match k with
  | 0 => ("FootKeeper$Shooter", "number", "I", true)
  | _ => ("FootKeeper$Shooter", "v", "I", true)
def tyX0 : Nat → FieldType := fun k => match k with
  | 0 => .int
  | _ => .int
abbrev wsX00 : List Cond := u_ws RX0 TX0 2
theorem nmX0 : ∀ a, a < 2 → ∀ b, b < 2 → a ≠ b → (TX0 a).2.1 ≠ (TX0 b).2.1 := by decide +kernel
theorem tyX0_ok : ∀ k, k < 2 → parseFieldDescriptor (TX0 k).2.2.1 = some (tyX0 k) := by decide +kernel
abbrev cX0_init : ByteArray := prog_2_method_1_code
def yX0_init : MethodName := ⟨RX0, "<init>", "(II)V"⟩
abbrev cX0_kind : ByteArray := prog_2_method_2_code
def yX0_kind : MethodName := ⟨RX0, "kind", "()I"⟩
abbrev cX0_side : ByteArray := prog_2_method_3_code
def yX0_side : MethodName := ⟨RX0, "side", "(LFootKeeper$View;LFootKeeper$Table;)I"⟩
abbrev cX0_aims : ByteArray := prog_2_method_4_code
def yX0_aims : MethodName := ⟨RX0, "aims", "(ILFootKeeper$Row;)I"⟩
abbrev cX0_shows : ByteArray := prog_2_method_5_code
def yX0_shows : MethodName := ⟨RX0, "shows", "(ILFootKeeper$Row;)I"⟩
def RX1 : String := "FootKeeper$Ground"
def TX1 : u_T := fun k => match k with
  | 0 => ("FootKeeper$Ground", "words", "[I", true)
  | 1 => ("FootKeeper$Ground", "amounts", "[I", true)
  | 2 => ("FootKeeper$Ground", "starts", "[I", true)
  | 3 => ("FootKeeper$Ground", "ends", "[I", true)
  | 4 => ("FootKeeper$Ground", "clauses", "I", false)
  | 5 => ("FootKeeper$Ground", "steps", "[I", true)
  | 6 => ("FootKeeper$Ground", "stepCount", "I", false)
  | 7 => ("FootKeeper$Ground", "place", "I", false)
  | _ => ("FootKeeper$Ground", "values", "[I", true)
def tyX1 : Nat → FieldType := fun k => match k with
  | 0 => .array .int
  | 1 => .array .int
  | 2 => .array .int
  | 3 => .array .int
  | 4 => .int
  | 5 => .array .int
  | 6 => .int
  | 7 => .int
  | _ => .array .int
abbrev wsX10 : List Cond := u_ws RX1 TX1 9
theorem nmX1 : ∀ a, a < 9 → ∀ b, b < 9 → a ≠ b → (TX1 a).2.1 ≠ (TX1 b).2.1 := by decide +kernel
theorem tyX1_ok : ∀ k, k < 9 → parseFieldDescriptor (TX1 k).2.2.1 = some (tyX1 k) := by decide +kernel
abbrev cX1_init : ByteArray := prog_3_method_1_code
def yX1_init : MethodName := ⟨RX1, "<init>", "()V"⟩
abbrev cX1_parse : ByteArray := prog_3_method_2_code
def yX1_parse : MethodName := ⟨RX1, "parse", "(LFootKeeper$Row;)I"⟩
abbrev cX1_clause : ByteArray := prog_3_method_3_code
def yX1_clause : MethodName := ⟨RX1, "clause", "(LFootKeeper$Row;I)Z"⟩
abbrev cX1_word : ByteArray := prog_3_method_4_code
def yX1_word : MethodName := ⟨RX1, "word", "(LFootKeeper$Row;)I"⟩
abbrev cX1_spelling : ByteArray := prog_3_method_5_code
def yX1_spelling : MethodName := ⟨RX1, "spelling", "(I)Ljava/lang/String;"⟩
abbrev cX1_alike : ByteArray := prog_3_method_6_code
def yX1_alike : MethodName := ⟨RX1, "alike", "(LFootKeeper$Row;Ljava/lang/String;)I"⟩
abbrev cX1_skip : ByteArray := prog_3_method_7_code
def yX1_skip : MethodName := ⟨RX1, "skip", "(LFootKeeper$Row;C)Z"⟩
abbrev cX1_number : ByteArray := prog_3_method_8_code
def yX1_number : MethodName := ⟨RX1, "number", "(LFootKeeper$Row;)I"⟩
abbrev cX1_isDigit : ByteArray := prog_3_method_9_code
def yX1_isDigit : MethodName := ⟨RX1, "isDigit", "(I)Z"⟩
abbrev cX1_either : ByteArray := prog_3_method_10_code
def yX1_either : MethodName := ⟨RX1, "either", "(LFootKeeper$Row;I)Z"⟩
abbrev cX1_both : ByteArray := prog_3_method_11_code
def yX1_both : MethodName := ⟨RX1, "both", "(LFootKeeper$Row;I)Z"⟩
abbrev cX1_unit : ByteArray := prog_3_method_12_code
def yX1_unit : MethodName := ⟨RX1, "unit", "(LFootKeeper$Row;I)Z"⟩
abbrev cX1_oneOf : ByteArray := prog_3_method_13_code
def yX1_oneOf : MethodName := ⟨RX1, "oneOf", "(LFootKeeper$Row;Ljava/lang/String;)I"⟩
abbrev cX1_addStep : ByteArray := prog_3_method_14_code
def yX1_addStep : MethodName := ⟨RX1, "addStep", "(I)Z"⟩
abbrev cX1_tell : ByteArray := prog_3_method_15_code
def yX1_tell : MethodName := ⟨RX1, "tell", "(LFootKeeper$Table;LFootKeeper$Shooter;LFootKeeper$View;)V"⟩
abbrev cX1_setValues : ByteArray := prog_3_method_16_code
def yX1_setValues : MethodName := ⟨RX1, "setValues", "(LFootKeeper$Table;LFootKeeper$Shooter;)V"⟩
abbrev cX1_sideOf : ByteArray := prog_3_method_17_code
def yX1_sideOf : MethodName := ⟨RX1, "sideOf", "(I)I"⟩
abbrev cX1_holds : ByteArray := prog_3_method_18_code
def yX1_holds : MethodName := ⟨RX1, "holds", "(II)I"⟩
abbrev cX1_tested : ByteArray := prog_3_method_19_code
def yX1_tested : MethodName := ⟨RX1, "tested", "(I)I"⟩
abbrev cX1_compared : ByteArray := prog_3_method_20_code
def yX1_compared : MethodName := ⟨RX1, "compared", "(III)Z"⟩
def RX2 : String := "FootKeeper$Read"
def TX2 : u_T := fun k => match k with
  | 0 => ("FootKeeper$Shooter", "number", "I", true)
  | _ => ("FootKeeper$Shooter", "v", "I", true)
def tyX2 : Nat → FieldType := fun k => match k with
  | 0 => .int
  | _ => .int
abbrev wsX20 : List Cond := u_ws RX2 TX2 2
theorem nmX2 : ∀ a, a < 2 → ∀ b, b < 2 → a ≠ b → (TX2 a).2.1 ≠ (TX2 b).2.1 := by decide +kernel
theorem tyX2_ok : ∀ k, k < 2 → parseFieldDescriptor (TX2 k).2.2.1 = some (tyX2 k) := by decide +kernel
abbrev cX2_init : ByteArray := prog_4_method_1_code
def yX2_init : MethodName := ⟨RX2, "<init>", "(II)V"⟩
abbrev cX2_kind : ByteArray := prog_4_method_2_code
def yX2_kind : MethodName := ⟨RX2, "kind", "()I"⟩
abbrev cX2_side : ByteArray := prog_4_method_3_code
def yX2_side : MethodName := ⟨RX2, "side", "(LFootKeeper$View;LFootKeeper$Table;)I"⟩
abbrev cX2_tells : ByteArray := prog_4_method_4_code
def yX2_tells : MethodName := ⟨RX2, "tells", "(ILFootKeeper$Row;)I"⟩
def RX3 : String := "FootKeeper$Row"
def TX3 : u_T := fun k => match k with
  | 0 => ("FootKeeper$Row", "items", "[I", true)
  | 1 => ("FootKeeper$Row", "size", "I", false)
  | _ => ("FootKeeper$Row", "offered", "I", false)
def tyX3 : Nat → FieldType := fun k => match k with
  | 0 => .array .int
  | 1 => .int
  | _ => .int
abbrev wsX30 : List Cond := u_ws RX3 TX3 3
theorem nmX3 : ∀ a, a < 3 → ∀ b, b < 3 → a ≠ b → (TX3 a).2.1 ≠ (TX3 b).2.1 := by decide +kernel
theorem tyX3_ok : ∀ k, k < 3 → parseFieldDescriptor (TX3 k).2.2.1 = some (tyX3 k) := by decide +kernel
abbrev cX3_init : ByteArray := prog_5_method_1_code
def yX3_init : MethodName := ⟨RX3, "<init>", "(I)V"⟩
abbrev cX3_add : ByteArray := prog_5_method_2_code
def yX3_add : MethodName := ⟨RX3, "add", "(I)Z"⟩
abbrev cX3_clear : ByteArray := prog_5_method_3_code
def yX3_clear : MethodName := ⟨RX3, "clear", "()I"⟩
abbrev cX3_at : ByteArray := prog_5_method_4_code
def yX3_at : MethodName := ⟨RX3, "at", "(I)I"⟩
abbrev cX3_takeAll : ByteArray := prog_5_method_5_code
def yX3_takeAll : MethodName := ⟨RX3, "takeAll", "(LFootKeeper$Row;)V"⟩
def RX4 : String := "FootKeeper$Shooter"
def TX4 : u_T := fun k => match k with
  | 0 => ("FootKeeper$Shooter", "number", "I", true)
  | _ => ("FootKeeper$Shooter", "v", "I", true)
def tyX4 : Nat → FieldType := fun k => match k with
  | 0 => .int
  | _ => .int
abbrev wsX40 : List Cond := u_ws RX4 TX4 2
theorem nmX4 : ∀ a, a < 2 → ∀ b, b < 2 → a ≠ b → (TX4 a).2.1 ≠ (TX4 b).2.1 := by decide +kernel
theorem tyX4_ok : ∀ k, k < 2 → parseFieldDescriptor (TX4 k).2.2.1 = some (tyX4 k) := by decide +kernel
abbrev cX4_init : ByteArray := prog_6_method_1_code
def yX4_init : MethodName := ⟨RX4, "<init>", "(II)V"⟩
abbrev cX4_kind : ByteArray := prog_6_method_2_code
def yX4_kind : MethodName := ⟨RX4, "kind", "()I"⟩
abbrev cX4_side : ByteArray := prog_6_method_3_code
def yX4_side : MethodName := ⟨RX4, "side", "(LFootKeeper$View;LFootKeeper$Table;)I"⟩
abbrev cX4_aims : ByteArray := prog_6_method_4_code
def yX4_aims : MethodName := ⟨RX4, "aims", "(ILFootKeeper$Row;)I"⟩
abbrev cX4_shows : ByteArray := prog_6_method_5_code
def yX4_shows : MethodName := ⟨RX4, "shows", "(ILFootKeeper$Row;)I"⟩
abbrev cX4_tells : ByteArray := prog_6_method_6_code
def yX4_tells : MethodName := ⟨RX4, "tells", "(ILFootKeeper$Row;)I"⟩
def RX5 : String := "FootKeeper$Steady"
def TX5 : u_T := fun k => match k with
  | 0 => ("FootKeeper$Shooter", "number", "I", true)
  | _ => ("FootKeeper$Shooter", "v", "I", true)
def tyX5 : Nat → FieldType := fun k => match k with
  | 0 => .int
  | _ => .int
abbrev wsX50 : List Cond := u_ws RX5 TX5 2
theorem nmX5 : ∀ a, a < 2 → ∀ b, b < 2 → a ≠ b → (TX5 a).2.1 ≠ (TX5 b).2.1 := by decide +kernel
theorem tyX5_ok : ∀ k, k < 2 → parseFieldDescriptor (TX5 k).2.2.1 = some (tyX5 k) := by decide +kernel
abbrev cX5_init : ByteArray := prog_7_method_1_code
def yX5_init : MethodName := ⟨RX5, "<init>", "(II)V"⟩
abbrev cX5_kind : ByteArray := prog_7_method_2_code
def yX5_kind : MethodName := ⟨RX5, "kind", "()I"⟩
abbrev cX5_side : ByteArray := prog_7_method_3_code
def yX5_side : MethodName := ⟨RX5, "side", "(LFootKeeper$View;LFootKeeper$Table;)I"⟩
abbrev cX5_aims : ByteArray := prog_7_method_4_code
def yX5_aims : MethodName := ⟨RX5, "aims", "(ILFootKeeper$Row;)I"⟩
def RX6 : String := "FootKeeper$Table"
def TX6 : u_T := fun k => match k with
  | 0 => ("FootKeeper$Table", "shooters", "I", false)
  | 1 => ("FootKeeper$Table", "holding", "I", false)
  | 2 => ("FootKeeper$Table", "shots", "I", false)
  | 3 => ("FootKeeper$Table", "goals", "I", false)
  | 4 => ("FootKeeper$Table", "lasts", "[I", true)
  | 5 => ("FootKeeper$Table", "ownShots", "[I", true)
  | 6 => ("FootKeeper$Table", "ownGoals", "[I", true)
  | 7 => ("FootKeeper$Table", "toldSides", "[I", true)
  | 8 => ("FootKeeper$Table", "line", "LFootKeeper$Row;", true)
  | 9 => ("FootKeeper$Table", "seen", "LFootKeeper$Row;", true)
  | 10 => ("FootKeeper$Table", "bookShooters", "LFootKeeper$Row;", true)
  | _ => ("FootKeeper$Table", "bookDraws", "LFootKeeper$Row;", true)
def tyX6 : Nat → FieldType := fun k => match k with
  | 0 => .int
  | 1 => .int
  | 2 => .int
  | 3 => .int
  | 4 => .array .int
  | 5 => .array .int
  | 6 => .array .int
  | 7 => .array .int
  | 8 => .object "FootKeeper$Row"
  | 9 => .object "FootKeeper$Row"
  | 10 => .object "FootKeeper$Row"
  | _ => .object "FootKeeper$Row"
abbrev wsX60 : List Cond := u_ws RX6 TX6 12
theorem nmX6 : ∀ a, a < 12 → ∀ b, b < 12 → a ≠ b → (TX6 a).2.1 ≠ (TX6 b).2.1 := by decide +kernel
theorem tyX6_ok : ∀ k, k < 12 → parseFieldDescriptor (TX6 k).2.2.1 = some (tyX6 k) := by decide +kernel
abbrev cX6_init : ByteArray := prog_8_method_1_code
def yX6_init : MethodName := ⟨RX6, "<init>", "()V"⟩
abbrev cX6_takeRound : ByteArray := prog_8_method_2_code
def yX6_takeRound : MethodName := ⟨RX6, "takeRound", "(LFootKeeper$Table;)V"⟩
abbrev cX6_takeAll : ByteArray := prog_8_method_3_code
def yX6_takeAll : MethodName := ⟨RX6, "takeAll", "(LFootKeeper$Table;)V"⟩
abbrev cX6_lastOf : ByteArray := prog_8_method_4_code
def yX6_lastOf : MethodName := ⟨RX6, "lastOf", "(I)I"⟩
abbrev cX6_setLast : ByteArray := prog_8_method_5_code
def yX6_setLast : MethodName := ⟨RX6, "setLast", "(II)V"⟩
abbrev cX6_shotsOf : ByteArray := prog_8_method_6_code
def yX6_shotsOf : MethodName := ⟨RX6, "shotsOf", "(I)I"⟩
abbrev cX6_goalsOf : ByteArray := prog_8_method_7_code
def yX6_goalsOf : MethodName := ⟨RX6, "goalsOf", "(I)I"⟩
abbrev cX6_toldOf : ByteArray := prog_8_method_8_code
def yX6_toldOf : MethodName := ⟨RX6, "toldOf", "(II)I"⟩
abbrev cX6_setTold : ByteArray := prog_8_method_9_code
def yX6_setTold : MethodName := ⟨RX6, "setTold", "(III)V"⟩
abbrev cX6_addShot : ByteArray := prog_8_method_10_code
def yX6_addShot : MethodName := ⟨RX6, "addShot", "(IIZ)V"⟩
def RX7 : String := "FootKeeper$Told"
def TX7 : u_T := fun k => match k with
  | 0 => ("FootKeeper$Shooter", "number", "I", true)
  | _ => ("FootKeeper$Shooter", "v", "I", true)
def tyX7 : Nat → FieldType := fun k => match k with
  | 0 => .int
  | _ => .int
abbrev wsX70 : List Cond := u_ws RX7 TX7 2
theorem nmX7 : ∀ a, a < 2 → ∀ b, b < 2 → a ≠ b → (TX7 a).2.1 ≠ (TX7 b).2.1 := by decide +kernel
theorem tyX7_ok : ∀ k, k < 2 → parseFieldDescriptor (TX7 k).2.2.1 = some (tyX7 k) := by decide +kernel
abbrev cX7_init : ByteArray := prog_9_method_1_code
def yX7_init : MethodName := ⟨RX7, "<init>", "(II)V"⟩
abbrev cX7_kind : ByteArray := prog_9_method_2_code
def yX7_kind : MethodName := ⟨RX7, "kind", "()I"⟩
abbrev cX7_side : ByteArray := prog_9_method_3_code
def yX7_side : MethodName := ⟨RX7, "side", "(LFootKeeper$View;LFootKeeper$Table;)I"⟩
abbrev cX7_shows : ByteArray := prog_9_method_4_code
def yX7_shows : MethodName := ⟨RX7, "shows", "(ILFootKeeper$Row;)I"⟩
abbrev cX7_aims : ByteArray := prog_9_method_5_code
def yX7_aims : MethodName := ⟨RX7, "aims", "(ILFootKeeper$Row;)I"⟩
def RX8 : String := "FootKeeper$Turned"
def TX8 : u_T := fun k => match k with
  | 0 => ("FootKeeper$Shooter", "number", "I", true)
  | _ => ("FootKeeper$Shooter", "v", "I", true)
def tyX8 : Nat → FieldType := fun k => match k with
  | 0 => .int
  | _ => .int
abbrev wsX80 : List Cond := u_ws RX8 TX8 2
theorem nmX8 : ∀ a, a < 2 → ∀ b, b < 2 → a ≠ b → (TX8 a).2.1 ≠ (TX8 b).2.1 := by decide +kernel
theorem tyX8_ok : ∀ k, k < 2 → parseFieldDescriptor (TX8 k).2.2.1 = some (tyX8 k) := by decide +kernel
abbrev cX8_init : ByteArray := prog_10_method_1_code
def yX8_init : MethodName := ⟨RX8, "<init>", "(II)V"⟩
abbrev cX8_kind : ByteArray := prog_10_method_2_code
def yX8_kind : MethodName := ⟨RX8, "kind", "()I"⟩
abbrev cX8_side : ByteArray := prog_10_method_3_code
def yX8_side : MethodName := ⟨RX8, "side", "(LFootKeeper$View;LFootKeeper$Table;)I"⟩
abbrev cX8_shows : ByteArray := prog_10_method_4_code
def yX8_shows : MethodName := ⟨RX8, "shows", "(ILFootKeeper$Row;)I"⟩
def RX9 : String := "FootKeeper$View"
def TX9 : u_T := fun k => match k with
  | 0 => ("FootKeeper$View", "sure", "[I", true)
  | 1 => ("FootKeeper$View", "saves", "[I", true)
  | _ => ("FootKeeper$View", "note", "I", false)
def tyX9 : Nat → FieldType := fun k => match k with
  | 0 => .array .int
  | 1 => .array .int
  | _ => .int
abbrev wsX90 : List Cond := u_ws RX9 TX9 3
theorem nmX9 : ∀ a, a < 3 → ∀ b, b < 3 → a ≠ b → (TX9 a).2.1 ≠ (TX9 b).2.1 := by decide +kernel
theorem tyX9_ok : ∀ k, k < 3 → parseFieldDescriptor (TX9 k).2.2.1 = some (tyX9 k) := by decide +kernel
abbrev cX9_init : ByteArray := prog_11_method_1_code
def yX9_init : MethodName := ⟨RX9, "<init>", "()V"⟩
abbrev cX9_begin : ByteArray := prog_11_method_2_code
def yX9_begin : MethodName := ⟨RX9, "begin", "(I)V"⟩
abbrev cX9_addSure : ByteArray := prog_11_method_3_code
def yX9_addSure : MethodName := ⟨RX9, "addSure", "(II)V"⟩
abbrev cX9_addSaves : ByteArray := prog_11_method_4_code
def yX9_addSaves : MethodName := ⟨RX9, "addSaves", "(II)V"⟩
abbrev cX9_addTo : ByteArray := prog_11_method_5_code
def yX9_addTo : MethodName := ⟨RX9, "addTo", "([III)V"⟩
abbrev cX9_end : ByteArray := prog_11_method_6_code
def yX9_end : MethodName := ⟨RX9, "end", "(ZZ)V"⟩
abbrev cX9_sureOf : ByteArray := prog_11_method_7_code
def yX9_sureOf : MethodName := ⟨RX9, "sureOf", "(I)I"⟩
abbrev cX9_savesOf : ByteArray := prog_11_method_8_code
def yX9_savesOf : MethodName := ⟨RX9, "savesOf", "(I)I"⟩
abbrev cX9_chanceBy : ByteArray := prog_11_method_9_code
def yX9_chanceBy : MethodName := ⟨RX9, "chanceBy", "(II)I"⟩
abbrev cX9_bestSide : ByteArray := prog_11_method_10_code
def yX9_bestSide : MethodName := ⟨RX9, "bestSide", "()I"⟩
abbrev cX9_sideAway : ByteArray := prog_11_method_11_code
def yX9_sideAway : MethodName := ⟨RX9, "sideAway", "()I"⟩
abbrev cX9_leastSum : ByteArray := prog_11_method_12_code
def yX9_leastSum : MethodName := ⟨RX9, "leastSum", "(III)I"⟩
abbrev cX9_sum : ByteArray := prog_11_method_13_code
def yX9_sum : MethodName := ⟨RX9, "sum", "(IIII)I"⟩
def RX10 : String := "FootKeeper$Waiting"
def TX10 : u_T := fun k => match k with
  | 0 => ("FootKeeper$Shooter", "number", "I", true)
  | _ => ("FootKeeper$Shooter", "v", "I", true)
def tyX10 : Nat → FieldType := fun k => match k with
  | 0 => .int
  | _ => .int
abbrev wsX100 : List Cond := u_ws RX10 TX10 2
theorem nmX10 : ∀ a, a < 2 → ∀ b, b < 2 → a ≠ b → (TX10 a).2.1 ≠ (TX10 b).2.1 := by decide +kernel
theorem tyX10_ok : ∀ k, k < 2 → parseFieldDescriptor (TX10 k).2.2.1 = some (tyX10 k) := by decide +kernel
abbrev cX10_init : ByteArray := prog_12_method_1_code
def yX10_init : MethodName := ⟨RX10, "<init>", "(II)V"⟩
abbrev cX10_kind : ByteArray := prog_12_method_2_code
def yX10_kind : MethodName := ⟨RX10, "kind", "()I"⟩
abbrev cX10_side : ByteArray := prog_12_method_3_code
def yX10_side : MethodName := ⟨RX10, "side", "(LFootKeeper$View;LFootKeeper$Table;)I"⟩
abbrev cX10_tells : ByteArray := prog_12_method_4_code
def yX10_tells : MethodName := ⟨RX10, "tells", "(ILFootKeeper$Row;)I"⟩
def RX11 : String := "FootKeeper"
def TX11 : u_T := fun k => match k with
  | 0 => ("FootKeeper", "shooters", "[LFootKeeper$Shooter;", true)
  | 1 => ("FootKeeper", "grounds", "[LFootKeeper$Ground;", true)
  | 2 => ("FootKeeper", "groundCount", "I", false)
  | 3 => ("FootKeeper", "text", "LFootKeeper$Row;", true)
  | 4 => ("FootKeeper", "now", "LFootKeeper$Table;", true)
  | 5 => ("FootKeeper", "kept", "LFootKeeper$Table;", true)
  | 6 => ("FootKeeper", "imageTaken", "Z", false)
  | 7 => ("FootKeeper", "then", "[LFootKeeper$Table;", true)
  | 8 => ("FootKeeper", "view", "LFootKeeper$View;", true)
  | 9 => ("FootKeeper", "ran", "LFootKeeper$Row;", true)
  | 10 => ("FootKeeper", "tapes", "[[J", true)
  | 11 => ("FootKeeper", "sorts", "[I", true)
  | 12 => ("FootKeeper", "sizes", "[I", true)
  | 13 => ("FootKeeper", "chances", "[J", true)
  | 14 => ("FootKeeper", "others", "[J", true)
  | 15 => ("FootKeeper", "places", "[I", true)
  | _ => ("FootKeeper", "bestPlaces", "[I", true)
def tyX11 : Nat → FieldType := fun k => match k with
  | 0 => .array (.object "FootKeeper$Shooter")
  | 1 => .array (.object "FootKeeper$Ground")
  | 2 => .int
  | 3 => .object "FootKeeper$Row"
  | 4 => .object "FootKeeper$Table"
  | 5 => .object "FootKeeper$Table"
  | 6 => .boolean
  | 7 => .array (.object "FootKeeper$Table")
  | 8 => .object "FootKeeper$View"
  | 9 => .object "FootKeeper$Row"
  | 10 => .array (.array .long)
  | 11 => .array .int
  | 12 => .array .int
  | 13 => .array .long
  | 14 => .array .long
  | 15 => .array .int
  | _ => .array .int
abbrev wsX110 : List Cond := u_ws RX11 TX11 17
theorem nmX11 : ∀ a, a < 17 → ∀ b, b < 17 → a ≠ b → (TX11 a).2.1 ≠ (TX11 b).2.1 := by decide +kernel
theorem tyX11_ok : ∀ k, k < 17 → parseFieldDescriptor (TX11 k).2.2.1 = some (tyX11 k) := by decide +kernel
abbrev cX11_init : ByteArray := prog_1_method_1_code
def yX11_init : MethodName := ⟨RX11, "<init>", "()V"⟩
abbrev cX11_shooter : ByteArray := prog_1_method_2_code
def yX11_shooter : MethodName := ⟨RX11, "shooter", "(II)I"⟩
abbrev cX11_of : ByteArray := prog_1_method_3_code
def yX11_of : MethodName := ⟨RX11, "of", "(II)I"⟩
abbrev cX11_last : ByteArray := prog_1_method_4_code
def yX11_last : MethodName := ⟨RX11, "last", "(II)I"⟩
abbrev cX11_row : ByteArray := prog_1_method_5_code
def yX11_row : MethodName := ⟨RX11, "row", "(III)I"⟩
abbrev cX11_feed : ByteArray := prog_1_method_6_code
def yX11_feed : MethodName := ⟨RX11, "feed", "(I)I"⟩
abbrev cX11_ground : ByteArray := prog_1_method_7_code
def yX11_ground : MethodName := ⟨RX11, "ground", "()I"⟩
abbrev cX11_told : ByteArray := prog_1_method_8_code
def yX11_told : MethodName := ⟨RX11, "told", "(I)I"⟩
abbrev cX11_chance : ByteArray := prog_1_method_9_code
def yX11_chance : MethodName := ⟨RX11, "chance", "(III)I"⟩
abbrev cX11_shoot : ByteArray := prog_1_method_10_code
def yX11_shoot : MethodName := ⟨RX11, "shoot", "(II)I"⟩
abbrev cX11_anew : ByteArray := prog_1_method_11_code
def yX11_anew : MethodName := ⟨RX11, "anew", "()I"⟩
abbrev cX11_best : ByteArray := prog_1_method_12_code
def yX11_best : MethodName := ⟨RX11, "best", "(II)I"⟩
abbrev cX11_mix : ByteArray := prog_1_method_13_code
def yX11_mix : MethodName := ⟨RX11, "mix", "(II)I"⟩
abbrev cX11_line : ByteArray := prog_1_method_14_code
def yX11_line : MethodName := ⟨RX11, "line", "(I)I"⟩
abbrev cX11_likely : ByteArray := prog_1_method_15_code
def yX11_likely : MethodName := ⟨RX11, "likely", "(II)J"⟩
abbrev cX11_order : ByteArray := prog_1_method_16_code
def yX11_order : MethodName := ⟨RX11, "order", "(I)I"⟩
abbrev cX11_win : ByteArray := prog_1_method_17_code
def yX11_win : MethodName := ⟨RX11, "win", "(III)J"⟩
abbrev cX11_worth : ByteArray := prog_1_method_18_code
def yX11_worth : MethodName := ⟨RX11, "worth", "(I)I"⟩
abbrev cX11_stop : ByteArray := prog_1_method_19_code
def yX11_stop : MethodName := ⟨RX11, "stop", "(I)I"⟩
abbrev cX11_forget : ByteArray := prog_1_method_20_code
def yX11_forget : MethodName := ⟨RX11, "forget", "(II)I"⟩
abbrev cX11_caught : ByteArray := prog_1_method_21_code
def yX11_caught : MethodName := ⟨RX11, "caught", "(II)I"⟩
abbrev cX11_see : ByteArray := prog_1_method_22_code
def yX11_see : MethodName := ⟨RX11, "see", "(I)I"⟩
abbrev cX11_who : ByteArray := prog_1_method_23_code
def yX11_who : MethodName := ⟨RX11, "who", "()I"⟩
abbrev cX11_odds : ByteArray := prog_1_method_24_code
def yX11_odds : MethodName := ⟨RX11, "odds", "(II)J"⟩
abbrev cX11_mean : ByteArray := prog_1_method_25_code
def yX11_mean : MethodName := ⟨RX11, "mean", "(I)J"⟩
abbrev cX11_book : ByteArray := prog_1_method_26_code
def yX11_book : MethodName := ⟨RX11, "book", "(II)I"⟩
abbrev cX11_looked : ByteArray := prog_1_method_27_code
def yX11_looked : MethodName := ⟨RX11, "looked", "()I"⟩
abbrev cX11_judge : ByteArray := prog_1_method_28_code
def yX11_judge : MethodName := ⟨RX11, "judge", "(II)I"⟩
abbrev cX11_image : ByteArray := prog_1_method_29_code
def yX11_image : MethodName := ⟨RX11, "image", "()I"⟩
abbrev cX11_undo : ByteArray := prog_1_method_30_code
def yX11_undo : MethodName := ⟨RX11, "undo", "()I"⟩
abbrev cX11_act : ByteArray := prog_1_method_31_code
def yX11_act : MethodName := ⟨RX11, "act", "(III)I"⟩
abbrev cX11_trace : ByteArray := prog_1_method_32_code
def yX11_trace : MethodName := ⟨RX11, "trace", "(I)I"⟩
abbrev cX11_taken : ByteArray := prog_1_method_33_code
def yX11_taken : MethodName := ⟨RX11, "taken", "(II)I"⟩
abbrev cX11_count : ByteArray := prog_1_method_34_code
def yX11_count : MethodName := ⟨RX11, "count", "(I)I"⟩
abbrev cX11_tape : ByteArray := prog_1_method_35_code
def yX11_tape : MethodName := ⟨RX11, "tape", "(III)I"⟩
abbrev cX11_item : ByteArray := prog_1_method_36_code
def yX11_item : MethodName := ⟨RX11, "item", "(IIJ)I"⟩
abbrev cX11_read : ByteArray := prog_1_method_37_code
def yX11_read : MethodName := ⟨RX11, "read", "(II)J"⟩
abbrev cX11_shift : ByteArray := prog_1_method_38_code
def yX11_shift : MethodName := ⟨RX11, "shift", "(IIIII)I"⟩
abbrev cX11_isSide : ByteArray := prog_1_method_39_code
def yX11_isSide : MethodName := ⟨RX11, "isSide", "(I)Z"⟩
abbrev cX11_isDraw : ByteArray := prog_1_method_40_code
def yX11_isDraw : MethodName := ⟨RX11, "isDraw", "(I)Z"⟩
abbrev cX11_isHalf : ByteArray := prog_1_method_41_code
def yX11_isHalf : MethodName := ⟨RX11, "isHalf", "(I)Z"⟩
abbrev cX11_find : ByteArray := prog_1_method_42_code
def yX11_find : MethodName := ⟨RX11, "find", "(I)LFootKeeper$Shooter;"⟩
abbrev cX11_newShooter : ByteArray := prog_1_method_43_code
def yX11_newShooter : MethodName := ⟨RX11, "newShooter", "(III)LFootKeeper$Shooter;"⟩
abbrev cX11_isOfKind : ByteArray := prog_1_method_44_code
def yX11_isOfKind : MethodName := ⟨RX11, "isOfKind", "(LFootKeeper$Shooter;I)Z"⟩
abbrev cX11_look : ByteArray := prog_1_method_45_code
def yX11_look : MethodName := ⟨RX11, "look", "(LFootKeeper$Table;LFootKeeper$Shooter;)V"⟩
abbrev cX11_seenOf : ByteArray := prog_1_method_46_code
def yX11_seenOf : MethodName := ⟨RX11, "seenOf", "(LFootKeeper$Shooter;I)I"⟩
abbrev cX11_supposed : ByteArray := prog_1_method_47_code
def yX11_supposed : MethodName := ⟨RX11, "supposed", "()LFootKeeper$Table;"⟩
abbrev cX11_goesAsSeen : ByteArray := prog_1_method_48_code
def yX11_goesAsSeen : MethodName := ⟨RX11, "goesAsSeen", "(LFootKeeper$Shooter;)Z"⟩
abbrev cX11_reckonLine : ByteArray := prog_1_method_49_code
def yX11_reckonLine : MethodName := ⟨RX11, "reckonLine", "()V"⟩
abbrev cX11_beginReckoning : ByteArray := prog_1_method_50_code
def yX11_beginReckoning : MethodName := ⟨RX11, "beginReckoning", "()V"⟩
abbrev cX11_spread : ByteArray := prog_1_method_51_code
def yX11_spread : MethodName := ⟨RX11, "spread", "(IIJ)V"⟩
abbrev cX11_chooseOrder : ByteArray := prog_1_method_52_code
def yX11_chooseOrder : MethodName := ⟨RX11, "chooseOrder", "(I)V"⟩
abbrev cX11_arrange : ByteArray := prog_1_method_53_code
def yX11_arrange : MethodName := ⟨RX11, "arrange", "(II)Z"⟩
abbrev cX11_moreThanHalf : ByteArray := prog_1_method_54_code
def yX11_moreThanHalf : MethodName := ⟨RX11, "moreThanHalf", "(I)J"⟩
abbrev cX11_reckonOthers : ByteArray := prog_1_method_55_code
def yX11_reckonOthers : MethodName := ⟨RX11, "reckonOthers", "(II)V"⟩
abbrev cX11_hundreds : ByteArray := prog_1_method_56_code
def yX11_hundreds : MethodName := ⟨RX11, "hundreds", "(I)J"⟩
abbrev cX11_lowest : ByteArray := prog_1_method_57_code
def yX11_lowest : MethodName := ⟨RX11, "lowest", "(JJI)J"⟩
abbrev cX11_isTape : ByteArray := prog_1_method_58_code
def yX11_isTape : MethodName := ⟨RX11, "isTape", "(I)Z"⟩
abbrev cX11_hasPlace : ByteArray := prog_1_method_59_code
def yX11_hasPlace : MethodName := ⟨RX11, "hasPlace", "(II)Z"⟩
abbrev cX11_hasPart : ByteArray := prog_1_method_60_code
def yX11_hasPart : MethodName := ⟨RX11, "hasPart", "(III)Z"⟩
abbrev cX11_narrowed : ByteArray := prog_1_method_61_code
def yX11_narrowed : MethodName := ⟨RX11, "narrowed", "(IJ)J"⟩
def RX12 : String := "FootKeeperModel"
def TX12 : u_T := fun k => match k with
  | 0 => ("FootKeeperModel", "shooters", "I", false)
  | 1 => ("FootKeeperModel", "allShots", "I", false)
  | 2 => ("FootKeeperModel", "allGoals", "I", false)
  | 3 => ("FootKeeperModel", "kind", "[I", true)
  | 4 => ("FootKeeperModel", "v", "[I", true)
  | 5 => ("FootKeeperModel", "last", "[I", true)
  | 6 => ("FootKeeperModel", "shots", "[I", true)
  | 7 => ("FootKeeperModel", "goals", "[I", true)
  | 8 => ("FootKeeperModel", "rows", "[I", true)
  | 9 => ("FootKeeperModel", "grounds", "I", false)
  | 10 => ("FootKeeperModel", "the", "I", false)
  | 11 => ("FootKeeperModel", "fed", "I", false)
  | 12 => ("FootKeeperModel", "at", "I", false)
  | 13 => ("FootKeeperModel", "digits", "I", false)
  | 14 => ("FootKeeperModel", "text", "[I", true)
  | 15 => ("FootKeeperModel", "clauses", "[I", true)
  | 16 => ("FootKeeperModel", "word", "[I", true)
  | 17 => ("FootKeeperModel", "number", "[I", true)
  | 18 => ("FootKeeperModel", "from", "[I", true)
  | 19 => ("FootKeeperModel", "to", "[I", true)
  | 20 => ("FootKeeperModel", "sign", "[I", true)
  | 21 => ("FootKeeperModel", "waits", "[I", true)
  | 22 => ("FootKeeperModel", "signs", "I", false)
  | 23 => ("FootKeeperModel", "waiting", "I", false)
  | 24 => ("FootKeeperModel", "open", "I", false)
  | 25 => ("FootKeeperModel", "letters", "[I", true)
  | 26 => ("FootKeeperModel", "pile", "[Z", true)
  | 27 => ("FootKeeperModel", "keptShots", "I", false)
  | 28 => ("FootKeeperModel", "keptGoals", "I", false)
  | 29 => ("FootKeeperModel", "keptLast", "[I", true)
  | 30 => ("FootKeeperModel", "keptOwn", "[I", true)
  | 31 => ("FootKeeperModel", "keptIn", "[I", true)
  | 32 => ("FootKeeperModel", "lines", "I", false)
  | 33 => ("FootKeeperModel", "line", "[I", true)
  | 34 => ("FootKeeperModel", "places", "[I", true)
  | 35 => ("FootKeeperModel", "bestPlaces", "[I", true)
  | 36 => ("FootKeeperModel", "parts", "[J", true)
  | 37 => ("FootKeeperModel", "others", "[J", true)
  | 38 => ("FootKeeperModel", "seen", "I", false)
  | 39 => ("FootKeeperModel", "side", "[I", true)
  | 40 => ("FootKeeperModel", "books", "I", false)
  | 41 => ("FootKeeperModel", "bookWho", "[I", true)
  | 42 => ("FootKeeperModel", "bookDraw", "[I", true)
  | 43 => ("FootKeeperModel", "hasImage", "Z", false)
  | 44 => ("FootKeeperModel", "imageThe", "I", false)
  | 45 => ("FootKeeperModel", "imageShooters", "I", false)
  | 46 => ("FootKeeperModel", "imageShots", "I", false)
  | 47 => ("FootKeeperModel", "imageGoals", "I", false)
  | 48 => ("FootKeeperModel", "imageLines", "I", false)
  | 49 => ("FootKeeperModel", "imageSeen", "I", false)
  | 50 => ("FootKeeperModel", "imageBooks", "I", false)
  | 51 => ("FootKeeperModel", "imageKind", "[I", true)
  | 52 => ("FootKeeperModel", "imageV", "[I", true)
  | 53 => ("FootKeeperModel", "imageLast", "[I", true)
  | 54 => ("FootKeeperModel", "imageOwn", "[I", true)
  | 55 => ("FootKeeperModel", "imageIn", "[I", true)
  | 56 => ("FootKeeperModel", "imageRows", "[I", true)
  | 57 => ("FootKeeperModel", "imageLine", "[I", true)
  | 58 => ("FootKeeperModel", "imageSide", "[I", true)
  | 59 => ("FootKeeperModel", "imageWho", "[I", true)
  | 60 => ("FootKeeperModel", "imageDraw", "[I", true)
  | 61 => ("FootKeeperModel", "ran", "I", false)
  | 62 => ("FootKeeperModel", "bodies", "[I", true)
  | 63 => ("FootKeeperModel", "sort", "[I", true)
  | 64 => ("FootKeeperModel", "length", "[I", true)
  | 65 => ("FootKeeperModel", "item", "[J", true)
  | _ => ("FootKeeperModel", "aside", "[J", true)
def tyX12 : Nat → FieldType := fun k => match k with
  | 0 => .int
  | 1 => .int
  | 2 => .int
  | 3 => .array .int
  | 4 => .array .int
  | 5 => .array .int
  | 6 => .array .int
  | 7 => .array .int
  | 8 => .array .int
  | 9 => .int
  | 10 => .int
  | 11 => .int
  | 12 => .int
  | 13 => .int
  | 14 => .array .int
  | 15 => .array .int
  | 16 => .array .int
  | 17 => .array .int
  | 18 => .array .int
  | 19 => .array .int
  | 20 => .array .int
  | 21 => .array .int
  | 22 => .int
  | 23 => .int
  | 24 => .int
  | 25 => .array .int
  | 26 => .array .boolean
  | 27 => .int
  | 28 => .int
  | 29 => .array .int
  | 30 => .array .int
  | 31 => .array .int
  | 32 => .int
  | 33 => .array .int
  | 34 => .array .int
  | 35 => .array .int
  | 36 => .array .long
  | 37 => .array .long
  | 38 => .int
  | 39 => .array .int
  | 40 => .int
  | 41 => .array .int
  | 42 => .array .int
  | 43 => .boolean
  | 44 => .int
  | 45 => .int
  | 46 => .int
  | 47 => .int
  | 48 => .int
  | 49 => .int
  | 50 => .int
  | 51 => .array .int
  | 52 => .array .int
  | 53 => .array .int
  | 54 => .array .int
  | 55 => .array .int
  | 56 => .array .int
  | 57 => .array .int
  | 58 => .array .int
  | 59 => .array .int
  | 60 => .array .int
  | 61 => .int
  | 62 => .array .int
  | 63 => .array .int
  | 64 => .array .int
  | 65 => .array .long
  | _ => .array .long
abbrev wsX120 : List Cond := u_ws RX12 TX12 67
theorem nmX12 : ∀ a, a < 67 → ∀ b, b < 67 → a ≠ b → (TX12 a).2.1 ≠ (TX12 b).2.1 := by decide +kernel
theorem tyX12_ok : ∀ k, k < 67 → parseFieldDescriptor (TX12 k).2.2.1 = some (tyX12 k) := by decide +kernel
abbrev cX12_init : ByteArray := prog_14_method_1_code
def yX12_init : MethodName := ⟨RX12, "<init>", "()V"⟩
abbrev cX12_in : ByteArray := prog_14_method_2_code
def yX12_in : MethodName := ⟨RX12, "in", "(III)Z"⟩
abbrev cX12_has : ByteArray := prog_14_method_3_code
def yX12_has : MethodName := ⟨RX12, "has", "(II)Z"⟩
abbrev cX12_isShooter : ByteArray := prog_14_method_4_code
def yX12_isShooter : MethodName := ⟨RX12, "isShooter", "(I)Z"⟩
abbrev cX12_isSide : ByteArray := prog_14_method_5_code
def yX12_isSide : MethodName := ⟨RX12, "isSide", "(I)Z"⟩
abbrev cX12_shooter : ByteArray := prog_14_method_6_code
def yX12_shooter : MethodName := ⟨RX12, "shooter", "(II)I"⟩
abbrev cX12_last : ByteArray := prog_14_method_7_code
def yX12_last : MethodName := ⟨RX12, "last", "(II)I"⟩
abbrev cX12_row : ByteArray := prog_14_method_8_code
def yX12_row : MethodName := ⟨RX12, "row", "(III)I"⟩
abbrev cX12_feed : ByteArray := prog_14_method_9_code
def yX12_feed : MethodName := ⟨RX12, "feed", "(I)I"⟩
abbrev cX12_next : ByteArray := prog_14_method_10_code
def yX12_next : MethodName := ⟨RX12, "next", "()I"⟩
abbrev cX12_second : ByteArray := prog_14_method_11_code
def yX12_second : MethodName := ⟨RX12, "second", "()I"⟩
abbrev cX12_takes : ByteArray := prog_14_method_12_code
def yX12_takes : MethodName := ⟨RX12, "takes", "(I)Z"⟩
abbrev cX12_takesWord : ByteArray := prog_14_method_13_code
def yX12_takesWord : MethodName := ⟨RX12, "takesWord", "(II)Z"⟩
abbrev cX12_isDigit : ByteArray := prog_14_method_14_code
def yX12_isDigit : MethodName := ⟨RX12, "isDigit", "()Z"⟩
abbrev cX12_takesNumber : ByteArray := prog_14_method_15_code
def yX12_takesNumber : MethodName := ⟨RX12, "takesNumber", "()Z"⟩
abbrev cX12_emits : ByteArray := prog_14_method_16_code
def yX12_emits : MethodName := ⟨RX12, "emits", "(I)V"⟩
abbrev cX12_whole : ByteArray := prog_14_method_17_code
def yX12_whole : MethodName := ⟨RX12, "whole", "()V"⟩
abbrev cX12_settle : ByteArray := prog_14_method_18_code
def yX12_settle : MethodName := ⟨RX12, "settle", "(I)V"⟩
abbrev cX12_place : ByteArray := prog_14_method_19_code
def yX12_place : MethodName := ⟨RX12, "place", "(I)I"⟩
abbrev cX12_takesTest : ByteArray := prog_14_method_20_code
def yX12_takesTest : MethodName := ⟨RX12, "takesTest", "()Z"⟩
abbrev cX12_takesE : ByteArray := prog_14_method_21_code
def yX12_takesE : MethodName := ⟨RX12, "takesE", "(I)Z"⟩
abbrev cX12_takesHead : ByteArray := prog_14_method_22_code
def yX12_takesHead : MethodName := ⟨RX12, "takesHead", "(I)Z"⟩
abbrev cX12_takesClause : ByteArray := prog_14_method_23_code
def yX12_takesClause : MethodName := ⟨RX12, "takesClause", "(I)Z"⟩
abbrev cX12_goesText : ByteArray := prog_14_method_24_code
def yX12_goesText : MethodName := ⟨RX12, "goesText", "(I)Z"⟩
abbrev cX12_ground : ByteArray := prog_14_method_25_code
def yX12_ground : MethodName := ⟨RX12, "ground", "()I"⟩
abbrev cX12_begin : ByteArray := prog_14_method_26_code
def yX12_begin : MethodName := ⟨RX12, "begin", "()I"⟩
abbrev cX12_behind : ByteArray := prog_14_method_27_code
def yX12_behind : MethodName := ⟨RX12, "behind", "()I"⟩
abbrev cX12_factOf : ByteArray := prog_14_method_28_code
def yX12_factOf : MethodName := ⟨RX12, "factOf", "(III)I"⟩
abbrev cX12_holds : ByteArray := prog_14_method_29_code
def yX12_holds : MethodName := ⟨RX12, "holds", "(III)Z"⟩
abbrev cX12_percent : ByteArray := prog_14_method_30_code
def yX12_percent : MethodName := ⟨RX12, "percent", "(IIII)I"⟩
abbrev cX12_sure : ByteArray := prog_14_method_31_code
def yX12_sure : MethodName := ⟨RX12, "sure", "(II)I"⟩
abbrev cX12_saves : ByteArray := prog_14_method_32_code
def yX12_saves : MethodName := ⟨RX12, "saves", "(II)I"⟩
abbrev cX12_note : ByteArray := prog_14_method_33_code
def yX12_note : MethodName := ⟨RX12, "note", "(I)I"⟩
abbrev cX12_plainly : ByteArray := prog_14_method_34_code
def yX12_plainly : MethodName := ⟨RX12, "plainly", "(I)I"⟩
abbrev cX12_turned : ByteArray := prog_14_method_35_code
def yX12_turned : MethodName := ⟨RX12, "turned", "(I)I"⟩
abbrev cX12_steady : ByteArray := prog_14_method_36_code
def yX12_steady : MethodName := ⟨RX12, "steady", "(I)I"⟩
abbrev cX12_waits : ByteArray := prog_14_method_37_code
def yX12_waits : MethodName := ⟨RX12, "waits", "(I)I"⟩
abbrev cX12_aim : ByteArray := prog_14_method_38_code
def yX12_aim : MethodName := ⟨RX12, "aim", "(I)I"⟩
abbrev cX12_of : ByteArray := prog_14_method_39_code
def yX12_of : MethodName := ⟨RX12, "of", "(II)I"⟩
abbrev cX12_told : ByteArray := prog_14_method_40_code
def yX12_told : MethodName := ⟨RX12, "told", "(I)I"⟩
abbrev cX12_chanceOf : ByteArray := prog_14_method_41_code
def yX12_chanceOf : MethodName := ⟨RX12, "chanceOf", "(III)I"⟩
abbrev cX12_chance : ByteArray := prog_14_method_42_code
def yX12_chance : MethodName := ⟨RX12, "chance", "(III)I"⟩
abbrev cX12_chanceNow : ByteArray := prog_14_method_43_code
def yX12_chanceNow : MethodName := ⟨RX12, "chanceNow", "(I)I"⟩
abbrev cX12_more : ByteArray := prog_14_method_44_code
def yX12_more : MethodName := ⟨RX12, "more", "(I)I"⟩
abbrev cX12_goes : ByteArray := prog_14_method_45_code
def yX12_goes : MethodName := ⟨RX12, "goes", "(IZ)I"⟩
abbrev cX12_shoot : ByteArray := prog_14_method_46_code
def yX12_shoot : MethodName := ⟨RX12, "shoot", "(II)I"⟩
abbrev cX12_anew : ByteArray := prog_14_method_47_code
def yX12_anew : MethodName := ⟨RX12, "anew", "()I"⟩
abbrev cX12_best : ByteArray := prog_14_method_48_code
def yX12_best : MethodName := ⟨RX12, "best", "(II)I"⟩
abbrev cX12_mixed : ByteArray := prog_14_method_49_code
def yX12_mixed : MethodName := ⟨RX12, "mixed", "(III)I"⟩
abbrev cX12_mix : ByteArray := prog_14_method_50_code
def yX12_mix : MethodName := ⟨RX12, "mix", "(II)I"⟩
abbrev cX12_save : ByteArray := prog_14_method_51_code
def yX12_save : MethodName := ⟨RX12, "save", "()V"⟩
abbrev cX12_putBack : ByteArray := prog_14_method_52_code
def yX12_putBack : MethodName := ⟨RX12, "putBack", "()V"⟩
abbrev cX12_line : ByteArray := prog_14_method_53_code
def yX12_line : MethodName := ⟨RX12, "line", "(I)I"⟩
abbrev cX12_layParts : ByteArray := prog_14_method_54_code
def yX12_layParts : MethodName := ⟨RX12, "layParts", "()V"⟩
abbrev cX12_layInOrder : ByteArray := prog_14_method_55_code
def yX12_layInOrder : MethodName := ⟨RX12, "layInOrder", "()V"⟩
abbrev cX12_hundreds : ByteArray := prog_14_method_56_code
def yX12_hundreds : MethodName := ⟨RX12, "hundreds", "(I)J"⟩
abbrev cX12_divisor : ByteArray := prog_14_method_57_code
def yX12_divisor : MethodName := ⟨RX12, "divisor", "(JJ)J"⟩
abbrev cX12_lowest : ByteArray := prog_14_method_58_code
def yX12_lowest : MethodName := ⟨RX12, "lowest", "(JJI)J"⟩
abbrev cX12_likely : ByteArray := prog_14_method_59_code
def yX12_likely : MethodName := ⟨RX12, "likely", "(II)J"⟩
abbrev cX12_layOrder : ByteArray := prog_14_method_60_code
def yX12_layOrder : MethodName := ⟨RX12, "layOrder", "(I)Z"⟩
abbrev cX12_order : ByteArray := prog_14_method_61_code
def yX12_order : MethodName := ⟨RX12, "order", "(I)I"⟩
abbrev cX12_layOthers : ByteArray := prog_14_method_62_code
def yX12_layOthers : MethodName := ⟨RX12, "layOthers", "(I)V"⟩
abbrev cX12_win : ByteArray := prog_14_method_63_code
def yX12_win : MethodName := ⟨RX12, "win", "(III)J"⟩
abbrev cX12_worth : ByteArray := prog_14_method_64_code
def yX12_worth : MethodName := ⟨RX12, "worth", "(I)I"⟩
abbrev cX12_stop : ByteArray := prog_14_method_65_code
def yX12_stop : MethodName := ⟨RX12, "stop", "(I)I"⟩
abbrev cX12_forget : ByteArray := prog_14_method_66_code
def yX12_forget : MethodName := ⟨RX12, "forget", "(II)I"⟩
abbrev cX12_caught : ByteArray := prog_14_method_67_code
def yX12_caught : MethodName := ⟨RX12, "caught", "(II)I"⟩
abbrev cX12_see : ByteArray := prog_14_method_68_code
def yX12_see : MethodName := ⟨RX12, "see", "(I)I"⟩
abbrev cX12_isSeen : ByteArray := prog_14_method_69_code
def yX12_isSeen : MethodName := ⟨RX12, "isSeen", "(I)Z"⟩
abbrev cX12_who : ByteArray := prog_14_method_70_code
def yX12_who : MethodName := ⟨RX12, "who", "()I"⟩
abbrev cX12_odds : ByteArray := prog_14_method_71_code
def yX12_odds : MethodName := ⟨RX12, "odds", "(II)J"⟩
abbrev cX12_mean : ByteArray := prog_14_method_72_code
def yX12_mean : MethodName := ⟨RX12, "mean", "(I)J"⟩
abbrev cX12_book : ByteArray := prog_14_method_73_code
def yX12_book : MethodName := ⟨RX12, "book", "(II)I"⟩
abbrev cX12_looked : ByteArray := prog_14_method_74_code
def yX12_looked : MethodName := ⟨RX12, "looked", "()I"⟩
abbrev cX12_judge : ByteArray := prog_14_method_75_code
def yX12_judge : MethodName := ⟨RX12, "judge", "(II)I"⟩
abbrev cX12_image : ByteArray := prog_14_method_76_code
def yX12_image : MethodName := ⟨RX12, "image", "()I"⟩
abbrev cX12_undo : ByteArray := prog_14_method_77_code
def yX12_undo : MethodName := ⟨RX12, "undo", "()I"⟩
abbrev cX12_body : ByteArray := prog_14_method_78_code
def yX12_body : MethodName := ⟨RX12, "body", "(I)V"⟩
abbrev cX12_shooterAims : ByteArray := prog_14_method_79_code
def yX12_shooterAims : MethodName := ⟨RX12, "shooterAims", "(II)I"⟩
abbrev cX12_aimsAct : ByteArray := prog_14_method_80_code
def yX12_aimsAct : MethodName := ⟨RX12, "aimsAct", "(II)I"⟩
abbrev cX12_shooterShows : ByteArray := prog_14_method_81_code
def yX12_shooterShows : MethodName := ⟨RX12, "shooterShows", "(II)I"⟩
abbrev cX12_turnedShows : ByteArray := prog_14_method_82_code
def yX12_turnedShows : MethodName := ⟨RX12, "turnedShows", "(II)I"⟩
abbrev cX12_showsAct : ByteArray := prog_14_method_83_code
def yX12_showsAct : MethodName := ⟨RX12, "showsAct", "(II)I"⟩
abbrev cX12_shooterTells : ByteArray := prog_14_method_84_code
def yX12_shooterTells : MethodName := ⟨RX12, "shooterTells", "(II)I"⟩
abbrev cX12_tellsAct : ByteArray := prog_14_method_85_code
def yX12_tellsAct : MethodName := ⟨RX12, "tellsAct", "(II)I"⟩
abbrev cX12_act : ByteArray := prog_14_method_86_code
def yX12_act : MethodName := ⟨RX12, "act", "(III)I"⟩
abbrev cX12_trace : ByteArray := prog_14_method_87_code
def yX12_trace : MethodName := ⟨RX12, "trace", "(I)I"⟩
abbrev cX12_taken : ByteArray := prog_14_method_88_code
def yX12_taken : MethodName := ⟨RX12, "taken", "(II)I"⟩
abbrev cX12_count : ByteArray := prog_14_method_89_code
def yX12_count : MethodName := ⟨RX12, "count", "(I)I"⟩
abbrev cX12_isTape : ByteArray := prog_14_method_90_code
def yX12_isTape : MethodName := ⟨RX12, "isTape", "(I)Z"⟩
abbrev cX12_tape : ByteArray := prog_14_method_91_code
def yX12_tape : MethodName := ⟨RX12, "tape", "(III)I"⟩
abbrev cX12_narrow : ByteArray := prog_14_method_92_code
def yX12_narrow : MethodName := ⟨RX12, "narrow", "(IJ)J"⟩
abbrev cX12_item : ByteArray := prog_14_method_93_code
def yX12_item : MethodName := ⟨RX12, "item", "(IIJ)I"⟩
abbrev cX12_read : ByteArray := prog_14_method_94_code
def yX12_read : MethodName := ⟨RX12, "read", "(II)J"⟩
abbrev cX12_shift : ByteArray := prog_14_method_95_code
def yX12_shift : MethodName := ⟨RX12, "shift", "(IIIII)I"⟩
def RJx145de : String := "java/io/Serializable"
def TJx145de : u_T := fun k => match k with
  | _ => ("", "", "", false)
def RJx9f9b0 : String := "java/lang/CharSequence"
def TJx9f9b0 : u_T := fun k => match k with
  | _ => ("", "", "", false)
def RJ11 : String := "java/lang/Character"
def TJ11 : u_T := fun k => match k with
  | _ => ("", "", "", false)
abbrev cJ11_isValidCodePoint_9a6ad : ByteArray := prog_15_method_11_code
def yJ11_isValidCodePoint_9a6ad : MethodName := ⟨RJ11, "isValidCodePoint", "(I)Z"⟩
abbrev cJ11_highSurrogate_5068e : ByteArray := prog_15_method_28_code
def yJ11_highSurrogate_5068e : MethodName := ⟨RJ11, "highSurrogate", "(I)C"⟩
abbrev cJ11_lowSurrogate_5068e : ByteArray := prog_15_method_29_code
def yJ11_lowSurrogate_5068e : MethodName := ⟨RJ11, "lowSurrogate", "(I)C"⟩
def RJxb160c : String := "java/lang/Comparable"
def TJxb160c : u_T := fun k => match k with
  | _ => ("", "", "", false)
def RJ9 : String := "java/lang/Math"
def TJ9 : u_T := fun k => match k with
  | _ => ("", "", "", false)
abbrev cJ9_max_7cf53 : ByteArray := prog_16_method_65_code
def yJ9_max_7cf53 : MethodName := ⟨RJ9, "max", "(II)I"⟩
abbrev cJ9_min_7cf53 : ByteArray := prog_16_method_69_code
def yJ9_min_7cf53 : MethodName := ⟨RJ9, "min", "(II)I"⟩
def RJ0 : String := "java/lang/String"
def TJ0 : u_T := fun k => match k with
  | _ => ("", "", "", false)
abbrev cJ0_length_8abf5 : ByteArray := prog_17_method_54_code
def yJ0_length_8abf5 : MethodName := ⟨RJ0, "length", "()I"⟩
abbrev cJ0_charAt_5068e : ByteArray := prog_17_method_56_code
def yJ0_charAt_5068e : MethodName := ⟨RJ0, "charAt", "(I)C"⟩
abbrev cJ0_indexOf_0f7a4 : ByteArray := prog_17_method_79_code
def yJ0_indexOf_0f7a4 : MethodName := ⟨RJ0, "indexOf", "(I)I"⟩
abbrev cJ0_indexOf_7cf53 : ByteArray := prog_17_method_80_code
def yJ0_indexOf_7cf53 : MethodName := ⟨RJ0, "indexOf", "(II)I"⟩
abbrev cJ0_coder_7d493 : ByteArray := prog_17_method_152_code
def yJ0_coder_7d493 : MethodName := ⟨RJ0, "coder", "()B"⟩
abbrev cJ0_isLatin1_aae02 : ByteArray := prog_17_method_154_code
def yJ0_isLatin1_aae02 : MethodName := ⟨RJ0, "isLatin1", "()Z"⟩
abbrev cJ0_checkIndex_df160 : ByteArray := prog_17_method_155_code
def yJ0_checkIndex_df160 : MethodName := ⟨RJ0, "checkIndex", "(II)V"⟩
abbrev cJ0_checkBoundsBeginEnd_23922 : ByteArray := prog_17_method_158_code
def yJ0_checkBoundsBeginEnd_23922 : MethodName := ⟨RJ0, "checkBoundsBeginEnd", "(III)V"⟩
def RJ1 : String := "java/lang/StringLatin1"
def TJ1 : u_T := fun k => match k with
  | _ => ("", "", "", false)
abbrev cJ1_charAt_3b067 : ByteArray := prog_18_method_2_code
def yJ1_charAt_3b067 : MethodName := ⟨RJ1, "charAt", "([BI)C"⟩
abbrev cJ1_canEncode_9a6ad : ByteArray := prog_18_method_4_code
def yJ1_canEncode_9a6ad : MethodName := ⟨RJ1, "canEncode", "(I)Z"⟩
abbrev cJ1_indexOf_4cfef : ByteArray := prog_18_method_22_code
def yJ1_indexOf_4cfef : MethodName := ⟨RJ1, "indexOf", "([BIII)I"⟩
abbrev cJ1_indexOfChar_4cfef : ByteArray := prog_18_method_23_code
def yJ1_indexOfChar_4cfef : MethodName := ⟨RJ1, "indexOfChar", "([BIII)I"⟩
def RJ2 : String := "java/lang/StringUTF16"
def TJ2 : u_T := fun k => match k with
  | _ => ("", "", "", false)
abbrev cJ2_getChar_3b067 : ByteArray := prog_19_method_5_code
def yJ2_getChar_3b067 : MethodName := ⟨RJ2, "getChar", "([BI)C"⟩
abbrev cJ2_length_9d52b : ByteArray := prog_19_method_6_code
def yJ2_length_9d52b : MethodName := ⟨RJ2, "length", "([B)I"⟩
abbrev cJ2_indexOf_4cfef : ByteArray := prog_19_method_40_code
def yJ2_indexOf_4cfef : MethodName := ⟨RJ2, "indexOf", "([BIII)I"⟩
abbrev cJ2_indexOfChar_4cfef : ByteArray := prog_19_method_47_code
def yJ2_indexOfChar_4cfef : MethodName := ⟨RJ2, "indexOfChar", "([BIII)I"⟩
abbrev cJ2_indexOfCharUnsafe_4cfef : ByteArray := prog_19_method_48_code
def yJ2_indexOfCharUnsafe_4cfef : MethodName := ⟨RJ2, "indexOfCharUnsafe", "([BIII)I"⟩
abbrev cJ2_indexOfSupplementary_4cfef : ByteArray := prog_19_method_49_code
def yJ2_indexOfSupplementary_4cfef : MethodName := ⟨RJ2, "indexOfSupplementary", "([BIII)I"⟩
abbrev cJ2_charAt_3b067 : ByteArray := prog_19_method_83_code
def yJ2_charAt_3b067 : MethodName := ⟨RJ2, "charAt", "([BI)C"⟩
abbrev cJ2_checkIndex_2214a : ByteArray := prog_19_method_91_code
def yJ2_checkIndex_2214a : MethodName := ⟨RJ2, "checkIndex", "(I[B)V"⟩
abbrev cJ2_checkBoundsBeginEnd_d044e : ByteArray := prog_19_method_93_code
def yJ2_checkBoundsBeginEnd_d044e : MethodName := ⟨RJ2, "checkBoundsBeginEnd", "(II[B)V"⟩
def RJ10 : String := "java/lang/System"
def TJ10 : u_T := fun k => match k with
  | _ => ("", "", "", false)
def RJxfd54e : String := "java/lang/constant/Constable"
def TJxfd54e : u_T := fun k => match k with
  | _ => ("", "", "", false)
def RJx3cf43 : String := "java/lang/constant/ConstantDesc"
def TJx3cf43 : u_T := fun k => match k with
  | _ => ("", "", "", false)
def RJ7 : String := "java/util/Arrays"
def TJ7 : u_T := fun k => match k with
  | _ => ("", "", "", false)
abbrev cJ7_fill_d0a16 : ByteArray := prog_21_method_101_code
def yJ7_fill_d0a16 : MethodName := ⟨RJ7, "fill", "([JJ)V"⟩
abbrev cJ7_fill_53178 : ByteArray := prog_21_method_103_code
def yJ7_fill_53178 : MethodName := ⟨RJ7, "fill", "([II)V"⟩
def RJ3 : String := "jdk/internal/util/Preconditions"
def TJ3 : u_T := fun k => match k with
  | _ => ("", "", "", false)
abbrev cJ3_checkIndex_8e157 : ByteArray := prog_22_method_11_code
def yJ3_checkIndex_8e157 : MethodName := ⟨RJ3, "checkIndex", "(IILjava/util/function/BiFunction;)I"⟩
abbrev cJ3_checkFromToIndex_8c36e : ByteArray := prog_22_method_12_code
def yJ3_checkFromToIndex_8c36e : MethodName := ⟨RJ3, "checkFromToIndex", "(IIILjava/util/function/BiFunction;)I"⟩
def RL : String := "FootKeeperLaw"
abbrev cL_law : ByteArray := code
end
section
/-! words: those of the tables that stay true in every callee -/
def xtb : List Cond := lw_tbl.filter goodWord
theorem xtb_in {w : Cond} (i : Nat) (h : lw_tbl[i]? = some w) (g : goodWord w = true) : w ∈ xtb := List.mem_filter.mpr ⟨List.mem_of_getElem? h, g⟩
theorem xtb_lw {w : Cond} (h : w ∈ xtb) : w ∈ lw_tbl := (List.mem_filter.mp h).1
theorem xtb_good {big : List Cond} (hb : ∀ w ∈ xtb, w ∈ big) : GoodIn big xtb := fun w h => ⟨hb w h, good_of_word (List.mem_filter.mp h).2⟩
/-- a method's words: its own code, and all that the tables say -/
def wsM (y : MethodName) (b : ByteArray) (ml : Nat) (ret : Option FieldType) : List Cond := Cond.code y b ml ret :: xtb
theorem wsM_good {y : MethodName} {b : ByteArray} {ml : Nat} {ret : Option FieldType} (h : Cond.code y b ml ret ∈ xtb) : GoodIn xtb (wsM y b ml ret) := by
  intro w hw
  rcases List.mem_cons.mp hw with rfl | hw
  · exact ⟨h, good_of_word (List.mem_filter.mp h).2⟩
  · exact xtb_good (fun _ h => h) w hw
/-! classes by number -/
def XR : Nat → String := fun c => match c with
  | 0 => RX0
  | 1 => RX1
  | 2 => RX2
  | 3 => RX3
  | 4 => RX4
  | 5 => RX5
  | 6 => RX6
  | 7 => RX7
  | 8 => RX8
  | 9 => RX9
  | 10 => RX10
  | 11 => RX11
  | _ => RX12
def XT : Nat → u_T := fun c => match c with
  | 0 => TX0
  | 1 => TX1
  | 2 => TX2
  | 3 => TX3
  | 4 => TX4
  | 5 => TX5
  | 6 => TX6
  | 7 => TX7
  | 8 => TX8
  | 9 => TX9
  | 10 => TX10
  | 11 => TX11
  | _ => TX12
def XN : Nat → Nat := fun c => match c with
  | 0 => 2
  | 1 => 9
  | 2 => 2
  | 3 => 3
  | 4 => 2
  | 5 => 2
  | 6 => 12
  | 7 => 2
  | 8 => 2
  | 9 => 3
  | 10 => 2
  | 11 => 17
  | _ => 67
def XY : Nat → Nat → FieldType := fun c => match c with
  | 0 => tyX0
  | 1 => tyX1
  | 2 => tyX2
  | 3 => tyX3
  | 4 => tyX4
  | 5 => tyX5
  | 6 => tyX6
  | 7 => tyX7
  | 8 => tyX8
  | 9 => tyX9
  | 10 => tyX10
  | 11 => tyX11
  | _ => tyX12
def xCl : List vw_C := [(RX0, TX0, 2), (RX1, TX1, 9), (RX2, TX2, 2), (RX3, TX3, 3), (RX4, TX4, 2), (RX5, TX5, 2), (RX6, TX6, 12), (RX7, TX7, 2), (RX8, TX8, 2), (RX9, TX9, 3), (RX10, TX10, 2), (RX11, TX11, 17), (RX12, TX12, 67)]
theorem xCl_at : ∀ c, c < 13 → xCl[c]? = some (XR c, XT c, XN c)
  | 0, _ => rfl
  | 1, _ => rfl
  | 2, _ => rfl
  | 3, _ => rfl
  | 4, _ => rfl
  | 5, _ => rfl
  | 6, _ => rfl
  | 7, _ => rfl
  | 8, _ => rfl
  | 9, _ => rfl
  | 10, _ => rfl
  | 11, _ => rfl
  | 12, _ => rfl
  | _ + 13, h => absurd h (by omega)
theorem xY_ok : ∀ c, c < 13 → ∀ k, k < XN c → parseFieldDescriptor (XT c k).2.2.1 = some (XY c k)
  | 0, _ => tyX0_ok
  | 1, _ => tyX1_ok
  | 2, _ => tyX2_ok
  | 3, _ => tyX3_ok
  | 4, _ => tyX4_ok
  | 5, _ => tyX5_ok
  | 6, _ => tyX6_ok
  | 7, _ => tyX7_ok
  | 8, _ => tyX8_ok
  | 9, _ => tyX9_ok
  | 10, _ => tyX10_ok
  | 11, _ => tyX11_ok
  | 12, _ => tyX12_ok
  | _ + 13, h => absurd h (by omega)
theorem xM_ok : ∀ c, c < 13 → ∀ a, a < XN c → ∀ b, b < XN c → a ≠ b → (XT c a).2.1 ≠ (XT c b).2.1
  | 0, _ => nmX0
  | 1, _ => nmX1
  | 2, _ => nmX2
  | 3, _ => nmX3
  | 4, _ => nmX4
  | 5, _ => nmX5
  | 6, _ => nmX6
  | 7, _ => nmX7
  | 8, _ => nmX8
  | 9, _ => nmX9
  | 10, _ => nmX10
  | 11, _ => nmX11
  | 12, _ => nmX12
  | _ + 13, h => absurd h (by omega)
theorem xL_in0 : ∀ k, k < 2 → u_lay RX0 TX0 k ∈ xtb
  | 0, _ => xtb_in 372 (by decide +kernel) rfl
  | 1, _ => xtb_in 373 (by decide +kernel) rfl
  | _ + 2, h => absurd h (by omega)
theorem xL_in1 : ∀ k, k < 9 → u_lay RX1 TX1 k ∈ xtb
  | 0, _ => xtb_in 134 (by decide +kernel) rfl
  | 1, _ => xtb_in 136 (by decide +kernel) rfl
  | 2, _ => xtb_in 138 (by decide +kernel) rfl
  | 3, _ => xtb_in 140 (by decide +kernel) rfl
  | 4, _ => xtb_in 142 (by decide +kernel) rfl
  | 5, _ => xtb_in 144 (by decide +kernel) rfl
  | 6, _ => xtb_in 146 (by decide +kernel) rfl
  | 7, _ => xtb_in 148 (by decide +kernel) rfl
  | 8, _ => xtb_in 150 (by decide +kernel) rfl
  | _ + 9, h => absurd h (by omega)
theorem xL_in2 : ∀ k, k < 2 → u_lay RX2 TX2 k ∈ xtb
  | 0, _ => xtb_in 381 (by decide +kernel) rfl
  | 1, _ => xtb_in 382 (by decide +kernel) rfl
  | _ + 2, h => absurd h (by omega)
theorem xL_in3 : ∀ k, k < 3 → u_lay RX3 TX3 k ∈ xtb
  | 0, _ => xtb_in 169 (by decide +kernel) rfl
  | 1, _ => xtb_in 171 (by decide +kernel) rfl
  | 2, _ => xtb_in 173 (by decide +kernel) rfl
  | _ + 3, h => absurd h (by omega)
theorem xL_in4 : ∀ k, k < 2 → u_lay RX4 TX4 k ∈ xtb
  | 0, _ => xtb_in 395 (by decide +kernel) rfl
  | 1, _ => xtb_in 396 (by decide +kernel) rfl
  | _ + 2, h => absurd h (by omega)
theorem xL_in5 : ∀ k, k < 2 → u_lay RX5 TX5 k ∈ xtb
  | 0, _ => xtb_in 354 (by decide +kernel) rfl
  | 1, _ => xtb_in 355 (by decide +kernel) rfl
  | _ + 2, h => absurd h (by omega)
theorem xL_in6 : ∀ k, k < 12 → u_lay RX6 TX6 k ∈ xtb
  | 0, _ => xtb_in 209 (by decide +kernel) rfl
  | 1, _ => xtb_in 211 (by decide +kernel) rfl
  | 2, _ => xtb_in 213 (by decide +kernel) rfl
  | 3, _ => xtb_in 215 (by decide +kernel) rfl
  | 4, _ => xtb_in 217 (by decide +kernel) rfl
  | 5, _ => xtb_in 219 (by decide +kernel) rfl
  | 6, _ => xtb_in 221 (by decide +kernel) rfl
  | 7, _ => xtb_in 223 (by decide +kernel) rfl
  | 8, _ => xtb_in 225 (by decide +kernel) rfl
  | 9, _ => xtb_in 227 (by decide +kernel) rfl
  | 10, _ => xtb_in 229 (by decide +kernel) rfl
  | 11, _ => xtb_in 231 (by decide +kernel) rfl
  | _ + 12, h => absurd h (by omega)
theorem xL_in7 : ∀ k, k < 2 → u_lay RX7 TX7 k ∈ xtb
  | 0, _ => xtb_in 390 (by decide +kernel) rfl
  | 1, _ => xtb_in 391 (by decide +kernel) rfl
  | _ + 2, h => absurd h (by omega)
theorem xL_in8 : ∀ k, k < 2 → u_lay RX8 TX8 k ∈ xtb
  | 0, _ => xtb_in 343 (by decide +kernel) rfl
  | 1, _ => xtb_in 345 (by decide +kernel) rfl
  | _ + 2, h => absurd h (by omega)
theorem xL_in9 : ∀ k, k < 3 → u_lay RX9 TX9 k ∈ xtb
  | 0, _ => xtb_in 247 (by decide +kernel) rfl
  | 1, _ => xtb_in 249 (by decide +kernel) rfl
  | 2, _ => xtb_in 251 (by decide +kernel) rfl
  | _ + 3, h => absurd h (by omega)
theorem xL_in10 : ∀ k, k < 2 → u_lay RX10 TX10 k ∈ xtb
  | 0, _ => xtb_in 363 (by decide +kernel) rfl
  | 1, _ => xtb_in 364 (by decide +kernel) rfl
  | _ + 2, h => absurd h (by omega)
theorem xL_in11 : ∀ k, k < 17 → u_lay RX11 TX11 k ∈ xtb
  | 0, _ => xtb_in 274 (by decide +kernel) rfl
  | 1, _ => xtb_in 276 (by decide +kernel) rfl
  | 2, _ => xtb_in 278 (by decide +kernel) rfl
  | 3, _ => xtb_in 280 (by decide +kernel) rfl
  | 4, _ => xtb_in 282 (by decide +kernel) rfl
  | 5, _ => xtb_in 284 (by decide +kernel) rfl
  | 6, _ => xtb_in 286 (by decide +kernel) rfl
  | 7, _ => xtb_in 288 (by decide +kernel) rfl
  | 8, _ => xtb_in 290 (by decide +kernel) rfl
  | 9, _ => xtb_in 292 (by decide +kernel) rfl
  | 10, _ => xtb_in 294 (by decide +kernel) rfl
  | 11, _ => xtb_in 296 (by decide +kernel) rfl
  | 12, _ => xtb_in 298 (by decide +kernel) rfl
  | 13, _ => xtb_in 300 (by decide +kernel) rfl
  | 14, _ => xtb_in 302 (by decide +kernel) rfl
  | 15, _ => xtb_in 304 (by decide +kernel) rfl
  | 16, _ => xtb_in 306 (by decide +kernel) rfl
  | _ + 17, h => absurd h (by omega)
theorem xL_in12 : ∀ k, k < 67 → u_lay RX12 TX12 k ∈ xtb
  | 0, _ => xtb_in 1144 (by decide +kernel) rfl
  | 1, _ => xtb_in 1146 (by decide +kernel) rfl
  | 2, _ => xtb_in 1148 (by decide +kernel) rfl
  | 3, _ => xtb_in 1150 (by decide +kernel) rfl
  | 4, _ => xtb_in 1152 (by decide +kernel) rfl
  | 5, _ => xtb_in 1154 (by decide +kernel) rfl
  | 6, _ => xtb_in 1156 (by decide +kernel) rfl
  | 7, _ => xtb_in 1158 (by decide +kernel) rfl
  | 8, _ => xtb_in 1160 (by decide +kernel) rfl
  | 9, _ => xtb_in 1162 (by decide +kernel) rfl
  | 10, _ => xtb_in 1164 (by decide +kernel) rfl
  | 11, _ => xtb_in 1166 (by decide +kernel) rfl
  | 12, _ => xtb_in 1168 (by decide +kernel) rfl
  | 13, _ => xtb_in 1170 (by decide +kernel) rfl
  | 14, _ => xtb_in 1172 (by decide +kernel) rfl
  | 15, _ => xtb_in 1174 (by decide +kernel) rfl
  | 16, _ => xtb_in 1176 (by decide +kernel) rfl
  | 17, _ => xtb_in 1178 (by decide +kernel) rfl
  | 18, _ => xtb_in 1180 (by decide +kernel) rfl
  | 19, _ => xtb_in 1182 (by decide +kernel) rfl
  | 20, _ => xtb_in 1184 (by decide +kernel) rfl
  | 21, _ => xtb_in 1186 (by decide +kernel) rfl
  | 22, _ => xtb_in 1188 (by decide +kernel) rfl
  | 23, _ => xtb_in 1190 (by decide +kernel) rfl
  | 24, _ => xtb_in 1192 (by decide +kernel) rfl
  | 25, _ => xtb_in 1194 (by decide +kernel) rfl
  | 26, _ => xtb_in 1196 (by decide +kernel) rfl
  | 27, _ => xtb_in 1198 (by decide +kernel) rfl
  | 28, _ => xtb_in 1200 (by decide +kernel) rfl
  | 29, _ => xtb_in 1202 (by decide +kernel) rfl
  | 30, _ => xtb_in 1204 (by decide +kernel) rfl
  | 31, _ => xtb_in 1206 (by decide +kernel) rfl
  | 32, _ => xtb_in 1208 (by decide +kernel) rfl
  | 33, _ => xtb_in 1210 (by decide +kernel) rfl
  | 34, _ => xtb_in 1212 (by decide +kernel) rfl
  | 35, _ => xtb_in 1214 (by decide +kernel) rfl
  | 36, _ => xtb_in 1216 (by decide +kernel) rfl
  | 37, _ => xtb_in 1218 (by decide +kernel) rfl
  | 38, _ => xtb_in 1220 (by decide +kernel) rfl
  | 39, _ => xtb_in 1222 (by decide +kernel) rfl
  | 40, _ => xtb_in 1224 (by decide +kernel) rfl
  | 41, _ => xtb_in 1226 (by decide +kernel) rfl
  | 42, _ => xtb_in 1228 (by decide +kernel) rfl
  | 43, _ => xtb_in 1230 (by decide +kernel) rfl
  | 44, _ => xtb_in 1232 (by decide +kernel) rfl
  | 45, _ => xtb_in 1234 (by decide +kernel) rfl
  | 46, _ => xtb_in 1236 (by decide +kernel) rfl
  | 47, _ => xtb_in 1238 (by decide +kernel) rfl
  | 48, _ => xtb_in 1240 (by decide +kernel) rfl
  | 49, _ => xtb_in 1242 (by decide +kernel) rfl
  | 50, _ => xtb_in 1244 (by decide +kernel) rfl
  | 51, _ => xtb_in 1246 (by decide +kernel) rfl
  | 52, _ => xtb_in 1248 (by decide +kernel) rfl
  | 53, _ => xtb_in 1250 (by decide +kernel) rfl
  | 54, _ => xtb_in 1252 (by decide +kernel) rfl
  | 55, _ => xtb_in 1254 (by decide +kernel) rfl
  | 56, _ => xtb_in 1256 (by decide +kernel) rfl
  | 57, _ => xtb_in 1258 (by decide +kernel) rfl
  | 58, _ => xtb_in 1260 (by decide +kernel) rfl
  | 59, _ => xtb_in 1262 (by decide +kernel) rfl
  | 60, _ => xtb_in 1264 (by decide +kernel) rfl
  | 61, _ => xtb_in 1266 (by decide +kernel) rfl
  | 62, _ => xtb_in 1268 (by decide +kernel) rfl
  | 63, _ => xtb_in 1270 (by decide +kernel) rfl
  | 64, _ => xtb_in 1272 (by decide +kernel) rfl
  | 65, _ => xtb_in 1274 (by decide +kernel) rfl
  | 66, _ => xtb_in 1276 (by decide +kernel) rfl
  | _ + 67, h => absurd h (by omega)
theorem xL_in : ∀ c, c < 13 → ∀ w ∈ u_ws (XR c) (XT c) (XN c), w ∈ xtb := by
  intro c hc w hw
  obtain ⟨k, hk, rfl⟩ := List.mem_map.mp hw
  have hk := List.mem_range.mp hk
  revert k
  revert hc
  match c with
  | 0 => exact fun _ k _ _ hk => xL_in0 k hk
  | 1 => exact fun _ k _ _ hk => xL_in1 k hk
  | 2 => exact fun _ k _ _ hk => xL_in2 k hk
  | 3 => exact fun _ k _ _ hk => xL_in3 k hk
  | 4 => exact fun _ k _ _ hk => xL_in4 k hk
  | 5 => exact fun _ k _ _ hk => xL_in5 k hk
  | 6 => exact fun _ k _ _ hk => xL_in6 k hk
  | 7 => exact fun _ k _ _ hk => xL_in7 k hk
  | 8 => exact fun _ k _ _ hk => xL_in8 k hk
  | 9 => exact fun _ k _ _ hk => xL_in9 k hk
  | 10 => exact fun _ k _ _ hk => xL_in10 k hk
  | 11 => exact fun _ k _ _ hk => xL_in11 k hk
  | 12 => exact fun _ k _ _ hk => xL_in12 k hk
  | _ + 13 => exact fun h => absurd h (by omega)
end
section
/-! the typed heap: shape XS (how many cells, kinds, lengths, references), data XD (ints, longs) -/
abbrev XD : Type := (Nat → Nat → Int32) × (Nat → Nat → Int64)
abbrev XS : Type := Nat × (Nat → Nat) × (Nat → Nat) × (Nat → Nat → Option Nat)
def sn (Z : XS) : Nat := Z.1
def sK (Z : XS) : Nat → Nat := Z.2.1
def sL (Z : XS) : Nat → Nat := Z.2.2.1
def sR (Z : XS) : Nat → Nat → Option Nat := Z.2.2.2
def up2 {α : Type} (f : Nat → Nat → α) (i k : Nat) (v : α) : Nat → Nat → α := fun b j => if b = i ∧ j = k then v else f b j
def wI (X : XD) (i k : Nat) (v : Int32) : XD := (up2 X.1 i k v, X.2)
def wJ (X : XD) (i k : Nat) (v : Int64) : XD := (X.1, up2 X.2 i k v)
/-- the run's own: tables, array classes, where the world begins, where the String constants lie -/
abbrev XE : Type := va_G × (Nat → ClassId) × Nat × ((Nat → Nat) × (Nat → Nat))
/-- a world: its addresses, and the cells beside it -/
abbrev XW : Type := (Nat → Nat) × va_W
def A0 (E : XE) : Nat → Prop := fun q => E.2.2.1 ≤ q
def fvT (w : XW) (Z : XS) (X : XD) (ty : FieldType) (i k : Nat) : Value := match ty with
  | .int => .int (X.1 i k)
  | .boolean => .int (X.1 i k)
  | .long => .long (X.2 i k)
  | _ => va_rf ((sR Z i k).map w.1)
def fsOf (w : XW) (Z : XS) (X : XD) (c i : Nat) : List Value := (List.range (XN c)).map (fun k => fvT w Z X (XY c k) i k)
def arOf (w : XW) (Z : XS) (X : XD) (d i : Nat) : vp_A := if d = 14 then (sL Z i, .inr (.inl (X.2 i))) else if d = 13 ∨ d = 15 then (sL Z i, .inl (X.1 i)) else (sL Z i, .inr (.inr (.inr (.inr (fun j => (sR Z i j).map w.1)))))
def ceOf (E : XE) (w : XW) (Z : XS) (X : XD) (i : Nat) : va_E := if sK Z i < 13 then .inr (sK Z i, fsOf w Z X (sK Z i) i) else .inl (E.2.1 (sK Z i), arOf w Z X (sK Z i) i)
def wsX (E : XE) (w : XW) (Z : XS) (X : XD) : va_W := (List.range (sn Z)).map (fun i => (w.1 i, ceOf E w Z X i))
def PH (E : XE) (w : XW) (z : Nat) (Z : XS) (X : XD) (H : Heap) : Prop := va_P E.1 xCl (wsX E w Z X ++ w.2) H ∧ va_D (A0 E) (wsX E w Z X ++ w.2) ∧ H.size = z
def xTy : Nat → FieldType := fun d => match d with
  | 13 => .int
  | 14 => .long
  | 15 => .boolean
  | 16 => .object "FootKeeper$Ground"
  | 17 => .object "FootKeeper$Shooter"
  | 18 => .object "FootKeeper$Table"
  | _ => .array .long
def xTys (E : XE) : List (ClassId × FieldType) := (List.range 20).map (fun d => if d < 13 then (E.2.1 13, xTy 13) else (E.2.1 d, xTy d))
theorem xTys_at {E : XE} {d : Nat} (h : 13 ≤ d) (h2 : d < 20) : (xTys E)[d]? = some (E.2.1 d, xTy d) := by
  simp [xTys, h2, Nat.not_lt.mpr h]
def xLen : List Nat := [2, 4, 4, 5, 4, 6, 3]
def xByt : List (List Int32) := [[105, 110], [115, 97, 118, 101], [108, 101, 102, 116], [114, 105, 103, 104, 116], [115, 116, 97, 121], [112, 107, 115, 110, 103, 97], [60, 61, 62]]
def xEnt : Nat → Nat := fun i => match i with
  | 0 => 87
  | 1 => 89
  | 2 => 91
  | 3 => 93
  | 4 => 95
  | 5 => 114
  | _ => 119
def xTx : Nat → String := fun i => match i with
  | 0 => "in"
  | 1 => "save"
  | 2 => "left"
  | 3 => "right"
  | 4 => "stay"
  | 5 => "pksnga"
  | _ => "<=>"
def isSh (c : Nat) : Prop := c = 0 ∨ c = 2 ∨ c = 4 ∨ c = 5 ∨ c = 7 ∨ c = 8 ∨ c = 10
/-- kinds under others (not themselves) -/
def subX (c d : Nat) : Bool := (d == 4 && c != 4) || (c == 0 && d == 8) || (c == 2 && d == 5) || (c == 7 && d == 10)
def ES (E : XE) (U : State) (H : Heap) : Prop := vk_S 7 xLen xByt E.2.2.2.1 E.2.2.2.2 (A0 E) U H ∧ va_Z "java/lang/String" "COMPACT_STRINGS" "Z" (.int 1) (A0 E) U H ∧ (∀ i : Nat, i < 7 → vk_R "FootKeeper$Ground" (xEnt i) (xTx i) (E.2.2.2.1 i) U) ∧ va_Zq "jdk/internal/util/Preconditions" "SIOOBE_FORMATTER" "Ljava/util/function/BiFunction;" (A0 E) U H ∧ (∀ c d : Nat, isSh c → isSh d → c ≠ d → if subX c d = true then va_Nw (.castable (XR c) (XR d)) U else va_Nc (XR c) (XR d) U)
def XPre (E : XE) (w : XW) (z : Nat) (Z : XS) (X : XD) (U : State) : Prop := PH E w z Z X U.heap ∧ va_K E.1 xCl (xTys E) U ∧ ES E U U.heap ∧ E.2.2.1 ≤ U.heap.size
def XQ (E : XE) (w : XW) (z : Nat) (Z : XS) (X : XD) (rv : Option Value) : Array Value → State → Outcome → State → Prop := fun _ st oc t => (oc = .returned rv ∧ PH E w z Z X t.heap) ∧ va_F (A0 E) st t
/-- a contract: from the world X to the world X', with the answer rv -/
def Ct (l : Launch) (E : XE) (w : XW) (y : MethodName) (ws : List Cond) (rm : Room) (mc ms : Nat) (av : List Value) (z z' : Nat) (Z Z' : XS) (X X' : XD) (rv : Option Value) : Prop :=
  Met l y ws rm (va_Pc av (XPre E w z Z X)) (XQ E w z' Z' X' rv) mc ms (A0 E)
def rmX (k mc ms : Nat) : Room := { frames := k, cells := mc, slots := ms, locals := 60 * k }
/-! the world as a list -/
theorem wsX_len (E : XE) (w : XW) (Z : XS) (X : XD) : (wsX E w Z X).length = sn Z := by simp [wsX]
theorem ws_get {E : XE} {w : XW} {Z : XS} {X : XD} {i : Nat} (h : i < sn Z) : (wsX E w Z X ++ w.2)[i]? = some (w.1 i, ceOf E w Z X i) := by
  rw [List.getElem?_append_left (by rw [wsX_len]; exact h)]
  simp [wsX, h]
theorem ws_set {E : XE} {w : XW} {Z Z' : XS} {X X' : XD} {i : Nat} {e : va_E} (h : i < sn Z) (hz : sn Z' = sn Z) (he : ceOf E w Z' X' i = e) (ho : ∀ j, j ≠ i → ceOf E w Z' X' j = ceOf E w Z X j) : (wsX E w Z X ++ w.2).set i (w.1 i, e) = wsX E w Z' X' ++ w.2 := by
  apply List.ext_getElem?
  intro j
  by_cases hj : j = i
  · subst hj
    rw [List.getElem?_set_self (by rw [List.length_append, wsX_len]; omega), ws_get (by rw [hz]; exact h), he]
  · rw [List.getElem?_set_ne (Ne.symm hj)]
    by_cases hl : j < sn Z
    · rw [ws_get hl, ws_get (by rw [hz]; exact hl), ho j hj]
    · rw [List.getElem?_append_right (by rw [wsX_len]; omega), List.getElem?_append_right (by rw [wsX_len, hz]; omega), wsX_len, wsX_len, hz]
theorem ce_o {E : XE} {w : XW} {Z : XS} {X : XD} {i c : Nat} (h : sK Z i = c) (hc : c < 13) : ceOf E w Z X i = .inr (c, fsOf w Z X c i) := by
  subst h
  exact if_pos hc
theorem ce_a {E : XE} {w : XW} {Z : XS} {X : XD} {i d : Nat} (h : sK Z i = d) (hd : 13 ≤ d) : ceOf E w Z X i = .inl (E.2.1 d, arOf w Z X d i) := by
  subst h
  exact if_neg (Nat.not_lt.mpr hd)
theorem fs_get {w : XW} {Z : XS} {X : XD} {c i k : Nat} (h : k < XN c) : (fsOf w Z X c i)[k]? = some (fvT w Z X (XY c k) i k) := by simp [fsOf, h]
theorem fs_len {w : XW} {Z : XS} {X : XD} {c i : Nat} : (fsOf w Z X c i).length = XN c := by simp [fsOf]
theorem fs_set {w : XW} {Z Z' : XS} {X X' : XD} {c i k : Nat} {v : Value} (hv : fvT w Z' X' (XY c k) i k = v) (ho : ∀ j, j ≠ k → fvT w Z' X' (XY c j) i j = fvT w Z X (XY c j) i j) : (fsOf w Z X c i).set k v = fsOf w Z' X' c i := by
  apply List.ext_getElem?
  intro j
  by_cases hk : j < XN c
  · by_cases hj : j = k
    · subst hj
      rw [List.getElem?_set_self (by rw [fs_len]; exact hk), fs_get hk, hv]
    · rw [List.getElem?_set_ne (Ne.symm hj), fs_get hk, fs_get hk, ho j hj]
  · rw [List.getElem?_eq_none (by rw [List.length_set, fs_len]; omega), List.getElem?_eq_none (by rw [fs_len]; omega)]
theorem up2_s {α : Type} {f : Nat → Nat → α} {i k : Nat} {v : α} : up2 f i k v i k = v := by simp [up2]
theorem up2_a {α : Type} {f : Nat → Nat → α} {i k j : Nat} {v : α} (b : Nat) (h : b ≠ i) : up2 f i k v b j = f b j := by simp [up2, h]
theorem up2_k {α : Type} {f : Nat → Nat → α} {i k j : Nat} {v : α} (b : Nat) (h : j ≠ k) : up2 f i k v b j = f b j := by simp [up2, h]
theorem up2_row {α : Type} {f : Nat → Nat → α} {i k : Nat} {v : α} {b : Nat} (h : b ≠ i) : up2 f i k v b = f b := by funext j; simp [up2, h]
theorem fv_wI {w : XW} {Z : XS} {X : XD} {i k : Nat} {v : Int32} {ty : FieldType} {b j : Nat} (h : ¬ (b = i ∧ j = k)) : fvT w Z (wI X i k v) ty b j = fvT w Z X ty b j := by
  unfold fvT wI up2
  cases ty <;> simp [h]
theorem ce_wI {E : XE} {w : XW} {Z : XS} {X : XD} {i k : Nat} {v : Int32} {j : Nat} (h : j ≠ i) : ceOf E w Z (wI X i k v) j = ceOf E w Z X j := by
  have h1 : fsOf w Z (wI X i k v) (sK Z j) j = fsOf w Z X (sK Z j) j := by
    unfold fsOf
    apply List.map_congr_left
    intro q _
    exact fv_wI (fun z => h z.1)
  have h2 : arOf w Z (wI X i k v) (sK Z j) j = arOf w Z X (sK Z j) j := by
    unfold arOf
    rw [show (wI X i k v).1 j = X.1 j from up2_row h, show (wI X i k v).2 = X.2 from rfl]
  unfold ceOf
  rw [h1, h2]
theorem ce_wJ {E : XE} {w : XW} {Z : XS} {X : XD} {i k : Nat} {v : Int64} {j : Nat} (h : j ≠ i) : ceOf E w Z (wJ X i k v) j = ceOf E w Z X j := by
  have h1 : fsOf w Z (wJ X i k v) (sK Z j) j = fsOf w Z X (sK Z j) j := by
    unfold fsOf
    apply List.map_congr_left
    intro q _
    unfold fvT wJ up2
    cases XY (sK Z j) q <;> simp [h]
  have h2 : arOf w Z (wJ X i k v) (sK Z j) j = arOf w Z X (sK Z j) j := by
    unfold arOf
    rw [show (wJ X i k v).2 j = X.2 j from up2_row h, show (wJ X i k v).1 = X.1 from rfl]
  unfold ceOf
  rw [h1, h2]
/-! what a reference is known to be -/
def KK (Z : XS) (i c : Nat) : Prop := i < sn Z ∧ sK Z i = c
def KA (Z : XS) (i c n : Nat) : Prop := i < sn Z ∧ sK Z i = c ∧ sL Z i = n
def KS (Z : XS) (i : Nat) : Prop := i < sn Z ∧ isSh (sK Z i)
/-! the programs' own words -/
def gin {α : Type} (i : Int32) (n : Nat) (x : Option α) : Option α := if i < 0 ∨ n ≤ i.toNatClampNeg then none else x
theorem gin_i {α : Type} {i : Int32} {n : Nat} {x : Option α} {y : α} (h : gin i n x = some y) : vp_in i n ∧ x = some y := by
  unfold gin at h
  split at h
  · cases h
  · exact ⟨by assumption, h⟩
def gnz {α : Type} (i : Int32) (x : Option α) : Option α := if i = 0 then none else x
theorem gnz_i {α : Type} {i : Int32} {x : Option α} {y : α} (h : gnz i x = some y) : ¬ i = 0 ∧ x = some y := by
  unfold gnz at h
  split at h
  · cases h
  · exact ⟨by assumption, h⟩
def gnzl {α : Type} (i : Int64) (x : Option α) : Option α := if i = 0 then none else x
theorem gnzl_i {α : Type} {i : Int64} {x : Option α} {y : α} (h : gnzl i x = some y) : ¬ i = 0 ∧ x = some y := by
  unfold gnzl at h
  split at h
  · cases h
  · exact ⟨by assumption, h⟩
def bnd {α β : Type} (x : Option α) (k : α → Option β) : Option β := match x with
  | none => none
  | some a => k a
theorem bnd_i {α β : Type} {x : Option α} {k : α → Option β} {y : β} (h : bnd x k = some y) : ∃ q, x = some q ∧ k q = some y := by
  cases x with
  | none => cases h
  | some q => exact ⟨q, rfl, h⟩
def bnw {α β : Type} (x : Option (α × XD)) (k : α → XD → Option β) : Option β := match x with
  | none => none
  | some q => k q.1 q.2
theorem bnw_i {α β : Type} {x : Option (α × XD)} {k : α → XD → Option β} {y : β} (h : bnw x k = some y) : ∃ q X, x = some (q, X) ∧ k q X = some y := by
  cases x with
  | none => cases h
  | some q => exact ⟨q.1, q.2, rfl, h⟩
def nm {α β : Type} (x : α) (k : α → β) : β := k x
theorem ite_t {α : Type} {c : Prop} {d : Decidable c} {x y : Option α} {z : α} (h : @ite _ c d x y = some z) (hc : c) : x = some z := by rw [if_pos hc] at h; exact h
theorem ite_f {α : Type} {c : Prop} {d : Decidable c} {x y : Option α} {z : α} (h : @ite _ c d x y = some z) (hc : ¬ c) : y = some z := by rw [if_neg hc] at h; exact h
/-! the judgement -/
def CX (p : Program) (s : State) (m : MethodId) (args : Array Value) (meth : Method) (c : Code) (E : XE) (cc : ByteArray) (nL : Nat) (own : String) : Prop :=
  p.tables.exec = Jvm.exec ∧ c.code = cc ∧ c.maxLocals = nL ∧ s.vm.findClass own = some m.cls ∧ (∀ w ∈ xtb, w.before args s = true) ∧ va_K E.1 xCl (xTys E) s ∧ meth.locks = false ∧ E.2.2.1 ≤ s.heap.size ∧ ES E s s.heap
def WW (p : Program) (l : Launch) (e : Env) (R : Room) (s : State) (m : MethodId) (args : Array Value) (below : List Frame) (meth : Method) (c : Code) (nL : Nat) (Q : State → Prop) (E : XE) (w : XW) (cells slots z : Nat) (Z : XS) (pc : Nat) (lv : List (Nat × Value)) (st : List Value) (X : XD) : Prop :=
  ∀ (H : Heap) (locs : List Loc) (ls : Array Slot), PH E w z Z X H → va_S (A0 E) s.heap H locs → lv_has ls nL lv → W p l e R s m args below meth c H locs cells slots Q (F0 m pc ls st)
section XR
variable {p : Program} {l : Launch} {e : Env} {R : Room} {s : State} {m : MethodId} {args : Array Value} {below : List Frame} {meth : Method} {c : Code} {nL : Nat} {Q : State → Prop} {E : XE} {w : XW} {cells slots z : Nat} {Z : XS} {pc : Nat} {lv : List (Nat × Value)} {rest : List Value} {X : XD} {cc : ByteArray} {own : String}

theorem ww_iconst (h : CX p s m args meth c E cc nL own) {n : Int} {v : Int32} (hd : decode cc pc = .ok (.iconst n, 1)) (hv : Int32.ofInt n = v) (k : WW p l e R s m args below meth c nL Q E w cells slots z Z (pc + 1) lv (.int v :: rest) X) : WW p l e R s m args below meth c nL Q E w cells slots z Z pc lv (rest) X := fun H locs ls hP hS hl => lv_iconst h.1 h.2.1 hd hv (k H locs ls hP hS hl)
theorem ww_bipush (h : CX p s m args meth c E cc nL own) {n : Int} {v : Int32} (hd : decode cc pc = .ok (.bipush n, 2)) (hv : (Int8.ofInt n).toInt32 = v) (k : WW p l e R s m args below meth c nL Q E w cells slots z Z (pc + 2) lv (.int v :: rest) X) : WW p l e R s m args below meth c nL Q E w cells slots z Z pc lv (rest) X := fun H locs ls hP hS hl => lv_bipush h.1 h.2.1 hd hv (k H locs ls hP hS hl)
theorem ww_sipush (h : CX p s m args meth c E cc nL own) {n : Int} {v : Int32} (hd : decode cc pc = .ok (.sipush n, 3)) (hv : (Int16.ofInt n).toInt32 = v) (k : WW p l e R s m args below meth c nL Q E w cells slots z Z (pc + 3) lv (.int v :: rest) X) : WW p l e R s m args below meth c nL Q E w cells slots z Z pc lv (rest) X := fun H locs ls hP hS hl => lv_sipush h.1 h.2.1 hd hv (k H locs ls hP hS hl)
theorem ww_lconst (h : CX p s m args meth c E cc nL own) {n : Fin 2} {v : Int64} (hd : decode cc pc = .ok (.lconst n, 1)) (hv : Int64.ofNat (n : Nat) = v) (k : WW p l e R s m args below meth c nL Q E w cells slots z Z (pc + 1) lv (.long v :: rest) X) : WW p l e R s m args below meth c nL Q E w cells slots z Z pc lv (rest) X := fun H locs ls hP hS hl => lv_lconst h.1 h.2.1 hd hv (k H locs ls hP hS hl)
theorem ww_null (h : CX p s m args meth c E cc nL own)  (hd : decode cc pc = .ok (.aconst_null, 1)) (k : WW p l e R s m args below meth c nL Q E w cells slots z Z (pc + 1) lv (.null :: rest) X) : WW p l e R s m args below meth c nL Q E w cells slots z Z pc lv (rest) X := fun H locs ls hP hS hl => lv_null h.1 h.2.1 hd (k H locs ls hP hS hl)
theorem ww_iload_n (h : CX p s m args meth c E cc nL own) {i : Fin 4} {x : Int32} (hd : decode cc pc = .ok (.iload_n i, 1)) (q : Nat) (hq : lv[q]? = some ((i : Nat), .int x)) (k : WW p l e R s m args below meth c nL Q E w cells slots z Z (pc + 1) lv (.int x :: rest) X) : WW p l e R s m args below meth c nL Q E w cells slots z Z pc lv (rest) X := fun H locs ls hP hS hl => lv_iload_n h.1 h.2.1 hd rfl (lv_at hl q hq) (k H locs ls hP hS hl)
theorem ww_iload (h : CX p s m args meth c E cc nL own) {i : Nat} {x : Int32} (hd : decode cc pc = .ok (.iload i, 2)) (q : Nat) (hq : lv[q]? = some (i, .int x)) (k : WW p l e R s m args below meth c nL Q E w cells slots z Z (pc + 2) lv (.int x :: rest) X) : WW p l e R s m args below meth c nL Q E w cells slots z Z pc lv (rest) X := fun H locs ls hP hS hl => lv_iload h.1 h.2.1 hd (lv_at hl q hq) (k H locs ls hP hS hl)
theorem ww_istore_n (h : CX p s m args meth c E cc nL own) {j : Fin 4} {i : Nat} {x : Int32} (lv' : List (Nat × Value)) (hd : decode cc pc = .ok (.istore_n j, 1)) (hj : (j : Nat) = i) (hn : i < nL) (hl0 : (i, Value.int x) :: lv.filter (fun q => !(q.1 == i) && !(q.1 + 1 == i && q.2.category == 2)) = lv') (k : WW p l e R s m args below meth c nL Q E w cells slots z Z (pc + 1) lv' rest X) : WW p l e R s m args below meth c nL Q E w cells slots z Z pc lv (.int x :: rest) X := fun H locs ls hP hS hl => lv_istore_n h.1 h.2.1 hd hj hl hn hl0 (fun ls2 hl2 => k H locs ls2 hP hS hl2)
theorem ww_istore (h : CX p s m args meth c E cc nL own) {i : Nat} {x : Int32} (lv' : List (Nat × Value)) (hd : decode cc pc = .ok (.istore i, 2))  (hn : i < nL) (hl0 : (i, Value.int x) :: lv.filter (fun q => !(q.1 == i) && !(q.1 + 1 == i && q.2.category == 2)) = lv') (k : WW p l e R s m args below meth c nL Q E w cells slots z Z (pc + 2) lv' rest X) : WW p l e R s m args below meth c nL Q E w cells slots z Z pc lv (.int x :: rest) X := fun H locs ls hP hS hl => lv_istore h.1 h.2.1 hd  hl hn hl0 (fun ls2 hl2 => k H locs ls2 hP hS hl2)
theorem ww_lload_n (h : CX p s m args meth c E cc nL own) {i : Fin 4} {x : Int64} (hd : decode cc pc = .ok (.lload_n i, 1)) (q : Nat) (hq : lv[q]? = some ((i : Nat), .long x)) (k : WW p l e R s m args below meth c nL Q E w cells slots z Z (pc + 1) lv (.long x :: rest) X) : WW p l e R s m args below meth c nL Q E w cells slots z Z pc lv (rest) X := fun H locs ls hP hS hl => lv_lload_n h.1 h.2.1 hd rfl (lv_at hl q hq) (k H locs ls hP hS hl)
theorem ww_lload (h : CX p s m args meth c E cc nL own) {i : Nat} {x : Int64} (hd : decode cc pc = .ok (.lload i, 2)) (q : Nat) (hq : lv[q]? = some (i, .long x)) (k : WW p l e R s m args below meth c nL Q E w cells slots z Z (pc + 2) lv (.long x :: rest) X) : WW p l e R s m args below meth c nL Q E w cells slots z Z pc lv (rest) X := fun H locs ls hP hS hl => lv_lload h.1 h.2.1 hd (lv_at hl q hq) (k H locs ls hP hS hl)
theorem ww_lstore_n (h : CX p s m args meth c E cc nL own) {j : Fin 4} {i : Nat} {x : Int64} (lv' : List (Nat × Value)) (hd : decode cc pc = .ok (.lstore_n j, 1)) (hj : (j : Nat) = i) (hn : i + 1 < nL) (hl0 : (i, Value.long x) :: lv.filter (fun q => !(q.1 == i) && (!(q.1 == i + 1) && !(q.1 + 1 == i && q.2.category == 2))) = lv') (k : WW p l e R s m args below meth c nL Q E w cells slots z Z (pc + 1) lv' rest X) : WW p l e R s m args below meth c nL Q E w cells slots z Z pc lv (.long x :: rest) X := fun H locs ls hP hS hl => lv_lstore_n h.1 h.2.1 hd hj hl hn hl0 (fun ls2 hl2 => k H locs ls2 hP hS hl2)
theorem ww_lstore (h : CX p s m args meth c E cc nL own) {i : Nat} {x : Int64} (lv' : List (Nat × Value)) (hd : decode cc pc = .ok (.lstore i, 2))  (hn : i + 1 < nL) (hl0 : (i, Value.long x) :: lv.filter (fun q => !(q.1 == i) && (!(q.1 == i + 1) && !(q.1 + 1 == i && q.2.category == 2))) = lv') (k : WW p l e R s m args below meth c nL Q E w cells slots z Z (pc + 2) lv' rest X) : WW p l e R s m args below meth c nL Q E w cells slots z Z pc lv (.long x :: rest) X := fun H locs ls hP hS hl => lv_lstore h.1 h.2.1 hd  hl hn hl0 (fun ls2 hl2 => k H locs ls2 hP hS hl2)
theorem ww_aload_n (h : CX p s m args meth c E cc nL own) {i : Fin 4} {x : Nat} (hd : decode cc pc = .ok (.aload_n i, 1)) (q : Nat) (hq : lv[q]? = some ((i : Nat), .ref x)) (k : WW p l e R s m args below meth c nL Q E w cells slots z Z (pc + 1) lv (.ref x :: rest) X) : WW p l e R s m args below meth c nL Q E w cells slots z Z pc lv (rest) X := fun H locs ls hP hS hl => lv_aload_n h.1 h.2.1 hd rfl (lv_at hl q hq) (k H locs ls hP hS hl)
theorem ww_aload (h : CX p s m args meth c E cc nL own) {i : Nat} {x : Nat} (hd : decode cc pc = .ok (.aload i, 2)) (q : Nat) (hq : lv[q]? = some (i, .ref x)) (k : WW p l e R s m args below meth c nL Q E w cells slots z Z (pc + 2) lv (.ref x :: rest) X) : WW p l e R s m args below meth c nL Q E w cells slots z Z pc lv (rest) X := fun H locs ls hP hS hl => lv_aload h.1 h.2.1 hd (lv_at hl q hq) (k H locs ls hP hS hl)
theorem ww_astore_n (h : CX p s m args meth c E cc nL own) {j : Fin 4} {i : Nat} {x : Nat} (lv' : List (Nat × Value)) (hd : decode cc pc = .ok (.astore_n j, 1)) (hj : (j : Nat) = i) (hn : i < nL) (hl0 : (i, Value.ref x) :: lv.filter (fun q => !(q.1 == i) && !(q.1 + 1 == i && q.2.category == 2)) = lv') (k : WW p l e R s m args below meth c nL Q E w cells slots z Z (pc + 1) lv' rest X) : WW p l e R s m args below meth c nL Q E w cells slots z Z pc lv (.ref x :: rest) X := fun H locs ls hP hS hl => lv_astore_n h.1 h.2.1 hd hj hl hn hl0 (fun ls2 hl2 => k H locs ls2 hP hS hl2)
theorem ww_astore (h : CX p s m args meth c E cc nL own) {i : Nat} {x : Nat} (lv' : List (Nat × Value)) (hd : decode cc pc = .ok (.astore i, 2))  (hn : i < nL) (hl0 : (i, Value.ref x) :: lv.filter (fun q => !(q.1 == i) && !(q.1 + 1 == i && q.2.category == 2)) = lv') (k : WW p l e R s m args below meth c nL Q E w cells slots z Z (pc + 2) lv' rest X) : WW p l e R s m args below meth c nL Q E w cells slots z Z pc lv (.ref x :: rest) X := fun H locs ls hP hS hl => lv_astore h.1 h.2.1 hd  hl hn hl0 (fun ls2 hl2 => k H locs ls2 hP hS hl2)
theorem ww_iinc (h : CX p s m args meth c E cc nL own) {i : Nat} {n : Int} {x : Int32} (v : Int32) (lv' : List (Nat × Value)) (hd : decode cc pc = .ok (.iinc i n, 3)) (q : Nat) (hq : lv[q]? = some (i, .int x)) (hv : x + Int32.ofInt n = v) (hn : i < nL) (hl0 : (i, Value.int v) :: lv.filter (fun q => !(q.1 == i) && !(q.1 + 1 == i && q.2.category == 2)) = lv') (k : WW p l e R s m args below meth c nL Q E w cells slots z Z (pc + 3) lv' rest X) : WW p l e R s m args below meth c nL Q E w cells slots z Z pc lv rest X := fun H locs ls hP hS hl => lv_iinc h.1 h.2.1 hd hl hq hv hn hl0 (fun ls2 hl2 => k H locs ls2 hP hS hl2)
theorem ww_iadd (h : CX p s m args meth c E cc nL own) {x y : Int32} (hd : decode cc pc = .ok (.iadd, 1)) (k : WW p l e R s m args below meth c nL Q E w cells slots z Z (pc + 1) lv (.int (x + y) :: rest) X) : WW p l e R s m args below meth c nL Q E w cells slots z Z pc lv (.int y :: .int x :: rest) X := fun H locs ls hP hS hl => lv_iadd h.1 h.2.1 hd (k H locs ls hP hS hl)
theorem ww_isub (h : CX p s m args meth c E cc nL own) {x y : Int32} (hd : decode cc pc = .ok (.isub, 1)) (k : WW p l e R s m args below meth c nL Q E w cells slots z Z (pc + 1) lv (.int (x - y) :: rest) X) : WW p l e R s m args below meth c nL Q E w cells slots z Z pc lv (.int y :: .int x :: rest) X := fun H locs ls hP hS hl => lv_isub h.1 h.2.1 hd (k H locs ls hP hS hl)
theorem ww_imul (h : CX p s m args meth c E cc nL own) {x y : Int32} (hd : decode cc pc = .ok (.imul, 1)) (k : WW p l e R s m args below meth c nL Q E w cells slots z Z (pc + 1) lv (.int (x * y) :: rest) X) : WW p l e R s m args below meth c nL Q E w cells slots z Z pc lv (.int y :: .int x :: rest) X := fun H locs ls hP hS hl => lv_imul h.1 h.2.1 hd (k H locs ls hP hS hl)
theorem ww_iand (h : CX p s m args meth c E cc nL own) {x y : Int32} (hd : decode cc pc = .ok (.iand, 1)) (k : WW p l e R s m args below meth c nL Q E w cells slots z Z (pc + 1) lv (.int (x &&& y) :: rest) X) : WW p l e R s m args below meth c nL Q E w cells slots z Z pc lv (.int y :: .int x :: rest) X := fun H locs ls hP hS hl => lv_iand h.1 h.2.1 hd (k H locs ls hP hS hl)
theorem ww_ior (h : CX p s m args meth c E cc nL own) {x y : Int32} (hd : decode cc pc = .ok (.ior, 1)) (k : WW p l e R s m args below meth c nL Q E w cells slots z Z (pc + 1) lv (.int (x ||| y) :: rest) X) : WW p l e R s m args below meth c nL Q E w cells slots z Z pc lv (.int y :: .int x :: rest) X := fun H locs ls hP hS hl => lv_ior h.1 h.2.1 hd (k H locs ls hP hS hl)
theorem ww_ixor (h : CX p s m args meth c E cc nL own) {x y : Int32} (hd : decode cc pc = .ok (.ixor, 1)) (k : WW p l e R s m args below meth c nL Q E w cells slots z Z (pc + 1) lv (.int (x ^^^ y) :: rest) X) : WW p l e R s m args below meth c nL Q E w cells slots z Z pc lv (.int y :: .int x :: rest) X := fun H locs ls hP hS hl => lv_ixor h.1 h.2.1 hd (k H locs ls hP hS hl)
theorem ww_ishl (h : CX p s m args meth c E cc nL own) {x y : Int32} (hd : decode cc pc = .ok (.ishl, 1)) (k : WW p l e R s m args below meth c nL Q E w cells slots z Z (pc + 1) lv (.int (x <<< (y &&& 31)) :: rest) X) : WW p l e R s m args below meth c nL Q E w cells slots z Z pc lv (.int y :: .int x :: rest) X := fun H locs ls hP hS hl => lv_ishl h.1 h.2.1 hd (k H locs ls hP hS hl)
theorem ww_ishr (h : CX p s m args meth c E cc nL own) {x y : Int32} (hd : decode cc pc = .ok (.ishr, 1)) (k : WW p l e R s m args below meth c nL Q E w cells slots z Z (pc + 1) lv (.int (x >>> (y &&& 31)) :: rest) X) : WW p l e R s m args below meth c nL Q E w cells slots z Z pc lv (.int y :: .int x :: rest) X := fun H locs ls hP hS hl => lv_ishr h.1 h.2.1 hd (k H locs ls hP hS hl)
theorem ww_idiv (h : CX p s m args meth c E cc nL own) {x y : Int32} (hd : decode cc pc = .ok (.idiv, 1)) (hz : ¬ y = 0) (k : WW p l e R s m args below meth c nL Q E w cells slots z Z (pc + 1) lv (.int (x / y) :: rest) X) : WW p l e R s m args below meth c nL Q E w cells slots z Z pc lv (.int y :: .int x :: rest) X := fun H locs ls hP hS hl => lv_idiv h.1 h.2.1 hd hz (k H locs ls hP hS hl)
theorem ww_irem (h : CX p s m args meth c E cc nL own) {x y : Int32} (hd : decode cc pc = .ok (.irem, 1)) (hz : ¬ y = 0) (k : WW p l e R s m args below meth c nL Q E w cells slots z Z (pc + 1) lv (.int (x - x / y * y) :: rest) X) : WW p l e R s m args below meth c nL Q E w cells slots z Z pc lv (.int y :: .int x :: rest) X := fun H locs ls hP hS hl => lv_irem h.1 h.2.1 hd hz (k H locs ls hP hS hl)
theorem ww_ineg (h : CX p s m args meth c E cc nL own) {x : Int32} (hd : decode cc pc = .ok (.ineg, 1)) (k : WW p l e R s m args below meth c nL Q E w cells slots z Z (pc + 1) lv (.int (-x) :: rest) X) : WW p l e R s m args below meth c nL Q E w cells slots z Z pc lv (.int x :: rest) X := fun H locs ls hP hS hl => lv_ineg h.1 h.2.1 hd (k H locs ls hP hS hl)
theorem ww_ladd (h : CX p s m args meth c E cc nL own) {x y : Int64} (hd : decode cc pc = .ok (.ladd, 1)) (k : WW p l e R s m args below meth c nL Q E w cells slots z Z (pc + 1) lv (.long (x + y) :: rest) X) : WW p l e R s m args below meth c nL Q E w cells slots z Z pc lv (.long y :: .long x :: rest) X := fun H locs ls hP hS hl => lv_ladd h.1 h.2.1 hd (k H locs ls hP hS hl)
theorem ww_lsub (h : CX p s m args meth c E cc nL own) {x y : Int64} (hd : decode cc pc = .ok (.lsub, 1)) (k : WW p l e R s m args below meth c nL Q E w cells slots z Z (pc + 1) lv (.long (x - y) :: rest) X) : WW p l e R s m args below meth c nL Q E w cells slots z Z pc lv (.long y :: .long x :: rest) X := fun H locs ls hP hS hl => lv_lsub h.1 h.2.1 hd (k H locs ls hP hS hl)
theorem ww_lmul (h : CX p s m args meth c E cc nL own) {x y : Int64} (hd : decode cc pc = .ok (.lmul, 1)) (k : WW p l e R s m args below meth c nL Q E w cells slots z Z (pc + 1) lv (.long (x * y) :: rest) X) : WW p l e R s m args below meth c nL Q E w cells slots z Z pc lv (.long y :: .long x :: rest) X := fun H locs ls hP hS hl => lv_lmul h.1 h.2.1 hd (k H locs ls hP hS hl)
theorem ww_land (h : CX p s m args meth c E cc nL own) {x y : Int64} (hd : decode cc pc = .ok (.land, 1)) (k : WW p l e R s m args below meth c nL Q E w cells slots z Z (pc + 1) lv (.long (x &&& y) :: rest) X) : WW p l e R s m args below meth c nL Q E w cells slots z Z pc lv (.long y :: .long x :: rest) X := fun H locs ls hP hS hl => lv_land h.1 h.2.1 hd (k H locs ls hP hS hl)
theorem ww_lor (h : CX p s m args meth c E cc nL own) {x y : Int64} (hd : decode cc pc = .ok (.lor, 1)) (k : WW p l e R s m args below meth c nL Q E w cells slots z Z (pc + 1) lv (.long (x ||| y) :: rest) X) : WW p l e R s m args below meth c nL Q E w cells slots z Z pc lv (.long y :: .long x :: rest) X := fun H locs ls hP hS hl => lv_lor h.1 h.2.1 hd (k H locs ls hP hS hl)
theorem ww_lxor (h : CX p s m args meth c E cc nL own) {x y : Int64} (hd : decode cc pc = .ok (.lxor, 1)) (k : WW p l e R s m args below meth c nL Q E w cells slots z Z (pc + 1) lv (.long (x ^^^ y) :: rest) X) : WW p l e R s m args below meth c nL Q E w cells slots z Z pc lv (.long y :: .long x :: rest) X := fun H locs ls hP hS hl => lv_lxor h.1 h.2.1 hd (k H locs ls hP hS hl)
theorem ww_ldiv (h : CX p s m args meth c E cc nL own) {x y : Int64} (hd : decode cc pc = .ok (.ldiv, 1)) (hz : ¬ y = 0) (k : WW p l e R s m args below meth c nL Q E w cells slots z Z (pc + 1) lv (.long (x / y) :: rest) X) : WW p l e R s m args below meth c nL Q E w cells slots z Z pc lv (.long y :: .long x :: rest) X := fun H locs ls hP hS hl => lv_ldiv h.1 h.2.1 hd hz (k H locs ls hP hS hl)
theorem ww_lrem (h : CX p s m args meth c E cc nL own) {x y : Int64} (hd : decode cc pc = .ok (.lrem, 1)) (hz : ¬ y = 0) (k : WW p l e R s m args below meth c nL Q E w cells slots z Z (pc + 1) lv (.long (x - x / y * y) :: rest) X) : WW p l e R s m args below meth c nL Q E w cells slots z Z pc lv (.long y :: .long x :: rest) X := fun H locs ls hP hS hl => lv_lrem h.1 h.2.1 hd hz (k H locs ls hP hS hl)
theorem ww_i2l (h : CX p s m args meth c E cc nL own) {x : Int32} (hd : decode cc pc = .ok (.i2l, 1)) (k : WW p l e R s m args below meth c nL Q E w cells slots z Z (pc + 1) lv (.long x.toInt64 :: rest) X) : WW p l e R s m args below meth c nL Q E w cells slots z Z pc lv (.int x :: rest) X := fun H locs ls hP hS hl => lv_i2l h.1 h.2.1 hd rfl (k H locs ls hP hS hl)
theorem ww_l2i (h : CX p s m args meth c E cc nL own) {x : Int64} (hd : decode cc pc = .ok (.l2i, 1)) (k : WW p l e R s m args below meth c nL Q E w cells slots z Z (pc + 1) lv (.int x.toInt32 :: rest) X) : WW p l e R s m args below meth c nL Q E w cells slots z Z pc lv (.long x :: rest) X := fun H locs ls hP hS hl => lv_l2i h.1 h.2.1 hd rfl (k H locs ls hP hS hl)
theorem ww_i2b (h : CX p s m args meth c E cc nL own) {x : Int32} (hd : decode cc pc = .ok (.i2b, 1)) (k : WW p l e R s m args below meth c nL Q E w cells slots z Z (pc + 1) lv (.int x.toInt8.toInt32 :: rest) X) : WW p l e R s m args below meth c nL Q E w cells slots z Z pc lv (.int x :: rest) X := fun H locs ls hP hS hl => lv_i2b h.1 h.2.1 hd rfl (k H locs ls hP hS hl)
theorem ww_i2s (h : CX p s m args meth c E cc nL own) {x : Int32} (hd : decode cc pc = .ok (.i2s, 1)) (k : WW p l e R s m args below meth c nL Q E w cells slots z Z (pc + 1) lv (.int x.toInt16.toInt32 :: rest) X) : WW p l e R s m args below meth c nL Q E w cells slots z Z pc lv (.int x :: rest) X := fun H locs ls hP hS hl => lv_i2s h.1 h.2.1 hd rfl (k H locs ls hP hS hl)
theorem ww_i2c (h : CX p s m args meth c E cc nL own) {x : Int32} (hd : decode cc pc = .ok (.i2c, 1)) (k : WW p l e R s m args below meth c nL Q E w cells slots z Z (pc + 1) lv (.int (x.toUInt32 % 65536).toInt32 :: rest) X) : WW p l e R s m args below meth c nL Q E w cells slots z Z pc lv (.int x :: rest) X := fun H locs ls hP hS hl => lv_i2c h.1 h.2.1 hd rfl (k H locs ls hP hS hl)
theorem ww_lushr (h : CX p s m args meth c E cc nL own) {x : Int64} {y : Int32} (hd : decode cc pc = .ok (.lushr, 1)) (k : WW p l e R s m args below meth c nL Q E w cells slots z Z (pc + 1) lv (.long ((x.toUInt64 >>> (y.toInt64.toUInt64 &&& Int64.toUInt64 63)).toInt64) :: rest) X) : WW p l e R s m args below meth c nL Q E w cells slots z Z pc lv (.int y :: .long x :: rest) X := fun H locs ls hP hS hl => lv_lushr h.1 h.2.1 hd rfl (k H locs ls hP hS hl)
theorem ww_lshl (h : CX p s m args meth c E cc nL own) {x : Int64} {y : Int32} (hd : decode cc pc = .ok (.lshl, 1)) (k : WW p l e R s m args below meth c nL Q E w cells slots z Z (pc + 1) lv (.long (x <<< (y.toInt64 &&& 63)) :: rest) X) : WW p l e R s m args below meth c nL Q E w cells slots z Z pc lv (.int y :: .long x :: rest) X := fun H locs ls hP hS hl => lv_lshl h.1 h.2.1 hd rfl (k H locs ls hP hS hl)
theorem ww_lcmp (h : CX p s m args meth c E cc nL own) {x y : Int64} (hd : decode cc pc = .ok (.lcmp, 1)) (k : WW p l e R s m args below meth c nL Q E w cells slots z Z (pc + 1) lv (.int (lg_cmp x y) :: rest) X) : WW p l e R s m args below meth c nL Q E w cells slots z Z pc lv (.long y :: .long x :: rest) X := fun H locs ls hP hS hl => W.lcmp h.1 h.2.1 hd (k H locs ls hP hS hl)
theorem ww_dup (h : CX p s m args meth c E cc nL own) {va : Value} (hd : decode cc pc = .ok (.dup, 1)) (hv : va.category = 1) (k : WW p l e R s m args below meth c nL Q E w cells slots z Z (pc + 1) lv (va :: va :: rest) X) : WW p l e R s m args below meth c nL Q E w cells slots z Z pc lv (va :: rest) X := fun H locs ls hP hS hl => lv_dup h.1 h.2.1 hd hv (k H locs ls hP hS hl)
theorem ww_pop (h : CX p s m args meth c E cc nL own) {va : Value} (hd : decode cc pc = .ok (.pop, 1)) (hv : va.category = 1) (k : WW p l e R s m args below meth c nL Q E w cells slots z Z (pc + 1) lv (rest) X) : WW p l e R s m args below meth c nL Q E w cells slots z Z pc lv (va :: rest) X := fun H locs ls hP hS hl => lv_pop h.1 h.2.1 hd hv (k H locs ls hP hS hl)
theorem ww_pop2 (h : CX p s m args meth c E cc nL own) {va : Value} (hd : decode cc pc = .ok (.pop2, 1)) (hv : va.category = 2) (k : WW p l e R s m args below meth c nL Q E w cells slots z Z (pc + 1) lv (rest) X) : WW p l e R s m args below meth c nL Q E w cells slots z Z pc lv (va :: rest) X := fun H locs ls hP hS hl => lv_pop2_2 h.1 h.2.1 hd hv (k H locs ls hP hS hl)
theorem ww_dup_x1 (h : CX p s m args meth c E cc nL own) {va vb : Value} (hd : decode cc pc = .ok (.dup_x1, 1)) (hv : va.category = 1) (hw : vb.category = 1) (k : WW p l e R s m args below meth c nL Q E w cells slots z Z (pc + 1) lv (va :: vb :: va :: rest) X) : WW p l e R s m args below meth c nL Q E w cells slots z Z pc lv (va :: vb :: rest) X := fun H locs ls hP hS hl => lv_dup_x1 h.1 h.2.1 hd hv hw (k H locs ls hP hS hl)
theorem ww_dup_x2 (h : CX p s m args meth c E cc nL own) {va vb vd : Value} (hd : decode cc pc = .ok (.dup_x2, 1)) (hv : va.category = 1) (hw : vb.category = 1) (hx : vd.category = 1) (k : WW p l e R s m args below meth c nL Q E w cells slots z Z (pc + 1) lv (va :: vb :: vd :: va :: rest) X) : WW p l e R s m args below meth c nL Q E w cells slots z Z pc lv (va :: vb :: vd :: rest) X := fun H locs ls hP hS hl => lv_dup_x2 h.1 h.2.1 hd hv hw hx (k H locs ls hP hS hl)
theorem ww_dup2_11 (h : CX p s m args meth c E cc nL own) {va vb : Value} (hd : decode cc pc = .ok (.dup2, 1)) (hv : va.category = 1) (hw : vb.category = 1) (k : WW p l e R s m args below meth c nL Q E w cells slots z Z (pc + 1) lv (va :: vb :: va :: vb :: rest) X) : WW p l e R s m args below meth c nL Q E w cells slots z Z pc lv (va :: vb :: rest) X := fun H locs ls hP hS hl => lv_dup2_11 h.1 h.2.1 hd hv hw (k H locs ls hP hS hl)
theorem ww_ldc (h : CX p s m args meth c E cc nL own) {i : Nat} {v : Int32} (hd : decode cc pc = .ok (.ldc i, 2)) (hw : Cond.constant own i v ∈ xtb) (k : WW p l e R s m args below meth c nL Q E w cells slots z Z (pc + 2) lv (.int v :: rest) X) : WW p l e R s m args below meth c nL Q E w cells slots z Z pc lv (rest) X := fun H locs ls hP hS hl => lv_ldc h.1 h.2.1 h.2.2.2.1 (h.2.2.2.2.1 _ hw) hd (k H locs ls hP hS hl)
theorem ww_ldc2 (h : CX p s m args meth c E cc nL own) {i : Nat} {v : Int64} (hd : decode cc pc = .ok (.ldc2_w i, 3)) (hw : Cond.constantLong own i v ∈ xtb) (k : WW p l e R s m args below meth c nL Q E w cells slots z Z (pc + 3) lv (.long v :: rest) X) : WW p l e R s m args below meth c nL Q E w cells slots z Z pc lv (rest) X := fun H locs ls hP hS hl => lv_ldc2 h.1 h.2.1 h.2.2.2.1 (h.2.2.2.2.1 _ hw) hd (k H locs ls hP hS hl)
theorem ww_if_eq (h : CX p s m args meth c E cc nL own) {x : Int32} {off : Int} {d : Decidable (x = 0)} {α : Type} {f1 f2 : Option α} {r : α} (hf : @ite _ (x = 0) d f1 f2 = some r) (tgt : Nat) (hd : decode cc pc = .ok (.ifCond .eq off, 3)) (ht : (pc : Int) + off = (tgt : Int)) (kt : f1 = some r → WW p l e R s m args below meth c nL Q E w cells slots z Z tgt lv rest X) (kf : f2 = some r → WW p l e R s m args below meth c nL Q E w cells slots z Z (pc + 3) lv rest X) : WW p l e R s m args below meth c nL Q E w cells slots z Z pc lv (.int x :: rest) X := fun H locs ls hP hS hl => lv_if_eq h.1 h.2.1 hd ht (fun q => kt (ite_t hf q) H locs ls hP hS hl) (fun q => kf (ite_f hf q) H locs ls hP hS hl)
theorem ww_icmp_eq (h : CX p s m args meth c E cc nL own) {x y : Int32} {off : Int} {d : Decidable (x = y)} {α : Type} {f1 f2 : Option α} {r : α} (hf : @ite _ (x = y) d f1 f2 = some r) (tgt : Nat) (hd : decode cc pc = .ok (.if_icmp .eq off, 3)) (ht : (pc : Int) + off = (tgt : Int)) (kt : f1 = some r → WW p l e R s m args below meth c nL Q E w cells slots z Z tgt lv rest X) (kf : f2 = some r → WW p l e R s m args below meth c nL Q E w cells slots z Z (pc + 3) lv rest X) : WW p l e R s m args below meth c nL Q E w cells slots z Z pc lv (.int y :: .int x :: rest) X := fun H locs ls hP hS hl => lv_icmp_eq h.1 h.2.1 hd ht (fun q => kt (ite_t hf q) H locs ls hP hS hl) (fun q => kf (ite_f hf q) H locs ls hP hS hl)
theorem ww_if_ne (h : CX p s m args meth c E cc nL own) {x : Int32} {off : Int} {d : Decidable (x = 0)} {α : Type} {f1 f2 : Option α} {r : α} (hf : @ite _ (x = 0) d f2 f1 = some r) (tgt : Nat) (hd : decode cc pc = .ok (.ifCond .ne off, 3)) (ht : (pc : Int) + off = (tgt : Int)) (kt : f1 = some r → WW p l e R s m args below meth c nL Q E w cells slots z Z tgt lv rest X) (kf : f2 = some r → WW p l e R s m args below meth c nL Q E w cells slots z Z (pc + 3) lv rest X) : WW p l e R s m args below meth c nL Q E w cells slots z Z pc lv (.int x :: rest) X := fun H locs ls hP hS hl => lv_if_ne h.1 h.2.1 hd ht (fun q => kt (ite_f hf q) H locs ls hP hS hl) (fun q => kf (ite_t hf q) H locs ls hP hS hl)
theorem ww_icmp_ne (h : CX p s m args meth c E cc nL own) {x y : Int32} {off : Int} {d : Decidable (x = y)} {α : Type} {f1 f2 : Option α} {r : α} (hf : @ite _ (x = y) d f2 f1 = some r) (tgt : Nat) (hd : decode cc pc = .ok (.if_icmp .ne off, 3)) (ht : (pc : Int) + off = (tgt : Int)) (kt : f1 = some r → WW p l e R s m args below meth c nL Q E w cells slots z Z tgt lv rest X) (kf : f2 = some r → WW p l e R s m args below meth c nL Q E w cells slots z Z (pc + 3) lv rest X) : WW p l e R s m args below meth c nL Q E w cells slots z Z pc lv (.int y :: .int x :: rest) X := fun H locs ls hP hS hl => lv_icmp_ne h.1 h.2.1 hd ht (fun q => kt (ite_f hf q) H locs ls hP hS hl) (fun q => kf (ite_t hf q) H locs ls hP hS hl)
theorem ww_if_lt (h : CX p s m args meth c E cc nL own) {x : Int32} {off : Int} {d : Decidable (x < 0)} {α : Type} {f1 f2 : Option α} {r : α} (hf : @ite _ (x < 0) d f1 f2 = some r) (tgt : Nat) (hd : decode cc pc = .ok (.ifCond .lt off, 3)) (ht : (pc : Int) + off = (tgt : Int)) (kt : f1 = some r → WW p l e R s m args below meth c nL Q E w cells slots z Z tgt lv rest X) (kf : f2 = some r → WW p l e R s m args below meth c nL Q E w cells slots z Z (pc + 3) lv rest X) : WW p l e R s m args below meth c nL Q E w cells slots z Z pc lv (.int x :: rest) X := fun H locs ls hP hS hl => lv_if_lt h.1 h.2.1 hd ht (fun q => kt (ite_t hf q) H locs ls hP hS hl) (fun q => kf (ite_f hf q) H locs ls hP hS hl)
theorem ww_icmp_lt (h : CX p s m args meth c E cc nL own) {x y : Int32} {off : Int} {d : Decidable (x < y)} {α : Type} {f1 f2 : Option α} {r : α} (hf : @ite _ (x < y) d f1 f2 = some r) (tgt : Nat) (hd : decode cc pc = .ok (.if_icmp .lt off, 3)) (ht : (pc : Int) + off = (tgt : Int)) (kt : f1 = some r → WW p l e R s m args below meth c nL Q E w cells slots z Z tgt lv rest X) (kf : f2 = some r → WW p l e R s m args below meth c nL Q E w cells slots z Z (pc + 3) lv rest X) : WW p l e R s m args below meth c nL Q E w cells slots z Z pc lv (.int y :: .int x :: rest) X := fun H locs ls hP hS hl => lv_icmp_lt h.1 h.2.1 hd ht (fun q => kt (ite_t hf q) H locs ls hP hS hl) (fun q => kf (ite_f hf q) H locs ls hP hS hl)
theorem ww_if_ge (h : CX p s m args meth c E cc nL own) {x : Int32} {off : Int} {d : Decidable (0 ≤ x)} {α : Type} {f1 f2 : Option α} {r : α} (hf : @ite _ (0 ≤ x) d f1 f2 = some r) (tgt : Nat) (hd : decode cc pc = .ok (.ifCond .ge off, 3)) (ht : (pc : Int) + off = (tgt : Int)) (kt : f1 = some r → WW p l e R s m args below meth c nL Q E w cells slots z Z tgt lv rest X) (kf : f2 = some r → WW p l e R s m args below meth c nL Q E w cells slots z Z (pc + 3) lv rest X) : WW p l e R s m args below meth c nL Q E w cells slots z Z pc lv (.int x :: rest) X := fun H locs ls hP hS hl => lv_if_ge h.1 h.2.1 hd ht (fun q => kt (ite_t hf q) H locs ls hP hS hl) (fun q => kf (ite_f hf q) H locs ls hP hS hl)
theorem ww_icmp_ge (h : CX p s m args meth c E cc nL own) {x y : Int32} {off : Int} {d : Decidable (y ≤ x)} {α : Type} {f1 f2 : Option α} {r : α} (hf : @ite _ (y ≤ x) d f1 f2 = some r) (tgt : Nat) (hd : decode cc pc = .ok (.if_icmp .ge off, 3)) (ht : (pc : Int) + off = (tgt : Int)) (kt : f1 = some r → WW p l e R s m args below meth c nL Q E w cells slots z Z tgt lv rest X) (kf : f2 = some r → WW p l e R s m args below meth c nL Q E w cells slots z Z (pc + 3) lv rest X) : WW p l e R s m args below meth c nL Q E w cells slots z Z pc lv (.int y :: .int x :: rest) X := fun H locs ls hP hS hl => lv_icmp_ge h.1 h.2.1 hd ht (fun q => kt (ite_t hf q) H locs ls hP hS hl) (fun q => kf (ite_f hf q) H locs ls hP hS hl)
theorem ww_if_gt (h : CX p s m args meth c E cc nL own) {x : Int32} {off : Int} {d : Decidable (0 < x)} {α : Type} {f1 f2 : Option α} {r : α} (hf : @ite _ (0 < x) d f1 f2 = some r) (tgt : Nat) (hd : decode cc pc = .ok (.ifCond .gt off, 3)) (ht : (pc : Int) + off = (tgt : Int)) (kt : f1 = some r → WW p l e R s m args below meth c nL Q E w cells slots z Z tgt lv rest X) (kf : f2 = some r → WW p l e R s m args below meth c nL Q E w cells slots z Z (pc + 3) lv rest X) : WW p l e R s m args below meth c nL Q E w cells slots z Z pc lv (.int x :: rest) X := fun H locs ls hP hS hl => lv_if_gt h.1 h.2.1 hd ht (fun q => kt (ite_t hf q) H locs ls hP hS hl) (fun q => kf (ite_f hf q) H locs ls hP hS hl)
theorem ww_icmp_gt (h : CX p s m args meth c E cc nL own) {x y : Int32} {off : Int} {d : Decidable (y < x)} {α : Type} {f1 f2 : Option α} {r : α} (hf : @ite _ (y < x) d f1 f2 = some r) (tgt : Nat) (hd : decode cc pc = .ok (.if_icmp .gt off, 3)) (ht : (pc : Int) + off = (tgt : Int)) (kt : f1 = some r → WW p l e R s m args below meth c nL Q E w cells slots z Z tgt lv rest X) (kf : f2 = some r → WW p l e R s m args below meth c nL Q E w cells slots z Z (pc + 3) lv rest X) : WW p l e R s m args below meth c nL Q E w cells slots z Z pc lv (.int y :: .int x :: rest) X := fun H locs ls hP hS hl => lv_icmp_gt h.1 h.2.1 hd ht (fun q => kt (ite_t hf q) H locs ls hP hS hl) (fun q => kf (ite_f hf q) H locs ls hP hS hl)
theorem ww_if_le (h : CX p s m args meth c E cc nL own) {x : Int32} {off : Int} {d : Decidable (x ≤ 0)} {α : Type} {f1 f2 : Option α} {r : α} (hf : @ite _ (x ≤ 0) d f1 f2 = some r) (tgt : Nat) (hd : decode cc pc = .ok (.ifCond .le off, 3)) (ht : (pc : Int) + off = (tgt : Int)) (kt : f1 = some r → WW p l e R s m args below meth c nL Q E w cells slots z Z tgt lv rest X) (kf : f2 = some r → WW p l e R s m args below meth c nL Q E w cells slots z Z (pc + 3) lv rest X) : WW p l e R s m args below meth c nL Q E w cells slots z Z pc lv (.int x :: rest) X := fun H locs ls hP hS hl => lv_if_le h.1 h.2.1 hd ht (fun q => kt (ite_t hf q) H locs ls hP hS hl) (fun q => kf (ite_f hf q) H locs ls hP hS hl)
theorem ww_icmp_le (h : CX p s m args meth c E cc nL own) {x y : Int32} {off : Int} {d : Decidable (x ≤ y)} {α : Type} {f1 f2 : Option α} {r : α} (hf : @ite _ (x ≤ y) d f1 f2 = some r) (tgt : Nat) (hd : decode cc pc = .ok (.if_icmp .le off, 3)) (ht : (pc : Int) + off = (tgt : Int)) (kt : f1 = some r → WW p l e R s m args below meth c nL Q E w cells slots z Z tgt lv rest X) (kf : f2 = some r → WW p l e R s m args below meth c nL Q E w cells slots z Z (pc + 3) lv rest X) : WW p l e R s m args below meth c nL Q E w cells slots z Z pc lv (.int y :: .int x :: rest) X := fun H locs ls hP hS hl => lv_icmp_le h.1 h.2.1 hd ht (fun q => kt (ite_t hf q) H locs ls hP hS hl) (fun q => kf (ite_f hf q) H locs ls hP hS hl)
theorem ww_goto (h : CX p s m args meth c E cc nL own) {off : Int} (tgt : Nat) (hd : decode cc pc = .ok (.goto off, 3)) (ht : (pc : Int) + off = (tgt : Int)) (k : WW p l e R s m args below meth c nL Q E w cells slots z Z tgt lv rest X) : WW p l e R s m args below meth c nL Q E w cells slots z Z pc lv rest X := fun H locs ls hP hS hl => lv_goto h.1 h.2.1 hd ht (k H locs ls hP hS hl)
theorem ww_ifnull (h : CX p s m args meth c E cc nL own) {x : Nat} {off : Int} (hd : decode cc pc = .ok (.ifnull off, 3)) (k : WW p l e R s m args below meth c nL Q E w cells slots z Z (pc + 3) lv (rest) X) : WW p l e R s m args below meth c nL Q E w cells slots z Z pc lv (.ref x :: rest) X := fun H locs ls hP hS hl => lv_ifnull h.1 h.2.1 hd (k H locs ls hP hS hl)
theorem ww_ifnonnullN (h : CX p s m args meth c E cc nL own) {off : Int} (hd : decode cc pc = .ok (.ifnonnull off, 3)) (k : WW p l e R s m args below meth c nL Q E w cells slots z Z (pc + 3) lv (rest) X) : WW p l e R s m args below meth c nL Q E w cells slots z Z pc lv (.null :: rest) X := fun H locs ls hP hS hl => lv_ifnonnullN h.1 h.2.1 hd (k H locs ls hP hS hl)
theorem ww_ifnonnull (h : CX p s m args meth c E cc nL own) {x : Nat} {off : Int} (tgt : Nat) (hd : decode cc pc = .ok (.ifnonnull off, 3)) (ht : (pc : Int) + off = (tgt : Int)) (k : WW p l e R s m args below meth c nL Q E w cells slots z Z tgt lv rest X) : WW p l e R s m args below meth c nL Q E w cells slots z Z pc lv (.ref x :: rest) X := fun H locs ls hP hS hl => lv_ifnonnull h.1 h.2.1 hd ht (k H locs ls hP hS hl)
theorem ww_ifnullN (h : CX p s m args meth c E cc nL own) {off : Int} (tgt : Nat) (hd : decode cc pc = .ok (.ifnull off, 3)) (ht : (pc : Int) + off = (tgt : Int)) (k : WW p l e R s m args below meth c nL Q E w cells slots z Z tgt lv rest X) : WW p l e R s m args below meth c nL Q E w cells slots z Z pc lv (.null :: rest) X := fun H locs ls hP hS hl => lv_ifnullN h.1 h.2.1 hd ht (k H locs ls hP hS hl)
theorem ww_tableOut (h : CX p s m args meth c E cc nL own) {dflt lo hi : Int} {offs : Array Int} {len : Nat} {x : Int32} (tgt : Nat) (hd : decode cc pc = .ok (.tableswitch dflt lo hi offs, len)) (hx : x.toInt < lo ∨ hi < x.toInt) (ht : (pc : Int) + dflt = (tgt : Int)) (k : WW p l e R s m args below meth c nL Q E w cells slots z Z tgt lv rest X) : WW p l e R s m args below meth c nL Q E w cells slots z Z pc lv (.int x :: rest) X := fun H locs ls hP hS hl => lv_tableOut h.1 h.2.1 hd hx ht (k H locs ls hP hS hl)
theorem ww_tableIn (h : CX p s m args meth c E cc nL own) {dflt lo hi : Int} {offs : Array Int} {len : Nat} {x : Int32} {off : Int} (tgt : Nat) (hd : decode cc pc = .ok (.tableswitch dflt lo hi offs, len)) (v : Int32) (hx : x = v) (h1 : ¬ v.toInt < lo) (h2 : ¬ hi < v.toInt) (ho : offs[(v.toInt - lo).toNat]? = some off) (ht : (pc : Int) + off = (tgt : Int)) (k : WW p l e R s m args below meth c nL Q E w cells slots z Z tgt lv rest X) : WW p l e R s m args below meth c nL Q E w cells slots z Z pc lv (.int x :: rest) X := by
  subst hx
  exact fun H locs ls hP hS hl => lv_tableIn h.1 h.2.1 hd h1 h2 ho ht (k H locs ls hP hS hl)
theorem ww_lookup (h : CX p s m args meth c E cc nL own) {dflt : Int} {ps : Array (Int × Int)} {len : Nat} {x : Int32} {off : Int} (tgt : Nat) (hd : decode cc pc = .ok (.lookupswitch dflt ps, len)) (hp : (ps.toList.zip (ps.toList.drop 1)).all (fun (a, next) => a.1 < next.1) = true) (ho : Op.lookupswitch.offset ps.toList dflt x.toInt = off) (ht : (pc : Int) + off = (tgt : Int)) (k : WW p l e R s m args below meth c nL Q E w cells slots z Z tgt lv rest X) : WW p l e R s m args below meth c nL Q E w cells slots z Z pc lv (.int x :: rest) X := fun H locs ls hP hS hl => lv_lookup h.1 h.2.1 hd hp ho ht (k H locs ls hP hS hl)
/-- a value's name -/
theorem ww_nmi {x y : Int32} (e2 : x = y) (k : WW p l e R s m args below meth c nL Q E w cells slots z Z pc lv (.int x :: rest) X) : WW p l e R s m args below meth c nL Q E w cells slots z Z pc lv (.int y :: rest) X := e2 ▸ k
theorem ww_nml {x y : Int64} (e2 : x = y) (k : WW p l e R s m args below meth c nL Q E w cells slots z Z pc lv (.long x :: rest) X) : WW p l e R s m args below meth c nL Q E w cells slots z Z pc lv (.long y :: rest) X := e2 ▸ k
/-- fewer locals -/
theorem ww_sub {lv' : List (Nat × Value)} (ks : List Nat) (hk : lv_pick lv ks = lv') (k : WW p l e R s m args below meth c nL Q E w cells slots z Z pc lv' rest X) : WW p l e R s m args below meth c nL Q E w cells slots z Z pc lv rest X := fun H locs ls hP hS hl => k H locs ls hP hS (lv_sub hl ks hk)
theorem ww_widen {k n : Nat} (h1 : cells ≤ k) (h2 : slots ≤ n) (kk : WW p l e R s m args below meth c nL Q E w k n z Z pc lv rest X) : WW p l e R s m args below meth c nL Q E w cells slots z Z pc lv rest X := fun H locs ls hP hS hl => W.widen h1 h2 (kk H locs ls hP hS hl)
end XR
end
section
/-! rows of heap instructions, returns, entries, calls -/
theorem ES.at {E : XE} {s U : State} {H : Heap} {locs : List Loc} (h : ES E s s.heap) (hS : va_S (A0 E) s.heap H locs) (hW : s.WarmedH U.vm) : ES E U H := by
  obtain ⟨h1, h2, h3, h4, h5⟩ := h
  refine ⟨vk_S.moved hW.alike (h1.kept hS.2.1), va_Z.moved hW.alike (h2.kept hS.2.1), fun i hi => vk_R.warm hW (h3 i hi), va_Zq.moved hW.alike (h4.kept hS.2.1), fun c d hc hd hn => ?_⟩
  have q := h5 c d hc hd hn
  split at q
  · rename_i e
    rw [if_pos e]
    exact va_Nw.warmC hW q
  · rename_i e
    rw [if_neg e]
    exact va_Nc.moved hW.alike q
theorem ES.same {E : XE} {u U : State} {H : Heap} (hv : U.vm = u.vm) (h : ES E u H) : ES E U H := by
  obtain ⟨h1, h2, h3, h4, h5⟩ := h
  have ha : u.vm.Alike U.vm := by rw [hv]; exact Vm.Alike.refl _
  refine ⟨vk_S.moved ha h1, va_Z.moved ha h2, fun i hi => vk_R.same hv (h3 i hi), va_Zq.moved ha h4, fun c d hc hd hn => ?_⟩
  have q := h5 c d hc hd hn
  split at q
  · rename_i e
    rw [if_pos e]
    exact va_Nw.same rfl hv.symm q
  · rename_i e
    rw [if_neg e]
    exact va_Nc.moved ha q
theorem XPre.blind {E : XE} {w : XW} {z : Nat} {Z : XS} {X : XD} {av : List Value} : FrameBlind (va_Pc av (XPre E w z Z X)) := fun a U g mk q => by
  obtain ⟨q1, q2, q3, q4, q5⟩ := q
  exact ⟨q1, q2, va_K.moved (u := U) (U := U.calling g mk a) (Vm.Alike.refl U.vm) q3, ES.same (u := U) (U := U.calling g mk a) rfl q4, q5⟩
section XH
variable {p : Program} {l : Launch} {e : Env} {R : Room} {s : State} {m : MethodId} {args : Array Value} {below : List Frame} {meth : Method} {c : Code} {nL : Nat} {Q : State → Prop} {E : XE} {w : XW} {cells slots z : Nat} {Z : XS} {pc : Nat} {lv : List (Nat × Value)} {rest : List Value} {X : XD} {cc : ByteArray} {own : String}
theorem XPre.of (h : CX p s m args meth c E cc nL own) {H : Heap} {locs : List Loc} (hP : PH E w z Z X H) (hS : va_S (A0 E) s.heap H locs) {U : State} (hU : U.heap = H) (hW : s.WarmedH U.vm) : XPre E w z Z X U := by
  subst hU
  exact ⟨hP, va_K.moved hW.alike h.2.2.2.2.2.1, h.2.2.2.2.2.2.2.2.at hS hW, Nat.le_trans h.2.2.2.2.2.2.2.1 hS.1⟩
theorem ww_getI (h : CX p s m args meth c E cc nL own) {i idx : Nat} (ci k : Nat) (hk : KK Z i ci) (ref : String) (hc : ci < 13) (hN : k < XN ci) (hty : fvT w Z X (XY ci k) i k = .int (X.1 i k)) (hw : Cond.fieldLink own idx ref (XT ci k).2.1 (XT ci k).2.2.1 ∈ xtb) (hs : ref = (XT ci k).1 ∨ Cond.sameField ref (XT ci k).1 (XT ci k).2.1 (XT ci k).2.2.1 ∈ xtb) (hd : decode cc pc = .ok (.getfield idx, 3))
    (kk : WW p l e R s m args below meth c nL Q E w cells slots z Z (pc + 3) lv (.int (X.1 i k) :: rest) X) : WW p l e R s m args below meth c nL Q E w cells slots z Z pc lv (.ref (w.1 i) :: rest) X := fun H locs ls hP hS hl =>
  va_get (D := E.1) (ci := ci) (C := XR ci) (T := XT ci) (N := XN ci) (v := .int (X.1 i k)) h.1 h.2.1 h.2.2.2.2.1 (xL_in ci hc) h.2.2.2.1 h.2.2.2.2.2.1 hP.1 i ((ws_get hk.1).trans (by rw [ce_o hk.2 hc])) (xCl_at ci hc) k hN (h.2.2.2.2.1 _ hw) (by
    rcases hs with rfl | hs
    · exact fun _ q => q
    · exact fun x q => u_same (h.2.2.2.2.1 _ hs) x q) (by rw [fs_get hN, hty]) hd (kk H locs ls hP hS hl)
theorem ww_getR (h : CX p s m args meth c E cc nL own) {i idx : Nat} (ci k t : Nat) (hk : KK Z i ci) (ref : String) (hc : ci < 13) (hN : k < XN ci) (hty : fvT w Z X (XY ci k) i k = va_rf ((sR Z i k).map w.1)) (hR : sR Z i k = some t) (hw : Cond.fieldLink own idx ref (XT ci k).2.1 (XT ci k).2.2.1 ∈ xtb) (hs : ref = (XT ci k).1) (hd : decode cc pc = .ok (.getfield idx, 3))
    (kk : WW p l e R s m args below meth c nL Q E w cells slots z Z (pc + 3) lv (.ref (w.1 t) :: rest) X) : WW p l e R s m args below meth c nL Q E w cells slots z Z pc lv (.ref (w.1 i) :: rest) X := fun H locs ls hP hS hl =>
  va_get (D := E.1) (ci := ci) (C := XR ci) (T := XT ci) (N := XN ci) (v := .ref (w.1 t)) h.1 h.2.1 h.2.2.2.2.1 (xL_in ci hc) h.2.2.2.1 h.2.2.2.2.2.1 hP.1 i ((ws_get hk.1).trans (by rw [ce_o hk.2 hc])) (xCl_at ci hc) k hN (h.2.2.2.2.1 _ hw) (by subst hs; exact fun _ q => q) (by rw [fs_get hN, hty, hR]; rfl) hd (kk H locs ls hP hS hl)
theorem PH.in {H : Heap} (hP : PH E w z Z X H) {i : Nat} (hi : i < sn Z) : A0 E (w.1 i) := hP.2.1.2 i _ (ws_get hi)
/-- what a store leaves -/
theorem PH.put {E : XE} {w : XW} {z : Nat} {Z Z' : XS} {X X' : XD} {H H1 : Heap} {i : Nat} (hP : PH E w z Z X H) (hi : i < sn Z) (hz : sn Z' = sn Z) (he : va_at E.1 xCl (w.1 i, ceOf E w Z' X' i) H1) (ho : ∀ j, j ≠ i → ceOf E w Z' X' j = ceOf E w Z X j) (z1 : H1.size = H.size) (oq : ∀ q : Nat, q ≠ w.1 i → H1[q]? = H[q]?) : PH E w z Z' X' H1 := by
  have e := ws_set (E := E) (w := w) (X := X) (X' := X') hi hz rfl ho
  refine ⟨?_, ?_, z1.trans hP.2.2⟩
  · have q := hP.1.set hP.2.1 (ws_get hi) he oq
    rw [e] at q
    exact q
  · have q := hP.2.1.set (e := ceOf E w Z' X' i) (ws_get hi)
    rw [e] at q
    exact q
theorem ww_putI (h : CX p s m args meth c E cc nL own) {i idx : Nat} {v : Int32} (ci k : Nat) (hk : KK Z i ci) (ref : String) (hc : ci < 13) (hN : k < XN ci) (hty : fvT w Z (wI X i k v) (XY ci k) i k = .int ((wI X i k v).1 i k)) (hw : Cond.fieldLink own idx ref (XT ci k).2.1 (XT ci k).2.2.1 ∈ xtb) (hs : ref = (XT ci k).1) (hfin : (XT ci k).2.2.2 = false) (hn : narrow (XY ci k) (.int v) = .int v) (hfit : fits (XY ci k) (.int v) = true) (hd : decode cc pc = .ok (.putfield idx, 3))
    (kk : WW p l e R s m args below meth c nL Q E w cells slots z Z (pc + 3) lv rest (wI X i k v)) : WW p l e R s m args below meth c nL Q E w cells slots z Z pc lv (.int v :: .ref (w.1 i) :: rest) X := by
  intro H locs ls hP hS hl
  have hap := va_apart (own := own) (D := E.1) h.2.2.2.2.1 (xL_in ci hc) (XY ci) (xY_ok ci hc) (xM_ok ci hc) h.2.2.2.2.2.1 (xCl_at ci hc)
  have he := hP.1 i _ ((ws_get hk.1).trans (by rw [ce_o hk.2 hc]))
  obtain ⟨r, h1, cell, q1, q2, q3, q4⟩ := he
  have hr : r = (XR ci, XT ci, XN ci) := Option.some.inj (h1.symm.trans (xCl_at ci hc))
  subst hr
  obtain ⟨hS1, hfc, kC, hkC, hkind⟩ := h.2.2.2.2.2.1.1 ci _ (xCl_at ci hc)
  obtain ⟨cf, kf, fi, f, hi, hsl⟩ := hS1 k hN
  have hlay := h.2.2.2.2.1 _ (xL_in ci hc _ (u_in_lay hN))
  unfold u_lay at hlay
  rw [if_neg (by rw [hfin]; decide)] at hlay
  have hst := (u_facts hfc hkC (u_lays h.2.2.2.2.1 (xL_in ci hc) hN) hi).1
  have h6 := u_store hfc hkC hkind hlay hi (xY_ok ci hc k hN) hn hfit
  refine W.putK h.1 h.2.1 (f := f) ⟨h.2.2.2.1, h.2.2.2.2.1 _ hw, ⟨_, _, _, by rw [hs]; exact hi⟩, hst⟩ (by rw [q2]; exact h6) q1 q3 (by rw [hsl]; exact k2_hasslot (q4 k hN)) rfl rfl hd fun H' e1 e2 e3 => ?_
  rw [hsl] at e1 ⊢
  refine kk H' _ ls (hP.put (Z' := Z) (X' := wI X i k v) hk.1 rfl ?_ (fun j hj => ce_wI hj) e2 e3) (hS.put e2 e3 (PH.in hP hk.1)) hl
  rw [ce_o hk.2 hc, ← fs_set (w := w) (Z := Z) (Z' := Z) (X := X) (X' := wI X i k v) (c := ci) (i := i) (k := k) (v := .int v) (by rw [hty]; exact congrArg Value.int up2_s) (fun j hj => fv_wI (fun q => hj q.2))]
  exact ⟨_, xCl_at ci hc, t_OB.to (V := updV (vp_V (fsOf w Z X ci i)) k (.int v)) ⟨_, e1, q2, q3, t_set q4 hap hN (.int v)⟩ (fun j _ => vp_updV_set (by rw [fs_len]; exact hN) (.int v) j)⟩
/-- a fresh object's fields in its constructor -/
theorem ww_putF (h : CX p s m args meth c E cc nL own) {i idx : Nat} {v : Int32} (ci k : Nat) (hk : KK Z i ci) (ref : String) (hc : ci < 13) (hN : k < XN ci) (hty : fvT w Z (wI X i k v) (XY ci k) i k = .int ((wI X i k v).1 i k)) (hw : Cond.fieldLink own idx ref (XT ci k).2.1 (XT ci k).2.2.1 ∈ xtb) (hs : ref = (XT ci k).1) (hin : meth.name = "<init>") (hdecl : (XT ci k).1 = own) (hfin : (XT ci k).2.2.2 = true) (hn : narrow (XY ci k) (.int v) = .int v) (hfit : fits (XY ci k) (.int v) = true) (hd : decode cc pc = .ok (.putfield idx, 3))
    (kk : WW p l e R s m args below meth c nL Q E w cells slots z Z (pc + 3) lv rest (wI X i k v)) : WW p l e R s m args below meth c nL Q E w cells slots z Z pc lv (.int v :: .ref (w.1 i) :: rest) X := by
  intro H locs ls hP hS hl
  have hap := va_apart (own := own) (D := E.1) h.2.2.2.2.1 (xL_in ci hc) (XY ci) (xY_ok ci hc) (xM_ok ci hc) h.2.2.2.2.2.1 (xCl_at ci hc)
  have he := hP.1 i _ ((ws_get hk.1).trans (by rw [ce_o hk.2 hc]))
  obtain ⟨r, h1, cell, q1, q2, q3, q4⟩ := he
  have hr : r = (XR ci, XT ci, XN ci) := Option.some.inj (h1.symm.trans (xCl_at ci hc))
  subst hr
  obtain ⟨hS1, hfc, kC, hkC, hkind⟩ := h.2.2.2.2.2.1.1 ci _ (xCl_at ci hc)
  obtain ⟨cf, kf, fi, f, hi, hsl⟩ := hS1 k hN
  have hlay := h.2.2.2.2.1 _ (xL_in ci hc _ (u_in_lay hN))
  unfold u_lay at hlay
  rw [if_pos hfin] at hlay
  have hst := (u_facts hfc hkC (u_lays h.2.2.2.2.1 (xL_in ci hc) hN) hi).1
  have hcf : m.cls = cf := by
    obtain ⟨_, _, c', _, _, _, -, -, hf', -, -, -, hown2, -⟩ := Cond.laysFinal_spec hlay
    have e1 : c' = cf := by have := hi.symm.trans hf'; simp at this; exact this.1.symm
    rw [hdecl] at hown2
    rw [← e1]; exact Option.some.inj (h.2.2.2.1.symm.trans hown2)
  have h6 := u_fits hfc hkC hkind (Or.inr hlay) hi (xY_ok ci hc k hN) hn hfit
  refine W.putFinK h.1 h.2.1 h.2.2.2.1 (h.2.2.2.2.1 _ hw) (by rw [hs]; exact hi) hst hcf hin (by rw [q2]; exact h6) q1 q3 (by rw [hsl]; exact k2_hasslot (q4 k hN)) rfl rfl hd fun H' e1 e2 e3 => ?_
  rw [hsl] at e1 ⊢
  refine kk H' _ ls (hP.put (Z' := Z) (X' := wI X i k v) hk.1 rfl ?_ (fun j hj => ce_wI hj) e2 e3) (hS.put e2 e3 (PH.in hP hk.1)) hl
  rw [ce_o hk.2 hc, ← fs_set (w := w) (Z := Z) (Z' := Z) (X := X) (X' := wI X i k v) (c := ci) (i := i) (k := k) (v := .int v) (by rw [hty]; exact congrArg Value.int up2_s) (fun j hj => fv_wI (fun q => hj q.2))]
  exact ⟨_, xCl_at ci hc, t_OB.to (V := updV (vp_V (fsOf w Z X ci i)) k (.int v)) ⟨_, e1, q2, q3, t_set q4 hap hN (.int v)⟩ (fun j _ => vp_updV_set (by rw [fs_len]; exact hN) (.int v) j)⟩
/-! arrays -/
theorem ar_i {d : Nat} (i : Nat) (h : d = 13 ∨ d = 15) : arOf w Z X d i = (sL Z i, .inl (X.1 i)) := by
  rcases h with rfl | rfl <;> rfl
theorem ar_l (i : Nat) : arOf w Z X 14 i = (sL Z i, .inr (.inl (X.2 i))) := rfl
theorem ws_i (E : XE) {i d : Nat} (hk : i < sn Z ∧ sK Z i = d) (h : d = 13 ∨ d = 15) : (wsX E w Z X ++ w.2)[i]? = some (w.1 i, .inl (E.2.1 d, sL Z i, .inl (X.1 i))) := (ws_get hk.1).trans (by rw [ce_a hk.2 (by omega), ar_i i h])
theorem ws_l (E : XE) {i : Nat} (hk : i < sn Z ∧ sK Z i = 14) : (wsX E w Z X ++ w.2)[i]? = some (w.1 i, .inl (E.2.1 14, sL Z i, .inr (.inl (X.2 i)))) := (ws_get hk.1).trans (by rw [ce_a hk.2 (by omega)]; rfl)
theorem ws_q (E : XE) {i d : Nat} (hk : i < sn Z ∧ sK Z i = d) (h : 16 ≤ d) : (wsX E w Z X ++ w.2)[i]? = some (w.1 i, .inl (E.2.1 d, sL Z i, .inr (.inr (.inr (.inr (fun j => (sR Z i j).map w.1)))))) := (ws_get hk.1).trans (by rw [ce_a hk.2 (by omega)]; unfold arOf; rw [if_neg (by omega), if_neg (by omega)])
theorem ww_iald (h : CX p s m args meth c E cc nL own) {i n : Nat} {j : Int32} {α : Type} {f : Option α} {r : α} (hk : KA Z i 13 n) (hf : gin j n f = some r) (hd : decode cc pc = .ok (.iaload, 1))
    (kk : f = some r → WW p l e R s m args below meth c nL Q E w cells slots z Z (pc + 1) lv (.int (X.1 i j.toNatClampNeg) :: rest) X) : WW p l e R s m args below meth c nL Q E w cells slots z Z pc lv (.int j :: .ref (w.1 i) :: rest) X := fun H locs ls hP hS hl =>
  va_iald h.1 h.2.1 h.2.2.2.2.2.1 hP.1 i 13 (ws_i E ⟨hk.1, hk.2.1⟩ (Or.inl rfl)) (xTys_at (by decide) (by decide)) (by rw [hk.2.2]; exact (gin_i hf).1) hd (kk (gin_i hf).2 H locs ls hP hS hl)
theorem ww_lald (h : CX p s m args meth c E cc nL own) {i n : Nat} {j : Int32} {α : Type} {f : Option α} {r : α} (hk : KA Z i 14 n) (hf : gin j n f = some r) (hd : decode cc pc = .ok (.laload, 1))
    (kk : f = some r → WW p l e R s m args below meth c nL Q E w cells slots z Z (pc + 1) lv (.long (X.2 i j.toNatClampNeg) :: rest) X) : WW p l e R s m args below meth c nL Q E w cells slots z Z pc lv (.int j :: .ref (w.1 i) :: rest) X := fun H locs ls hP hS hl =>
  va_lald h.1 h.2.1 h.2.2.2.2.2.1 hP.1 i 14 (ws_l E ⟨hk.1, hk.2.1⟩) (xTys_at (by decide) (by decide)) (by rw [hk.2.2]; exact (gin_i hf).1) hd (kk (gin_i hf).2 H locs ls hP hS hl)
theorem ww_zald (h : CX p s m args meth c E cc nL own) {i n : Nat} {j : Int32} {α : Type} {f : Option α} {r : α} (hk : KA Z i 15 n) (hf : gin j n f = some r) (hd : decode cc pc = .ok (.baload, 1))
    (kk : f = some r → WW p l e R s m args below meth c nL Q E w cells slots z Z (pc + 1) lv (.int (X.1 i j.toNatClampNeg) :: rest) X) : WW p l e R s m args below meth c nL Q E w cells slots z Z pc lv (.int j :: .ref (w.1 i) :: rest) X := fun H locs ls hP hS hl =>
  va_zald h.1 h.2.1 h.2.2.2.2.2.1 hP.1 i 15 (ws_i E ⟨hk.1, hk.2.1⟩ (Or.inr rfl)) (xTys_at (by decide) (by decide)) (by rw [hk.2.2]; exact (gin_i hf).1) hd (kk (gin_i hf).2 H locs ls hP hS hl)
theorem arr_wI {i k d : Nat} {v : Int32} (hd : d = 13 ∨ d = 15) : (arrV (E.2.1 d) (sL Z i) (fun j => .int (X.1 i j))).setSlot k (.int v) = vp_cell (E.2.1 d) (arOf w Z (wI X i k v) d i) := by
  rw [ar_i i hd, vp_cell_i, arrV_store]
  congr 2
  funext q
  by_cases hq : q = k
  · subst hq
    simp [updV, wI, up2]
  · simp [updV, wI, up2, hq]
theorem ww_iast (h : CX p s m args meth c E cc nL own) {i n : Nat} {j v : Int32} {α : Type} {f : Option α} {r : α} (hk : KA Z i 13 n) (hf : gin j n f = some r) (hd : decode cc pc = .ok (.iastore, 1))
    (kk : f = some r → WW p l e R s m args below meth c nL Q E w cells slots z Z (pc + 1) lv rest (wI X i j.toNatClampNeg v)) : WW p l e R s m args below meth c nL Q E w cells slots z Z pc lv (.int v :: .int j :: .ref (w.1 i) :: rest) X := by
  intro H locs ls hP hS hl
  have hin := (gin_i hf).1
  refine W.iast h.1 h.2.1 (hP.1 i _ (ws_i E ⟨hk.1, hk.2.1⟩ (Or.inl rfl))) ((h.2.2.2.2.2.1.2 13 _ (xTys_at (by decide) (by decide))).1 (sL Z i) (fun j => .int (X.1 i j))) (fun q => by cases q) (by show ¬ (j < 0 ∨ (arrV _ _ _).slots.size ≤ _); rw [arrV_size, hk.2.2]; exact hin) rfl rfl hd fun H1 e1 e2 e3 => ?_
  refine kk (gin_i hf).2 H1 _ ls (hP.put (Z' := Z) (X' := wI X i j.toNatClampNeg v) hk.1 rfl ?_ (fun j hj => ce_wI hj) e2 e3) (hS.put e2 e3 (PH.in hP hk.1)) hl
  rw [ce_a hk.2.1 (by decide)]
  exact e1.trans (congrArg some (arr_wI (w := w) (Or.inl rfl)))
theorem ww_zast (h : CX p s m args meth c E cc nL own) {i n : Nat} {j v : Int32} {α : Type} {f : Option α} {r : α} (hk : KA Z i 15 n) (hv : v = 0 ∨ v = 1) (hf : gin j n f = some r) (hd : decode cc pc = .ok (.bastore, 1))
    (kk : f = some r → WW p l e R s m args below meth c nL Q E w cells slots z Z (pc + 1) lv rest (wI X i j.toNatClampNeg v)) : WW p l e R s m args below meth c nL Q E w cells slots z Z pc lv (.int v :: .int j :: .ref (w.1 i) :: rest) X := by
  intro H locs ls hP hS hl
  have hin := (gin_i hf).1
  refine W.zast h.1 h.2.1 (hP.1 i _ (ws_i E ⟨hk.1, hk.2.1⟩ (Or.inr rfl))) ((h.2.2.2.2.2.1.2 15 _ (xTys_at (by decide) (by decide))).1 (sL Z i) (fun j => .int (X.1 i j))) (fun q => by cases q) (by show ¬ (j < 0 ∨ (arrV _ _ _).slots.size ≤ _); rw [arrV_size, hk.2.2]; exact hin) rfl rfl hd fun H1 e1 e2 e3 => ?_
  have e1 : H1[w.1 i]? = some ((arrV (E.2.1 15) (sL Z i) (fun j => .int (X.1 i j))).setSlot j.toNatClampNeg (.int v)) := e1.trans (by rcases hv with rfl | rfl <;> rfl)
  refine kk (gin_i hf).2 H1 _ ls (hP.put (Z' := Z) (X' := wI X i j.toNatClampNeg v) hk.1 rfl ?_ (fun j hj => ce_wI hj) e2 e3) (hS.put e2 e3 (PH.in hP hk.1)) hl
  rw [ce_a hk.2.1 (by decide)]
  exact e1.trans (congrArg some (arr_wI (w := w) (Or.inr rfl)))
theorem ww_last (h : CX p s m args meth c E cc nL own) {i n : Nat} {j : Int32} {v : Int64} {α : Type} {f : Option α} {r : α} (hk : KA Z i 14 n) (hf : gin j n f = some r) (hd : decode cc pc = .ok (.lastore, 1))
    (kk : f = some r → WW p l e R s m args below meth c nL Q E w cells slots z Z (pc + 1) lv rest (wJ X i j.toNatClampNeg v)) : WW p l e R s m args below meth c nL Q E w cells slots z Z pc lv (.long v :: .int j :: .ref (w.1 i) :: rest) X := by
  intro H locs ls hP hS hl
  have hin := (gin_i hf).1
  refine W.last h.1 h.2.1 (hP.1 i _ (ws_l E ⟨hk.1, hk.2.1⟩)) ((h.2.2.2.2.2.1.2 14 _ (xTys_at (by decide) (by decide))).1 (sL Z i) (fun j => .long (X.2 i j))) (fun q => by cases q) (by show ¬ (j < 0 ∨ (arrV _ _ _).slots.size ≤ _); rw [arrV_size, hk.2.2]; exact hin) rfl rfl hd fun H1 e1 e2 e3 => ?_
  refine kk (gin_i hf).2 H1 _ ls (hP.put (Z' := Z) (X' := wJ X i j.toNatClampNeg v) hk.1 rfl ?_ (fun j hj => ce_wJ hj) e2 e3) (hS.put e2 e3 (PH.in hP hk.1)) hl
  rw [ce_a hk.2.1 (by decide), ar_l]
  refine e1.trans (congrArg some ?_)
  show (arrV (E.2.1 14) (sL Z i) (fun j => .long (X.2 i j))).setSlot j.toNatClampNeg (.long v) = vp_cell (E.2.1 14) (sL Z i, .inr (.inl ((wJ X i j.toNatClampNeg v).2 i)))
  rw [vp_cell_l, arrV_store]
  congr 2
  funext q
  by_cases hq : q = j.toNatClampNeg
  · subst hq
    simp [updV, wJ, up2]
  · simp [updV, wJ, up2, hq]
theorem ww_alen (h : CX p s m args meth c E cc nL own) {i n d : Nat} (v : Int32) (hk : KA Z i d n) (hd1 : 13 ≤ d) (hd2 : d < 20) (hv : Int32.ofNat n = v) (hd : decode cc pc = .ok (.arraylength, 1))
    (kk : WW p l e R s m args below meth c nL Q E w cells slots z Z (pc + 1) lv (.int v :: rest) X) : WW p l e R s m args below meth c nL Q E w cells slots z Z pc lv (.ref (w.1 i) :: rest) X := fun H locs ls hP hS hl =>
  va_alen h.1 h.2.1 h.2.2.2.2.2.1 hP.1 i d ((ws_get hk.1).trans (by rw [ce_a hk.2.1 hd1])) (xTys_at hd1 hd2) (by rw [← hv, ← hk.2.2]; unfold arOf; split <;> first | rfl | (split <;> rfl)) hd (kk H locs ls hP hS hl)
/-- a place of an array of references: known not to be null -/
theorem ww_aald (h : CX p s m args meth c E cc nL own) {i n d : Nat} {j : Int32} {α : Type} {f : Option α} {r : α} (t : Nat) (hk : KA Z i d n) (hd1 : 16 ≤ d) (hd2 : d < 20) (hf : gin j n f = some r) (hR : vp_in j n → sR Z i j.toNatClampNeg = some t) (hd : decode cc pc = .ok (.aaload, 1))
    (kk : f = some r → WW p l e R s m args below meth c nL Q E w cells slots z Z (pc + 1) lv (.ref (w.1 t) :: rest) X) : WW p l e R s m args below meth c nL Q E w cells slots z Z pc lv (.int j :: .ref (w.1 i) :: rest) X := by
  intro H locs ls hP hS hl
  have hin := (gin_i hf).1
  have hlt : j.toNatClampNeg < n := Nat.not_le.mp fun q => hin (Or.inr q)
  exact W.aald (v := .ref (w.1 t)) (ty := xTy d) h.1 h.2.1 (hP.1 i _ (ws_q E ⟨hk.1, hk.2.1⟩ hd1)) ((h.2.2.2.2.2.1.2 d _ (xTys_at (by omega) hd2)).1 (sL Z i) (fun j => va_rf ((sR Z i j).map w.1))) (by rcases (show d = 16 ∨ d = 17 ∨ d = 18 ∨ d = 19 by omega) with rfl | rfl | rfl | rfl <;> rfl) (fun q => by cases q) (by show ¬ (j < 0 ∨ (arrV _ _ _).slots.size ≤ _); rw [arrV_size, hk.2.2]; exact hin) (by show (arrV _ _ _).slots[_]? = _; rw [arrV_read _ _ (by rw [hk.2.2]; exact hlt)]; show some (va_rf ((sR Z i j.toNatClampNeg).map w.1)) = _; rw [hR hin]; rfl) rfl rfl hd (kk (gin_i hf).2 H locs ls hP hS hl)
def mto {α : Type} (o : Option Nat) (x : Option α) (k : Nat → Option α) : Option α := match o with
  | none => x
  | some t => k t
/-- a place of the array of shooters: null, or one of them -/
theorem ww_aaldS (h : CX p s m args meth c E cc nL own) {i n : Nat} {j : Int32} {α : Type} {f1 : Option α} {f2 : Nat → Option α} {r : α} (hk : KA Z i 17 n) (hS0 : ∀ (k t : Nat), sR Z i k = some t → KS Z t) (hf : gin j n (mto (sR Z i j.toNatClampNeg) f1 f2) = some r) (hd : decode cc pc = .ok (.aaload, 1))
    (kn : f1 = some r → WW p l e R s m args below meth c nL Q E w cells slots z Z (pc + 1) lv (.null :: rest) X) (ks : ∀ t : Nat, KS Z t → sR Z i j.toNatClampNeg = some t → f2 t = some r → WW p l e R s m args below meth c nL Q E w cells slots z Z (pc + 1) lv (.ref (w.1 t) :: rest) X) : WW p l e R s m args below meth c nL Q E w cells slots z Z pc lv (.int j :: .ref (w.1 i) :: rest) X := by
  intro H locs ls hP hS hl
  obtain ⟨hin, hf⟩ := gin_i hf
  have hlt : j.toNatClampNeg < n := Nat.not_le.mp fun q => hin (Or.inr q)
  refine W.aald (v := va_rf ((sR Z i j.toNatClampNeg).map w.1)) (ty := xTy 17) h.1 h.2.1 (hP.1 i _ (ws_q E ⟨hk.1, hk.2.1⟩ (by decide))) ((h.2.2.2.2.2.1.2 17 _ (xTys_at (by decide) (by decide))).1 (sL Z i) (fun j => va_rf ((sR Z i j).map w.1))) rfl (fun q => by cases q) (by show ¬ (j < 0 ∨ (arrV _ _ _).slots.size ≤ _); rw [arrV_size, hk.2.2]; exact hin) (by show (arrV _ _ _).slots[_]? = _; rw [arrV_read _ _ (by rw [hk.2.2]; exact hlt)]) rfl rfl hd ?_
  cases ho : sR Z i j.toNatClampNeg with
  | none => rw [ho] at hf; exact kn hf H locs ls hP hS hl
  | some t => rw [ho] at hf; exact ks t (hS0 _ _ ho) ho hf H locs ls hP hS hl
/-! returns -/
theorem XQ.of {H : Heap} {locs : List Loc} {X' : XD} {rv : Option Value} (hP : PH E w z Z X H) (hS : va_S (A0 E) s.heap H locs) (e1 : X = X') (t : State) (ht : t.heap = H) : XQ E w z Z X' rv args s (.returned rv) t := by
  subst e1
  exact ⟨⟨rfl, by rw [ht]; exact hP⟩, hS.F ht⟩
theorem ww_iret (h : CX p s m args meth c E cc nL own) {x r : Int32} {X' : XD} (hr : meth.sig.returnType = some .int) (hf : some (x, X) = some (r, X')) (hd : decode cc pc = .ok (.ireturn, 1)) : WW p l e R s m args below meth c nL (MQ below (XQ E w z Z X' (some (.int r))) args s cells slots (A0 E)) E w cells slots z Z pc lv [.int x] X := fun H locs ls hP hS hl => by
  have hlocks := h.2.2.2.2.2.2.1
  obtain ⟨rfl, rfl⟩ := Prod.mk.inj (Option.some.inj hf)
  exact W.iret h.1 h.2.1 hr (fun t ht _ => XQ.of hP hS rfl t ht) hS.2.2 hd
theorem ww_zret (h : CX p s m args meth c E cc nL own) {x r : Int32} {X' : XD} {ty : FieldType} (hr : meth.sig.returnType = some ty) (hn : narrow ty (.int x) = .int x) (hf : some (x, X) = some (r, X')) (hd : decode cc pc = .ok (.ireturn, 1)) : WW p l e R s m args below meth c nL (MQ below (XQ E w z Z X' (some (.int r))) args s cells slots (A0 E)) E w cells slots z Z pc lv [.int x] X := fun H locs ls hP hS hl => by
  have hlocks := h.2.2.2.2.2.2.1
  obtain ⟨rfl, rfl⟩ := Prod.mk.inj (Option.some.inj hf)
  exact W.zret h.1 h.2.1 hr hn (fun t ht _ => XQ.of hP hS rfl t ht) hS.2.2 hd
theorem ww_lret (h : CX p s m args meth c E cc nL own) {x r : Int64} {X' : XD} (hr : meth.sig.returnType = some .long) (hf : some (x, X) = some (r, X')) (hd : decode cc pc = .ok (.lreturn, 1)) : WW p l e R s m args below meth c nL (MQ below (XQ E w z Z X' (some (.long r))) args s cells slots (A0 E)) E w cells slots z Z pc lv [.long x] X := fun H locs ls hP hS hl => by
  have hlocks := h.2.2.2.2.2.2.1
  obtain ⟨rfl, rfl⟩ := Prod.mk.inj (Option.some.inj hf)
  exact W.lret h.1 h.2.1 hr (fun t ht _ => XQ.of hP hS rfl t ht) hS.2.2 hd
theorem ww_vret (h : CX p s m args meth c E cc nL own) {u r : Unit} {X' : XD} (hr : meth.sig.returnType = none) (hf : some (u, X) = some (r, X')) (hd : decode cc pc = .ok (.return_, 1)) : WW p l e R s m args below meth c nL (MQ below (XQ E w z Z X' none) args s cells slots (A0 E)) E w cells slots z Z pc lv [] X := fun H locs ls hP hS hl => by
  have hlocks := h.2.2.2.2.2.2.1
  obtain ⟨-, rfl⟩ := Prod.mk.inj (Option.some.inj hf)
  exact W.vret h.1 h.2.1 hr (fun t ht _ => XQ.of hP hS rfl t ht) hS.2.2 hd
theorem ww_aret (h : CX p s m args meth c E cc nL own) {v v' : Value} {X' : XD} {rt : FieldType} (hr : meth.sig.returnType = some rt) (hrt : (∃ n, rt = .object n) ∨ ∃ t, rt = .array t) (hv : v = .null ∨ ∃ a, v = .ref a) (he : v = v') (hX : X = X') (hd : decode cc pc = .ok (.areturn, 1)) : WW p l e R s m args below meth c nL (MQ below (XQ E w z Z X' (some v')) args s cells slots (A0 E)) E w cells slots z Z pc lv [v] X := fun H locs ls hP hS hl => by
  have hlocks := h.2.2.2.2.2.2.1
  subst he
  exact W.aret h.1 h.2.1 hr hrt hv (fun t ht _ => XQ.of hP hS hX t ht) hS.2.2 hd
/-! a method's start -/
theorem ct_of {y : MethodName} {b : ByteArray} {ml : Nat} {ret : Option FieldType} {rm : Room} {mc ms : Nat} {av : List Value} {z z' : Nat} {Z Z' : XS} {X X' : XD} {rv : Option Value} (hy : plainName y.cls = true) (hav : (lg_sl av).length ≤ ml)
    (k : ∀ (p : Program) (e : Env) (s : State) (m : MethodId) (args : Array Value) (below : List Frame) (meth : Method) (c : Code), CX p s m args meth c E b ml y.cls → meth.sig.returnType = ret → meth.name = y.name → args = av.toArray → WW p l e rm s m args below meth c ml (MQ below (XQ E w z' Z' X' rv) args s mc ms (A0 E)) E w 0 0 z Z 0 (lv_args 0 av) [] X) : Ct l E w y (wsM y b ml ret) rm mc ms av z z' Z Z' X X' rv := by
  refine Met.ofW (cc := b) (maxL := ml) (ret := ret) hy rfl ?_
  intro p e s m args below meth c s₁ B hml hv
  obtain ⟨hav2, hP, hK, hE, hB⟩ := hv
  have hts := atoms_spec (ws := wsM y b ml ret) B.pre
  have hin : meth.name = y.name := (name_of_methodNamed B.named B.method).1
  have hC : CX p s m args meth c E b ml y.cls := ⟨B.exec, B.bytes, hml, findClass_of_methodNamed B.named, fun w hw => hts w (List.mem_cons_of_mem _ hw), hK, B.notSynchronized, hB, hE⟩
  have K := k p e s m args below meth c hC B.returns hin hav2
  have hl := lv_entry av hav
  subst hav2
  rw [lg_entry_eq]
  exact K s.heap [] _ hP va_S.rf hl
/-! calls -/
theorem ww_run {mc ms z' : Nat} {Z' : XS} {X' : XD} {rv : Option Value} {st : List Value} {a : Array Value} (hr : ∀ (H : Heap) (locs : List Loc) (ls : Array Slot), PH E w z Z X H → va_S (A0 E) s.heap H locs → lv_has ls nL lv → va_Run p l e R s m args below meth c H locs cells slots mc ms (F0 m pc ls st) rest (XQ E w z' Z' X' rv a) (A0 E))
    (kk : WW p l e R s m args below meth c nL Q E w (cells + mc) (slots + ms) z' Z' (pc + 3) lv (rv.toList ++ rest) X') : WW p l e R s m args below meth c nL Q E w cells slots z Z pc lv st X := by
  intro H locs ls hP hS hl T hT Xs
  obtain ⟨v, st₀, t, T', L, h0, X', hL, e1, e2, ⟨⟨hv, hPH⟩, hz, hk⟩, st⟩ := hr H locs ls hP hS hl T hT Xs
  cases hv
  rw [h0] at hz hk
  obtain ⟨t2, a1, b1⟩ := kk T'.heap (locs ++ L) ls (by rw [e1]; exact hPH) ⟨Nat.le_trans hS.1 (by rw [e1]; exact hz), fun q h1 h2 => by rw [e1, hk q (Nat.lt_of_lt_of_le h1 hS.1) h2]; exact hS.2.1 q h1 h2, fun q hq => by
    rcases List.mem_append.mp hq with h | h
    · exact hS.2.2 q h
    · exact hL q h⟩ hl T' rfl X'
  exact ⟨t2, st t2 a1, b1⟩
theorem x_room {k ml mc ms : Nat} (hR : k + 1 ≤ R.frames ∧ 60 * (k + 1) ≤ R.locals) (hml : ml ≤ 41) : (rmX k mc ms).frames + 1 ≤ R.frames ∧ 8 + (ml + 11) + (rmX k mc ms).locals ≤ R.locals := ⟨hR.1, by have := hR.2; show 8 + (ml + 11) + 60 * k ≤ R.locals; omega⟩
theorem ww_callV {st : List Value} (h : CX p s m args meth c E cc nL own) {i ci k ml idx n mc ms z' : Nat} {y : MethodName} {b : ByteArray} {ret : Option FieldType} {Z' : XS} {X' : XD} {rv : Option Value} (As : List Value) (hi : i < sn Z) (hci : sK Z i = ci) (hci2 : ci < 13)
    (hM : Ct l E w y (wsM y b ml ret) (rmX k mc ms) mc ms (.ref (w.1 i) :: As) z z' Z Z' X X' rv) (w1 : Cond.methodLink own idx y ∈ xtb) (w2 : Cond.instanceMethod y ∈ xtb) (w3 : Cond.selects (XR ci) y y ∈ xtb) (w4 : Cond.initialized (XR ci) ∈ xtb) (w5 : Cond.code y b ml ret ∈ xtb) (hy : y.cls = XR ci)
    (hdd : y.cls ≠ "java/lang/invoke/MethodHandle" ∧ y.cls ≠ "java/lang/invoke/VarHandle" ∧ (parseMethodDescriptor y.desc).map (fun d => d.parameters.length) = some n) (hn : As.length = n) (hR : k + 1 ≤ R.frames ∧ 60 * (k + 1) ≤ R.locals) (hml : ml ≤ 41) (hst : (rest.map fun v => v.category).sum ≤ 8) (hd : decode cc pc = .ok (.invokevirtual idx, 3)) (hf : cells + mc ≤ R.cells ∧ slots + ms ≤ R.slots) (hs : st = As.reverse ++ .ref (w.1 i) :: rest)
    (kk : WW p l e R s m args below meth c nL Q E w (cells + mc) (slots + ms) z' Z' (pc + 3) lv (rv.toList ++ rest) X') : WW p l e R s m args below meth c nL Q E w cells slots z Z pc lv st X := by
  subst hs
  refine ww_run (a := (Value.ref (w.1 i) :: As).toArray) (fun H locs ls hP hS hl => ?_) kk
  have hG : GoodIn xtb (wsV own idx (XR ci) y (wsM y b ml ret)) := by
    intro q hq
    unfold wsV at hq
    rcases List.mem_append.mp hq with hq | hq
    · have hq2 : q ∈ xtb := by
        simp only [List.mem_cons, List.not_mem_nil, or_false] at hq
        rcases hq with rfl | rfl | rfl | rfl
        · exact w1
        · exact w2
        · exact w3
        · exact w4
      exact ⟨hq2, good_of_word (List.mem_filter.mp hq2).2⟩
    · exact wsM_good w5 q hq
  exact va_runV (As := As) (rest := rest) (n := n) ⟨h.1, h.2.1, h.2.2.1, h.2.2.2.1, h.2.2.2.2.1⟩ hM (cwV n h.2.2.2.2.1 hG rfl rfl rfl ⟨hy, hdd⟩ (x_room hR hml)) ⟨XPre.blind, va_recv h.2.2.2.2.2.1 hP.1 (ci := ci) (q0 := i) (xCl_at ci hci2) ((ws_get hi).trans (by rw [ce_o hci hci2])), fun U hU hW => ⟨rfl, XPre.of h hP hS hU hW⟩⟩ rfl hn hl.1 rfl (lv_room hst) hd hf
end XH
end
section
section XI
variable {p : Program} {l : Launch} {e : Env} {R : Room} {s : State} {m : MethodId} {args : Array Value} {below : List Frame} {meth : Method} {c : Code} {nL : Nat} {Q : State → Prop} {E : XE} {w : XW} {cells slots z : Nat} {Z : XS} {pc : Nat} {lv : List (Nat × Value)} {rest : List Value} {X : XD} {cc : ByteArray} {own : String}
variable {i ci k ml idx n mc ms z' : Nat} {y x : MethodName} {b : ByteArray} {ret : Option FieldType} {Z' : XS} {X' : XD} {rv : Option Value} {st : List Value} {owner : String}
theorem x_goods {ws1 ws2 : List Cond} (h1 : ∀ q ∈ ws1, q ∈ xtb) (h2 : GoodIn xtb ws2) : GoodIn xtb (ws1 ++ ws2) := fun q hq => (List.mem_append.mp hq).elim (fun h => ⟨h1 q h, good_of_word (List.mem_filter.mp (h1 q h)).2⟩) (h2 q)
theorem ww_callS (h : CX p s m args meth c E cc nL own) (As : List Value)
    (hM : Ct l E w y (wsM y b ml ret) (rmX k mc ms) mc ms As z z' Z Z' X X' rv) (w1 : Cond.methodLink own idx y ∈ xtb) (w2 : Cond.static y ∈ xtb) (w4 : Cond.initialized y.cls ∈ xtb) (w5 : Cond.code y b ml ret ∈ xtb)
    (hdd : y.cls ≠ "java/lang/invoke/MethodHandle" ∧ y.cls ≠ "java/lang/invoke/VarHandle" ∧ (parseMethodDescriptor y.desc).map (fun d => d.parameters.length) = some n) (hn : As.length = n) (hR : k + 1 ≤ R.frames ∧ 60 * (k + 1) ≤ R.locals) (hml : ml ≤ 41) (hst : (rest.map fun v => v.category).sum ≤ 8) (hd : decode cc pc = .ok (.invokestatic idx, 3)) (hf : cells + mc ≤ R.cells ∧ slots + ms ≤ R.slots) (hs : st = As.reverse ++ rest)
    (kk : WW p l e R s m args below meth c nL Q E w (cells + mc) (slots + ms) z' Z' (pc + 3) lv (rv.toList ++ rest) X') : WW p l e R s m args below meth c nL Q E w cells slots z Z pc lv st X := by
  subst hs
  refine ww_run (a := As.toArray) (fun H locs ls hP hS hl => ?_) kk
  have hG : GoodIn xtb (va_wsS own idx y (wsM y b ml ret)) := x_goods (by
    intro q hq
    simp only [List.mem_cons, List.not_mem_nil, or_false] at hq
    rcases hq with rfl | rfl | rfl
    · exact w1
    · exact w2
    · exact w4) (wsM_good w5)
  exact va_runS (As := As) (rest := rest) (n := n) ⟨h.1, h.2.1, h.2.2.1, h.2.2.2.1, h.2.2.2.2.1⟩ hM (va_cwS n h.2.2.2.2.1 hG rfl rfl rfl hdd (x_room hR hml)) ⟨XPre.blind, fun U hU hW => ⟨rfl, XPre.of h hP hS hU hW⟩⟩ rfl hn hl.1 rfl (lv_room hst) hd hf
/-- <init> -/
theorem ww_callI (h : CX p s m args meth c E cc nL own) (As : List Value)
    (hM : Ct l E w y (wsM y b ml none) (rmX k mc ms) mc ms (.ref (w.1 i) :: As) z z' Z Z' X X' none) (w1 : Cond.methodLink own idx y ∈ xtb) (w2 : Cond.instanceMethod y ∈ xtb) (w4 : Cond.initialized y.cls ∈ xtb) (w5 : Cond.code y b ml none ∈ xtb) (hy : y.name = "<init>")
    (hdd : y.cls ≠ "java/lang/invoke/MethodHandle" ∧ y.cls ≠ "java/lang/invoke/VarHandle" ∧ (parseMethodDescriptor y.desc).map (fun d => d.parameters.length) = some n) (hn : As.length = n) (hR : k + 1 ≤ R.frames ∧ 60 * (k + 1) ≤ R.locals) (hml : ml ≤ 41) (hst : (rest.map fun v => v.category).sum ≤ 8) (hd : decode cc pc = .ok (.invokespecial idx, 3)) (hf : cells + mc ≤ R.cells ∧ slots + ms ≤ R.slots) (hs : st = As.reverse ++ .ref (w.1 i) :: rest)
    (kk : WW p l e R s m args below meth c nL Q E w (cells + mc) (slots + ms) z' Z' (pc + 3) lv rest X') : WW p l e R s m args below meth c nL Q E w cells slots z Z pc lv st X := by
  subst hs
  refine ww_run (rv := none) (mc := mc) (ms := ms) (z' := z') (Z' := Z') (X' := X') (a := (Value.ref (w.1 i) :: As).toArray) (fun H locs ls hP hS hl => ?_) kk
  exact va_runI (As := As) (rest := rest) (n := n) ⟨h.1, h.2.1, h.2.2.1, h.2.2.2.1, h.2.2.2.2.1⟩ hM (cwI n h.2.2.2.2.1 (wsM_good w5) rfl rfl rfl (h.2.2.2.2.1 _ w4) (h.2.2.2.2.1 _ w1) (h.2.2.2.2.1 _ w2) hy hdd (x_room hR hml)) ⟨XPre.blind, fun U hU hW => ⟨rfl, XPre.of h hP hS hU hW⟩⟩ rfl hn hl.1 rfl (lv_room hst) hd hf
/-- Object() -/
theorem ww_objInit (h : CX p s m args meth c E cc nL own) {a : Nat} (w1 : Cond.methodLink own idx objectInit ∈ xtb) (w2 : Cond.instanceMethod objectInit ∈ xtb) (w3 : Cond.code objectInit ⟨#[0xb1]⟩ 1 none ∈ xtb) (hd : decode cc pc = .ok (.invokespecial idx, 3)) (hR : 1 ≤ R.frames ∧ 60 ≤ R.locals) (hst : (rest.map fun v => v.category).sum ≤ 8)
    (kk : WW p l e R s m args below meth c nL Q E w cells slots z Z (pc + 3) lv rest X) : WW p l e R s m args below meth c nL Q E w cells slots z Z pc lv (.ref a :: rest) X := fun H locs ls hP hS hl =>
  W.objInit h.1 h.2.1 h.2.2.2.1 (h.2.2.2.2.1 _ w1) (h.2.2.2.2.1 _ w2) (h.2.2.2.2.1 _ w3) rfl (by rw [h.2.2.1]; exact hl.1) rfl hd hR.1 (by show 2 * 0 + _ + 12 ≤ _; have := hR.2; omega) (kk H locs ls hP hS hl)
/-- a method that the receiver's class selects for x -/
theorem ww_callO (h : CX p s m args meth c E cc nL own) (As : List Value) (hi : i < sn Z) (hci : sK Z i = ci) (hci2 : ci < 13)
    (hM : Ct l E w y (wsM y b ml ret) (rmX k mc ms) mc ms (.ref (w.1 i) :: As) z z' Z Z' X X' rv) (w1 : Cond.methodLink own idx x ∈ xtb) (w2 : Cond.sameMethod x.cls owner x.name x.desc ∈ xtb) (w3 : Cond.instanceMethod ⟨owner, x.name, x.desc⟩ ∈ xtb) {b0 : ByteArray} {m0 : Nat} {r0 : Option FieldType} (w6 : Cond.code ⟨owner, x.name, x.desc⟩ b0 m0 r0 ∈ xtb)
    (w7 : Cond.selects (XR ci) x y ∈ xtb) (w8 : Cond.instanceMethod y ∈ xtb) (w4 : Cond.initialized y.cls ∈ xtb) (w5 : Cond.code y b ml ret ∈ xtb)
    (hdd : owner ≠ "java/lang/invoke/MethodHandle" ∧ owner ≠ "java/lang/invoke/VarHandle" ∧ (parseMethodDescriptor x.desc).map (fun d => d.parameters.length) = some n) (hn : As.length = n) (hR : k + 1 ≤ R.frames ∧ 60 * (k + 1) ≤ R.locals) (hml : ml ≤ 41) (hst : (rest.map fun v => v.category).sum ≤ 8) (hd : decode cc pc = .ok (.invokevirtual idx, 3)) (hf : cells + mc ≤ R.cells ∧ slots + ms ≤ R.slots) (hs : st = As.reverse ++ .ref (w.1 i) :: rest)
    (kk : WW p l e R s m args below meth c nL Q E w (cells + mc) (slots + ms) z' Z' (pc + 3) lv (rv.toList ++ rest) X') : WW p l e R s m args below meth c nL Q E w cells slots z Z pc lv st X := by
  subst hs
  refine ww_run (a := (Value.ref (w.1 i) :: As).toArray) (fun H locs ls hP hS hl => ?_) kk
  have hG : GoodIn xtb (va_wsO own idx (XR ci) owner x y (wsM y b ml ret)) := x_goods (by
    intro q hq
    simp only [List.mem_cons, List.not_mem_nil, or_false] at hq
    rcases hq with rfl | rfl | rfl | rfl | rfl | rfl
    · exact w1
    · exact w2
    · exact w3
    · exact w7
    · exact w8
    · exact w4) (wsM_good w5)
  exact va_runU (As := As) (rest := rest) (n := n) ⟨h.1, h.2.1, h.2.2.1, h.2.2.2.1, h.2.2.2.2.1⟩ hM (va_cwO n h.2.2.2.2.1 hG rfl rfl rfl w6 hdd (x_room hR hml)) ⟨XPre.blind, va_recv h.2.2.2.2.2.1 hP.1 (ci := ci) (q0 := i) (xCl_at ci hci2) ((ws_get hi).trans (by rw [ce_o hci hci2])), fun U hU hW => ⟨rfl, XPre.of h hP hS hU hW⟩⟩ rfl hn hl.1 rfl (lv_room hst) hd hf
theorem x_callSU {T : State} {locs : List Loc} (X : Stand p l e R s m args below meth c T locs cells slots) (hexec : p.tables.exec = Jvm.exec) {index maxL : Nat} {bytes : ByteArray}
    (hown : s.vm.findClass own = some m.cls) (hlink : (Cond.methodLink own index x).before args s = true) (hsame : (Cond.sameMethod x.cls owner x.name x.desc).before args s = true) (hsup : (Cond.superclass own x.cls).before args s = true) (hup : x.cls = owner ∨ (Cond.superclass x.cls owner).before args s = true) (hyx : y = ⟨owner, x.name, x.desc⟩)
    (hinst : (Cond.instanceMethod y).before args s = true) (hcode : (Cond.code y bytes maxL ret).before args s = true) (hno : x.name ≠ "<init>")
    {W : Nat} {Pre : Pt → Array Value → Prop} {Post : Pt → Array Value → Option Value → Pt → Prop} (hK : Back l R p e below s args y 3 W Pre Post)
    {b : Addr} {cellB : Cell} {kB : Class} (hcell : T.heap[b]? = some cellB) (hobj : cellB.vm.isStatics = false) (hkB : s.vm.classes[cellB.cls]? = some kB)
    {g : JFrame} (hg : g.method = m) (hsize : g.locals.size = c.maxLocals) {argsL rest : List Value} (hlen : ∀ sig, parseMethodDescriptor y.desc = some sig → argsL.length = sig.parameters.length)
    (hstack : g.stack = argsL.reverse ++ .ref b :: rest) (hW : 2 * g.monitorRoom + (rest.map fun v => v.category).sum ≤ W) (hdg : decode c.code g.pc = .ok (.invokespecial index, 3))
    (hpre : ∀ vm₁, s.WarmedH vm₁ → Pre ⟨T.setVm vm₁, locs, cells, slots⟩ (Value.ref b :: argsL).toArray) :
    ∃ (v : Option Value) (vm₁ : Vm) (B : Pt), s.WarmedH vm₁ ∧ Stand p l e R s m args below meth c B.U B.locs B.cells B.slots ∧ Post ⟨T.setVm vm₁, locs, cells, slots⟩ (Value.ref b :: argsL).toArray v B ∧
      ∀ target, Steps p.tables e below (B.U.setTop { g with pc := g.pc + 3, stack := v.toList ++ rest }) target → Steps p.tables e below (T.setTop g) target := by
  obtain ⟨mk, methM, hnamed, hmethM, hstM, habM⟩ := Cond.instanceMethod_spec hinst
  obtain ⟨methM', cM, hmethM', -, -, -, -, -, -, hsigM⟩ := Cond.code_spec hnamed hcode
  cases hmethM.symm.trans hmethM'
  obtain ⟨ps, dk, kp, hps, hdk, hkp, hsuper, -, -, hnid⟩ := Cond.superclass_spec hown hsup
  have hn : s.methodNamed? ⟨owner, x.name, x.desc⟩ = some mk := by rw [← hyx]; exact hnamed
  have hmo : s.vm.findClass owner = some mk.cls := by
    have := findClass_of_methodNamed hnamed
    rw [hyx] at this
    exact this
  have hsub : s.vm.isSubclass ps mk.cls = true := by
    rcases hup with e1 | h1
    · have hpm : ps = mk.cls := Option.some.inj (hps.symm.trans (by rw [e1]; exact hmo))
      rw [hpm]; simp [Vm.isSubclass, Vm.isSubclassAux]
    · obtain ⟨ps2, dk2, kp2, hps2, hdk2, hkp2, hsuper2, -, -, -⟩ := Cond.superclass_spec hps h1
      have hpm : ps2 = mk.cls := Option.some.inj (hps2.symm.trans hmo)
      subst hpm
      have hlt : ps < s.vm.classes.size := (Array.getElem?_eq_some_iff.mp hdk2).1
      have hz : ∃ k, s.vm.classes.size = k + 1 := Nat.exists_eq_succ_of_ne_zero (Nat.ne_of_gt (Nat.lt_of_le_of_lt (Nat.zero_le _) hlt))
      obtain ⟨k, hz⟩ := hz
      simp [Vm.isSubclass, Vm.isSubclassAux, hdk2, hsuper2, hz]
  obtain ⟨vm₁, X₁, hstep₁⟩ := X.invokespecialUp hexec hown hlink hsame hn hmethM hstM habM hno hdk hnid hps hsuper hsub (a := b) (cell := cellB) hcell
    (fun z h => by rw [h] at hobj; cases hobj) hkB (g := g) hg (argsL := argsL) (rest := rest) (hlen _ hsigM) hstack hdg
  obtain ⟨v, B, X', hpost, hsteps⟩ := hK m meth c ⟨T.setVm vm₁, locs, cells, slots⟩ { g with stack := rest } (.invokespecial index) mk (Value.ref b :: argsL).toArray X₁ hg hsize hdg hW (X₁.named hnamed) (hpre vm₁ X₁.warmed)
  exact ⟨v, vm₁, B, X₁.warmed, X', hpost, fun target h => hstep₁ _ (by rw [doInvoke_state]; exact hsteps.trans h)⟩
/-- super.m(..) -/
theorem ww_callSU (h : CX p s m args meth c E cc nL own) (As : List Value) (hi : i < sn Z) (hci2 : sK Z i < 13)
    (hM : Ct l E w y (wsM y b ml ret) (rmX k mc ms) mc ms (.ref (w.1 i) :: As) z z' Z Z' X X' rv) (w1 : Cond.methodLink own idx x ∈ xtb) (w2 : Cond.sameMethod x.cls owner x.name x.desc ∈ xtb) (w3 : Cond.superclass own x.cls ∈ xtb) (w6 : x.cls = owner ∨ Cond.superclass x.cls owner ∈ xtb) (hyx : y = ⟨owner, x.name, x.desc⟩)
    (w8 : Cond.instanceMethod y ∈ xtb) (w4 : Cond.initialized y.cls ∈ xtb) (w5 : Cond.code y b ml ret ∈ xtb) (hno : x.name ≠ "<init>")
    (hdd : (parseMethodDescriptor y.desc).map (fun d => d.parameters.length) = some n) (hn : As.length = n) (hR : k + 1 ≤ R.frames ∧ 60 * (k + 1) ≤ R.locals) (hml : ml ≤ 41) (hst : (rest.map fun v => v.category).sum ≤ 8) (hd : decode cc pc = .ok (.invokespecial idx, 3)) (hf : cells + mc ≤ R.cells ∧ slots + ms ≤ R.slots) (hs : st = As.reverse ++ .ref (w.1 i) :: rest)
    (kk : WW p l e R s m args below meth c nL Q E w (cells + mc) (slots + ms) z' Z' (pc + 3) lv (rv.toList ++ rest) X') : WW p l e R s m args below meth c nL Q E w cells slots z Z pc lv st X := by
  subst hs
  refine ww_run (a := (Value.ref (w.1 i) :: As).toArray) (fun H locs ls hP hS hl => ?_) kk
  obtain ⟨cellB, hcB, hoB, hclB⟩ := va_recv h.2.2.2.2.2.1 hP.1 (ci := sK Z i) (q0 := i) (xCl_at _ hci2) ((ws_get hi).trans (by rw [ce_o rfl hci2]))
  have hat := (h.2.2.2.2.2.1.1 (sK Z i) _ (xCl_at _ hci2)).2
  obtain ⟨hfc, kB, hkB, -⟩ := hat
  have ecl := Option.some.inj (hfc.symm.trans hclB)
  have hrm := x_room (mc := mc) (ms := ms) hR hml
  have hK : Back l R p e below s args y 3 8 (PreOf R mc ms _) (PostOf (XQ E w z' Z' X' rv) mc ms (A0 E)) := back_of (bytes := b) (maxL := ml) (ret := ret) hM XPre.blind rfl rfl hrm.1 hrm.2 (pay_in h.2.2.2.2.1 (wsM_good w5)) List.mem_cons_self (fun a' U hW => word_at hW (Or.inl (by first | rfl | simp [Cond.onTables, Cond.keeps, Cond.steady])) (h.2.2.2.2.1 _ w4))
  have ho : ∀ q ∈ xtb, q.before args s = true := h.2.2.2.2.1
  intro T hT Xs
  obtain ⟨v, vm₁, ⟨U', l2, c2, s2⟩, hW₁, X', ⟨g', mk, t, L, e1, e2, hq, h1, hL, h2, h3⟩, st⟩ := x_callSU Xs h.1 h.2.2.2.1 (ho _ w1) (ho _ w2) (ho _ w3) (w6.imp id (fun q => ho _ q)) hyx (ho _ w8) (ho _ w5) hno hK (by rw [hT]; exact hcB) hoB (by rw [← ecl]; exact hkB) (g := F0 m pc ls (As.reverse ++ .ref (w.1 i) :: rest)) rfl (hl.1.trans h.2.2.1.symm) (argsL := As) (rest := rest) (fun sig h9 => by
      rw [h9] at hdd
      exact hn.trans (Option.some.inj hdd).symm) rfl (lv_room hst) (by rw [h.2.1]; exact hd)
    (fun vm₁ hW₁ => ⟨hf.1, hf.2, rfl, XPre.of h hP hS hT hW₁⟩)
  dsimp only [Pt.U, Pt.locs, Pt.cells, Pt.slots] at X' e1 e2 h1 h2 h3 st
  subst h1; subst h2; subst h3
  exact ⟨v, (T.setVm vm₁).calling g' mk (Value.ref (w.1 i) :: As).toArray, t, U', L, hT, X', hL, e1, e2, hq, st⟩
/-- a shooter's own number and v -/
theorem ww_getS (h : CX p s m args meth c E cc nL own) {a : Nat} (q : Nat) (hq : q < 2) (hk : KS Z a) (ref nm : String) (hnm : (TX4 q).2.1 = nm) (hw : Cond.fieldLink own idx ref nm "I" ∈ xtb) (hs : ref = "FootKeeper$Shooter" ∨ Cond.sameField ref "FootKeeper$Shooter" nm "I" ∈ xtb) (hd : decode cc pc = .ok (.getfield idx, 3))
    (kk : WW p l e R s m args below meth c nL Q E w cells slots z Z (pc + 3) lv (.int (X.1 a q) :: rest) X) : WW p l e R s m args below meth c nL Q E w cells slots z Z pc lv (.ref (w.1 a) :: rest) X := by
  subst hnm
  obtain ⟨hn, hc⟩ := hk
  rcases (show q = 0 ∨ q = 1 by omega) with rfl | rfl <;> rcases hc with e1 | e1 | e1 | e1 | e1 | e1 | e1
  · exact ww_getI h 0 0 ⟨hn, e1⟩ ref (by decide) (by decide) rfl hw hs hd kk
  · exact ww_getI h 2 0 ⟨hn, e1⟩ ref (by decide) (by decide) rfl hw hs hd kk
  · exact ww_getI h 4 0 ⟨hn, e1⟩ ref (by decide) (by decide) rfl hw hs hd kk
  · exact ww_getI h 5 0 ⟨hn, e1⟩ ref (by decide) (by decide) rfl hw hs hd kk
  · exact ww_getI h 7 0 ⟨hn, e1⟩ ref (by decide) (by decide) rfl hw hs hd kk
  · exact ww_getI h 8 0 ⟨hn, e1⟩ ref (by decide) (by decide) rfl hw hs hd kk
  · exact ww_getI h 10 0 ⟨hn, e1⟩ ref (by decide) (by decide) rfl hw hs hd kk
  · exact ww_getI h 0 1 ⟨hn, e1⟩ ref (by decide) (by decide) rfl hw hs hd kk
  · exact ww_getI h 2 1 ⟨hn, e1⟩ ref (by decide) (by decide) rfl hw hs hd kk
  · exact ww_getI h 4 1 ⟨hn, e1⟩ ref (by decide) (by decide) rfl hw hs hd kk
  · exact ww_getI h 5 1 ⟨hn, e1⟩ ref (by decide) (by decide) rfl hw hs hd kk
  · exact ww_getI h 7 1 ⟨hn, e1⟩ ref (by decide) (by decide) rfl hw hs hd kk
  · exact ww_getI h 8 1 ⟨hn, e1⟩ ref (by decide) (by decide) rfl hw hs hd kk
  · exact ww_getI h 10 1 ⟨hn, e1⟩ ref (by decide) (by decide) rfl hw hs hd kk
theorem ww_max (h : CX p s m args meth c E cc nL own) {a d : Int32} (w1 : Cond.methodLink own idx Lib.Math.max.name ∈ xtb) (w2 : Cond.static Lib.Math.max.name ∈ xtb) (w3 : Cond.initialized "java/lang/Math" ∈ xtb) (w4 : Cond.code Lib.Math.max.name Lib.Math.max.code 2 (some .int) ∈ xtb) (hd : decode cc pc = .ok (.invokestatic idx, 3)) (hR : 1 ≤ R.frames ∧ 60 ≤ R.locals) (hst : (rest.map fun v => v.category).sum ≤ 8) (hf : cells ≤ R.cells ∧ slots ≤ R.slots)
    (kk : WW p l e R s m args below meth c nL Q E w cells slots z Z (pc + 3) lv (.int (if a < d then d else a) :: rest) X) : WW p l e R s m args below meth c nL Q E w cells slots z Z pc lv (.int d :: .int a :: rest) X := fun H locs ls hP hS hl =>
  va_mmax h.1 h.2.1 (h.2.2.1.trans hl.1.symm) h.2.2.2.1 (h.2.2.2.2.1 _ w1) (h.2.2.2.2.1 _ w2) (h.2.2.2.2.1 _ w3) (h.2.2.2.2.1 _ w4) hR.1 (by have := hR.2; omega) hf.1 hf.2 hd (kk H locs ls hP hS hl)
theorem ww_min (h : CX p s m args meth c E cc nL own) {a d : Int32} (w1 : Cond.methodLink own idx Lib.Math.min.name ∈ xtb) (w2 : Cond.static Lib.Math.min.name ∈ xtb) (w3 : Cond.initialized "java/lang/Math" ∈ xtb) (w4 : Cond.code Lib.Math.min.name Lib.Math.min.code 2 (some .int) ∈ xtb) (hd : decode cc pc = .ok (.invokestatic idx, 3)) (hR : 1 ≤ R.frames ∧ 60 ≤ R.locals) (hst : (rest.map fun v => v.category).sum ≤ 8) (hf : cells ≤ R.cells ∧ slots ≤ R.slots)
    (kk : WW p l e R s m args below meth c nL Q E w cells slots z Z (pc + 3) lv (.int (if d < a then d else a) :: rest) X) : WW p l e R s m args below meth c nL Q E w cells slots z Z pc lv (.int d :: .int a :: rest) X := fun H locs ls hP hS hl =>
  va_mmin h.1 h.2.1 (h.2.2.1.trans hl.1.symm) h.2.2.2.1 (h.2.2.2.2.1 _ w1) (h.2.2.2.2.1 _ w2) (h.2.2.2.2.1 _ w3) (h.2.2.2.2.1 _ w4) hR.1 (by have := hR.2; omega) hf.1 hf.2 hd (kk H locs ls hP hS hl)
end XI
end
