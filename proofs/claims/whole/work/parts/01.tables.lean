-- ===== PART A: goes FIRST, ahead of the names: the tables' words, and 'selects' of the private methods out of them =====
/-- a private method of a class that the tables say can be made, by its rows of tables_1 -/
def lw_okq (q : MethodName × Nat) : Prop := (q.1.cls ≠ "java/lang/invoke/MethodHandle" ∧ q.1.cls ≠ "java/lang/invoke/VarHandle") ∧ Cond.instantiable q.1.cls q.2 ∈ tables_1 ∧ Cond.privateMethod q.1 ∈ tables_1 ∧ Cond.instanceMethod q.1 ∈ tables_1
theorem lw_p0 : lw_okq (⟨"ModelSheet$Tree", "arrange", "()V"⟩, 7) := ⟨⟨by decide +kernel, by decide +kernel⟩, List.mem_of_getElem? (i := 48) (by decide +kernel), List.mem_of_getElem? (i := 61) (by decide +kernel), List.mem_of_getElem? (i := 62) (by decide +kernel)⟩
theorem lw_p1 : lw_okq (⟨"ModelSheet$Tree", "walk", "(II)V"⟩, 7) := ⟨⟨by decide +kernel, by decide +kernel⟩, List.mem_of_getElem? (i := 48) (by decide +kernel), List.mem_of_getElem? (i := 65) (by decide +kernel), List.mem_of_getElem? (i := 66) (by decide +kernel)⟩
theorem lw_p2 : lw_okq (⟨"java/lang/Throwable", "fillInStackTrace", "(I)Ljava/lang/Throwable;"⟩, 6) := ⟨⟨by decide +kernel, by decide +kernel⟩, List.mem_of_getElem? (i := 493) (by decide +kernel), List.mem_of_getElem? (i := 491) (by decide +kernel), List.mem_of_getElem? (i := 492) (by decide +kernel)⟩
theorem lw_p3 : lw_okq (⟨"ModelSheet$Reader", "readFormula", "(I)Z"⟩, 3) := ⟨⟨by decide +kernel, by decide +kernel⟩, List.mem_of_getElem? (i := 290) (by decide +kernel), List.mem_of_getElem? (i := 636) (by decide +kernel), List.mem_of_getElem? (i := 637) (by decide +kernel)⟩
theorem lw_p4 : lw_okq (⟨"ModelSheet$Reader", "readSum", "(I)Z"⟩, 3) := ⟨⟨by decide +kernel, by decide +kernel⟩, List.mem_of_getElem? (i := 290) (by decide +kernel), List.mem_of_getElem? (i := 640) (by decide +kernel), List.mem_of_getElem? (i := 641) (by decide +kernel)⟩
theorem lw_p5 : lw_okq (⟨"ModelSheet$Reader", "readProduct", "(I)Z"⟩, 3) := ⟨⟨by decide +kernel, by decide +kernel⟩, List.mem_of_getElem? (i := 290) (by decide +kernel), List.mem_of_getElem? (i := 644) (by decide +kernel), List.mem_of_getElem? (i := 645) (by decide +kernel)⟩
theorem lw_p6 : lw_okq (⟨"ModelSheet$Reader", "readUnit", "(I)Z"⟩, 3) := ⟨⟨by decide +kernel, by decide +kernel⟩, List.mem_of_getElem? (i := 290) (by decide +kernel), List.mem_of_getElem? (i := 648) (by decide +kernel), List.mem_of_getElem? (i := 649) (by decide +kernel)⟩
theorem lw_p7 : lw_okq (⟨"ModelSheet$Reader", "look", "()C"⟩, 3) := ⟨⟨by decide +kernel, by decide +kernel⟩, List.mem_of_getElem? (i := 290) (by decide +kernel), List.mem_of_getElem? (i := 652) (by decide +kernel), List.mem_of_getElem? (i := 653) (by decide +kernel)⟩
theorem lw_p8 : lw_okq (⟨"ModelSheet$Reader", "readNumber", "()V"⟩, 3) := ⟨⟨by decide +kernel, by decide +kernel⟩, List.mem_of_getElem? (i := 290) (by decide +kernel), List.mem_of_getElem? (i := 663) (by decide +kernel), List.mem_of_getElem? (i := 664) (by decide +kernel)⟩
theorem lw_p9 : lw_okq (⟨"ModelSheet$Reader", "readBracket", "(I)Z"⟩, 3) := ⟨⟨by decide +kernel, by decide +kernel⟩, List.mem_of_getElem? (i := 290) (by decide +kernel), List.mem_of_getElem? (i := 671) (by decide +kernel), List.mem_of_getElem? (i := 672) (by decide +kernel)⟩
theorem lw_p10 : lw_okq (⟨"ModelSheet$Reader", "readReference", "()Z"⟩, 3) := ⟨⟨by decide +kernel, by decide +kernel⟩, List.mem_of_getElem? (i := 290) (by decide +kernel), List.mem_of_getElem? (i := 677) (by decide +kernel), List.mem_of_getElem? (i := 678) (by decide +kernel)⟩
theorem lw_p11 : lw_okq (⟨"ModelSheet", "canLook", "(I)Z"⟩, 10) := ⟨⟨by decide +kernel, by decide +kernel⟩, List.mem_of_getElem? (i := 33) (by decide +kernel), List.mem_of_getElem? (i := 727) (by decide +kernel), List.mem_of_getElem? (i := 728) (by decide +kernel)⟩
theorem lw_p12 : lw_okq (⟨"ModelSheet", "cursorCell", "()I"⟩, 10) := ⟨⟨by decide +kernel, by decide +kernel⟩, List.mem_of_getElem? (i := 33) (by decide +kernel), List.mem_of_getElem? (i := 744) (by decide +kernel), List.mem_of_getElem? (i := 745) (by decide +kernel)⟩
theorem lw_p13 : lw_okq (⟨"ModelSheet", "cursorAmount", "(I)J"⟩, 10) := ⟨⟨by decide +kernel, by decide +kernel⟩, List.mem_of_getElem? (i := 33) (by decide +kernel), List.mem_of_getElem? (i := 779) (by decide +kernel), List.mem_of_getElem? (i := 780) (by decide +kernel)⟩
theorem lw_p14 : lw_okq (⟨"ModelSheet$Calculator", "work", "(II)J"⟩, 10) := ⟨⟨by decide +kernel, by decide +kernel⟩, List.mem_of_getElem? (i := 224) (by decide +kernel), List.mem_of_getElem? (i := 788) (by decide +kernel), List.mem_of_getElem? (i := 789) (by decide +kernel)⟩
theorem lw_p15 : lw_okq (⟨"ModelSheet$Calculator", "workInside", "(II)J"⟩, 10) := ⟨⟨by decide +kernel, by decide +kernel⟩, List.mem_of_getElem? (i := 224) (by decide +kernel), List.mem_of_getElem? (i := 798) (by decide +kernel), List.mem_of_getElem? (i := 799) (by decide +kernel)⟩
def lw_privs_1 : List (MethodName × Nat) := [(⟨"ModelSheet$Tree", "arrange", "()V"⟩, 7), (⟨"ModelSheet$Tree", "walk", "(II)V"⟩, 7), (⟨"java/lang/Throwable", "fillInStackTrace", "(I)Ljava/lang/Throwable;"⟩, 6), (⟨"ModelSheet$Reader", "readFormula", "(I)Z"⟩, 3), (⟨"ModelSheet$Reader", "readSum", "(I)Z"⟩, 3), (⟨"ModelSheet$Reader", "readProduct", "(I)Z"⟩, 3), (⟨"ModelSheet$Reader", "readUnit", "(I)Z"⟩, 3), (⟨"ModelSheet$Reader", "look", "()C"⟩, 3), (⟨"ModelSheet$Reader", "readNumber", "()V"⟩, 3), (⟨"ModelSheet$Reader", "readBracket", "(I)Z"⟩, 3), (⟨"ModelSheet$Reader", "readReference", "()Z"⟩, 3), (⟨"ModelSheet", "canLook", "(I)Z"⟩, 10), (⟨"ModelSheet", "cursorCell", "()I"⟩, 10), (⟨"ModelSheet", "cursorAmount", "(I)J"⟩, 10), (⟨"ModelSheet$Calculator", "work", "(II)J"⟩, 10), (⟨"ModelSheet$Calculator", "workInside", "(II)J"⟩, 10)]
theorem lw_r1 : ∀ q ∈ lw_privs_1, lw_okq q := List.forall_mem_cons.mpr ⟨lw_p0, List.forall_mem_cons.mpr ⟨lw_p1, List.forall_mem_cons.mpr ⟨lw_p2, List.forall_mem_cons.mpr ⟨lw_p3, List.forall_mem_cons.mpr ⟨lw_p4, List.forall_mem_cons.mpr ⟨lw_p5, List.forall_mem_cons.mpr ⟨lw_p6, List.forall_mem_cons.mpr ⟨lw_p7, List.forall_mem_cons.mpr ⟨lw_p8, List.forall_mem_cons.mpr ⟨lw_p9, List.forall_mem_cons.mpr ⟨lw_p10, List.forall_mem_cons.mpr ⟨lw_p11, List.forall_mem_cons.mpr ⟨lw_p12, List.forall_mem_cons.mpr ⟨lw_p13, List.forall_mem_cons.mpr ⟨lw_p14, List.forall_mem_cons.mpr ⟨lw_p15, fun _ h => absurd h List.not_mem_nil⟩⟩⟩⟩⟩⟩⟩⟩⟩⟩⟩⟩⟩⟩⟩⟩
theorem lw_p16 : lw_okq (⟨"ModelSheet$Calculator", "follow", "(LModelSheet$Rule;II)J"⟩, 10) := ⟨⟨by decide +kernel, by decide +kernel⟩, List.mem_of_getElem? (i := 224) (by decide +kernel), List.mem_of_getElem? (i := 827) (by decide +kernel), List.mem_of_getElem? (i := 828) (by decide +kernel)⟩
theorem lw_p17 : lw_okq (⟨"ModelSheet$Calculator", "obey", "(LModelSheet$Rule;III)I"⟩, 10) := ⟨⟨by decide +kernel, by decide +kernel⟩, List.mem_of_getElem? (i := 224) (by decide +kernel), List.mem_of_getElem? (i := 831) (by decide +kernel), List.mem_of_getElem? (i := 832) (by decide +kernel)⟩
theorem lw_p18 : lw_okq (⟨"ModelSheet$Calculator", "push", "(J)V"⟩, 10) := ⟨⟨by decide +kernel, by decide +kernel⟩, List.mem_of_getElem? (i := 224) (by decide +kernel), List.mem_of_getElem? (i := 835) (by decide +kernel), List.mem_of_getElem? (i := 836) (by decide +kernel)⟩
theorem lw_p19 : lw_okq (⟨"ModelSheet$Calculator", "refer", "(LModelSheet$Rule;III)J"⟩, 10) := ⟨⟨by decide +kernel, by decide +kernel⟩, List.mem_of_getElem? (i := 224) (by decide +kernel), List.mem_of_getElem? (i := 839) (by decide +kernel), List.mem_of_getElem? (i := 840) (by decide +kernel)⟩
theorem lw_p20 : lw_okq (⟨"ModelSheet$Calculator", "total", "(III)J"⟩, 10) := ⟨⟨by decide +kernel, by decide +kernel⟩, List.mem_of_getElem? (i := 224) (by decide +kernel), List.mem_of_getElem? (i := 849) (by decide +kernel), List.mem_of_getElem? (i := 850) (by decide +kernel)⟩
theorem lw_p21 : lw_okq (⟨"ModelSheet$Calculator", "addUp", "(III)J"⟩, 10) := ⟨⟨by decide +kernel, by decide +kernel⟩, List.mem_of_getElem? (i := 224) (by decide +kernel), List.mem_of_getElem? (i := 853) (by decide +kernel), List.mem_of_getElem? (i := 854) (by decide +kernel)⟩
theorem lw_p22 : lw_okq (⟨"ModelSheet$Calculator", "target", "(LModelSheet$Tree;II)I"⟩, 10) := ⟨⟨by decide +kernel, by decide +kernel⟩, List.mem_of_getElem? (i := 224) (by decide +kernel), List.mem_of_getElem? (i := 884) (by decide +kernel), List.mem_of_getElem? (i := 885) (by decide +kernel)⟩
theorem lw_p23 : lw_okq (⟨"ModelSheet$Calculator", "choose", "(LModelSheet$Rule;I)I"⟩, 10) := ⟨⟨by decide +kernel, by decide +kernel⟩, List.mem_of_getElem? (i := 224) (by decide +kernel), List.mem_of_getElem? (i := 894) (by decide +kernel), List.mem_of_getElem? (i := 895) (by decide +kernel)⟩
theorem lw_p24 : lw_okq (⟨"ModelSheet$Calculator", "pop", "()J"⟩, 10) := ⟨⟨by decide +kernel, by decide +kernel⟩, List.mem_of_getElem? (i := 224) (by decide +kernel), List.mem_of_getElem? (i := 898) (by decide +kernel), List.mem_of_getElem? (i := 899) (by decide +kernel)⟩
theorem lw_p25 : lw_okq (⟨"ModelSheet$Calculator", "rollUp", "(III)J"⟩, 10) := ⟨⟨by decide +kernel, by decide +kernel⟩, List.mem_of_getElem? (i := 224) (by decide +kernel), List.mem_of_getElem? (i := 916) (by decide +kernel), List.mem_of_getElem? (i := 917) (by decide +kernel)⟩
theorem lw_p26 : lw_okq (⟨"ModelSheet$Calculator", "mean", "(III)J"⟩, 10) := ⟨⟨by decide +kernel, by decide +kernel⟩, List.mem_of_getElem? (i := 224) (by decide +kernel), List.mem_of_getElem? (i := 920) (by decide +kernel), List.mem_of_getElem? (i := 921) (by decide +kernel)⟩
theorem lw_p27 : lw_okq (⟨"ModelSheet$Spreader", "gather", "([I)V"⟩, 6) := ⟨⟨by decide +kernel, by decide +kernel⟩, List.mem_of_getElem? (i := 264) (by decide +kernel), List.mem_of_getElem? (i := 1183) (by decide +kernel), List.mem_of_getElem? (i := 1184) (by decide +kernel)⟩
theorem lw_p28 : lw_okq (⟨"ModelSheet$Spreader", "leafCellAt", "(I)I"⟩, 6) := ⟨⟨by decide +kernel, by decide +kernel⟩, List.mem_of_getElem? (i := 264) (by decide +kernel), List.mem_of_getElem? (i := 1187) (by decide +kernel), List.mem_of_getElem? (i := 1188) (by decide +kernel)⟩
theorem lw_p29 : lw_okq (⟨"ModelSheet$Spreader", "isRuled", "([I)Z"⟩, 6) := ⟨⟨by decide +kernel, by decide +kernel⟩, List.mem_of_getElem? (i := 264) (by decide +kernel), List.mem_of_getElem? (i := 1202) (by decide +kernel), List.mem_of_getElem? (i := 1203) (by decide +kernel)⟩
theorem lw_p30 : lw_okq (⟨"ModelSheet$Spreader", "isSummed", "([I)Z"⟩, 6) := ⟨⟨by decide +kernel, by decide +kernel⟩, List.mem_of_getElem? (i := 264) (by decide +kernel), List.mem_of_getElem? (i := 1207) (by decide +kernel), List.mem_of_getElem? (i := 1208) (by decide +kernel)⟩
theorem lw_p31 : lw_okq (⟨"ModelSheet$Spreader", "canWeigh", "(I)Z"⟩, 6) := ⟨⟨by decide +kernel, by decide +kernel⟩, List.mem_of_getElem? (i := 264) (by decide +kernel), List.mem_of_getElem? (i := 1213) (by decide +kernel), List.mem_of_getElem? (i := 1214) (by decide +kernel)⟩
def lw_privs_2 : List (MethodName × Nat) := [(⟨"ModelSheet$Calculator", "follow", "(LModelSheet$Rule;II)J"⟩, 10), (⟨"ModelSheet$Calculator", "obey", "(LModelSheet$Rule;III)I"⟩, 10), (⟨"ModelSheet$Calculator", "push", "(J)V"⟩, 10), (⟨"ModelSheet$Calculator", "refer", "(LModelSheet$Rule;III)J"⟩, 10), (⟨"ModelSheet$Calculator", "total", "(III)J"⟩, 10), (⟨"ModelSheet$Calculator", "addUp", "(III)J"⟩, 10), (⟨"ModelSheet$Calculator", "target", "(LModelSheet$Tree;II)I"⟩, 10), (⟨"ModelSheet$Calculator", "choose", "(LModelSheet$Rule;I)I"⟩, 10), (⟨"ModelSheet$Calculator", "pop", "()J"⟩, 10), (⟨"ModelSheet$Calculator", "rollUp", "(III)J"⟩, 10), (⟨"ModelSheet$Calculator", "mean", "(III)J"⟩, 10), (⟨"ModelSheet$Spreader", "gather", "([I)V"⟩, 6), (⟨"ModelSheet$Spreader", "leafCellAt", "(I)I"⟩, 6), (⟨"ModelSheet$Spreader", "isRuled", "([I)Z"⟩, 6), (⟨"ModelSheet$Spreader", "isSummed", "([I)Z"⟩, 6), (⟨"ModelSheet$Spreader", "canWeigh", "(I)Z"⟩, 6)]
theorem lw_r2 : ∀ q ∈ lw_privs_2, lw_okq q := List.forall_mem_cons.mpr ⟨lw_p16, List.forall_mem_cons.mpr ⟨lw_p17, List.forall_mem_cons.mpr ⟨lw_p18, List.forall_mem_cons.mpr ⟨lw_p19, List.forall_mem_cons.mpr ⟨lw_p20, List.forall_mem_cons.mpr ⟨lw_p21, List.forall_mem_cons.mpr ⟨lw_p22, List.forall_mem_cons.mpr ⟨lw_p23, List.forall_mem_cons.mpr ⟨lw_p24, List.forall_mem_cons.mpr ⟨lw_p25, List.forall_mem_cons.mpr ⟨lw_p26, List.forall_mem_cons.mpr ⟨lw_p27, List.forall_mem_cons.mpr ⟨lw_p28, List.forall_mem_cons.mpr ⟨lw_p29, List.forall_mem_cons.mpr ⟨lw_p30, List.forall_mem_cons.mpr ⟨lw_p31, fun _ h => absurd h List.not_mem_nil⟩⟩⟩⟩⟩⟩⟩⟩⟩⟩⟩⟩⟩⟩⟩⟩
theorem lw_p32 : lw_okq (⟨"ModelSheet$Spreader", "weightOf", "(II)J"⟩, 6) := ⟨⟨by decide +kernel, by decide +kernel⟩, List.mem_of_getElem? (i := 264) (by decide +kernel), List.mem_of_getElem? (i := 1217) (by decide +kernel), List.mem_of_getElem? (i := 1218) (by decide +kernel)⟩
theorem lw_p33 : lw_okq (⟨"ModelSheet$History", "exchange", "(I)V"⟩, 6) := ⟨⟨by decide +kernel, by decide +kernel⟩, List.mem_of_getElem? (i := 196) (by decide +kernel), List.mem_of_getElem? (i := 1239) (by decide +kernel), List.mem_of_getElem? (i := 1240) (by decide +kernel)⟩
theorem lw_p34 : lw_okq (⟨"ModelSheetModel", "findLeaves", "(I)V"⟩, 69) := ⟨⟨by decide +kernel, by decide +kernel⟩, List.mem_of_getElem? (i := 1280) (by decide +kernel), List.mem_of_getElem? (i := 1286) (by decide +kernel), List.mem_of_getElem? (i := 1287) (by decide +kernel)⟩
theorem lw_p35 : lw_okq (⟨"ModelSheetModel", "isLeaf", "(II)Z"⟩, 69) := ⟨⟨by decide +kernel, by decide +kernel⟩, List.mem_of_getElem? (i := 1280) (by decide +kernel), List.mem_of_getElem? (i := 1290) (by decide +kernel), List.mem_of_getElem? (i := 1291) (by decide +kernel)⟩
theorem lw_p36 : lw_okq (⟨"ModelSheetModel", "child", "(III)I"⟩, 69) := ⟨⟨by decide +kernel, by decide +kernel⟩, List.mem_of_getElem? (i := 1280) (by decide +kernel), List.mem_of_getElem? (i := 1294) (by decide +kernel), List.mem_of_getElem? (i := 1295) (by decide +kernel)⟩
theorem lw_p37 : lw_okq (⟨"ModelSheetModel", "isMember", "(II)Z"⟩, 69) := ⟨⟨by decide +kernel, by decide +kernel⟩, List.mem_of_getElem? (i := 1280) (by decide +kernel), List.mem_of_getElem? (i := 1518) (by decide +kernel), List.mem_of_getElem? (i := 1519) (by decide +kernel)⟩
theorem lw_p38 : lw_okq (⟨"ModelSheetModel", "many", "(I)I"⟩, 69) := ⟨⟨by decide +kernel, by decide +kernel⟩, List.mem_of_getElem? (i := 1280) (by decide +kernel), List.mem_of_getElem? (i := 1522) (by decide +kernel), List.mem_of_getElem? (i := 1523) (by decide +kernel)⟩
theorem lw_p39 : lw_okq (⟨"ModelSheetModel", "goes", "(ZZZ)Z"⟩, 69) := ⟨⟨by decide +kernel, by decide +kernel⟩, List.mem_of_getElem? (i := 1280) (by decide +kernel), List.mem_of_getElem? (i := 1526) (by decide +kernel), List.mem_of_getElem? (i := 1527) (by decide +kernel)⟩
theorem lw_p40 : lw_okq (⟨"ModelSheetModel", "forget", "()V"⟩, 69) := ⟨⟨by decide +kernel, by decide +kernel⟩, List.mem_of_getElem? (i := 1280) (by decide +kernel), List.mem_of_getElem? (i := 1530) (by decide +kernel), List.mem_of_getElem? (i := 1531) (by decide +kernel)⟩
theorem lw_p41 : lw_okq (⟨"ModelSheetModel", "under", "(III)Z"⟩, 69) := ⟨⟨by decide +kernel, by decide +kernel⟩, List.mem_of_getElem? (i := 1280) (by decide +kernel), List.mem_of_getElem? (i := 1538) (by decide +kernel), List.mem_of_getElem? (i := 1539) (by decide +kernel)⟩
theorem lw_p42 : lw_okq (⟨"ModelSheetModel", "depth", "(II)I"⟩, 69) := ⟨⟨by decide +kernel, by decide +kernel⟩, List.mem_of_getElem? (i := 1280) (by decide +kernel), List.mem_of_getElem? (i := 1542) (by decide +kernel), List.mem_of_getElem? (i := 1543) (by decide +kernel)⟩
theorem lw_p43 : lw_okq (⟨"ModelSheetModel", "inRules", "(II)Z"⟩, 69) := ⟨⟨by decide +kernel, by decide +kernel⟩, List.mem_of_getElem? (i := 1280) (by decide +kernel), List.mem_of_getElem? (i := 1550) (by decide +kernel), List.mem_of_getElem? (i := 1551) (by decide +kernel)⟩
theorem lw_p44 : lw_okq (⟨"ModelSheetModel", "read", "()I"⟩, 69) := ⟨⟨by decide +kernel, by decide +kernel⟩, List.mem_of_getElem? (i := 1280) (by decide +kernel), List.mem_of_getElem? (i := 1582) (by decide +kernel), List.mem_of_getElem? (i := 1583) (by decide +kernel)⟩
theorem lw_p45 : lw_okq (⟨"ModelSheetModel", "open", "(III)V"⟩, 69) := ⟨⟨by decide +kernel, by decide +kernel⟩, List.mem_of_getElem? (i := 1280) (by decide +kernel), List.mem_of_getElem? (i := 1586) (by decide +kernel), List.mem_of_getElem? (i := 1587) (by decide +kernel)⟩
theorem lw_p46 : lw_okq (⟨"ModelSheetModel", "takes", "(C)Z"⟩, 69) := ⟨⟨by decide +kernel, by decide +kernel⟩, List.mem_of_getElem? (i := 1280) (by decide +kernel), List.mem_of_getElem? (i := 1590) (by decide +kernel), List.mem_of_getElem? (i := 1591) (by decide +kernel)⟩
theorem lw_p47 : lw_okq (⟨"ModelSheetModel", "begins", "(C)Z"⟩, 69) := ⟨⟨by decide +kernel, by decide +kernel⟩, List.mem_of_getElem? (i := 1280) (by decide +kernel), List.mem_of_getElem? (i := 1594) (by decide +kernel), List.mem_of_getElem? (i := 1595) (by decide +kernel)⟩
def lw_privs_3 : List (MethodName × Nat) := [(⟨"ModelSheet$Spreader", "weightOf", "(II)J"⟩, 6), (⟨"ModelSheet$History", "exchange", "(I)V"⟩, 6), (⟨"ModelSheetModel", "findLeaves", "(I)V"⟩, 69), (⟨"ModelSheetModel", "isLeaf", "(II)Z"⟩, 69), (⟨"ModelSheetModel", "child", "(III)I"⟩, 69), (⟨"ModelSheetModel", "isMember", "(II)Z"⟩, 69), (⟨"ModelSheetModel", "many", "(I)I"⟩, 69), (⟨"ModelSheetModel", "goes", "(ZZZ)Z"⟩, 69), (⟨"ModelSheetModel", "forget", "()V"⟩, 69), (⟨"ModelSheetModel", "under", "(III)Z"⟩, 69), (⟨"ModelSheetModel", "depth", "(II)I"⟩, 69), (⟨"ModelSheetModel", "inRules", "(II)Z"⟩, 69), (⟨"ModelSheetModel", "read", "()I"⟩, 69), (⟨"ModelSheetModel", "open", "(III)V"⟩, 69), (⟨"ModelSheetModel", "takes", "(C)Z"⟩, 69), (⟨"ModelSheetModel", "begins", "(C)Z"⟩, 69)]
theorem lw_r3 : ∀ q ∈ lw_privs_3, lw_okq q := List.forall_mem_cons.mpr ⟨lw_p32, List.forall_mem_cons.mpr ⟨lw_p33, List.forall_mem_cons.mpr ⟨lw_p34, List.forall_mem_cons.mpr ⟨lw_p35, List.forall_mem_cons.mpr ⟨lw_p36, List.forall_mem_cons.mpr ⟨lw_p37, List.forall_mem_cons.mpr ⟨lw_p38, List.forall_mem_cons.mpr ⟨lw_p39, List.forall_mem_cons.mpr ⟨lw_p40, List.forall_mem_cons.mpr ⟨lw_p41, List.forall_mem_cons.mpr ⟨lw_p42, List.forall_mem_cons.mpr ⟨lw_p43, List.forall_mem_cons.mpr ⟨lw_p44, List.forall_mem_cons.mpr ⟨lw_p45, List.forall_mem_cons.mpr ⟨lw_p46, List.forall_mem_cons.mpr ⟨lw_p47, fun _ h => absurd h List.not_mem_nil⟩⟩⟩⟩⟩⟩⟩⟩⟩⟩⟩⟩⟩⟩⟩⟩
theorem lw_p48 : lw_okq (⟨"ModelSheetModel", "shifts", "(C)Z"⟩, 69) := ⟨⟨by decide +kernel, by decide +kernel⟩, List.mem_of_getElem? (i := 1280) (by decide +kernel), List.mem_of_getElem? (i := 1598) (by decide +kernel), List.mem_of_getElem? (i := 1599) (by decide +kernel)⟩
theorem lw_p49 : lw_okq (⟨"ModelSheetModel", "endUnit", "()V"⟩, 69) := ⟨⟨by decide +kernel, by decide +kernel⟩, List.mem_of_getElem? (i := 1280) (by decide +kernel), List.mem_of_getElem? (i := 1602) (by decide +kernel), List.mem_of_getElem? (i := 1603) (by decide +kernel)⟩
theorem lw_p50 : lw_okq (⟨"ModelSheetModel", "emit", "(III)I"⟩, 69) := ⟨⟨by decide +kernel, by decide +kernel⟩, List.mem_of_getElem? (i := 1280) (by decide +kernel), List.mem_of_getElem? (i := 1606) (by decide +kernel), List.mem_of_getElem? (i := 1607) (by decide +kernel)⟩
theorem lw_p51 : lw_okq (⟨"ModelSheetModel", "follows", "(C)Z"⟩, 69) := ⟨⟨by decide +kernel, by decide +kernel⟩, List.mem_of_getElem? (i := 1280) (by decide +kernel), List.mem_of_getElem? (i := 1610) (by decide +kernel), List.mem_of_getElem? (i := 1611) (by decide +kernel)⟩
theorem lw_p52 : lw_okq (⟨"ModelSheetModel", "pour", "(I)V"⟩, 69) := ⟨⟨by decide +kernel, by decide +kernel⟩, List.mem_of_getElem? (i := 1280) (by decide +kernel), List.mem_of_getElem? (i := 1617) (by decide +kernel), List.mem_of_getElem? (i := 1618) (by decide +kernel)⟩
theorem lw_p53 : lw_okq (⟨"ModelSheetModel", "enclosing", "()I"⟩, 69) := ⟨⟨by decide +kernel, by decide +kernel⟩, List.mem_of_getElem? (i := 1280) (by decide +kernel), List.mem_of_getElem? (i := 1621) (by decide +kernel), List.mem_of_getElem? (i := 1622) (by decide +kernel)⟩
theorem lw_p54 : lw_okq (⟨"ModelSheetModel", "endElses", "()V"⟩, 69) := ⟨⟨by decide +kernel, by decide +kernel⟩, List.mem_of_getElem? (i := 1280) (by decide +kernel), List.mem_of_getElem? (i := 1625) (by decide +kernel), List.mem_of_getElem? (i := 1626) (by decide +kernel)⟩
theorem lw_p55 : lw_okq (⟨"ModelSheetModel", "here", "()I"⟩, 69) := ⟨⟨by decide +kernel, by decide +kernel⟩, List.mem_of_getElem? (i := 1280) (by decide +kernel), List.mem_of_getElem? (i := 1637) (by decide +kernel), List.mem_of_getElem? (i := 1638) (by decide +kernel)⟩
theorem lw_p56 : lw_okq (⟨"ModelSheetModel", "isLayer", "(I)Z"⟩, 69) := ⟨⟨by decide +kernel, by decide +kernel⟩, List.mem_of_getElem? (i := 1280) (by decide +kernel), List.mem_of_getElem? (i := 1641) (by decide +kernel), List.mem_of_getElem? (i := 1642) (by decide +kernel)⟩
theorem lw_p57 : lw_okq (⟨"ModelSheetModel", "leafCell", "(I)Z"⟩, 69) := ⟨⟨by decide +kernel, by decide +kernel⟩, List.mem_of_getElem? (i := 1280) (by decide +kernel), List.mem_of_getElem? (i := 1650) (by decide +kernel), List.mem_of_getElem? (i := 1651) (by decide +kernel)⟩
theorem lw_p58 : lw_okq (⟨"ModelSheetModel", "newEdit", "(I)V"⟩, 69) := ⟨⟨by decide +kernel, by decide +kernel⟩, List.mem_of_getElem? (i := 1280) (by decide +kernel), List.mem_of_getElem? (i := 1654) (by decide +kernel), List.mem_of_getElem? (i := 1655) (by decide +kernel)⟩
theorem lw_p59 : lw_okq (⟨"ModelSheetModel", "change", "(IZI)V"⟩, 69) := ⟨⟨by decide +kernel, by decide +kernel⟩, List.mem_of_getElem? (i := 1280) (by decide +kernel), List.mem_of_getElem? (i := 1658) (by decide +kernel), List.mem_of_getElem? (i := 1659) (by decide +kernel)⟩
theorem lw_p60 : lw_okq (⟨"ModelSheetModel", "asked", "(I)Z"⟩, 69) := ⟨⟨by decide +kernel, by decide +kernel⟩, List.mem_of_getElem? (i := 1280) (by decide +kernel), List.mem_of_getElem? (i := 1670) (by decide +kernel), List.mem_of_getElem? (i := 1671) (by decide +kernel)⟩
theorem lw_p61 : lw_okq (⟨"ModelSheetModel", "work", "(II)Z"⟩, 69) := ⟨⟨by decide +kernel, by decide +kernel⟩, List.mem_of_getElem? (i := 1280) (by decide +kernel), List.mem_of_getElem? (i := 1674) (by decide +kernel), List.mem_of_getElem? (i := 1675) (by decide +kernel)⟩
theorem lw_p62 : lw_okq (⟨"ModelSheetModel", "need", "(I)V"⟩, 69) := ⟨⟨by decide +kernel, by decide +kernel⟩, List.mem_of_getElem? (i := 1280) (by decide +kernel), List.mem_of_getElem? (i := 1678) (by decide +kernel), List.mem_of_getElem? (i := 1679) (by decide +kernel)⟩
theorem lw_p63 : lw_okq (⟨"ModelSheetModel", "working", "(I)Z"⟩, 69) := ⟨⟨by decide +kernel, by decide +kernel⟩, List.mem_of_getElem? (i := 1280) (by decide +kernel), List.mem_of_getElem? (i := 1682) (by decide +kernel), List.mem_of_getElem? (i := 1683) (by decide +kernel)⟩
def lw_privs_4 : List (MethodName × Nat) := [(⟨"ModelSheetModel", "shifts", "(C)Z"⟩, 69), (⟨"ModelSheetModel", "endUnit", "()V"⟩, 69), (⟨"ModelSheetModel", "emit", "(III)I"⟩, 69), (⟨"ModelSheetModel", "follows", "(C)Z"⟩, 69), (⟨"ModelSheetModel", "pour", "(I)V"⟩, 69), (⟨"ModelSheetModel", "enclosing", "()I"⟩, 69), (⟨"ModelSheetModel", "endElses", "()V"⟩, 69), (⟨"ModelSheetModel", "here", "()I"⟩, 69), (⟨"ModelSheetModel", "isLayer", "(I)Z"⟩, 69), (⟨"ModelSheetModel", "leafCell", "(I)Z"⟩, 69), (⟨"ModelSheetModel", "newEdit", "(I)V"⟩, 69), (⟨"ModelSheetModel", "change", "(IZI)V"⟩, 69), (⟨"ModelSheetModel", "asked", "(I)Z"⟩, 69), (⟨"ModelSheetModel", "work", "(II)Z"⟩, 69), (⟨"ModelSheetModel", "need", "(I)V"⟩, 69), (⟨"ModelSheetModel", "working", "(I)Z"⟩, 69)]
theorem lw_r4 : ∀ q ∈ lw_privs_4, lw_okq q := List.forall_mem_cons.mpr ⟨lw_p48, List.forall_mem_cons.mpr ⟨lw_p49, List.forall_mem_cons.mpr ⟨lw_p50, List.forall_mem_cons.mpr ⟨lw_p51, List.forall_mem_cons.mpr ⟨lw_p52, List.forall_mem_cons.mpr ⟨lw_p53, List.forall_mem_cons.mpr ⟨lw_p54, List.forall_mem_cons.mpr ⟨lw_p55, List.forall_mem_cons.mpr ⟨lw_p56, List.forall_mem_cons.mpr ⟨lw_p57, List.forall_mem_cons.mpr ⟨lw_p58, List.forall_mem_cons.mpr ⟨lw_p59, List.forall_mem_cons.mpr ⟨lw_p60, List.forall_mem_cons.mpr ⟨lw_p61, List.forall_mem_cons.mpr ⟨lw_p62, List.forall_mem_cons.mpr ⟨lw_p63, fun _ h => absurd h List.not_mem_nil⟩⟩⟩⟩⟩⟩⟩⟩⟩⟩⟩⟩⟩⟩⟩⟩
theorem lw_p64 : lw_okq (⟨"ModelSheetModel", "result", "(IJ)V"⟩, 69) := ⟨⟨by decide +kernel, by decide +kernel⟩, List.mem_of_getElem? (i := 1280) (by decide +kernel), List.mem_of_getElem? (i := 1686) (by decide +kernel), List.mem_of_getElem? (i := 1687) (by decide +kernel)⟩
theorem lw_p65 : lw_okq (⟨"ModelSheetModel", "deliver", "()V"⟩, 69) := ⟨⟨by decide +kernel, by decide +kernel⟩, List.mem_of_getElem? (i := 1280) (by decide +kernel), List.mem_of_getElem? (i := 1690) (by decide +kernel), List.mem_of_getElem? (i := 1691) (by decide +kernel)⟩
theorem lw_p66 : lw_okq (⟨"ModelSheetModel", "push", "(IJ)V"⟩, 69) := ⟨⟨by decide +kernel, by decide +kernel⟩, List.mem_of_getElem? (i := 1280) (by decide +kernel), List.mem_of_getElem? (i := 1694) (by decide +kernel), List.mem_of_getElem? (i := 1695) (by decide +kernel)⟩
theorem lw_p67 : lw_okq (⟨"ModelSheetModel", "inputLayer", "(II)I"⟩, 69) := ⟨⟨by decide +kernel, by decide +kernel⟩, List.mem_of_getElem? (i := 1280) (by decide +kernel), List.mem_of_getElem? (i := 1701) (by decide +kernel), List.mem_of_getElem? (i := 1702) (by decide +kernel)⟩
theorem lw_p68 : lw_okq (⟨"ModelSheetModel", "winnerOf", "(I)I"⟩, 69) := ⟨⟨by decide +kernel, by decide +kernel⟩, List.mem_of_getElem? (i := 1280) (by decide +kernel), List.mem_of_getElem? (i := 1705) (by decide +kernel), List.mem_of_getElem? (i := 1706) (by decide +kernel)⟩
theorem lw_p69 : lw_okq (⟨"ModelSheetModel", "fits", "(III)Z"⟩, 69) := ⟨⟨by decide +kernel, by decide +kernel⟩, List.mem_of_getElem? (i := 1280) (by decide +kernel), List.mem_of_getElem? (i := 1709) (by decide +kernel), List.mem_of_getElem? (i := 1710) (by decide +kernel)⟩
theorem lw_p70 : lw_okq (⟨"ModelSheetModel", "special", "(I)I"⟩, 69) := ⟨⟨by decide +kernel, by decide +kernel⟩, List.mem_of_getElem? (i := 1280) (by decide +kernel), List.mem_of_getElem? (i := 1713) (by decide +kernel), List.mem_of_getElem? (i := 1714) (by decide +kernel)⟩
theorem lw_p71 : lw_okq (⟨"ModelSheetModel", "innerDimension", "(I)I"⟩, 69) := ⟨⟨by decide +kernel, by decide +kernel⟩, List.mem_of_getElem? (i := 1280) (by decide +kernel), List.mem_of_getElem? (i := 1717) (by decide +kernel), List.mem_of_getElem? (i := 1718) (by decide +kernel)⟩
theorem lw_p72 : lw_okq (⟨"ModelSheetModel", "frame", "(III)V"⟩, 69) := ⟨⟨by decide +kernel, by decide +kernel⟩, List.mem_of_getElem? (i := 1280) (by decide +kernel), List.mem_of_getElem? (i := 1721) (by decide +kernel), List.mem_of_getElem? (i := 1722) (by decide +kernel)⟩
theorem lw_p73 : lw_okq (⟨"ModelSheetModel", "beginSum", "(III)V"⟩, 69) := ⟨⟨by decide +kernel, by decide +kernel⟩, List.mem_of_getElem? (i := 1280) (by decide +kernel), List.mem_of_getElem? (i := 1725) (by decide +kernel), List.mem_of_getElem? (i := 1726) (by decide +kernel)⟩
theorem lw_p74 : lw_okq (⟨"ModelSheetModel", "sumOn", "(I)V"⟩, 69) := ⟨⟨by decide +kernel, by decide +kernel⟩, List.mem_of_getElem? (i := 1280) (by decide +kernel), List.mem_of_getElem? (i := 1729) (by decide +kernel), List.mem_of_getElem? (i := 1730) (by decide +kernel)⟩
theorem lw_p75 : lw_okq (⟨"ModelSheetModel", "moved", "(III)I"⟩, 69) := ⟨⟨by decide +kernel, by decide +kernel⟩, List.mem_of_getElem? (i := 1280) (by decide +kernel), List.mem_of_getElem? (i := 1733) (by decide +kernel), List.mem_of_getElem? (i := 1734) (by decide +kernel)⟩
theorem lw_p76 : lw_okq (⟨"ModelSheetModel", "orderOn", "(I)V"⟩, 69) := ⟨⟨by decide +kernel, by decide +kernel⟩, List.mem_of_getElem? (i := 1280) (by decide +kernel), List.mem_of_getElem? (i := 1744) (by decide +kernel), List.mem_of_getElem? (i := 1745) (by decide +kernel)⟩
theorem lw_p77 : lw_okq (⟨"ModelSheetModel", "refer", "(III)V"⟩, 69) := ⟨⟨by decide +kernel, by decide +kernel⟩, List.mem_of_getElem? (i := 1280) (by decide +kernel), List.mem_of_getElem? (i := 1749) (by decide +kernel), List.mem_of_getElem? (i := 1750) (by decide +kernel)⟩
theorem lw_p78 : lw_okq (⟨"ModelSheetModel", "target", "(IIII)I"⟩, 69) := ⟨⟨by decide +kernel, by decide +kernel⟩, List.mem_of_getElem? (i := 1280) (by decide +kernel), List.mem_of_getElem? (i := 1753) (by decide +kernel), List.mem_of_getElem? (i := 1754) (by decide +kernel)⟩
theorem lw_p79 : lw_okq (⟨"ModelSheetModel", "leafPlace", "(II)I"⟩, 69) := ⟨⟨by decide +kernel, by decide +kernel⟩, List.mem_of_getElem? (i := 1280) (by decide +kernel), List.mem_of_getElem? (i := 1757) (by decide +kernel), List.mem_of_getElem? (i := 1758) (by decide +kernel)⟩
def lw_privs_5 : List (MethodName × Nat) := [(⟨"ModelSheetModel", "result", "(IJ)V"⟩, 69), (⟨"ModelSheetModel", "deliver", "()V"⟩, 69), (⟨"ModelSheetModel", "push", "(IJ)V"⟩, 69), (⟨"ModelSheetModel", "inputLayer", "(II)I"⟩, 69), (⟨"ModelSheetModel", "winnerOf", "(I)I"⟩, 69), (⟨"ModelSheetModel", "fits", "(III)Z"⟩, 69), (⟨"ModelSheetModel", "special", "(I)I"⟩, 69), (⟨"ModelSheetModel", "innerDimension", "(I)I"⟩, 69), (⟨"ModelSheetModel", "frame", "(III)V"⟩, 69), (⟨"ModelSheetModel", "beginSum", "(III)V"⟩, 69), (⟨"ModelSheetModel", "sumOn", "(I)V"⟩, 69), (⟨"ModelSheetModel", "moved", "(III)I"⟩, 69), (⟨"ModelSheetModel", "orderOn", "(I)V"⟩, 69), (⟨"ModelSheetModel", "refer", "(III)V"⟩, 69), (⟨"ModelSheetModel", "target", "(IIII)I"⟩, 69), (⟨"ModelSheetModel", "leafPlace", "(II)I"⟩, 69)]
theorem lw_r5 : ∀ q ∈ lw_privs_5, lw_okq q := List.forall_mem_cons.mpr ⟨lw_p64, List.forall_mem_cons.mpr ⟨lw_p65, List.forall_mem_cons.mpr ⟨lw_p66, List.forall_mem_cons.mpr ⟨lw_p67, List.forall_mem_cons.mpr ⟨lw_p68, List.forall_mem_cons.mpr ⟨lw_p69, List.forall_mem_cons.mpr ⟨lw_p70, List.forall_mem_cons.mpr ⟨lw_p71, List.forall_mem_cons.mpr ⟨lw_p72, List.forall_mem_cons.mpr ⟨lw_p73, List.forall_mem_cons.mpr ⟨lw_p74, List.forall_mem_cons.mpr ⟨lw_p75, List.forall_mem_cons.mpr ⟨lw_p76, List.forall_mem_cons.mpr ⟨lw_p77, List.forall_mem_cons.mpr ⟨lw_p78, List.forall_mem_cons.mpr ⟨lw_p79, fun _ h => absurd h List.not_mem_nil⟩⟩⟩⟩⟩⟩⟩⟩⟩⟩⟩⟩⟩⟩⟩⟩
theorem lw_p80 : lw_okq (⟨"ModelSheetModel", "compute", "(I)V"⟩, 69) := ⟨⟨by decide +kernel, by decide +kernel⟩, List.mem_of_getElem? (i := 1280) (by decide +kernel), List.mem_of_getElem? (i := 1764) (by decide +kernel), List.mem_of_getElem? (i := 1765) (by decide +kernel)⟩
theorem lw_p81 : lw_okq (⟨"ModelSheetModel", "spreadLeaves", "(I)I"⟩, 69) := ⟨⟨by decide +kernel, by decide +kernel⟩, List.mem_of_getElem? (i := 1280) (by decide +kernel), List.mem_of_getElem? (i := 1806) (by decide +kernel), List.mem_of_getElem? (i := 1807) (by decide +kernel)⟩
theorem lw_p82 : lw_okq (⟨"ModelSheetModel", "among", "(II)Z"⟩, 69) := ⟨⟨by decide +kernel, by decide +kernel⟩, List.mem_of_getElem? (i := 1280) (by decide +kernel), List.mem_of_getElem? (i := 1810) (by decide +kernel), List.mem_of_getElem? (i := 1811) (by decide +kernel)⟩
theorem lw_p83 : lw_okq (⟨"ModelSheetModel", "plain", "(I)Z"⟩, 69) := ⟨⟨by decide +kernel, by decide +kernel⟩, List.mem_of_getElem? (i := 1280) (by decide +kernel), List.mem_of_getElem? (i := 1814) (by decide +kernel), List.mem_of_getElem? (i := 1815) (by decide +kernel)⟩
theorem lw_p84 : lw_okq (⟨"ModelSheetModel", "leafValue", "(II)J"⟩, 69) := ⟨⟨by decide +kernel, by decide +kernel⟩, List.mem_of_getElem? (i := 1280) (by decide +kernel), List.mem_of_getElem? (i := 1818) (by decide +kernel), List.mem_of_getElem? (i := 1819) (by decide +kernel)⟩
theorem lw_p85 : lw_okq (⟨"ModelSheetModel", "inputsInAll", "()I"⟩, 69) := ⟨⟨by decide +kernel, by decide +kernel⟩, List.mem_of_getElem? (i := 1280) (by decide +kernel), List.mem_of_getElem? (i := 1834) (by decide +kernel), List.mem_of_getElem? (i := 1835) (by decide +kernel)⟩
def lw_privs_6 : List (MethodName × Nat) := [(⟨"ModelSheetModel", "compute", "(I)V"⟩, 69), (⟨"ModelSheetModel", "spreadLeaves", "(I)I"⟩, 69), (⟨"ModelSheetModel", "among", "(II)Z"⟩, 69), (⟨"ModelSheetModel", "plain", "(I)Z"⟩, 69), (⟨"ModelSheetModel", "leafValue", "(II)J"⟩, 69), (⟨"ModelSheetModel", "inputsInAll", "()I"⟩, 69)]
theorem lw_r6 : ∀ q ∈ lw_privs_6, lw_okq q := List.forall_mem_cons.mpr ⟨lw_p80, List.forall_mem_cons.mpr ⟨lw_p81, List.forall_mem_cons.mpr ⟨lw_p82, List.forall_mem_cons.mpr ⟨lw_p83, List.forall_mem_cons.mpr ⟨lw_p84, List.forall_mem_cons.mpr ⟨lw_p85, fun _ h => absurd h List.not_mem_nil⟩⟩⟩⟩⟩⟩
def lw_privs : List (MethodName × Nat) := lw_privs_1 ++ (lw_privs_2 ++ (lw_privs_3 ++ (lw_privs_4 ++ (lw_privs_5 ++ (lw_privs_6)))))
def lw_tbl : List Cond := k2_sels lw_privs ++ tables_1
theorem lw_privs_ok : ∀ q ∈ lw_privs, lw_okq q := by
  show ∀ q ∈ lw_privs_1 ++ (lw_privs_2 ++ (lw_privs_3 ++ (lw_privs_4 ++ (lw_privs_5 ++ (lw_privs_6))))), lw_okq q
  exact List.forall_mem_append.mpr ⟨lw_r1, List.forall_mem_append.mpr ⟨lw_r2, List.forall_mem_append.mpr ⟨lw_r3, List.forall_mem_append.mpr ⟨lw_r4, List.forall_mem_append.mpr ⟨lw_r5, lw_r6⟩⟩⟩⟩⟩
def am_Y_0 : List (MethodName) := [⟨"ModelSheetLaw", "law", "([I)Z"⟩, ⟨"ModelSheetLaw", "about", "(LModelSheet;III[J)I"⟩, ⟨"ModelSheetLaw", "at", "(LModelSheet;II[J)I"⟩, ⟨"ModelSheetLaw", "count", "(LModelSheet;I[J)I"⟩, ⟨"ModelSheetLaw", "drop", "(LModelSheet;II[J)I"⟩, ⟨"ModelSheetLaw", "dropLayer", "(LModelSheet;Z[J)I"⟩, ⟨"ModelSheetLaw", "dropRule", "(LModelSheet;I[J)I"⟩, ⟨"ModelSheetLaw", "erase", "(LModelSheet;I[J)I"⟩, ⟨"ModelSheetLaw", "filled", "(LModelSheet;I[D)I"⟩, ⟨"ModelSheetLaw", "fuel", "(LModelSheet;I[J)I"⟩, ⟨"ModelSheetLaw", "layer", "(LModelSheet;[J)I"⟩, ⟨"ModelSheetLaw", "member", "(LModelSheet;III[J)I"⟩, ⟨"ModelSheetLaw", "move", "(LModelSheet;III[J)I"⟩, ⟨"ModelSheetLaw", "pattern", "(LModelSheet;III)I"⟩, ⟨"ModelSheetLaw", "put", "(LModelSheet;II)I"⟩, ⟨"ModelSheetLaw", "redo", "(LModelSheet;[J)I"⟩, ⟨"ModelSheetLaw", "rule", "(LModelSheet;[J)I"⟩, ⟨"ModelSheetLaw", "shown", "(LModelSheet;II[J)I"⟩, ⟨"ModelSheetLaw", "spread", "(LModelSheet;II[J)I"⟩, ⟨"ModelSheetLaw", "state", "(LModelSheet;I[J)I"⟩, ⟨"ModelSheetLaw", "undo", "(LModelSheet;[J)I"⟩, ⟨"ModelSheetLaw", "value", "(LModelSheet;I[J)I"⟩, ⟨"ModelSheetLaw", "winner", "(LModelSheet;[J)I"⟩, ⟨"ModelSheet", "<init>", "()V"⟩, ⟨"ModelSheet", "about", "(III)I"⟩, ⟨"ModelSheet", "at", "(II)I"⟩, ⟨"ModelSheet", "canLook", "(I)Z"⟩, ⟨"ModelSheet", "count", "(I)I"⟩, ⟨"ModelSheet", "cursorAmount", "(I)J"⟩, ⟨"ModelSheet", "cursorCell", "()I"⟩, ⟨"ModelSheet", "drop", "(II)I"⟩, ⟨"ModelSheet", "dropLayer", "(Z)I"⟩, ⟨"ModelSheet", "dropRule", "(I)I"⟩, ⟨"ModelSheet", "erase", "(I)Z"⟩, ⟨"ModelSheet", "filled", "(I)F"⟩, ⟨"ModelSheet", "fuel", "(I)I"⟩, ⟨"ModelSheet", "layer", "()I"⟩, ⟨"ModelSheet", "member", "(III)I"⟩, ⟨"ModelSheet", "move", "(III)I"⟩, ⟨"ModelSheet", "pattern", "(III)V"⟩]
def am_Y_1 : List (MethodName) := [⟨"ModelSheet", "put", "(II)V"⟩, ⟨"ModelSheet", "redo", "()I"⟩, ⟨"ModelSheet", "rule", "()I"⟩, ⟨"ModelSheet", "shown", "(II)I"⟩, ⟨"ModelSheet", "spread", "(II)I"⟩, ⟨"ModelSheet", "state", "(I)I"⟩, ⟨"ModelSheet", "steps", "()I"⟩, ⟨"ModelSheet", "type", "(C)Z"⟩, ⟨"ModelSheet", "undo", "()I"⟩, ⟨"ModelSheet", "value", "(I)I"⟩, ⟨"ModelSheet", "winner", "()I"⟩, ⟨"ModelSheet$Amount", "combined", "(IJJ)J"⟩, ⟨"ModelSheet$Amount", "fitted", "(J)J"⟩, ⟨"ModelSheet$Amount", "isFault", "(J)Z"⟩, ⟨"ModelSheet$Amount", "isInRange", "(J)Z"⟩, ⟨"ModelSheet$Amount", "kindOf", "(J)I"⟩, ⟨"ModelSheet$Amount", "of", "(I)J"⟩, ⟨"ModelSheet$Amount", "plain", "(J)J"⟩, ⟨"ModelSheet$Amount", "rounded", "(JJ)J"⟩, ⟨"ModelSheet$Amount", "stronger", "(II)I"⟩, ⟨"ModelSheet$Amount", "textOf", "(J)Ljava/lang/StringBuilder;"⟩, ⟨"ModelSheet$Amount", "writeNumber", "(Ljava/lang/StringBuilder;J)V"⟩, ⟨"ModelSheet$Calculator", "<init>", "(LModelSheet$Space;LModelSheet$RuleBook;LModelSheet$Grid;)V"⟩, ⟨"ModelSheet$Calculator", "addUp", "(III)J"⟩, ⟨"ModelSheet$Calculator", "amountOf", "(II)J"⟩, ⟨"ModelSheet$Calculator", "choose", "(LModelSheet$Rule;I)I"⟩, ⟨"ModelSheet$Calculator", "follow", "(LModelSheet$Rule;II)J"⟩, ⟨"ModelSheet$Calculator", "mean", "(III)J"⟩, ⟨"ModelSheet$Calculator", "obey", "(LModelSheet$Rule;III)I"⟩, ⟨"ModelSheet$Calculator", "pop", "()J"⟩, ⟨"ModelSheet$Calculator", "push", "(J)V"⟩, ⟨"ModelSheet$Calculator", "refer", "(LModelSheet$Rule;III)J"⟩, ⟨"ModelSheet$Calculator", "rollUp", "(III)J"⟩, ⟨"ModelSheet$Calculator", "target", "(LModelSheet$Tree;II)I"⟩, ⟨"ModelSheet$Calculator", "total", "(III)J"⟩, ⟨"ModelSheet$Calculator", "work", "(II)J"⟩, ⟨"ModelSheet$Calculator", "workInside", "(II)J"⟩, ⟨"ModelSheet$Grid", "<init>", "()V"⟩, ⟨"ModelSheet$Grid", "allInputs", "()I"⟩, ⟨"ModelSheet$Grid", "has", "(I)Z"⟩]
def am_Y_2 : List (MethodName) := [⟨"ModelSheet$Grid", "lay", "()I"⟩, ⟨"ModelSheet$Grid", "lift", "(Z)I"⟩, ⟨"ModelSheet$Grid", "seenFrom", "(II)I"⟩, ⟨"ModelSheet$Grid", "wipe", "(II)I"⟩, ⟨"ModelSheet$History", "<init>", "(LModelSheet$Grid;)V"⟩, ⟨"ModelSheet$History", "exchange", "(I)V"⟩, ⟨"ModelSheet$History", "forget", "()V"⟩, ⟨"ModelSheet$History", "keep", "(I)V"⟩, ⟨"ModelSheet$History", "stepBack", "()V"⟩, ⟨"ModelSheet$History", "stepForth", "()V"⟩, ⟨"ModelSheet$Pad", "<init>", "()V"⟩, ⟨"ModelSheet$Pad", "add", "(C)Z"⟩, ⟨"ModelSheet$Pad", "charAt", "(I)C"⟩, ⟨"ModelSheet$Pad", "clear", "()V"⟩, ⟨"ModelSheet$Reader", "<init>", "(LModelSheet$Pad;LModelSheet$Rule;)V"⟩, ⟨"ModelSheet$Reader", "findFault", "()I"⟩, ⟨"ModelSheet$Reader", "isDigit", "(C)Z"⟩, ⟨"ModelSheet$Reader", "isProductSign", "(C)Z"⟩, ⟨"ModelSheet$Reader", "isSumSign", "(C)Z"⟩, ⟨"ModelSheet$Reader", "look", "()C"⟩, ⟨"ModelSheet$Reader", "readBracket", "(I)Z"⟩, ⟨"ModelSheet$Reader", "readFormula", "(I)Z"⟩, ⟨"ModelSheet$Reader", "readNumber", "()V"⟩, ⟨"ModelSheet$Reader", "readProduct", "(I)Z"⟩, ⟨"ModelSheet$Reader", "readReference", "()Z"⟩, ⟨"ModelSheet$Reader", "readSum", "(I)Z"⟩, ⟨"ModelSheet$Reader", "readUnit", "(I)Z"⟩, ⟨"ModelSheet$Rule", "<init>", "()V"⟩, ⟨"ModelSheet$Rule", "append", "(II)I"⟩, ⟨"ModelSheet$Rule", "clear", "()V"⟩, ⟨"ModelSheet$Rule", "copy", "(LModelSheet$Rule;)V"⟩, ⟨"ModelSheet$Rule", "dimensionOf", "(I)I"⟩, ⟨"ModelSheet$Rule", "fits", "(LModelSheet$Space;I)Z"⟩, ⟨"ModelSheet$Rule", "forgetPattern", "(II)V"⟩, ⟨"ModelSheet$Rule", "names", "(II)Z"⟩, ⟨"ModelSheet$Rule", "rank", "(LModelSheet$Space;)I"⟩, ⟨"ModelSheet$Rule", "shift", "(II)I"⟩, ⟨"ModelSheet$Rule", "wayOf", "(I)I"⟩, ⟨"ModelSheet$RuleBook", "<init>", "()V"⟩, ⟨"ModelSheet$RuleBook", "adopt", "(LModelSheet$Rule;)V"⟩]
def am_Y_3 : List (MethodName) := [⟨"ModelSheet$RuleBook", "best", "(LModelSheet$Space;I)I"⟩, ⟨"ModelSheet$RuleBook", "get", "(I)LModelSheet$Rule;"⟩, ⟨"ModelSheet$RuleBook", "names", "(II)Z"⟩, ⟨"ModelSheet$RuleBook", "strike", "(I)V"⟩, ⟨"ModelSheet$Space", "<init>", "()V"⟩, ⟨"ModelSheet$Space", "canHang", "(II)Z"⟩, ⟨"ModelSheet$Space", "has", "(II)Z"⟩, ⟨"ModelSheet$Space", "holds", "([I)Z"⟩, ⟨"ModelSheet$Space", "innerDimension", "(I)I"⟩, ⟨"ModelSheet$Space", "isLeafCell", "(I)Z"⟩, ⟨"ModelSheet$Space", "isWithin", "(I[I)Z"⟩, ⟨"ModelSheet$Space", "memberOf", "(II)I"⟩, ⟨"ModelSheet$Space", "with", "(III)I"⟩, ⟨"ModelSheet$Spreader", "<init>", "(LModelSheet$Space;LModelSheet$RuleBook;LModelSheet$Grid;)V"⟩, ⟨"ModelSheet$Spreader", "canSpread", "(I[II)Z"⟩, ⟨"ModelSheet$Spreader", "canWeigh", "(I)Z"⟩, ⟨"ModelSheet$Spreader", "gather", "([I)V"⟩, ⟨"ModelSheet$Spreader", "isRuled", "([I)Z"⟩, ⟨"ModelSheet$Spreader", "isSummed", "([I)Z"⟩, ⟨"ModelSheet$Spreader", "leafCellAt", "(I)I"⟩, ⟨"ModelSheet$Spreader", "share", "(II)V"⟩, ⟨"ModelSheet$Spreader", "weightOf", "(II)J"⟩, ⟨"ModelSheet$Tree", "<init>", "()V"⟩, ⟨"ModelSheet$Tree", "arrange", "()V"⟩, ⟨"ModelSheet$Tree", "cut", "(I)V"⟩, ⟨"ModelSheet$Tree", "firstChild", "(I)I"⟩, ⟨"ModelSheet$Tree", "grow", "(II)I"⟩, ⟨"ModelSheet$Tree", "hang", "(II)V"⟩, ⟨"ModelSheet$Tree", "has", "(I)Z"⟩, ⟨"ModelSheet$Tree", "isChild", "(II)Z"⟩, ⟨"ModelSheet$Tree", "isLeaf", "(I)Z"⟩, ⟨"ModelSheet$Tree", "isWithin", "(II)Z"⟩, ⟨"ModelSheet$Tree", "lastChild", "(I)I"⟩, ⟨"ModelSheet$Tree", "leafAt", "(I)I"⟩, ⟨"ModelSheet$Tree", "leafBeside", "(II)I"⟩, ⟨"ModelSheet$Tree", "walk", "(II)V"⟩, ⟨"ModelSheetModel", "<init>", "()V"⟩, ⟨"ModelSheetModel", "about", "(III)I"⟩, ⟨"ModelSheetModel", "among", "(II)Z"⟩, ⟨"ModelSheetModel", "asked", "(I)Z"⟩]
def am_Y_4 : List (MethodName) := [⟨"ModelSheetModel", "at", "(II)I"⟩, ⟨"ModelSheetModel", "beginSum", "(III)V"⟩, ⟨"ModelSheetModel", "begins", "(C)Z"⟩, ⟨"ModelSheetModel", "change", "(IZI)V"⟩, ⟨"ModelSheetModel", "child", "(III)I"⟩, ⟨"ModelSheetModel", "compute", "(I)V"⟩, ⟨"ModelSheetModel", "count", "(I)I"⟩, ⟨"ModelSheetModel", "deliver", "()V"⟩, ⟨"ModelSheetModel", "depth", "(II)I"⟩, ⟨"ModelSheetModel", "drop", "(II)I"⟩, ⟨"ModelSheetModel", "dropLayer", "(Z)I"⟩, ⟨"ModelSheetModel", "dropRule", "(I)I"⟩, ⟨"ModelSheetModel", "emit", "(III)I"⟩, ⟨"ModelSheetModel", "enclosing", "()I"⟩, ⟨"ModelSheetModel", "endElses", "()V"⟩, ⟨"ModelSheetModel", "endUnit", "()V"⟩, ⟨"ModelSheetModel", "erase", "(I)Z"⟩, ⟨"ModelSheetModel", "fault", "(I)Z"⟩, ⟨"ModelSheetModel", "filled", "(I)F"⟩, ⟨"ModelSheetModel", "findLeaves", "(I)V"⟩, ⟨"ModelSheetModel", "fits", "(III)Z"⟩, ⟨"ModelSheetModel", "follows", "(C)Z"⟩, ⟨"ModelSheetModel", "forget", "()V"⟩, ⟨"ModelSheetModel", "frame", "(III)V"⟩, ⟨"ModelSheetModel", "fuel", "(I)I"⟩, ⟨"ModelSheetModel", "goes", "(ZZZ)Z"⟩, ⟨"ModelSheetModel", "here", "()I"⟩, ⟨"ModelSheetModel", "inRules", "(II)Z"⟩, ⟨"ModelSheetModel", "innerDimension", "(I)I"⟩, ⟨"ModelSheetModel", "inputLayer", "(II)I"⟩, ⟨"ModelSheetModel", "inputsInAll", "()I"⟩, ⟨"ModelSheetModel", "isDigit", "(C)Z"⟩, ⟨"ModelSheetModel", "isDimension", "(I)Z"⟩, ⟨"ModelSheetModel", "isLayer", "(I)Z"⟩, ⟨"ModelSheetModel", "isLeaf", "(II)Z"⟩, ⟨"ModelSheetModel", "isLetter", "(C)Z"⟩, ⟨"ModelSheetModel", "isMember", "(II)Z"⟩, ⟨"ModelSheetModel", "isNumber", "(J)Z"⟩, ⟨"ModelSheetModel", "isOperator", "(C)Z"⟩, ⟨"ModelSheetModel", "layer", "()I"⟩]
def am_Y_5 : List (MethodName) := [⟨"ModelSheetModel", "leafCell", "(I)Z"⟩, ⟨"ModelSheetModel", "leafPlace", "(II)I"⟩, ⟨"ModelSheetModel", "leafValue", "(II)J"⟩, ⟨"ModelSheetModel", "letter", "(II)I"⟩, ⟨"ModelSheetModel", "many", "(I)I"⟩, ⟨"ModelSheetModel", "member", "(III)I"⟩, ⟨"ModelSheetModel", "move", "(III)I"⟩, ⟨"ModelSheetModel", "moved", "(III)I"⟩, ⟨"ModelSheetModel", "need", "(I)V"⟩, ⟨"ModelSheetModel", "newEdit", "(I)V"⟩, ⟨"ModelSheetModel", "ofWeight", "(I)I"⟩, ⟨"ModelSheetModel", "open", "(III)V"⟩, ⟨"ModelSheetModel", "orderOn", "(I)V"⟩, ⟨"ModelSheetModel", "part", "(II)I"⟩, ⟨"ModelSheetModel", "pattern", "(III)V"⟩, ⟨"ModelSheetModel", "plain", "(I)Z"⟩, ⟨"ModelSheetModel", "pour", "(I)V"⟩, ⟨"ModelSheetModel", "push", "(IJ)V"⟩, ⟨"ModelSheetModel", "put", "(II)V"⟩, ⟨"ModelSheetModel", "rank", "(I)I"⟩, ⟨"ModelSheetModel", "read", "()I"⟩, ⟨"ModelSheetModel", "redo", "()I"⟩, ⟨"ModelSheetModel", "refer", "(III)V"⟩, ⟨"ModelSheetModel", "result", "(IJ)V"⟩, ⟨"ModelSheetModel", "rounded", "(JJ)J"⟩, ⟨"ModelSheetModel", "rule", "()I"⟩, ⟨"ModelSheetModel", "shifts", "(C)Z"⟩, ⟨"ModelSheetModel", "shown", "(II)I"⟩, ⟨"ModelSheetModel", "special", "(I)I"⟩, ⟨"ModelSheetModel", "spread", "(II)I"⟩, ⟨"ModelSheetModel", "spreadLeaves", "(I)I"⟩, ⟨"ModelSheetModel", "state", "(I)I"⟩, ⟨"ModelSheetModel", "steps", "()I"⟩, ⟨"ModelSheetModel", "sumOn", "(I)V"⟩, ⟨"ModelSheetModel", "takes", "(C)Z"⟩, ⟨"ModelSheetModel", "target", "(IIII)I"⟩, ⟨"ModelSheetModel", "thrown", "()I"⟩, ⟨"ModelSheetModel", "type", "(C)Z"⟩, ⟨"ModelSheetModel", "under", "(III)Z"⟩, ⟨"ModelSheetModel", "undo", "()I"⟩]
def am_Y_6 : List (MethodName) := [⟨"ModelSheetModel", "value", "(I)I"⟩, ⟨"ModelSheetModel", "weight", "(I)I"⟩, ⟨"ModelSheetModel", "winner", "()I"⟩, ⟨"ModelSheetModel", "winnerOf", "(I)I"⟩, ⟨"ModelSheetModel", "work", "(II)Z"⟩, ⟨"ModelSheetModel", "working", "(I)Z"⟩, ⟨"java/lang/AbstractStringBuilder", "<init>", "(I)V"⟩, ⟨"java/lang/AbstractStringBuilder", "append", "(C)Ljava/lang/AbstractStringBuilder;"⟩, ⟨"java/lang/AbstractStringBuilder", "append", "(I)Ljava/lang/AbstractStringBuilder;"⟩, ⟨"java/lang/AbstractStringBuilder", "append", "(Ljava/lang/String;)Ljava/lang/AbstractStringBuilder;"⟩, ⟨"java/lang/AbstractStringBuilder", "appendNull", "()Ljava/lang/AbstractStringBuilder;"⟩, ⟨"java/lang/AbstractStringBuilder", "charAt", "(I)C"⟩, ⟨"java/lang/AbstractStringBuilder", "ensureCapacityInternal", "(I)V"⟩, ⟨"java/lang/AbstractStringBuilder", "inflate", "()V"⟩, ⟨"java/lang/AbstractStringBuilder", "inflateIfNeededFor", "(Ljava/lang/String;)V"⟩, ⟨"java/lang/AbstractStringBuilder", "isLatin1", "()Z"⟩, ⟨"java/lang/AbstractStringBuilder", "length", "()I"⟩, ⟨"java/lang/AbstractStringBuilder", "newCapacity", "(I)I"⟩, ⟨"java/lang/AbstractStringBuilder", "putStringAt", "(ILjava/lang/String;)V"⟩, ⟨"java/lang/Character", "highSurrogate", "(I)C"⟩, ⟨"java/lang/Character", "isValidCodePoint", "(I)Z"⟩, ⟨"java/lang/Character", "lowSurrogate", "(I)C"⟩, ⟨"java/lang/Exception", "<init>", "()V"⟩, ⟨"java/lang/IllegalArgumentException", "<init>", "()V"⟩, ⟨"java/lang/IllegalStateException", "<init>", "()V"⟩, ⟨"java/lang/Integer", "getChars", "(II[B)I"⟩, ⟨"java/lang/Integer", "stringSize", "(I)I"⟩, ⟨"java/lang/Math", "abs", "(J)J"⟩, ⟨"java/lang/Math", "max", "(II)I"⟩, ⟨"java/lang/Math", "min", "(II)I"⟩, ⟨"java/lang/Object", "<init>", "()V"⟩, ⟨"java/lang/RuntimeException", "<init>", "()V"⟩, ⟨"java/lang/String", "checkBoundsBeginEnd", "(III)V"⟩, ⟨"java/lang/String", "checkBoundsOffCount", "(III)I"⟩, ⟨"java/lang/String", "checkIndex", "(II)V"⟩, ⟨"java/lang/String", "coder", "()B"⟩, ⟨"java/lang/String", "getBytes", "([BIB)V"⟩, ⟨"java/lang/String", "indexOf", "(I)I"⟩, ⟨"java/lang/String", "indexOf", "(II)I"⟩, ⟨"java/lang/String", "isLatin1", "()Z"⟩]
def am_Y_7 : List (MethodName) := [⟨"java/lang/String", "length", "()I"⟩, ⟨"java/lang/StringBuilder", "<init>", "()V"⟩, ⟨"java/lang/StringBuilder", "append", "(C)Ljava/lang/StringBuilder;"⟩, ⟨"java/lang/StringBuilder", "append", "(I)Ljava/lang/StringBuilder;"⟩, ⟨"java/lang/StringBuilder", "append", "(Ljava/lang/String;)Ljava/lang/StringBuilder;"⟩, ⟨"java/lang/StringBuilder", "charAt", "(I)C"⟩, ⟨"java/lang/StringBuilder", "length", "()I"⟩, ⟨"java/lang/StringLatin1", "canEncode", "(C)Z"⟩, ⟨"java/lang/StringLatin1", "canEncode", "(I)Z"⟩, ⟨"java/lang/StringLatin1", "indexOf", "([BIII)I"⟩, ⟨"java/lang/StringLatin1", "indexOfChar", "([BIII)I"⟩, ⟨"java/lang/StringLatin1", "inflate", "([BI[BII)V"⟩, ⟨"java/lang/StringUTF16", "checkBoundsBeginEnd", "(II[B)V"⟩, ⟨"java/lang/StringUTF16", "checkBoundsOffCount", "(II[B)V"⟩, ⟨"java/lang/StringUTF16", "checkIndex", "(I[B)V"⟩, ⟨"java/lang/StringUTF16", "getChar", "([BI)C"⟩, ⟨"java/lang/StringUTF16", "getChars", "(III[B)I"⟩, ⟨"java/lang/StringUTF16", "getChars", "(II[B)I"⟩, ⟨"java/lang/StringUTF16", "indexOf", "([BIII)I"⟩, ⟨"java/lang/StringUTF16", "indexOfChar", "([BIII)I"⟩, ⟨"java/lang/StringUTF16", "indexOfCharUnsafe", "([BIII)I"⟩, ⟨"java/lang/StringUTF16", "indexOfSupplementary", "([BIII)I"⟩, ⟨"java/lang/StringUTF16", "inflate", "([BI[BII)V"⟩, ⟨"java/lang/StringUTF16", "length", "([B)I"⟩, ⟨"java/lang/StringUTF16", "newBytesFor", "(I)[B"⟩, ⟨"java/lang/StringUTF16", "newBytesLength", "(I)I"⟩, ⟨"java/lang/StringUTF16", "putChar", "([BII)V"⟩, ⟨"java/lang/StringUTF16", "putCharSB", "([BII)V"⟩, ⟨"java/lang/StringUTF16", "putCharsAt", "([BICCCC)I"⟩, ⟨"java/lang/Throwable", "<init>", "()V"⟩, ⟨"java/util/Arrays", "copyOf", "([BI)[B"⟩, ⟨"java/util/Arrays", "fill", "([II)V"⟩, ⟨"java/util/NoSuchElementException", "<init>", "()V"⟩, ⟨"jdk/internal/util/ArraysSupport", "hugeLength", "(II)I"⟩, ⟨"jdk/internal/util/ArraysSupport", "newLength", "(III)I"⟩, ⟨"jdk/internal/util/Preconditions", "checkFromIndexSize", "(IIILjava/util/function/BiFunction;)I"⟩, ⟨"jdk/internal/util/Preconditions", "checkFromToIndex", "(IIILjava/util/function/BiFunction;)I"⟩, ⟨"jdk/internal/util/Preconditions", "checkIndex", "(IILjava/util/function/BiFunction;)I"⟩]
def am_Y : List (MethodName) := am_Y_0 ++ (am_Y_1 ++ (am_Y_2 ++ (am_Y_3 ++ (am_Y_4 ++ (am_Y_5 ++ (am_Y_6 ++ (am_Y_7)))))))
def am_B_0 : List (ByteArray) := [code, method_23_code, method_6_code, method_22_code, method_5_code, method_18_code, method_9_code, method_11_code, method_24_code, method_15_code, method_17_code, method_3_code, method_4_code, method_7_code, method_10_code, method_21_code, method_8_code, method_14_code, method_19_code, method_12_code, method_20_code, method_13_code, method_16_code, prog_1_method_1_code, prog_1_method_24_code, prog_1_method_5_code, prog_1_method_26_code, prog_1_method_23_code, prog_1_method_28_code, prog_1_method_27_code, prog_1_method_4_code, prog_1_method_19_code, prog_1_method_9_code, prog_1_method_11_code, prog_1_method_25_code, prog_1_method_16_code, prog_1_method_18_code, prog_1_method_2_code, prog_1_method_3_code, prog_1_method_6_code]
def am_B_1 : List (ByteArray) := [prog_1_method_10_code, prog_1_method_22_code, prog_1_method_8_code, prog_1_method_14_code, prog_1_method_20_code, prog_1_method_12_code, prog_1_method_15_code, prog_1_method_7_code, prog_1_method_21_code, prog_1_method_13_code, prog_1_method_17_code, prog_2_method_9_code, prog_2_method_7_code, prog_2_method_5_code, prog_2_method_2_code, prog_2_method_4_code, prog_2_method_3_code, prog_2_method_6_code, prog_2_method_10_code, prog_2_method_8_code, prog_2_method_11_code, prog_2_method_12_code, prog_3_method_1_code, prog_3_method_8_code, prog_3_method_2_code, prog_3_method_11_code, prog_3_method_9_code, prog_3_method_7_code, prog_3_method_10_code, prog_3_method_15_code, prog_3_method_14_code, prog_3_method_12_code, prog_3_method_5_code, prog_3_method_13_code, prog_3_method_6_code, prog_3_method_3_code, prog_3_method_4_code, prog_4_method_1_code, prog_4_method_6_code, prog_4_method_2_code]
def am_B_2 : List (ByteArray) := [prog_4_method_3_code, prog_4_method_4_code, prog_4_method_5_code, prog_4_method_7_code, prog_5_method_1_code, prog_5_method_6_code, prog_5_method_2_code, prog_5_method_3_code, prog_5_method_4_code, prog_5_method_5_code, prog_6_method_1_code, prog_6_method_2_code, prog_6_method_4_code, prog_6_method_3_code, prog_7_method_1_code, prog_7_method_2_code, prog_7_method_11_code, prog_7_method_13_code, prog_7_method_12_code, prog_7_method_3_code, prog_7_method_9_code, prog_7_method_4_code, prog_7_method_8_code, prog_7_method_6_code, prog_7_method_10_code, prog_7_method_5_code, prog_7_method_7_code, prog_8_method_1_code, prog_8_method_7_code, prog_8_method_5_code, prog_8_method_6_code, prog_8_method_3_code, prog_8_method_10_code, prog_8_method_8_code, prog_8_method_9_code, prog_8_method_11_code, prog_8_method_2_code, prog_8_method_4_code, prog_9_method_1_code, prog_9_method_3_code]
def am_B_3 : List (ByteArray) := [prog_9_method_6_code, prog_9_method_2_code, prog_9_method_5_code, prog_9_method_4_code, prog_10_method_1_code, prog_10_method_5_code, prog_10_method_4_code, prog_10_method_6_code, prog_10_method_8_code, prog_10_method_7_code, prog_10_method_9_code, prog_10_method_2_code, prog_10_method_3_code, prog_11_method_1_code, prog_11_method_2_code, prog_11_method_8_code, prog_11_method_4_code, prog_11_method_6_code, prog_11_method_7_code, prog_11_method_5_code, prog_11_method_3_code, prog_11_method_9_code, prog_12_method_1_code, prog_12_method_13_code, prog_12_method_7_code, prog_12_method_11_code, prog_12_method_5_code, prog_12_method_6_code, prog_12_method_2_code, prog_12_method_4_code, prog_12_method_3_code, prog_12_method_8_code, prog_12_method_12_code, prog_12_method_10_code, prog_12_method_9_code, prog_12_method_14_code, prog_14_method_1_code, prog_14_method_89_code, prog_14_method_80_code, prog_14_method_66_code]
def am_B_4 : List (ByteArray) := [prog_14_method_20_code, prog_14_method_56_code, prog_14_method_35_code, prog_14_method_68_code, prog_14_method_7_code, prog_14_method_63_code, prog_14_method_88_code, prog_14_method_58_code, prog_14_method_9_code, prog_14_method_19_code, prog_14_method_79_code, prog_14_method_41_code, prog_14_method_28_code, prog_14_method_33_code, prog_14_method_32_code, prog_14_method_34_code, prog_14_method_70_code, prog_14_method_45_code, prog_14_method_90_code, prog_14_method_11_code, prog_14_method_42_code, prog_14_method_37_code, prog_14_method_14_code, prog_14_method_55_code, prog_14_method_76_code, prog_14_method_3_code, prog_14_method_21_code, prog_14_method_17_code, prog_14_method_54_code, prog_14_method_50_code, prog_14_method_87_code, prog_14_method_24_code, prog_14_method_4_code, prog_14_method_6_code, prog_14_method_8_code, prog_14_method_26_code, prog_14_method_5_code, prog_14_method_48_code, prog_14_method_25_code, prog_14_method_78_code]
def am_B_5 : List (ByteArray) := [prog_14_method_22_code, prog_14_method_12_code, prog_14_method_83_code, prog_14_method_73_code, prog_14_method_13_code, prog_14_method_15_code, prog_14_method_16_code, prog_14_method_59_code, prog_14_method_57_code, prog_14_method_67_code, prog_14_method_47_code, prog_14_method_29_code, prog_14_method_64_code, prog_14_method_18_code, prog_14_method_23_code, prog_14_method_82_code, prog_14_method_31_code, prog_14_method_52_code, prog_14_method_69_code, prog_14_method_30_code, prog_14_method_39_code, prog_14_method_86_code, prog_14_method_62_code, prog_14_method_51_code, prog_14_method_49_code, prog_14_method_40_code, prog_14_method_36_code, prog_14_method_74_code, prog_14_method_43_code, prog_14_method_84_code, prog_14_method_81_code, prog_14_method_71_code, prog_14_method_75_code, prog_14_method_60_code, prog_14_method_38_code, prog_14_method_61_code, prog_14_method_2_code, prog_14_method_27_code, prog_14_method_10_code, prog_14_method_85_code]
def am_B_6 : List (ByteArray) := [prog_14_method_72_code, prog_14_method_46_code, prog_14_method_77_code, prog_14_method_44_code, prog_14_method_65_code, prog_14_method_53_code, prog_15_method_2_code, prog_15_method_31_code, prog_15_method_32_code, prog_15_method_22_code, prog_15_method_26_code, prog_15_method_14_code, prog_15_method_9_code, prog_15_method_11_code, prog_15_method_71_code, prog_15_method_68_code, prog_15_method_6_code, prog_15_method_10_code, prog_15_method_73_code, prog_16_method_28_code, prog_16_method_11_code, prog_16_method_29_code, prog_18_method_1_code, prog_19_method_1_code, prog_20_method_1_code, prog_21_method_12_code, prog_21_method_13_code, prog_22_method_61_code, prog_22_method_65_code, prog_22_method_69_code, object_method_1_code, prog_23_method_1_code, prog_24_method_158_code, prog_24_method_157_code, prog_24_method_155_code, prog_24_method_152_code, prog_24_method_147_code, prog_24_method_79_code, prog_24_method_80_code, prog_24_method_154_code]
def am_B_7 : List (ByteArray) := [prog_24_method_54_code, prog_25_method_1_code, prog_25_method_14_code, prog_25_method_15_code, prog_25_method_7_code, prog_25_method_88_code, prog_25_method_93_code, prog_26_method_3_code, prog_26_method_4_code, prog_26_method_22_code, prog_26_method_23_code, prog_26_method_50_code, prog_27_method_93_code, prog_27_method_94_code, prog_27_method_91_code, prog_27_method_5_code, prog_27_method_77_code, prog_27_method_89_code, prog_27_method_40_code, prog_27_method_47_code, prog_27_method_48_code, prog_27_method_49_code, prog_27_method_86_code, prog_27_method_6_code, prog_27_method_2_code, prog_27_method_3_code, prog_27_method_4_code, prog_27_method_71_code, prog_27_method_81_code, prog_29_method_1_code, prog_30_method_121_code, prog_30_method_103_code, prog_31_method_1_code, prog_32_method_28_code, prog_32_method_27_code, prog_33_method_13_code, prog_33_method_12_code, prog_33_method_11_code]
def am_B : List (ByteArray) := am_B_0 ++ (am_B_1 ++ (am_B_2 ++ (am_B_3 ++ (am_B_4 ++ (am_B_5 ++ (am_B_6 ++ (am_B_7)))))))
def am_M_0 : List (Nat) := [8, 6, 5, 4, 5, 4, 4, 4, 4, 4, 3, 6, 6, 5, 4, 3, 3, 5, 5, 4, 3, 4, 3, 6, 5, 4, 2, 2, 2, 1, 4, 2, 2, 3, 5, 3, 1, 5, 5, 5, 4, 1, 2, 4, 3, 2, 1, 2, 1, 2, 1, 10, 2, 2, 2, 2, 1, 2, 10, 2, 3, 6, 4, 12, 5, 6, 6, 10, 10, 1, 3, 11, 6, 4, 6, 5, 5, 1, 4, 2, 1, 5, 4, 7, 2, 6, 1, 3, 1, 1, 1, 2, 2, 1, 3, 1, 1, 1, 1, 1, 2, 4, 3, 5, 6, 5, 3, 1, 3, 1, 2, 1, 6, 3, 4, 5, 2, 1, 2, 2, 7, 2, 4, 4, 2, 4, 3, 2, 3, 2, 3, 2, 3, 4, 4, 5, 4, 3, 6, 5, 10, 4, 1, 1, 2, 3, 4, 3, 2, 3, 2, 5, 3, 2, 4, 4, 2, 5, 6, 4, 4, 4, 2, 7, 6, 7, 2, 4, 6, 6, 5, 4, 5, 2, 2, 2, 3, 1, 6, 6, 6, 4, 1, 4, 3, 4, 2, 6, 3, 4, 3, 1, 1, 2, 3, 1, 3, 2, 1, 2, 2, 4, 4, 2, 4, 6, 5, 4, 5, 4, 1, 4, 9, 2, 5, 5, 3, 4, 4, 1, 2, 3, 7, 4, 10, 3, 3, 12, 4, 16, 7, 2, 1, 10, 2, 12, 1, 3, 6, 3, 2, 1, 2, 5, 4, 4, 2, 2, 4, 3, 3, 5, 3, 2, 2, 1, 1, 6, 3, 1, 2, 1, 1, 1, 1, 7, 4, 2, 2, 2, 1, 1, 3, 3, 2, 1, 4, 2, 3, 1, 1, 1, 2, 2, 2, 2, 1, 1, 1, 4, 6, 5, 3, 3, 2, 2, 5, 7, 4, 4, 5, 7, 6, 1, 1, 1, 3, 3, 7, 1, 3, 4, 1, 3, 4, 4, 4, 3]
def am_M : List (Nat) := am_M_0
def am_T_0 : List (Option FieldType) := [(some FieldType.boolean), (some FieldType.int), (some FieldType.int), (some FieldType.int), (some FieldType.int), (some FieldType.int), (some FieldType.int), (some FieldType.int), (some FieldType.int), (some FieldType.int), (some FieldType.int), (some FieldType.int), (some FieldType.int), (some FieldType.int), (some FieldType.int), (some FieldType.int), (some FieldType.int), (some FieldType.int), (some FieldType.int), (some FieldType.int), (some FieldType.int), (some FieldType.int), (some FieldType.int), none, (some FieldType.int), (some FieldType.int), (some FieldType.boolean), (some FieldType.int), (some FieldType.long), (some FieldType.int), (some FieldType.int), (some FieldType.int), (some FieldType.int), (some FieldType.boolean), (some FieldType.float), (some FieldType.int), (some FieldType.int), (some FieldType.int), (some FieldType.int), none, none, (some FieldType.int), (some FieldType.int), (some FieldType.int), (some FieldType.int), (some FieldType.int), (some FieldType.int), (some FieldType.boolean), (some FieldType.int), (some FieldType.int), (some FieldType.int), (some FieldType.long), (some FieldType.long), (some FieldType.boolean), (some FieldType.boolean), (some FieldType.int), (some FieldType.long), (some FieldType.long), (some FieldType.long), (some FieldType.int), (some (FieldType.object "java/lang/StringBuilder")), none, none, (some FieldType.long), (some FieldType.long), (some FieldType.int), (some FieldType.long), (some FieldType.long), (some FieldType.int), (some FieldType.long), none, (some FieldType.long), (some FieldType.long), (some FieldType.int), (some FieldType.long), (some FieldType.long), (some FieldType.long), none, (some FieldType.int), (some FieldType.boolean), (some FieldType.int), (some FieldType.int), (some FieldType.int), (some FieldType.int), none, none, none, none, none, none, none, (some FieldType.boolean), (some FieldType.char), none, none, (some FieldType.int), (some FieldType.boolean), (some FieldType.boolean), (some FieldType.boolean), (some FieldType.char)]
def am_T_1 : List (Option FieldType) := [(some FieldType.boolean), (some FieldType.boolean), none, (some FieldType.boolean), (some FieldType.boolean), (some FieldType.boolean), (some FieldType.boolean), none, (some FieldType.int), none, none, (some FieldType.int), (some FieldType.boolean), none, (some FieldType.boolean), (some FieldType.int), (some FieldType.int), (some FieldType.int), none, none, (some FieldType.int), (some (FieldType.object "ModelSheet$Rule")), (some FieldType.boolean), none, none, (some FieldType.boolean), (some FieldType.boolean), (some FieldType.boolean), (some FieldType.int), (some FieldType.boolean), (some FieldType.boolean), (some FieldType.int), (some FieldType.int), none, (some FieldType.boolean), (some FieldType.boolean), none, (some FieldType.boolean), (some FieldType.boolean), (some FieldType.int), none, (some FieldType.long), none, none, none, (some FieldType.int), (some FieldType.int), none, (some FieldType.boolean), (some FieldType.boolean), (some FieldType.boolean), (some FieldType.boolean), (some FieldType.int), (some FieldType.int), (some FieldType.int), none, none, (some FieldType.int), (some FieldType.boolean), (some FieldType.boolean), (some FieldType.int), none, (some FieldType.boolean), none, (some FieldType.int), none, (some FieldType.int), none, (some FieldType.int), (some FieldType.int), (some FieldType.int), (some FieldType.int), (some FieldType.int), (some FieldType.int), none, none, (some FieldType.boolean), (some FieldType.boolean), (some FieldType.float), none, (some FieldType.boolean), (some FieldType.boolean), none, none, (some FieldType.int), (some FieldType.boolean), (some FieldType.int), (some FieldType.boolean), (some FieldType.int), (some FieldType.int), (some FieldType.int), (some FieldType.boolean), (some FieldType.boolean), (some FieldType.boolean), (some FieldType.boolean), (some FieldType.boolean), (some FieldType.boolean), (some FieldType.boolean), (some FieldType.boolean), (some FieldType.int)]
def am_T_2 : List (Option FieldType) := [(some FieldType.boolean), (some FieldType.int), (some FieldType.long), (some FieldType.int), (some FieldType.int), (some FieldType.int), (some FieldType.int), (some FieldType.int), none, none, (some FieldType.int), none, none, (some FieldType.int), none, (some FieldType.boolean), none, none, none, (some FieldType.int), (some FieldType.int), (some FieldType.int), none, none, (some FieldType.long), (some FieldType.int), (some FieldType.boolean), (some FieldType.int), (some FieldType.int), (some FieldType.int), (some FieldType.int), (some FieldType.int), (some FieldType.int), none, (some FieldType.boolean), (some FieldType.int), (some FieldType.int), (some FieldType.boolean), (some FieldType.boolean), (some FieldType.int), (some FieldType.int), (some FieldType.int), (some FieldType.int), (some FieldType.int), (some FieldType.boolean), (some FieldType.boolean), none, (some (FieldType.object "java/lang/AbstractStringBuilder")), (some (FieldType.object "java/lang/AbstractStringBuilder")), (some (FieldType.object "java/lang/AbstractStringBuilder")), (some (FieldType.object "java/lang/AbstractStringBuilder")), (some FieldType.char), none, none, none, (some FieldType.boolean), (some FieldType.int), (some FieldType.int), none, (some FieldType.char), (some FieldType.boolean), (some FieldType.char), none, none, none, (some FieldType.int), (some FieldType.int), (some FieldType.long), (some FieldType.int), (some FieldType.int), none, none, none, (some FieldType.int), none, (some FieldType.byte), none, (some FieldType.int), (some FieldType.int), (some FieldType.boolean), (some FieldType.int), none, (some (FieldType.object "java/lang/StringBuilder")), (some (FieldType.object "java/lang/StringBuilder")), (some (FieldType.object "java/lang/StringBuilder")), (some FieldType.char), (some FieldType.int), (some FieldType.boolean), (some FieldType.boolean), (some FieldType.int), (some FieldType.int), none, none, none, none, (some FieldType.char), (some FieldType.int), (some FieldType.int), (some FieldType.int), (some FieldType.int)]
def am_T_3 : List (Option FieldType) := [(some FieldType.int), (some FieldType.int), none, (some FieldType.int), (some (FieldType.array FieldType.byte)), (some FieldType.int), none, none, (some FieldType.int), none, (some (FieldType.array FieldType.byte)), none, none, (some FieldType.int), (some FieldType.int), (some FieldType.int), (some FieldType.int), (some FieldType.int)]
def am_T : List (Option FieldType) := am_T_0 ++ (am_T_1 ++ (am_T_2 ++ (am_T_3)))
def am_O_0 : List (Nat) := [12, 12, 12, 12, 12, 12, 12, 12, 12, 12, 12, 12, 12, 12, 12, 12, 12, 12, 12, 12, 12, 12, 12, 0, 0, 0, 0, 0, 0, 0, 0, 0, 0, 0, 0, 0, 0, 0, 0, 0, 0, 0, 0, 0, 0, 0, 0, 0, 0, 0, 0, 1, 1, 1, 1, 1, 1, 1, 1, 1, 1, 1, 2, 2, 2, 2, 2, 2, 2, 2, 2, 2, 2, 2, 2, 2, 2, 3, 3, 3, 3, 3, 3, 3, 4, 4, 4, 4, 4, 4, 5, 5, 5, 5, 6, 6, 6, 6, 6, 6, 6, 6, 6, 6, 6, 6, 6, 7, 7, 7, 7, 7, 7, 7, 7, 7, 7, 7, 8, 8, 8, 8, 8, 8, 9, 9, 9, 9, 9, 9, 9, 9, 9, 10, 10, 10, 10, 10, 10, 10, 10, 10, 11, 11, 11, 11, 11, 11, 11, 11, 11, 11, 11, 11, 11, 11, 13, 13, 13, 13, 13, 13, 13, 13, 13, 13, 13, 13, 13, 13, 13, 13, 13, 13, 13, 13, 13, 13, 13, 13, 13, 13, 13, 13, 13, 13, 13, 13, 13, 13, 13, 13, 13, 13, 13, 13, 13, 13, 13, 13, 13, 13, 13, 13, 13, 13, 13, 13, 13, 13, 13, 13, 13, 13, 13, 13, 13, 13, 13, 13, 13, 13, 13, 13, 13, 13, 13, 13, 13, 13, 13, 13, 13, 13, 13, 13, 13, 13, 13, 13, 13, 13, 13, 13, 13, 13, 14, 14, 14, 14, 14, 14, 14, 14, 14, 14, 14, 14, 14, 15, 15, 15, 16, 17, 18, 19, 19, 20, 20, 20, 21, 22, 23, 23, 23, 23, 23, 23, 23, 23, 23, 24, 24, 24, 24, 24, 24, 25, 25, 25, 25, 25, 26, 26, 26, 26, 26, 26, 26, 26, 26, 26, 26, 26, 26, 26, 26, 26, 26, 27, 28, 28, 29, 30, 30, 31, 31, 31]
def am_O : List (Nat) := am_O_0
def am_D_0 : List (Nat) := [0, 1352, 698, 1341, 659, 1248, 796, 851, 1359, 1222, 1237, 524, 640, 705, 807, 1330, 712, 1026, 1259, 859, 1315, 1018, 1229, 122, 1356, 702, 815, 1345, 867, 832, 663, 1252, 800, 855, 1363, 1226, 1241, 531, 644, 709, 811, 1334, 716, 1030, 1263, 863, 521, 425, 1319, 1022, 1233, 989, 966, 962, 826, 955, 879, 952, 996, 958, 1033, 1065, 313, 941, 871, 982, 915, 1008, 919, 986, 923, 927, 1004, 972, 937, 876, 886, 246, 1349, 819, 1245, 1256, 891, 690, 285, 1327, 636, 847, 1323, 1338, 267, 429, 744, 793, 379, 720, 747, 770, 773, 740, 759, 724, 751, 732, 765, 728, 736, 209, 755, 788, 781, 930, 900, 686, 675, 907, 678, 933, 202, 777, 896, 911, 671, 804, 130, 535, 648, 823, 841, 837, 1285, 693, 949, 353, 1267, 1301, 1271, 1290, 1295, 1275, 1312, 1305, 137, 149, 682, 157, 145, 656, 539, 946, 667, 652, 1014, 1280, 976, 153, 1369, 1926, 1898, 1758, 1645, 1813, 1682, 1746, 1382, 1852, 1918, 1778, 1630, 1634, 1886, 1717, 1694, 1709, 1713, 1690, 1750, 1848, 1930, 1374, 1797, 1698, 1618, 1809, 1874, 1614, 1725, 1638, 1805, 1789, 1922, 1656, 1602, 1729, 1378, 1662, 1606, 1732, 1659, 1882, 1738, 1845, 1906, 1863, 1610, 1599, 1622, 1821, 1766, 1742, 1828, 1674, 1832, 1641, 1649, 1902, 1705, 1782, 1721, 1701, 1670, 1914, 1837, 1774, 1824, 1666, 1686, 1860, 1801, 1890, 1894, 1754, 1870, 1817, 1678, 1841, 1595, 1653, 1626, 1910, 1856, 1785, 1878, 1793, 1762, 1770, 1041, 1072, 1150, 1176, 1180, 1216, 1076, 1113, 1192, 1106, 1209, 1080, 1188, 511, 508, 515, 589, 614, 629, 1156, 1153, 999, 461, 464, 125, 586, 485, 1125, 1140, 452, 1197, 434, 438, 442, 448, 1038, 1069, 1147, 1173, 1213, 1206, 1109, 458, 455, 467, 1116, 479, 1122, 1137, 496, 1163, 1166, 470, 476, 493, 505, 1119, 482, 1046, 1049, 1131, 1134, 1183, 564, 1092, 141, 583, 1088, 1083, 1128, 490, 1143]
def am_D : List (Nat) := am_D_0
def am_NP_0 : List (Nat) := [1, 5, 4, 3, 4, 3, 3, 3, 3, 3, 2, 5, 5, 4, 3, 2, 2, 4, 4, 3, 2, 3, 2, 0, 3, 2, 1, 1, 1, 0, 2, 1, 1, 1, 1, 1, 0, 3, 3, 3, 2, 0, 0, 2, 2, 1, 0, 1, 0, 1, 0, 3, 1, 1, 1, 1, 1, 1, 2, 2, 1, 2, 3, 3, 2, 2, 3, 3, 4, 0, 1, 4, 3, 3, 3, 2, 2, 0, 0, 1, 0, 1, 2, 2, 1, 1, 0, 1, 0, 0, 0, 1, 1, 0, 2, 0, 1, 1, 1, 0, 1, 1, 0, 1, 0, 1, 1, 0, 2, 0, 1, 1, 2, 2, 2, 1, 2, 1, 0, 1, 2, 1, 2, 1, 0, 2, 2, 1, 1, 1, 2, 2, 3, 3, 3, 1, 1, 1, 1, 1, 2, 2, 0, 0, 1, 1, 2, 2, 1, 2, 1, 2, 1, 1, 2, 2, 0, 3, 2, 1, 2, 3, 1, 3, 3, 1, 1, 0, 2, 2, 1, 1, 3, 0, 0, 0, 1, 1, 1, 1, 3, 1, 0, 3, 1, 3, 0, 2, 1, 2, 0, 1, 1, 1, 2, 1, 2, 1, 1, 0, 1, 2, 2, 2, 1, 3, 3, 3, 1, 1, 1, 3, 1, 2, 3, 1, 1, 2, 2, 1, 0, 0, 3, 2, 2, 0, 1, 2, 1, 2, 1, 1, 0, 1, 1, 4, 0, 1, 3, 0, 1, 1, 0, 1, 2, 1, 1, 1, 1, 1, 0, 1, 1, 0, 1, 0, 0, 1, 2, 1, 1, 1, 0, 0, 0, 3, 1, 1, 2, 2, 0, 0, 3, 3, 2, 0, 3, 1, 2, 0, 0, 0, 1, 1, 1, 1, 0, 1, 1, 4, 4, 5, 3, 3, 2, 2, 4, 3, 4, 4, 4, 4, 5, 1, 1, 1, 3, 3, 6, 0, 2, 2, 0, 2, 3, 4, 4, 3]
def am_NP : List (Nat) := am_NP_0
def am_N : List String := ["ModelSheet", "ModelSheet$Amount", "ModelSheet$Calculator", "ModelSheet$Grid", "ModelSheet$History", "ModelSheet$Pad", "ModelSheet$Reader", "ModelSheet$Rule", "ModelSheet$RuleBook", "ModelSheet$Space", "ModelSheet$Spreader", "ModelSheet$Tree", "ModelSheetLaw", "ModelSheetModel", "java/lang/AbstractStringBuilder", "java/lang/Character", "java/lang/Exception", "java/lang/IllegalArgumentException", "java/lang/IllegalStateException", "java/lang/Integer", "java/lang/Math", "java/lang/Object", "java/lang/RuntimeException", "java/lang/String", "java/lang/StringBuilder", "java/lang/StringLatin1", "java/lang/StringUTF16", "java/lang/Throwable", "java/util/Arrays", "java/util/NoSuchElementException", "jdk/internal/util/ArraysSupport", "jdk/internal/util/Preconditions"]
def am_H : List (Nat × List (Nat × Nat × Nat × Nat × Nat)) := [(1, [(0, 12, 15, 13, 0), (0, 12, 19, 15, 1)]), (2, [(0, 10, 13, 13, 0), (0, 10, 17, 15, 1)]), (3, [(0, 9, 12, 15, 1)]), (4, [(0, 10, 13, 13, 0), (0, 10, 17, 17, 2)]), (5, [(0, 9, 12, 17, 2)]), (6, [(0, 9, 12, 13, 0)]), (7, [(0, 16, 19, 13, 0)]), (8, [(0, 9, 12, 13, 0)]), (9, [(0, 9, 12, 15, 1)]), (10, [(0, 8, 11, 17, 2)]), (11, [(0, 12, 15, 13, 0), (0, 12, 19, 15, 1), (0, 12, 23, 17, 2)]), (12, [(0, 12, 15, 13, 0), (0, 12, 19, 15, 1)]), (13, [(0, 7, 10, 13, 0), (0, 7, 14, 15, 1)]), (14, [(0, 6, 9, 13, 0), (0, 6, 12, 15, 1), (0, 6, 15, 17, 2)]), (15, [(0, 8, 11, 17, 2)]), (16, [(0, 8, 11, 17, 2)]), (17, [(0, 10, 13, 13, 0), (0, 10, 17, 17, 2)]), (18, [(0, 10, 13, 13, 0), (0, 10, 17, 15, 1), (0, 10, 21, 17, 2)]), (19, [(0, 9, 12, 13, 0), (0, 9, 15, 17, 2)]), (20, [(0, 8, 11, 17, 2)]), (21, [(0, 9, 12, 13, 0), (0, 9, 15, 17, 2)]), (22, [(0, 8, 11, 13, 0)])]
def am_u0 : u_T := fun k => match k with
  | 0 => ("ModelSheet", "space", "LModelSheet$Space;", true)
  | 1 => ("ModelSheet", "book", "LModelSheet$RuleBook;", true)
  | 2 => ("ModelSheet", "grid", "LModelSheet$Grid;", true)
  | 3 => ("ModelSheet", "history", "LModelSheet$History;", true)
  | 4 => ("ModelSheet", "calculator", "LModelSheet$Calculator;", true)
  | 5 => ("ModelSheet", "spreader", "LModelSheet$Spreader;", true)
  | 6 => ("ModelSheet", "pad", "LModelSheet$Pad;", true)
  | 7 => ("ModelSheet", "draft", "LModelSheet$Rule;", true)
  | 8 => ("ModelSheet", "reader", "LModelSheet$Reader;", true)
  | _ => ("ModelSheet", "cursor", "[I", true)
def am_u1 : u_T := fun k => match k with
  | 0 => ("ModelSheet$Calculator", "space", "LModelSheet$Space;", true)
  | 1 => ("ModelSheet$Calculator", "book", "LModelSheet$RuleBook;", true)
  | 2 => ("ModelSheet$Calculator", "grid", "LModelSheet$Grid;", true)
  | 3 => ("ModelSheet$Calculator", "busy", "[I", true)
  | 4 => ("ModelSheet$Calculator", "stack", "[J", true)
  | 5 => ("ModelSheet$Calculator", "top", "I", false)
  | 6 => ("ModelSheet$Calculator", "from", "I", false)
  | 7 => ("ModelSheet$Calculator", "taken", "I", false)
  | 8 => ("ModelSheet$Calculator", "allowed", "I", false)
  | _ => ("ModelSheet$Calculator", "latest", "I", false)
def am_u2 : u_T := fun k => match k with
  | 0 => ("ModelSheet$Grid", "inputs", "[[I", true)
  | _ => ("ModelSheet$Grid", "layers", "I", false)
def am_u3 : u_T := fun k => match k with
  | 0 => ("ModelSheet$History", "grid", "LModelSheet$Grid;", true)
  | 1 => ("ModelSheet$History", "rows", "[[I", true)
  | 2 => ("ModelSheet$History", "layerOf", "[I", true)
  | 3 => ("ModelSheet$History", "first", "I", false)
  | 4 => ("ModelSheet$History", "done", "I", false)
  | _ => ("ModelSheet$History", "undone", "I", false)
def am_u4 : u_T := fun k => match k with
  | 0 => ("ModelSheet$Pad", "text", "[C", true)
  | _ => ("ModelSheet$Pad", "length", "I", false)
def am_u5 : u_T := fun k => match k with
  | 0 => ("ModelSheet$Reader", "pad", "LModelSheet$Pad;", true)
  | 1 => ("ModelSheet$Reader", "draft", "LModelSheet$Rule;", true)
  | _ => ("ModelSheet$Reader", "place", "I", false)
def am_u6 : u_T := fun k => match k with
  | 0 => ("ModelSheet$Rule", "kinds", "[I", true)
  | 1 => ("ModelSheet$Rule", "members", "[I", true)
  | 2 => ("ModelSheet$Rule", "operations", "[I", true)
  | 3 => ("ModelSheet$Rule", "details", "[I", true)
  | _ => ("ModelSheet$Rule", "length", "I", false)
def am_u7 : u_T := fun k => match k with
  | 0 => ("ModelSheet$RuleBook", "rules", "[LModelSheet$Rule;", true)
  | _ => ("ModelSheet$RuleBook", "size", "I", false)
def am_u8 : u_T := fun k => match k with
  | _ => ("ModelSheet$Space", "trees", "[LModelSheet$Tree;", true)
def am_u9 : u_T := fun k => match k with
  | 0 => ("ModelSheet$Spreader", "space", "LModelSheet$Space;", true)
  | 1 => ("ModelSheet$Spreader", "book", "LModelSheet$RuleBook;", true)
  | 2 => ("ModelSheet$Spreader", "grid", "LModelSheet$Grid;", true)
  | 3 => ("ModelSheet$Spreader", "cells", "[I", true)
  | 4 => ("ModelSheet$Spreader", "all", "J", false)
  | _ => ("ModelSheet$Spreader", "size", "I", false)
def am_u10 : u_T := fun k => match k with
  | 0 => ("ModelSheet$Tree", "parent", "[I", true)
  | 1 => ("ModelSheet$Tree", "roll", "[I", true)
  | 2 => ("ModelSheet$Tree", "depth", "[I", true)
  | 3 => ("ModelSheet$Tree", "place", "[I", true)
  | 4 => ("ModelSheet$Tree", "leaves", "[I", true)
  | 5 => ("ModelSheet$Tree", "leafCount", "I", false)
  | _ => ("ModelSheet$Tree", "size", "I", false)
def am_u11 : u_T := fun k => match k with
  | 0 => ("ModelSheetModel", "thrown", "I", false)
  | 1 => ("ModelSheetModel", "there", "[Z", true)
  | 2 => ("ModelSheetModel", "parents", "[I", true)
  | 3 => ("ModelSheetModel", "rolls", "[I", true)
  | 4 => ("ModelSheetModel", "leaves", "[I", true)
  | 5 => ("ModelSheetModel", "leafCounts", "[I", true)
  | 6 => ("ModelSheetModel", "waiting", "[I", true)
  | 7 => ("ModelSheetModel", "cursor", "[I", true)
  | 8 => ("ModelSheetModel", "layers", "I", false)
  | 9 => ("ModelSheetModel", "has", "[Z", true)
  | 10 => ("ModelSheetModel", "inputs", "[I", true)
  | 11 => ("ModelSheetModel", "rules", "I", false)
  | 12 => ("ModelSheetModel", "patterns", "[I", true)
  | 13 => ("ModelSheetModel", "patternMembers", "[I", true)
  | 14 => ("ModelSheetModel", "orderCounts", "[I", true)
  | 15 => ("ModelSheetModel", "orders", "[I", true)
  | 16 => ("ModelSheetModel", "firsts", "[I", true)
  | 17 => ("ModelSheetModel", "seconds", "[I", true)
  | 18 => ("ModelSheetModel", "shiftCounts", "[I", true)
  | 19 => ("ModelSheetModel", "shiftDimensions", "[I", true)
  | 20 => ("ModelSheetModel", "shiftSigns", "[I", true)
  | 21 => ("ModelSheetModel", "nextPatterns", "[I", true)
  | 22 => ("ModelSheetModel", "nextMembers", "[I", true)
  | 23 => ("ModelSheetModel", "typed", "I", false)
  | 24 => ("ModelSheetModel", "pad", "[C", true)
  | 25 => ("ModelSheetModel", "contexts", "I", false)
  | 26 => ("ModelSheetModel", "contextKinds", "[I", true)
  | 27 => ("ModelSheetModel", "contextDepths", "[I", true)
  | 28 => ("ModelSheetModel", "contextBases", "[I", true)
  | 29 => ("ModelSheetModel", "contextOrders", "[I", true)
  | 30 => ("ModelSheetModel", "contextTests", "[I", true)
  | 31 => ("ModelSheetModel", "waits", "I", false)
  | 32 => ("ModelSheetModel", "operators", "[I", true)
  | 33 => ("ModelSheetModel", "reading", "I", false)
  | 34 => ("ModelSheetModel", "digits", "I", false)
  | 35 => ("ModelSheetModel", "literal", "I", false)
  | 36 => ("ModelSheetModel", "refersFrom", "I", false)
  | 37 => ("ModelSheetModel", "edits", "I", false)
  | 38 => ("ModelSheetModel", "undoable", "I", false)
  | 39 => ("ModelSheetModel", "editLayers", "[I", true)
  | 40 => ("ModelSheetModel", "editCounts", "[I", true)
  | 41 => ("ModelSheetModel", "editCells", "[I", true)
  | 42 => ("ModelSheetModel", "hadBefore", "[Z", true)
  | 43 => ("ModelSheetModel", "before", "[I", true)
  | 44 => ("ModelSheetModel", "hasBehind", "[Z", true)
  | 45 => ("ModelSheetModel", "behind", "[I", true)
  | 46 => ("ModelSheetModel", "seenFrom", "I", false)
  | 47 => ("ModelSheetModel", "frames", "I", false)
  | 48 => ("ModelSheetModel", "failed", "Z", false)
  | 49 => ("ModelSheetModel", "begun", "I", false)
  | 50 => ("ModelSheetModel", "frameCells", "[I", true)
  | 51 => ("ModelSheetModel", "frameRules", "[I", true)
  | 52 => ("ModelSheetModel", "frameOrders", "[I", true)
  | 53 => ("ModelSheetModel", "frameDimensions", "[I", true)
  | 54 => ("ModelSheetModel", "frameTargets", "[I", true)
  | 55 => ("ModelSheetModel", "frameChildren", "[I", true)
  | 56 => ("ModelSheetModel", "frameSums", "[J", true)
  | 57 => ("ModelSheetModel", "frameWorst", "[I", true)
  | 58 => ("ModelSheetModel", "frameMany", "[I", true)
  | 59 => ("ModelSheetModel", "operands", "I", false)
  | 60 => ("ModelSheetModel", "operandKinds", "[I", true)
  | 61 => ("ModelSheetModel", "operandNumbers", "[J", true)
  | 62 => ("ModelSheetModel", "kind", "I", false)
  | 63 => ("ModelSheetModel", "number", "J", false)
  | 64 => ("ModelSheetModel", "stepsTaken", "I", false)
  | 65 => ("ModelSheetModel", "fuelTold", "I", false)
  | 66 => ("ModelSheetModel", "spot", "[I", true)
  | 67 => ("ModelSheetModel", "spreadCells", "[I", true)
  | _ => ("ModelSheetModel", "text", "[C", true)
def am_u12 : u_T := fun k => match k with
  | 0 => ("java/lang/AbstractStringBuilder", "value", "[B", false)
  | 1 => ("java/lang/AbstractStringBuilder", "coder", "B", false)
  | 2 => ("java/lang/AbstractStringBuilder", "maybeLatin1", "Z", false)
  | _ => ("java/lang/AbstractStringBuilder", "count", "I", false)
def am_u13 : u_T := fun k => match k with
  | 0 => ("java/lang/String", "value", "[B", false)
  | _ => ("java/lang/String", "coder", "B", false)
def am_cl : List vw_C := [("ModelSheet", am_u0, 10), ("ModelSheet$Calculator", am_u1, 10), ("ModelSheet$Grid", am_u2, 2), ("ModelSheet$History", am_u3, 6), ("ModelSheet$Pad", am_u4, 2), ("ModelSheet$Reader", am_u5, 3), ("ModelSheet$Rule", am_u6, 5), ("ModelSheet$RuleBook", am_u7, 2), ("ModelSheet$Space", am_u8, 1), ("ModelSheet$Spreader", am_u9, 6), ("ModelSheet$Tree", am_u10, 7), ("ModelSheetModel", am_u11, 69), ("java/lang/StringBuilder", am_u12, 4), ("java/lang/String", am_u13, 2)]
def am_tF : List (List (Nat × Nat × Nat × Nat)) := [[(265, 10, 0, 160), (268, 10, 1, 164), (122, 10, 2, 166), (271, 10, 3, 169), (96, 10, 6, 172), (92, 8, 0, 191), (142, 6, 0, 212), (145, 6, 1, 214), (152, 7, 1, 236), (186, 2, 0, 255), (230, 2, 1, 257), (263, 4, 1, 272), (248, 3, 4, 293), (254, 3, 5, 295), (219, 1, 8, 324), (216, 1, 9, 326), (247, 9, 5, 361), (22, 0, 0, 391), (28, 0, 1, 392), (32, 0, 2, 393), (41, 0, 3, 394), (50, 0, 4, 395), (57, 0, 5, 396), (61, 0, 6, 397), (65, 0, 7, 398), (74, 0, 8, 399), (78, 0, 9, 400)],
  [],
  [(205, 10, 0, 159), (107, 10, 1, 162), (100, 8, 0, 192), (173, 6, 2, 216), (170, 6, 3, 219), (159, 6, 4, 222), (23, 1, 0, 315), (27, 1, 1, 316), (31, 1, 2, 317), (11, 1, 3, 318), (15, 1, 4, 319), (41, 1, 5, 320), (47, 1, 6, 321), (44, 1, 7, 322), (19, 1, 8, 323), (54, 1, 9, 325)],
  [(13, 2, 0, 252), (18, 2, 1, 256)],
  [(34, 2, 0, 253), (20, 3, 0, 288), (11, 3, 1, 289), (16, 3, 2, 290), (31, 3, 3, 291), (24, 3, 4, 292), (28, 3, 5, 294)],
  [(9, 4, 0, 269), (21, 4, 1, 270)],
  [(50, 6, 3, 218), (23, 6, 4, 220), (32, 4, 1, 271), (9, 5, 0, 381), (15, 5, 1, 382), (19, 5, 2, 383)],
  [(63, 10, 2, 167), (49, 8, 0, 194), (9, 6, 0, 211), (15, 6, 1, 213), (18, 6, 2, 215), (21, 6, 3, 217), (30, 6, 4, 221)],
  [(11, 7, 0, 234), (18, 7, 1, 235)],
  [(11, 8, 0, 190)],
  [(98, 10, 1, 163), (70, 8, 0, 193), (54, 2, 0, 254), (15, 9, 0, 355), (19, 9, 1, 356), (23, 9, 2, 357), (9, 9, 3, 358), (50, 9, 4, 359), (31, 9, 5, 360)],
  [(9, 10, 0, 158), (15, 10, 1, 161), (18, 10, 2, 165), (21, 10, 3, 168), (24, 10, 4, 170), (48, 10, 5, 171), (37, 10, 6, 173)],
  [],
  [(168, 11, 0, 1383), (7, 11, 1, 1384), (13, 11, 2, 1385), (17, 11, 3, 1386), (20, 11, 4, 1387), (23, 11, 5, 1388), (26, 11, 6, 1389), (29, 11, 7, 1390), (32, 11, 8, 1391), (36, 11, 9, 1392), (39, 11, 10, 1393), (211, 11, 11, 1394), (42, 11, 12, 1395), (45, 11, 13, 1396), (48, 11, 14, 1397), (51, 11, 15, 1398), (54, 11, 16, 1399), (57, 11, 17, 1400), (60, 11, 18, 1401), (63, 11, 19, 1402), (66, 11, 20, 1403), (69, 11, 21, 1404), (72, 11, 22, 1405), (230, 11, 23, 1406), (75, 11, 24, 1407), (233, 11, 25, 1408), (79, 11, 26, 1409), (82, 11, 27, 1410), (85, 11, 28, 1411), (88, 11, 29, 1412), (91, 11, 30, 1413), (236, 11, 31, 1414), (94, 11, 32, 1415), (248, 11, 33, 1416), (257, 11, 34, 1417), (251, 11, 35, 1418), (254, 11, 36, 1419), (183, 11, 37, 1420), (186, 11, 38, 1421), (97, 11, 39, 1422), (100, 11, 40, 1423), (103, 11, 41, 1424), (106, 11, 42, 1425), (109, 11, 43, 1426), (112, 11, 44, 1427), (115, 11, 45, 1428), (341, 11, 46, 1429), (315, 11, 47, 1430), (334, 11, 48, 1431), (331, 11, 49, 1432), (118, 11, 50, 1433), (121, 11, 51, 1434), (124, 11, 52, 1435), (127, 11, 53, 1436), (130, 11, 54, 1437), (133, 11, 55, 1438), (136, 11, 56, 1439), (140, 11, 57, 1440), (143, 11, 58, 1441), (312, 11, 59, 1442), (146, 11, 60, 1443), (149, 11, 61, 1444), (305, 11, 62, 1445), (308, 11, 63, 1446), (408, 11, 64, 1447), (152, 11, 65, 1448), (155, 11, 66, 1449), (158, 11, 67, 1450), (161, 11, 68, 1451)],
  [(15, 12, 0, 1051), (22, 12, 1, 1052), (79, 12, 3, 1053)],
  [],
  [],
  [],
  [],
  [],
  [],
  [],
  [],
  [(15, 13, 1, 1944), (9, 13, 0, 1945)],
  [],
  [],
  [],
  [],
  [],
  [],
  [],
  []]
def am_tI : List (List (Nat × Nat × Nat × Nat × Nat × Nat × Nat)) := [[(1, 3, 0, 1, 123, 124, 0), (9, 2, 124, 1, 128, 129, 0), (12, 2, 118, 1, 200, 201, 0), (15, 2, 77, 1, 244, 245, 0), (18, 5, 90, 1, 265, 266, 0), (21, 5, 107, 1, 280, 208, 0), (38, 2, 84, 2, 283, 284, 0), (47, 2, 62, 4, 311, 312, 0), (56, 2, 133, 4, 351, 352, 0), (71, 2, 94, 3, 377, 378, 0), (148, 1, 91, 2, 426, 427, 428), (82, 1, 125, 3, 532, 533, 534), (105, 1, 86, 1, 633, 634, 635), (108, 1, 146, 3, 637, 143, 144), (112, 1, 126, 3, 645, 646, 647), (115, 1, 151, 3, 649, 650, 651), (118, 1, 147, 3, 653, 654, 655), (125, 1, 150, 2, 664, 665, 666), (129, 1, 122, 3, 668, 669, 670), (132, 1, 144, 2, 679, 680, 681), (136, 1, 113, 3, 683, 684, 685), (139, 1, 83, 3, 687, 688, 689), (153, 1, 95, 1, 717, 718, 719), (157, 1, 119, 2, 774, 775, 776), (161, 1, 109, 1, 785, 786, 787), (164, 1, 93, 1, 790, 791, 792), (165, 1, 123, 2, 801, 802, 803), (168, 1, 26, 2, 812, 814, 11), (274, 1, 79, 2, 816, 817, 818), (222, 1, 127, 2, 820, 821, 822), (171, 0, 54, 1, 824, 825, 0), (177, 1, 29, 1, 829, 831, 12), (180, 1, 129, 2, 834, 835, 836), (183, 1, 87, 2, 844, 845, 846), (191, 1, 28, 2, 864, 866, 13), (282, 1, 64, 3, 868, 869, 870), (195, 0, 55, 1, 1015, 954, 0), (199, 0, 57, 1, 1023, 951, 0), (203, 0, 60, 1, 1031, 1032, 0), (207, 1, 286, 1, 1203, 1204, 1205), (212, 1, 285, 2, 1210, 1211, 1212), (226, 1, 120, 3, 1234, 894, 895), (233, 1, 80, 1, 1242, 1243, 1244), (236, 1, 81, 2, 1253, 1254, 1255), (240, 1, 134, 4, 1264, 1265, 1266), (244, 1, 140, 3, 1309, 1310, 1311), (251, 1, 88, 1, 1320, 1321, 1322), (257, 1, 89, 1, 1335, 1336, 1337), (260, 1, 78, 1, 1346, 1347, 1348), (276, 1, 82, 3, 1364, 889, 890)],
  [(29, 0, 269, 2, 959, 463, 0), (17, 0, 55, 1, 963, 954, 0), (21, 0, 54, 1, 967, 825, 0), (25, 0, 56, 1, 968, 878, 0), (35, 0, 59, 2, 990, 957, 0), (38, 0, 57, 1, 991, 951, 0), (42, 0, 52, 1, 992, 965, 0), (47, 0, 58, 2, 994, 995, 0), (51, 0, 267, 1, 997, 998, 0), (58, 2, 281, 1, 1036, 1037, 0), (59, 0, 61, 2, 1063, 1064, 0), (75, 1, 282, 2, 1066, 1067, 1068), (78, 1, 283, 2, 1144, 1145, 1146), (65, 1, 284, 2, 1170, 1171, 1172)],
  [(5, 3, 0, 1, 314, 124, 0), (35, 0, 311, 2, 872, 140, 0), (50, 1, 75, 3, 873, 875, 14), (57, 0, 56, 1, 877, 878, 0), (66, 1, 76, 3, 883, 885, 15), (69, 1, 128, 2, 887, 839, 840), (75, 1, 82, 3, 888, 889, 890), (82, 1, 120, 3, 893, 894, 895), (88, 1, 121, 2, 908, 909, 910), (92, 1, 66, 4, 912, 914, 16), (162, 1, 68, 5, 916, 918, 17), (176, 1, 70, 2, 920, 922, 18), (180, 1, 71, 5, 924, 926, 19), (192, 0, 111, 1, 928, 929, 0), (195, 0, 117, 1, 931, 932, 0), (112, 1, 74, 4, 934, 936, 20), (128, 1, 63, 4, 938, 940, 21), (104, 0, 131, 2, 942, 692, 0), (139, 1, 149, 3, 943, 944, 945), (121, 0, 132, 3, 947, 948, 0), (147, 0, 57, 1, 950, 951, 0), (150, 0, 55, 1, 953, 954, 0), (154, 0, 59, 2, 956, 957, 0), (131, 0, 53, 1, 960, 961, 0), (135, 0, 52, 1, 964, 965, 0), (198, 1, 73, 4, 969, 971, 22), (202, 1, 154, 3, 973, 974, 975), (208, 1, 148, 2, 978, 537, 538), (184, 1, 65, 3, 979, 981, 23), (166, 1, 69, 1, 983, 985, 24), (188, 0, 51, 3, 987, 988, 0), (96, 1, 72, 4, 1001, 1003, 25), (115, 1, 67, 4, 1005, 1007, 26), (143, 0, 58, 2, 1009, 995, 0), (118, 1, 145, 2, 1010, 155, 156), (125, 1, 152, 2, 1011, 1012, 1013)],
  [(5, 3, 0, 1, 247, 124, 0), (23, 0, 311, 2, 251, 140, 0), (29, 0, 131, 2, 691, 692, 0)],
  [(3, 3, 0, 1, 286, 124, 0), (39, 4, 0, 5, 848, 783, 0), (45, 1, 85, 2, 1324, 1326, 33)],
  [(1, 3, 0, 1, 268, 124, 0), (15, 1, 277, 2, 431, 432, 433)],
  [(3, 3, 0, 1, 380, 124, 0), (28, 1, 101, 2, 721, 723, 3), (39, 1, 105, 2, 725, 727, 4), (54, 1, 103, 2, 729, 731, 5), (63, 1, 106, 2, 733, 735, 6), (42, 1, 99, 1, 737, 739, 7), (35, 1, 92, 2, 741, 742, 743), (69, 0, 96, 1, 745, 746, 0), (72, 1, 102, 1, 748, 750, 8), (46, 1, 108, 3, 752, 753, 754), (75, 1, 100, 2, 756, 758, 9), (80, 1, 277, 2, 761, 432, 433), (86, 1, 104, 1, 762, 764, 10), (92, 0, 116, 2, 767, 677, 0), (66, 0, 97, 1, 768, 769, 0), (57, 0, 98, 1, 771, 772, 0)],
  [(3, 3, 0, 1, 210, 124, 0), (40, 0, 116, 2, 676, 677, 0), (34, 4, 0, 5, 782, 783, 0), (24, 0, 311, 2, 789, 140, 0), (44, 0, 131, 2, 901, 692, 0), (53, 1, 150, 2, 902, 665, 666), (59, 1, 151, 3, 903, 650, 651)],
  [(3, 3, 0, 1, 203, 124, 0), (17, 5, 107, 1, 207, 208, 0), (26, 1, 114, 3, 672, 673, 674), (22, 1, 110, 2, 778, 779, 780), (30, 1, 112, 3, 897, 898, 899), (34, 1, 115, 2, 904, 905, 906)],
  [(3, 3, 0, 1, 131, 124, 0), (17, 2, 142, 1, 135, 136, 0), (26, 1, 148, 2, 536, 537, 538), (30, 1, 128, 2, 838, 839, 840), (22, 0, 131, 2, 842, 692, 0), (34, 1, 150, 2, 843, 665, 666), (37, 1, 151, 3, 1286, 650, 651)],
  [(3, 3, 0, 1, 354, 124, 0), (27, 1, 136, 2, 1268, 1270, 27), (60, 1, 139, 2, 1272, 1274, 28), (74, 0, 131, 2, 1276, 692, 0), (78, 1, 153, 2, 1277, 1278, 1279), (64, 1, 130, 3, 1282, 1283, 1284), (35, 1, 137, 2, 1287, 1289, 29), (86, 1, 120, 3, 1291, 894, 895), (39, 1, 138, 2, 1292, 1294, 30), (92, 1, 151, 3, 1296, 650, 651), (95, 1, 150, 2, 1297, 665, 666), (42, 1, 135, 2, 1298, 1300, 31), (46, 1, 141, 3, 1302, 1304, 32), (107, 1, 82, 3, 1306, 889, 890), (101, 0, 54, 1, 1308, 825, 0)],
  [(3, 3, 0, 1, 138, 124, 0), (27, 0, 311, 2, 139, 140, 0), (33, 1, 146, 3, 142, 143, 144), (41, 1, 143, 1, 146, 148, 0), (51, 1, 155, 3, 150, 152, 1), (55, 1, 145, 2, 154, 155, 156), (44, 1, 150, 2, 977, 665, 666)],
  [(90, 2, 23, 1, 120, 121, 0), (117, 1, 47, 2, 422, 423, 424), (146, 1, 46, 1, 518, 519, 520), (94, 0, 11, 5, 522, 523, 0), (7, 1, 37, 4, 528, 529, 530), (103, 0, 12, 5, 638, 639, 0), (19, 1, 38, 4, 641, 642, 643), (106, 0, 4, 4, 657, 658, 0), (22, 1, 30, 3, 660, 661, 662), (110, 0, 2, 4, 696, 697, 0), (26, 1, 25, 3, 699, 700, 701), (113, 0, 13, 4, 703, 704, 0), (29, 1, 39, 4, 706, 707, 708), (122, 0, 16, 2, 710, 711, 0), (33, 1, 42, 1, 713, 714, 715), (126, 0, 6, 3, 794, 795, 0), (37, 1, 32, 2, 797, 798, 799), (130, 0, 14, 3, 805, 806, 0), (41, 1, 40, 3, 808, 809, 810), (134, 0, 7, 3, 849, 850, 0), (45, 1, 33, 2, 852, 853, 854), (137, 0, 19, 3, 857, 858, 0), (49, 1, 45, 2, 860, 861, 862), (140, 0, 21, 3, 1016, 1017, 0), (52, 1, 49, 2, 1019, 1020, 1021), (143, 0, 17, 4, 1024, 1025, 0), (55, 1, 43, 3, 1027, 1028, 1029), (150, 0, 9, 3, 1220, 1221, 0), (58, 1, 35, 2, 1223, 1224, 1225), (153, 0, 22, 2, 1227, 1228, 0), (61, 1, 50, 1, 1230, 1231, 1232), (156, 0, 10, 2, 1235, 1236, 0), (64, 1, 36, 1, 1238, 1239, 1240), (159, 0, 5, 3, 1246, 1247, 0), (67, 1, 31, 2, 1249, 1250, 1251), (163, 0, 18, 4, 1257, 1258, 0), (71, 1, 44, 3, 1260, 1261, 1262), (166, 0, 20, 2, 1313, 1314, 0), (74, 1, 48, 1, 1316, 1317, 1318), (169, 0, 15, 2, 1328, 1329, 0), (77, 1, 41, 1, 1331, 1332, 1333), (172, 0, 3, 3, 1339, 1340, 0), (80, 1, 27, 2, 1342, 1343, 1344), (175, 0, 1, 5, 1350, 1351, 0), (83, 1, 24, 4, 1353, 1354, 1355), (178, 0, 8, 3, 1357, 1358, 0), (86, 1, 34, 2, 1360, 1361, 1362), (93, 2, 156, 1, 1367, 1368, 0), (100, 1, 236, 1, 1592, 1593, 1594), (99, 1, 205, 4, 1596, 1597, 1598), (105, 1, 206, 4, 1619, 1620, 1621), (109, 1, 169, 3, 1631, 1632, 1633), (112, 1, 160, 3, 1642, 1643, 1644), (116, 1, 214, 4, 1646, 1647, 1648), (121, 1, 237, 2, 1650, 1651, 1652), (125, 1, 225, 1, 1663, 1664, 1665), (129, 1, 171, 2, 1714, 1715, 1716), (133, 1, 218, 3, 1718, 1719, 1720), (136, 1, 176, 2, 1747, 1748, 1749), (139, 1, 231, 2, 1751, 1752, 1753), (142, 1, 240, 2, 1853, 1854, 1855), (145, 1, 227, 3, 1857, 1858, 1859), (149, 1, 232, 1, 1867, 1868, 1869), (152, 1, 184, 2, 1871, 1872, 1873), (155, 1, 242, 1, 1875, 1876, 1877), (158, 1, 199, 1, 1879, 1880, 1881), (162, 1, 170, 2, 1883, 1884, 1885), (165, 1, 229, 3, 1887, 1888, 1889), (168, 1, 239, 1, 1907, 1908, 1909), (171, 1, 221, 1, 1911, 1912, 1913), (174, 1, 166, 2, 1915, 1916, 1917), (177, 1, 157, 4, 1923, 1924, 1925), (181, 1, 178, 2, 1927, 1928, 1929)],
  [(1, 3, 0, 1, 1370, 124, 0), (164, 1, 179, 2, 1371, 1373, 34), (179, 1, 194, 3, 1375, 1377, 35), (175, 1, 164, 4, 1379, 1381, 36), (171, 0, 192, 1, 1600, 1601, 0), (189, 1, 196, 3, 1603, 1605, 37), (192, 1, 204, 2, 1607, 1609, 38), (196, 1, 185, 4, 1611, 1613, 39), (200, 1, 182, 1, 1615, 1617, 40), (203, 1, 238, 4, 1623, 1625, 41), (207, 1, 168, 3, 1627, 1629, 42), (214, 1, 187, 3, 1635, 1637, 43), (217, 0, 213, 2, 1639, 1640, 0), (220, 0, 191, 1, 1654, 1655, 0), (224, 0, 198, 1, 1657, 1658, 0), (227, 0, 195, 1, 1660, 1661, 0), (286, 1, 220, 1, 1667, 1669, 44), (260, 1, 211, 4, 1671, 1673, 45), (283, 1, 234, 2, 1675, 1677, 46), (274, 1, 162, 2, 1679, 1681, 47), (277, 1, 226, 2, 1683, 1685, 48), (264, 1, 175, 1, 1687, 1689, 49), (242, 1, 172, 4, 1691, 1693, 50), (280, 1, 181, 2, 1695, 1697, 51), (239, 0, 219, 1, 1699, 1700, 0), (245, 1, 216, 2, 1702, 1704, 52), (267, 1, 173, 1, 1706, 1708, 53), (271, 1, 174, 1, 1710, 1712, 54), (402, 1, 186, 1, 1722, 1724, 55), (399, 1, 193, 2, 1726, 1728, 56), (301, 0, 197, 1, 1730, 1731, 0), (338, 1, 200, 2, 1735, 1737, 57), (411, 1, 209, 2, 1739, 1741, 58), (414, 1, 163, 4, 1743, 1745, 59), (418, 1, 159, 2, 1755, 1757, 60), (405, 1, 244, 3, 1759, 1761, 61), (365, 1, 208, 2, 1763, 1765, 62), (321, 1, 245, 2, 1767, 1769, 63), (324, 1, 223, 3, 1771, 1773, 64), (328, 1, 167, 1, 1775, 1777, 65), (356, 1, 217, 3, 1779, 1781, 66), (359, 0, 241, 1, 1783, 1784, 0), (344, 1, 189, 3, 1786, 1788, 67), (347, 1, 243, 2, 1790, 1792, 68), (289, 1, 180, 4, 1794, 1796, 69), (292, 1, 228, 2, 1798, 1800, 70), (350, 1, 188, 2, 1802, 1804, 71), (353, 1, 183, 4, 1806, 1808, 72), (318, 1, 161, 4, 1810, 1812, 73), (393, 1, 233, 2, 1814, 1816, 74), (362, 1, 207, 4, 1818, 1820, 75), (368, 0, 224, 2, 1822, 1823, 0), (372, 0, 210, 1, 1826, 1827, 0), (396, 1, 212, 2, 1829, 1831, 76), (384, 1, 222, 4, 1834, 1836, 77), (378, 1, 235, 5, 1838, 1840, 78), (375, 1, 201, 3, 1842, 1844, 79), (387, 0, 177, 1, 1846, 1847, 0), (390, 1, 165, 2, 1849, 1851, 80), (421, 0, 203, 2, 1861, 1862, 0), (433, 1, 230, 2, 1891, 1893, 81), (430, 1, 158, 3, 1895, 1897, 82), (436, 1, 215, 2, 1899, 1901, 83), (439, 1, 202, 3, 1903, 1905, 84), (443, 1, 190, 1, 1919, 1921, 85)],
  [(3, 3, 0, 1, 1042, 124, 0), (26, 0, 304, 1, 1044, 1045, 0), (100, 7, 252, 2, 1073, 1075, 1074), (104, 7, 257, 2, 1077, 1079, 1078), (114, 0, 314, 3, 1081, 1082, 0), (108, 0, 310, 2, 1090, 1091, 0), (83, 6, 255, 1, 1102, 1103, 1105), (191, 0, 287, 1, 1107, 1108, 0), (195, 7, 253, 1, 1110, 1112, 1111), (125, 0, 291, 5, 1114, 1115, 0), (197, 0, 307, 3, 1132, 1133, 0), (245, 0, 266, 1, 1151, 1152, 0), (248, 0, 265, 3, 1154, 1155, 0), (251, 0, 296, 4, 1161, 1162, 0), (204, 7, 250, 1, 1177, 1179, 1178), (226, 0, 308, 6, 1181, 1182, 0), (32, 1, 280, 1, 1184, 446, 447), (208, 7, 258, 3, 1185, 1187, 1186), (397, 7, 254, 2, 1189, 1191, 1190), (40, 1, 275, 1, 1193, 450, 451), (399, 1, 276, 4, 1194, 1195, 1196), (138, 0, 269, 2, 1217, 463, 0), (144, 0, 274, 2, 1218, 1139, 0), (148, 0, 295, 2, 1219, 495, 0)],
  [],
  [],
  [],
  [],
  [],
  [],
  [],
  [],
  [(633, 1, 278, 3, 435, 436, 437), (492, 1, 279, 1, 439, 440, 441), (505, 1, 280, 1, 445, 446, 447), (335, 1, 275, 1, 449, 450, 451), (637, 0, 289, 4, 453, 454, 0), (640, 0, 298, 4, 468, 469, 0), (1062, 0, 316, 4, 488, 489, 0), (1065, 0, 315, 4, 1126, 1127, 0), (1059, 0, 317, 3, 1141, 1142, 0), (212, 4, 0, 5, 1198, 783, 0), (106, 0, 291, 5, 1199, 1115, 0)],
  [(1, 2, 246, 2, 1039, 1040, 0), (50, 8, 247, 2, 1070, 1071, 1933), (53, 8, 248, 2, 1148, 1149, 1937), (29, 8, 249, 2, 1174, 1175, 1938), (343, 8, 256, 1, 1207, 1208, 1942), (329, 8, 251, 2, 1214, 1215, 1943)],
  [(88, 0, 288, 1, 456, 457, 0), (92, 0, 268, 2, 459, 460, 0), (38, 0, 269, 2, 462, 463, 0), (95, 0, 290, 4, 465, 466, 0), (240, 0, 302, 5, 1117, 1118, 0)],
  [(224, 0, 268, 2, 471, 460, 0), (183, 0, 269, 2, 472, 463, 0), (228, 0, 299, 4, 474, 475, 0), (96, 0, 292, 3, 477, 478, 0), (48, 0, 303, 1, 480, 481, 0), (241, 0, 272, 3, 483, 484, 0), (244, 0, 300, 4, 491, 492, 0), (71, 0, 295, 2, 494, 495, 0), (232, 0, 301, 4, 503, 504, 0), (164, 0, 260, 1, 506, 507, 0), (157, 0, 259, 1, 509, 510, 0), (161, 0, 261, 1, 513, 514, 0), (11, 0, 305, 1, 1047, 1048, 0), (173, 0, 293, 3, 1120, 1121, 0), (419, 0, 273, 3, 1123, 1124, 0), (111, 0, 306, 3, 1129, 1130, 0), (67, 0, 294, 2, 1135, 1136, 0), (414, 0, 274, 2, 1138, 1139, 0), (393, 0, 297, 3, 1164, 1165, 0)],
  [(1, 3, 0, 1, 565, 124, 0)],
  [(304, 0, 269, 2, 1100, 463, 0), (150, 4, 0, 5, 1101, 783, 0)],
  [],
  [(194, 0, 268, 2, 1084, 460, 0), (201, 0, 313, 2, 1086, 1087, 0)],
  []]
def am_tW : List (List (Nat × Nat × Nat)) := [[(7, 8, 126), (10, 7, 198), (13, 2, 242), (16, 4, 263), (19, 6, 279), (36, 3, 281), (45, 1, 309), (54, 9, 349), (69, 5, 375)],
  [(56, 12, 1034)],
  [],
  [],
  [],
  [],
  [],
  [],
  [(9, 6, 204)],
  [(9, 10, 132)],
  [],
  [],
  [(8, 0, 118), (91, 11, 1365)],
  [],
  [],
  [],
  [],
  [],
  [],
  [],
  [],
  [],
  [],
  [],
  [],
  [],
  [],
  [],
  [],
  [],
  [],
  []]
def am_tX : List (List (Nat × Nat × Nat × Nat)) := [[(86, 0, 88, 540), (89, 1, 91, 603), (102, 2, 104, 618)],
  [],
  [(63, 2, 65, 881)],
  [],
  [],
  [],
  [],
  [],
  [],
  [],
  [],
  [],
  [],
  [],
  [],
  [],
  [],
  [],
  [],
  [],
  [],
  [],
  [],
  [],
  [],
  [],
  [],
  [],
  [],
  [],
  [],
  []]
def am_tC : List (List (Nat × Int32 × Nat)) := [[(190, (-2147483648 : Int32), 856)],
  [],
  [(81, (-2147483648 : Int32), 892)],
  [(22, (-2147483648 : Int32), 250)],
  [],
  [],
  [],
  [],
  [],
  [],
  [(110, (-2147483648 : Int32), 1307)],
  [],
  [],
  [],
  [(39, (2147483647 : Int32), 1089)],
  [(110, (55232 : Int32), 512), (76, (56320 : Int32), 516)],
  [],
  [],
  [],
  [],
  [],
  [],
  [],
  [],
  [],
  [],
  [(227, (65536 : Int32), 473), (20, (1073741823 : Int32), 1050)],
  [],
  [],
  [],
  [(200, (2147483639 : Int32), 1085)],
  []]
def am_tL : List (List (Nat × Int64 × Nat)) := [[],
  [(9, (-2000000000 : Int64), 827), (11, (2000000000 : Int64), 828), (15, (1152921504606846976 : Int64), 880), (45, (1000 : Int64), 993), (54, (2 : Int64), 1000)],
  [],
  [],
  [],
  [],
  [],
  [],
  [],
  [],
  [],
  [],
  [],
  [(295, (-2000000000 : Int64), 1733), (297, (2000000000 : Int64), 1734), (299, (2 : Int64), 1825), (382, (1000 : Int64), 1833), (424, (9 : Int64), 1864), (426, (10 : Int64), 1865), (428, (100 : Int64), 1866)],
  [],
  [],
  [],
  [],
  [],
  [],
  [],
  [],
  [],
  [],
  [],
  [],
  [],
  [],
  [],
  [],
  [],
  []]
def am_Ty : List (List (FieldType × Bool)) := [[(.object "ModelSheet$Space", true), (.object "ModelSheet$RuleBook", true), (.object "ModelSheet$Grid", true), (.object "ModelSheet$History", true), (.object "ModelSheet$Calculator", true), (.object "ModelSheet$Spreader", true), (.object "ModelSheet$Pad", true), (.object "ModelSheet$Rule", true), (.object "ModelSheet$Reader", true), (.array (.int), true)],
  [(.object "ModelSheet$Space", true), (.object "ModelSheet$RuleBook", true), (.object "ModelSheet$Grid", true), (.array (.int), true), (.array (.long), true), (.int, false), (.int, false), (.int, false), (.int, false), (.int, false)],
  [(.array (.array (.int)), true), (.int, false)],
  [(.object "ModelSheet$Grid", true), (.array (.array (.int)), true), (.array (.int), true), (.int, false), (.int, false), (.int, false)],
  [(.array (.char), true), (.int, false)],
  [(.object "ModelSheet$Pad", true), (.object "ModelSheet$Rule", true), (.int, false)],
  [(.array (.int), true), (.array (.int), true), (.array (.int), true), (.array (.int), true), (.int, false)],
  [(.array (.object "ModelSheet$Rule"), true), (.int, false)],
  [(.array (.object "ModelSheet$Tree"), true)],
  [(.object "ModelSheet$Space", true), (.object "ModelSheet$RuleBook", true), (.object "ModelSheet$Grid", true), (.array (.int), true), (.long, false), (.int, false)],
  [(.array (.int), true), (.array (.int), true), (.array (.int), true), (.array (.int), true), (.array (.int), true), (.int, false), (.int, false)],
  [(.int, false), (.array (.boolean), true), (.array (.int), true), (.array (.int), true), (.array (.int), true), (.array (.int), true), (.array (.int), true), (.array (.int), true), (.int, false), (.array (.boolean), true), (.array (.int), true), (.int, false), (.array (.int), true), (.array (.int), true), (.array (.int), true), (.array (.int), true), (.array (.int), true), (.array (.int), true), (.array (.int), true), (.array (.int), true), (.array (.int), true), (.array (.int), true), (.array (.int), true), (.int, false), (.array (.char), true), (.int, false), (.array (.int), true), (.array (.int), true), (.array (.int), true), (.array (.int), true), (.array (.int), true), (.int, false), (.array (.int), true), (.int, false), (.int, false), (.int, false), (.int, false), (.int, false), (.int, false), (.array (.int), true), (.array (.int), true), (.array (.int), true), (.array (.boolean), true), (.array (.int), true), (.array (.boolean), true), (.array (.int), true), (.int, false), (.int, false), (.boolean, false), (.int, false), (.array (.int), true), (.array (.int), true), (.array (.int), true), (.array (.int), true), (.array (.int), true), (.array (.int), true), (.array (.long), true), (.array (.int), true), (.array (.int), true), (.int, false), (.array (.int), true), (.array (.long), true), (.int, false), (.long, false), (.int, false), (.int, false), (.array (.int), true), (.array (.int), true), (.array (.char), true)],
  [(.array (.byte), false), (.byte, false), (.boolean, false), (.int, false)],
  [(.array (.byte), false), (.byte, false)]]
def am_CO : List Nat := [0, 2, 3, 4, 5, 6, 7, 8, 9, 10, 11, 13, 24, 23]
def am_Ini : List Nat := [23, 62, 77, 84, 90, 94, 107, 118, 124, 133, 142, 156, 246, 262, 263, 264, 270, 271, 281, 309, 312]
def am_An : List (List (Nat × String × Nat)) := [[(19, "ModelSheet$Rule", 279)], [], [], [], [], [], [], [], [(9, "ModelSheet$Rule", 204)], [(9, "ModelSheet$Tree", 132)], [], [], [], [], [], [], [], [], [], [], [], [], [], [], [], [], [], [], [], [], [], []]
def am_Mu : List (List (Nat × Nat)) := [[], [], [], [(11, 248)], [(9, 287)], [], [], [], [], [], [], [], [], [], [], [], [], [], [], [], [], [], [], [], [], [], [], [], [], [], [], []]
def am_St : List (List (Nat × Nat)) := [[(279, 1)], [], [], [], [], [], [], [], [], [(18, 1)], [(83, 1)], [], [], [], [(18, 101)], [], [], [], [], [(83, 19), (87, 20)], [], [], [], [(38, 101), (1053, 102)], [], [], [(403, 19), (407, 20)], [], [], [], [], []]
def am_Sr : List (List (Nat × Nat)) := [[], [(63, 5), (69, 6), (71, 7), (73, 8)], [], [], [], [(13, 2)], [(78, 3), (90, 4)], [], [], [], [], [], [], [], [], [], [], [], [], [], [], [], [], [], [], [], [], [], [], [], [], []]
