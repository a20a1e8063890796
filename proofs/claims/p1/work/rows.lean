section
-- ===== PART A: goes FIRST, ahead of the names: the tables' words, and 'selects' of the private methods out of them =====
/-- a private method of a class that the tables say can be made, by its rows of tables_1 -/
def lw_okq (q : MethodName × Nat) : Prop := (q.1.cls ≠ "java/lang/invoke/MethodHandle" ∧ q.1.cls ≠ "java/lang/invoke/VarHandle") ∧ Cond.instantiable q.1.cls q.2 ∈ tables_1 ∧ Cond.privateMethod q.1 ∈ tables_1 ∧ Cond.instanceMethod q.1 ∈ tables_1
theorem lw_p0 : lw_okq (⟨"RecordBridge$BookReader", "lookAtNext", "()V"⟩, 20) := ⟨⟨by decide +kernel, by decide +kernel⟩, List.mem_of_getElem? (i := 34) (by decide +kernel), List.mem_of_getElem? (i := 479) (by decide +kernel), List.mem_of_getElem? (i := 480) (by decide +kernel)⟩
theorem lw_p1 : lw_okq (⟨"RecordBridge$BookReader", "takeInScheme", "()Z"⟩, 20) := ⟨⟨by decide +kernel, by decide +kernel⟩, List.mem_of_getElem? (i := 34) (by decide +kernel), List.mem_of_getElem? (i := 519) (by decide +kernel), List.mem_of_getElem? (i := 520) (by decide +kernel)⟩
theorem lw_p2 : lw_okq (⟨"RecordBridge$BookReader", "takeStatement", "()Z"⟩, 20) := ⟨⟨by decide +kernel, by decide +kernel⟩, List.mem_of_getElem? (i := 34) (by decide +kernel), List.mem_of_getElem? (i := 523) (by decide +kernel), List.mem_of_getElem? (i := 524) (by decide +kernel)⟩
theorem lw_p3 : lw_okq (⟨"RecordBridge$BookReader", "refuse", "(II)Z"⟩, 20) := ⟨⟨by decide +kernel, by decide +kernel⟩, List.mem_of_getElem? (i := 34) (by decide +kernel), List.mem_of_getElem? (i := 527) (by decide +kernel), List.mem_of_getElem? (i := 528) (by decide +kernel)⟩
theorem lw_p4 : lw_okq (⟨"RecordBridge$BookReader", "goOn", "(I)Z"⟩, 20) := ⟨⟨by decide +kernel, by decide +kernel⟩, List.mem_of_getElem? (i := 34) (by decide +kernel), List.mem_of_getElem? (i := 531) (by decide +kernel), List.mem_of_getElem? (i := 532) (by decide +kernel)⟩
theorem lw_p5 : lw_okq (⟨"RecordBridge$BookReader", "takeSchemeName", "()Z"⟩, 20) := ⟨⟨by decide +kernel, by decide +kernel⟩, List.mem_of_getElem? (i := 34) (by decide +kernel), List.mem_of_getElem? (i := 538) (by decide +kernel), List.mem_of_getElem? (i := 539) (by decide +kernel)⟩
theorem lw_p6 : lw_okq (⟨"RecordBridge$BookReader", "nameStands", "()Z"⟩, 20) := ⟨⟨by decide +kernel, by decide +kernel⟩, List.mem_of_getElem? (i := 34) (by decide +kernel), List.mem_of_getElem? (i := 542) (by decide +kernel), List.mem_of_getElem? (i := 543) (by decide +kernel)⟩
theorem lw_p7 : lw_okq (⟨"RecordBridge$BookReader", "takeKind", "()Z"⟩, 20) := ⟨⟨by decide +kernel, by decide +kernel⟩, List.mem_of_getElem? (i := 34) (by decide +kernel), List.mem_of_getElem? (i := 562) (by decide +kernel), List.mem_of_getElem? (i := 563) (by decide +kernel)⟩
theorem lw_p8 : lw_okq (⟨"RecordBridge$BookReader", "refuseOneMore", "()Z"⟩, 20) := ⟨⟨by decide +kernel, by decide +kernel⟩, List.mem_of_getElem? (i := 34) (by decide +kernel), List.mem_of_getElem? (i := 566) (by decide +kernel), List.mem_of_getElem? (i := 567) (by decide +kernel)⟩
theorem lw_p9 : lw_okq (⟨"RecordBridge$BookReader", "takeFieldName", "()Z"⟩, 20) := ⟨⟨by decide +kernel, by decide +kernel⟩, List.mem_of_getElem? (i := 34) (by decide +kernel), List.mem_of_getElem? (i := 570) (by decide +kernel), List.mem_of_getElem? (i := 571) (by decide +kernel)⟩
theorem lw_p10 : lw_okq (⟨"RecordBridge$BookReader", "takeSign", "(I)Z"⟩, 20) := ⟨⟨by decide +kernel, by decide +kernel⟩, List.mem_of_getElem? (i := 34) (by decide +kernel), List.mem_of_getElem? (i := 582) (by decide +kernel), List.mem_of_getElem? (i := 583) (by decide +kernel)⟩
theorem lw_p11 : lw_okq (⟨"RecordBridge$BookReader", "takeTimesNumber", "()Z"⟩, 20) := ⟨⟨by decide +kernel, by decide +kernel⟩, List.mem_of_getElem? (i := 34) (by decide +kernel), List.mem_of_getElem? (i := 587) (by decide +kernel), List.mem_of_getElem? (i := 588) (by decide +kernel)⟩
theorem lw_p12 : lw_okq (⟨"RecordBridge$BookReader", "numberStands", "(II)Z"⟩, 20) := ⟨⟨by decide +kernel, by decide +kernel⟩, List.mem_of_getElem? (i := 34) (by decide +kernel), List.mem_of_getElem? (i := 591) (by decide +kernel), List.mem_of_getElem? (i := 592) (by decide +kernel)⟩
theorem lw_p13 : lw_okq (⟨"RecordBridge$BookReader", "takeInCross", "()Z"⟩, 20) := ⟨⟨by decide +kernel, by decide +kernel⟩, List.mem_of_getElem? (i := 34) (by decide +kernel), List.mem_of_getElem? (i := 604) (by decide +kernel), List.mem_of_getElem? (i := 605) (by decide +kernel)⟩
theorem lw_p14 : lw_okq (⟨"RecordBridge$BookReader", "takeFirstScheme", "()Z"⟩, 20) := ⟨⟨by decide +kernel, by decide +kernel⟩, List.mem_of_getElem? (i := 34) (by decide +kernel), List.mem_of_getElem? (i := 608) (by decide +kernel), List.mem_of_getElem? (i := 609) (by decide +kernel)⟩
theorem lw_p15 : lw_okq (⟨"RecordBridge$BookReader", "takeSecondScheme", "()Z"⟩, 20) := ⟨⟨by decide +kernel, by decide +kernel⟩, List.mem_of_getElem? (i := 34) (by decide +kernel), List.mem_of_getElem? (i := 612) (by decide +kernel), List.mem_of_getElem? (i := 613) (by decide +kernel)⟩
def lw_privs_1 : List (MethodName × Nat) := [(⟨"RecordBridge$BookReader", "lookAtNext", "()V"⟩, 20), (⟨"RecordBridge$BookReader", "takeInScheme", "()Z"⟩, 20), (⟨"RecordBridge$BookReader", "takeStatement", "()Z"⟩, 20), (⟨"RecordBridge$BookReader", "refuse", "(II)Z"⟩, 20), (⟨"RecordBridge$BookReader", "goOn", "(I)Z"⟩, 20), (⟨"RecordBridge$BookReader", "takeSchemeName", "()Z"⟩, 20), (⟨"RecordBridge$BookReader", "nameStands", "()Z"⟩, 20), (⟨"RecordBridge$BookReader", "takeKind", "()Z"⟩, 20), (⟨"RecordBridge$BookReader", "refuseOneMore", "()Z"⟩, 20), (⟨"RecordBridge$BookReader", "takeFieldName", "()Z"⟩, 20), (⟨"RecordBridge$BookReader", "takeSign", "(I)Z"⟩, 20), (⟨"RecordBridge$BookReader", "takeTimesNumber", "()Z"⟩, 20), (⟨"RecordBridge$BookReader", "numberStands", "(II)Z"⟩, 20), (⟨"RecordBridge$BookReader", "takeInCross", "()Z"⟩, 20), (⟨"RecordBridge$BookReader", "takeFirstScheme", "()Z"⟩, 20), (⟨"RecordBridge$BookReader", "takeSecondScheme", "()Z"⟩, 20)]
theorem lw_r1 : ∀ q ∈ lw_privs_1, lw_okq q := List.forall_mem_cons.mpr ⟨lw_p0, List.forall_mem_cons.mpr ⟨lw_p1, List.forall_mem_cons.mpr ⟨lw_p2, List.forall_mem_cons.mpr ⟨lw_p3, List.forall_mem_cons.mpr ⟨lw_p4, List.forall_mem_cons.mpr ⟨lw_p5, List.forall_mem_cons.mpr ⟨lw_p6, List.forall_mem_cons.mpr ⟨lw_p7, List.forall_mem_cons.mpr ⟨lw_p8, List.forall_mem_cons.mpr ⟨lw_p9, List.forall_mem_cons.mpr ⟨lw_p10, List.forall_mem_cons.mpr ⟨lw_p11, List.forall_mem_cons.mpr ⟨lw_p12, List.forall_mem_cons.mpr ⟨lw_p13, List.forall_mem_cons.mpr ⟨lw_p14, List.forall_mem_cons.mpr ⟨lw_p15, fun _ h => absurd h List.not_mem_nil⟩⟩⟩⟩⟩⟩⟩⟩⟩⟩⟩⟩⟩⟩⟩⟩
theorem lw_p16 : lw_okq (⟨"RecordBridge$BookReader", "takeTarget", "()Z"⟩, 20) := ⟨⟨by decide +kernel, by decide +kernel⟩, List.mem_of_getElem? (i := 34) (by decide +kernel), List.mem_of_getElem? (i := 629) (by decide +kernel), List.mem_of_getElem? (i := 630) (by decide +kernel)⟩
theorem lw_p17 : lw_okq (⟨"RecordBridge$BookReader", "takeNumberSource", "()Z"⟩, 20) := ⟨⟨by decide +kernel, by decide +kernel⟩, List.mem_of_getElem? (i := 34) (by decide +kernel), List.mem_of_getElem? (i := 641) (by decide +kernel), List.mem_of_getElem? (i := 642) (by decide +kernel)⟩
theorem lw_p18 : lw_okq (⟨"RecordBridge$BookReader", "beginRule", "(IIII)Z"⟩, 20) := ⟨⟨by decide +kernel, by decide +kernel⟩, List.mem_of_getElem? (i := 34) (by decide +kernel), List.mem_of_getElem? (i := 649) (by decide +kernel), List.mem_of_getElem? (i := 650) (by decide +kernel)⟩
theorem lw_p19 : lw_okq (⟨"RecordBridge$BookReader", "takeFieldSource", "()Z"⟩, 20) := ⟨⟨by decide +kernel, by decide +kernel⟩, List.mem_of_getElem? (i := 34) (by decide +kernel), List.mem_of_getElem? (i := 661) (by decide +kernel), List.mem_of_getElem? (i := 662) (by decide +kernel)⟩
theorem lw_p20 : lw_okq (⟨"RecordBridge$BookReader", "takeSort", "()Z"⟩, 20) := ⟨⟨by decide +kernel, by decide +kernel⟩, List.mem_of_getElem? (i := 34) (by decide +kernel), List.mem_of_getElem? (i := 665) (by decide +kernel), List.mem_of_getElem? (i := 666) (by decide +kernel)⟩
theorem lw_p21 : lw_okq (⟨"RecordBridge$BookReader", "takeRuleSign", "()Z"⟩, 20) := ⟨⟨by decide +kernel, by decide +kernel⟩, List.mem_of_getElem? (i := 34) (by decide +kernel), List.mem_of_getElem? (i := 672) (by decide +kernel), List.mem_of_getElem? (i := 673) (by decide +kernel)⟩
theorem lw_p22 : lw_okq (⟨"RecordBridge$BookReader", "takeFactor", "()Z"⟩, 20) := ⟨⟨by decide +kernel, by decide +kernel⟩, List.mem_of_getElem? (i := 34) (by decide +kernel), List.mem_of_getElem? (i := 692) (by decide +kernel), List.mem_of_getElem? (i := 693) (by decide +kernel)⟩
theorem lw_p23 : lw_okq (⟨"RecordBridge$BookReader", "takeSecondField", "()Z"⟩, 20) := ⟨⟨by decide +kernel, by decide +kernel⟩, List.mem_of_getElem? (i := 34) (by decide +kernel), List.mem_of_getElem? (i := 696) (by decide +kernel), List.mem_of_getElem? (i := 697) (by decide +kernel)⟩
theorem lw_p24 : lw_okq (⟨"RecordBridge", "hasOfScheme", "(I)I"⟩, 14) := ⟨⟨by decide +kernel, by decide +kernel⟩, List.mem_of_getElem? (i := 26) (by decide +kernel), List.mem_of_getElem? (i := 713) (by decide +kernel), List.mem_of_getElem? (i := 714) (by decide +kernel)⟩
theorem lw_p25 : lw_okq (⟨"RecordBridge", "rowSort", "(II)I"⟩, 14) := ⟨⟨by decide +kernel, by decide +kernel⟩, List.mem_of_getElem? (i := 26) (by decide +kernel), List.mem_of_getElem? (i := 767) (by decide +kernel), List.mem_of_getElem? (i := 768) (by decide +kernel)⟩
theorem lw_p26 : lw_okq (⟨"RecordBridge", "placesOf", "(III)I"⟩, 14) := ⟨⟨by decide +kernel, by decide +kernel⟩, List.mem_of_getElem? (i := 26) (by decide +kernel), List.mem_of_getElem? (i := 771) (by decide +kernel), List.mem_of_getElem? (i := 772) (by decide +kernel)⟩
theorem lw_p27 : lw_okq (⟨"RecordBridge", "kindRefusal", "(IIII)I"⟩, 14) := ⟨⟨by decide +kernel, by decide +kernel⟩, List.mem_of_getElem? (i := 26) (by decide +kernel), List.mem_of_getElem? (i := 779) (by decide +kernel), List.mem_of_getElem? (i := 780) (by decide +kernel)⟩
theorem lw_p28 : lw_okq (⟨"RecordBridge$Rows", "rawAt", "(ILRecordBridge$Shape;II)J"⟩, 4) := ⟨⟨by decide +kernel, by decide +kernel⟩, List.mem_of_getElem? (i := 331) (by decide +kernel), List.mem_of_getElem? (i := 788) (by decide +kernel), List.mem_of_getElem? (i := 789) (by decide +kernel)⟩
theorem lw_p29 : lw_okq (⟨"RecordBridge", "thingRefusal", "(IIII)I"⟩, 14) := ⟨⟨by decide +kernel, by decide +kernel⟩, List.mem_of_getElem? (i := 26) (by decide +kernel), List.mem_of_getElem? (i := 881) (by decide +kernel), List.mem_of_getElem? (i := 882) (by decide +kernel)⟩
theorem lw_p30 : lw_okq (⟨"RecordBridge$Rows", "blank", "(II)V"⟩, 4) := ⟨⟨by decide +kernel, by decide +kernel⟩, List.mem_of_getElem? (i := 331) (by decide +kernel), List.mem_of_getElem? (i := 927) (by decide +kernel), List.mem_of_getElem? (i := 928) (by decide +kernel)⟩
theorem lw_p31 : lw_okq (⟨"RecordBridge$Rows", "move", "(III)V"⟩, 4) := ⟨⟨by decide +kernel, by decide +kernel⟩, List.mem_of_getElem? (i := 331) (by decide +kernel), List.mem_of_getElem? (i := 940) (by decide +kernel), List.mem_of_getElem? (i := 941) (by decide +kernel)⟩
def lw_privs_2 : List (MethodName × Nat) := [(⟨"RecordBridge$BookReader", "takeTarget", "()Z"⟩, 20), (⟨"RecordBridge$BookReader", "takeNumberSource", "()Z"⟩, 20), (⟨"RecordBridge$BookReader", "beginRule", "(IIII)Z"⟩, 20), (⟨"RecordBridge$BookReader", "takeFieldSource", "()Z"⟩, 20), (⟨"RecordBridge$BookReader", "takeSort", "()Z"⟩, 20), (⟨"RecordBridge$BookReader", "takeRuleSign", "()Z"⟩, 20), (⟨"RecordBridge$BookReader", "takeFactor", "()Z"⟩, 20), (⟨"RecordBridge$BookReader", "takeSecondField", "()Z"⟩, 20), (⟨"RecordBridge", "hasOfScheme", "(I)I"⟩, 14), (⟨"RecordBridge", "rowSort", "(II)I"⟩, 14), (⟨"RecordBridge", "placesOf", "(III)I"⟩, 14), (⟨"RecordBridge", "kindRefusal", "(IIII)I"⟩, 14), (⟨"RecordBridge$Rows", "rawAt", "(ILRecordBridge$Shape;II)J"⟩, 4), (⟨"RecordBridge", "thingRefusal", "(IIII)I"⟩, 14), (⟨"RecordBridge$Rows", "blank", "(II)V"⟩, 4), (⟨"RecordBridge$Rows", "move", "(III)V"⟩, 4)]
theorem lw_r2 : ∀ q ∈ lw_privs_2, lw_okq q := List.forall_mem_cons.mpr ⟨lw_p16, List.forall_mem_cons.mpr ⟨lw_p17, List.forall_mem_cons.mpr ⟨lw_p18, List.forall_mem_cons.mpr ⟨lw_p19, List.forall_mem_cons.mpr ⟨lw_p20, List.forall_mem_cons.mpr ⟨lw_p21, List.forall_mem_cons.mpr ⟨lw_p22, List.forall_mem_cons.mpr ⟨lw_p23, List.forall_mem_cons.mpr ⟨lw_p24, List.forall_mem_cons.mpr ⟨lw_p25, List.forall_mem_cons.mpr ⟨lw_p26, List.forall_mem_cons.mpr ⟨lw_p27, List.forall_mem_cons.mpr ⟨lw_p28, List.forall_mem_cons.mpr ⟨lw_p29, List.forall_mem_cons.mpr ⟨lw_p30, List.forall_mem_cons.mpr ⟨lw_p31, fun _ h => absurd h List.not_mem_nil⟩⟩⟩⟩⟩⟩⟩⟩⟩⟩⟩⟩⟩⟩⟩⟩
theorem lw_p32 : lw_okq (⟨"RecordBridge", "makeByChance", "()Z"⟩, 14) := ⟨⟨by decide +kernel, by decide +kernel⟩, List.mem_of_getElem? (i := 26) (by decide +kernel), List.mem_of_getElem? (i := 957) (by decide +kernel), List.mem_of_getElem? (i := 958) (by decide +kernel)⟩
theorem lw_p33 : lw_okq (⟨"RecordBridge", "draw", "(I)I"⟩, 14) := ⟨⟨by decide +kernel, by decide +kernel⟩, List.mem_of_getElem? (i := 26) (by decide +kernel), List.mem_of_getElem? (i := 961) (by decide +kernel), List.mem_of_getElem? (i := 962) (by decide +kernel)⟩
theorem lw_p34 : lw_okq (⟨"RecordBridge", "carryRecord", "(LRecordBridge$Passage;I)V"⟩, 14) := ⟨⟨by decide +kernel, by decide +kernel⟩, List.mem_of_getElem? (i := 26) (by decide +kernel), List.mem_of_getElem? (i := 972) (by decide +kernel), List.mem_of_getElem? (i := 973) (by decide +kernel)⟩
theorem lw_p35 : lw_okq (⟨"RecordBridge$Carrier", "carryByRule", "(LRecordBridge$Rule;LRecordBridge$Shape;LRecordBridge$Shape;[J[J)V"⟩, 1) := ⟨⟨by decide +kernel, by decide +kernel⟩, List.mem_of_getElem? (i := 367) (by decide +kernel), List.mem_of_getElem? (i := 986) (by decide +kernel), List.mem_of_getElem? (i := 987) (by decide +kernel)⟩
theorem lw_p36 : lw_okq (⟨"RecordBridge$Passage", "carriesAlone", "(II)Z"⟩, 4) := ⟨⟨by decide +kernel, by decide +kernel⟩, List.mem_of_getElem? (i := 111) (by decide +kernel), List.mem_of_getElem? (i := 1053) (by decide +kernel), List.mem_of_getElem? (i := 1054) (by decide +kernel)⟩
theorem lw_p37 : lw_okq (⟨"RecordBridge$Ways", "leads", "(LRecordBridge$Plan;IIII)Z"⟩, 6) := ⟨⟨by decide +kernel, by decide +kernel⟩, List.mem_of_getElem? (i := 379) (by decide +kernel), List.mem_of_getElem? (i := 1069) (by decide +kernel), List.mem_of_getElem? (i := 1070) (by decide +kernel)⟩
theorem lw_p38 : lw_okq (⟨"RecordBridge$Ways", "choose", "(I)V"⟩, 6) := ⟨⟨by decide +kernel, by decide +kernel⟩, List.mem_of_getElem? (i := 379) (by decide +kernel), List.mem_of_getElem? (i := 1074) (by decide +kernel), List.mem_of_getElem? (i := 1075) (by decide +kernel)⟩
theorem lw_p39 : lw_okq (⟨"RecordBridge$Ways", "lostBySteps", "(LRecordBridge$Plan;I[JLRecordBridge$Carrier;)I"⟩, 6) := ⟨⟨by decide +kernel, by decide +kernel⟩, List.mem_of_getElem? (i := 379) (by decide +kernel), List.mem_of_getElem? (i := 1091) (by decide +kernel), List.mem_of_getElem? (i := 1092) (by decide +kernel)⟩
theorem lw_p40 : lw_okq (⟨"RecordBridge$Rows", "areAlike", "(ILRecordBridge$Shape;III)Z"⟩, 4) := ⟨⟨by decide +kernel, by decide +kernel⟩, List.mem_of_getElem? (i := 331) (by decide +kernel), List.mem_of_getElem? (i := 1109) (by decide +kernel), List.mem_of_getElem? (i := 1110) (by decide +kernel)⟩
theorem lw_p41 : lw_okq (⟨"RecordBridgeModel", "refuses", "(I)I"⟩, 32) := ⟨⟨by decide +kernel, by decide +kernel⟩, List.mem_of_getElem? (i := 1137) (by decide +kernel), List.mem_of_getElem? (i := 1246) (by decide +kernel), List.mem_of_getElem? (i := 1247) (by decide +kernel)⟩
theorem lw_p42 : lw_okq (⟨"RecordBridgeModel", "isRefused", "(I)Z"⟩, 32) := ⟨⟨by decide +kernel, by decide +kernel⟩, List.mem_of_getElem? (i := 1137) (by decide +kernel), List.mem_of_getElem? (i := 1254) (by decide +kernel), List.mem_of_getElem? (i := 1255) (by decide +kernel)⟩
theorem lw_p43 : lw_okq (⟨"RecordBridgeModel", "look", "()I"⟩, 32) := ⟨⟨by decide +kernel, by decide +kernel⟩, List.mem_of_getElem? (i := 1137) (by decide +kernel), List.mem_of_getElem? (i := 1274) (by decide +kernel), List.mem_of_getElem? (i := 1275) (by decide +kernel)⟩
theorem lw_p44 : lw_okq (⟨"RecordBridgeModel", "fail", "(II)V"⟩, 32) := ⟨⟨by decide +kernel, by decide +kernel⟩, List.mem_of_getElem? (i := 1137) (by decide +kernel), List.mem_of_getElem? (i := 1278) (by decide +kernel), List.mem_of_getElem? (i := 1279) (by decide +kernel)⟩
theorem lw_p45 : lw_okq (⟨"RecordBridgeModel", "statementTold", "()V"⟩, 32) := ⟨⟨by decide +kernel, by decide +kernel⟩, List.mem_of_getElem? (i := 1137) (by decide +kernel), List.mem_of_getElem? (i := 1282) (by decide +kernel), List.mem_of_getElem? (i := 1283) (by decide +kernel)⟩
theorem lw_p46 : lw_okq (⟨"RecordBridgeModel", "takes", "(I)Z"⟩, 32) := ⟨⟨by decide +kernel, by decide +kernel⟩, List.mem_of_getElem? (i := 1137) (by decide +kernel), List.mem_of_getElem? (i := 1286) (by decide +kernel), List.mem_of_getElem? (i := 1287) (by decide +kernel)⟩
theorem lw_p47 : lw_okq (⟨"RecordBridgeModel", "ownHere", "()I"⟩, 32) := ⟨⟨by decide +kernel, by decide +kernel⟩, List.mem_of_getElem? (i := 1137) (by decide +kernel), List.mem_of_getElem? (i := 1290) (by decide +kernel), List.mem_of_getElem? (i := 1291) (by decide +kernel)⟩
def lw_privs_3 : List (MethodName × Nat) := [(⟨"RecordBridge", "makeByChance", "()Z"⟩, 14), (⟨"RecordBridge", "draw", "(I)I"⟩, 14), (⟨"RecordBridge", "carryRecord", "(LRecordBridge$Passage;I)V"⟩, 14), (⟨"RecordBridge$Carrier", "carryByRule", "(LRecordBridge$Rule;LRecordBridge$Shape;LRecordBridge$Shape;[J[J)V"⟩, 1), (⟨"RecordBridge$Passage", "carriesAlone", "(II)Z"⟩, 4), (⟨"RecordBridge$Ways", "leads", "(LRecordBridge$Plan;IIII)Z"⟩, 6), (⟨"RecordBridge$Ways", "choose", "(I)V"⟩, 6), (⟨"RecordBridge$Ways", "lostBySteps", "(LRecordBridge$Plan;I[JLRecordBridge$Carrier;)I"⟩, 6), (⟨"RecordBridge$Rows", "areAlike", "(ILRecordBridge$Shape;III)Z"⟩, 4), (⟨"RecordBridgeModel", "refuses", "(I)I"⟩, 32), (⟨"RecordBridgeModel", "isRefused", "(I)Z"⟩, 32), (⟨"RecordBridgeModel", "look", "()I"⟩, 32), (⟨"RecordBridgeModel", "fail", "(II)V"⟩, 32), (⟨"RecordBridgeModel", "statementTold", "()V"⟩, 32), (⟨"RecordBridgeModel", "takes", "(I)Z"⟩, 32), (⟨"RecordBridgeModel", "ownHere", "()I"⟩, 32)]
theorem lw_r3 : ∀ q ∈ lw_privs_3, lw_okq q := List.forall_mem_cons.mpr ⟨lw_p32, List.forall_mem_cons.mpr ⟨lw_p33, List.forall_mem_cons.mpr ⟨lw_p34, List.forall_mem_cons.mpr ⟨lw_p35, List.forall_mem_cons.mpr ⟨lw_p36, List.forall_mem_cons.mpr ⟨lw_p37, List.forall_mem_cons.mpr ⟨lw_p38, List.forall_mem_cons.mpr ⟨lw_p39, List.forall_mem_cons.mpr ⟨lw_p40, List.forall_mem_cons.mpr ⟨lw_p41, List.forall_mem_cons.mpr ⟨lw_p42, List.forall_mem_cons.mpr ⟨lw_p43, List.forall_mem_cons.mpr ⟨lw_p44, List.forall_mem_cons.mpr ⟨lw_p45, List.forall_mem_cons.mpr ⟨lw_p46, List.forall_mem_cons.mpr ⟨lw_p47, fun _ h => absurd h List.not_mem_nil⟩⟩⟩⟩⟩⟩⟩⟩⟩⟩⟩⟩⟩⟩⟩⟩
theorem lw_p48 : lw_okq (⟨"RecordBridgeModel", "isWordHere", "()Z"⟩, 32) := ⟨⟨by decide +kernel, by decide +kernel⟩, List.mem_of_getElem? (i := 1137) (by decide +kernel), List.mem_of_getElem? (i := 1294) (by decide +kernel), List.mem_of_getElem? (i := 1295) (by decide +kernel)⟩
theorem lw_p49 : lw_okq (⟨"RecordBridgeModel", "isLike", "(II)Z"⟩, 32) := ⟨⟨by decide +kernel, by decide +kernel⟩, List.mem_of_getElem? (i := 1137) (by decide +kernel), List.mem_of_getElem? (i := 1301) (by decide +kernel), List.mem_of_getElem? (i := 1302) (by decide +kernel)⟩
theorem lw_p50 : lw_okq (⟨"RecordBridgeModel", "passes", "()V"⟩, 32) := ⟨⟨by decide +kernel, by decide +kernel⟩, List.mem_of_getElem? (i := 1137) (by decide +kernel), List.mem_of_getElem? (i := 1305) (by decide +kernel), List.mem_of_getElem? (i := 1306) (by decide +kernel)⟩
theorem lw_p51 : lw_okq (⟨"RecordBridgeModel", "schemeTold", "(I)V"⟩, 32) := ⟨⟨by decide +kernel, by decide +kernel⟩, List.mem_of_getElem? (i := 1137) (by decide +kernel), List.mem_of_getElem? (i := 1309) (by decide +kernel), List.mem_of_getElem? (i := 1310) (by decide +kernel)⟩
theorem lw_p52 : lw_okq (⟨"RecordBridgeModel", "name", "()I"⟩, 32) := ⟨⟨by decide +kernel, by decide +kernel⟩, List.mem_of_getElem? (i := 1137) (by decide +kernel), List.mem_of_getElem? (i := 1313) (by decide +kernel), List.mem_of_getElem? (i := 1314) (by decide +kernel)⟩
theorem lw_p53 : lw_okq (⟨"RecordBridgeModel", "schemeNamed", "([II)I"⟩, 32) := ⟨⟨by decide +kernel, by decide +kernel⟩, List.mem_of_getElem? (i := 1137) (by decide +kernel), List.mem_of_getElem? (i := 1317) (by decide +kernel), List.mem_of_getElem? (i := 1318) (by decide +kernel)⟩
theorem lw_p54 : lw_okq (⟨"RecordBridgeModel", "fieldTold", "(I)V"⟩, 32) := ⟨⟨by decide +kernel, by decide +kernel⟩, List.mem_of_getElem? (i := 1137) (by decide +kernel), List.mem_of_getElem? (i := 1324) (by decide +kernel), List.mem_of_getElem? (i := 1325) (by decide +kernel)⟩
theorem lw_p55 : lw_okq (⟨"RecordBridgeModel", "fieldNamed", "([III)I"⟩, 32) := ⟨⟨by decide +kernel, by decide +kernel⟩, List.mem_of_getElem? (i := 1137) (by decide +kernel), List.mem_of_getElem? (i := 1329) (by decide +kernel), List.mem_of_getElem? (i := 1330) (by decide +kernel)⟩
theorem lw_p56 : lw_okq (⟨"RecordBridgeModel", "number", "(II)I"⟩, 32) := ⟨⟨by decide +kernel, by decide +kernel⟩, List.mem_of_getElem? (i := 1137) (by decide +kernel), List.mem_of_getElem? (i := 1336) (by decide +kernel), List.mem_of_getElem? (i := 1337) (by decide +kernel)⟩
theorem lw_p57 : lw_okq (⟨"RecordBridgeModel", "takesSign", "(I)Z"⟩, 32) := ⟨⟨by decide +kernel, by decide +kernel⟩, List.mem_of_getElem? (i := 1137) (by decide +kernel), List.mem_of_getElem? (i := 1343) (by decide +kernel), List.mem_of_getElem? (i := 1344) (by decide +kernel)⟩
theorem lw_p58 : lw_okq (⟨"RecordBridgeModel", "crossTold", "(I)V"⟩, 32) := ⟨⟨by decide +kernel, by decide +kernel⟩, List.mem_of_getElem? (i := 1137) (by decide +kernel), List.mem_of_getElem? (i := 1347) (by decide +kernel), List.mem_of_getElem? (i := 1348) (by decide +kernel)⟩
theorem lw_p59 : lw_okq (⟨"RecordBridgeModel", "schemeHere", "()I"⟩, 32) := ⟨⟨by decide +kernel, by decide +kernel⟩, List.mem_of_getElem? (i := 1137) (by decide +kernel), List.mem_of_getElem? (i := 1351) (by decide +kernel), List.mem_of_getElem? (i := 1352) (by decide +kernel)⟩
theorem lw_p60 : lw_okq (⟨"RecordBridgeModel", "asks", "(I)V"⟩, 32) := ⟨⟨by decide +kernel, by decide +kernel⟩, List.mem_of_getElem? (i := 1137) (by decide +kernel), List.mem_of_getElem? (i := 1355) (by decide +kernel), List.mem_of_getElem? (i := 1356) (by decide +kernel)⟩
theorem lw_p61 : lw_okq (⟨"RecordBridgeModel", "ruleTold", "(III)V"⟩, 32) := ⟨⟨by decide +kernel, by decide +kernel⟩, List.mem_of_getElem? (i := 1137) (by decide +kernel), List.mem_of_getElem? (i := 1362) (by decide +kernel), List.mem_of_getElem? (i := 1363) (by decide +kernel)⟩
theorem lw_p62 : lw_okq (⟨"RecordBridgeModel", "fieldHere", "(I)I"⟩, 32) := ⟨⟨by decide +kernel, by decide +kernel⟩, List.mem_of_getElem? (i := 1137) (by decide +kernel), List.mem_of_getElem? (i := 1366) (by decide +kernel), List.mem_of_getElem? (i := 1367) (by decide +kernel)⟩
theorem lw_p63 : lw_okq (⟨"RecordBridgeModel", "kindDrafted", "(II)I"⟩, 32) := ⟨⟨by decide +kernel, by decide +kernel⟩, List.mem_of_getElem? (i := 1137) (by decide +kernel), List.mem_of_getElem? (i := 1373) (by decide +kernel), List.mem_of_getElem? (i := 1374) (by decide +kernel)⟩
def lw_privs_4 : List (MethodName × Nat) := [(⟨"RecordBridgeModel", "isWordHere", "()Z"⟩, 32), (⟨"RecordBridgeModel", "isLike", "(II)Z"⟩, 32), (⟨"RecordBridgeModel", "passes", "()V"⟩, 32), (⟨"RecordBridgeModel", "schemeTold", "(I)V"⟩, 32), (⟨"RecordBridgeModel", "name", "()I"⟩, 32), (⟨"RecordBridgeModel", "schemeNamed", "([II)I"⟩, 32), (⟨"RecordBridgeModel", "fieldTold", "(I)V"⟩, 32), (⟨"RecordBridgeModel", "fieldNamed", "([III)I"⟩, 32), (⟨"RecordBridgeModel", "number", "(II)I"⟩, 32), (⟨"RecordBridgeModel", "takesSign", "(I)Z"⟩, 32), (⟨"RecordBridgeModel", "crossTold", "(I)V"⟩, 32), (⟨"RecordBridgeModel", "schemeHere", "()I"⟩, 32), (⟨"RecordBridgeModel", "asks", "(I)V"⟩, 32), (⟨"RecordBridgeModel", "ruleTold", "(III)V"⟩, 32), (⟨"RecordBridgeModel", "fieldHere", "(I)I"⟩, 32), (⟨"RecordBridgeModel", "kindDrafted", "(II)I"⟩, 32)]
theorem lw_r4 : ∀ q ∈ lw_privs_4, lw_okq q := List.forall_mem_cons.mpr ⟨lw_p48, List.forall_mem_cons.mpr ⟨lw_p49, List.forall_mem_cons.mpr ⟨lw_p50, List.forall_mem_cons.mpr ⟨lw_p51, List.forall_mem_cons.mpr ⟨lw_p52, List.forall_mem_cons.mpr ⟨lw_p53, List.forall_mem_cons.mpr ⟨lw_p54, List.forall_mem_cons.mpr ⟨lw_p55, List.forall_mem_cons.mpr ⟨lw_p56, List.forall_mem_cons.mpr ⟨lw_p57, List.forall_mem_cons.mpr ⟨lw_p58, List.forall_mem_cons.mpr ⟨lw_p59, List.forall_mem_cons.mpr ⟨lw_p60, List.forall_mem_cons.mpr ⟨lw_p61, List.forall_mem_cons.mpr ⟨lw_p62, List.forall_mem_cons.mpr ⟨lw_p63, fun _ h => absurd h List.not_mem_nil⟩⟩⟩⟩⟩⟩⟩⟩⟩⟩⟩⟩⟩⟩⟩⟩
theorem lw_p64 : lw_okq (⟨"RecordBridgeModel", "rule", "(IIIII)V"⟩, 32) := ⟨⟨by decide +kernel, by decide +kernel⟩, List.mem_of_getElem? (i := 1137) (by decide +kernel), List.mem_of_getElem? (i := 1377) (by decide +kernel), List.mem_of_getElem? (i := 1378) (by decide +kernel)⟩
theorem lw_p65 : lw_okq (⟨"RecordBridgeModel", "sourceTold", "(III)V"⟩, 32) := ⟨⟨by decide +kernel, by decide +kernel⟩, List.mem_of_getElem? (i := 1137) (by decide +kernel), List.mem_of_getElem? (i := 1381) (by decide +kernel), List.mem_of_getElem? (i := 1382) (by decide +kernel)⟩
theorem lw_p66 : lw_okq (⟨"RecordBridgeModel", "asksSign", "(I)V"⟩, 32) := ⟨⟨by decide +kernel, by decide +kernel⟩, List.mem_of_getElem? (i := 1137) (by decide +kernel), List.mem_of_getElem? (i := 1388) (by decide +kernel), List.mem_of_getElem? (i := 1389) (by decide +kernel)⟩
theorem lw_p67 : lw_okq (⟨"RecordBridgeModel", "begins", "()V"⟩, 32) := ⟨⟨by decide +kernel, by decide +kernel⟩, List.mem_of_getElem? (i := 1137) (by decide +kernel), List.mem_of_getElem? (i := 1392) (by decide +kernel), List.mem_of_getElem? (i := 1393) (by decide +kernel)⟩
theorem lw_p68 : lw_okq (⟨"RecordBridgeModel", "isScheme", "(I)Z"⟩, 32) := ⟨⟨by decide +kernel, by decide +kernel⟩, List.mem_of_getElem? (i := 1137) (by decide +kernel), List.mem_of_getElem? (i := 1405) (by decide +kernel), List.mem_of_getElem? (i := 1406) (by decide +kernel)⟩
theorem lw_p69 : lw_okq (⟨"RecordBridgeModel", "recordMany", "(I)I"⟩, 32) := ⟨⟨by decide +kernel, by decide +kernel⟩, List.mem_of_getElem? (i := 1137) (by decide +kernel), List.mem_of_getElem? (i := 1409) (by decide +kernel), List.mem_of_getElem? (i := 1410) (by decide +kernel)⟩
theorem lw_p70 : lw_okq (⟨"RecordBridgeModel", "fieldMany", "(I)I"⟩, 32) := ⟨⟨by decide +kernel, by decide +kernel⟩, List.mem_of_getElem? (i := 1137) (by decide +kernel), List.mem_of_getElem? (i := 1413) (by decide +kernel), List.mem_of_getElem? (i := 1414) (by decide +kernel)⟩
theorem lw_p71 : lw_okq (⟨"RecordBridgeModel", "isField", "(II)Z"⟩, 32) := ⟨⟨by decide +kernel, by decide +kernel⟩, List.mem_of_getElem? (i := 1137) (by decide +kernel), List.mem_of_getElem? (i := 1421) (by decide +kernel), List.mem_of_getElem? (i := 1422) (by decide +kernel)⟩
theorem lw_p72 : lw_okq (⟨"RecordBridgeModel", "kindOf", "(II)I"⟩, 32) := ⟨⟨by decide +kernel, by decide +kernel⟩, List.mem_of_getElem? (i := 1137) (by decide +kernel), List.mem_of_getElem? (i := 1433) (by decide +kernel), List.mem_of_getElem? (i := 1434) (by decide +kernel)⟩
theorem lw_p73 : lw_okq (⟨"RecordBridgeModel", "cellsOf", "(II)I"⟩, 32) := ⟨⟨by decide +kernel, by decide +kernel⟩, List.mem_of_getElem? (i := 1137) (by decide +kernel), List.mem_of_getElem? (i := 1437) (by decide +kernel), List.mem_of_getElem? (i := 1438) (by decide +kernel)⟩
theorem lw_p74 : lw_okq (⟨"RecordBridgeModel", "isCrossing", "(I)Z"⟩, 32) := ⟨⟨by decide +kernel, by decide +kernel⟩, List.mem_of_getElem? (i := 1137) (by decide +kernel), List.mem_of_getElem? (i := 1445) (by decide +kernel), List.mem_of_getElem? (i := 1446) (by decide +kernel)⟩
theorem lw_p75 : lw_okq (⟨"RecordBridgeModel", "fromOf", "(I)I"⟩, 32) := ⟨⟨by decide +kernel, by decide +kernel⟩, List.mem_of_getElem? (i := 1137) (by decide +kernel), List.mem_of_getElem? (i := 1449) (by decide +kernel), List.mem_of_getElem? (i := 1450) (by decide +kernel)⟩
theorem lw_p76 : lw_okq (⟨"RecordBridgeModel", "toOf", "(I)I"⟩, 32) := ⟨⟨by decide +kernel, by decide +kernel⟩, List.mem_of_getElem? (i := 1137) (by decide +kernel), List.mem_of_getElem? (i := 1453) (by decide +kernel), List.mem_of_getElem? (i := 1454) (by decide +kernel)⟩
theorem lw_p77 : lw_okq (⟨"RecordBridgeModel", "ruleMany", "(I)I"⟩, 32) := ⟨⟨by decide +kernel, by decide +kernel⟩, List.mem_of_getElem? (i := 1137) (by decide +kernel), List.mem_of_getElem? (i := 1457) (by decide +kernel), List.mem_of_getElem? (i := 1458) (by decide +kernel)⟩
theorem lw_p78 : lw_okq (⟨"RecordBridgeModel", "readBits", "(I)I"⟩, 32) := ⟨⟨by decide +kernel, by decide +kernel⟩, List.mem_of_getElem? (i := 1137) (by decide +kernel), List.mem_of_getElem? (i := 1461) (by decide +kernel), List.mem_of_getElem? (i := 1462) (by decide +kernel)⟩
theorem lw_p79 : lw_okq (⟨"RecordBridgeModel", "ruleHas", "(III)I"⟩, 32) := ⟨⟨by decide +kernel, by decide +kernel⟩, List.mem_of_getElem? (i := 1137) (by decide +kernel), List.mem_of_getElem? (i := 1465) (by decide +kernel), List.mem_of_getElem? (i := 1466) (by decide +kernel)⟩
def lw_privs_5 : List (MethodName × Nat) := [(⟨"RecordBridgeModel", "rule", "(IIIII)V"⟩, 32), (⟨"RecordBridgeModel", "sourceTold", "(III)V"⟩, 32), (⟨"RecordBridgeModel", "asksSign", "(I)V"⟩, 32), (⟨"RecordBridgeModel", "begins", "()V"⟩, 32), (⟨"RecordBridgeModel", "isScheme", "(I)Z"⟩, 32), (⟨"RecordBridgeModel", "recordMany", "(I)I"⟩, 32), (⟨"RecordBridgeModel", "fieldMany", "(I)I"⟩, 32), (⟨"RecordBridgeModel", "isField", "(II)Z"⟩, 32), (⟨"RecordBridgeModel", "kindOf", "(II)I"⟩, 32), (⟨"RecordBridgeModel", "cellsOf", "(II)I"⟩, 32), (⟨"RecordBridgeModel", "isCrossing", "(I)Z"⟩, 32), (⟨"RecordBridgeModel", "fromOf", "(I)I"⟩, 32), (⟨"RecordBridgeModel", "toOf", "(I)I"⟩, 32), (⟨"RecordBridgeModel", "ruleMany", "(I)I"⟩, 32), (⟨"RecordBridgeModel", "readBits", "(I)I"⟩, 32), (⟨"RecordBridgeModel", "ruleHas", "(III)I"⟩, 32)]
theorem lw_r5 : ∀ q ∈ lw_privs_5, lw_okq q := List.forall_mem_cons.mpr ⟨lw_p64, List.forall_mem_cons.mpr ⟨lw_p65, List.forall_mem_cons.mpr ⟨lw_p66, List.forall_mem_cons.mpr ⟨lw_p67, List.forall_mem_cons.mpr ⟨lw_p68, List.forall_mem_cons.mpr ⟨lw_p69, List.forall_mem_cons.mpr ⟨lw_p70, List.forall_mem_cons.mpr ⟨lw_p71, List.forall_mem_cons.mpr ⟨lw_p72, List.forall_mem_cons.mpr ⟨lw_p73, List.forall_mem_cons.mpr ⟨lw_p74, List.forall_mem_cons.mpr ⟨lw_p75, List.forall_mem_cons.mpr ⟨lw_p76, List.forall_mem_cons.mpr ⟨lw_p77, List.forall_mem_cons.mpr ⟨lw_p78, List.forall_mem_cons.mpr ⟨lw_p79, fun _ h => absurd h List.not_mem_nil⟩⟩⟩⟩⟩⟩⟩⟩⟩⟩⟩⟩⟩⟩⟩⟩
theorem lw_p80 : lw_okq (⟨"RecordBridgeModel", "filledBits", "(I)I"⟩, 32) := ⟨⟨by decide +kernel, by decide +kernel⟩, List.mem_of_getElem? (i := 1137) (by decide +kernel), List.mem_of_getElem? (i := 1469) (by decide +kernel), List.mem_of_getElem? (i := 1470) (by decide +kernel)⟩
theorem lw_p81 : lw_okq (⟨"RecordBridgeModel", "madeKind", "(II)I"⟩, 32) := ⟨⟨by decide +kernel, by decide +kernel⟩, List.mem_of_getElem? (i := 1137) (by decide +kernel), List.mem_of_getElem? (i := 1477) (by decide +kernel), List.mem_of_getElem? (i := 1478) (by decide +kernel)⟩
theorem lw_p82 : lw_okq (⟨"RecordBridgeModel", "targetKind", "(II)I"⟩, 32) := ⟨⟨by decide +kernel, by decide +kernel⟩, List.mem_of_getElem? (i := 1137) (by decide +kernel), List.mem_of_getElem? (i := 1481) (by decide +kernel), List.mem_of_getElem? (i := 1482) (by decide +kernel)⟩
theorem lw_p83 : lw_okq (⟨"RecordBridgeModel", "doesWiden", "(II)Z"⟩, 32) := ⟨⟨by decide +kernel, by decide +kernel⟩, List.mem_of_getElem? (i := 1137) (by decide +kernel), List.mem_of_getElem? (i := 1485) (by decide +kernel), List.mem_of_getElem? (i := 1486) (by decide +kernel)⟩
theorem lw_p84 : lw_okq (⟨"RecordBridgeModel", "rowKind", "(II)I"⟩, 32) := ⟨⟨by decide +kernel, by decide +kernel⟩, List.mem_of_getElem? (i := 1137) (by decide +kernel), List.mem_of_getElem? (i := 1500) (by decide +kernel), List.mem_of_getElem? (i := 1501) (by decide +kernel)⟩
theorem lw_p85 : lw_okq (⟨"RecordBridgeModel", "longOf", "(II)I"⟩, 32) := ⟨⟨by decide +kernel, by decide +kernel⟩, List.mem_of_getElem? (i := 1137) (by decide +kernel), List.mem_of_getElem? (i := 1504) (by decide +kernel), List.mem_of_getElem? (i := 1505) (by decide +kernel)⟩
theorem lw_p86 : lw_okq (⟨"RecordBridgeModel", "reasonOf", "(IIIIZ)I"⟩, 32) := ⟨⟨by decide +kernel, by decide +kernel⟩, List.mem_of_getElem? (i := 1137) (by decide +kernel), List.mem_of_getElem? (i := 1512) (by decide +kernel), List.mem_of_getElem? (i := 1513) (by decide +kernel)⟩
theorem lw_p87 : lw_okq (⟨"RecordBridgeModel", "isRefusedBy", "(I)Z"⟩, 32) := ⟨⟨by decide +kernel, by decide +kernel⟩, List.mem_of_getElem? (i := 1137) (by decide +kernel), List.mem_of_getElem? (i := 1516) (by decide +kernel), List.mem_of_getElem? (i := 1517) (by decide +kernel)⟩
theorem lw_p88 : lw_okq (⟨"RecordBridgeModel", "widened", "(JII)J"⟩, 32) := ⟨⟨by decide +kernel, by decide +kernel⟩, List.mem_of_getElem? (i := 1137) (by decide +kernel), List.mem_of_getElem? (i := 1524) (by decide +kernel), List.mem_of_getElem? (i := 1525) (by decide +kernel)⟩
theorem lw_p89 : lw_okq (⟨"RecordBridgeModel", "keeps", "()V"⟩, 32) := ⟨⟨by decide +kernel, by decide +kernel⟩, List.mem_of_getElem? (i := 1137) (by decide +kernel), List.mem_of_getElem? (i := 1581) (by decide +kernel), List.mem_of_getElem? (i := 1582) (by decide +kernel)⟩
theorem lw_p90 : lw_okq (⟨"RecordBridgeModel", "reasonPut", "(IIII)I"⟩, 32) := ⟨⟨by decide +kernel, by decide +kernel⟩, List.mem_of_getElem? (i := 1137) (by decide +kernel), List.mem_of_getElem? (i := 1600) (by decide +kernel), List.mem_of_getElem? (i := 1601) (by decide +kernel)⟩
theorem lw_p91 : lw_okq (⟨"RecordBridgeModel", "isRecord", "(II)Z"⟩, 32) := ⟨⟨by decide +kernel, by decide +kernel⟩, List.mem_of_getElem? (i := 1137) (by decide +kernel), List.mem_of_getElem? (i := 1612) (by decide +kernel), List.mem_of_getElem? (i := 1613) (by decide +kernel)⟩
theorem lw_p92 : lw_okq (⟨"RecordBridgeModel", "valueAt", "(IIII)J"⟩, 32) := ⟨⟨by decide +kernel, by decide +kernel⟩, List.mem_of_getElem? (i := 1137) (by decide +kernel), List.mem_of_getElem? (i := 1616) (by decide +kernel), List.mem_of_getElem? (i := 1617) (by decide +kernel)⟩
theorem lw_p93 : lw_okq (⟨"RecordBridgeModel", "cellAt", "(IIII)J"⟩, 32) := ⟨⟨by decide +kernel, by decide +kernel⟩, List.mem_of_getElem? (i := 1137) (by decide +kernel), List.mem_of_getElem? (i := 1620) (by decide +kernel), List.mem_of_getElem? (i := 1621) (by decide +kernel)⟩
theorem lw_p94 : lw_okq (⟨"RecordBridgeModel", "makes", "(I)I"⟩, 32) := ⟨⟨by decide +kernel, by decide +kernel⟩, List.mem_of_getElem? (i := 1137) (by decide +kernel), List.mem_of_getElem? (i := 1632) (by decide +kernel), List.mem_of_getElem? (i := 1633) (by decide +kernel)⟩
theorem lw_p95 : lw_okq (⟨"RecordBridgeModel", "laysRecord", "(II)V"⟩, 32) := ⟨⟨by decide +kernel, by decide +kernel⟩, List.mem_of_getElem? (i := 1137) (by decide +kernel), List.mem_of_getElem? (i := 1636) (by decide +kernel), List.mem_of_getElem? (i := 1637) (by decide +kernel)⟩
def lw_privs_6 : List (MethodName × Nat) := [(⟨"RecordBridgeModel", "filledBits", "(I)I"⟩, 32), (⟨"RecordBridgeModel", "madeKind", "(II)I"⟩, 32), (⟨"RecordBridgeModel", "targetKind", "(II)I"⟩, 32), (⟨"RecordBridgeModel", "doesWiden", "(II)Z"⟩, 32), (⟨"RecordBridgeModel", "rowKind", "(II)I"⟩, 32), (⟨"RecordBridgeModel", "longOf", "(II)I"⟩, 32), (⟨"RecordBridgeModel", "reasonOf", "(IIIIZ)I"⟩, 32), (⟨"RecordBridgeModel", "isRefusedBy", "(I)Z"⟩, 32), (⟨"RecordBridgeModel", "widened", "(JII)J"⟩, 32), (⟨"RecordBridgeModel", "keeps", "()V"⟩, 32), (⟨"RecordBridgeModel", "reasonPut", "(IIII)I"⟩, 32), (⟨"RecordBridgeModel", "isRecord", "(II)Z"⟩, 32), (⟨"RecordBridgeModel", "valueAt", "(IIII)J"⟩, 32), (⟨"RecordBridgeModel", "cellAt", "(IIII)J"⟩, 32), (⟨"RecordBridgeModel", "makes", "(I)I"⟩, 32), (⟨"RecordBridgeModel", "laysRecord", "(II)V"⟩, 32)]
theorem lw_r6 : ∀ q ∈ lw_privs_6, lw_okq q := List.forall_mem_cons.mpr ⟨lw_p80, List.forall_mem_cons.mpr ⟨lw_p81, List.forall_mem_cons.mpr ⟨lw_p82, List.forall_mem_cons.mpr ⟨lw_p83, List.forall_mem_cons.mpr ⟨lw_p84, List.forall_mem_cons.mpr ⟨lw_p85, List.forall_mem_cons.mpr ⟨lw_p86, List.forall_mem_cons.mpr ⟨lw_p87, List.forall_mem_cons.mpr ⟨lw_p88, List.forall_mem_cons.mpr ⟨lw_p89, List.forall_mem_cons.mpr ⟨lw_p90, List.forall_mem_cons.mpr ⟨lw_p91, List.forall_mem_cons.mpr ⟨lw_p92, List.forall_mem_cons.mpr ⟨lw_p93, List.forall_mem_cons.mpr ⟨lw_p94, List.forall_mem_cons.mpr ⟨lw_p95, fun _ h => absurd h List.not_mem_nil⟩⟩⟩⟩⟩⟩⟩⟩⟩⟩⟩⟩⟩⟩⟩⟩
theorem lw_p96 : lw_okq (⟨"RecordBridgeModel", "copiesRecord", "(III)V"⟩, 32) := ⟨⟨by decide +kernel, by decide +kernel⟩, List.mem_of_getElem? (i := 1137) (by decide +kernel), List.mem_of_getElem? (i := 1644) (by decide +kernel), List.mem_of_getElem? (i := 1645) (by decide +kernel)⟩
theorem lw_p97 : lw_okq (⟨"RecordBridgeModel", "drawOf", "(I)I"⟩, 32) := ⟨⟨by decide +kernel, by decide +kernel⟩, List.mem_of_getElem? (i := 1137) (by decide +kernel), List.mem_of_getElem? (i := 1661) (by decide +kernel), List.mem_of_getElem? (i := 1662) (by decide +kernel)⟩
theorem lw_p98 : lw_okq (⟨"RecordBridgeModel", "takesRecord", "(II)V"⟩, 32) := ⟨⟨by decide +kernel, by decide +kernel⟩, List.mem_of_getElem? (i := 1137) (by decide +kernel), List.mem_of_getElem? (i := 1673) (by decide +kernel), List.mem_of_getElem? (i := 1674) (by decide +kernel)⟩
theorem lw_p99 : lw_okq (⟨"RecordBridgeModel", "carries", "(I)V"⟩, 32) := ⟨⟨by decide +kernel, by decide +kernel⟩, List.mem_of_getElem? (i := 1137) (by decide +kernel), List.mem_of_getElem? (i := 1677) (by decide +kernel), List.mem_of_getElem? (i := 1678) (by decide +kernel)⟩
theorem lw_p100 : lw_okq (⟨"RecordBridgeModel", "longRule", "(II)I"⟩, 32) := ⟨⟨by decide +kernel, by decide +kernel⟩, List.mem_of_getElem? (i := 1137) (by decide +kernel), List.mem_of_getElem? (i := 1681) (by decide +kernel), List.mem_of_getElem? (i := 1682) (by decide +kernel)⟩
theorem lw_p101 : lw_okq (⟨"RecordBridgeModel", "made", "(III)J"⟩, 32) := ⟨⟨by decide +kernel, by decide +kernel⟩, List.mem_of_getElem? (i := 1137) (by decide +kernel), List.mem_of_getElem? (i := 1688) (by decide +kernel), List.mem_of_getElem? (i := 1689) (by decide +kernel)⟩
theorem lw_p102 : lw_okq (⟨"RecordBridgeModel", "carried", "(JII)J"⟩, 32) := ⟨⟨by decide +kernel, by decide +kernel⟩, List.mem_of_getElem? (i := 1137) (by decide +kernel), List.mem_of_getElem? (i := 1697) (by decide +kernel), List.mem_of_getElem? (i := 1698) (by decide +kernel)⟩
theorem lw_p103 : lw_okq (⟨"RecordBridgeModel", "narrowed", "(JII)J"⟩, 32) := ⟨⟨by decide +kernel, by decide +kernel⟩, List.mem_of_getElem? (i := 1137) (by decide +kernel), List.mem_of_getElem? (i := 1701) (by decide +kernel), List.mem_of_getElem? (i := 1702) (by decide +kernel)⟩
theorem lw_p104 : lw_okq (⟨"RecordBridgeModel", "tallies", "(JIJI)V"⟩, 32) := ⟨⟨by decide +kernel, by decide +kernel⟩, List.mem_of_getElem? (i := 1137) (by decide +kernel), List.mem_of_getElem? (i := 1715) (by decide +kernel), List.mem_of_getElem? (i := 1716) (by decide +kernel)⟩
theorem lw_p105 : lw_okq (⟨"RecordBridgeModel", "marks", "(III)V"⟩, 32) := ⟨⟨by decide +kernel, by decide +kernel⟩, List.mem_of_getElem? (i := 1137) (by decide +kernel), List.mem_of_getElem? (i := 1719) (by decide +kernel), List.mem_of_getElem? (i := 1720) (by decide +kernel)⟩
theorem lw_p106 : lw_okq (⟨"RecordBridgeModel", "missing", "(I[Z)I"⟩, 32) := ⟨⟨by decide +kernel, by decide +kernel⟩, List.mem_of_getElem? (i := 1137) (by decide +kernel), List.mem_of_getElem? (i := 1723) (by decide +kernel), List.mem_of_getElem? (i := 1724) (by decide +kernel)⟩
theorem lw_p107 : lw_okq (⟨"RecordBridgeModel", "canCross", "(II)Z"⟩, 32) := ⟨⟨by decide +kernel, by decide +kernel⟩, List.mem_of_getElem? (i := 1137) (by decide +kernel), List.mem_of_getElem? (i := 1735) (by decide +kernel), List.mem_of_getElem? (i := 1736) (by decide +kernel)⟩
theorem lw_p108 : lw_okq (⟨"RecordBridgeModel", "doesLeadBack", "(II)Z"⟩, 32) := ⟨⟨by decide +kernel, by decide +kernel⟩, List.mem_of_getElem? (i := 1137) (by decide +kernel), List.mem_of_getElem? (i := 1743) (by decide +kernel), List.mem_of_getElem? (i := 1744) (by decide +kernel)⟩
theorem lw_p109 : lw_okq (⟨"RecordBridgeModel", "targetIsSource", "()V"⟩, 32) := ⟨⟨by decide +kernel, by decide +kernel⟩, List.mem_of_getElem? (i := 1137) (by decide +kernel), List.mem_of_getElem? (i := 1747) (by decide +kernel), List.mem_of_getElem? (i := 1748) (by decide +kernel)⟩
theorem lw_p110 : lw_okq (⟨"RecordBridgeModel", "unlikeTarget", "(II)J"⟩, 32) := ⟨⟨by decide +kernel, by decide +kernel⟩, List.mem_of_getElem? (i := 1137) (by decide +kernel), List.mem_of_getElem? (i := 1751) (by decide +kernel), List.mem_of_getElem? (i := 1752) (by decide +kernel)⟩
theorem lw_p111 : lw_okq (⟨"RecordBridgeModel", "isProved", "(IIII)Z"⟩, 32) := ⟨⟨by decide +kernel, by decide +kernel⟩, List.mem_of_getElem? (i := 1137) (by decide +kernel), List.mem_of_getElem? (i := 1759) (by decide +kernel), List.mem_of_getElem? (i := 1760) (by decide +kernel)⟩
def lw_privs_7 : List (MethodName × Nat) := [(⟨"RecordBridgeModel", "copiesRecord", "(III)V"⟩, 32), (⟨"RecordBridgeModel", "drawOf", "(I)I"⟩, 32), (⟨"RecordBridgeModel", "takesRecord", "(II)V"⟩, 32), (⟨"RecordBridgeModel", "carries", "(I)V"⟩, 32), (⟨"RecordBridgeModel", "longRule", "(II)I"⟩, 32), (⟨"RecordBridgeModel", "made", "(III)J"⟩, 32), (⟨"RecordBridgeModel", "carried", "(JII)J"⟩, 32), (⟨"RecordBridgeModel", "narrowed", "(JII)J"⟩, 32), (⟨"RecordBridgeModel", "tallies", "(JIJI)V"⟩, 32), (⟨"RecordBridgeModel", "marks", "(III)V"⟩, 32), (⟨"RecordBridgeModel", "missing", "(I[Z)I"⟩, 32), (⟨"RecordBridgeModel", "canCross", "(II)Z"⟩, 32), (⟨"RecordBridgeModel", "doesLeadBack", "(II)Z"⟩, 32), (⟨"RecordBridgeModel", "targetIsSource", "()V"⟩, 32), (⟨"RecordBridgeModel", "unlikeTarget", "(II)J"⟩, 32), (⟨"RecordBridgeModel", "isProved", "(IIII)Z"⟩, 32)]
theorem lw_r7 : ∀ q ∈ lw_privs_7, lw_okq q := List.forall_mem_cons.mpr ⟨lw_p96, List.forall_mem_cons.mpr ⟨lw_p97, List.forall_mem_cons.mpr ⟨lw_p98, List.forall_mem_cons.mpr ⟨lw_p99, List.forall_mem_cons.mpr ⟨lw_p100, List.forall_mem_cons.mpr ⟨lw_p101, List.forall_mem_cons.mpr ⟨lw_p102, List.forall_mem_cons.mpr ⟨lw_p103, List.forall_mem_cons.mpr ⟨lw_p104, List.forall_mem_cons.mpr ⟨lw_p105, List.forall_mem_cons.mpr ⟨lw_p106, List.forall_mem_cons.mpr ⟨lw_p107, List.forall_mem_cons.mpr ⟨lw_p108, List.forall_mem_cons.mpr ⟨lw_p109, List.forall_mem_cons.mpr ⟨lw_p110, List.forall_mem_cons.mpr ⟨lw_p111, fun _ h => absurd h List.not_mem_nil⟩⟩⟩⟩⟩⟩⟩⟩⟩⟩⟩⟩⟩⟩⟩⟩
theorem lw_p112 : lw_okq (⟨"RecordBridgeModel", "isAlone", "(III)Z"⟩, 32) := ⟨⟨by decide +kernel, by decide +kernel⟩, List.mem_of_getElem? (i := 1137) (by decide +kernel), List.mem_of_getElem? (i := 1763) (by decide +kernel), List.mem_of_getElem? (i := 1764) (by decide +kernel)⟩
theorem lw_p113 : lw_okq (⟨"RecordBridgeModel", "rowsOf", "(I)I"⟩, 32) := ⟨⟨by decide +kernel, by decide +kernel⟩, List.mem_of_getElem? (i := 1137) (by decide +kernel), List.mem_of_getElem? (i := 1774) (by decide +kernel), List.mem_of_getElem? (i := 1775) (by decide +kernel)⟩
theorem lw_p114 : lw_okq (⟨"RecordBridgeModel", "isWay", "(IIII)Z"⟩, 32) := ⟨⟨by decide +kernel, by decide +kernel⟩, List.mem_of_getElem? (i := 1137) (by decide +kernel), List.mem_of_getElem? (i := 1778) (by decide +kernel), List.mem_of_getElem? (i := 1779) (by decide +kernel)⟩
theorem lw_p115 : lw_okq (⟨"RecordBridgeModel", "losses", "(III)I"⟩, 32) := ⟨⟨by decide +kernel, by decide +kernel⟩, List.mem_of_getElem? (i := 1137) (by decide +kernel), List.mem_of_getElem? (i := 1786) (by decide +kernel), List.mem_of_getElem? (i := 1787) (by decide +kernel)⟩
theorem lw_p116 : lw_okq (⟨"RecordBridgeModel", "mostAlike", "(II)I"⟩, 32) := ⟨⟨by decide +kernel, by decide +kernel⟩, List.mem_of_getElem? (i := 1137) (by decide +kernel), List.mem_of_getElem? (i := 1798) (by decide +kernel), List.mem_of_getElem? (i := 1799) (by decide +kernel)⟩
theorem lw_p117 : lw_okq (⟨"RecordBridgeModel", "areLike", "(IIII)Z"⟩, 32) := ⟨⟨by decide +kernel, by decide +kernel⟩, List.mem_of_getElem? (i := 1137) (by decide +kernel), List.mem_of_getElem? (i := 1802) (by decide +kernel), List.mem_of_getElem? (i := 1803) (by decide +kernel)⟩
def lw_privs_8 : List (MethodName × Nat) := [(⟨"RecordBridgeModel", "isAlone", "(III)Z"⟩, 32), (⟨"RecordBridgeModel", "rowsOf", "(I)I"⟩, 32), (⟨"RecordBridgeModel", "isWay", "(IIII)Z"⟩, 32), (⟨"RecordBridgeModel", "losses", "(III)I"⟩, 32), (⟨"RecordBridgeModel", "mostAlike", "(II)I"⟩, 32), (⟨"RecordBridgeModel", "areLike", "(IIII)Z"⟩, 32)]
theorem lw_r8 : ∀ q ∈ lw_privs_8, lw_okq q := List.forall_mem_cons.mpr ⟨lw_p112, List.forall_mem_cons.mpr ⟨lw_p113, List.forall_mem_cons.mpr ⟨lw_p114, List.forall_mem_cons.mpr ⟨lw_p115, List.forall_mem_cons.mpr ⟨lw_p116, List.forall_mem_cons.mpr ⟨lw_p117, fun _ h => absurd h List.not_mem_nil⟩⟩⟩⟩⟩⟩
def lw_privs : List (MethodName × Nat) := lw_privs_1 ++ (lw_privs_2 ++ (lw_privs_3 ++ (lw_privs_4 ++ (lw_privs_5 ++ (lw_privs_6 ++ (lw_privs_7 ++ (lw_privs_8)))))))
def lw_tbl : List Cond := k2_sels lw_privs ++ tables_1
theorem lw_privs_ok : ∀ q ∈ lw_privs, lw_okq q := by
  show ∀ q ∈ lw_privs_1 ++ (lw_privs_2 ++ (lw_privs_3 ++ (lw_privs_4 ++ (lw_privs_5 ++ (lw_privs_6 ++ (lw_privs_7 ++ (lw_privs_8))))))), lw_okq q
  exact List.forall_mem_append.mpr ⟨lw_r1, List.forall_mem_append.mpr ⟨lw_r2, List.forall_mem_append.mpr ⟨lw_r3, List.forall_mem_append.mpr ⟨lw_r4, List.forall_mem_append.mpr ⟨lw_r5, List.forall_mem_append.mpr ⟨lw_r6, List.forall_mem_append.mpr ⟨lw_r7, lw_r8⟩⟩⟩⟩⟩⟩⟩
/-- the streams that the claim lets the run draw from -/
abbrev lw_cs : List Choice := [Jvm.Choice.named "NaN.bits", Jvm.Choice.named "NaN.copy"]
theorem lw_bits : nanBits ∈ lw_cs := by first | decide | exact List.mem_cons_self | simp [lw_cs, nanBits]
-- ===== end of PART A; then your names; then what follows =====
end
section
/-! ===== BEGIN words of one list among another's, by their places ===== -/
theorem goodIn_r {big : List Cond} (ws : List Cond) (ps : List Nat) (hp : ws = ps.filterMap (fun i => big[i]?)) (h : ws.all goodWord = true) : GoodIn big ws := by
  intro w hw
  have h1 := List.all_eq_true.mp h w hw
  rw [hp] at hw
  obtain ⟨i, -, hi⟩ := List.mem_filterMap.mp hw
  have hm : w ∈ big := by first | exact List.mem_of_getElem? hi | exact List.getElem?_mem hi
  exact ⟨hm, good_of_word h1⟩
theorem goodIn_app {big a b : List Cond} (ha : GoodIn big a) (hb : GoodIn big b) : GoodIn big (a ++ b) := fun w h => (List.mem_append.mp h).elim (ha w) (hb w)
theorem goodIn_ca {big a b : List Cond} {c : Cond} (ha : GoodIn big (c :: a)) (hb : GoodIn big b) : GoodIn big (c :: (a ++ b)) := fun w h => (List.mem_cons.mp h).elim (fun e => ha w (List.mem_cons.mpr (Or.inl e))) (fun h => (List.mem_append.mp h).elim (fun h => ha w (List.mem_cons.mpr (Or.inr h))) (hb w))
theorem goodIn_sub {big ws : List Cond} (hm : ∀ w ∈ ws, w ∈ big) (h : ws.all goodWord = true) : GoodIn big ws := fun w hw => ⟨hm w hw, good_of_word (List.all_eq_true.mp h w hw)⟩
/-! ===== END ===== -/

/-! ===== BEGIN new T[n][m]: the outer array a place, the inner ones among the pooled ===== -/
/-- f, but v at every address of l -/
def vr_up {α : Type} (f : Nat → α) (l : List Nat) (v : α) : Nat → α := fun a => if a ∈ l then v else f a
theorem vr_up_in {α : Type} {f : Nat → α} {l : List Nat} {v : α} {a : Nat} (h : a ∈ l) : vr_up f l v a = v := if_pos h
theorem vr_up_ne {α : Type} {f : Nat → α} {l : List Nat} {v : α} {a : Nat} (h : a ∉ l) : vr_up f l v a = f a := if_neg h
theorem vr_rows {L l : List Nat} {f : Nat → va_E} {e : va_E} (h : ∀ a, a ∈ l → a ∉ L) : va_pl L f ++ l.map (fun a => (a, e)) = va_pl (L ++ l) (vr_up f l e) := by
  unfold va_pl
  rw [List.map_append]
  congr 1
  · apply List.map_congr_left
    intro a ha
    rw [vr_up_ne (fun q => h a q ha)]
  · apply List.map_congr_left
    intro a ha
    rw [vr_up_in ha]
theorem vr_lay {X rows : va_W} {x : Nat × va_E} {pl : va_W} {D : va_G} {cl : List vw_C} {H : Heap} (hP : va_P D cl (((X ++ pl) ++ [x]) ++ rows) H) : va_P D cl ((X ++ [x]) ++ (pl ++ rows)) H := by
  rw [List.append_assoc (X ++ pl)] at hP
  have h := va_P.swap hP
  rw [← List.append_assoc X] at h
  have h2 := va_P.swap h
  rw [List.append_assoc (X ++ [x])] at h2
  exact h2
theorem vr_layD {X rows : va_W} {x : Nat × va_E} {pl : va_W} {A : Nat → Prop} (hD : va_D A (((X ++ pl) ++ [x]) ++ rows)) : va_D A ((X ++ [x]) ++ (pl ++ rows)) := by
  rw [List.append_assoc (X ++ pl)] at hD
  have h := va_D.swap hD
  rw [← List.append_assoc X] at h
  have h2 := va_D.swap h
  rw [List.append_assoc (X ++ [x])] at h2
  exact h2
theorem vr_outer (c : ClassId) (N h0 : Nat) : ∀ i : Nat, Jvm.Free.Multi.outerC c N h0 i = arrV c N (fun j => va_rf (if j < i then some (h0 + 1 + j) else none))
  | 0 => by
    show ({ cls := c, slots := Array.replicate N .null, vm := .none } : Cell) = _
    rw [arrV_new]
    refine congrArg (arrV c N) (funext fun j => ?_)
    simp [va_rf]
  | i + 1 => by
    show (Jvm.Free.Multi.outerC c N h0 i).setSlot i (.ref (h0 + 1 + i)) = _
    rw [vr_outer c N h0 i, arrV_store]
    refine congrArg (arrV c N) (funext fun j => ?_)
    by_cases e : j = i
    · subst e
      simp [updV, va_rf]
    · by_cases h : j < i
      · simp [updV, e, h, Nat.lt_succ_of_lt h]
      · simp [updV, e, h, show ¬ j < i + 1 by omega]

/-! ===== END ===== -/

/-! ===== BEGIN printed: names, fields, word lists, decode rows ===== -/
def RX0 : String := "RecordBridge$BookReader"
def TX0 : u_T := fun k => match k with
  | 0 => ("RecordBridge$BookReader", "ownWords", "[I", true)
  | 1 => ("RecordBridge$BookReader", "tape", "LRecordBridge$Tape;", true)
  | 2 => ("RecordBridge$BookReader", "plan", "LRecordBridge$Plan;", false)
  | 3 => ("RecordBridge$BookReader", "state", "I", false)
  | 4 => ("RecordBridge$BookReader", "at", "I", false)
  | 5 => ("RecordBridge$BookReader", "letters", "I", false)
  | 6 => ("RecordBridge$BookReader", "word", "I", false)
  | 7 => ("RecordBridge$BookReader", "ownWord", "I", false)
  | 8 => ("RecordBridge$BookReader", "digits", "I", false)
  | 9 => ("RecordBridge$BookReader", "number", "I", false)
  | 10 => ("RecordBridge$BookReader", "shape", "LRecordBridge$Shape;", false)
  | 11 => ("RecordBridge$BookReader", "kind", "I", false)
  | 12 => ("RecordBridge$BookReader", "passage", "LRecordBridge$Passage;", false)
  | 13 => ("RecordBridge$BookReader", "from", "I", false)
  | 14 => ("RecordBridge$BookReader", "first", "LRecordBridge$Shape;", false)
  | 15 => ("RecordBridge$BookReader", "second", "LRecordBridge$Shape;", false)
  | 16 => ("RecordBridge$BookReader", "rule", "LRecordBridge$Rule;", false)
  | 17 => ("RecordBridge$BookReader", "target", "I", false)
  | 18 => ("RecordBridge$BookReader", "faultSort", "I", false)
  | _ => ("RecordBridge$BookReader", "faultPlace", "I", false)
def tyX0 : Nat → FieldType := fun k => match k with
  | 0 => .array .int
  | 1 => .object "RecordBridge$Tape"
  | 2 => .object "RecordBridge$Plan"
  | 3 => .int
  | 4 => .int
  | 5 => .int
  | 6 => .int
  | 7 => .int
  | 8 => .int
  | 9 => .int
  | 10 => .object "RecordBridge$Shape"
  | 11 => .int
  | 12 => .object "RecordBridge$Passage"
  | 13 => .int
  | 14 => .object "RecordBridge$Shape"
  | 15 => .object "RecordBridge$Shape"
  | 16 => .object "RecordBridge$Rule"
  | 17 => .int
  | 18 => .int
  | _ => .int
theorem nmX0 : ∀ a, a < 20 → ∀ b, b < 20 → a ≠ b → (TX0 a).2.1 ≠ (TX0 b).2.1 := by decide +kernel
theorem tyX0_ok : ∀ k, k < 20 → parseFieldDescriptor (TX0 k).2.2.1 = some (tyX0 k) := by decide +kernel
abbrev cX0_init : ByteArray := prog_2_method_1_code
def yX0_init : MethodName := ⟨RX0, "<init>", "()V"⟩
abbrev cX0_readBook : ByteArray := prog_2_method_2_code
def yX0_readBook : MethodName := ⟨RX0, "readBook", "()Z"⟩
abbrev cX0_lookAtNext : ByteArray := prog_2_method_3_code
def yX0_lookAtNext : MethodName := ⟨RX0, "lookAtNext", "()V"⟩
abbrev cX0_takeInScheme : ByteArray := prog_2_method_4_code
def yX0_takeInScheme : MethodName := ⟨RX0, "takeInScheme", "()Z"⟩
abbrev cX0_takeInCross : ByteArray := prog_2_method_5_code
def yX0_takeInCross : MethodName := ⟨RX0, "takeInCross", "()Z"⟩
abbrev cX0_refuse : ByteArray := prog_2_method_6_code
def yX0_refuse : MethodName := ⟨RX0, "refuse", "(II)Z"⟩
abbrev cX0_goOn : ByteArray := prog_2_method_7_code
def yX0_goOn : MethodName := ⟨RX0, "goOn", "(I)Z"⟩
abbrev cX0_nameStands : ByteArray := prog_2_method_8_code
def yX0_nameStands : MethodName := ⟨RX0, "nameStands", "()Z"⟩
abbrev cX0_numberStands : ByteArray := prog_2_method_9_code
def yX0_numberStands : MethodName := ⟨RX0, "numberStands", "(II)Z"⟩
abbrev cX0_refuseOneMore : ByteArray := prog_2_method_10_code
def yX0_refuseOneMore : MethodName := ⟨RX0, "refuseOneMore", "()Z"⟩
abbrev cX0_takeSign : ByteArray := prog_2_method_11_code
def yX0_takeSign : MethodName := ⟨RX0, "takeSign", "(I)Z"⟩
abbrev cX0_takeStatement : ByteArray := prog_2_method_12_code
def yX0_takeStatement : MethodName := ⟨RX0, "takeStatement", "()Z"⟩
abbrev cX0_takeSchemeName : ByteArray := prog_2_method_13_code
def yX0_takeSchemeName : MethodName := ⟨RX0, "takeSchemeName", "()Z"⟩
abbrev cX0_takeKind : ByteArray := prog_2_method_14_code
def yX0_takeKind : MethodName := ⟨RX0, "takeKind", "()Z"⟩
abbrev cX0_takeFieldName : ByteArray := prog_2_method_15_code
def yX0_takeFieldName : MethodName := ⟨RX0, "takeFieldName", "()Z"⟩
abbrev cX0_takeTimesNumber : ByteArray := prog_2_method_16_code
def yX0_takeTimesNumber : MethodName := ⟨RX0, "takeTimesNumber", "()Z"⟩
abbrev cX0_takeFirstScheme : ByteArray := prog_2_method_17_code
def yX0_takeFirstScheme : MethodName := ⟨RX0, "takeFirstScheme", "()Z"⟩
abbrev cX0_takeSecondScheme : ByteArray := prog_2_method_18_code
def yX0_takeSecondScheme : MethodName := ⟨RX0, "takeSecondScheme", "()Z"⟩
abbrev cX0_takeTarget : ByteArray := prog_2_method_19_code
def yX0_takeTarget : MethodName := ⟨RX0, "takeTarget", "()Z"⟩
abbrev cX0_takeNumberSource : ByteArray := prog_2_method_20_code
def yX0_takeNumberSource : MethodName := ⟨RX0, "takeNumberSource", "()Z"⟩
abbrev cX0_takeFieldSource : ByteArray := prog_2_method_21_code
def yX0_takeFieldSource : MethodName := ⟨RX0, "takeFieldSource", "()Z"⟩
abbrev cX0_beginRule : ByteArray := prog_2_method_22_code
def yX0_beginRule : MethodName := ⟨RX0, "beginRule", "(IIII)Z"⟩
abbrev cX0_takeSort : ByteArray := prog_2_method_23_code
def yX0_takeSort : MethodName := ⟨RX0, "takeSort", "()Z"⟩
abbrev cX0_takeFactor : ByteArray := prog_2_method_24_code
def yX0_takeFactor : MethodName := ⟨RX0, "takeFactor", "()Z"⟩
abbrev cX0_takeSecondField : ByteArray := prog_2_method_25_code
def yX0_takeSecondField : MethodName := ⟨RX0, "takeSecondField", "()Z"⟩
abbrev cX0_takeRuleSign : ByteArray := prog_2_method_26_code
def yX0_takeRuleSign : MethodName := ⟨RX0, "takeRuleSign", "()Z"⟩
def RX1 : String := "RecordBridge$Carrier"
def TX1 : u_T := fun k => match k with
  | _ => ("RecordBridge$Carrier", "account", "[I", true)
def tyX1 : Nat → FieldType := fun k => match k with
  | _ => .array .int
theorem nmX1 : ∀ a, a < 1 → ∀ b, b < 1 → a ≠ b → (TX1 a).2.1 ≠ (TX1 b).2.1 := by decide +kernel
theorem tyX1_ok : ∀ k, k < 1 → parseFieldDescriptor (TX1 k).2.2.1 = some (tyX1 k) := by decide +kernel
abbrev cX1_init : ByteArray := prog_3_method_1_code
def yX1_init : MethodName := ⟨RX1, "<init>", "()V"⟩
abbrev cX1_carry : ByteArray := prog_3_method_2_code
def yX1_carry : MethodName := ⟨RX1, "carry", "(LRecordBridge$Plan;LRecordBridge$Passage;[J[J)V"⟩
abbrev cX1_carryByRule : ByteArray := prog_3_method_3_code
def yX1_carryByRule : MethodName := ⟨RX1, "carryByRule", "(LRecordBridge$Rule;LRecordBridge$Shape;LRecordBridge$Shape;[J[J)V"⟩
abbrev cX1_valueMade : ByteArray := prog_3_method_4_code
def yX1_valueMade : MethodName := ⟨RX1, "valueMade", "(LRecordBridge$Rule;LRecordBridge$Shape;[JI)J"⟩
abbrev cX1_valueOf : ByteArray := prog_3_method_5_code
def yX1_valueOf : MethodName := ⟨RX1, "valueOf", "(LRecordBridge$Shape;I[JI)J"⟩
abbrev cX1_wholeMade : ByteArray := prog_3_method_6_code
def yX1_wholeMade : MethodName := ⟨RX1, "wholeMade", "(IJJ)J"⟩
abbrev cX1_realMade : ByteArray := prog_3_method_7_code
def yX1_realMade : MethodName := ⟨RX1, "realMade", "(IDD)D"⟩
def RX2 : String := "RecordBridge$Kinds"
def TX2 : u_T := fun k => match k with
  | _ => ("", "", "", false)
def tyX2 : Nat → FieldType := fun k => match k with
  | _ => .int
theorem nmX2 : ∀ a, a < 0 → ∀ b, b < 0 → a ≠ b → (TX2 a).2.1 ≠ (TX2 b).2.1 := by decide +kernel
theorem tyX2_ok : ∀ k, k < 0 → parseFieldDescriptor (TX2 k).2.2.1 = some (tyX2 k) := by decide +kernel
abbrev cX2_isNumber : ByteArray := prog_4_method_2_code
def yX2_isNumber : MethodName := ⟨RX2, "isNumber", "(I)Z"⟩
abbrev cX2_isReal : ByteArray := prog_4_method_3_code
def yX2_isReal : MethodName := ⟨RX2, "isReal", "(I)Z"⟩
abbrev cX2_goesInto : ByteArray := prog_4_method_4_code
def yX2_goesInto : MethodName := ⟨RX2, "goesInto", "(II)Z"⟩
abbrev cX2_goesWholeInto : ByteArray := prog_4_method_5_code
def yX2_goesWholeInto : MethodName := ⟨RX2, "goesWholeInto", "(II)Z"⟩
abbrev cX2_told : ByteArray := prog_4_method_6_code
def yX2_told : MethodName := ⟨RX2, "told", "(IJ)J"⟩
abbrev cX2_toldWord : ByteArray := prog_4_method_7_code
def yX2_toldWord : MethodName := ⟨RX2, "toldWord", "(J)J"⟩
abbrev cX2_changed : ByteArray := prog_4_method_8_code
def yX2_changed : MethodName := ⟨RX2, "changed", "(IJI)J"⟩
abbrev cX2_realOf : ByteArray := prog_4_method_9_code
def yX2_realOf : MethodName := ⟨RX2, "realOf", "(IJ)D"⟩
abbrev cX2_wholeOfWord : ByteArray := prog_4_method_10_code
def yX2_wholeOfWord : MethodName := ⟨RX2, "wholeOfWord", "(J)J"⟩
abbrev cX2_digitsWord : ByteArray := prog_4_method_11_code
def yX2_digitsWord : MethodName := ⟨RX2, "digitsWord", "(J)J"⟩
abbrev cX2_ofWhole : ByteArray := prog_4_method_12_code
def yX2_ofWhole : MethodName := ⟨RX2, "ofWhole", "(JI)J"⟩
abbrev cX2_ofReal : ByteArray := prog_4_method_13_code
def yX2_ofReal : MethodName := ⟨RX2, "ofReal", "(DI)J"⟩
def RX3 : String := "RecordBridge$Passage"
def TX3 : u_T := fun k => match k with
  | 0 => ("RecordBridge$Passage", "rules", "[LRecordBridge$Rule;", true)
  | 1 => ("RecordBridge$Passage", "from", "I", false)
  | 2 => ("RecordBridge$Passage", "to", "I", false)
  | _ => ("RecordBridge$Passage", "ruleCount", "I", false)
def tyX3 : Nat → FieldType := fun k => match k with
  | 0 => .array (.object "RecordBridge$Rule")
  | 1 => .int
  | 2 => .int
  | _ => .int
theorem nmX3 : ∀ a, a < 4 → ∀ b, b < 4 → a ≠ b → (TX3 a).2.1 ≠ (TX3 b).2.1 := by decide +kernel
theorem tyX3_ok : ∀ k, k < 4 → parseFieldDescriptor (TX3 k).2.2.1 = some (tyX3 k) := by decide +kernel
abbrev cX3_init : ByteArray := prog_5_method_1_code
def yX3_init : MethodName := ⟨RX3, "<init>", "()V"⟩
abbrev cX3_begin : ByteArray := prog_5_method_2_code
def yX3_begin : MethodName := ⟨RX3, "begin", "(II)V"⟩
abbrev cX3_ruleAt : ByteArray := prog_5_method_3_code
def yX3_ruleAt : MethodName := ⟨RX3, "ruleAt", "(I)LRecordBridge$Rule;"⟩
abbrev cX3_addRule : ByteArray := prog_5_method_4_code
def yX3_addRule : MethodName := ⟨RX3, "addRule", "()LRecordBridge$Rule;"⟩
abbrev cX3_fieldsRead : ByteArray := prog_5_method_5_code
def yX3_fieldsRead : MethodName := ⟨RX3, "fieldsRead", "()I"⟩
abbrev cX3_fieldsFilled : ByteArray := prog_5_method_6_code
def yX3_fieldsFilled : MethodName := ⟨RX3, "fieldsFilled", "()I"⟩
abbrev cX3_leadsBack : ByteArray := prog_5_method_7_code
def yX3_leadsBack : MethodName := ⟨RX3, "leadsBack", "(LRecordBridge$Passage;)Z"⟩
abbrev cX3_fieldsKeptWhole : ByteArray := prog_5_method_8_code
def yX3_fieldsKeptWhole : MethodName := ⟨RX3, "fieldsKeptWhole", "(LRecordBridge$Passage;LRecordBridge$Shape;LRecordBridge$Shape;)I"⟩
abbrev cX3_keepsWhole : ByteArray := prog_5_method_9_code
def yX3_keepsWhole : MethodName := ⟨RX3, "keepsWhole", "(LRecordBridge$Rule;LRecordBridge$Shape;LRecordBridge$Shape;)Z"⟩
abbrev cX3_carriesAlone : ByteArray := prog_5_method_10_code
def yX3_carriesAlone : MethodName := ⟨RX3, "carriesAlone", "(II)Z"⟩
def RX4 : String := "RecordBridge$Plan"
def TX4 : u_T := fun k => match k with
  | 0 => ("RecordBridge$Plan", "shapes", "[LRecordBridge$Shape;", true)
  | 1 => ("RecordBridge$Plan", "passages", "[LRecordBridge$Passage;", true)
  | 2 => ("RecordBridge$Plan", "shapeCount", "I", false)
  | _ => ("RecordBridge$Plan", "passageCount", "I", false)
def tyX4 : Nat → FieldType := fun k => match k with
  | 0 => .array (.object "RecordBridge$Shape")
  | 1 => .array (.object "RecordBridge$Passage")
  | 2 => .int
  | _ => .int
theorem nmX4 : ∀ a, a < 4 → ∀ b, b < 4 → a ≠ b → (TX4 a).2.1 ≠ (TX4 b).2.1 := by decide +kernel
theorem tyX4_ok : ∀ k, k < 4 → parseFieldDescriptor (TX4 k).2.2.1 = some (tyX4 k) := by decide +kernel
abbrev cX4_init : ByteArray := prog_6_method_1_code
def yX4_init : MethodName := ⟨RX4, "<init>", "()V"⟩
abbrev cX4_clear : ByteArray := prog_6_method_2_code
def yX4_clear : MethodName := ⟨RX4, "clear", "()V"⟩
abbrev cX4_shape : ByteArray := prog_6_method_3_code
def yX4_shape : MethodName := ⟨RX4, "shape", "(I)LRecordBridge$Shape;"⟩
abbrev cX4_passage : ByteArray := prog_6_method_4_code
def yX4_passage : MethodName := ⟨RX4, "passage", "(I)LRecordBridge$Passage;"⟩
abbrev cX4_addShape : ByteArray := prog_6_method_5_code
def yX4_addShape : MethodName := ⟨RX4, "addShape", "(I)LRecordBridge$Shape;"⟩
abbrev cX4_addPassage : ByteArray := prog_6_method_6_code
def yX4_addPassage : MethodName := ⟨RX4, "addPassage", "(II)LRecordBridge$Passage;"⟩
abbrev cX4_shapeOfName : ByteArray := prog_6_method_7_code
def yX4_shapeOfName : MethodName := ⟨RX4, "shapeOfName", "(I)I"⟩
def RX5 : String := "RecordBridge$Reals"
def TX5 : u_T := fun k => match k with
  | _ => ("", "", "", false)
def tyX5 : Nat → FieldType := fun k => match k with
  | _ => .int
theorem nmX5 : ∀ a, a < 0 → ∀ b, b < 0 → a ≠ b → (TX5 a).2.1 ≠ (TX5 b).2.1 := by decide +kernel
theorem tyX5_ok : ∀ k, k < 0 → parseFieldDescriptor (TX5 k).2.2.1 = some (tyX5 k) := by decide +kernel
abbrev cX5_toBits : ByteArray := prog_7_method_2_code
def yX5_toBits : MethodName := ⟨RX5, "toBits", "(DI)J"⟩
abbrev cX5_fromBits : ByteArray := prog_7_method_3_code
def yX5_fromBits : MethodName := ⟨RX5, "fromBits", "(JI)D"⟩
def RX6 : String := "RecordBridge$Rows"
def TX6 : u_T := fun k => match k with
  | 0 => ("RecordBridge$Rows", "now", "[J", true)
  | 1 => ("RecordBridge$Rows", "past", "[[J", true)
  | 2 => ("RecordBridge$Rows", "next", "I", false)
  | _ => ("RecordBridge$Rows", "kept", "I", false)
def tyX6 : Nat → FieldType := fun k => match k with
  | 0 => .array .long
  | 1 => .array (.array .long)
  | 2 => .int
  | _ => .int
theorem nmX6 : ∀ a, a < 4 → ∀ b, b < 4 → a ≠ b → (TX6 a).2.1 ≠ (TX6 b).2.1 := by decide +kernel
theorem tyX6_ok : ∀ k, k < 4 → parseFieldDescriptor (TX6 k).2.2.1 = some (tyX6 k) := by decide +kernel
abbrev cX6_init : ByteArray := prog_8_method_1_code
def yX6_init : MethodName := ⟨RX6, "<init>", "()V"⟩
abbrev cX6_clear : ByteArray := prog_8_method_2_code
def yX6_clear : MethodName := ⟨RX6, "clear", "()V"⟩
abbrev cX6_keepPast : ByteArray := prog_8_method_3_code
def yX6_keepPast : MethodName := ⟨RX6, "keepPast", "()V"⟩
abbrev cX6_goBack : ByteArray := prog_8_method_4_code
def yX6_goBack : MethodName := ⟨RX6, "goBack", "()Z"⟩
abbrev cX6_countOf : ByteArray := prog_8_method_5_code
def yX6_countOf : MethodName := ⟨RX6, "countOf", "(I)I"⟩
abbrev cX6_hasRecord : ByteArray := prog_8_method_6_code
def yX6_hasRecord : MethodName := ⟨RX6, "hasRecord", "(II)Z"⟩
abbrev cX6_hasRoom : ByteArray := prog_8_method_7_code
def yX6_hasRoom : MethodName := ⟨RX6, "hasRoom", "(I)Z"⟩
abbrev cX6_recordStart : ByteArray := prog_8_method_8_code
def yX6_recordStart : MethodName := ⟨RX6, "recordStart", "(II)I"⟩
abbrev cX6_isRecordPlace : ByteArray := prog_8_method_9_code
def yX6_isRecordPlace : MethodName := ⟨RX6, "isRecordPlace", "(II)Z"⟩
abbrev cX6_blank : ByteArray := prog_8_method_10_code
def yX6_blank : MethodName := ⟨RX6, "blank", "(II)V"⟩
abbrev cX6_move : ByteArray := prog_8_method_11_code
def yX6_move : MethodName := ⟨RX6, "move", "(III)V"⟩
abbrev cX6_addBlank : ByteArray := prog_8_method_12_code
def yX6_addBlank : MethodName := ⟨RX6, "addBlank", "(I)I"⟩
abbrev cX6_addLike : ByteArray := prog_8_method_13_code
def yX6_addLike : MethodName := ⟨RX6, "addLike", "(II)I"⟩
abbrev cX6_remove : ByteArray := prog_8_method_14_code
def yX6_remove : MethodName := ⟨RX6, "remove", "(II)V"⟩
abbrev cX6_indexOf : ByteArray := prog_8_method_15_code
def yX6_indexOf : MethodName := ⟨RX6, "indexOf", "(ILRecordBridge$Shape;II)I"⟩
abbrev cX6_rawAt : ByteArray := prog_8_method_16_code
def yX6_rawAt : MethodName := ⟨RX6, "rawAt", "(ILRecordBridge$Shape;II)J"⟩
abbrev cX6_isEmptyAt : ByteArray := prog_8_method_17_code
def yX6_isEmptyAt : MethodName := ⟨RX6, "isEmptyAt", "(ILRecordBridge$Shape;II)Z"⟩
abbrev cX6_valueAt : ByteArray := prog_8_method_18_code
def yX6_valueAt : MethodName := ⟨RX6, "valueAt", "(ILRecordBridge$Shape;II)J"⟩
abbrev cX6_setAt : ByteArray := prog_8_method_19_code
def yX6_setAt : MethodName := ⟨RX6, "setAt", "(ILRecordBridge$Shape;IIJ)V"⟩
abbrev cX6_thingKind : ByteArray := prog_8_method_20_code
def yX6_thingKind : MethodName := ⟨RX6, "thingKind", "(I)I"⟩
abbrev cX6_thingValue : ByteArray := prog_8_method_21_code
def yX6_thingValue : MethodName := ⟨RX6, "thingValue", "(I)J"⟩
abbrev cX6_setThing : ByteArray := prog_8_method_22_code
def yX6_setThing : MethodName := ⟨RX6, "setThing", "(IIJ)V"⟩
abbrev cX6_takeValues : ByteArray := prog_8_method_23_code
def yX6_takeValues : MethodName := ⟨RX6, "takeValues", "(ILRecordBridge$Shape;I[J)V"⟩
abbrev cX6_setValues : ByteArray := prog_8_method_24_code
def yX6_setValues : MethodName := ⟨RX6, "setValues", "(II[J)V"⟩
abbrev cX6_mostAlike : ByteArray := prog_8_method_25_code
def yX6_mostAlike : MethodName := ⟨RX6, "mostAlike", "(ILRecordBridge$Shape;I)I"⟩
abbrev cX6_areAlike : ByteArray := prog_8_method_26_code
def yX6_areAlike : MethodName := ⟨RX6, "areAlike", "(ILRecordBridge$Shape;III)Z"⟩
def RX7 : String := "RecordBridge$Rule"
def TX7 : u_T := fun k => match k with
  | 0 => ("RecordBridge$Rule", "target", "I", false)
  | 1 => ("RecordBridge$Rule", "sort", "I", false)
  | 2 => ("RecordBridge$Rule", "first", "I", false)
  | 3 => ("RecordBridge$Rule", "other", "I", false)
  | 4 => ("RecordBridge$Rule", "made", "I", false)
  | 5 => ("RecordBridge$Rule", "cells", "I", false)
  | 6 => ("RecordBridge$Rule", "cellsRead", "I", false)
  | _ => ("RecordBridge$Rule", "fits", "Z", false)
def tyX7 : Nat → FieldType := fun k => match k with
  | 0 => .int
  | 1 => .int
  | 2 => .int
  | 3 => .int
  | 4 => .int
  | 5 => .int
  | 6 => .int
  | _ => .boolean
theorem nmX7 : ∀ a, a < 8 → ∀ b, b < 8 → a ≠ b → (TX7 a).2.1 ≠ (TX7 b).2.1 := by decide +kernel
theorem tyX7_ok : ∀ k, k < 8 → parseFieldDescriptor (TX7 k).2.2.1 = some (tyX7 k) := by decide +kernel
abbrev cX7_init : ByteArray := prog_9_method_1_code
def yX7_init : MethodName := ⟨RX7, "<init>", "()V"⟩
abbrev cX7_set : ByteArray := prog_9_method_2_code
def yX7_set : MethodName := ⟨RX7, "set", "(IIII)V"⟩
abbrev cX7_settle : ByteArray := prog_9_method_3_code
def yX7_settle : MethodName := ⟨RX7, "settle", "(LRecordBridge$Shape;LRecordBridge$Shape;)V"⟩
abbrev cX7_fieldsRead : ByteArray := prog_9_method_4_code
def yX7_fieldsRead : MethodName := ⟨RX7, "fieldsRead", "()I"⟩
abbrev cX7_isAlone : ByteArray := prog_9_method_5_code
def yX7_isAlone : MethodName := ⟨RX7, "isAlone", "(II)Z"⟩
def RX8 : String := "RecordBridge$Shape"
def TX8 : u_T := fun k => match k with
  | 0 => ("RecordBridge$Shape", "names", "[I", true)
  | 1 => ("RecordBridge$Shape", "kinds", "[I", true)
  | 2 => ("RecordBridge$Shape", "cells", "[I", true)
  | 3 => ("RecordBridge$Shape", "starts", "[I", true)
  | 4 => ("RecordBridge$Shape", "name", "I", false)
  | 5 => ("RecordBridge$Shape", "fieldCount", "I", false)
  | _ => ("RecordBridge$Shape", "cellCount", "I", false)
def tyX8 : Nat → FieldType := fun k => match k with
  | 0 => .array .int
  | 1 => .array .int
  | 2 => .array .int
  | 3 => .array .int
  | 4 => .int
  | 5 => .int
  | _ => .int
theorem nmX8 : ∀ a, a < 7 → ∀ b, b < 7 → a ≠ b → (TX8 a).2.1 ≠ (TX8 b).2.1 := by decide +kernel
theorem tyX8_ok : ∀ k, k < 7 → parseFieldDescriptor (TX8 k).2.2.1 = some (tyX8 k) := by decide +kernel
abbrev cX8_init : ByteArray := prog_10_method_1_code
def yX8_init : MethodName := ⟨RX8, "<init>", "()V"⟩
abbrev cX8_begin : ByteArray := prog_10_method_2_code
def yX8_begin : MethodName := ⟨RX8, "begin", "(I)V"⟩
abbrev cX8_addField : ByteArray := prog_10_method_3_code
def yX8_addField : MethodName := ⟨RX8, "addField", "(II)V"⟩
abbrev cX8_repeatLast : ByteArray := prog_10_method_4_code
def yX8_repeatLast : MethodName := ⟨RX8, "repeatLast", "(I)V"⟩
abbrev cX8_hasField : ByteArray := prog_10_method_5_code
def yX8_hasField : MethodName := ⟨RX8, "hasField", "(I)Z"⟩
abbrev cX8_kindOf : ByteArray := prog_10_method_6_code
def yX8_kindOf : MethodName := ⟨RX8, "kindOf", "(I)I"⟩
abbrev cX8_hasWords : ByteArray := prog_10_method_7_code
def yX8_hasWords : MethodName := ⟨RX8, "hasWords", "(I)Z"⟩
abbrev cX8_fieldOfName : ByteArray := prog_10_method_8_code
def yX8_fieldOfName : MethodName := ⟨RX8, "fieldOfName", "(I)I"⟩
def RX9 : String := "RecordBridge$Tape"
def TX9 : u_T := fun k => match k with
  | 0 => ("RecordBridge$Tape", "bytes", "[I", true)
  | _ => ("RecordBridge$Tape", "count", "I", false)
def tyX9 : Nat → FieldType := fun k => match k with
  | 0 => .array .int
  | _ => .int
theorem nmX9 : ∀ a, a < 2 → ∀ b, b < 2 → a ≠ b → (TX9 a).2.1 ≠ (TX9 b).2.1 := by decide +kernel
theorem tyX9_ok : ∀ k, k < 2 → parseFieldDescriptor (TX9 k).2.2.1 = some (tyX9 k) := by decide +kernel
abbrev cX9_init : ByteArray := prog_11_method_1_code
def yX9_init : MethodName := ⟨RX9, "<init>", "()V"⟩
abbrev cX9_takes : ByteArray := prog_11_method_2_code
def yX9_takes : MethodName := ⟨RX9, "takes", "(I)Z"⟩
abbrev cX9_addNumber : ByteArray := prog_11_method_3_code
def yX9_addNumber : MethodName := ⟨RX9, "addNumber", "(I)V"⟩
abbrev cX9_byteAt : ByteArray := prog_11_method_4_code
def yX9_byteAt : MethodName := ⟨RX9, "byteAt", "(I)I"⟩
abbrev cX9_isLetter : ByteArray := prog_11_method_5_code
def yX9_isLetter : MethodName := ⟨RX9, "isLetter", "(I)Z"⟩
abbrev cX9_isDigit : ByteArray := prog_11_method_6_code
def yX9_isDigit : MethodName := ⟨RX9, "isDigit", "(I)Z"⟩
abbrev cX9_isBlank : ByteArray := prog_11_method_7_code
def yX9_isBlank : MethodName := ⟨RX9, "isBlank", "(I)Z"⟩
abbrev cX9_lettersFrom : ByteArray := prog_11_method_8_code
def yX9_lettersFrom : MethodName := ⟨RX9, "lettersFrom", "(I)I"⟩
abbrev cX9_digitsFrom : ByteArray := prog_11_method_9_code
def yX9_digitsFrom : MethodName := ⟨RX9, "digitsFrom", "(I)I"⟩
abbrev cX9_numberFrom : ByteArray := prog_11_method_10_code
def yX9_numberFrom : MethodName := ⟨RX9, "numberFrom", "(II)I"⟩
abbrev cX9_nameFrom : ByteArray := prog_11_method_11_code
def yX9_nameFrom : MethodName := ⟨RX9, "nameFrom", "(I)I"⟩
abbrev cX9_wholeName : ByteArray := prog_11_method_12_code
def yX9_wholeName : MethodName := ⟨RX9, "wholeName", "()I"⟩
abbrev cX9_withLetter : ByteArray := prog_11_method_13_code
def yX9_withLetter : MethodName := ⟨RX9, "withLetter", "(III)I"⟩
abbrev cX9_letterOf : ByteArray := prog_11_method_14_code
def yX9_letterOf : MethodName := ⟨RX9, "letterOf", "(II)I"⟩
def RX10 : String := "RecordBridge$Ways"
def TX10 : u_T := fun k => match k with
  | 0 => ("RecordBridge$Ways", "steps", "[I", true)
  | 1 => ("RecordBridge$Ways", "bestSteps", "[I", true)
  | 2 => ("RecordBridge$Ways", "one", "[J", true)
  | 3 => ("RecordBridge$Ways", "other", "[J", true)
  | 4 => ("RecordBridge$Ways", "bestCount", "I", false)
  | _ => ("RecordBridge$Ways", "leastLost", "I", false)
def tyX10 : Nat → FieldType := fun k => match k with
  | 0 => .array .int
  | 1 => .array .int
  | 2 => .array .long
  | 3 => .array .long
  | 4 => .int
  | _ => .int
theorem nmX10 : ∀ a, a < 6 → ∀ b, b < 6 → a ≠ b → (TX10 a).2.1 ≠ (TX10 b).2.1 := by decide +kernel
theorem tyX10_ok : ∀ k, k < 6 → parseFieldDescriptor (TX10 k).2.2.1 = some (tyX10 k) := by decide +kernel
abbrev cX10_init : ByteArray := prog_12_method_1_code
def yX10_init : MethodName := ⟨RX10, "<init>", "()V"⟩
abbrev cX10_stepAt : ByteArray := prog_12_method_2_code
def yX10_stepAt : MethodName := ⟨RX10, "stepAt", "(I)I"⟩
abbrev cX10_findShortest : ByteArray := prog_12_method_3_code
def yX10_findShortest : MethodName := ⟨RX10, "findShortest", "(LRecordBridge$Plan;II)Z"⟩
abbrev cX10_findLeast : ByteArray := prog_12_method_4_code
def yX10_findLeast : MethodName := ⟨RX10, "findLeast", "(LRecordBridge$Plan;II[JLRecordBridge$Carrier;)Z"⟩
abbrev cX10_choose : ByteArray := prog_12_method_5_code
def yX10_choose : MethodName := ⟨RX10, "choose", "(I)V"⟩
abbrev cX10_leads : ByteArray := prog_12_method_6_code
def yX10_leads : MethodName := ⟨RX10, "leads", "(LRecordBridge$Plan;IIII)Z"⟩
abbrev cX10_lostBySteps : ByteArray := prog_12_method_7_code
def yX10_lostBySteps : MethodName := ⟨RX10, "lostBySteps", "(LRecordBridge$Plan;I[JLRecordBridge$Carrier;)I"⟩
def RX11 : String := "RecordBridge"
def TX11 : u_T := fun k => match k with
  | 0 => ("RecordBridge", "tape", "LRecordBridge$Tape;", true)
  | 1 => ("RecordBridge", "reader", "LRecordBridge$BookReader;", true)
  | 2 => ("RecordBridge", "rows", "LRecordBridge$Rows;", true)
  | 3 => ("RecordBridge", "carrier", "LRecordBridge$Carrier;", true)
  | 4 => ("RecordBridge", "ways", "LRecordBridge$Ways;", true)
  | 5 => ("RecordBridge", "refusals", "[I", true)
  | 6 => ("RecordBridge", "lastAccount", "[I", true)
  | 7 => ("RecordBridge", "values", "[J", true)
  | 8 => ("RecordBridge", "carried", "[J", true)
  | 9 => ("RecordBridge", "compared", "[J", true)
  | 10 => ("RecordBridge", "plan", "LRecordBridge$Plan;", false)
  | 11 => ("RecordBridge", "accounted", "Z", false)
  | 12 => ("RecordBridge", "reason", "I", false)
  | _ => ("RecordBridge", "drawn", "I", false)
def tyX11 : Nat → FieldType := fun k => match k with
  | 0 => .object "RecordBridge$Tape"
  | 1 => .object "RecordBridge$BookReader"
  | 2 => .object "RecordBridge$Rows"
  | 3 => .object "RecordBridge$Carrier"
  | 4 => .object "RecordBridge$Ways"
  | 5 => .array .int
  | 6 => .array .int
  | 7 => .array .long
  | 8 => .array .long
  | 9 => .array .long
  | 10 => .object "RecordBridge$Plan"
  | 11 => .boolean
  | 12 => .int
  | _ => .int
theorem nmX11 : ∀ a, a < 14 → ∀ b, b < 14 → a ≠ b → (TX11 a).2.1 ≠ (TX11 b).2.1 := by decide +kernel
theorem tyX11_ok : ∀ k, k < 14 → parseFieldDescriptor (TX11 k).2.2.1 = some (tyX11 k) := by decide +kernel
abbrev cX11_init : ByteArray := prog_1_method_1_code
def yX11_init : MethodName := ⟨RX11, "<init>", "()V"⟩
abbrev cX11_feed : ByteArray := prog_1_method_2_code
def yX11_feed : MethodName := ⟨RX11, "feed", "(IIIII)I"⟩
abbrev cX11_end : ByteArray := prog_1_method_3_code
def yX11_end : MethodName := ⟨RX11, "end", "(I)Z"⟩
abbrev cX11_book : ByteArray := prog_1_method_4_code
def yX11_book : MethodName := ⟨RX11, "book", "()I"⟩
abbrev cX11_fault : ByteArray := prog_1_method_5_code
def yX11_fault : MethodName := ⟨RX11, "fault", "(I)I"⟩
abbrev cX11_has : ByteArray := prog_1_method_6_code
def yX11_has : MethodName := ⟨RX11, "has", "(I)I"⟩
abbrev cX11_hasOfScheme : ByteArray := prog_1_method_7_code
def yX11_hasOfScheme : MethodName := ⟨RX11, "hasOfScheme", "(I)I"⟩
abbrev cX11_letter : ByteArray := prog_1_method_8_code
def yX11_letter : MethodName := ⟨RX11, "letter", "(III)I"⟩
abbrev cX11_named : ByteArray := prog_1_method_9_code
def yX11_named : MethodName := ⟨RX11, "named", "(I)I"⟩
abbrev cX11_field : ByteArray := prog_1_method_10_code
def yX11_field : MethodName := ⟨RX11, "field", "(III)I"⟩
abbrev cX11_crossing : ByteArray := prog_1_method_11_code
def yX11_crossing : MethodName := ⟨RX11, "crossing", "(II)I"⟩
abbrev cX11_rule : ByteArray := prog_1_method_12_code
def yX11_rule : MethodName := ⟨RX11, "rule", "(III)I"⟩
abbrev cX11_widens : ByteArray := prog_1_method_13_code
def yX11_widens : MethodName := ⟨RX11, "widens", "(II)I"⟩
abbrev cX11_length : ByteArray := prog_1_method_14_code
def yX11_length : MethodName := ⟨RX11, "length", "(II)I"⟩
abbrev cX11_read : ByteArray := prog_1_method_15_code
def yX11_read : MethodName := ⟨RX11, "read", "(IIII)J"⟩
abbrev cX11_get : ByteArray := prog_1_method_16_code
def yX11_get : MethodName := ⟨RX11, "get", "(IIII)J"⟩
abbrev cX11_write : ByteArray := prog_1_method_17_code
def yX11_write : MethodName := ⟨RX11, "write", "(IIIIJ)Z"⟩
abbrev cX11_put : ByteArray := prog_1_method_18_code
def yX11_put : MethodName := ⟨RX11, "put", "(IIIIJ)Z"⟩
abbrev cX11_why : ByteArray := prog_1_method_19_code
def yX11_why : MethodName := ⟨RX11, "why", "()I"⟩
abbrev cX11_cell : ByteArray := prog_1_method_20_code
def yX11_cell : MethodName := ⟨RX11, "cell", "(IIII)J"⟩
abbrev cX11_unlike : ByteArray := prog_1_method_21_code
def yX11_unlike : MethodName := ⟨RX11, "unlike", "(III)J"⟩
abbrev cX11_rowSort : ByteArray := prog_1_method_22_code
def yX11_rowSort : MethodName := ⟨RX11, "rowSort", "(II)I"⟩
abbrev cX11_placesOf : ByteArray := prog_1_method_23_code
def yX11_placesOf : MethodName := ⟨RX11, "placesOf", "(III)I"⟩
abbrev cX11_kindRefusal : ByteArray := prog_1_method_24_code
def yX11_kindRefusal : MethodName := ⟨RX11, "kindRefusal", "(IIII)I"⟩
abbrev cX11_thingRefusal : ByteArray := prog_1_method_25_code
def yX11_thingRefusal : MethodName := ⟨RX11, "thingRefusal", "(IIII)I"⟩
abbrev cX11_takesThing : ByteArray := prog_1_method_26_code
def yX11_takesThing : MethodName := ⟨RX11, "takesThing", "(II)Z"⟩
abbrev cX11_differing : ByteArray := prog_1_method_27_code
def yX11_differing : MethodName := ⟨RX11, "differing", "([J[J)J"⟩
abbrev cX11_make : ByteArray := prog_1_method_28_code
def yX11_make : MethodName := ⟨RX11, "make", "(I)I"⟩
abbrev cX11_copy : ByteArray := prog_1_method_29_code
def yX11_copy : MethodName := ⟨RX11, "copy", "(II)I"⟩
abbrev cX11_drop : ByteArray := prog_1_method_30_code
def yX11_drop : MethodName := ⟨RX11, "drop", "(II)Z"⟩
abbrev cX11_chance : ByteArray := prog_1_method_31_code
def yX11_chance : MethodName := ⟨RX11, "chance", "(I)I"⟩
abbrev cX11_makeByChance : ByteArray := prog_1_method_32_code
def yX11_makeByChance : MethodName := ⟨RX11, "makeByChance", "()Z"⟩
abbrev cX11_draw : ByteArray := prog_1_method_33_code
def yX11_draw : MethodName := ⟨RX11, "draw", "(I)I"⟩
abbrev cX11_cross : ByteArray := prog_1_method_34_code
def yX11_cross : MethodName := ⟨RX11, "cross", "(II)I"⟩
abbrev cX11_account : ByteArray := prog_1_method_35_code
def yX11_account : MethodName := ⟨RX11, "account", "(I)I"⟩
abbrev cX11_would : ByteArray := prog_1_method_36_code
def yX11_would : MethodName := ⟨RX11, "would", "(III)I"⟩
abbrev cX11_round : ByteArray := prog_1_method_37_code
def yX11_round : MethodName := ⟨RX11, "round", "(III)J"⟩
abbrev cX11_proved : ByteArray := prog_1_method_38_code
def yX11_proved : MethodName := ⟨RX11, "proved", "(II)I"⟩
abbrev cX11_way : ByteArray := prog_1_method_39_code
def yX11_way : MethodName := ⟨RX11, "way", "(III)I"⟩
abbrev cX11_least : ByteArray := prog_1_method_40_code
def yX11_least : MethodName := ⟨RX11, "least", "(IIII)I"⟩
abbrev cX11_origins : ByteArray := prog_1_method_41_code
def yX11_origins : MethodName := ⟨RX11, "origins", "(II)I"⟩
abbrev cX11_tells : ByteArray := prog_1_method_42_code
def yX11_tells : MethodName := ⟨RX11, "tells", "(II)I"⟩
abbrev cX11_idle : ByteArray := prog_1_method_43_code
def yX11_idle : MethodName := ⟨RX11, "idle", "(II)I"⟩
abbrev cX11_carryRecord : ByteArray := prog_1_method_44_code
def yX11_carryRecord : MethodName := ⟨RX11, "carryRecord", "(LRecordBridge$Passage;I)V"⟩
abbrev cX11_undo : ByteArray := prog_1_method_45_code
def yX11_undo : MethodName := ⟨RX11, "undo", "()Z"⟩
abbrev cX11_seed : ByteArray := prog_1_method_46_code
def yX11_seed : MethodName := ⟨RX11, "seed", "(I)Z"⟩
abbrev cX11_status : ByteArray := prog_1_method_47_code
def yX11_status : MethodName := ⟨RX11, "status", "(I)I"⟩
def RX12 : String := "RecordBridgeModel"
def TX12 : u_T := fun k => match k with
  | 0 => ("RecordBridgeModel", "tape", "[I", true)
  | 1 => ("RecordBridgeModel", "taped", "I", false)
  | 2 => ("RecordBridgeModel", "at", "I", false)
  | 3 => ("RecordBridgeModel", "end", "I", false)
  | 4 => ("RecordBridgeModel", "ended", "I", false)
  | 5 => ("RecordBridgeModel", "bad", "I", false)
  | 6 => ("RecordBridgeModel", "badPlace", "I", false)
  | 7 => ("RecordBridgeModel", "fault", "I", false)
  | 8 => ("RecordBridgeModel", "faultPlace", "I", false)
  | 9 => ("RecordBridgeModel", "refused", "[I", true)
  | 10 => ("RecordBridgeModel", "own", "[C", true)
  | 11 => ("RecordBridgeModel", "namePlace", "I", false)
  | 12 => ("RecordBridgeModel", "draft", "[I", true)
  | 13 => ("RecordBridgeModel", "told", "[I", true)
  | 14 => ("RecordBridgeModel", "isTold", "Z", false)
  | 15 => ("RecordBridgeModel", "statements", "I", false)
  | 16 => ("RecordBridgeModel", "now", "[J", true)
  | 17 => ("RecordBridgeModel", "widening", "[I", true)
  | 18 => ("RecordBridgeModel", "why", "I", false)
  | 19 => ("RecordBridgeModel", "seeded", "J", false)
  | 20 => ("RecordBridgeModel", "source", "[J", true)
  | 21 => ("RecordBridgeModel", "target", "[J", true)
  | 22 => ("RecordBridgeModel", "tally", "[I", true)
  | 23 => ("RecordBridgeModel", "isRead", "[Z", true)
  | 24 => ("RecordBridgeModel", "isFilled", "[Z", true)
  | 25 => ("RecordBridgeModel", "hasAccount", "Z", false)
  | 26 => ("RecordBridgeModel", "account", "[I", true)
  | 27 => ("RecordBridgeModel", "path", "[I", true)
  | 28 => ("RecordBridgeModel", "found", "[I", true)
  | 29 => ("RecordBridgeModel", "acts", "[J", true)
  | 30 => ("RecordBridgeModel", "undoable", "I", false)
  | _ => ("RecordBridgeModel", "newest", "I", false)
def tyX12 : Nat → FieldType := fun k => match k with
  | 0 => .array .int
  | 1 => .int
  | 2 => .int
  | 3 => .int
  | 4 => .int
  | 5 => .int
  | 6 => .int
  | 7 => .int
  | 8 => .int
  | 9 => .array .int
  | 10 => .array .char
  | 11 => .int
  | 12 => .array .int
  | 13 => .array .int
  | 14 => .boolean
  | 15 => .int
  | 16 => .array .long
  | 17 => .array .int
  | 18 => .int
  | 19 => .long
  | 20 => .array .long
  | 21 => .array .long
  | 22 => .array .int
  | 23 => .array .boolean
  | 24 => .array .boolean
  | 25 => .boolean
  | 26 => .array .int
  | 27 => .array .int
  | 28 => .array .int
  | 29 => .array .long
  | 30 => .int
  | _ => .int
theorem nmX12 : ∀ a, a < 32 → ∀ b, b < 32 → a ≠ b → (TX12 a).2.1 ≠ (TX12 b).2.1 := by decide +kernel
theorem tyX12_ok : ∀ k, k < 32 → parseFieldDescriptor (TX12 k).2.2.1 = some (tyX12 k) := by decide +kernel
abbrev cX12_init : ByteArray := prog_14_method_1_code
def yX12_init : MethodName := ⟨RX12, "<init>", "()V"⟩
abbrev cX12_isIn : ByteArray := prog_14_method_2_code
def yX12_isIn : MethodName := ⟨RX12, "isIn", "(JJJ)Z"⟩
abbrev cX12_lessOf : ByteArray := prog_14_method_3_code
def yX12_lessOf : MethodName := ⟨RX12, "lessOf", "(II)I"⟩
abbrev cX12_flag : ByteArray := prog_14_method_4_code
def yX12_flag : MethodName := ⟨RX12, "flag", "(Z)I"⟩
abbrev cX12_refuses : ByteArray := prog_14_method_5_code
def yX12_refuses : MethodName := ⟨RX12, "refuses", "(I)I"⟩
abbrev cX12_isRefused : ByteArray := prog_14_method_6_code
def yX12_isRefused : MethodName := ⟨RX12, "isRefused", "(I)Z"⟩
abbrev cX12_feed : ByteArray := prog_14_method_7_code
def yX12_feed : MethodName := ⟨RX12, "feed", "(IIIII)I"⟩
abbrev cX12_end : ByteArray := prog_14_method_8_code
def yX12_end : MethodName := ⟨RX12, "end", "(I)Z"⟩
abbrev cX12_status : ByteArray := prog_14_method_9_code
def yX12_status : MethodName := ⟨RX12, "status", "(I)I"⟩
abbrev cX12_fault : ByteArray := prog_14_method_10_code
def yX12_fault : MethodName := ⟨RX12, "fault", "(I)I"⟩
abbrev cX12_fail : ByteArray := prog_14_method_11_code
def yX12_fail : MethodName := ⟨RX12, "fail", "(II)V"⟩
abbrev cX12_isLetter : ByteArray := prog_14_method_12_code
def yX12_isLetter : MethodName := ⟨RX12, "isLetter", "(I)Z"⟩
abbrev cX12_isDigit : ByteArray := prog_14_method_13_code
def yX12_isDigit : MethodName := ⟨RX12, "isDigit", "(I)Z"⟩
abbrev cX12_look : ByteArray := prog_14_method_14_code
def yX12_look : MethodName := ⟨RX12, "look", "()I"⟩
abbrev cX12_isWordHere : ByteArray := prog_14_method_15_code
def yX12_isWordHere : MethodName := ⟨RX12, "isWordHere", "()Z"⟩
abbrev cX12_takesSign : ByteArray := prog_14_method_16_code
def yX12_takesSign : MethodName := ⟨RX12, "takesSign", "(I)Z"⟩
abbrev cX12_asksSign : ByteArray := prog_14_method_17_code
def yX12_asksSign : MethodName := ⟨RX12, "asksSign", "(I)V"⟩
abbrev cX12_number : ByteArray := prog_14_method_18_code
def yX12_number : MethodName := ⟨RX12, "number", "(II)I"⟩
abbrev cX12_ownHere : ByteArray := prog_14_method_19_code
def yX12_ownHere : MethodName := ⟨RX12, "ownHere", "()I"⟩
abbrev cX12_isLike : ByteArray := prog_14_method_20_code
def yX12_isLike : MethodName := ⟨RX12, "isLike", "(II)Z"⟩
abbrev cX12_passes : ByteArray := prog_14_method_21_code
def yX12_passes : MethodName := ⟨RX12, "passes", "()V"⟩
abbrev cX12_takes : ByteArray := prog_14_method_22_code
def yX12_takes : MethodName := ⟨RX12, "takes", "(I)Z"⟩
abbrev cX12_asks : ByteArray := prog_14_method_23_code
def yX12_asks : MethodName := ⟨RX12, "asks", "(I)V"⟩
abbrev cX12_name : ByteArray := prog_14_method_24_code
def yX12_name : MethodName := ⟨RX12, "name", "()I"⟩
abbrev cX12_schemeAt : ByteArray := prog_14_method_25_code
def yX12_schemeAt : MethodName := ⟨RX12, "schemeAt", "(II)I"⟩
abbrev cX12_fieldAt : ByteArray := prog_14_method_26_code
def yX12_fieldAt : MethodName := ⟨RX12, "fieldAt", "(III)I"⟩
abbrev cX12_crossingAt : ByteArray := prog_14_method_27_code
def yX12_crossingAt : MethodName := ⟨RX12, "crossingAt", "(II)I"⟩
abbrev cX12_ruleAt : ByteArray := prog_14_method_28_code
def yX12_ruleAt : MethodName := ⟨RX12, "ruleAt", "(III)I"⟩
abbrev cX12_schemeNamed : ByteArray := prog_14_method_29_code
def yX12_schemeNamed : MethodName := ⟨RX12, "schemeNamed", "([II)I"⟩
abbrev cX12_fieldNamed : ByteArray := prog_14_method_30_code
def yX12_fieldNamed : MethodName := ⟨RX12, "fieldNamed", "([III)I"⟩
abbrev cX12_fieldTold : ByteArray := prog_14_method_31_code
def yX12_fieldTold : MethodName := ⟨RX12, "fieldTold", "(I)V"⟩
abbrev cX12_schemeTold : ByteArray := prog_14_method_32_code
def yX12_schemeTold : MethodName := ⟨RX12, "schemeTold", "(I)V"⟩
abbrev cX12_schemeHere : ByteArray := prog_14_method_33_code
def yX12_schemeHere : MethodName := ⟨RX12, "schemeHere", "()I"⟩
abbrev cX12_fieldHere : ByteArray := prog_14_method_34_code
def yX12_fieldHere : MethodName := ⟨RX12, "fieldHere", "(I)I"⟩
abbrev cX12_isNumber : ByteArray := prog_14_method_35_code
def yX12_isNumber : MethodName := ⟨RX12, "isNumber", "(I)Z"⟩
abbrev cX12_kindDrafted : ByteArray := prog_14_method_36_code
def yX12_kindDrafted : MethodName := ⟨RX12, "kindDrafted", "(II)I"⟩
abbrev cX12_ruleTold : ByteArray := prog_14_method_37_code
def yX12_ruleTold : MethodName := ⟨RX12, "ruleTold", "(III)V"⟩
abbrev cX12_rule : ByteArray := prog_14_method_38_code
def yX12_rule : MethodName := ⟨RX12, "rule", "(IIIII)V"⟩
abbrev cX12_sourceTold : ByteArray := prog_14_method_39_code
def yX12_sourceTold : MethodName := ⟨RX12, "sourceTold", "(III)V"⟩
abbrev cX12_crossTold : ByteArray := prog_14_method_40_code
def yX12_crossTold : MethodName := ⟨RX12, "crossTold", "(I)V"⟩
abbrev cX12_statementTold : ByteArray := prog_14_method_41_code
def yX12_statementTold : MethodName := ⟨RX12, "statementTold", "()V"⟩
abbrev cX12_book : ByteArray := prog_14_method_42_code
def yX12_book : MethodName := ⟨RX12, "book", "()I"⟩
abbrev cX12_isScheme : ByteArray := prog_14_method_43_code
def yX12_isScheme : MethodName := ⟨RX12, "isScheme", "(I)Z"⟩
abbrev cX12_fieldMany : ByteArray := prog_14_method_44_code
def yX12_fieldMany : MethodName := ⟨RX12, "fieldMany", "(I)I"⟩
abbrev cX12_isField : ByteArray := prog_14_method_45_code
def yX12_isField : MethodName := ⟨RX12, "isField", "(II)Z"⟩
abbrev cX12_kindOf : ByteArray := prog_14_method_46_code
def yX12_kindOf : MethodName := ⟨RX12, "kindOf", "(II)I"⟩
abbrev cX12_cellsOf : ByteArray := prog_14_method_47_code
def yX12_cellsOf : MethodName := ⟨RX12, "cellsOf", "(II)I"⟩
abbrev cX12_isCrossing : ByteArray := prog_14_method_48_code
def yX12_isCrossing : MethodName := ⟨RX12, "isCrossing", "(I)Z"⟩
abbrev cX12_fromOf : ByteArray := prog_14_method_49_code
def yX12_fromOf : MethodName := ⟨RX12, "fromOf", "(I)I"⟩
abbrev cX12_toOf : ByteArray := prog_14_method_50_code
def yX12_toOf : MethodName := ⟨RX12, "toOf", "(I)I"⟩
abbrev cX12_ruleMany : ByteArray := prog_14_method_51_code
def yX12_ruleMany : MethodName := ⟨RX12, "ruleMany", "(I)I"⟩
abbrev cX12_ruleHas : ByteArray := prog_14_method_52_code
def yX12_ruleHas : MethodName := ⟨RX12, "ruleHas", "(III)I"⟩
abbrev cX12_placeAt : ByteArray := prog_14_method_53_code
def yX12_placeAt : MethodName := ⟨RX12, "placeAt", "(III)I"⟩
abbrev cX12_recordMany : ByteArray := prog_14_method_54_code
def yX12_recordMany : MethodName := ⟨RX12, "recordMany", "(I)I"⟩
abbrev cX12_isRecord : ByteArray := prog_14_method_55_code
def yX12_isRecord : MethodName := ⟨RX12, "isRecord", "(II)Z"⟩
abbrev cX12_begins : ByteArray := prog_14_method_56_code
def yX12_begins : MethodName := ⟨RX12, "begins", "()V"⟩
abbrev cX12_word : ByteArray := prog_14_method_57_code
def yX12_word : MethodName := ⟨RX12, "word", "(J)J"⟩
abbrev cX12_float0 : ByteArray := prog_14_method_58_code
def yX12_float0 : MethodName := ⟨RX12, "float0", "(F)J"⟩
abbrev cX12_double0 : ByteArray := prog_14_method_59_code
def yX12_double0 : MethodName := ⟨RX12, "double0", "(D)J"⟩
abbrev cX12_cast : ByteArray := prog_14_method_60_code
def yX12_cast : MethodName := ⟨RX12, "cast", "(JI)J"⟩
abbrev cX12_toldAs : ByteArray := prog_14_method_61_code
def yX12_toldAs : MethodName := ⟨RX12, "toldAs", "(JI)J"⟩
abbrev cX12_doesWiden : ByteArray := prog_14_method_62_code
def yX12_doesWiden : MethodName := ⟨RX12, "doesWiden", "(II)Z"⟩
abbrev cX12_real : ByteArray := prog_14_method_63_code
def yX12_real : MethodName := ⟨RX12, "real", "(JI)D"⟩
abbrev cX12_castFrom : ByteArray := prog_14_method_64_code
def yX12_castFrom : MethodName := ⟨RX12, "castFrom", "(JII)J"⟩
abbrev cX12_widened : ByteArray := prog_14_method_65_code
def yX12_widened : MethodName := ⟨RX12, "widened", "(JII)J"⟩
abbrev cX12_spelled : ByteArray := prog_14_method_66_code
def yX12_spelled : MethodName := ⟨RX12, "spelled", "(J)J"⟩
abbrev cX12_lettersOf : ByteArray := prog_14_method_67_code
def yX12_lettersOf : MethodName := ⟨RX12, "lettersOf", "(J)I"⟩
abbrev cX12_read : ByteArray := prog_14_method_68_code
def yX12_read : MethodName := ⟨RX12, "read", "(J)J"⟩
abbrev cX12_wordOf : ByteArray := prog_14_method_69_code
def yX12_wordOf : MethodName := ⟨RX12, "wordOf", "(J)J"⟩
abbrev cX12_narrowed : ByteArray := prog_14_method_70_code
def yX12_narrowed : MethodName := ⟨RX12, "narrowed", "(JII)J"⟩
abbrev cX12_carried : ByteArray := prog_14_method_71_code
def yX12_carried : MethodName := ⟨RX12, "carried", "(JII)J"⟩
abbrev cX12_has : ByteArray := prog_14_method_72_code
def yX12_has : MethodName := ⟨RX12, "has", "(I)I"⟩
abbrev cX12_letter : ByteArray := prog_14_method_73_code
def yX12_letter : MethodName := ⟨RX12, "letter", "(III)I"⟩
abbrev cX12_named : ByteArray := prog_14_method_74_code
def yX12_named : MethodName := ⟨RX12, "named", "(I)I"⟩
abbrev cX12_field : ByteArray := prog_14_method_75_code
def yX12_field : MethodName := ⟨RX12, "field", "(III)I"⟩
abbrev cX12_readBits : ByteArray := prog_14_method_76_code
def yX12_readBits : MethodName := ⟨RX12, "readBits", "(I)I"⟩
abbrev cX12_filledBits : ByteArray := prog_14_method_77_code
def yX12_filledBits : MethodName := ⟨RX12, "filledBits", "(I)I"⟩
abbrev cX12_crossing : ByteArray := prog_14_method_78_code
def yX12_crossing : MethodName := ⟨RX12, "crossing", "(II)I"⟩
abbrev cX12_madeKind : ByteArray := prog_14_method_79_code
def yX12_madeKind : MethodName := ⟨RX12, "madeKind", "(II)I"⟩
abbrev cX12_targetKind : ByteArray := prog_14_method_80_code
def yX12_targetKind : MethodName := ⟨RX12, "targetKind", "(II)I"⟩
abbrev cX12_rule_ : ByteArray := prog_14_method_81_code
def yX12_rule_ : MethodName := ⟨RX12, "rule", "(III)I"⟩
abbrev cX12_widens : ByteArray := prog_14_method_82_code
def yX12_widens : MethodName := ⟨RX12, "widens", "(II)I"⟩
abbrev cX12_rowKind : ByteArray := prog_14_method_83_code
def yX12_rowKind : MethodName := ⟨RX12, "rowKind", "(II)I"⟩
abbrev cX12_longOf : ByteArray := prog_14_method_84_code
def yX12_longOf : MethodName := ⟨RX12, "longOf", "(II)I"⟩
abbrev cX12_length : ByteArray := prog_14_method_85_code
def yX12_length : MethodName := ⟨RX12, "length", "(II)I"⟩
abbrev cX12_isRefusedBy : ByteArray := prog_14_method_86_code
def yX12_isRefusedBy : MethodName := ⟨RX12, "isRefusedBy", "(I)Z"⟩
abbrev cX12_reasonOf : ByteArray := prog_14_method_87_code
def yX12_reasonOf : MethodName := ⟨RX12, "reasonOf", "(IIIIZ)I"⟩
abbrev cX12_read_ : ByteArray := prog_14_method_88_code
def yX12_read_ : MethodName := ⟨RX12, "read", "(IIII)J"⟩
abbrev cX12_get : ByteArray := prog_14_method_89_code
def yX12_get : MethodName := ⟨RX12, "get", "(IIII)J"⟩
abbrev cX12_write : ByteArray := prog_14_method_90_code
def yX12_write : MethodName := ⟨RX12, "write", "(IIIIJ)Z"⟩
abbrev cX12_reasonPut : ByteArray := prog_14_method_91_code
def yX12_reasonPut : MethodName := ⟨RX12, "reasonPut", "(IIII)I"⟩
abbrev cX12_put : ByteArray := prog_14_method_92_code
def yX12_put : MethodName := ⟨RX12, "put", "(IIIIJ)Z"⟩
abbrev cX12_why : ByteArray := prog_14_method_93_code
def yX12_why : MethodName := ⟨RX12, "why", "()I"⟩
abbrev cX12_cellAt : ByteArray := prog_14_method_94_code
def yX12_cellAt : MethodName := ⟨RX12, "cellAt", "(IIII)J"⟩
abbrev cX12_valueAt : ByteArray := prog_14_method_95_code
def yX12_valueAt : MethodName := ⟨RX12, "valueAt", "(IIII)J"⟩
abbrev cX12_cell : ByteArray := prog_14_method_96_code
def yX12_cell : MethodName := ⟨RX12, "cell", "(IIII)J"⟩
abbrev cX12_unlike : ByteArray := prog_14_method_97_code
def yX12_unlike : MethodName := ⟨RX12, "unlike", "(III)J"⟩
abbrev cX12_laysRecord : ByteArray := prog_14_method_98_code
def yX12_laysRecord : MethodName := ⟨RX12, "laysRecord", "(II)V"⟩
abbrev cX12_copiesRecord : ByteArray := prog_14_method_99_code
def yX12_copiesRecord : MethodName := ⟨RX12, "copiesRecord", "(III)V"⟩
abbrev cX12_make : ByteArray := prog_14_method_100_code
def yX12_make : MethodName := ⟨RX12, "make", "(I)I"⟩
abbrev cX12_makes : ByteArray := prog_14_method_101_code
def yX12_makes : MethodName := ⟨RX12, "makes", "(I)I"⟩
abbrev cX12_copy : ByteArray := prog_14_method_102_code
def yX12_copy : MethodName := ⟨RX12, "copy", "(II)I"⟩
abbrev cX12_drop : ByteArray := prog_14_method_103_code
def yX12_drop : MethodName := ⟨RX12, "drop", "(II)Z"⟩
abbrev cX12_seed : ByteArray := prog_14_method_104_code
def yX12_seed : MethodName := ⟨RX12, "seed", "(I)Z"⟩
abbrev cX12_drawOf : ByteArray := prog_14_method_105_code
def yX12_drawOf : MethodName := ⟨RX12, "drawOf", "(I)I"⟩
abbrev cX12_chance : ByteArray := prog_14_method_106_code
def yX12_chance : MethodName := ⟨RX12, "chance", "(I)I"⟩
abbrev cX12_takesRecord : ByteArray := prog_14_method_107_code
def yX12_takesRecord : MethodName := ⟨RX12, "takesRecord", "(II)V"⟩
abbrev cX12_held : ByteArray := prog_14_method_108_code
def yX12_held : MethodName := ⟨RX12, "held", "(D)D"⟩
abbrev cX12_made : ByteArray := prog_14_method_109_code
def yX12_made : MethodName := ⟨RX12, "made", "(III)J"⟩
abbrev cX12_longRule : ByteArray := prog_14_method_110_code
def yX12_longRule : MethodName := ⟨RX12, "longRule", "(II)I"⟩
abbrev cX12_tallies : ByteArray := prog_14_method_111_code
def yX12_tallies : MethodName := ⟨RX12, "tallies", "(JIJI)V"⟩
abbrev cX12_marks : ByteArray := prog_14_method_112_code
def yX12_marks : MethodName := ⟨RX12, "marks", "(III)V"⟩
abbrev cX12_missing : ByteArray := prog_14_method_113_code
def yX12_missing : MethodName := ⟨RX12, "missing", "(I[Z)I"⟩
abbrev cX12_carries : ByteArray := prog_14_method_114_code
def yX12_carries : MethodName := ⟨RX12, "carries", "(I)V"⟩
abbrev cX12_targetIsSource : ByteArray := prog_14_method_115_code
def yX12_targetIsSource : MethodName := ⟨RX12, "targetIsSource", "()V"⟩
abbrev cX12_cross : ByteArray := prog_14_method_116_code
def yX12_cross : MethodName := ⟨RX12, "cross", "(II)I"⟩
abbrev cX12_account : ByteArray := prog_14_method_117_code
def yX12_account : MethodName := ⟨RX12, "account", "(I)I"⟩
abbrev cX12_canCross : ByteArray := prog_14_method_118_code
def yX12_canCross : MethodName := ⟨RX12, "canCross", "(II)Z"⟩
abbrev cX12_would : ByteArray := prog_14_method_119_code
def yX12_would : MethodName := ⟨RX12, "would", "(III)I"⟩
abbrev cX12_doesLeadBack : ByteArray := prog_14_method_120_code
def yX12_doesLeadBack : MethodName := ⟨RX12, "doesLeadBack", "(II)Z"⟩
abbrev cX12_unlikeTarget : ByteArray := prog_14_method_121_code
def yX12_unlikeTarget : MethodName := ⟨RX12, "unlikeTarget", "(II)J"⟩
abbrev cX12_round : ByteArray := prog_14_method_122_code
def yX12_round : MethodName := ⟨RX12, "round", "(III)J"⟩
abbrev cX12_isAside : ByteArray := prog_14_method_123_code
def yX12_isAside : MethodName := ⟨RX12, "isAside", "(II)Z"⟩
abbrev cX12_isAlone : ByteArray := prog_14_method_124_code
def yX12_isAlone : MethodName := ⟨RX12, "isAlone", "(III)Z"⟩
abbrev cX12_isProved : ByteArray := prog_14_method_125_code
def yX12_isProved : MethodName := ⟨RX12, "isProved", "(IIII)Z"⟩
abbrev cX12_proved : ByteArray := prog_14_method_126_code
def yX12_proved : MethodName := ⟨RX12, "proved", "(II)I"⟩
abbrev cX12_isWay : ByteArray := prog_14_method_127_code
def yX12_isWay : MethodName := ⟨RX12, "isWay", "(IIII)Z"⟩
abbrev cX12_rowsOf : ByteArray := prog_14_method_128_code
def yX12_rowsOf : MethodName := ⟨RX12, "rowsOf", "(I)I"⟩
abbrev cX12_way : ByteArray := prog_14_method_129_code
def yX12_way : MethodName := ⟨RX12, "way", "(III)I"⟩
abbrev cX12_losses : ByteArray := prog_14_method_130_code
def yX12_losses : MethodName := ⟨RX12, "losses", "(III)I"⟩
abbrev cX12_least : ByteArray := prog_14_method_131_code
def yX12_least : MethodName := ⟨RX12, "least", "(IIII)I"⟩
abbrev cX12_origins : ByteArray := prog_14_method_132_code
def yX12_origins : MethodName := ⟨RX12, "origins", "(II)I"⟩
abbrev cX12_areLike : ByteArray := prog_14_method_133_code
def yX12_areLike : MethodName := ⟨RX12, "areLike", "(IIII)Z"⟩
abbrev cX12_mostAlike : ByteArray := prog_14_method_134_code
def yX12_mostAlike : MethodName := ⟨RX12, "mostAlike", "(II)I"⟩
abbrev cX12_tells : ByteArray := prog_14_method_135_code
def yX12_tells : MethodName := ⟨RX12, "tells", "(II)I"⟩
abbrev cX12_idle : ByteArray := prog_14_method_136_code
def yX12_idle : MethodName := ⟨RX12, "idle", "(II)I"⟩
abbrev cX12_keeps : ByteArray := prog_14_method_137_code
def yX12_keeps : MethodName := ⟨RX12, "keeps", "()V"⟩
abbrev cX12_undo : ByteArray := prog_14_method_138_code
def yX12_undo : MethodName := ⟨RX12, "undo", "()Z"⟩
def RJx145de : String := "java/io/Serializable"
def RJx9f9b0 : String := "java/lang/CharSequence"
def RJxb160c : String := "java/lang/Comparable"
def RJxe99ae : String := "java/lang/Double"
abbrev cJxe99ae_isNaN_b9ae7 : ByteArray := prog_15_method_6_code
def yJxe99ae_isNaN_b9ae7 : MethodName := ⟨RJxe99ae, "isNaN", "(D)Z"⟩
abbrev cJxe99ae_doubleToLongBits_ccdee : ByteArray := prog_15_method_23_code
def yJxe99ae_doubleToLongBits_ccdee : MethodName := ⟨RJxe99ae, "doubleToLongBits", "(D)J"⟩
def RJxf58ca : String := "java/lang/Float"
abbrev cJxf58ca_isNaN_12338 : ByteArray := prog_16_method_6_code
def yJxf58ca_isNaN_12338 : MethodName := ⟨RJxf58ca, "isNaN", "(F)Z"⟩
abbrev cJxf58ca_floatToIntBits_5c35a : ByteArray := prog_16_method_24_code
def yJxf58ca_floatToIntBits_5c35a : MethodName := ⟨RJxf58ca, "floatToIntBits", "(F)I"⟩
def RJ6 : String := "java/lang/Integer"
abbrev cJ6_bitCount_0f7a4 : ByteArray := prog_17_method_49_code
def yJ6_bitCount_0f7a4 : MethodName := ⟨RJ6, "bitCount", "(I)I"⟩
def RJ9 : String := "java/lang/Math"
abbrev cJ9_floorMod_7cf53 : ByteArray := prog_18_method_50_code
def yJ9_floorMod_7cf53 : MethodName := ⟨RJ9, "floorMod", "(II)I"⟩
abbrev cJ9_max_7cf53 : ByteArray := prog_18_method_65_code
def yJ9_max_7cf53 : MethodName := ⟨RJ9, "max", "(II)I"⟩
abbrev cJ9_min_7cf53 : ByteArray := prog_18_method_69_code
def yJ9_min_7cf53 : MethodName := ⟨RJ9, "min", "(II)I"⟩
def RJxd2413 : String := "java/lang/Number"
def RJ0 : String := "java/lang/String"
abbrev cJ0_length_8abf5 : ByteArray := prog_20_method_54_code
def yJ0_length_8abf5 : MethodName := ⟨RJ0, "length", "()I"⟩
abbrev cJ0_charAt_5068e : ByteArray := prog_20_method_56_code
def yJ0_charAt_5068e : MethodName := ⟨RJ0, "charAt", "(I)C"⟩
abbrev cJ0_coder_7d493 : ByteArray := prog_20_method_152_code
def yJ0_coder_7d493 : MethodName := ⟨RJ0, "coder", "()B"⟩
abbrev cJ0_isLatin1_aae02 : ByteArray := prog_20_method_154_code
def yJ0_isLatin1_aae02 : MethodName := ⟨RJ0, "isLatin1", "()Z"⟩
abbrev cJ0_checkIndex_df160 : ByteArray := prog_20_method_155_code
def yJ0_checkIndex_df160 : MethodName := ⟨RJ0, "checkIndex", "(II)V"⟩
def RJ1 : String := "java/lang/StringLatin1"
abbrev cJ1_charAt_3b067 : ByteArray := prog_21_method_2_code
def yJ1_charAt_3b067 : MethodName := ⟨RJ1, "charAt", "([BI)C"⟩
def RJ2 : String := "java/lang/StringUTF16"
abbrev cJ2_getChar_3b067 : ByteArray := prog_22_method_5_code
def yJ2_getChar_3b067 : MethodName := ⟨RJ2, "getChar", "([BI)C"⟩
abbrev cJ2_length_9d52b : ByteArray := prog_22_method_6_code
def yJ2_length_9d52b : MethodName := ⟨RJ2, "length", "([B)I"⟩
abbrev cJ2_charAt_3b067 : ByteArray := prog_22_method_83_code
def yJ2_charAt_3b067 : MethodName := ⟨RJ2, "charAt", "([BI)C"⟩
abbrev cJ2_checkIndex_2214a : ByteArray := prog_22_method_91_code
def yJ2_checkIndex_2214a : MethodName := ⟨RJ2, "checkIndex", "(I[B)V"⟩
def RJ10 : String := "java/lang/System"
def RJxfd54e : String := "java/lang/constant/Constable"
def RJx3cf43 : String := "java/lang/constant/ConstantDesc"
def RJ7 : String := "java/util/Arrays"
abbrev cJ7_fill_d0a16 : ByteArray := prog_24_method_101_code
def yJ7_fill_d0a16 : MethodName := ⟨RJ7, "fill", "([JJ)V"⟩
abbrev cJ7_fill_53178 : ByteArray := prog_24_method_103_code
def yJ7_fill_53178 : MethodName := ⟨RJ7, "fill", "([II)V"⟩
def RJ3 : String := "jdk/internal/util/Preconditions"
abbrev cJ3_checkIndex_8e157 : ByteArray := prog_25_method_11_code
def yJ3_checkIndex_8e157 : MethodName := ⟨RJ3, "checkIndex", "(IILjava/util/function/BiFunction;)I"⟩
def RL : String := "RecordBridgeLaw"
abbrev cL_law : ByteArray := code
def yL_law : MethodName := ⟨RL, "law", "([I)Z"⟩
abbrev vwCl : List vw_C := [(RX0, TX0, 20), (RX1, TX1, 1), (RX3, TX3, 4), (RX4, TX4, 4), (RX6, TX6, 4), (RX7, TX7, 8), (RX8, TX8, 7), (RX9, TX9, 2), (RX10, TX10, 6), (RX11, TX11, 14), (RX12, TX12, 32)]
/-! ===== END printed: names ===== -/
end
section
/-! THE LISTED CODE of the class, the reference, the law and what they call of the JDK, linked; written by wip/whole/gen_code.py out of what TURN printed. -/
abbrev zIns : Type := Instr × Nat × Nat
abbrev zCode : Type := List (Option zIns)
def zSCR : Nat := 1000001
def zSTR : Nat := 1000000
def zLYl : List (Nat × Nat) := [(9, 14), (0, 20), (12, 17), (7, 2), (12, 1600), (3, 4), (17, 3), (15, 4), (6, 7), (12, 6), (12, 6), (12, 6), (12, 6), (6, 7), (12, 6), (12, 6), (12, 6), (12, 6), (6, 7), (12, 6), (12, 6), (12, 6), (12, 6), (2, 4), (16, 6), (5, 8), (5, 8), (5, 8), (5, 8), (5, 8), (5, 8), (2, 4), (16, 6), (5, 8), (5, 8), (5, 8), (5, 8), (5, 8), (5, 8), (2, 4), (16, 6), (5, 8), (5, 8), (5, 8), (5, 8), (5, 8), (5, 8), (2, 4), (16, 6), (5, 8), (5, 8), (5, 8), (5, 8), (5, 8), (5, 8), (6, 7), (12, 6), (12, 6), (12, 6), (12, 6), (2, 4), (16, 6), (5, 8), (5, 8), (5, 8), (5, 8), (5, 8), (5, 8), (6, 7), (12, 6), (12, 6), (12, 6), (12, 6), (6, 7), (12, 6), (12, 6), (12, 6), (12, 6), (5, 8), (4, 4), (13, 587), (18, 20), (13, 587), (13, 587), (13, 587), (13, 587), (13, 587), (13, 587), (13, 587), (13, 587), (13, 587), (13, 587), (13, 587), (13, 587), (13, 587), (13, 587), (13, 587), (13, 587), (13, 587), (13, 587), (13, 587), (13, 587), (1, 1), (12, 6), (8, 6), (12, 3), (12, 3), (13, 24), (13, 24), (12, 6), (12, 6), (13, 24), (13, 24), (13, 24), (3, 4), (17, 3), (15, 4), (6, 7), (12, 6), (12, 6), (12, 6), (12, 6), (6, 7), (12, 6), (12, 6), (12, 6), (12, 6), (6, 7), (12, 6), (12, 6), (12, 6), (12, 6), (2, 4), (16, 6), (5, 8), (5, 8), (5, 8), (5, 8), (5, 8), (5, 8), (2, 4), (16, 6), (5, 8), (5, 8), (5, 8), (5, 8), (5, 8), (5, 8), (2, 4), (16, 6), (5, 8), (5, 8), (5, 8), (5, 8), (5, 8), (5, 8), (2, 4), (16, 6), (5, 8), (5, 8), (5, 8), (5, 8), (5, 8), (5, 8), (10, 32), (12, 1600), (12, 6), (11, 87), (12, 170), (12, 170), (13, 587), (12, 81), (13, 24), (13, 24), (12, 6), (14, 24), (14, 24), (12, 6), (12, 3), (12, 3), (13, 11740)]
def zCT : List Value := [.ref zSTR, .double 4831355200913801216, .float 1098907648, .double 4625196817309499392, .long (31), .long (26), .long (10), .double 4611686018427387904, .long (-2147483648), .long (-9223372036854775808), .long (7), .long (34), .long (-1), .long (-4611686018427387904), .long (1103515245), .long (12345), .long (2147483647), .long (5), .long (8), .long (4), .long (32), .long (2), .long (9), .long (2147483648), .long (64), .long (20), .double 14054727237768577024, .long (9221120237041090560), .int (2143289344), .int (1431655765), .int (858993459), .int (252645135), .long (4294967295)]
def zTX : List Int32 := [98, 105, 116, 32, 98, 121, 116, 101, 32, 99, 104, 97, 114, 32, 115, 104, 111, 114, 116, 32, 105, 110, 116, 32, 108, 111, 110, 103, 32, 102, 108, 111, 97, 116, 32, 100, 111, 117, 98, 108, 101, 32, 119, 111, 114, 100, 32, 115, 99, 104, 101, 109, 101, 32, 116, 105, 109, 101, 115, 32, 99, 114, 111, 115, 115, 32, 116, 111, 32, 102, 114, 111, 109, 32, 98, 121, 32, 111, 118, 101, 114, 32, 112, 108, 117, 115, 32]
set_option maxRecDepth 20000 in
def zk_X0_init : zCode := [some (.aload_n 0, 1, 0), some (.invokespecial 907, 3, 3), none, none, some (.aload_n 0, 1, 0), some (.bipush 17, 2, 0), none, some (.newarray .int, 2, 0), none, some (.putfield 2, 3, 11), none, none, some (.aload_n 0, 1, 0), some (.new 7, 3, 15), none, none, some (.dup, 1, 0), some (.invokespecial 103, 3, 17), none, none, some (.putfield 6, 3, 18), none, none, some (.aload_n 0, 1, 0), some (.new 3, 3, 22), none, none, some (.dup, 1, 0), some (.invokespecial 55, 3, 24), none, none, some (.putfield 10, 3, 25), none, none, some (.aload_n 0, 1, 0), some (.new 6, 3, 29), none, none, some (.dup, 1, 0), some (.invokespecial 95, 3, 31), none, none, some (.putfield 42, 3, 32), none, none, some (.aload_n 0, 1, 0), some (.new 2, 3, 36), none, none, some (.dup, 1, 0), some (.invokespecial 45, 3, 38), none, none, some (.putfield 50, 3, 39), none, none, some (.aload_n 0, 1, 0), some (.new 6, 3, 29), none, none, some (.dup, 1, 0), some (.invokespecial 95, 3, 31), none, none, some (.putfield 58, 3, 43), none, none, some (.aload_n 0, 1, 0), some (.new 6, 3, 29), none, none, some (.dup, 1, 0), some (.invokespecial 95, 3, 31), none, none, some (.putfield 62, 3, 46), none, none, some (.aload_n 0, 1, 0), some (.new 5, 3, 49), none, none, some (.dup, 1, 0), some (.invokespecial 90, 3, 51), none, none, some (.putfield 66, 3, 52), none, none, some (.aload_n 0, 1, 0), some (.iconst (-1), 1, 0), some (.putfield 76, 3, 56), none, none, some (.iconst 0, 1, 0), some (.istore_n 1, 1, 0), some (.iconst 0, 1, 0), some (.istore_n 2, 1, 0), some (.iconst 0, 1, 0), some (.istore_n 3, 1, 0), some (.iload_n 3, 1, 0), some (.ldc 0, 2, 60), none, some (.invokevirtual 905, 3, 62), none, none, some (.if_icmp .ge 64, 3, 0), none, none, some (.ldc 0, 2, 60), none, some (.iload_n 3, 1, 0), some (.invokevirtual 906, 3, 68), none, none, some (.istore 4, 2, 0), none, some (.iload 4, 2, 0), none, some (.bipush 32, 2, 0), none, some (.if_icmp .ne 11, 3, 0), none, none, some (.iinc 1 1, 3, 0), none, none, some (.iconst 0, 1, 0), some (.istore_n 2, 1, 0), some (.goto 35, 3, 0), none, none, some (.iload_n 1, 1, 0), some (.bipush 17, 2, 0), none, some (.if_icmp .ge 29, 3, 0), none, none, some (.aload_n 0, 1, 0), some (.getfield 2, 3, 11), none, none, some (.iload_n 1, 1, 0), some (.aload_n 0, 1, 0), some (.getfield 2, 3, 11), none, none, some (.iload_n 1, 1, 0), some (.iaload, 1, 0), some (.iload_n 2, 1, 0), some (.iload 4, 2, 0), none, some (.bipush 97, 2, 0), none, some (.isub, 1, 0), some (.iconst 1, 1, 0), some (.iadd, 1, 0), some (.invokestatic 115, 3, 72), none, none, some (.iastore, 1, 0), some (.iinc 2 1, 3, 0), none, none, some (.iinc 3 1, 3, 0), none, none, some (.goto (-67), 3, 0), none, none, some (.return_, 1, 0)]
set_option maxRecDepth 20000 in
def zk_X0_readBook : zCode := [some (.aload_n 0, 1, 0), some (.getfield 10, 3, 25), none, none, some (.invokevirtual 56, 3, 76), none, none, some (.aload_n 0, 1, 0), some (.iconst 0, 1, 0), some (.putfield 12, 3, 79), none, none, some (.aload_n 0, 1, 0), some (.iconst 0, 1, 0), some (.putfield 16, 3, 82), none, none, some (.aload_n 0, 1, 0), some (.iconst 0, 1, 0), some (.putfield 72, 3, 85), none, none, some (.aload_n 0, 1, 0), some (.iconst (-1), 1, 0), some (.putfield 76, 3, 56), none, none, some (.iconst 0, 1, 0), some (.istore_n 1, 1, 0), some (.iload_n 1, 1, 0), some (.sipush 1600, 3, 0), none, none, some (.if_icmp .gt 73, 3, 0), none, none, some (.aload_n 0, 1, 0), some (.invokevirtual 2, 3, 88), none, none, some (.aload_n 0, 1, 0), some (.getfield 16, 3, 82), none, none, some (.aload_n 0, 1, 0), some (.getfield 6, 3, 18), none, none, some (.getfield 1796, 3, 91), none, none, some (.if_icmp .lt 22, 3, 0), none, none, some (.aload_n 0, 1, 0), some (.getfield 12, 3, 79), none, none, some (.ifCond .ne 15, 3, 0), none, none, some (.aload_n 0, 1, 0), some (.getfield 10, 3, 25), none, none, some (.getfield 776, 3, 94), none, none, some (.ifCond .le 5, 3, 0), none, none, some (.iconst 1, 1, 0), some (.ireturn, 1, 1), some (.aload_n 0, 1, 0), some (.getfield 12, 3, 79), none, none, some (.bipush 7, 2, 0), none, some (.if_icmp .ge 10, 3, 0), none, none, some (.aload_n 0, 1, 0), some (.invokevirtual 3, 3, 97), none, none, some (.goto 7, 3, 0), none, none, some (.aload_n 0, 1, 0), some (.invokevirtual 4, 3, 101), none, none, some (.istore_n 2, 1, 0), some (.iload_n 2, 1, 0), some (.ifCond .ne 5, 3, 0), none, none, some (.iconst 0, 1, 0), some (.ireturn, 1, 1), some (.iinc 1 1, 3, 0), none, none, some (.goto (-74), 3, 0), none, none, some (.aload_n 0, 1, 0), some (.iconst 1, 1, 0), some (.aload_n 0, 1, 0), some (.getfield 16, 3, 82), none, none, some (.invokevirtual 5, 3, 104), none, none, some (.ireturn, 1, 1)]
set_option maxRecDepth 20000 in
def zk_X0_lookAtNext : zCode := [some (.aload_n 0, 1, 0), some (.getfield 16, 3, 82), none, none, some (.aload_n 0, 1, 0), some (.getfield 6, 3, 18), none, none, some (.getfield 1796, 3, 91), none, none, some (.if_icmp .ge 30, 3, 0), none, none, some (.aload_n 0, 1, 0), some (.getfield 6, 3, 18), none, none, some (.aload_n 0, 1, 0), some (.getfield 16, 3, 82), none, none, some (.invokevirtual 109, 3, 108), none, none, some (.ifCond .eq 16, 3, 0), none, none, some (.aload_n 0, 1, 0), some (.dup, 1, 0), some (.getfield 16, 3, 82), none, none, some (.iconst 1, 1, 0), some (.iadd, 1, 0), some (.putfield 16, 3, 82), none, none, some (.goto (-38), 3, 0), none, none, some (.aload_n 0, 1, 0), some (.aload_n 0, 1, 0), some (.getfield 6, 3, 18), none, none, some (.aload_n 0, 1, 0), some (.getfield 16, 3, 82), none, none, some (.invokevirtual 110, 3, 112), none, none, some (.putfield 20, 3, 116), none, none, some (.aload_n 0, 1, 0), some (.aload_n 0, 1, 0), some (.getfield 6, 3, 18), none, none, some (.aload_n 0, 1, 0), some (.getfield 16, 3, 82), none, none, some (.invokevirtual 111, 3, 119), none, none, some (.putfield 32, 3, 122), none, none, some (.aload_n 0, 1, 0), some (.aload_n 0, 1, 0), some (.getfield 6, 3, 18), none, none, some (.aload_n 0, 1, 0), some (.getfield 16, 3, 82), none, none, some (.aload_n 0, 1, 0), some (.getfield 32, 3, 122), none, none, some (.iconst 3, 1, 0), some (.invokestatic 316, 3, 125), none, none, some (.invokevirtual 112, 3, 131), none, none, some (.putfield 36, 3, 134), none, none, some (.aload_n 0, 1, 0), some (.aload_n 0, 1, 0), some (.getfield 6, 3, 18), none, none, some (.aload_n 0, 1, 0), some (.getfield 16, 3, 82), none, none, some (.invokevirtual 113, 3, 137), none, none, some (.putfield 24, 3, 140), none, none, some (.aload_n 0, 1, 0), some (.iconst (-1), 1, 0), some (.putfield 28, 3, 143), none, none, some (.iconst 0, 1, 0), some (.istore_n 1, 1, 0), some (.iload_n 1, 1, 0), some (.bipush 17, 2, 0), none, some (.if_icmp .ge 43, 3, 0), none, none, some (.aload_n 0, 1, 0), some (.getfield 20, 3, 116), none, none, some (.ifCond .le 36, 3, 0), none, none, some (.aload_n 0, 1, 0), some (.getfield 20, 3, 116), none, none, some (.bipush 6, 2, 0), none, some (.if_icmp .gt 27, 3, 0), none, none, some (.aload_n 0, 1, 0), some (.getfield 2, 3, 11), none, none, some (.iload_n 1, 1, 0), some (.iaload, 1, 0), some (.aload_n 0, 1, 0), some (.getfield 24, 3, 140), none, none, some (.if_icmp .ne 8, 3, 0), none, none, some (.aload_n 0, 1, 0), some (.iload_n 1, 1, 0), some (.putfield 28, 3, 143), none, none, some (.iinc 1 1, 3, 0), none, none, some (.goto (-43), 3, 0), none, none, some (.return_, 1, 0)]
set_option maxRecDepth 20000 in
def zk_X0_takeInScheme : zCode := [some (.aload_n 0, 1, 0), some (.getfield 12, 3, 79), none, none, some (.tableswitch 88 0 5 #[40, 45, 50, 55, 60, 83], 40, 0), none, none, none, none, none, none, none, none, none, none, none, none, none, none, none, none, none, none, none, none, none, none, none, none, none, none, none, none, none, none, none, none, none, none, none, none, none, none, none, some (.aload_n 0, 1, 0), some (.invokevirtual 11, 3, 146), none, none, some (.ireturn, 1, 1), some (.aload_n 0, 1, 0), some (.invokevirtual 12, 3, 149), none, none, some (.ireturn, 1, 1), some (.aload_n 0, 1, 0), some (.invokevirtual 13, 3, 152), none, none, some (.ireturn, 1, 1), some (.aload_n 0, 1, 0), some (.invokevirtual 14, 3, 155), none, none, some (.ireturn, 1, 1), some (.aload_n 0, 1, 0), some (.getfield 28, 3, 143), none, none, some (.bipush 10, 2, 0), none, some (.if_icmp .ne 11, 3, 0), none, none, some (.aload_n 0, 1, 0), some (.iconst 5, 1, 0), some (.invokevirtual 6, 3, 158), none, none, some (.goto 8, 3, 0), none, none, some (.aload_n 0, 1, 0), some (.iconst 2, 1, 0), some (.invokevirtual 10, 3, 161), none, none, some (.ireturn, 1, 1), some (.aload_n 0, 1, 0), some (.invokevirtual 15, 3, 164), none, none, some (.ireturn, 1, 1), some (.aload_n 0, 1, 0), some (.iconst 2, 1, 0), some (.invokevirtual 10, 3, 161), none, none, some (.ireturn, 1, 1)]
set_option maxRecDepth 20000 in
def zk_X0_takeInCross : zCode := [some (.aload_n 0, 1, 0), some (.getfield 12, 3, 79), none, none, some (.tableswitch 182 7 15 #[52, 57, 85, 90, 95, 123, 142, 172, 177], 52, 0), none, none, none, none, none, none, none, none, none, none, none, none, none, none, none, none, none, none, none, none, none, none, none, none, none, none, none, none, none, none, none, none, none, none, none, none, none, none, none, none, none, none, none, none, none, none, none, none, none, none, none, some (.aload_n 0, 1, 0), some (.invokevirtual 16, 3, 167), none, none, some (.ireturn, 1, 1), some (.aload_n 0, 1, 0), some (.getfield 28, 3, 143), none, none, some (.bipush 12, 2, 0), none, some (.if_icmp .ne 12, 3, 0), none, none, some (.aload_n 0, 1, 0), some (.bipush 9, 2, 0), none, some (.invokevirtual 6, 3, 158), none, none, some (.goto 12, 3, 0), none, none, some (.aload_n 0, 1, 0), some (.iconst 1, 1, 0), some (.aload_n 0, 1, 0), some (.getfield 16, 3, 82), none, none, some (.invokevirtual 5, 3, 104), none, none, some (.ireturn, 1, 1), some (.aload_n 0, 1, 0), some (.invokevirtual 17, 3, 170), none, none, some (.ireturn, 1, 1), some (.aload_n 0, 1, 0), some (.invokevirtual 18, 3, 173), none, none, some (.ireturn, 1, 1), some (.aload_n 0, 1, 0), some (.getfield 28, 3, 143), none, none, some (.bipush 13, 2, 0), none, some (.if_icmp .ne 12, 3, 0), none, none, some (.aload_n 0, 1, 0), some (.bipush 12, 2, 0), none, some (.invokevirtual 6, 3, 158), none, none, some (.goto 12, 3, 0), none, none, some (.aload_n 0, 1, 0), some (.iconst 1, 1, 0), some (.aload_n 0, 1, 0), some (.getfield 16, 3, 82), none, none, some (.invokevirtual 5, 3, 104), none, none, some (.ireturn, 1, 1), some (.aload_n 0, 1, 0), some (.getfield 32, 3, 122), none, none, some (.ifCond .le 10, 3, 0), none, none, some (.aload_n 0, 1, 0), some (.invokevirtual 19, 3, 176), none, none, some (.goto 7, 3, 0), none, none, some (.aload_n 0, 1, 0), some (.invokevirtual 20, 3, 179), none, none, some (.ireturn, 1, 1), some (.aload_n 0, 1, 0), some (.getfield 28, 3, 143), none, none, some (.bipush 14, 2, 0), none, some (.if_icmp .lt 19, 3, 0), none, none, some (.aload_n 0, 1, 0), some (.getfield 28, 3, 143), none, none, some (.bipush 16, 2, 0), none, some (.if_icmp .gt 10, 3, 0), none, none, some (.aload_n 0, 1, 0), some (.invokevirtual 22, 3, 182), none, none, some (.goto 7, 3, 0), none, none, some (.aload_n 0, 1, 0), some (.invokevirtual 25, 3, 185), none, none, some (.ireturn, 1, 1), some (.aload_n 0, 1, 0), some (.invokevirtual 23, 3, 188), none, none, some (.ireturn, 1, 1), some (.aload_n 0, 1, 0), some (.invokevirtual 24, 3, 191), none, none, some (.ireturn, 1, 1), some (.aload_n 0, 1, 0), some (.invokevirtual 25, 3, 185), none, none, some (.ireturn, 1, 1)]
set_option maxRecDepth 20000 in
def zk_X0_refuse : zCode := [some (.aload_n 0, 1, 0), some (.iload_n 1, 1, 0), some (.putfield 72, 3, 85), none, none, some (.aload_n 0, 1, 0), some (.iload_n 2, 1, 0), some (.putfield 76, 3, 56), none, none, some (.iconst 0, 1, 0), some (.ireturn, 1, 1)]
set_option maxRecDepth 20000 in
def zk_X0_goOn : zCode := [some (.aload_n 0, 1, 0), some (.dup, 1, 0), some (.getfield 16, 3, 82), none, none, some (.aload_n 0, 1, 0), some (.getfield 20, 3, 116), none, none, some (.aload_n 0, 1, 0), some (.getfield 32, 3, 122), none, none, some (.invokestatic 315, 3, 194), none, none, some (.iconst 1, 1, 0), some (.invokestatic 315, 3, 194), none, none, some (.iadd, 1, 0), some (.putfield 16, 3, 82), none, none, some (.aload_n 0, 1, 0), some (.iload_n 1, 1, 0), some (.putfield 12, 3, 79), none, none, some (.iconst 1, 1, 0), some (.ireturn, 1, 1)]
set_option maxRecDepth 20000 in
def zk_X0_nameStands : zCode := [some (.aload_n 0, 1, 0), some (.getfield 20, 3, 116), none, none, some (.bipush 6, 2, 0), none, some (.if_icmp .le 16, 3, 0), none, none, some (.aload_n 0, 1, 0), some (.iconst 1, 1, 0), some (.aload_n 0, 1, 0), some (.getfield 16, 3, 82), none, none, some (.bipush 6, 2, 0), none, some (.iadd, 1, 0), some (.invokevirtual 5, 3, 104), none, none, some (.ireturn, 1, 1), some (.aload_n 0, 1, 0), some (.getfield 20, 3, 116), none, none, some (.ifCond .le 11, 3, 0), none, none, some (.aload_n 0, 1, 0), some (.getfield 28, 3, 143), none, none, some (.iconst (-1), 1, 0), some (.if_icmp .eq 15, 3, 0), none, none, some (.aload_n 0, 1, 0), some (.iconst 1, 1, 0), some (.aload_n 0, 1, 0), some (.getfield 16, 3, 82), none, none, some (.invokevirtual 5, 3, 104), none, none, some (.ifCond .eq 7, 3, 0), none, none, some (.iconst 1, 1, 0), some (.goto 4, 3, 0), none, none, some (.iconst 0, 1, 0), some (.ireturn, 1, 1)]
set_option maxRecDepth 20000 in
def zk_X0_numberStands : zCode := [some (.aload_n 0, 1, 0), some (.getfield 32, 3, 122), none, none, some (.ifCond .eq 19, 3, 0), none, none, some (.aload_n 0, 1, 0), some (.getfield 6, 3, 18), none, none, some (.aload_n 0, 1, 0), some (.getfield 16, 3, 82), none, none, some (.iconst 1, 1, 0), some (.isub, 1, 0), some (.invokevirtual 107, 3, 197), none, none, some (.ifCond .eq 13, 3, 0), none, none, some (.aload_n 0, 1, 0), some (.iconst 1, 1, 0), some (.aload_n 0, 1, 0), some (.getfield 16, 3, 82), none, none, some (.invokevirtual 5, 3, 104), none, none, some (.ireturn, 1, 1), some (.aload_n 0, 1, 0), some (.getfield 32, 3, 122), none, none, some (.iconst 3, 1, 0), some (.if_icmp .le 15, 3, 0), none, none, some (.aload_n 0, 1, 0), some (.iconst 1, 1, 0), some (.aload_n 0, 1, 0), some (.getfield 16, 3, 82), none, none, some (.iconst 3, 1, 0), some (.iadd, 1, 0), some (.invokevirtual 5, 3, 104), none, none, some (.ireturn, 1, 1), some (.aload_n 0, 1, 0), some (.getfield 36, 3, 134), none, none, some (.iload_n 1, 1, 0), some (.if_icmp .lt 11, 3, 0), none, none, some (.aload_n 0, 1, 0), some (.getfield 36, 3, 134), none, none, some (.iload_n 2, 1, 0), some (.if_icmp .le 15, 3, 0), none, none, some (.aload_n 0, 1, 0), some (.iconst 2, 1, 0), some (.aload_n 0, 1, 0), some (.getfield 16, 3, 82), none, none, some (.invokevirtual 5, 3, 104), none, none, some (.ifCond .eq 7, 3, 0), none, none, some (.iconst 1, 1, 0), some (.goto 4, 3, 0), none, none, some (.iconst 0, 1, 0), some (.ireturn, 1, 1)]
set_option maxRecDepth 20000 in
def zk_X0_refuseOneMore : zCode := [some (.aload_n 0, 1, 0), some (.aload_n 0, 1, 0), some (.getfield 16, 3, 82), none, none, some (.aload_n 0, 1, 0), some (.getfield 6, 3, 18), none, none, some (.getfield 1796, 3, 91), none, none, some (.if_icmp .ge 7, 3, 0), none, none, some (.iconst 5, 1, 0), some (.goto 4, 3, 0), none, none, some (.iconst 1, 1, 0), some (.aload_n 0, 1, 0), some (.getfield 16, 3, 82), none, none, some (.invokevirtual 5, 3, 104), none, none, some (.ireturn, 1, 1)]
set_option maxRecDepth 20000 in
def zk_X0_takeSign : zCode := [some (.aload_n 0, 1, 0), some (.getfield 6, 3, 18), none, none, some (.aload_n 0, 1, 0), some (.getfield 16, 3, 82), none, none, some (.invokevirtual 106, 3, 200), none, none, some (.istore_n 2, 1, 0), some (.iload_n 2, 1, 0), some (.bipush 44, 2, 0), none, some (.if_icmp .ne 9, 3, 0), none, none, some (.aload_n 0, 1, 0), some (.iload_n 1, 1, 0), some (.invokevirtual 6, 3, 158), none, none, some (.ireturn, 1, 1), some (.iload_n 2, 1, 0), some (.bipush 59, 2, 0), none, some (.if_icmp .ne 11, 3, 0), none, none, some (.aload_n 0, 1, 0), some (.iconst 0, 1, 0), some (.invokevirtual 6, 3, 158), none, none, some (.goto 12, 3, 0), none, none, some (.aload_n 0, 1, 0), some (.iconst 1, 1, 0), some (.aload_n 0, 1, 0), some (.getfield 16, 3, 82), none, none, some (.invokevirtual 5, 3, 104), none, none, some (.ireturn, 1, 1)]
set_option maxRecDepth 20000 in
def zk_X0_takeStatement : zCode := [some (.aload_n 0, 1, 0), some (.getfield 28, 3, 143), none, none, some (.bipush 9, 2, 0), none, some (.if_icmp .ne 52, 3, 0), none, none, some (.aload_n 0, 1, 0), some (.getfield 10, 3, 25), none, none, some (.getfield 776, 3, 94), none, none, some (.iconst 3, 1, 0), some (.if_icmp .ge 13, 3, 0), none, none, some (.aload_n 0, 1, 0), some (.getfield 10, 3, 25), none, none, some (.getfield 780, 3, 203), none, none, some (.ifCond .le 7, 3, 0), none, none, some (.iconst 1, 1, 0), some (.goto 4, 3, 0), none, none, some (.iconst 0, 1, 0), some (.istore_n 1, 1, 0), some (.iload_n 1, 1, 0), some (.ifCond .eq 15, 3, 0), none, none, some (.aload_n 0, 1, 0), some (.iconst 5, 1, 0), some (.aload_n 0, 1, 0), some (.getfield 16, 3, 82), none, none, some (.invokevirtual 5, 3, 104), none, none, some (.goto 8, 3, 0), none, none, some (.aload_n 0, 1, 0), some (.iconst 1, 1, 0), some (.invokevirtual 6, 3, 158), none, none, some (.ireturn, 1, 1), some (.aload_n 0, 1, 0), some (.getfield 28, 3, 143), none, none, some (.bipush 11, 2, 0), none, some (.if_icmp .ne 13, 3, 0), none, none, some (.aload_n 0, 1, 0), some (.getfield 10, 3, 25), none, none, some (.getfield 776, 3, 94), none, none, some (.ifCond .ne 13, 3, 0), none, none, some (.aload_n 0, 1, 0), some (.iconst 1, 1, 0), some (.aload_n 0, 1, 0), some (.getfield 16, 3, 82), none, none, some (.invokevirtual 5, 3, 104), none, none, some (.ireturn, 1, 1), some (.aload_n 0, 1, 0), some (.getfield 10, 3, 25), none, none, some (.getfield 780, 3, 203), none, none, some (.iconst 4, 1, 0), some (.if_icmp .lt 7, 3, 0), none, none, some (.iconst 1, 1, 0), some (.goto 4, 3, 0), none, none, some (.iconst 0, 1, 0), some (.istore_n 1, 1, 0), some (.iload_n 1, 1, 0), some (.ifCond .eq 15, 3, 0), none, none, some (.aload_n 0, 1, 0), some (.iconst 5, 1, 0), some (.aload_n 0, 1, 0), some (.getfield 16, 3, 82), none, none, some (.invokevirtual 5, 3, 104), none, none, some (.goto 9, 3, 0), none, none, some (.aload_n 0, 1, 0), some (.bipush 7, 2, 0), none, some (.invokevirtual 6, 3, 158), none, none, some (.ireturn, 1, 1)]
set_option maxRecDepth 20000 in
def zk_X0_takeSchemeName : zCode := [some (.aload_n 0, 1, 0), some (.invokevirtual 7, 3, 206), none, none, some (.ifCond .ne 5, 3, 0), none, none, some (.iconst 0, 1, 0), some (.ireturn, 1, 1), some (.aload_n 0, 1, 0), some (.getfield 10, 3, 25), none, none, some (.aload_n 0, 1, 0), some (.getfield 24, 3, 140), none, none, some (.invokevirtual 61, 3, 209), none, none, some (.iconst (-1), 1, 0), some (.if_icmp .eq 13, 3, 0), none, none, some (.aload_n 0, 1, 0), some (.iconst 3, 1, 0), some (.aload_n 0, 1, 0), some (.getfield 16, 3, 82), none, none, some (.invokevirtual 5, 3, 104), none, none, some (.ireturn, 1, 1), some (.aload_n 0, 1, 0), some (.getfield 10, 3, 25), none, none, some (.aload_n 0, 1, 0), some (.getfield 24, 3, 140), none, none, some (.invokevirtual 59, 3, 212), none, none, some (.astore_n 1, 1, 0), some (.aload_n 1, 1, 0), some (.ifnonnull 13, 3, 0), none, none, some (.aload_n 0, 1, 0), some (.iconst 5, 1, 0), some (.aload_n 0, 1, 0), some (.getfield 16, 3, 82), none, none, some (.invokevirtual 5, 3, 104), none, none, some (.ireturn, 1, 1), some (.aload_n 0, 1, 0), some (.aload_n 1, 1, 0), some (.putfield 42, 3, 32), none, none, some (.aload_n 0, 1, 0), some (.iconst 2, 1, 0), some (.invokevirtual 6, 3, 158), none, none, some (.ireturn, 1, 1)]
set_option maxRecDepth 20000 in
def zk_X0_takeKind : zCode := [some (.aload_n 0, 1, 0), some (.getfield 42, 3, 32), none, none, some (.getfield 1556, 3, 216), none, none, some (.bipush 6, 2, 0), none, some (.if_icmp .lt 8, 3, 0), none, none, some (.aload_n 0, 1, 0), some (.invokevirtual 9, 3, 219), none, none, some (.ireturn, 1, 1), some (.aload_n 0, 1, 0), some (.getfield 28, 3, 143), none, none, some (.ifCond .lt 12, 3, 0), none, none, some (.aload_n 0, 1, 0), some (.getfield 28, 3, 143), none, none, some (.bipush 8, 2, 0), none, some (.if_icmp .le 13, 3, 0), none, none, some (.aload_n 0, 1, 0), some (.iconst 1, 1, 0), some (.aload_n 0, 1, 0), some (.getfield 16, 3, 82), none, none, some (.invokevirtual 5, 3, 104), none, none, some (.ireturn, 1, 1), some (.aload_n 0, 1, 0), some (.aload_n 0, 1, 0), some (.getfield 28, 3, 143), none, none, some (.putfield 44, 3, 224), none, none, some (.aload_n 0, 1, 0), some (.iconst 3, 1, 0), some (.invokevirtual 6, 3, 158), none, none, some (.ireturn, 1, 1)]
set_option maxRecDepth 20000 in
def zk_X0_takeFieldName : zCode := [some (.aload_n 0, 1, 0), some (.invokevirtual 7, 3, 206), none, none, some (.ifCond .ne 5, 3, 0), none, none, some (.iconst 0, 1, 0), some (.ireturn, 1, 1), some (.aload_n 0, 1, 0), some (.getfield 42, 3, 32), none, none, some (.aload_n 0, 1, 0), some (.getfield 24, 3, 140), none, none, some (.invokevirtual 102, 3, 227), none, none, some (.iconst (-1), 1, 0), some (.if_icmp .eq 13, 3, 0), none, none, some (.aload_n 0, 1, 0), some (.iconst 3, 1, 0), some (.aload_n 0, 1, 0), some (.getfield 16, 3, 82), none, none, some (.invokevirtual 5, 3, 104), none, none, some (.ireturn, 1, 1), some (.aload_n 0, 1, 0), some (.getfield 42, 3, 32), none, none, some (.aload_n 0, 1, 0), some (.getfield 24, 3, 140), none, none, some (.aload_n 0, 1, 0), some (.getfield 44, 3, 224), none, none, some (.invokevirtual 97, 3, 230), none, none, some (.aload_n 0, 1, 0), some (.iconst 4, 1, 0), some (.invokevirtual 6, 3, 158), none, none, some (.ireturn, 1, 1)]
set_option maxRecDepth 20000 in
def zk_X0_takeTimesNumber : zCode := [some (.aload_n 0, 1, 0), some (.iconst 1, 1, 0), some (.iconst 4, 1, 0), some (.invokevirtual 8, 3, 234), none, none, some (.ifCond .ne 5, 3, 0), none, none, some (.iconst 0, 1, 0), some (.ireturn, 1, 1), some (.aload_n 0, 1, 0), some (.getfield 42, 3, 32), none, none, some (.aload_n 0, 1, 0), some (.getfield 36, 3, 134), none, none, some (.invokevirtual 98, 3, 237), none, none, some (.aload_n 0, 1, 0), some (.bipush 6, 2, 0), none, some (.invokevirtual 6, 3, 158), none, none, some (.ireturn, 1, 1)]
set_option maxRecDepth 20000 in
def zk_X0_takeFirstScheme : zCode := [some (.aload_n 0, 1, 0), some (.invokevirtual 7, 3, 206), none, none, some (.ifCond .ne 5, 3, 0), none, none, some (.iconst 0, 1, 0), some (.ireturn, 1, 1), some (.aload_n 0, 1, 0), some (.aload_n 0, 1, 0), some (.getfield 10, 3, 25), none, none, some (.aload_n 0, 1, 0), some (.getfield 24, 3, 140), none, none, some (.invokevirtual 61, 3, 209), none, none, some (.putfield 52, 3, 241), none, none, some (.aload_n 0, 1, 0), some (.getfield 52, 3, 241), none, none, some (.iconst (-1), 1, 0), some (.if_icmp .ne 15, 3, 0), none, none, some (.aload_n 0, 1, 0), some (.iconst 3, 1, 0), some (.aload_n 0, 1, 0), some (.getfield 16, 3, 82), none, none, some (.invokevirtual 5, 3, 104), none, none, some (.goto 9, 3, 0), none, none, some (.aload_n 0, 1, 0), some (.bipush 8, 2, 0), none, some (.invokevirtual 6, 3, 158), none, none, some (.ireturn, 1, 1)]
set_option maxRecDepth 20000 in
def zk_X0_takeSecondScheme : zCode := [some (.aload_n 0, 1, 0), some (.invokevirtual 7, 3, 206), none, none, some (.ifCond .ne 5, 3, 0), none, none, some (.iconst 0, 1, 0), some (.ireturn, 1, 1), some (.aload_n 0, 1, 0), some (.getfield 10, 3, 25), none, none, some (.aload_n 0, 1, 0), some (.getfield 24, 3, 140), none, none, some (.invokevirtual 61, 3, 209), none, none, some (.istore_n 1, 1, 0), some (.aload_n 0, 1, 0), some (.getfield 10, 3, 25), none, none, some (.aload_n 0, 1, 0), some (.getfield 52, 3, 241), none, none, some (.invokevirtual 57, 3, 244), none, none, some (.astore_n 2, 1, 0), some (.aload_n 0, 1, 0), some (.getfield 10, 3, 25), none, none, some (.iload_n 1, 1, 0), some (.invokevirtual 57, 3, 244), none, none, some (.astore_n 3, 1, 0), some (.iload_n 1, 1, 0), some (.aload_n 0, 1, 0), some (.getfield 52, 3, 241), none, none, some (.if_icmp .eq 11, 3, 0), none, none, some (.aload_n 2, 1, 0), some (.ifnull 7, 3, 0), none, none, some (.aload_n 3, 1, 0), some (.ifnonnull 13, 3, 0), none, none, some (.aload_n 0, 1, 0), some (.iconst 3, 1, 0), some (.aload_n 0, 1, 0), some (.getfield 16, 3, 82), none, none, some (.invokevirtual 5, 3, 104), none, none, some (.ireturn, 1, 1), some (.aload_n 0, 1, 0), some (.getfield 10, 3, 25), none, none, some (.aload_n 0, 1, 0), some (.getfield 52, 3, 241), none, none, some (.iload_n 1, 1, 0), some (.invokevirtual 60, 3, 246), none, none, some (.astore 4, 2, 0), none, some (.aload 4, 2, 0), none, some (.ifnonnull 13, 3, 0), none, none, some (.aload_n 0, 1, 0), some (.iconst 5, 1, 0), some (.aload_n 0, 1, 0), some (.getfield 16, 3, 82), none, none, some (.invokevirtual 5, 3, 104), none, none, some (.ireturn, 1, 1), some (.aload_n 0, 1, 0), some (.aload 4, 2, 0), none, some (.putfield 50, 3, 39), none, none, some (.aload_n 0, 1, 0), some (.aload_n 2, 1, 0), some (.putfield 58, 3, 43), none, none, some (.aload_n 0, 1, 0), some (.aload_n 3, 1, 0), some (.putfield 62, 3, 46), none, none, some (.aload_n 0, 1, 0), some (.bipush 10, 2, 0), none, some (.invokevirtual 6, 3, 158), none, none, some (.ireturn, 1, 1)]
set_option maxRecDepth 20000 in
def zk_X0_takeTarget : zCode := [some (.aload_n 0, 1, 0), some (.getfield 50, 3, 39), none, none, some (.getfield 524, 3, 250), none, none, some (.bipush 6, 2, 0), none, some (.if_icmp .lt 8, 3, 0), none, none, some (.aload_n 0, 1, 0), some (.invokevirtual 9, 3, 219), none, none, some (.ireturn, 1, 1), some (.aload_n 0, 1, 0), some (.invokevirtual 7, 3, 206), none, none, some (.ifCond .ne 5, 3, 0), none, none, some (.iconst 0, 1, 0), some (.ireturn, 1, 1), some (.aload_n 0, 1, 0), some (.aload_n 0, 1, 0), some (.getfield 62, 3, 46), none, none, some (.aload_n 0, 1, 0), some (.getfield 24, 3, 140), none, none, some (.invokevirtual 102, 3, 227), none, none, some (.putfield 68, 3, 253), none, none, some (.aload_n 0, 1, 0), some (.getfield 68, 3, 253), none, none, some (.iconst (-1), 1, 0), some (.if_icmp .eq 20, 3, 0), none, none, some (.aload_n 0, 1, 0), some (.getfield 50, 3, 39), none, none, some (.invokevirtual 50, 3, 256), none, none, some (.aload_n 0, 1, 0), some (.getfield 68, 3, 253), none, none, some (.ishr, 1, 0), some (.iconst 1, 1, 0), some (.iand, 1, 0), some (.ifCond .eq 13, 3, 0), none, none, some (.aload_n 0, 1, 0), some (.iconst 3, 1, 0), some (.aload_n 0, 1, 0), some (.getfield 16, 3, 82), none, none, some (.invokevirtual 5, 3, 104), none, none, some (.ireturn, 1, 1), some (.aload_n 0, 1, 0), some (.bipush 11, 2, 0), none, some (.invokevirtual 6, 3, 158), none, none, some (.ireturn, 1, 1)]
set_option maxRecDepth 20000 in
def zk_X0_takeNumberSource : zCode := [some (.aload_n 0, 1, 0), some (.iconst 0, 1, 0), some (.sipush 999, 3, 0), none, none, some (.invokevirtual 8, 3, 234), none, none, some (.ifCond .ne 5, 3, 0), none, none, some (.iconst 0, 1, 0), some (.ireturn, 1, 1), some (.aload_n 0, 1, 0), some (.getfield 62, 3, 46), none, none, some (.aload_n 0, 1, 0), some (.getfield 68, 3, 253), none, none, some (.invokevirtual 100, 3, 259), none, none, some (.ifCond .ne 13, 3, 0), none, none, some (.aload_n 0, 1, 0), some (.iconst 4, 1, 0), some (.aload_n 0, 1, 0), some (.getfield 16, 3, 82), none, none, some (.invokevirtual 5, 3, 104), none, none, some (.ireturn, 1, 1), some (.aload_n 0, 1, 0), some (.iconst 4, 1, 0), some (.iconst (-1), 1, 0), some (.aload_n 0, 1, 0), some (.getfield 36, 3, 134), none, none, some (.bipush 16, 2, 0), none, some (.invokevirtual 21, 3, 262), none, none, some (.ireturn, 1, 1)]
set_option maxRecDepth 20000 in
def zk_X0_takeFieldSource : zCode := [some (.aload_n 0, 1, 0), some (.invokevirtual 7, 3, 206), none, none, some (.ifCond .ne 5, 3, 0), none, none, some (.iconst 0, 1, 0), some (.ireturn, 1, 1), some (.aload_n 0, 1, 0), some (.getfield 58, 3, 43), none, none, some (.aload_n 0, 1, 0), some (.getfield 24, 3, 140), none, none, some (.invokevirtual 102, 3, 227), none, none, some (.istore_n 1, 1, 0), some (.iload_n 1, 1, 0), some (.iconst (-1), 1, 0), some (.if_icmp .ne 13, 3, 0), none, none, some (.aload_n 0, 1, 0), some (.iconst 3, 1, 0), some (.aload_n 0, 1, 0), some (.getfield 16, 3, 82), none, none, some (.invokevirtual 5, 3, 104), none, none, some (.ireturn, 1, 1), some (.aload_n 0, 1, 0), some (.iconst 0, 1, 0), some (.iload_n 1, 1, 0), some (.iconst 0, 1, 0), some (.bipush 13, 2, 0), none, some (.invokevirtual 21, 3, 262), none, none, some (.ireturn, 1, 1)]
set_option maxRecDepth 20000 in
def zk_X0_beginRule : zCode := [some (.aload_n 0, 1, 0), some (.getfield 50, 3, 39), none, none, some (.invokevirtual 48, 3, 266), none, none, some (.astore 5, 2, 0), none, some (.aload 5, 2, 0), none, some (.ifnonnull 13, 3, 0), none, none, some (.aload_n 0, 1, 0), some (.iconst 5, 1, 0), some (.aload_n 0, 1, 0), some (.getfield 16, 3, 82), none, none, some (.invokevirtual 5, 3, 104), none, none, some (.ireturn, 1, 1), some (.aload 5, 2, 0), none, some (.aload_n 0, 1, 0), some (.getfield 68, 3, 253), none, none, some (.iload_n 1, 1, 0), some (.iload_n 2, 1, 0), some (.iload_n 3, 1, 0), some (.invokevirtual 91, 3, 270), none, none, some (.aload_n 0, 1, 0), some (.aload 5, 2, 0), none, some (.putfield 66, 3, 52), none, none, some (.aload_n 0, 1, 0), some (.iload 4, 2, 0), none, some (.invokevirtual 6, 3, 158), none, none, some (.ireturn, 1, 1)]
set_option maxRecDepth 20000 in
def zk_X0_takeSort : zCode := [some (.aload_n 0, 1, 0), some (.getfield 58, 3, 43), none, none, some (.aload_n 0, 1, 0), some (.getfield 66, 3, 52), none, none, some (.getfield 1288, 3, 274), none, none, some (.invokevirtual 100, 3, 259), none, none, some (.invokestatic 33, 3, 276), none, none, some (.ifCond .ne 13, 3, 0), none, none, some (.aload_n 0, 1, 0), some (.iconst 4, 1, 0), some (.aload_n 0, 1, 0), some (.getfield 16, 3, 82), none, none, some (.invokevirtual 5, 3, 104), none, none, some (.ireturn, 1, 1), some (.aload_n 0, 1, 0), some (.getfield 66, 3, 52), none, none, some (.aload_n 0, 1, 0), some (.getfield 28, 3, 143), none, none, some (.bipush 14, 2, 0), none, some (.if_icmp .ne 7, 3, 0), none, none, some (.iconst 1, 1, 0), some (.goto 17, 3, 0), none, none, some (.aload_n 0, 1, 0), some (.getfield 28, 3, 143), none, none, some (.bipush 15, 2, 0), none, some (.if_icmp .ne 7, 3, 0), none, none, some (.iconst 2, 1, 0), some (.goto 4, 3, 0), none, none, some (.iconst 3, 1, 0), some (.putfield 1284, 3, 279), none, none, some (.aload_n 0, 1, 0), some (.aload_n 0, 1, 0), some (.getfield 28, 3, 143), none, none, some (.bipush 16, 2, 0), none, some (.if_icmp .ne 8, 3, 0), none, none, some (.bipush 15, 2, 0), none, some (.goto 5, 3, 0), none, none, some (.bipush 14, 2, 0), none, some (.invokevirtual 6, 3, 158), none, none, some (.ireturn, 1, 1)]
set_option maxRecDepth 20000 in
def zk_X0_takeFactor : zCode := [some (.aload_n 0, 1, 0), some (.iconst 1, 1, 0), some (.sipush 999, 3, 0), none, none, some (.invokevirtual 8, 3, 234), none, none, some (.ifCond .ne 5, 3, 0), none, none, some (.iconst 0, 1, 0), some (.ireturn, 1, 1), some (.aload_n 0, 1, 0), some (.getfield 66, 3, 52), none, none, some (.aload_n 0, 1, 0), some (.getfield 36, 3, 134), none, none, some (.putfield 1292, 3, 282), none, none, some (.aload_n 0, 1, 0), some (.bipush 16, 2, 0), none, some (.invokevirtual 6, 3, 158), none, none, some (.ireturn, 1, 1)]
set_option maxRecDepth 20000 in
def zk_X0_takeSecondField : zCode := [some (.aload_n 0, 1, 0), some (.invokevirtual 7, 3, 206), none, none, some (.ifCond .ne 5, 3, 0), none, none, some (.iconst 0, 1, 0), some (.ireturn, 1, 1), some (.aload_n 0, 1, 0), some (.getfield 58, 3, 43), none, none, some (.aload_n 0, 1, 0), some (.getfield 24, 3, 140), none, none, some (.invokevirtual 102, 3, 227), none, none, some (.istore_n 1, 1, 0), some (.iload_n 1, 1, 0), some (.iconst (-1), 1, 0), some (.if_icmp .ne 13, 3, 0), none, none, some (.aload_n 0, 1, 0), some (.iconst 3, 1, 0), some (.aload_n 0, 1, 0), some (.getfield 16, 3, 82), none, none, some (.invokevirtual 5, 3, 104), none, none, some (.ireturn, 1, 1), some (.aload_n 0, 1, 0), some (.getfield 58, 3, 43), none, none, some (.iload_n 1, 1, 0), some (.invokevirtual 100, 3, 259), none, none, some (.invokestatic 33, 3, 276), none, none, some (.ifCond .ne 13, 3, 0), none, none, some (.aload_n 0, 1, 0), some (.iconst 4, 1, 0), some (.aload_n 0, 1, 0), some (.getfield 16, 3, 82), none, none, some (.invokevirtual 5, 3, 104), none, none, some (.ireturn, 1, 1), some (.aload_n 0, 1, 0), some (.getfield 66, 3, 52), none, none, some (.iload_n 1, 1, 0), some (.putfield 1292, 3, 282), none, none, some (.aload_n 0, 1, 0), some (.bipush 16, 2, 0), none, some (.invokevirtual 6, 3, 158), none, none, some (.ireturn, 1, 1)]
set_option maxRecDepth 20000 in
def zk_X0_takeRuleSign : zCode := [some (.aload_n 0, 1, 0), some (.getfield 66, 3, 52), none, none, some (.aload_n 0, 1, 0), some (.getfield 58, 3, 43), none, none, some (.aload_n 0, 1, 0), some (.getfield 62, 3, 46), none, none, some (.invokevirtual 92, 3, 285), none, none, some (.aload_n 0, 1, 0), some (.bipush 10, 2, 0), none, some (.invokevirtual 10, 3, 161), none, none, some (.ireturn, 1, 1)]
set_option maxRecDepth 20000 in
def zk_X1_init : zCode := [some (.aload_n 0, 1, 0), some (.invokespecial 907, 3, 3), none, none, some (.aload_n 0, 1, 0), some (.bipush 6, 2, 0), none, some (.newarray .int, 2, 0), none, some (.putfield 258, 3, 11), none, none, some (.return_, 1, 0)]
set_option maxRecDepth 20000 in
def zk_X1_carry : zCode := [some (.aload_n 0, 1, 0), some (.getfield 258, 3, 11), none, none, some (.iconst 0, 1, 0), some (.invokestatic 318, 3, 15), none, none, some (.aload 4, 2, 0), none, some (.lconst 0, 1, 0), some (.invokestatic 317, 3, 21), none, none, some (.aload_n 1, 1, 0), some (.aload_n 2, 1, 0), some (.getfield 516, 3, 24), none, none, some (.invokevirtual 57, 3, 30), none, none, some (.astore 5, 2, 0), none, some (.aload_n 1, 1, 0), some (.aload_n 2, 1, 0), some (.getfield 520, 3, 36), none, none, some (.invokevirtual 57, 3, 30), none, none, some (.astore 6, 2, 0), none, some (.aload 5, 2, 0), none, some (.ifnull 8, 3, 0), none, none, some (.aload 6, 2, 0), none, some (.ifnonnull 4, 3, 0), none, none, some (.return_, 1, 0), some (.iconst 0, 1, 0), some (.istore 7, 2, 0), none, some (.iconst 0, 1, 0), some (.istore 8, 2, 0), none, some (.iload 8, 2, 0), none, some (.aload_n 2, 1, 0), some (.getfield 524, 3, 39), none, none, some (.if_icmp .ge 45, 3, 0), none, none, some (.aload_n 2, 1, 0), some (.iload 8, 2, 0), none, some (.invokevirtual 47, 3, 42), none, none, some (.astore 9, 2, 0), none, some (.aload 9, 2, 0), none, some (.ifnull 26, 3, 0), none, none, some (.aload_n 0, 1, 0), some (.aload 9, 2, 0), none, some (.aload 5, 2, 0), none, some (.aload 6, 2, 0), none, some (.aload_n 3, 1, 0), some (.aload 4, 2, 0), none, some (.invokevirtual 28, 3, 46), none, none, some (.iload 7, 2, 0), none, some (.aload 9, 2, 0), none, some (.getfield 1304, 3, 50), none, none, some (.ior, 1, 0), some (.istore 7, 2, 0), none, some (.iinc 8 1, 3, 0), none, none, some (.goto (-48), 3, 0), none, none, some (.aload_n 0, 1, 0), some (.getfield 258, 3, 11), none, none, some (.iconst 4, 1, 0), some (.aload 5, 2, 0), none, some (.getfield 1560, 3, 55), none, none, some (.iload 7, 2, 0), none, some (.invokestatic 313, 3, 60), none, none, some (.isub, 1, 0), some (.iastore, 1, 0), some (.aload_n 0, 1, 0), some (.getfield 258, 3, 11), none, none, some (.iconst 5, 1, 0), some (.aload 6, 2, 0), none, some (.getfield 1560, 3, 55), none, none, some (.aload_n 0, 1, 0), some (.getfield 258, 3, 11), none, none, some (.iconst 0, 1, 0), some (.iaload, 1, 0), some (.isub, 1, 0), some (.iastore, 1, 0), some (.return_, 1, 0)]
set_option maxRecDepth 20000 in
def zk_X1_carryByRule : zCode := [some (.aload_n 3, 1, 0), some (.aload_n 1, 1, 0), some (.getfield 1280, 3, 66), none, none, some (.invokevirtual 99, 3, 69), none, none, some (.ifCond .ne 4, 3, 0), none, none, some (.return_, 1, 0), some (.aload_n 3, 1, 0), some (.getfield 1542, 3, 73), none, none, some (.aload_n 1, 1, 0), some (.getfield 1280, 3, 66), none, none, some (.iaload, 1, 0), some (.istore 6, 2, 0), none, some (.iconst 0, 1, 0), some (.istore 7, 2, 0), none, some (.iload 7, 2, 0), none, some (.aload_n 1, 1, 0), some (.getfield 1300, 3, 76), none, none, some (.if_icmp .ge 137, 3, 0), none, none, some (.aload_n 3, 1, 0), some (.getfield 1550, 3, 79), none, none, some (.aload_n 1, 1, 0), some (.getfield 1280, 3, 66), none, none, some (.iaload, 1, 0), some (.iload 7, 2, 0), none, some (.iadd, 1, 0), some (.istore 8, 2, 0), none, some (.iload 8, 2, 0), none, some (.ifCond .lt 112, 3, 0), none, none, some (.iload 8, 2, 0), none, some (.aload 5, 2, 0), none, some (.arraylength, 1, 0), some (.if_icmp .ge 104, 3, 0), none, none, some (.aload_n 1, 1, 0), some (.aload_n 2, 1, 0), some (.aload 4, 2, 0), none, some (.iload 7, 2, 0), none, some (.invokestatic 29, 3, 82), none, none, some (.lstore 9, 2, 0), none, some (.aload_n 1, 1, 0), some (.getfield 1296, 3, 86), none, none, some (.lload 9, 2, 0), none, some (.iload 6, 2, 0), none, some (.invokestatic 39, 3, 89), none, none, some (.lstore 11, 2, 0), none, some (.aload 5, 2, 0), none, some (.iload 8, 2, 0), none, some (.lload 11, 2, 0), none, some (.lastore, 1, 0), some (.aload_n 0, 1, 0), some (.getfield 258, 3, 11), none, none, some (.iconst 0, 1, 0), some (.dup2, 1, 0), some (.iaload, 1, 0), some (.iconst 1, 1, 0), some (.iadd, 1, 0), some (.iastore, 1, 0), some (.aload_n 1, 1, 0), some (.getfield 1311, 3, 95), none, none, some (.ifCond .eq 16, 3, 0), none, none, some (.aload_n 0, 1, 0), some (.getfield 258, 3, 11), none, none, some (.iconst 1, 1, 0), some (.dup2, 1, 0), some (.iaload, 1, 0), some (.iconst 1, 1, 0), some (.iadd, 1, 0), some (.iastore, 1, 0), some (.goto 43, 3, 0), none, none, some (.iload 6, 2, 0), none, some (.lload 11, 2, 0), none, some (.aload_n 1, 1, 0), some (.getfield 1296, 3, 86), none, none, some (.invokestatic 39, 3, 89), none, none, some (.lload 9, 2, 0), none, some (.lcmp, 1, 0), some (.ifCond .ne 16, 3, 0), none, none, some (.aload_n 0, 1, 0), some (.getfield 258, 3, 11), none, none, some (.iconst 2, 1, 0), some (.dup2, 1, 0), some (.iaload, 1, 0), some (.iconst 1, 1, 0), some (.iadd, 1, 0), some (.iastore, 1, 0), some (.goto 13, 3, 0), none, none, some (.aload_n 0, 1, 0), some (.getfield 258, 3, 11), none, none, some (.iconst 3, 1, 0), some (.dup2, 1, 0), some (.iaload, 1, 0), some (.iconst 1, 1, 0), some (.iadd, 1, 0), some (.iastore, 1, 0), some (.iinc 7 1, 3, 0), none, none, some (.goto (-140), 3, 0), none, none, some (.return_, 1, 0)]
set_option maxRecDepth 20000 in
def zk_X1_valueMade : zCode := [some (.aload_n 0, 1, 0), some (.getfield 1284, 3, 99), none, none, some (.iconst 4, 1, 0), some (.if_icmp .ne 9, 3, 0), none, none, some (.aload_n 0, 1, 0), some (.getfield 1292, 3, 102), none, none, some (.i2l, 1, 0), some (.lreturn, 1, 0), some (.aload_n 1, 1, 0), some (.aload_n 0, 1, 0), some (.getfield 1288, 3, 105), none, none, some (.aload_n 2, 1, 0), some (.iload_n 3, 1, 0), some (.invokestatic 30, 3, 108), none, none, some (.lstore 4, 2, 0), none, some (.aload_n 0, 1, 0), some (.getfield 1284, 3, 99), none, none, some (.ifCond .ne 6, 3, 0), none, none, some (.lload 4, 2, 0), none, some (.lreturn, 1, 0), some (.aload_n 0, 1, 0), some (.getfield 1284, 3, 99), none, none, some (.iconst 3, 1, 0), some (.if_icmp .ne 7, 3, 0), none, none, some (.iconst 1, 1, 0), some (.goto 4, 3, 0), none, none, some (.iconst 0, 1, 0), some (.istore 6, 2, 0), none, some (.iload 6, 2, 0), none, some (.ifCond .eq 16, 3, 0), none, none, some (.aload_n 1, 1, 0), some (.aload_n 0, 1, 0), some (.getfield 1292, 3, 102), none, none, some (.aload_n 2, 1, 0), some (.iload_n 3, 1, 0), some (.invokestatic 30, 3, 108), none, none, some (.goto 8, 3, 0), none, none, some (.aload_n 0, 1, 0), some (.getfield 1292, 3, 102), none, none, some (.i2l, 1, 0), some (.lstore 7, 2, 0), none, some (.aload_n 0, 1, 0), some (.getfield 1296, 3, 86), none, none, some (.iconst 5, 1, 0), some (.if_icmp .ne 15, 3, 0), none, none, some (.aload_n 0, 1, 0), some (.getfield 1284, 3, 99), none, none, some (.lload 4, 2, 0), none, some (.lload 7, 2, 0), none, some (.invokestatic 31, 3, 112), none, none, some (.lreturn, 1, 0), some (.aload_n 1, 1, 0), some (.aload_n 0, 1, 0), some (.getfield 1288, 3, 105), none, none, some (.invokevirtual 100, 3, 116), none, none, some (.lload 4, 2, 0), none, some (.invokestatic 40, 3, 119), none, none, some (.dstore 9, 2, 0), none, some (.iload 6, 2, 0), none, some (.ifCond .eq 14, 3, 0), none, none, some (.aload_n 1, 1, 0), some (.aload_n 0, 1, 0), some (.getfield 1292, 3, 102), none, none, some (.invokevirtual 100, 3, 116), none, none, some (.goto 4, 3, 0), none, none, some (.iconst 4, 1, 0), some (.lload 7, 2, 0), none, some (.invokestatic 40, 3, 119), none, none, some (.dstore 11, 2, 0), none, some (.aload_n 0, 1, 0), some (.getfield 1284, 3, 99), none, none, some (.dload 9, 2, 0), none, some (.dload 11, 2, 0), none, some (.invokestatic 32, 3, 123), none, none, some (.bipush 7, 2, 0), none, some (.invokestatic 62, 3, 127), none, none, some (.lreturn, 1, 0)]
set_option maxRecDepth 20000 in
def zk_X1_valueOf : zCode := [some (.aload_n 0, 1, 0), some (.iload_n 1, 1, 0), some (.invokevirtual 99, 3, 69), none, none, some (.ifCond .eq 14, 3, 0), none, none, some (.aload_n 0, 1, 0), some (.getfield 1550, 3, 79), none, none, some (.iload_n 1, 1, 0), some (.iaload, 1, 0), some (.iload_n 3, 1, 0), some (.iadd, 1, 0), some (.goto 4, 3, 0), none, none, some (.iconst (-1), 1, 0), some (.istore 4, 2, 0), none, some (.iload 4, 2, 0), none, some (.ifCond .lt 17, 3, 0), none, none, some (.iload 4, 2, 0), none, some (.aload_n 2, 1, 0), some (.arraylength, 1, 0), some (.if_icmp .ge 10, 3, 0), none, none, some (.aload_n 2, 1, 0), some (.iload 4, 2, 0), none, some (.laload, 1, 0), some (.goto 4, 3, 0), none, none, some (.lconst 0, 1, 0), some (.lreturn, 1, 0)]
set_option maxRecDepth 20000 in
def zk_X1_wholeMade : zCode := [some (.iload_n 0, 1, 0), some (.iconst 1, 1, 0), some (.if_icmp .ne 7, 3, 0), none, none, some (.lload_n 1, 1, 0), some (.lload_n 3, 1, 0), some (.lmul, 1, 0), some (.lreturn, 1, 0), some (.iload_n 0, 1, 0), some (.iconst 3, 1, 0), some (.if_icmp .ne 7, 3, 0), none, none, some (.lload_n 1, 1, 0), some (.lload_n 3, 1, 0), some (.ladd, 1, 0), some (.lreturn, 1, 0), some (.lload_n 3, 1, 0), some (.lconst 0, 1, 0), some (.lcmp, 1, 0), some (.ifCond .ne 7, 3, 0), none, none, some (.lconst 0, 1, 0), some (.goto 6, 3, 0), none, none, some (.lload_n 1, 1, 0), some (.lload_n 3, 1, 0), some (.ldiv, 1, 0), some (.lreturn, 1, 0)]
set_option maxRecDepth 20000 in
def zk_X1_realMade : zCode := [some (.ldc2_w 1, 3, 133), none, none, some (.dstore 5, 2, 0), none, some (.dconst 0, 1, 0), some (.dstore 7, 2, 0), none, some (.iload_n 0, 1, 0), some (.iconst 1, 1, 0), some (.if_icmp .ne 11, 3, 0), none, none, some (.dload_n 1, 1, 0), some (.dload_n 3, 1, 0), some (.dmul, 1, 0), some (.dstore 7, 2, 0), none, some (.goto 27, 3, 0), none, none, some (.iload_n 0, 1, 0), some (.iconst 3, 1, 0), some (.if_icmp .ne 11, 3, 0), none, none, some (.dload_n 1, 1, 0), some (.dload_n 3, 1, 0), some (.dadd, 1, 0), some (.dstore 7, 2, 0), none, some (.goto 14, 3, 0), none, none, some (.dload_n 3, 1, 0), some (.dconst 0, 1, 0), some (.dcmp .l, 1, 0), some (.ifCond .eq 8, 3, 0), none, none, some (.dload_n 1, 1, 0), some (.dload_n 3, 1, 0), some (.ddiv, 1, 0), some (.dstore 7, 2, 0), none, some (.dload 7, 2, 0), none, some (.dload 5, 2, 0), none, some (.dcmp .l, 1, 0), some (.ifCond .le 6, 3, 0), none, none, some (.dload 5, 2, 0), none, some (.dreturn, 1, 0), some (.dload 7, 2, 0), none, some (.dload 5, 2, 0), none, some (.dneg, 1, 0), some (.dcmp .g, 1, 0), some (.ifCond .ge 9, 3, 0), none, none, some (.dload 5, 2, 0), none, some (.dneg, 1, 0), some (.goto 5, 3, 0), none, none, some (.dload 7, 2, 0), none, some (.dreturn, 1, 0)]
set_option maxRecDepth 20000 in
def zk_X2_isNumber : zCode := [some (.iload_n 0, 1, 0), some (.iconst 1, 1, 0), some (.if_icmp .lt 13, 3, 0), none, none, some (.iload_n 0, 1, 0), some (.bipush 7, 2, 0), none, some (.if_icmp .gt 7, 3, 0), none, none, some (.iconst 1, 1, 0), some (.goto 4, 3, 0), none, none, some (.iconst 0, 1, 0), some (.ireturn, 1, 1)]
set_option maxRecDepth 20000 in
def zk_X2_isReal : zCode := [some (.iload_n 0, 1, 0), some (.bipush 6, 2, 0), none, some (.if_icmp .eq 9, 3, 0), none, none, some (.iload_n 0, 1, 0), some (.bipush 7, 2, 0), none, some (.if_icmp .ne 7, 3, 0), none, none, some (.iconst 1, 1, 0), some (.goto 4, 3, 0), none, none, some (.iconst 0, 1, 0), some (.ireturn, 1, 1)]
set_option maxRecDepth 20000 in
def zk_X2_goesInto : zCode := [some (.iload_n 0, 1, 0), some (.iload_n 1, 1, 0), some (.if_icmp .ne 5, 3, 0), none, none, some (.iconst 1, 1, 0), some (.ireturn, 1, 1), some (.iload_n 1, 1, 0), some (.bipush 7, 2, 0), none, some (.if_icmp .le 5, 3, 0), none, none, some (.iconst 0, 1, 0), some (.ireturn, 1, 1), some (.iload_n 0, 1, 0), some (.tableswitch 73 1 6 #[40, 51, 51, 62, 62, 62], 40, 0), none, none, none, none, none, none, none, none, none, none, none, none, none, none, none, none, none, none, none, none, none, none, none, none, none, none, none, none, none, none, none, none, none, none, none, none, none, none, none, some (.iload_n 1, 1, 0), some (.iconst 3, 1, 0), some (.if_icmp .lt 7, 3, 0), none, none, some (.iconst 1, 1, 0), some (.goto 4, 3, 0), none, none, some (.iconst 0, 1, 0), some (.ireturn, 1, 1), some (.iload_n 1, 1, 0), some (.iconst 4, 1, 0), some (.if_icmp .lt 7, 3, 0), none, none, some (.iconst 1, 1, 0), some (.goto 4, 3, 0), none, none, some (.iconst 0, 1, 0), some (.ireturn, 1, 1), some (.iload_n 1, 1, 0), some (.iload_n 0, 1, 0), some (.if_icmp .le 7, 3, 0), none, none, some (.iconst 1, 1, 0), some (.goto 4, 3, 0), none, none, some (.iconst 0, 1, 0), some (.ireturn, 1, 1), some (.iconst 0, 1, 0), some (.ireturn, 1, 1)]
set_option maxRecDepth 20000 in
def zk_X2_goesWholeInto : zCode := [some (.iload_n 0, 1, 0), some (.iconst 4, 1, 0), some (.if_icmp .ne 9, 3, 0), none, none, some (.iload_n 1, 1, 0), some (.bipush 6, 2, 0), none, some (.if_icmp .eq 14, 3, 0), none, none, some (.iload_n 0, 1, 0), some (.iconst 5, 1, 0), some (.if_icmp .ne 11, 3, 0), none, none, some (.iload_n 1, 1, 0), some (.bipush 6, 2, 0), none, some (.if_icmp .ne 5, 3, 0), none, none, some (.iconst 0, 1, 0), some (.ireturn, 1, 1), some (.iload_n 0, 1, 0), some (.iload_n 1, 1, 0), some (.invokestatic 35, 3, 9), none, none, some (.ifCond .eq 18, 3, 0), none, none, some (.iload_n 0, 1, 0), some (.iconst 5, 1, 0), some (.if_icmp .ne 9, 3, 0), none, none, some (.iload_n 1, 1, 0), some (.bipush 7, 2, 0), none, some (.if_icmp .eq 7, 3, 0), none, none, some (.iconst 1, 1, 0), some (.goto 4, 3, 0), none, none, some (.iconst 0, 1, 0), some (.ireturn, 1, 1)]
set_option maxRecDepth 20000 in
def zk_X2_told : zCode := [some (.iload_n 0, 1, 0), some (.tableswitch 70 6 10 #[35, 47, 59, 64, 68], 35, 0), none, none, none, none, none, none, none, none, none, none, none, none, none, none, none, none, none, none, none, none, none, none, none, none, none, none, none, none, none, none, none, none, none, none, some (.lload_n 1, 1, 0), some (.l2f, 1, 0), some (.ldc 2, 2, 13), none, some (.fdiv, 1, 0), some (.f2d, 1, 0), some (.bipush 6, 2, 0), none, some (.invokestatic 62, 3, 14), none, none, some (.lreturn, 1, 0), some (.lload_n 1, 1, 0), some (.l2d, 1, 0), some (.ldc2_w 3, 3, 20), none, none, some (.ddiv, 1, 0), some (.bipush 7, 2, 0), none, some (.invokestatic 62, 3, 14), none, none, some (.lreturn, 1, 0), some (.lload_n 1, 1, 0), some (.invokestatic 38, 3, 22), none, none, some (.lreturn, 1, 0), some (.lload_n 1, 1, 0), some (.l2i, 1, 0), some (.i2l, 1, 0), some (.lreturn, 1, 0), some (.lconst 0, 1, 0), some (.lreturn, 1, 0), some (.lload_n 1, 1, 0), some (.iload_n 0, 1, 0), some (.invokestatic 43, 3, 26), none, none, some (.lreturn, 1, 0)]
set_option maxRecDepth 20000 in
def zk_X2_toldWord : zCode := [some (.lconst 0, 1, 0), some (.lstore_n 2, 1, 0), some (.bipush 35, 2, 0), none, some (.istore 4, 2, 0), none, some (.iload 4, 2, 0), none, some (.ifCond .lt 42, 3, 0), none, none, some (.lload_n 0, 1, 0), some (.iload 4, 2, 0), none, some (.lushr, 1, 0), some (.ldc2_w 4, 3, 30), none, none, some (.land, 1, 0), some (.lstore 5, 2, 0), none, some (.lload 5, 2, 0), none, some (.lconst 1, 1, 0), some (.lcmp, 1, 0), some (.ifCond .lt 19, 3, 0), none, none, some (.lload 5, 2, 0), none, some (.ldc2_w 5, 3, 32), none, none, some (.lcmp, 1, 0), some (.ifCond .gt 10, 3, 0), none, none, some (.lload_n 2, 1, 0), some (.iconst 5, 1, 0), some (.lshl, 1, 0), some (.lload 5, 2, 0), none, some (.lor, 1, 0), some (.lstore_n 2, 1, 0), some (.iinc 4 (-5), 3, 0), none, none, some (.goto (-41), 3, 0), none, none, some (.lload_n 2, 1, 0), some (.lreturn, 1, 0)]
set_option maxRecDepth 20000 in
def zk_X2_changed : zCode := [some (.iload_n 0, 1, 0), some (.iload_n 3, 1, 0), some (.if_icmp .ne 5, 3, 0), none, none, some (.lload_n 1, 1, 0), some (.lreturn, 1, 0), some (.iload_n 0, 1, 0), some (.ifCond .ne 13, 3, 0), none, none, some (.iload_n 3, 1, 0), some (.bipush 8, 2, 0), none, some (.if_icmp .ne 7, 3, 0), none, none, some (.lload_n 1, 1, 0), some (.lconst 1, 1, 0), some (.ladd, 1, 0), some (.lreturn, 1, 0), some (.iload_n 0, 1, 0), some (.invokestatic 34, 3, 34), none, none, some (.ifCond .eq 13, 3, 0), none, none, some (.lload_n 1, 1, 0), some (.iload_n 0, 1, 0), some (.invokestatic 63, 3, 38), none, none, some (.iload_n 3, 1, 0), some (.invokestatic 44, 3, 42), none, none, some (.lreturn, 1, 0), some (.iload_n 0, 1, 0), some (.bipush 8, 2, 0), none, some (.if_icmp .ne 24, 3, 0), none, none, some (.iload_n 3, 1, 0), some (.ifCond .ne 11, 3, 0), none, none, some (.lload_n 1, 1, 0), some (.iconst 0, 1, 0), some (.invokestatic 43, 3, 26), none, none, some (.goto 11, 3, 0), none, none, some (.lload_n 1, 1, 0), some (.invokestatic 41, 3, 45), none, none, some (.iload_n 3, 1, 0), some (.invokestatic 43, 3, 26), none, none, some (.lreturn, 1, 0), some (.lload_n 1, 1, 0), some (.iload_n 3, 1, 0), some (.invokestatic 43, 3, 26), none, none, some (.lreturn, 1, 0)]
set_option maxRecDepth 20000 in
def zk_X2_realOf : zCode := [some (.iload_n 0, 1, 0), some (.invokestatic 34, 3, 34), none, none, some (.ifCond .eq 11, 3, 0), none, none, some (.lload_n 1, 1, 0), some (.iload_n 0, 1, 0), some (.invokestatic 63, 3, 38), none, none, some (.goto 5, 3, 0), none, none, some (.lload_n 1, 1, 0), some (.l2d, 1, 0), some (.dreturn, 1, 0)]
set_option maxRecDepth 20000 in
def zk_X2_wholeOfWord : zCode := [some (.lconst 0, 1, 0), some (.lstore_n 2, 1, 0), some (.iconst 0, 1, 0), some (.istore 4, 2, 0), none, some (.iconst 0, 1, 0), some (.istore 5, 2, 0), none, some (.bipush 35, 2, 0), none, some (.istore 6, 2, 0), none, some (.iload 6, 2, 0), none, some (.ifCond .lt 77, 3, 0), none, none, some (.lload_n 0, 1, 0), some (.iload 6, 2, 0), none, some (.lushr, 1, 0), some (.ldc2_w 4, 3, 30), none, none, some (.land, 1, 0), some (.lstore 7, 2, 0), none, some (.lload 7, 2, 0), none, some (.lconst 0, 1, 0), some (.lcmp, 1, 0), some (.ifCond .eq 27, 3, 0), none, none, some (.iload 4, 2, 0), none, some (.ifCond .ne 22, 3, 0), none, none, some (.iconst 1, 1, 0), some (.istore 4, 2, 0), none, some (.lload 7, 2, 0), none, some (.ldc2_w 5, 3, 32), none, none, some (.lcmp, 1, 0), some (.ifCond .ne 7, 3, 0), none, none, some (.iconst 1, 1, 0), some (.goto 4, 3, 0), none, none, some (.iconst 0, 1, 0), some (.istore 5, 2, 0), none, some (.lload 7, 2, 0), none, some (.lconst 1, 1, 0), some (.lcmp, 1, 0), some (.ifCond .lt 23, 3, 0), none, none, some (.lload 7, 2, 0), none, some (.ldc2_w 6, 3, 48), none, none, some (.lcmp, 1, 0), some (.ifCond .gt 14, 3, 0), none, none, some (.ldc2_w 6, 3, 48), none, none, some (.lload_n 2, 1, 0), some (.lmul, 1, 0), some (.lload 7, 2, 0), none, some (.ladd, 1, 0), some (.lconst 1, 1, 0), some (.lsub, 1, 0), some (.lstore_n 2, 1, 0), some (.iinc 6 (-5), 3, 0), none, none, some (.goto (-76), 3, 0), none, none, some (.iload 5, 2, 0), none, some (.ifCond .eq 8, 3, 0), none, none, some (.lload_n 2, 1, 0), some (.lneg, 1, 0), some (.goto 4, 3, 0), none, none, some (.lload_n 2, 1, 0), some (.lreturn, 1, 0)]
set_option maxRecDepth 20000 in
def zk_X2_digitsWord : zCode := [some (.lconst 0, 1, 0), some (.lstore_n 2, 1, 0), some (.lload_n 0, 1, 0), some (.lstore 4, 2, 0), none, some (.iconst 0, 1, 0), some (.istore 6, 2, 0), none, some (.lload 4, 2, 0), none, some (.ldc2_w 6, 3, 48), none, none, some (.lrem, 1, 0), some (.lstore 7, 2, 0), none, some (.lload_n 2, 1, 0), some (.lload 7, 2, 0), none, some (.lconst 0, 1, 0), some (.lcmp, 1, 0), some (.ifCond .ge 9, 3, 0), none, none, some (.lload 7, 2, 0), none, some (.lneg, 1, 0), some (.goto 5, 3, 0), none, none, some (.lload 7, 2, 0), none, some (.lconst 1, 1, 0), some (.ladd, 1, 0), some (.iconst 5, 1, 0), some (.iload 6, 2, 0), none, some (.imul, 1, 0), some (.lshl, 1, 0), some (.lor, 1, 0), some (.lstore_n 2, 1, 0), some (.lload 4, 2, 0), none, some (.ldc2_w 6, 3, 48), none, none, some (.ldiv, 1, 0), some (.lstore 4, 2, 0), none, some (.iinc 6 1, 3, 0), none, none, some (.iload 6, 2, 0), none, some (.bipush 8, 2, 0), none, some (.if_icmp .ge 10, 3, 0), none, none, some (.lload 4, 2, 0), none, some (.lconst 0, 1, 0), some (.lcmp, 1, 0), some (.ifCond .ne (-55), 3, 0), none, none, some (.lload_n 0, 1, 0), some (.lconst 0, 1, 0), some (.lcmp, 1, 0), some (.ifCond .ge 21, 3, 0), none, none, some (.iload 6, 2, 0), none, some (.bipush 8, 2, 0), none, some (.if_icmp .ge 14, 3, 0), none, none, some (.lload_n 2, 1, 0), some (.ldc2_w 5, 3, 32), none, none, some (.iconst 5, 1, 0), some (.iload 6, 2, 0), none, some (.imul, 1, 0), some (.lshl, 1, 0), some (.lor, 1, 0), some (.lstore_n 2, 1, 0), some (.lload_n 2, 1, 0), some (.lreturn, 1, 0)]
set_option maxRecDepth 20000 in
def zk_X2_ofWhole : zCode := [some (.iload_n 2, 1, 0), some (.tableswitch 104 0 8 #[51, 63, 68, 73, 78, 104, 82, 91, 99], 51, 0), none, none, none, none, none, none, none, none, none, none, none, none, none, none, none, none, none, none, none, none, none, none, none, none, none, none, none, none, none, none, none, none, none, none, none, none, none, none, none, none, none, none, none, none, none, none, none, none, none, none, some (.lload_n 0, 1, 0), some (.lconst 0, 1, 0), some (.lcmp, 1, 0), some (.ifCond .eq 7, 3, 0), none, none, some (.lconst 1, 1, 0), some (.goto 4, 3, 0), none, none, some (.lconst 0, 1, 0), some (.lreturn, 1, 0), some (.lload_n 0, 1, 0), some (.l2i, 1, 0), some (.i2b, 1, 0), some (.i2l, 1, 0), some (.lreturn, 1, 0), some (.lload_n 0, 1, 0), some (.l2i, 1, 0), some (.i2c, 1, 0), some (.i2l, 1, 0), some (.lreturn, 1, 0), some (.lload_n 0, 1, 0), some (.l2i, 1, 0), some (.i2s, 1, 0), some (.i2l, 1, 0), some (.lreturn, 1, 0), some (.lload_n 0, 1, 0), some (.l2i, 1, 0), some (.i2l, 1, 0), some (.lreturn, 1, 0), some (.lload_n 0, 1, 0), some (.l2f, 1, 0), some (.f2d, 1, 0), some (.bipush 6, 2, 0), none, some (.invokestatic 62, 3, 14), none, none, some (.lreturn, 1, 0), some (.lload_n 0, 1, 0), some (.l2d, 1, 0), some (.bipush 7, 2, 0), none, some (.invokestatic 62, 3, 14), none, none, some (.lreturn, 1, 0), some (.lload_n 0, 1, 0), some (.invokestatic 42, 3, 50), none, none, some (.lreturn, 1, 0), some (.lload_n 0, 1, 0), some (.lreturn, 1, 0)]
set_option maxRecDepth 20000 in
def zk_X2_ofReal : zCode := [some (.iload_n 2, 1, 0), some (.tableswitch 104 0 8 #[51, 63, 68, 73, 78, 104, 82, 91, 98], 51, 0), none, none, none, none, none, none, none, none, none, none, none, none, none, none, none, none, none, none, none, none, none, none, none, none, none, none, none, none, none, none, none, none, none, none, none, none, none, none, none, none, none, none, none, none, none, none, none, none, none, none, some (.dload_n 0, 1, 0), some (.dconst 0, 1, 0), some (.dcmp .l, 1, 0), some (.ifCond .eq 7, 3, 0), none, none, some (.lconst 1, 1, 0), some (.goto 4, 3, 0), none, none, some (.lconst 0, 1, 0), some (.lreturn, 1, 0), some (.dload_n 0, 1, 0), some (.d2i, 1, 0), some (.i2b, 1, 0), some (.i2l, 1, 0), some (.lreturn, 1, 0), some (.dload_n 0, 1, 0), some (.d2i, 1, 0), some (.i2c, 1, 0), some (.i2l, 1, 0), some (.lreturn, 1, 0), some (.dload_n 0, 1, 0), some (.d2i, 1, 0), some (.i2s, 1, 0), some (.i2l, 1, 0), some (.lreturn, 1, 0), some (.dload_n 0, 1, 0), some (.d2i, 1, 0), some (.i2l, 1, 0), some (.lreturn, 1, 0), some (.dload_n 0, 1, 0), some (.d2f, 1, 0), some (.f2d, 1, 0), some (.bipush 6, 2, 0), none, some (.invokestatic 62, 3, 14), none, none, some (.lreturn, 1, 0), some (.dload_n 0, 1, 0), some (.bipush 7, 2, 0), none, some (.invokestatic 62, 3, 14), none, none, some (.lreturn, 1, 0), some (.dload_n 0, 1, 0), some (.d2l, 1, 0), some (.invokestatic 42, 3, 50), none, none, some (.lreturn, 1, 0), some (.dload_n 0, 1, 0), some (.d2l, 1, 0), some (.lreturn, 1, 0)]
set_option maxRecDepth 20000 in
def zk_X3_init : zCode := [some (.aload_n 0, 1, 0), some (.invokespecial 907, 3, 1), none, none, some (.aload_n 0, 1, 0), some (.bipush 6, 2, 0), none, some (.anewarray 16, 3, 9), none, none, some (.putfield 514, 3, 11), none, none, some (.iconst 0, 1, 0), some (.istore_n 1, 1, 0), some (.iload_n 1, 1, 0), some (.bipush 6, 2, 0), none, some (.if_icmp .ge 22, 3, 0), none, none, some (.aload_n 0, 1, 0), some (.getfield 514, 3, 11), none, none, some (.iload_n 1, 1, 0), some (.new 5, 3, 9), none, none, some (.dup, 1, 0), some (.invokespecial 90, 3, 15), none, none, some (.aastore, 1, 0), some (.iinc 1 1, 3, 0), none, none, some (.goto (-22), 3, 0), none, none, some (.return_, 1, 0)]
set_option maxRecDepth 20000 in
def zk_X3_begin : zCode := [some (.aload_n 0, 1, 0), some (.iload_n 1, 1, 0), some (.putfield 516, 3, 16), none, none, some (.aload_n 0, 1, 0), some (.iload_n 2, 1, 0), some (.putfield 520, 3, 20), none, none, some (.aload_n 0, 1, 0), some (.iconst 0, 1, 0), some (.putfield 524, 3, 23), none, none, some (.return_, 1, 0)]
set_option maxRecDepth 20000 in
def zk_X3_ruleAt : zCode := [some (.iload_n 1, 1, 0), some (.ifCond .lt 26, 3, 0), none, none, some (.iload_n 1, 1, 0), some (.aload_n 0, 1, 0), some (.getfield 524, 3, 23), none, none, some (.if_icmp .ge 18, 3, 0), none, none, some (.iload_n 1, 1, 0), some (.bipush 6, 2, 0), none, some (.if_icmp .ge 12, 3, 0), none, none, some (.aload_n 0, 1, 0), some (.getfield 514, 3, 11), none, none, some (.iload_n 1, 1, 0), some (.aaload, 1, 0), some (.goto 4, 3, 0), none, none, some (.aconst_null, 1, 0), some (.areturn, 1, 0)]
set_option maxRecDepth 20000 in
def zk_X3_addRule : zCode := [some (.aload_n 0, 1, 0), some (.aload_n 0, 1, 0), some (.getfield 524, 3, 23), none, none, some (.bipush 6, 2, 0), none, some (.if_icmp .ge 12, 3, 0), none, none, some (.aload_n 0, 1, 0), some (.getfield 524, 3, 23), none, none, some (.iconst 1, 1, 0), some (.iadd, 1, 0), some (.goto 5, 3, 0), none, none, some (.bipush 6, 2, 0), none, some (.putfield 524, 3, 23), none, none, some (.aload_n 0, 1, 0), some (.aload_n 0, 1, 0), some (.getfield 524, 3, 23), none, none, some (.iconst 1, 1, 0), some (.isub, 1, 0), some (.invokevirtual 47, 3, 26), none, none, some (.areturn, 1, 0)]
set_option maxRecDepth 20000 in
def zk_X3_fieldsRead : zCode := [some (.iconst 0, 1, 0), some (.istore_n 1, 1, 0), some (.iconst 0, 1, 0), some (.istore_n 2, 1, 0), some (.iload_n 2, 1, 0), some (.aload_n 0, 1, 0), some (.getfield 524, 3, 23), none, none, some (.if_icmp .ge 30, 3, 0), none, none, some (.aload_n 0, 1, 0), some (.iload_n 2, 1, 0), some (.invokevirtual 47, 3, 26), none, none, some (.astore_n 3, 1, 0), some (.iload_n 1, 1, 0), some (.aload_n 3, 1, 0), some (.ifnonnull 7, 3, 0), none, none, some (.iconst 0, 1, 0), some (.goto 7, 3, 0), none, none, some (.aload_n 3, 1, 0), some (.invokevirtual 93, 3, 30), none, none, some (.ior, 1, 0), some (.istore_n 1, 1, 0), some (.iinc 2 1, 3, 0), none, none, some (.goto (-32), 3, 0), none, none, some (.iload_n 1, 1, 0), some (.ireturn, 1, 0)]
set_option maxRecDepth 20000 in
def zk_X3_fieldsFilled : zCode := [some (.iconst 0, 1, 0), some (.istore_n 1, 1, 0), some (.iconst 0, 1, 0), some (.istore_n 2, 1, 0), some (.iload_n 2, 1, 0), some (.aload_n 0, 1, 0), some (.getfield 524, 3, 23), none, none, some (.if_icmp .ge 32, 3, 0), none, none, some (.aload_n 0, 1, 0), some (.iload_n 2, 1, 0), some (.invokevirtual 47, 3, 26), none, none, some (.astore_n 3, 1, 0), some (.iload_n 1, 1, 0), some (.aload_n 3, 1, 0), some (.ifnonnull 7, 3, 0), none, none, some (.iconst 0, 1, 0), some (.goto 9, 3, 0), none, none, some (.iconst 1, 1, 0), some (.aload_n 3, 1, 0), some (.getfield 1280, 3, 34), none, none, some (.ishl, 1, 0), some (.ior, 1, 0), some (.istore_n 1, 1, 0), some (.iinc 2 1, 3, 0), none, none, some (.goto (-34), 3, 0), none, none, some (.iload_n 1, 1, 0), some (.ireturn, 1, 0)]
set_option maxRecDepth 20000 in
def zk_X3_leadsBack : zCode := [some (.aload_n 0, 1, 0), some (.getfield 516, 3, 16), none, none, some (.aload_n 1, 1, 0), some (.getfield 520, 3, 20), none, none, some (.if_icmp .ne 18, 3, 0), none, none, some (.aload_n 0, 1, 0), some (.getfield 520, 3, 20), none, none, some (.aload_n 1, 1, 0), some (.getfield 516, 3, 16), none, none, some (.if_icmp .ne 7, 3, 0), none, none, some (.iconst 1, 1, 0), some (.goto 4, 3, 0), none, none, some (.iconst 0, 1, 0), some (.ireturn, 1, 1)]
set_option maxRecDepth 20000 in
def zk_X3_fieldsKeptWhole : zCode := [some (.iconst 0, 1, 0), some (.istore 4, 2, 0), none, some (.iconst 0, 1, 0), some (.istore 5, 2, 0), none, some (.iload 5, 2, 0), none, some (.aload_n 0, 1, 0), some (.getfield 524, 3, 23), none, none, some (.if_icmp .ge 69, 3, 0), none, none, some (.aload_n 0, 1, 0), some (.iload 5, 2, 0), none, some (.invokevirtual 47, 3, 26), none, none, some (.astore 6, 2, 0), none, some (.aload 6, 2, 0), none, some (.ifnull 50, 3, 0), none, none, some (.aload 6, 2, 0), none, some (.getfield 1284, 3, 37), none, none, some (.ifCond .ne 42, 3, 0), none, none, some (.aload 6, 2, 0), none, some (.aload_n 2, 1, 0), some (.aload_n 3, 1, 0), some (.invokestatic 53, 3, 40), none, none, some (.ifCond .eq 32, 3, 0), none, none, some (.aload_n 1, 1, 0), some (.aload 6, 2, 0), none, some (.getfield 1280, 3, 34), none, none, some (.aload 6, 2, 0), none, some (.getfield 1288, 3, 44), none, none, some (.invokevirtual 54, 3, 47), none, none, some (.ifCond .eq 15, 3, 0), none, none, some (.iload 4, 2, 0), none, some (.iconst 1, 1, 0), some (.aload 6, 2, 0), none, some (.getfield 1288, 3, 44), none, none, some (.ishl, 1, 0), some (.ior, 1, 0), some (.istore 4, 2, 0), none, some (.iinc 5 1, 3, 0), none, none, some (.goto (-72), 3, 0), none, none, some (.iload 4, 2, 0), none, some (.ireturn, 1, 0)]
set_option maxRecDepth 20000 in
def zk_X3_keepsWhole : zCode := [some (.aload_n 1, 1, 0), some (.aload_n 0, 1, 0), some (.getfield 1288, 3, 44), none, none, some (.invokevirtual 99, 3, 51), none, none, some (.ifCond .eq 63, 3, 0), none, none, some (.aload_n 2, 1, 0), some (.aload_n 0, 1, 0), some (.getfield 1280, 3, 34), none, none, some (.invokevirtual 99, 3, 51), none, none, some (.ifCond .eq 52, 3, 0), none, none, some (.aload_n 1, 1, 0), some (.getfield 1542, 3, 57), none, none, some (.aload_n 0, 1, 0), some (.getfield 1288, 3, 44), none, none, some (.iaload, 1, 0), some (.aload_n 2, 1, 0), some (.getfield 1542, 3, 57), none, none, some (.aload_n 0, 1, 0), some (.getfield 1280, 3, 34), none, none, some (.iaload, 1, 0), some (.invokestatic 36, 3, 61), none, none, some (.ifCond .eq 28, 3, 0), none, none, some (.aload_n 2, 1, 0), some (.getfield 1546, 3, 66), none, none, some (.aload_n 0, 1, 0), some (.getfield 1280, 3, 34), none, none, some (.iaload, 1, 0), some (.aload_n 1, 1, 0), some (.getfield 1546, 3, 66), none, none, some (.aload_n 0, 1, 0), some (.getfield 1288, 3, 44), none, none, some (.iaload, 1, 0), some (.if_icmp .lt 7, 3, 0), none, none, some (.iconst 1, 1, 0), some (.goto 4, 3, 0), none, none, some (.iconst 0, 1, 0), some (.ireturn, 1, 1)]
set_option maxRecDepth 20000 in
def zk_X3_carriesAlone : zCode := [some (.iconst 0, 1, 0), some (.istore_n 3, 1, 0), some (.iload_n 3, 1, 0), some (.aload_n 0, 1, 0), some (.getfield 524, 3, 23), none, none, some (.if_icmp .ge 33, 3, 0), none, none, some (.aload_n 0, 1, 0), some (.iload_n 3, 1, 0), some (.invokevirtual 47, 3, 26), none, none, some (.astore 4, 2, 0), none, some (.aload 4, 2, 0), none, some (.ifnull 15, 3, 0), none, none, some (.aload 4, 2, 0), none, some (.iload_n 1, 1, 0), some (.iload_n 2, 1, 0), some (.invokevirtual 94, 3, 69), none, none, some (.ifCond .eq 5, 3, 0), none, none, some (.iconst 1, 1, 0), some (.ireturn, 1, 1), some (.iinc 3 1, 3, 0), none, none, some (.goto (-35), 3, 0), none, none, some (.iconst 0, 1, 0), some (.ireturn, 1, 1)]
set_option maxRecDepth 20000 in
def zk_X4_init : zCode := [some (.aload_n 0, 1, 0), some (.invokespecial 907, 3, 3), none, none, some (.aload_n 0, 1, 0), some (.iconst 3, 1, 0), some (.anewarray 17, 3, 11), none, none, some (.putfield 770, 3, 13), none, none, some (.aload_n 0, 1, 0), some (.iconst 4, 1, 0), some (.anewarray 15, 3, 17), none, none, some (.putfield 774, 3, 19), none, none, some (.iconst 0, 1, 0), some (.istore_n 1, 1, 0), some (.iload_n 1, 1, 0), some (.iconst 3, 1, 0), some (.if_icmp .ge 22, 3, 0), none, none, some (.aload_n 0, 1, 0), some (.getfield 770, 3, 13), none, none, some (.iload_n 1, 1, 0), some (.new 6, 3, 11), none, none, some (.dup, 1, 0), some (.invokespecial 95, 3, 23), none, none, some (.aastore, 1, 0), some (.iinc 1 1, 3, 0), none, none, some (.goto (-21), 3, 0), none, none, some (.iconst 0, 1, 0), some (.istore_n 1, 1, 0), some (.iload_n 1, 1, 0), some (.iconst 4, 1, 0), some (.if_icmp .ge 22, 3, 0), none, none, some (.aload_n 0, 1, 0), some (.getfield 774, 3, 19), none, none, some (.iload_n 1, 1, 0), some (.new 2, 3, 17), none, none, some (.dup, 1, 0), some (.invokespecial 45, 3, 24), none, none, some (.aastore, 1, 0), some (.iinc 1 1, 3, 0), none, none, some (.goto (-21), 3, 0), none, none, some (.return_, 1, 0)]
set_option maxRecDepth 20000 in
def zk_X4_clear : zCode := [some (.aload_n 0, 1, 0), some (.iconst 0, 1, 0), some (.putfield 776, 3, 25), none, none, some (.aload_n 0, 1, 0), some (.iconst 0, 1, 0), some (.putfield 780, 3, 29), none, none, some (.return_, 1, 0)]
set_option maxRecDepth 20000 in
def zk_X4_shape : zCode := [some (.iload_n 1, 1, 0), some (.ifCond .lt 25, 3, 0), none, none, some (.iload_n 1, 1, 0), some (.aload_n 0, 1, 0), some (.getfield 776, 3, 25), none, none, some (.if_icmp .ge 17, 3, 0), none, none, some (.iload_n 1, 1, 0), some (.iconst 3, 1, 0), some (.if_icmp .ge 12, 3, 0), none, none, some (.aload_n 0, 1, 0), some (.getfield 770, 3, 13), none, none, some (.iload_n 1, 1, 0), some (.aaload, 1, 0), some (.goto 4, 3, 0), none, none, some (.aconst_null, 1, 0), some (.areturn, 1, 0)]
set_option maxRecDepth 20000 in
def zk_X4_passage : zCode := [some (.iload_n 1, 1, 0), some (.ifCond .lt 20, 3, 0), none, none, some (.iload_n 1, 1, 0), some (.aload_n 0, 1, 0), some (.getfield 780, 3, 29), none, none, some (.if_icmp .ge 12, 3, 0), none, none, some (.iload_n 1, 1, 0), some (.iconst 4, 1, 0), some (.if_icmp .ge 7, 3, 0), none, none, some (.iconst 1, 1, 0), some (.goto 4, 3, 0), none, none, some (.iconst 0, 1, 0), some (.istore_n 2, 1, 0), some (.iload_n 2, 1, 0), some (.ifCond .eq 12, 3, 0), none, none, some (.aload_n 0, 1, 0), some (.getfield 774, 3, 19), none, none, some (.iload_n 1, 1, 0), some (.aaload, 1, 0), some (.goto 4, 3, 0), none, none, some (.aconst_null, 1, 0), some (.areturn, 1, 0)]
set_option maxRecDepth 20000 in
def zk_X4_addShape : zCode := [some (.aload_n 0, 1, 0), some (.getfield 776, 3, 25), none, none, some (.iconst 3, 1, 0), some (.if_icmp .lt 5, 3, 0), none, none, some (.aconst_null, 1, 0), some (.areturn, 1, 0), some (.aload_n 0, 1, 0), some (.dup, 1, 0), some (.getfield 776, 3, 25), none, none, some (.iconst 1, 1, 0), some (.iadd, 1, 0), some (.putfield 776, 3, 25), none, none, some (.aload_n 0, 1, 0), some (.aload_n 0, 1, 0), some (.getfield 776, 3, 25), none, none, some (.iconst 1, 1, 0), some (.isub, 1, 0), some (.invokevirtual 57, 3, 32), none, none, some (.astore_n 2, 1, 0), some (.aload_n 2, 1, 0), some (.ifnull 8, 3, 0), none, none, some (.aload_n 2, 1, 0), some (.iload_n 1, 1, 0), some (.invokevirtual 96, 3, 36), none, none, some (.aload_n 2, 1, 0), some (.areturn, 1, 0)]
set_option maxRecDepth 20000 in
def zk_X4_addPassage : zCode := [some (.aload_n 0, 1, 0), some (.getfield 780, 3, 29), none, none, some (.iconst 4, 1, 0), some (.if_icmp .lt 5, 3, 0), none, none, some (.aconst_null, 1, 0), some (.areturn, 1, 0), some (.aload_n 0, 1, 0), some (.dup, 1, 0), some (.getfield 780, 3, 29), none, none, some (.iconst 1, 1, 0), some (.iadd, 1, 0), some (.putfield 780, 3, 29), none, none, some (.aload_n 0, 1, 0), some (.aload_n 0, 1, 0), some (.getfield 780, 3, 29), none, none, some (.iconst 1, 1, 0), some (.isub, 1, 0), some (.invokevirtual 58, 3, 40), none, none, some (.astore_n 3, 1, 0), some (.aload_n 3, 1, 0), some (.ifnull 9, 3, 0), none, none, some (.aload_n 3, 1, 0), some (.iload_n 1, 1, 0), some (.iload_n 2, 1, 0), some (.invokevirtual 46, 3, 44), none, none, some (.aload_n 3, 1, 0), some (.areturn, 1, 0)]
set_option maxRecDepth 20000 in
def zk_X4_shapeOfName : zCode := [some (.iconst 0, 1, 0), some (.istore_n 2, 1, 0), some (.iload_n 2, 1, 0), some (.aload_n 0, 1, 0), some (.getfield 776, 3, 25), none, none, some (.if_icmp .ge 29, 3, 0), none, none, some (.aload_n 0, 1, 0), some (.iload_n 2, 1, 0), some (.invokevirtual 57, 3, 32), none, none, some (.astore_n 3, 1, 0), some (.aload_n 3, 1, 0), some (.ifnull 13, 3, 0), none, none, some (.aload_n 3, 1, 0), some (.getfield 1552, 3, 47), none, none, some (.iload_n 1, 1, 0), some (.if_icmp .ne 5, 3, 0), none, none, some (.iload_n 2, 1, 0), some (.ireturn, 1, 0), some (.iinc 2 1, 3, 0), none, none, some (.goto (-31), 3, 0), none, none, some (.iconst (-1), 1, 0), some (.ireturn, 1, 0)]
set_option maxRecDepth 20000 in
def zk_X5_toBits : zCode := [some (.iload_n 2, 1, 0), some (.bipush 6, 2, 0), none, some (.if_icmp .ne 8, 3, 0), none, none, some (.bipush 127, 2, 0), none, some (.goto 6, 3, 0), none, none, some (.sipush 1023, 3, 0), none, none, some (.istore_n 3, 1, 0), some (.iload_n 2, 1, 0), some (.bipush 6, 2, 0), none, some (.if_icmp .ne 8, 3, 0), none, none, some (.bipush 23, 2, 0), none, some (.goto 5, 3, 0), none, none, some (.bipush 52, 2, 0), none, some (.istore 4, 2, 0), none, some (.dload_n 0, 1, 0), some (.dconst 0, 1, 0), some (.dcmp .g, 1, 0), some (.ifCond .ge 8, 3, 0), none, none, some (.dload_n 0, 1, 0), some (.dneg, 1, 0), some (.goto 4, 3, 0), none, none, some (.dload_n 0, 1, 0), some (.dstore 5, 2, 0), none, some (.iconst 0, 1, 0), some (.istore 7, 2, 0), none, some (.iload 7, 2, 0), none, some (.iload_n 3, 1, 0), some (.if_icmp .ge 26, 3, 0), none, none, some (.dload 5, 2, 0), none, some (.ldc2_w 7, 3, 11), none, none, some (.dcmp .l, 1, 0), some (.ifCond .lt 17, 3, 0), none, none, some (.dload 5, 2, 0), none, some (.ldc2_w 7, 3, 11), none, none, some (.ddiv, 1, 0), some (.dstore 5, 2, 0), none, some (.iinc 7 1, 3, 0), none, none, some (.goto (-26), 3, 0), none, none, some (.iload 7, 2, 0), none, some (.iconst 1, 1, 0), some (.iload_n 3, 1, 0), some (.isub, 1, 0), some (.if_icmp .le 31, 3, 0), none, none, some (.dload 5, 2, 0), none, some (.dconst 0, 1, 0), some (.dcmp .l, 1, 0), some (.ifCond .le 24, 3, 0), none, none, some (.dload 5, 2, 0), none, some (.dconst 1, 1, 0), some (.dcmp .g, 1, 0), some (.ifCond .ge 17, 3, 0), none, none, some (.dload 5, 2, 0), none, some (.ldc2_w 7, 3, 11), none, none, some (.dmul, 1, 0), some (.dstore 5, 2, 0), none, some (.iinc 7 (-1), 3, 0), none, none, some (.goto (-33), 3, 0), none, none, some (.lconst 1, 1, 0), some (.iload 4, 2, 0), none, some (.lshl, 1, 0), some (.lstore 8, 2, 0), none, some (.dload 5, 2, 0), none, some (.lload 8, 2, 0), none, some (.l2d, 1, 0), some (.dmul, 1, 0), some (.d2l, 1, 0), some (.lstore 10, 2, 0), none, some (.dload 5, 2, 0), none, some (.dconst 1, 1, 0), some (.dcmp .l, 1, 0), some (.ifCond .lt 18, 3, 0), none, none, some (.lload 10, 2, 0), none, some (.iload 7, 2, 0), none, some (.iload_n 3, 1, 0), some (.iadd, 1, 0), some (.iconst 1, 1, 0), some (.isub, 1, 0), some (.i2l, 1, 0), some (.lload 8, 2, 0), none, some (.lmul, 1, 0), some (.ladd, 1, 0), some (.lstore 10, 2, 0), none, some (.dload_n 0, 1, 0), some (.dconst 0, 1, 0), some (.dcmp .g, 1, 0), some (.ifCond .lt 17, 3, 0), none, none, some (.dload_n 0, 1, 0), some (.dconst 0, 1, 0), some (.dcmp .l, 1, 0), some (.ifCond .ne 31, 3, 0), none, none, some (.dconst 1, 1, 0), some (.dload_n 0, 1, 0), some (.ddiv, 1, 0), some (.dconst 0, 1, 0), some (.dcmp .g, 1, 0), some (.ifCond .ge 23, 3, 0), none, none, some (.lload 10, 2, 0), none, some (.iload_n 2, 1, 0), some (.bipush 6, 2, 0), none, some (.if_icmp .ne 9, 3, 0), none, none, some (.ldc2_w 8, 3, 13), none, none, some (.goto 6, 3, 0), none, none, some (.ldc2_w 9, 3, 15), none, none, some (.lor, 1, 0), some (.lstore 10, 2, 0), none, some (.lload 10, 2, 0), none, some (.lreturn, 1, 0)]
set_option maxRecDepth 20000 in
def zk_X5_fromBits : zCode := [some (.iload_n 2, 1, 0), some (.bipush 6, 2, 0), none, some (.if_icmp .ne 8, 3, 0), none, none, some (.bipush 127, 2, 0), none, some (.goto 6, 3, 0), none, none, some (.sipush 1023, 3, 0), none, none, some (.istore_n 3, 1, 0), some (.iload_n 2, 1, 0), some (.bipush 6, 2, 0), none, some (.if_icmp .ne 8, 3, 0), none, none, some (.bipush 23, 2, 0), none, some (.goto 5, 3, 0), none, none, some (.bipush 52, 2, 0), none, some (.istore 4, 2, 0), none, some (.lconst 1, 1, 0), some (.iload 4, 2, 0), none, some (.lshl, 1, 0), some (.lstore 5, 2, 0), none, some (.lload_n 0, 1, 0), some (.lload 5, 2, 0), none, some (.lconst 1, 1, 0), some (.lsub, 1, 0), some (.land, 1, 0), some (.lstore 7, 2, 0), none, some (.lload_n 0, 1, 0), some (.iload 4, 2, 0), none, some (.lshr, 1, 0), some (.l2i, 1, 0), some (.iconst 2, 1, 0), some (.iload_n 3, 1, 0), some (.imul, 1, 0), some (.iconst 1, 1, 0), some (.iadd, 1, 0), some (.iand, 1, 0), some (.istore 9, 2, 0), none, some (.iload 9, 2, 0), none, some (.ifCond .ne 8, 3, 0), none, none, some (.lload 7, 2, 0), none, some (.goto 8, 3, 0), none, none, some (.lload 7, 2, 0), none, some (.lload 5, 2, 0), none, some (.ladd, 1, 0), some (.l2d, 1, 0), some (.dstore 10, 2, 0), none, some (.iload 9, 2, 0), none, some (.ifCond .ne 7, 3, 0), none, none, some (.iconst 1, 1, 0), some (.goto 5, 3, 0), none, none, some (.iload 9, 2, 0), none, some (.iload_n 3, 1, 0), some (.isub, 1, 0), some (.iload 4, 2, 0), none, some (.isub, 1, 0), some (.istore 12, 2, 0), none, some (.iconst 0, 1, 0), some (.istore 13, 2, 0), none, some (.iload 13, 2, 0), none, some (.iconst 2, 1, 0), some (.iload_n 3, 1, 0), some (.imul, 1, 0), some (.if_icmp .ge 24, 3, 0), none, none, some (.iload 13, 2, 0), none, some (.iload 12, 2, 0), none, some (.if_icmp .ge 17, 3, 0), none, none, some (.dload 10, 2, 0), none, some (.ldc2_w 7, 3, 11), none, none, some (.dmul, 1, 0), some (.dstore 10, 2, 0), none, some (.iinc 13 1, 3, 0), none, none, some (.goto (-26), 3, 0), none, none, some (.iconst 0, 1, 0), some (.istore 13, 2, 0), none, some (.iload 13, 2, 0), none, some (.iconst 2, 1, 0), some (.iload_n 3, 1, 0), some (.imul, 1, 0), some (.if_icmp .ge 25, 3, 0), none, none, some (.iload 13, 2, 0), none, some (.iload 12, 2, 0), none, some (.ineg, 1, 0), some (.if_icmp .ge 17, 3, 0), none, none, some (.dload 10, 2, 0), none, some (.ldc2_w 7, 3, 11), none, none, some (.ddiv, 1, 0), some (.dstore 10, 2, 0), none, some (.iinc 13 1, 3, 0), none, none, some (.goto (-27), 3, 0), none, none, some (.lload_n 0, 1, 0), some (.lconst 0, 1, 0), some (.lcmp, 1, 0), some (.ifCond .ge 9, 3, 0), none, none, some (.dload 10, 2, 0), none, some (.dneg, 1, 0), some (.goto 5, 3, 0), none, none, some (.dload 10, 2, 0), none, some (.dreturn, 1, 0)]
set_option maxRecDepth 20000 in
def zk_X6_init : zCode := [some (.aload_n 0, 1, 0), some (.invokespecial 907, 3, 7), none, none, some (.aload_n 0, 1, 0), some (.sipush 587, 3, 0), none, none, some (.newarray .long, 2, 0), none, some (.putfield 1026, 3, 13), none, none, some (.aload_n 0, 1, 0), some (.bipush 20, 2, 0), none, some (.sipush 587, 3, 0), none, none, some (.multianewarray 18 2, 4, 17), none, none, none, some (.putfield 1030, 3, 19), none, none, some (.aload_n 0, 1, 0), some (.invokevirtual 65, 3, 22), none, none, some (.return_, 1, 0)]
set_option maxRecDepth 20000 in
def zk_X6_clear : zCode := [some (.aload_n 0, 1, 0), some (.getfield 1026, 3, 13), none, none, some (.lconst 0, 1, 0), some (.invokestatic 317, 3, 25), none, none, some (.aload_n 0, 1, 0), some (.iconst 0, 1, 0), some (.iconst 4, 1, 0), some (.ldc2_w 10, 3, 33), none, none, some (.invokevirtual 85, 3, 35), none, none, some (.aload_n 0, 1, 0), some (.iconst 1, 1, 0), some (.bipush 8, 2, 0), none, some (.ldc2_w 11, 3, 39), none, none, some (.invokevirtual 85, 3, 35), none, none, some (.aload_n 0, 1, 0), some (.iconst 2, 1, 0), some (.bipush 10, 2, 0), none, some (.lconst 0, 1, 0), some (.invokevirtual 85, 3, 35), none, none, some (.aload_n 0, 1, 0), some (.iconst 3, 1, 0), some (.iconst 0, 1, 0), some (.lconst 1, 1, 0), some (.invokevirtual 85, 3, 35), none, none, some (.aload_n 0, 1, 0), some (.iconst 0, 1, 0), some (.putfield 1032, 3, 41), none, none, some (.aload_n 0, 1, 0), some (.iconst 0, 1, 0), some (.putfield 1036, 3, 45), none, none, some (.return_, 1, 0)]
set_option maxRecDepth 20000 in
def zk_X6_keepPast : zCode := [some (.aload_n 0, 1, 0), some (.getfield 1032, 3, 41), none, none, some (.ifCond .lt 61, 3, 0), none, none, some (.aload_n 0, 1, 0), some (.getfield 1032, 3, 41), none, none, some (.bipush 20, 2, 0), none, some (.if_icmp .ge 52, 3, 0), none, none, some (.aload_n 0, 1, 0), some (.getfield 1026, 3, 13), none, none, some (.iconst 0, 1, 0), some (.aload_n 0, 1, 0), some (.getfield 1030, 3, 19), none, none, some (.aload_n 0, 1, 0), some (.getfield 1032, 3, 41), none, none, some (.aaload, 1, 0), some (.iconst 0, 1, 0), some (.sipush 587, 3, 0), none, none, some (.invokestatic 900, 3, 48), none, none, some (.aload_n 0, 1, 0), some (.aload_n 0, 1, 0), some (.getfield 1032, 3, 41), none, none, some (.iconst 1, 1, 0), some (.iadd, 1, 0), some (.bipush 20, 2, 0), none, some (.irem, 1, 0), some (.putfield 1032, 3, 41), none, none, some (.aload_n 0, 1, 0), some (.aload_n 0, 1, 0), some (.getfield 1036, 3, 45), none, none, some (.iconst 1, 1, 0), some (.iadd, 1, 0), some (.bipush 20, 2, 0), none, some (.invokestatic 316, 3, 54), none, none, some (.putfield 1036, 3, 45), none, none, some (.return_, 1, 0)]
set_option maxRecDepth 20000 in
def zk_X6_goBack : zCode := [some (.aload_n 0, 1, 0), some (.getfield 1036, 3, 45), none, none, some (.ifCond .gt 5, 3, 0), none, none, some (.iconst 0, 1, 0), some (.ireturn, 1, 1), some (.aload_n 0, 1, 0), some (.dup, 1, 0), some (.getfield 1036, 3, 45), none, none, some (.iconst 1, 1, 0), some (.isub, 1, 0), some (.putfield 1036, 3, 45), none, none, some (.aload_n 0, 1, 0), some (.aload_n 0, 1, 0), some (.getfield 1032, 3, 41), none, none, some (.iconst 1, 1, 0), some (.isub, 1, 0), some (.bipush 20, 2, 0), none, some (.invokestatic 314, 3, 60), none, none, some (.putfield 1032, 3, 41), none, none, some (.aload_n 0, 1, 0), some (.getfield 1030, 3, 19), none, none, some (.aload_n 0, 1, 0), some (.getfield 1032, 3, 41), none, none, some (.aaload, 1, 0), some (.iconst 0, 1, 0), some (.aload_n 0, 1, 0), some (.getfield 1026, 3, 13), none, none, some (.iconst 0, 1, 0), some (.sipush 587, 3, 0), none, none, some (.invokestatic 900, 3, 48), none, none, some (.iconst 1, 1, 0), some (.ireturn, 1, 1)]
set_option maxRecDepth 20000 in
def zk_X6_countOf : zCode := [some (.iload_n 1, 1, 0), some (.ifCond .lt 18, 3, 0), none, none, some (.iload_n 1, 1, 0), some (.iconst 3, 1, 0), some (.if_icmp .ge 13, 3, 0), none, none, some (.aload_n 0, 1, 0), some (.getfield 1026, 3, 13), none, none, some (.iload_n 1, 1, 0), some (.laload, 1, 0), some (.l2i, 1, 0), some (.goto 4, 3, 0), none, none, some (.iconst 0, 1, 0), some (.ireturn, 1, 0)]
set_option maxRecDepth 20000 in
def zk_X6_hasRecord : zCode := [some (.iload_n 2, 1, 0), some (.ifCond .lt 16, 3, 0), none, none, some (.iload_n 2, 1, 0), some (.aload_n 0, 1, 0), some (.iload_n 1, 1, 0), some (.invokevirtual 68, 3, 63), none, none, some (.if_icmp .ge 7, 3, 0), none, none, some (.iconst 1, 1, 0), some (.goto 4, 3, 0), none, none, some (.iconst 0, 1, 0), some (.ireturn, 1, 1)]
set_option maxRecDepth 20000 in
def zk_X6_hasRoom : zCode := [some (.aload_n 0, 1, 0), some (.iload_n 1, 1, 0), some (.invokevirtual 68, 3, 63), none, none, some (.bipush 8, 2, 0), none, some (.if_icmp .ge 7, 3, 0), none, none, some (.iconst 1, 1, 0), some (.goto 4, 3, 0), none, none, some (.iconst 0, 1, 0), some (.ireturn, 1, 1)]
set_option maxRecDepth 20000 in
def zk_X6_recordStart : zCode := [some (.bipush 11, 2, 0), none, some (.iload_n 0, 1, 0), some (.bipush 8, 2, 0), none, some (.imul, 1, 0), some (.iload_n 1, 1, 0), some (.iadd, 1, 0), some (.bipush 24, 2, 0), none, some (.imul, 1, 0), some (.iadd, 1, 0), some (.ireturn, 1, 0)]
set_option maxRecDepth 20000 in
def zk_X6_isRecordPlace : zCode := [some (.iload_n 0, 1, 0), some (.ifCond .lt 22, 3, 0), none, none, some (.iload_n 0, 1, 0), some (.iconst 3, 1, 0), some (.if_icmp .ge 17, 3, 0), none, none, some (.iload_n 1, 1, 0), some (.ifCond .lt 13, 3, 0), none, none, some (.iload_n 1, 1, 0), some (.bipush 8, 2, 0), none, some (.if_icmp .ge 7, 3, 0), none, none, some (.iconst 1, 1, 0), some (.goto 4, 3, 0), none, none, some (.iconst 0, 1, 0), some (.ireturn, 1, 1)]
set_option maxRecDepth 20000 in
def zk_X6_blank : zCode := [some (.iload_n 1, 1, 0), some (.iload_n 2, 1, 0), some (.invokestatic 72, 3, 67), none, none, some (.ifCond .eq 43, 3, 0), none, none, some (.iload_n 1, 1, 0), some (.iload_n 2, 1, 0), some (.invokestatic 71, 3, 71), none, none, some (.istore_n 3, 1, 0), some (.iload_n 3, 1, 0), some (.istore 4, 2, 0), none, some (.iload 4, 2, 0), none, some (.iload_n 3, 1, 0), some (.bipush 24, 2, 0), none, some (.iadd, 1, 0), some (.if_icmp .ge 25, 3, 0), none, none, some (.iload 4, 2, 0), none, some (.sipush 587, 3, 0), none, none, some (.if_icmp .ge 17, 3, 0), none, none, some (.aload_n 0, 1, 0), some (.getfield 1026, 3, 13), none, none, some (.iload 4, 2, 0), none, some (.lconst 0, 1, 0), some (.lastore, 1, 0), some (.iinc 4 1, 3, 0), none, none, some (.goto (-28), 3, 0), none, none, some (.return_, 1, 0)]
set_option maxRecDepth 20000 in
def zk_X6_move : zCode := [some (.iload_n 1, 1, 0), some (.iload_n 2, 1, 0), some (.invokestatic 72, 3, 67), none, none, some (.ifCond .eq 34, 3, 0), none, none, some (.iload_n 1, 1, 0), some (.iload_n 3, 1, 0), some (.invokestatic 72, 3, 67), none, none, some (.ifCond .eq 26, 3, 0), none, none, some (.aload_n 0, 1, 0), some (.getfield 1026, 3, 13), none, none, some (.iload_n 1, 1, 0), some (.iload_n 2, 1, 0), some (.invokestatic 71, 3, 71), none, none, some (.aload_n 0, 1, 0), some (.getfield 1026, 3, 13), none, none, some (.iload_n 1, 1, 0), some (.iload_n 3, 1, 0), some (.invokestatic 71, 3, 71), none, none, some (.bipush 24, 2, 0), none, some (.invokestatic 900, 3, 48), none, none, some (.return_, 1, 0)]
set_option maxRecDepth 20000 in
def zk_X6_addBlank : zCode := [some (.aload_n 0, 1, 0), some (.iload_n 1, 1, 0), some (.invokevirtual 68, 3, 63), none, none, some (.istore_n 2, 1, 0), some (.iload_n 1, 1, 0), some (.iload_n 2, 1, 0), some (.invokestatic 72, 3, 67), none, none, some (.ifCond .ne 5, 3, 0), none, none, some (.iconst (-1), 1, 0), some (.ireturn, 1, 0), some (.aload_n 0, 1, 0), some (.iload_n 1, 1, 0), some (.iload_n 2, 1, 0), some (.invokevirtual 73, 3, 74), none, none, some (.aload_n 0, 1, 0), some (.getfield 1026, 3, 13), none, none, some (.iload_n 1, 1, 0), some (.dup2, 1, 0), some (.laload, 1, 0), some (.lconst 1, 1, 0), some (.ladd, 1, 0), some (.lastore, 1, 0), some (.iload_n 2, 1, 0), some (.ireturn, 1, 0)]
set_option maxRecDepth 20000 in
def zk_X6_addLike : zCode := [some (.aload_n 0, 1, 0), some (.iload_n 1, 1, 0), some (.invokevirtual 75, 3, 78), none, none, some (.istore_n 3, 1, 0), some (.aload_n 0, 1, 0), some (.iload_n 1, 1, 0), some (.iload_n 2, 1, 0), some (.iload_n 3, 1, 0), some (.invokevirtual 74, 3, 81), none, none, some (.iload_n 3, 1, 0), some (.ireturn, 1, 0)]
set_option maxRecDepth 20000 in
def zk_X6_remove : zCode := [some (.aload_n 0, 1, 0), some (.iload_n 1, 1, 0), some (.iload_n 2, 1, 0), some (.invokevirtual 69, 3, 85), none, none, some (.ifCond .ne 4, 3, 0), none, none, some (.return_, 1, 0), some (.aload_n 0, 1, 0), some (.iload_n 1, 1, 0), some (.invokevirtual 68, 3, 63), none, none, some (.iconst 1, 1, 0), some (.isub, 1, 0), some (.istore_n 3, 1, 0), some (.iload_n 2, 1, 0), some (.istore 4, 2, 0), none, some (.iload 4, 2, 0), none, some (.iload_n 3, 1, 0), some (.if_icmp .ge 20, 3, 0), none, none, some (.aload_n 0, 1, 0), some (.iload_n 1, 1, 0), some (.iload 4, 2, 0), none, some (.iconst 1, 1, 0), some (.iadd, 1, 0), some (.iload 4, 2, 0), none, some (.invokevirtual 74, 3, 81), none, none, some (.iinc 4 1, 3, 0), none, none, some (.goto (-20), 3, 0), none, none, some (.aload_n 0, 1, 0), some (.iload_n 1, 1, 0), some (.iload_n 3, 1, 0), some (.invokevirtual 73, 3, 74), none, none, some (.aload_n 0, 1, 0), some (.getfield 1026, 3, 13), none, none, some (.iload_n 1, 1, 0), some (.dup2, 1, 0), some (.laload, 1, 0), some (.lconst 1, 1, 0), some (.lsub, 1, 0), some (.lastore, 1, 0), some (.return_, 1, 0)]
set_option maxRecDepth 20000 in
def zk_X6_indexOf : zCode := [some (.aload_n 1, 1, 0), some (.iload_n 2, 1, 0), some (.invokevirtual 99, 3, 88), none, none, some (.ifCond .eq 7, 3, 0), none, none, some (.iload_n 3, 1, 0), some (.ifCond .ge 5, 3, 0), none, none, some (.iconst (-1), 1, 0), some (.ireturn, 1, 0), some (.aload_n 1, 1, 0), some (.getfield 1546, 3, 94), none, none, some (.iload_n 2, 1, 0), some (.iaload, 1, 0), some (.istore 4, 2, 0), none, some (.iload 4, 2, 0), none, some (.iconst 1, 1, 0), some (.if_icmp .lt 14, 3, 0), none, none, some (.iload_n 0, 1, 0), some (.iload_n 3, 1, 0), some (.iload 4, 2, 0), none, some (.idiv, 1, 0), some (.invokestatic 72, 3, 67), none, none, some (.ifCond .ne 5, 3, 0), none, none, some (.iconst (-1), 1, 0), some (.ireturn, 1, 0), some (.iload_n 0, 1, 0), some (.iload_n 3, 1, 0), some (.iload 4, 2, 0), none, some (.idiv, 1, 0), some (.invokestatic 71, 3, 71), none, none, some (.aload_n 1, 1, 0), some (.getfield 1550, 3, 98), none, none, some (.iload_n 2, 1, 0), some (.iaload, 1, 0), some (.iadd, 1, 0), some (.iload_n 3, 1, 0), some (.iload 4, 2, 0), none, some (.irem, 1, 0), some (.iadd, 1, 0), some (.ireturn, 1, 0)]
set_option maxRecDepth 20000 in
def zk_X6_rawAt : zCode := [some (.iload_n 1, 1, 0), some (.aload_n 2, 1, 0), some (.iload_n 3, 1, 0), some (.iload 4, 2, 0), none, some (.invokestatic 78, 3, 101), none, none, some (.istore 5, 2, 0), none, some (.iload 5, 2, 0), none, some (.ifCond .lt 21, 3, 0), none, none, some (.iload 5, 2, 0), none, some (.sipush 587, 3, 0), none, none, some (.if_icmp .ge 13, 3, 0), none, none, some (.aload_n 0, 1, 0), some (.getfield 1026, 3, 13), none, none, some (.iload 5, 2, 0), none, some (.laload, 1, 0), some (.goto 4, 3, 0), none, none, some (.lconst 0, 1, 0), some (.lreturn, 1, 0)]
set_option maxRecDepth 20000 in
def zk_X6_isEmptyAt : zCode := [some (.aload_n 2, 1, 0), some (.iload_n 3, 1, 0), some (.invokevirtual 101, 3, 105), none, none, some (.ifCond .eq 23, 3, 0), none, none, some (.aload_n 0, 1, 0), some (.iload_n 1, 1, 0), some (.aload_n 2, 1, 0), some (.iload_n 3, 1, 0), some (.iload 4, 2, 0), none, some (.invokevirtual 79, 3, 108), none, none, some (.ldc2_w 12, 3, 112), none, none, some (.lcmp, 1, 0), some (.ifCond .ne 7, 3, 0), none, none, some (.iconst 1, 1, 0), some (.goto 4, 3, 0), none, none, some (.iconst 0, 1, 0), some (.ireturn, 1, 1)]
set_option maxRecDepth 20000 in
def zk_X6_valueAt : zCode := [some (.aload_n 0, 1, 0), some (.iload_n 1, 1, 0), some (.aload_n 2, 1, 0), some (.iload_n 3, 1, 0), some (.iload 4, 2, 0), none, some (.invokevirtual 79, 3, 108), none, none, some (.lstore 5, 2, 0), none, some (.lload 5, 2, 0), none, some (.ldc2_w 12, 3, 112), none, none, some (.lcmp, 1, 0), some (.ifCond .ne 15, 3, 0), none, none, some (.aload_n 2, 1, 0), some (.iload_n 3, 1, 0), some (.invokevirtual 101, 3, 105), none, none, some (.ifCond .eq 7, 3, 0), none, none, some (.lconst 0, 1, 0), some (.goto 5, 3, 0), none, none, some (.lload 5, 2, 0), none, some (.lreturn, 1, 0)]
set_option maxRecDepth 20000 in
def zk_X6_setAt : zCode := [some (.iload_n 1, 1, 0), some (.aload_n 2, 1, 0), some (.iload_n 3, 1, 0), some (.iload 4, 2, 0), none, some (.invokestatic 78, 3, 101), none, none, some (.istore 7, 2, 0), none, some (.iload 7, 2, 0), none, some (.ifCond .lt 20, 3, 0), none, none, some (.iload 7, 2, 0), none, some (.sipush 587, 3, 0), none, none, some (.if_icmp .ge 12, 3, 0), none, none, some (.aload_n 0, 1, 0), some (.getfield 1026, 3, 13), none, none, some (.iload 7, 2, 0), none, some (.lload 5, 2, 0), none, some (.lastore, 1, 0), some (.return_, 1, 0)]
set_option maxRecDepth 20000 in
def zk_X6_thingKind : zCode := [some (.iload_n 1, 1, 0), some (.ifCond .lt 20, 3, 0), none, none, some (.iload_n 1, 1, 0), some (.iconst 4, 1, 0), some (.if_icmp .ge 15, 3, 0), none, none, some (.aload_n 0, 1, 0), some (.getfield 1026, 3, 13), none, none, some (.iconst 3, 1, 0), some (.iload_n 1, 1, 0), some (.iadd, 1, 0), some (.laload, 1, 0), some (.l2i, 1, 0), some (.goto 5, 3, 0), none, none, some (.bipush 10, 2, 0), none, some (.ireturn, 1, 0)]
set_option maxRecDepth 20000 in
def zk_X6_thingValue : zCode := [some (.iload_n 1, 1, 0), some (.ifCond .lt 20, 3, 0), none, none, some (.iload_n 1, 1, 0), some (.iconst 4, 1, 0), some (.if_icmp .ge 15, 3, 0), none, none, some (.aload_n 0, 1, 0), some (.getfield 1026, 3, 13), none, none, some (.bipush 7, 2, 0), none, some (.iload_n 1, 1, 0), some (.iadd, 1, 0), some (.laload, 1, 0), some (.goto 4, 3, 0), none, none, some (.lconst 0, 1, 0), some (.lreturn, 1, 0)]
set_option maxRecDepth 20000 in
def zk_X6_setThing : zCode := [some (.iload_n 1, 1, 0), some (.ifCond .lt 28, 3, 0), none, none, some (.iload_n 1, 1, 0), some (.iconst 4, 1, 0), some (.if_icmp .ge 23, 3, 0), none, none, some (.aload_n 0, 1, 0), some (.getfield 1026, 3, 13), none, none, some (.iconst 3, 1, 0), some (.iload_n 1, 1, 0), some (.iadd, 1, 0), some (.iload_n 2, 1, 0), some (.i2l, 1, 0), some (.lastore, 1, 0), some (.aload_n 0, 1, 0), some (.getfield 1026, 3, 13), none, none, some (.bipush 7, 2, 0), none, some (.iload_n 1, 1, 0), some (.iadd, 1, 0), some (.lload_n 3, 1, 0), some (.lastore, 1, 0), some (.return_, 1, 0)]
set_option maxRecDepth 20000 in
def zk_X6_takeValues : zCode := [some (.aload 4, 2, 0), none, some (.lconst 0, 1, 0), some (.invokestatic 317, 3, 25), none, none, some (.iconst 0, 1, 0), some (.istore 5, 2, 0), none, some (.iload 5, 2, 0), none, some (.aload_n 2, 1, 0), some (.getfield 1556, 3, 114), none, none, some (.if_icmp .ge 92, 3, 0), none, none, some (.aload_n 2, 1, 0), some (.iload 5, 2, 0), none, some (.invokevirtual 99, 3, 88), none, none, some (.ifCond .eq 13, 3, 0), none, none, some (.aload_n 2, 1, 0), some (.getfield 1546, 3, 94), none, none, some (.iload 5, 2, 0), none, some (.iaload, 1, 0), some (.goto 4, 3, 0), none, none, some (.iconst 0, 1, 0), some (.istore 6, 2, 0), none, some (.iconst 0, 1, 0), some (.istore 7, 2, 0), none, some (.iload 7, 2, 0), none, some (.iload 6, 2, 0), none, some (.if_icmp .ge 54, 3, 0), none, none, some (.aload_n 2, 1, 0), some (.getfield 1550, 3, 98), none, none, some (.iload 5, 2, 0), none, some (.iaload, 1, 0), some (.iload 7, 2, 0), none, some (.iadd, 1, 0), some (.istore 8, 2, 0), none, some (.iload 8, 2, 0), none, some (.ifCond .lt 31, 3, 0), none, none, some (.iload 8, 2, 0), none, some (.aload 4, 2, 0), none, some (.arraylength, 1, 0), some (.if_icmp .ge 23, 3, 0), none, none, some (.aload 4, 2, 0), none, some (.iload 8, 2, 0), none, some (.aload_n 0, 1, 0), some (.iload_n 1, 1, 0), some (.aload_n 2, 1, 0), some (.iload 5, 2, 0), none, some (.iload_n 3, 1, 0), some (.iload 6, 2, 0), none, some (.imul, 1, 0), some (.iload 7, 2, 0), none, some (.iadd, 1, 0), some (.invokevirtual 81, 3, 117), none, none, some (.lastore, 1, 0), some (.iinc 7 1, 3, 0), none, none, some (.goto (-55), 3, 0), none, none, some (.iinc 5 1, 3, 0), none, none, some (.goto (-95), 3, 0), none, none, some (.return_, 1, 0)]
set_option maxRecDepth 20000 in
def zk_X6_setValues : zCode := [some (.iload_n 1, 1, 0), some (.iload_n 2, 1, 0), some (.invokestatic 72, 3, 67), none, none, some (.ifCond .eq 26, 3, 0), none, none, some (.aload_n 3, 1, 0), some (.arraylength, 1, 0), some (.bipush 24, 2, 0), none, some (.if_icmp .lt 19, 3, 0), none, none, some (.aload_n 3, 1, 0), some (.iconst 0, 1, 0), some (.aload_n 0, 1, 0), some (.getfield 1026, 3, 13), none, none, some (.iload_n 1, 1, 0), some (.iload_n 2, 1, 0), some (.invokestatic 71, 3, 71), none, none, some (.bipush 24, 2, 0), none, some (.invokestatic 900, 3, 48), none, none, some (.return_, 1, 0)]
set_option maxRecDepth 20000 in
def zk_X6_mostAlike : zCode := [some (.iconst 0, 1, 0), some (.istore 4, 2, 0), none, some (.iconst 0, 1, 0), some (.istore 5, 2, 0), none, some (.iload 5, 2, 0), none, some (.aload_n 0, 1, 0), some (.iload_n 1, 1, 0), some (.invokevirtual 68, 3, 63), none, none, some (.if_icmp .ge 57, 3, 0), none, none, some (.iconst 0, 1, 0), some (.istore 6, 2, 0), none, some (.iconst 0, 1, 0), some (.istore 7, 2, 0), none, some (.iload 7, 2, 0), none, some (.aload_n 0, 1, 0), some (.iload_n 1, 1, 0), some (.invokevirtual 68, 3, 63), none, none, some (.if_icmp .ge 26, 3, 0), none, none, some (.aload_n 0, 1, 0), some (.iload_n 1, 1, 0), some (.aload_n 2, 1, 0), some (.iload_n 3, 1, 0), some (.iload 5, 2, 0), none, some (.iload 7, 2, 0), none, some (.invokevirtual 89, 3, 120), none, none, some (.ifCond .eq 6, 3, 0), none, none, some (.iinc 6 1, 3, 0), none, none, some (.iinc 7 1, 3, 0), none, none, some (.goto (-30), 3, 0), none, none, some (.iload 4, 2, 0), none, some (.iload 6, 2, 0), none, some (.invokestatic 315, 3, 124), none, none, some (.istore 4, 2, 0), none, some (.iinc 5 1, 3, 0), none, none, some (.goto (-61), 3, 0), none, none, some (.iload 4, 2, 0), none, some (.ireturn, 1, 0)]
set_option maxRecDepth 20000 in
def zk_X6_areAlike : zCode := [some (.aload_n 2, 1, 0), some (.iload_n 3, 1, 0), some (.invokevirtual 99, 3, 88), none, none, some (.ifCond .eq 12, 3, 0), none, none, some (.aload_n 2, 1, 0), some (.getfield 1546, 3, 94), none, none, some (.iload_n 3, 1, 0), some (.iaload, 1, 0), some (.goto 4, 3, 0), none, none, some (.iconst 0, 1, 0), some (.istore 6, 2, 0), none, some (.iconst 0, 1, 0), some (.istore 7, 2, 0), none, some (.iload 7, 2, 0), none, some (.iload 6, 2, 0), none, some (.if_icmp .ge 49, 3, 0), none, none, some (.aload_n 0, 1, 0), some (.iload_n 1, 1, 0), some (.aload_n 2, 1, 0), some (.iload_n 3, 1, 0), some (.iload 4, 2, 0), none, some (.iload 6, 2, 0), none, some (.imul, 1, 0), some (.iload 7, 2, 0), none, some (.iadd, 1, 0), some (.invokevirtual 81, 3, 117), none, none, some (.lstore 8, 2, 0), none, some (.lload 8, 2, 0), none, some (.aload_n 0, 1, 0), some (.iload_n 1, 1, 0), some (.aload_n 2, 1, 0), some (.iload_n 3, 1, 0), some (.iload 5, 2, 0), none, some (.iload 6, 2, 0), none, some (.imul, 1, 0), some (.iload 7, 2, 0), none, some (.iadd, 1, 0), some (.invokevirtual 81, 3, 117), none, none, some (.lcmp, 1, 0), some (.ifCond .eq 5, 3, 0), none, none, some (.iconst 0, 1, 0), some (.ireturn, 1, 1), some (.iinc 7 1, 3, 0), none, none, some (.goto (-50), 3, 0), none, none, some (.iconst 1, 1, 0), some (.ireturn, 1, 1)]
set_option maxRecDepth 20000 in
def zk_X7_init : zCode := [some (.aload_n 0, 1, 0), some (.invokespecial 907, 3, 1), none, none, some (.return_, 1, 0)]
set_option maxRecDepth 20000 in
def zk_X7_set : zCode := [some (.aload_n 0, 1, 0), some (.iload_n 1, 1, 0), some (.putfield 1280, 3, 7), none, none, some (.aload_n 0, 1, 0), some (.iload_n 2, 1, 0), some (.putfield 1284, 3, 13), none, none, some (.aload_n 0, 1, 0), some (.iload_n 3, 1, 0), some (.putfield 1288, 3, 16), none, none, some (.aload_n 0, 1, 0), some (.iload 4, 2, 0), none, some (.putfield 1292, 3, 19), none, none, some (.return_, 1, 0)]
set_option maxRecDepth 20000 in
def zk_X7_settle : zCode := [some (.aload_n 0, 1, 0), some (.invokevirtual 93, 3, 22), none, none, some (.istore_n 3, 1, 0), some (.aload_n 0, 1, 0), some (.aload_n 2, 1, 0), some (.aload_n 0, 1, 0), some (.getfield 1280, 3, 7), none, none, some (.invokevirtual 99, 3, 26), none, none, some (.ifCond .eq 15, 3, 0), none, none, some (.aload_n 2, 1, 0), some (.getfield 1546, 3, 32), none, none, some (.aload_n 0, 1, 0), some (.getfield 1280, 3, 7), none, none, some (.iaload, 1, 0), some (.goto 4, 3, 0), none, none, some (.iconst 0, 1, 0), some (.putfield 1300, 3, 36), none, none, some (.aload_n 0, 1, 0), some (.aload_n 0, 1, 0), some (.getfield 1284, 3, 13), none, none, some (.iconst 4, 1, 0), some (.if_icmp .ne 7, 3, 0), none, none, some (.iconst 4, 1, 0), some (.goto 4, 3, 0), none, none, some (.iconst 5, 1, 0), some (.putfield 1296, 3, 40), none, none, some (.iconst 0, 1, 0), some (.istore 4, 2, 0), none, some (.iload 4, 2, 0), none, some (.aload_n 1, 1, 0), some (.getfield 1556, 3, 43), none, none, some (.if_icmp .ge 71, 3, 0), none, none, some (.iload_n 3, 1, 0), some (.iload 4, 2, 0), none, some (.ishr, 1, 0), some (.iconst 1, 1, 0), some (.iand, 1, 0), some (.ifCond .eq 56, 3, 0), none, none, some (.aload_n 1, 1, 0), some (.iload 4, 2, 0), none, some (.invokevirtual 99, 3, 26), none, none, some (.ifCond .eq 47, 3, 0), none, none, some (.aload_n 0, 1, 0), some (.aload_n 0, 1, 0), some (.getfield 1300, 3, 36), none, none, some (.aload_n 1, 1, 0), some (.getfield 1546, 3, 32), none, none, some (.iload 4, 2, 0), none, some (.iaload, 1, 0), some (.invokestatic 316, 3, 46), none, none, some (.putfield 1300, 3, 36), none, none, some (.aload_n 0, 1, 0), some (.aload_n 1, 1, 0), some (.getfield 1542, 3, 52), none, none, some (.iload 4, 2, 0), none, some (.iaload, 1, 0), some (.invokestatic 34, 3, 55), none, none, some (.ifCond .eq 8, 3, 0), none, none, some (.bipush 7, 2, 0), none, some (.goto 7, 3, 0), none, none, some (.aload_n 0, 1, 0), some (.getfield 1296, 3, 40), none, none, some (.putfield 1296, 3, 40), none, none, some (.iinc 4 1, 3, 0), none, none, some (.goto (-74), 3, 0), none, none, some (.aload_n 0, 1, 0), some (.getfield 1284, 3, 13), none, none, some (.ifCond .ne 27, 3, 0), none, none, some (.aload_n 1, 1, 0), some (.aload_n 0, 1, 0), some (.getfield 1288, 3, 16), none, none, some (.invokevirtual 99, 3, 26), none, none, some (.ifCond .eq 16, 3, 0), none, none, some (.aload_n 0, 1, 0), some (.aload_n 1, 1, 0), some (.getfield 1542, 3, 52), none, none, some (.aload_n 0, 1, 0), some (.getfield 1288, 3, 16), none, none, some (.iaload, 1, 0), some (.putfield 1296, 3, 40), none, none, some (.aload_n 0, 1, 0), some (.aload_n 2, 1, 0), some (.aload_n 0, 1, 0), some (.getfield 1280, 3, 7), none, none, some (.invokevirtual 99, 3, 26), none, none, some (.ifCond .eq 26, 3, 0), none, none, some (.aload_n 0, 1, 0), some (.getfield 1296, 3, 40), none, none, some (.aload_n 2, 1, 0), some (.getfield 1542, 3, 52), none, none, some (.aload_n 0, 1, 0), some (.getfield 1280, 3, 7), none, none, some (.iaload, 1, 0), some (.invokestatic 35, 3, 58), none, none, some (.ifCond .eq 7, 3, 0), none, none, some (.iconst 1, 1, 0), some (.goto 4, 3, 0), none, none, some (.iconst 0, 1, 0), some (.putfield 1311, 3, 62), none, none, some (.aload_n 0, 1, 0), some (.iconst 0, 1, 0), some (.putfield 1304, 3, 66), none, none, some (.iconst 0, 1, 0), some (.istore 4, 2, 0), none, some (.iload 4, 2, 0), none, some (.aload_n 1, 1, 0), some (.getfield 1556, 3, 43), none, none, some (.if_icmp .ge 52, 3, 0), none, none, some (.iload_n 3, 1, 0), some (.iload 4, 2, 0), none, some (.ishr, 1, 0), some (.iconst 1, 1, 0), some (.iand, 1, 0), some (.ifCond .eq 37, 3, 0), none, none, some (.aload_n 1, 1, 0), some (.iload 4, 2, 0), none, some (.invokevirtual 99, 3, 26), none, none, some (.ifCond .eq 28, 3, 0), none, none, some (.aload_n 0, 1, 0), some (.dup, 1, 0), some (.getfield 1304, 3, 66), none, none, some (.iconst 1, 1, 0), some (.aload_n 0, 1, 0), some (.getfield 1300, 3, 36), none, none, some (.ishl, 1, 0), some (.iconst 1, 1, 0), some (.isub, 1, 0), some (.aload_n 1, 1, 0), some (.getfield 1550, 3, 69), none, none, some (.iload 4, 2, 0), none, some (.iaload, 1, 0), some (.ishl, 1, 0), some (.ior, 1, 0), some (.putfield 1304, 3, 66), none, none, some (.iinc 4 1, 3, 0), none, none, some (.goto (-55), 3, 0), none, none, some (.return_, 1, 0)]
set_option maxRecDepth 20000 in
def zk_X7_fieldsRead : zCode := [some (.aload_n 0, 1, 0), some (.getfield 1284, 3, 13), none, none, some (.iconst 4, 1, 0), some (.if_icmp .ne 5, 3, 0), none, none, some (.iconst 0, 1, 0), some (.ireturn, 1, 0), some (.aload_n 0, 1, 0), some (.getfield 1284, 3, 13), none, none, some (.iconst 3, 1, 0), some (.if_icmp .ne 19, 3, 0), none, none, some (.iconst 1, 1, 0), some (.aload_n 0, 1, 0), some (.getfield 1288, 3, 16), none, none, some (.ishl, 1, 0), some (.iconst 1, 1, 0), some (.aload_n 0, 1, 0), some (.getfield 1292, 3, 19), none, none, some (.ishl, 1, 0), some (.ior, 1, 0), some (.goto 9, 3, 0), none, none, some (.iconst 1, 1, 0), some (.aload_n 0, 1, 0), some (.getfield 1288, 3, 16), none, none, some (.ishl, 1, 0), some (.ireturn, 1, 0)]
set_option maxRecDepth 20000 in
def zk_X7_isAlone : zCode := [some (.aload_n 0, 1, 0), some (.getfield 1284, 3, 13), none, none, some (.ifCond .ne 23, 3, 0), none, none, some (.aload_n 0, 1, 0), some (.getfield 1288, 3, 16), none, none, some (.iload_n 1, 1, 0), some (.if_icmp .ne 15, 3, 0), none, none, some (.aload_n 0, 1, 0), some (.getfield 1280, 3, 7), none, none, some (.iload_n 2, 1, 0), some (.if_icmp .ne 7, 3, 0), none, none, some (.iconst 1, 1, 0), some (.goto 4, 3, 0), none, none, some (.iconst 0, 1, 0), some (.ireturn, 1, 1)]
set_option maxRecDepth 20000 in
def zk_X8_init : zCode := [some (.aload_n 0, 1, 0), some (.invokespecial 907, 3, 3), none, none, some (.aload_n 0, 1, 0), some (.bipush 6, 2, 0), none, some (.newarray .int, 2, 0), none, some (.putfield 1538, 3, 11), none, none, some (.aload_n 0, 1, 0), some (.bipush 6, 2, 0), none, some (.newarray .int, 2, 0), none, some (.putfield 1542, 3, 15), none, none, some (.aload_n 0, 1, 0), some (.bipush 6, 2, 0), none, some (.newarray .int, 2, 0), none, some (.putfield 1546, 3, 18), none, none, some (.aload_n 0, 1, 0), some (.bipush 6, 2, 0), none, some (.newarray .int, 2, 0), none, some (.putfield 1550, 3, 21), none, none, some (.return_, 1, 0)]
set_option maxRecDepth 20000 in
def zk_X8_begin : zCode := [some (.aload_n 0, 1, 0), some (.iload_n 1, 1, 0), some (.putfield 1552, 3, 24), none, none, some (.aload_n 0, 1, 0), some (.iconst 0, 1, 0), some (.putfield 1556, 3, 28), none, none, some (.aload_n 0, 1, 0), some (.iconst 0, 1, 0), some (.putfield 1560, 3, 31), none, none, some (.return_, 1, 0)]
set_option maxRecDepth 20000 in
def zk_X8_addField : zCode := [some (.aload_n 0, 1, 0), some (.getfield 1556, 3, 28), none, none, some (.ifCond .lt 75, 3, 0), none, none, some (.aload_n 0, 1, 0), some (.getfield 1556, 3, 28), none, none, some (.bipush 6, 2, 0), none, some (.if_icmp .ge 66, 3, 0), none, none, some (.aload_n 0, 1, 0), some (.getfield 1538, 3, 11), none, none, some (.aload_n 0, 1, 0), some (.getfield 1556, 3, 28), none, none, some (.iload_n 1, 1, 0), some (.iastore, 1, 0), some (.aload_n 0, 1, 0), some (.getfield 1542, 3, 15), none, none, some (.aload_n 0, 1, 0), some (.getfield 1556, 3, 28), none, none, some (.iload_n 2, 1, 0), some (.iastore, 1, 0), some (.aload_n 0, 1, 0), some (.getfield 1546, 3, 18), none, none, some (.aload_n 0, 1, 0), some (.getfield 1556, 3, 28), none, none, some (.iconst 1, 1, 0), some (.iastore, 1, 0), some (.aload_n 0, 1, 0), some (.getfield 1550, 3, 21), none, none, some (.aload_n 0, 1, 0), some (.getfield 1556, 3, 28), none, none, some (.aload_n 0, 1, 0), some (.getfield 1560, 3, 31), none, none, some (.iastore, 1, 0), some (.aload_n 0, 1, 0), some (.dup, 1, 0), some (.getfield 1556, 3, 28), none, none, some (.iconst 1, 1, 0), some (.iadd, 1, 0), some (.putfield 1556, 3, 28), none, none, some (.aload_n 0, 1, 0), some (.dup, 1, 0), some (.getfield 1560, 3, 31), none, none, some (.iconst 1, 1, 0), some (.iadd, 1, 0), some (.putfield 1560, 3, 31), none, none, some (.return_, 1, 0)]
set_option maxRecDepth 20000 in
def zk_X8_repeatLast : zCode := [some (.aload_n 0, 1, 0), some (.aload_n 0, 1, 0), some (.getfield 1556, 3, 28), none, none, some (.iconst 1, 1, 0), some (.isub, 1, 0), some (.invokevirtual 99, 3, 34), none, none, some (.ifCond .eq 32, 3, 0), none, none, some (.aload_n 0, 1, 0), some (.getfield 1546, 3, 18), none, none, some (.aload_n 0, 1, 0), some (.getfield 1556, 3, 28), none, none, some (.iconst 1, 1, 0), some (.isub, 1, 0), some (.iload_n 1, 1, 0), some (.iastore, 1, 0), some (.aload_n 0, 1, 0), some (.aload_n 0, 1, 0), some (.getfield 1550, 3, 21), none, none, some (.aload_n 0, 1, 0), some (.getfield 1556, 3, 28), none, none, some (.iconst 1, 1, 0), some (.isub, 1, 0), some (.iaload, 1, 0), some (.iload_n 1, 1, 0), some (.iadd, 1, 0), some (.putfield 1560, 3, 31), none, none, some (.return_, 1, 0)]
set_option maxRecDepth 20000 in
def zk_X8_hasField : zCode := [some (.iload_n 1, 1, 0), some (.ifCond .lt 21, 3, 0), none, none, some (.iload_n 1, 1, 0), some (.aload_n 0, 1, 0), some (.getfield 1556, 3, 28), none, none, some (.if_icmp .ge 13, 3, 0), none, none, some (.iload_n 1, 1, 0), some (.bipush 6, 2, 0), none, some (.if_icmp .ge 7, 3, 0), none, none, some (.iconst 1, 1, 0), some (.goto 4, 3, 0), none, none, some (.iconst 0, 1, 0), some (.ireturn, 1, 1)]
set_option maxRecDepth 20000 in
def zk_X8_kindOf : zCode := [some (.aload_n 0, 1, 0), some (.iload_n 1, 1, 0), some (.invokevirtual 99, 3, 34), none, none, some (.ifCond .eq 12, 3, 0), none, none, some (.aload_n 0, 1, 0), some (.getfield 1542, 3, 15), none, none, some (.iload_n 1, 1, 0), some (.iaload, 1, 0), some (.goto 4, 3, 0), none, none, some (.iconst (-1), 1, 0), some (.ireturn, 1, 0)]
set_option maxRecDepth 20000 in
def zk_X8_hasWords : zCode := [some (.aload_n 0, 1, 0), some (.iload_n 1, 1, 0), some (.invokevirtual 100, 3, 38), none, none, some (.bipush 8, 2, 0), none, some (.if_icmp .ne 7, 3, 0), none, none, some (.iconst 1, 1, 0), some (.goto 4, 3, 0), none, none, some (.iconst 0, 1, 0), some (.ireturn, 1, 1)]
set_option maxRecDepth 20000 in
def zk_X8_fieldOfName : zCode := [some (.iconst 0, 1, 0), some (.istore_n 2, 1, 0), some (.iload_n 2, 1, 0), some (.aload_n 0, 1, 0), some (.getfield 1556, 3, 28), none, none, some (.if_icmp .ge 27, 3, 0), none, none, some (.iload_n 2, 1, 0), some (.bipush 6, 2, 0), none, some (.if_icmp .ge 21, 3, 0), none, none, some (.aload_n 0, 1, 0), some (.getfield 1538, 3, 11), none, none, some (.iload_n 2, 1, 0), some (.iaload, 1, 0), some (.iload_n 1, 1, 0), some (.if_icmp .ne 5, 3, 0), none, none, some (.iload_n 2, 1, 0), some (.ireturn, 1, 0), some (.iinc 2 1, 3, 0), none, none, some (.goto (-29), 3, 0), none, none, some (.iconst (-1), 1, 0), some (.ireturn, 1, 0)]
set_option maxRecDepth 20000 in
def zk_X9_init : zCode := [some (.aload_n 0, 1, 0), some (.invokespecial 907, 3, 1), none, none, some (.aload_n 0, 1, 0), some (.sipush 1600, 3, 0), none, none, some (.newarray .int, 2, 0), none, some (.putfield 1794, 3, 9), none, none, some (.return_, 1, 0)]
set_option maxRecDepth 20000 in
def zk_X9_takes : zCode := [some (.aload_n 0, 1, 0), some (.getfield 1796, 3, 13), none, none, some (.iload_n 1, 1, 0), some (.iadd, 1, 0), some (.sipush 1600, 3, 0), none, none, some (.if_icmp .gt 7, 3, 0), none, none, some (.iconst 1, 1, 0), some (.goto 4, 3, 0), none, none, some (.iconst 0, 1, 0), some (.ireturn, 1, 1)]
set_option maxRecDepth 20000 in
def zk_X9_addNumber : zCode := [some (.bipush 24, 2, 0), none, some (.istore_n 2, 1, 0), some (.iload_n 2, 1, 0), some (.ifCond .lt 52, 3, 0), none, none, some (.aload_n 0, 1, 0), some (.getfield 1796, 3, 13), none, none, some (.ifCond .lt 39, 3, 0), none, none, some (.aload_n 0, 1, 0), some (.getfield 1796, 3, 13), none, none, some (.sipush 1600, 3, 0), none, none, some (.if_icmp .ge 29, 3, 0), none, none, some (.aload_n 0, 1, 0), some (.getfield 1794, 3, 9), none, none, some (.aload_n 0, 1, 0), some (.getfield 1796, 3, 13), none, none, some (.iload_n 1, 1, 0), some (.iload_n 2, 1, 0), some (.iushr, 1, 0), some (.sipush 255, 3, 0), none, none, some (.iand, 1, 0), some (.iastore, 1, 0), some (.aload_n 0, 1, 0), some (.dup, 1, 0), some (.getfield 1796, 3, 13), none, none, some (.iconst 1, 1, 0), some (.iadd, 1, 0), some (.putfield 1796, 3, 13), none, none, some (.iinc 2 (-8), 3, 0), none, none, some (.goto (-50), 3, 0), none, none, some (.return_, 1, 0)]
set_option maxRecDepth 20000 in
def zk_X9_byteAt : zCode := [some (.iload_n 1, 1, 0), some (.ifCond .lt 27, 3, 0), none, none, some (.iload_n 1, 1, 0), some (.aload_n 0, 1, 0), some (.getfield 1796, 3, 13), none, none, some (.if_icmp .ge 19, 3, 0), none, none, some (.iload_n 1, 1, 0), some (.sipush 1600, 3, 0), none, none, some (.if_icmp .ge 12, 3, 0), none, none, some (.aload_n 0, 1, 0), some (.getfield 1794, 3, 9), none, none, some (.iload_n 1, 1, 0), some (.iaload, 1, 0), some (.goto 4, 3, 0), none, none, some (.iconst (-1), 1, 0), some (.ireturn, 1, 0)]
set_option maxRecDepth 20000 in
def zk_X9_isLetter : zCode := [some (.aload_n 0, 1, 0), some (.iload_n 1, 1, 0), some (.invokevirtual 106, 3, 17), none, none, some (.istore_n 2, 1, 0), some (.iload_n 2, 1, 0), some (.bipush 97, 2, 0), none, some (.if_icmp .lt 13, 3, 0), none, none, some (.iload_n 2, 1, 0), some (.bipush 122, 2, 0), none, some (.if_icmp .gt 7, 3, 0), none, none, some (.iconst 1, 1, 0), some (.goto 4, 3, 0), none, none, some (.iconst 0, 1, 0), some (.ireturn, 1, 1)]
set_option maxRecDepth 20000 in
def zk_X9_isDigit : zCode := [some (.aload_n 0, 1, 0), some (.iload_n 1, 1, 0), some (.invokevirtual 106, 3, 17), none, none, some (.istore_n 2, 1, 0), some (.iload_n 2, 1, 0), some (.bipush 48, 2, 0), none, some (.if_icmp .lt 13, 3, 0), none, none, some (.iload_n 2, 1, 0), some (.bipush 57, 2, 0), none, some (.if_icmp .gt 7, 3, 0), none, none, some (.iconst 1, 1, 0), some (.goto 4, 3, 0), none, none, some (.iconst 0, 1, 0), some (.ireturn, 1, 1)]
set_option maxRecDepth 20000 in
def zk_X9_isBlank : zCode := [some (.aload_n 0, 1, 0), some (.iload_n 1, 1, 0), some (.invokevirtual 106, 3, 17), none, none, some (.istore_n 2, 1, 0), some (.iload_n 2, 1, 0), some (.bipush 10, 2, 0), none, some (.if_icmp .eq 9, 3, 0), none, none, some (.iload_n 2, 1, 0), some (.bipush 32, 2, 0), none, some (.if_icmp .ne 7, 3, 0), none, none, some (.iconst 1, 1, 0), some (.goto 4, 3, 0), none, none, some (.iconst 0, 1, 0), some (.ireturn, 1, 1)]
set_option maxRecDepth 20000 in
def zk_X9_lettersFrom : zCode := [some (.iconst 0, 1, 0), some (.istore_n 2, 1, 0), some (.iload_n 2, 1, 0), some (.sipush 1600, 3, 0), none, none, some (.if_icmp .ge 19, 3, 0), none, none, some (.aload_n 0, 1, 0), some (.iload_n 1, 1, 0), some (.iload_n 2, 1, 0), some (.iadd, 1, 0), some (.invokevirtual 107, 3, 21), none, none, some (.ifCond .eq 9, 3, 0), none, none, some (.iinc 2 1, 3, 0), none, none, some (.goto (-20), 3, 0), none, none, some (.iload_n 2, 1, 0), some (.ireturn, 1, 0)]
set_option maxRecDepth 20000 in
def zk_X9_digitsFrom : zCode := [some (.iconst 0, 1, 0), some (.istore_n 2, 1, 0), some (.iload_n 2, 1, 0), some (.sipush 1600, 3, 0), none, none, some (.if_icmp .ge 19, 3, 0), none, none, some (.aload_n 0, 1, 0), some (.iload_n 1, 1, 0), some (.iload_n 2, 1, 0), some (.iadd, 1, 0), some (.invokevirtual 108, 3, 25), none, none, some (.ifCond .eq 9, 3, 0), none, none, some (.iinc 2 1, 3, 0), none, none, some (.goto (-20), 3, 0), none, none, some (.iload_n 2, 1, 0), some (.ireturn, 1, 0)]
set_option maxRecDepth 20000 in
def zk_X9_numberFrom : zCode := [some (.iconst 0, 1, 0), some (.istore_n 3, 1, 0), some (.iconst 0, 1, 0), some (.istore 4, 2, 0), none, some (.iload 4, 2, 0), none, some (.iload_n 2, 1, 0), some (.if_icmp .ge 37, 3, 0), none, none, some (.aload_n 0, 1, 0), some (.iload_n 1, 1, 0), some (.iload 4, 2, 0), none, some (.iadd, 1, 0), some (.invokevirtual 108, 3, 25), none, none, some (.ifCond .eq 26, 3, 0), none, none, some (.bipush 10, 2, 0), none, some (.iload_n 3, 1, 0), some (.imul, 1, 0), some (.aload_n 0, 1, 0), some (.iload_n 1, 1, 0), some (.iload 4, 2, 0), none, some (.iadd, 1, 0), some (.invokevirtual 106, 3, 17), none, none, some (.iadd, 1, 0), some (.bipush 48, 2, 0), none, some (.isub, 1, 0), some (.istore_n 3, 1, 0), some (.iinc 4 1, 3, 0), none, none, some (.goto (-37), 3, 0), none, none, some (.iload_n 3, 1, 0), some (.ireturn, 1, 0)]
set_option maxRecDepth 20000 in
def zk_X9_nameFrom : zCode := [some (.iconst 0, 1, 0), some (.istore_n 2, 1, 0), some (.iconst 0, 1, 0), some (.istore_n 3, 1, 0), some (.iload_n 3, 1, 0), some (.bipush 6, 2, 0), none, some (.if_icmp .ge 37, 3, 0), none, none, some (.aload_n 0, 1, 0), some (.iload_n 1, 1, 0), some (.iload_n 3, 1, 0), some (.iadd, 1, 0), some (.invokevirtual 107, 3, 21), none, none, some (.ifCond .eq 27, 3, 0), none, none, some (.iload_n 2, 1, 0), some (.iload_n 3, 1, 0), some (.aload_n 0, 1, 0), some (.iload_n 1, 1, 0), some (.iload_n 3, 1, 0), some (.iadd, 1, 0), some (.invokevirtual 106, 3, 17), none, none, some (.bipush 97, 2, 0), none, some (.isub, 1, 0), some (.iconst 1, 1, 0), some (.iadd, 1, 0), some (.invokestatic 115, 3, 28), none, none, some (.istore_n 2, 1, 0), some (.iinc 3 1, 3, 0), none, none, some (.goto (-37), 3, 0), none, none, some (.iload_n 2, 1, 0), some (.ireturn, 1, 0)]
set_option maxRecDepth 20000 in
def zk_X9_wholeName : zCode := [some (.aload_n 0, 1, 0), some (.getfield 1796, 3, 13), none, none, some (.bipush 6, 2, 0), none, some (.if_icmp .gt 23, 3, 0), none, none, some (.aload_n 0, 1, 0), some (.iconst 0, 1, 0), some (.invokevirtual 110, 3, 32), none, none, some (.aload_n 0, 1, 0), some (.getfield 1796, 3, 13), none, none, some (.if_icmp .ne 11, 3, 0), none, none, some (.aload_n 0, 1, 0), some (.iconst 0, 1, 0), some (.invokevirtual 113, 3, 35), none, none, some (.goto 4, 3, 0), none, none, some (.iconst 0, 1, 0), some (.ireturn, 1, 0)]
set_option maxRecDepth 20000 in
def zk_X9_withLetter : zCode := [some (.iload_n 0, 1, 0), some (.iload_n 2, 1, 0), some (.iconst 5, 1, 0), some (.iconst 5, 1, 0), some (.iload_n 1, 1, 0), some (.isub, 1, 0), some (.imul, 1, 0), some (.ishl, 1, 0), some (.ior, 1, 0), some (.ireturn, 1, 0)]
set_option maxRecDepth 20000 in
def zk_X9_letterOf : zCode := [some (.iload_n 0, 1, 0), some (.iconst 5, 1, 0), some (.iconst 5, 1, 0), some (.iload_n 1, 1, 0), some (.isub, 1, 0), some (.imul, 1, 0), some (.ishr, 1, 0), some (.bipush 31, 2, 0), none, some (.iand, 1, 0), some (.ireturn, 1, 0)]
set_option maxRecDepth 20000 in
def zk_X10_init : zCode := [some (.aload_n 0, 1, 0), some (.invokespecial 907, 3, 3), none, none, some (.aload_n 0, 1, 0), some (.iconst 3, 1, 0), some (.newarray .int, 2, 0), none, some (.putfield 2050, 3, 11), none, none, some (.aload_n 0, 1, 0), some (.iconst 3, 1, 0), some (.newarray .int, 2, 0), none, some (.putfield 2054, 3, 15), none, none, some (.aload_n 0, 1, 0), some (.bipush 24, 2, 0), none, some (.newarray .long, 2, 0), none, some (.putfield 2058, 3, 20), none, none, some (.aload_n 0, 1, 0), some (.bipush 24, 2, 0), none, some (.newarray .long, 2, 0), none, some (.putfield 2062, 3, 24), none, none, some (.return_, 1, 0)]
set_option maxRecDepth 20000 in
def zk_X10_stepAt : zCode := [some (.iload_n 1, 1, 0), some (.ifCond .lt 25, 3, 0), none, none, some (.iload_n 1, 1, 0), some (.aload_n 0, 1, 0), some (.getfield 2064, 3, 27), none, none, some (.if_icmp .ge 17, 3, 0), none, none, some (.iload_n 1, 1, 0), some (.iconst 3, 1, 0), some (.if_icmp .ge 12, 3, 0), none, none, some (.aload_n 0, 1, 0), some (.getfield 2054, 3, 15), none, none, some (.iload_n 1, 1, 0), some (.iaload, 1, 0), some (.goto 4, 3, 0), none, none, some (.iconst (-1), 1, 0), some (.ireturn, 1, 0)]
set_option maxRecDepth 20000 in
def zk_X10_findShortest : zCode := [some (.aload_n 0, 1, 0), some (.iconst 0, 1, 0), some (.putfield 2064, 3, 27), none, none, some (.iconst 1, 1, 0), some (.istore 4, 2, 0), none, some (.iload 4, 2, 0), none, some (.iconst 3, 1, 0), some (.if_icmp .gt 63, 3, 0), none, none, some (.aload_n 0, 1, 0), some (.getfield 2064, 3, 27), none, none, some (.ifCond .ne 56, 3, 0), none, none, some (.iconst 0, 1, 0), some (.istore 5, 2, 0), none, some (.iload 5, 2, 0), none, some (.iconst 1, 1, 0), some (.iconst 2, 1, 0), some (.iload 4, 2, 0), none, some (.imul, 1, 0), some (.ishl, 1, 0), some (.if_icmp .ge 36, 3, 0), none, none, some (.aload_n 0, 1, 0), some (.getfield 2064, 3, 27), none, none, some (.ifCond .ne 29, 3, 0), none, none, some (.aload_n 0, 1, 0), some (.aload_n 1, 1, 0), some (.iload_n 2, 1, 0), some (.iload_n 3, 1, 0), some (.iload 4, 2, 0), none, some (.iload 5, 2, 0), none, some (.invokevirtual 122, 3, 31), none, none, some (.ifCond .eq 9, 3, 0), none, none, some (.aload_n 0, 1, 0), some (.iload 4, 2, 0), none, some (.invokevirtual 121, 3, 35), none, none, some (.iinc 5 1, 3, 0), none, none, some (.goto (-41), 3, 0), none, none, some (.iinc 4 1, 3, 0), none, none, some (.goto (-63), 3, 0), none, none, some (.aload_n 0, 1, 0), some (.getfield 2064, 3, 27), none, none, some (.ifCond .le 7, 3, 0), none, none, some (.iconst 1, 1, 0), some (.goto 4, 3, 0), none, none, some (.iconst 0, 1, 0), some (.ireturn, 1, 1)]
set_option maxRecDepth 20000 in
def zk_X10_findLeast : zCode := [some (.aload_n 0, 1, 0), some (.iconst 0, 1, 0), some (.putfield 2064, 3, 27), none, none, some (.iconst 1, 1, 0), some (.istore 6, 2, 0), none, some (.iload 6, 2, 0), none, some (.iconst 3, 1, 0), some (.if_icmp .gt 84, 3, 0), none, none, some (.iconst 0, 1, 0), some (.istore 7, 2, 0), none, some (.iload 7, 2, 0), none, some (.iconst 1, 1, 0), some (.iconst 2, 1, 0), some (.iload 6, 2, 0), none, some (.imul, 1, 0), some (.ishl, 1, 0), some (.if_icmp .ge 64, 3, 0), none, none, some (.aload_n 0, 1, 0), some (.aload_n 1, 1, 0), some (.iload_n 2, 1, 0), some (.iload_n 3, 1, 0), some (.iload 6, 2, 0), none, some (.iload 7, 2, 0), none, some (.invokevirtual 122, 3, 31), none, none, some (.ifCond .eq 44, 3, 0), none, none, some (.aload_n 0, 1, 0), some (.aload_n 1, 1, 0), some (.iload 6, 2, 0), none, some (.aload 4, 2, 0), none, some (.aload 5, 2, 0), none, some (.invokevirtual 123, 3, 39), none, none, some (.istore 8, 2, 0), none, some (.aload_n 0, 1, 0), some (.getfield 2064, 3, 27), none, none, some (.ifCond .eq 12, 3, 0), none, none, some (.iload 8, 2, 0), none, some (.aload_n 0, 1, 0), some (.getfield 2068, 3, 43), none, none, some (.if_icmp .ge 15, 3, 0), none, none, some (.aload_n 0, 1, 0), some (.iload 8, 2, 0), none, some (.putfield 2068, 3, 43), none, none, some (.aload_n 0, 1, 0), some (.iload 6, 2, 0), none, some (.invokevirtual 121, 3, 35), none, none, some (.iinc 7 1, 3, 0), none, none, some (.goto (-69), 3, 0), none, none, some (.iinc 6 1, 3, 0), none, none, some (.goto (-84), 3, 0), none, none, some (.aload_n 0, 1, 0), some (.getfield 2064, 3, 27), none, none, some (.ifCond .le 7, 3, 0), none, none, some (.iconst 1, 1, 0), some (.goto 4, 3, 0), none, none, some (.iconst 0, 1, 0), some (.ireturn, 1, 1)]
set_option maxRecDepth 20000 in
def zk_X10_choose : zCode := [some (.aload_n 0, 1, 0), some (.getfield 2050, 3, 11), none, none, some (.iconst 0, 1, 0), some (.aload_n 0, 1, 0), some (.getfield 2054, 3, 15), none, none, some (.iconst 0, 1, 0), some (.iconst 3, 1, 0), some (.invokestatic 900, 3, 46), none, none, some (.aload_n 0, 1, 0), some (.iload_n 1, 1, 0), some (.putfield 2064, 3, 27), none, none, some (.return_, 1, 0)]
set_option maxRecDepth 20000 in
def zk_X10_leads : zCode := [some (.iload_n 2, 1, 0), some (.istore 6, 2, 0), none, some (.iconst 0, 1, 0), some (.istore 7, 2, 0), none, some (.iconst 0, 1, 0), some (.istore 8, 2, 0), none, some (.iload 8, 2, 0), none, some (.iload 4, 2, 0), none, some (.if_icmp .ge 91, 3, 0), none, none, some (.iload 8, 2, 0), none, some (.iconst 3, 1, 0), some (.if_icmp .ge 85, 3, 0), none, none, some (.iload 5, 2, 0), none, some (.iconst 2, 1, 0), some (.iload 4, 2, 0), none, some (.iconst 1, 1, 0), some (.isub, 1, 0), some (.iload 8, 2, 0), none, some (.isub, 1, 0), some (.imul, 1, 0), some (.ishr, 1, 0), some (.iconst 3, 1, 0), some (.iand, 1, 0), some (.istore 9, 2, 0), none, some (.aload_n 1, 1, 0), some (.iload 9, 2, 0), none, some (.invokevirtual 58, 3, 52), none, none, some (.astore 10, 2, 0), none, some (.aload 10, 2, 0), none, some (.ifnull 23, 3, 0), none, none, some (.aload 10, 2, 0), none, some (.getfield 516, 3, 58), none, none, some (.iload 6, 2, 0), none, some (.if_icmp .ne 13, 3, 0), none, none, some (.iload 7, 2, 0), none, some (.iload 9, 2, 0), none, some (.ishr, 1, 0), some (.iconst 1, 1, 0), some (.iand, 1, 0), some (.ifCond .eq 5, 3, 0), none, none, some (.iconst 0, 1, 0), some (.ireturn, 1, 1), some (.iload 7, 2, 0), none, some (.iconst 1, 1, 0), some (.iload 9, 2, 0), none, some (.ishl, 1, 0), some (.ior, 1, 0), some (.istore 7, 2, 0), none, some (.aload_n 0, 1, 0), some (.getfield 2050, 3, 11), none, none, some (.iload 8, 2, 0), none, some (.iload 9, 2, 0), none, some (.iastore, 1, 0), some (.aload 10, 2, 0), none, some (.getfield 520, 3, 63), none, none, some (.istore 6, 2, 0), none, some (.iinc 8 1, 3, 0), none, none, some (.goto (-92), 3, 0), none, none, some (.iload 6, 2, 0), none, some (.iload_n 3, 1, 0), some (.if_icmp .ne 7, 3, 0), none, none, some (.iconst 1, 1, 0), some (.goto 4, 3, 0), none, none, some (.iconst 0, 1, 0), some (.ireturn, 1, 1)]
set_option maxRecDepth 20000 in
def zk_X10_lostBySteps : zCode := [some (.aload_n 0, 1, 0), some (.getfield 2058, 3, 20), none, none, some (.astore 5, 2, 0), none, some (.aload_n 0, 1, 0), some (.getfield 2062, 3, 24), none, none, some (.astore 6, 2, 0), none, some (.aload_n 3, 1, 0), some (.iconst 0, 1, 0), some (.aload 5, 2, 0), none, some (.iconst 0, 1, 0), some (.aload_n 3, 1, 0), some (.arraylength, 1, 0), some (.aload 5, 2, 0), none, some (.arraylength, 1, 0), some (.invokestatic 316, 3, 66), none, none, some (.invokestatic 900, 3, 46), none, none, some (.iconst 0, 1, 0), some (.istore 7, 2, 0), none, some (.iconst 0, 1, 0), some (.istore 8, 2, 0), none, some (.iload 8, 2, 0), none, some (.iload_n 2, 1, 0), some (.if_icmp .ge 69, 3, 0), none, none, some (.iload 8, 2, 0), none, some (.iconst 3, 1, 0), some (.if_icmp .ge 63, 3, 0), none, none, some (.aload_n 1, 1, 0), some (.aload_n 0, 1, 0), some (.getfield 2050, 3, 11), none, none, some (.iload 8, 2, 0), none, some (.iaload, 1, 0), some (.invokevirtual 58, 3, 52), none, none, some (.astore 9, 2, 0), none, some (.aload 9, 2, 0), none, some (.ifnull 39, 3, 0), none, none, some (.aload 4, 2, 0), none, some (.aload_n 1, 1, 0), some (.aload 9, 2, 0), none, some (.aload 5, 2, 0), none, some (.aload 6, 2, 0), none, some (.invokevirtual 27, 3, 72), none, none, some (.iload 7, 2, 0), none, some (.aload 4, 2, 0), none, some (.getfield 258, 3, 78), none, none, some (.iconst 3, 1, 0), some (.iaload, 1, 0), some (.iadd, 1, 0), some (.istore 7, 2, 0), none, some (.aload 5, 2, 0), none, some (.astore 10, 2, 0), none, some (.aload 6, 2, 0), none, some (.astore 5, 2, 0), none, some (.aload 10, 2, 0), none, some (.astore 6, 2, 0), none, some (.iinc 8 1, 3, 0), none, none, some (.goto (-69), 3, 0), none, none, some (.iload 7, 2, 0), none, some (.ireturn, 1, 0)]
set_option maxRecDepth 20000 in
def zk_X11_init : zCode := [some (.aload_n 0, 1, 0), some (.invokespecial 907, 3, 1), none, none, some (.aload_n 0, 1, 0), some (.new 0, 3, 7), none, none, some (.dup, 1, 0), some (.invokespecial 0, 3, 9), none, none, some (.putfield 2310, 3, 10), none, none, some (.aload_n 0, 1, 0), some (.aload_n 0, 1, 0), some (.getfield 2310, 3, 10), none, none, some (.getfield 6, 3, 16), none, none, some (.putfield 2306, 3, 20), none, none, some (.aload_n 0, 1, 0), some (.new 4, 3, 21), none, none, some (.dup, 1, 0), some (.invokespecial 64, 3, 23), none, none, some (.putfield 2314, 3, 24), none, none, some (.aload_n 0, 1, 0), some (.new 1, 3, 28), none, none, some (.dup, 1, 0), some (.invokespecial 26, 3, 30), none, none, some (.putfield 2318, 3, 31), none, none, some (.aload_n 0, 1, 0), some (.new 8, 3, 35), none, none, some (.dup, 1, 0), some (.invokespecial 117, 3, 37), none, none, some (.putfield 2322, 3, 38), none, none, some (.aload_n 0, 1, 0), some (.bipush 6, 2, 0), none, some (.newarray .int, 2, 0), none, some (.putfield 2326, 3, 42), none, none, some (.aload_n 0, 1, 0), some (.bipush 6, 2, 0), none, some (.newarray .int, 2, 0), none, some (.putfield 2330, 3, 46), none, none, some (.aload_n 0, 1, 0), some (.bipush 24, 2, 0), none, some (.newarray .long, 2, 0), none, some (.putfield 2334, 3, 49), none, none, some (.aload_n 0, 1, 0), some (.bipush 24, 2, 0), none, some (.newarray .long, 2, 0), none, some (.putfield 2338, 3, 53), none, none, some (.aload_n 0, 1, 0), some (.bipush 24, 2, 0), none, some (.newarray .long, 2, 0), none, some (.putfield 2342, 3, 56), none, none, some (.aload_n 0, 1, 0), some (.new 3, 3, 59), none, none, some (.dup, 1, 0), some (.invokespecial 55, 3, 61), none, none, some (.putfield 2346, 3, 62), none, none, some (.aload_n 0, 1, 0), some (.iconst 1, 1, 0), some (.putfield 2356, 3, 66), none, none, some (.return_, 1, 0)]
set_option maxRecDepth 20000 in
def zk_X11_feed : zCode := [some (.aload_n 0, 1, 0), some (.getfield 2306, 3, 20), none, none, some (.bipush 20, 2, 0), none, some (.invokevirtual 104, 3, 70), none, none, some (.ifCond .ne 15, 3, 0), none, none, some (.aload_n 0, 1, 0), some (.getfield 2326, 3, 42), none, none, some (.iconst 0, 1, 0), some (.dup2, 1, 0), some (.iaload, 1, 0), some (.iconst 1, 1, 0), some (.iadd, 1, 0), some (.iastore, 1, 0), some (.iconst (-1), 1, 0), some (.ireturn, 1, 0), some (.aload_n 0, 1, 0), some (.getfield 2306, 3, 20), none, none, some (.iload_n 1, 1, 0), some (.invokevirtual 105, 3, 76), none, none, some (.aload_n 0, 1, 0), some (.getfield 2306, 3, 20), none, none, some (.iload_n 2, 1, 0), some (.invokevirtual 105, 3, 76), none, none, some (.aload_n 0, 1, 0), some (.getfield 2306, 3, 20), none, none, some (.iload_n 3, 1, 0), some (.invokevirtual 105, 3, 76), none, none, some (.aload_n 0, 1, 0), some (.getfield 2306, 3, 20), none, none, some (.iload 4, 2, 0), none, some (.invokevirtual 105, 3, 76), none, none, some (.aload_n 0, 1, 0), some (.getfield 2306, 3, 20), none, none, some (.iload 5, 2, 0), none, some (.invokevirtual 105, 3, 76), none, none, some (.aload_n 0, 1, 0), some (.getfield 2306, 3, 20), none, none, some (.getfield 1796, 3, 80), none, none, some (.ireturn, 1, 0)]
set_option maxRecDepth 20000 in
def zk_X11_end : zCode := [some (.iload_n 1, 1, 0), some (.ifCond .lt 14, 3, 0), none, none, some (.iload_n 1, 1, 0), some (.aload_n 0, 1, 0), some (.getfield 2306, 3, 20), none, none, some (.getfield 1796, 3, 80), none, none, some (.if_icmp .le 15, 3, 0), none, none, some (.aload_n 0, 1, 0), some (.getfield 2326, 3, 42), none, none, some (.iconst 0, 1, 0), some (.dup2, 1, 0), some (.iaload, 1, 0), some (.iconst 1, 1, 0), some (.iadd, 1, 0), some (.iastore, 1, 0), some (.iconst 0, 1, 0), some (.ireturn, 1, 1), some (.aload_n 0, 1, 0), some (.getfield 2306, 3, 20), none, none, some (.iload_n 1, 1, 0), some (.putfield 1796, 3, 80), none, none, some (.iconst 1, 1, 0), some (.ireturn, 1, 1)]
set_option maxRecDepth 20000 in
def zk_X11_book : zCode := [some (.aload_n 0, 1, 0), some (.getfield 2310, 3, 10), none, none, some (.invokevirtual 1, 3, 83), none, none, some (.istore_n 1, 1, 0), some (.aload_n 0, 1, 0), some (.getfield 2306, 3, 20), none, none, some (.iconst 0, 1, 0), some (.putfield 1796, 3, 80), none, none, some (.iload_n 1, 1, 0), some (.ifCond .ne 15, 3, 0), none, none, some (.aload_n 0, 1, 0), some (.getfield 2326, 3, 42), none, none, some (.iconst 1, 1, 0), some (.dup2, 1, 0), some (.iaload, 1, 0), some (.iconst 1, 1, 0), some (.iadd, 1, 0), some (.iastore, 1, 0), some (.iconst (-1), 1, 0), some (.ireturn, 1, 0), some (.aload_n 0, 1, 0), some (.getfield 2346, 3, 62), none, none, some (.astore_n 2, 1, 0), some (.aload_n 0, 1, 0), some (.aload_n 0, 1, 0), some (.getfield 2310, 3, 10), none, none, some (.getfield 10, 3, 87), none, none, some (.putfield 2346, 3, 62), none, none, some (.aload_n 0, 1, 0), some (.getfield 2310, 3, 10), none, none, some (.aload_n 2, 1, 0), some (.putfield 10, 3, 87), none, none, some (.aload_n 0, 1, 0), some (.getfield 2314, 3, 24), none, none, some (.invokevirtual 65, 3, 88), none, none, some (.aload_n 0, 1, 0), some (.iconst 0, 1, 0), some (.putfield 2351, 3, 91), none, none, some (.aload_n 0, 1, 0), some (.getfield 2346, 3, 62), none, none, some (.getfield 776, 3, 95), none, none, some (.aload_n 0, 1, 0), some (.getfield 2346, 3, 62), none, none, some (.getfield 780, 3, 98), none, none, some (.iadd, 1, 0), some (.ireturn, 1, 0)]
set_option maxRecDepth 20000 in
def zk_X11_fault : zCode := [some (.iload_n 1, 1, 0), some (.ifCond .ne 13, 3, 0), none, none, some (.aload_n 0, 1, 0), some (.getfield 2310, 3, 10), none, none, some (.getfield 72, 3, 101), none, none, some (.goto 19, 3, 0), none, none, some (.iload_n 1, 1, 0), some (.iconst 1, 1, 0), some (.if_icmp .ne 13, 3, 0), none, none, some (.aload_n 0, 1, 0), some (.getfield 2310, 3, 10), none, none, some (.getfield 76, 3, 104), none, none, some (.goto 4, 3, 0), none, none, some (.iconst (-1), 1, 0), some (.ireturn, 1, 0)]
set_option maxRecDepth 20000 in
def zk_X11_has : zCode := [some (.iload_n 1, 1, 0), some (.tableswitch 82 0 3 #[31, 39, 47, 74], 31, 0), none, none, none, none, none, none, none, none, none, none, none, none, none, none, none, none, none, none, none, none, none, none, none, none, none, none, none, none, none, none, some (.aload_n 0, 1, 0), some (.getfield 2346, 3, 62), none, none, some (.getfield 776, 3, 95), none, none, some (.ireturn, 1, 0), some (.aload_n 0, 1, 0), some (.getfield 2346, 3, 62), none, none, some (.getfield 780, 3, 98), none, none, some (.ireturn, 1, 0), some (.aload_n 0, 1, 0), some (.getfield 2314, 3, 24), none, none, some (.iconst 0, 1, 0), some (.invokevirtual 68, 3, 107), none, none, some (.aload_n 0, 1, 0), some (.getfield 2314, 3, 24), none, none, some (.iconst 1, 1, 0), some (.invokevirtual 68, 3, 107), none, none, some (.iadd, 1, 0), some (.aload_n 0, 1, 0), some (.getfield 2314, 3, 24), none, none, some (.iconst 2, 1, 0), some (.invokevirtual 68, 3, 107), none, none, some (.iadd, 1, 0), some (.ireturn, 1, 0), some (.aload_n 0, 1, 0), some (.getfield 2314, 3, 24), none, none, some (.getfield 1036, 3, 111), none, none, some (.ireturn, 1, 0), some (.aload_n 0, 1, 0), some (.iload_n 1, 1, 0), some (.invokevirtual 130, 3, 114), none, none, some (.ireturn, 1, 0)]
set_option maxRecDepth 20000 in
def zk_X11_hasOfScheme : zCode := [some (.iload_n 1, 1, 0), some (.iconst 4, 1, 0), some (.if_icmp .lt 9, 3, 0), none, none, some (.iload_n 1, 1, 0), some (.bipush 9, 2, 0), none, some (.if_icmp .le 5, 3, 0), none, none, some (.iconst (-1), 1, 0), some (.ireturn, 1, 0), some (.iload_n 1, 1, 0), some (.bipush 7, 2, 0), none, some (.if_icmp .ge 9, 3, 0), none, none, some (.iload_n 1, 1, 0), some (.iconst 4, 1, 0), some (.isub, 1, 0), some (.goto 7, 3, 0), none, none, some (.iload_n 1, 1, 0), some (.bipush 7, 2, 0), none, some (.isub, 1, 0), some (.istore_n 2, 1, 0), some (.aload_n 0, 1, 0), some (.getfield 2346, 3, 62), none, none, some (.iload_n 2, 1, 0), some (.invokevirtual 57, 3, 117), none, none, some (.astore_n 3, 1, 0), some (.aload_n 3, 1, 0), some (.ifnonnull 5, 3, 0), none, none, some (.iconst (-1), 1, 0), some (.ireturn, 1, 0), some (.iload_n 1, 1, 0), some (.bipush 7, 2, 0), none, some (.if_icmp .ge 14, 3, 0), none, none, some (.aload_n 0, 1, 0), some (.getfield 2314, 3, 24), none, none, some (.iload_n 2, 1, 0), some (.invokevirtual 68, 3, 107), none, none, some (.goto 7, 3, 0), none, none, some (.aload_n 3, 1, 0), some (.getfield 1556, 3, 121), none, none, some (.ireturn, 1, 0)]
set_option maxRecDepth 20000 in
def zk_X11_letter : zCode := [some (.aload_n 0, 1, 0), some (.getfield 2346, 3, 62), none, none, some (.iload_n 1, 1, 0), some (.invokevirtual 57, 3, 117), none, none, some (.astore 4, 2, 0), none, some (.aload 4, 2, 0), none, some (.ifnull 13, 3, 0), none, none, some (.iload_n 3, 1, 0), some (.ifCond .lt 9, 3, 0), none, none, some (.iload_n 3, 1, 0), some (.bipush 6, 2, 0), none, some (.if_icmp .lt 5, 3, 0), none, none, some (.iconst (-1), 1, 0), some (.ireturn, 1, 0), some (.iload_n 2, 1, 0), some (.iconst (-1), 1, 0), some (.if_icmp .ne 13, 3, 0), none, none, some (.aload 4, 2, 0), none, some (.getfield 1552, 3, 126), none, none, some (.iload_n 3, 1, 0), some (.invokestatic 116, 3, 129), none, none, some (.ireturn, 1, 0), some (.aload 4, 2, 0), none, some (.iload_n 2, 1, 0), some (.invokevirtual 99, 3, 133), none, none, some (.ifCond .eq 17, 3, 0), none, none, some (.aload 4, 2, 0), none, some (.getfield 1538, 3, 136), none, none, some (.iload_n 2, 1, 0), some (.iaload, 1, 0), some (.iload_n 3, 1, 0), some (.invokestatic 116, 3, 129), none, none, some (.goto 4, 3, 0), none, none, some (.iconst (-1), 1, 0), some (.ireturn, 1, 0)]
set_option maxRecDepth 20000 in
def zk_X11_named : zCode := [some (.aload_n 0, 1, 0), some (.getfield 2306, 3, 20), none, none, some (.invokevirtual 114, 3, 139), none, none, some (.istore_n 2, 1, 0), some (.aload_n 0, 1, 0), some (.getfield 2306, 3, 20), none, none, some (.iconst 0, 1, 0), some (.putfield 1796, 3, 80), none, none, some (.iload_n 2, 1, 0), some (.ifCond .ne 5, 3, 0), none, none, some (.iconst (-1), 1, 0), some (.ireturn, 1, 0), some (.iload_n 1, 1, 0), some (.iconst (-1), 1, 0), some (.if_icmp .ne 12, 3, 0), none, none, some (.aload_n 0, 1, 0), some (.getfield 2346, 3, 62), none, none, some (.iload_n 2, 1, 0), some (.invokevirtual 61, 3, 143), none, none, some (.ireturn, 1, 0), some (.aload_n 0, 1, 0), some (.getfield 2346, 3, 62), none, none, some (.iload_n 1, 1, 0), some (.invokevirtual 57, 3, 117), none, none, some (.astore_n 3, 1, 0), some (.aload_n 3, 1, 0), some (.ifnonnull 7, 3, 0), none, none, some (.iconst (-1), 1, 0), some (.goto 8, 3, 0), none, none, some (.aload_n 3, 1, 0), some (.iload_n 2, 1, 0), some (.invokevirtual 102, 3, 146), none, none, some (.ireturn, 1, 0)]
set_option maxRecDepth 20000 in
def zk_X11_field : zCode := [some (.aload_n 0, 1, 0), some (.getfield 2346, 3, 62), none, none, some (.iload_n 1, 1, 0), some (.invokevirtual 57, 3, 117), none, none, some (.astore 4, 2, 0), none, some (.aload 4, 2, 0), none, some (.ifnull 12, 3, 0), none, none, some (.aload 4, 2, 0), none, some (.iload_n 2, 1, 0), some (.invokevirtual 99, 3, 133), none, none, some (.ifCond .ne 5, 3, 0), none, none, some (.iconst (-1), 1, 0), some (.ireturn, 1, 0), some (.iload_n 3, 1, 0), some (.ifCond .ne 13, 3, 0), none, none, some (.aload 4, 2, 0), none, some (.getfield 1542, 3, 149), none, none, some (.iload_n 2, 1, 0), some (.iaload, 1, 0), some (.goto 19, 3, 0), none, none, some (.iload_n 3, 1, 0), some (.iconst 1, 1, 0), some (.if_icmp .ne 13, 3, 0), none, none, some (.aload 4, 2, 0), none, some (.getfield 1546, 3, 152), none, none, some (.iload_n 2, 1, 0), some (.iaload, 1, 0), some (.goto 4, 3, 0), none, none, some (.iconst (-1), 1, 0), some (.ireturn, 1, 0)]
set_option maxRecDepth 20000 in
def zk_X11_crossing : zCode := [some (.aload_n 0, 1, 0), some (.getfield 2346, 3, 62), none, none, some (.iload_n 1, 1, 0), some (.invokevirtual 58, 3, 155), none, none, some (.astore_n 3, 1, 0), some (.aload_n 3, 1, 0), some (.ifnonnull 5, 3, 0), none, none, some (.iconst (-1), 1, 0), some (.ireturn, 1, 0), some (.iload_n 2, 1, 0), some (.tableswitch 61 0 4 #[36, 41, 46, 51, 56], 36, 0), none, none, none, none, none, none, none, none, none, none, none, none, none, none, none, none, none, none, none, none, none, none, none, none, none, none, none, none, none, none, none, none, none, none, none, some (.aload_n 3, 1, 0), some (.getfield 516, 3, 159), none, none, some (.ireturn, 1, 0), some (.aload_n 3, 1, 0), some (.getfield 520, 3, 164), none, none, some (.ireturn, 1, 0), some (.aload_n 3, 1, 0), some (.getfield 524, 3, 167), none, none, some (.ireturn, 1, 0), some (.aload_n 3, 1, 0), some (.invokevirtual 49, 3, 170), none, none, some (.ireturn, 1, 0), some (.aload_n 3, 1, 0), some (.invokevirtual 50, 3, 173), none, none, some (.ireturn, 1, 0), some (.iconst (-1), 1, 0), some (.ireturn, 1, 0)]
set_option maxRecDepth 20000 in
def zk_X11_rule : zCode := [some (.aload_n 0, 1, 0), some (.getfield 2346, 3, 62), none, none, some (.iload_n 1, 1, 0), some (.invokevirtual 58, 3, 155), none, none, some (.astore 4, 2, 0), none, some (.aload 4, 2, 0), none, some (.ifnonnull 7, 3, 0), none, none, some (.aconst_null, 1, 0), some (.goto 9, 3, 0), none, none, some (.aload 4, 2, 0), none, some (.iload_n 2, 1, 0), some (.invokevirtual 47, 3, 176), none, none, some (.astore 5, 2, 0), none, some (.aload 5, 2, 0), none, some (.ifnonnull 5, 3, 0), none, none, some (.iconst (-1), 1, 0), some (.ireturn, 1, 0), some (.iload_n 3, 1, 0), some (.tableswitch 71 0 4 #[33, 39, 45, 51, 57], 33, 0), none, none, none, none, none, none, none, none, none, none, none, none, none, none, none, none, none, none, none, none, none, none, none, none, none, none, none, none, none, none, none, none, some (.aload 5, 2, 0), none, some (.getfield 1280, 3, 180), none, none, some (.ireturn, 1, 0), some (.aload 5, 2, 0), none, some (.getfield 1284, 3, 185), none, none, some (.ireturn, 1, 0), some (.aload 5, 2, 0), none, some (.getfield 1288, 3, 188), none, none, some (.ireturn, 1, 0), some (.aload 5, 2, 0), none, some (.getfield 1292, 3, 191), none, none, some (.ireturn, 1, 0), some (.aload 5, 2, 0), none, some (.getfield 1311, 3, 194), none, none, some (.ifCond .eq 7, 3, 0), none, none, some (.iconst 1, 1, 0), some (.goto 4, 3, 0), none, none, some (.iconst 0, 1, 0), some (.ireturn, 1, 0), some (.iconst (-1), 1, 0), some (.ireturn, 1, 0)]
set_option maxRecDepth 20000 in
def zk_X11_widens : zCode := [some (.iload_n 1, 1, 0), some (.ifCond .lt 19, 3, 0), none, none, some (.iload_n 1, 1, 0), some (.bipush 8, 2, 0), none, some (.if_icmp .gt 13, 3, 0), none, none, some (.iload_n 2, 1, 0), some (.ifCond .lt 9, 3, 0), none, none, some (.iload_n 2, 1, 0), some (.bipush 8, 2, 0), none, some (.if_icmp .le 5, 3, 0), none, none, some (.iconst (-1), 1, 0), some (.ireturn, 1, 0), some (.iload_n 1, 1, 0), some (.iload_n 2, 1, 0), some (.invokestatic 35, 3, 199), none, none, some (.ifCond .eq 7, 3, 0), none, none, some (.iconst 1, 1, 0), some (.goto 4, 3, 0), none, none, some (.iconst 0, 1, 0), some (.ireturn, 1, 0)]
set_option maxRecDepth 20000 in
def zk_X11_length : zCode := [some (.aload_n 0, 1, 0), some (.iload_n 1, 1, 0), some (.iload_n 2, 1, 0), some (.invokevirtual 145, 3, 203), none, none, some (.istore_n 3, 1, 0), some (.aload_n 0, 1, 0), some (.iload_n 3, 1, 0), some (.ifCond .ge 7, 3, 0), none, none, some (.iload_n 3, 1, 0), some (.goto 4, 3, 0), none, none, some (.iconst 0, 1, 0), some (.putfield 2352, 3, 206), none, none, some (.iload_n 3, 1, 0), some (.ifCond .ge 7, 3, 0), none, none, some (.iload_n 3, 1, 0), some (.goto 10, 3, 0), none, none, some (.aload_n 0, 1, 0), some (.iload_n 1, 1, 0), some (.iload_n 2, 1, 0), some (.iload_n 3, 1, 0), some (.invokevirtual 146, 3, 209), none, none, some (.ireturn, 1, 0)]
set_option maxRecDepth 20000 in
def zk_X11_read : zCode := [some (.aload_n 0, 1, 0), some (.iload_n 1, 1, 0), some (.iload_n 2, 1, 0), some (.invokevirtual 145, 3, 203), none, none, some (.istore 5, 2, 0), none, some (.aload_n 0, 1, 0), some (.aload_n 0, 1, 0), some (.iload_n 1, 1, 0), some (.iload_n 2, 1, 0), some (.iload_n 3, 1, 0), some (.iload 4, 2, 0), none, some (.invokevirtual 147, 3, 213), none, none, some (.putfield 2352, 3, 206), none, none, some (.aload_n 0, 1, 0), some (.getfield 2352, 3, 206), none, none, some (.ifCond .ne 19, 3, 0), none, none, some (.iload 5, 2, 0), none, some (.iload 4, 2, 0), none, some (.invokestatic 35, 3, 199), none, none, some (.ifCond .ne 9, 3, 0), none, none, some (.aload_n 0, 1, 0), some (.bipush (-2), 2, 0), none, some (.putfield 2352, 3, 206), none, none, some (.aload_n 0, 1, 0), some (.getfield 2346, 3, 62), none, none, some (.iload_n 1, 1, 0), some (.invokevirtual 57, 3, 117), none, none, some (.astore 6, 2, 0), none, some (.aload_n 0, 1, 0), some (.getfield 2352, 3, 206), none, none, some (.ifCond .ne 8, 3, 0), none, none, some (.aload 6, 2, 0), none, some (.ifnonnull 7, 3, 0), none, none, some (.ldc2_w 13, 3, 217), none, none, some (.lreturn, 1, 0), some (.iload 5, 2, 0), none, some (.aload_n 0, 1, 0), some (.getfield 2314, 3, 24), none, none, some (.iload_n 1, 1, 0), some (.aload 6, 2, 0), none, some (.iload_n 2, 1, 0), some (.iload_n 3, 1, 0), some (.invokevirtual 81, 3, 219), none, none, some (.iload 4, 2, 0), none, some (.invokestatic 39, 3, 223), none, none, some (.lreturn, 1, 0)]
set_option maxRecDepth 20000 in
def zk_X11_get : zCode := [some (.aload_n 0, 1, 0), some (.iload_n 1, 1, 0), some (.iload_n 2, 1, 0), some (.invokevirtual 145, 3, 203), none, none, some (.istore 5, 2, 0), none, some (.iload 4, 2, 0), none, some (.ifCond .lt 9, 3, 0), none, none, some (.iload 4, 2, 0), none, some (.iconst 1, 1, 0), some (.if_icmp .le 12, 3, 0), none, none, some (.aload_n 0, 1, 0), some (.bipush (-4), 2, 0), none, some (.putfield 2352, 3, 206), none, none, some (.goto 42, 3, 0), none, none, some (.iload 5, 2, 0), none, some (.ifCond .ge 12, 3, 0), none, none, some (.aload_n 0, 1, 0), some (.iload 5, 2, 0), none, some (.putfield 2352, 3, 206), none, none, some (.goto 28, 3, 0), none, none, some (.aload_n 0, 1, 0), some (.iload_n 3, 1, 0), some (.ifCond .lt 15, 3, 0), none, none, some (.iload_n 3, 1, 0), some (.aload_n 0, 1, 0), some (.iload_n 1, 1, 0), some (.iload_n 2, 1, 0), some (.iload 5, 2, 0), none, some (.invokevirtual 146, 3, 209), none, none, some (.if_icmp .lt 7, 3, 0), none, none, some (.iconst (-1), 1, 0), some (.goto 4, 3, 0), none, none, some (.iconst 0, 1, 0), some (.putfield 2352, 3, 206), none, none, some (.aload_n 0, 1, 0), some (.getfield 2346, 3, 62), none, none, some (.iload_n 1, 1, 0), some (.invokevirtual 57, 3, 117), none, none, some (.astore 6, 2, 0), none, some (.aload_n 0, 1, 0), some (.getfield 2352, 3, 206), none, none, some (.ifCond .ne 8, 3, 0), none, none, some (.aload 6, 2, 0), none, some (.ifnonnull 7, 3, 0), none, none, some (.ldc2_w 13, 3, 217), none, none, some (.lreturn, 1, 0), some (.iload 5, 2, 0), none, some (.bipush 9, 2, 0), none, some (.if_icmp .ne 29, 3, 0), none, none, some (.iload 4, 2, 0), none, some (.ifCond .ne 15, 3, 0), none, none, some (.aload_n 0, 1, 0), some (.getfield 2314, 3, 24), none, none, some (.iload_n 3, 1, 0), some (.invokevirtual 83, 3, 227), none, none, some (.i2l, 1, 0), some (.goto 11, 3, 0), none, none, some (.aload_n 0, 1, 0), some (.getfield 2314, 3, 24), none, none, some (.iload_n 3, 1, 0), some (.invokevirtual 84, 3, 230), none, none, some (.lreturn, 1, 0), some (.aload_n 0, 1, 0), some (.getfield 2314, 3, 24), none, none, some (.iload_n 1, 1, 0), some (.aload 6, 2, 0), none, some (.iload_n 2, 1, 0), some (.iload_n 3, 1, 0), some (.invokevirtual 80, 3, 234), none, none, some (.istore 7, 2, 0), none, some (.iload 4, 2, 0), none, some (.ifCond .ne 18, 3, 0), none, none, some (.iload 7, 2, 0), none, some (.ifCond .eq 9, 3, 0), none, none, some (.ldc2_w 6, 3, 238), none, none, some (.goto 6, 3, 0), none, none, some (.iload 5, 2, 0), none, some (.i2l, 1, 0), some (.lreturn, 1, 0), some (.aload_n 0, 1, 0), some (.getfield 2314, 3, 24), none, none, some (.iload_n 1, 1, 0), some (.aload 6, 2, 0), none, some (.iload_n 2, 1, 0), some (.iload_n 3, 1, 0), some (.invokevirtual 81, 3, 219), none, none, some (.lreturn, 1, 0)]
set_option maxRecDepth 20000 in
def zk_X11_write : zCode := [some (.aload_n 0, 1, 0), some (.iload_n 1, 1, 0), some (.iload_n 2, 1, 0), some (.invokevirtual 145, 3, 203), none, none, some (.istore 7, 2, 0), none, some (.aload_n 0, 1, 0), some (.aload_n 0, 1, 0), some (.iload_n 1, 1, 0), some (.iload_n 2, 1, 0), some (.iload_n 3, 1, 0), some (.iload 4, 2, 0), none, some (.invokevirtual 147, 3, 213), none, none, some (.putfield 2352, 3, 206), none, none, some (.aload_n 0, 1, 0), some (.getfield 2352, 3, 206), none, none, some (.ifCond .ne 19, 3, 0), none, none, some (.iload 4, 2, 0), none, some (.iload 7, 2, 0), none, some (.invokestatic 35, 3, 199), none, none, some (.ifCond .ne 9, 3, 0), none, none, some (.aload_n 0, 1, 0), some (.bipush (-2), 2, 0), none, some (.putfield 2352, 3, 206), none, none, some (.aload_n 0, 1, 0), some (.getfield 2346, 3, 62), none, none, some (.iload_n 1, 1, 0), some (.invokevirtual 57, 3, 117), none, none, some (.astore 8, 2, 0), none, some (.aload_n 0, 1, 0), some (.getfield 2352, 3, 206), none, none, some (.ifCond .ne 8, 3, 0), none, none, some (.aload 8, 2, 0), none, some (.ifnonnull 5, 3, 0), none, none, some (.iconst 0, 1, 0), some (.ireturn, 1, 1), some (.aload_n 0, 1, 0), some (.getfield 2314, 3, 24), none, none, some (.invokevirtual 66, 3, 240), none, none, some (.aload_n 0, 1, 0), some (.getfield 2314, 3, 24), none, none, some (.iload_n 1, 1, 0), some (.aload 8, 2, 0), none, some (.iload_n 2, 1, 0), some (.iload_n 3, 1, 0), some (.iload 4, 2, 0), none, some (.iload 4, 2, 0), none, some (.lload 5, 2, 0), none, some (.invokestatic 37, 3, 243), none, none, some (.iload 7, 2, 0), none, some (.invokestatic 39, 3, 223), none, none, some (.invokevirtual 82, 3, 247), none, none, some (.iconst 1, 1, 0), some (.ireturn, 1, 1)]
set_option maxRecDepth 20000 in
def zk_X11_put : zCode := [some (.aload_n 0, 1, 0), some (.iload_n 1, 1, 0), some (.iload_n 2, 1, 0), some (.invokevirtual 145, 3, 203), none, none, some (.istore 7, 2, 0), none, some (.aload_n 0, 1, 0), some (.aload_n 0, 1, 0), some (.iload_n 1, 1, 0), some (.iload_n 2, 1, 0), some (.iload_n 3, 1, 0), some (.iload 4, 2, 0), none, some (.invokevirtual 148, 3, 251), none, none, some (.putfield 2352, 3, 206), none, none, some (.aload_n 0, 1, 0), some (.getfield 2346, 3, 62), none, none, some (.iload_n 1, 1, 0), some (.invokevirtual 57, 3, 117), none, none, some (.astore 8, 2, 0), none, some (.aload_n 0, 1, 0), some (.getfield 2352, 3, 206), none, none, some (.ifCond .ne 8, 3, 0), none, none, some (.aload 8, 2, 0), none, some (.ifnonnull 5, 3, 0), none, none, some (.iconst 0, 1, 0), some (.ireturn, 1, 1), some (.aload_n 0, 1, 0), some (.getfield 2314, 3, 24), none, none, some (.invokevirtual 66, 3, 240), none, none, some (.iload 7, 2, 0), none, some (.bipush 9, 2, 0), none, some (.if_icmp .ne 23, 3, 0), none, none, some (.aload_n 0, 1, 0), some (.getfield 2314, 3, 24), none, none, some (.iload_n 3, 1, 0), some (.iload 4, 2, 0), none, some (.iload 4, 2, 0), none, some (.lload 5, 2, 0), none, some (.invokestatic 37, 3, 243), none, none, some (.invokevirtual 85, 3, 254), none, none, some (.goto 54, 3, 0), none, none, some (.iload 4, 2, 0), none, some (.bipush 10, 2, 0), none, some (.if_icmp .ne 21, 3, 0), none, none, some (.aload_n 0, 1, 0), some (.getfield 2314, 3, 24), none, none, some (.iload_n 1, 1, 0), some (.aload 8, 2, 0), none, some (.iload_n 2, 1, 0), some (.iload_n 3, 1, 0), some (.ldc2_w 12, 3, 258), none, none, some (.invokevirtual 82, 3, 247), none, none, some (.goto 29, 3, 0), none, none, some (.aload_n 0, 1, 0), some (.getfield 2314, 3, 24), none, none, some (.iload_n 1, 1, 0), some (.aload 8, 2, 0), none, some (.iload_n 2, 1, 0), some (.iload_n 3, 1, 0), some (.iload 4, 2, 0), none, some (.iload 4, 2, 0), none, some (.lload 5, 2, 0), none, some (.invokestatic 37, 3, 243), none, none, some (.iload 7, 2, 0), none, some (.invokestatic 39, 3, 223), none, none, some (.invokevirtual 82, 3, 247), none, none, some (.iconst 1, 1, 0), some (.ireturn, 1, 1)]
set_option maxRecDepth 20000 in
def zk_X11_why : zCode := [some (.aload_n 0, 1, 0), some (.getfield 2352, 3, 206), none, none, some (.ireturn, 1, 0)]
set_option maxRecDepth 20000 in
def zk_X11_cell : zCode := [some (.aload_n 0, 1, 0), some (.getfield 2346, 3, 62), none, none, some (.iload_n 1, 1, 0), some (.invokevirtual 57, 3, 117), none, none, some (.astore 5, 2, 0), none, some (.aload 5, 2, 0), none, some (.ifnull 24, 3, 0), none, none, some (.aload 5, 2, 0), none, some (.iload_n 2, 1, 0), some (.invokevirtual 99, 3, 133), none, none, some (.ifCond .eq 15, 3, 0), none, none, some (.aload_n 0, 1, 0), some (.getfield 2314, 3, 24), none, none, some (.iload_n 1, 1, 0), some (.iload_n 3, 1, 0), some (.invokevirtual 69, 3, 260), none, none, some (.ifCond .ne 7, 3, 0), none, none, some (.ldc2_w 13, 3, 217), none, none, some (.lreturn, 1, 0), some (.iload 4, 2, 0), none, some (.ifCond .lt 15, 3, 0), none, none, some (.iload 4, 2, 0), none, some (.aload 5, 2, 0), none, some (.getfield 1546, 3, 152), none, none, some (.iload_n 2, 1, 0), some (.iaload, 1, 0), some (.if_icmp .lt 7, 3, 0), none, none, some (.ldc2_w 13, 3, 217), none, none, some (.lreturn, 1, 0), some (.aload_n 0, 1, 0), some (.getfield 2314, 3, 24), none, none, some (.iload_n 1, 1, 0), some (.aload 5, 2, 0), none, some (.iload_n 2, 1, 0), some (.iload_n 3, 1, 0), some (.aload 5, 2, 0), none, some (.getfield 1546, 3, 152), none, none, some (.iload_n 2, 1, 0), some (.iaload, 1, 0), some (.imul, 1, 0), some (.iload 4, 2, 0), none, some (.iadd, 1, 0), some (.invokevirtual 81, 3, 219), none, none, some (.lreturn, 1, 0)]
set_option maxRecDepth 20000 in
def zk_X11_unlike : zCode := [some (.aload_n 0, 1, 0), some (.getfield 2346, 3, 62), none, none, some (.iload_n 1, 1, 0), some (.invokevirtual 57, 3, 117), none, none, some (.astore 4, 2, 0), none, some (.aload 4, 2, 0), none, some (.ifnull 27, 3, 0), none, none, some (.aload_n 0, 1, 0), some (.getfield 2314, 3, 24), none, none, some (.iload_n 1, 1, 0), some (.iload_n 2, 1, 0), some (.invokevirtual 69, 3, 260), none, none, some (.ifCond .eq 15, 3, 0), none, none, some (.aload_n 0, 1, 0), some (.getfield 2314, 3, 24), none, none, some (.iload_n 1, 1, 0), some (.iload_n 3, 1, 0), some (.invokevirtual 69, 3, 260), none, none, some (.ifCond .ne 7, 3, 0), none, none, some (.ldc2_w 13, 3, 217), none, none, some (.lreturn, 1, 0), some (.aload_n 0, 1, 0), some (.getfield 2314, 3, 24), none, none, some (.iload_n 1, 1, 0), some (.aload 4, 2, 0), none, some (.iload_n 2, 1, 0), some (.aload_n 0, 1, 0), some (.getfield 2334, 3, 49), none, none, some (.invokevirtual 86, 3, 263), none, none, some (.aload_n 0, 1, 0), some (.getfield 2314, 3, 24), none, none, some (.iload_n 1, 1, 0), some (.aload 4, 2, 0), none, some (.iload_n 3, 1, 0), some (.aload_n 0, 1, 0), some (.getfield 2342, 3, 56), none, none, some (.invokevirtual 86, 3, 263), none, none, some (.aload_n 0, 1, 0), some (.getfield 2334, 3, 49), none, none, some (.aload_n 0, 1, 0), some (.getfield 2342, 3, 56), none, none, some (.invokestatic 150, 3, 267), none, none, some (.lreturn, 1, 0)]
set_option maxRecDepth 20000 in
def zk_X11_rowSort : zCode := [some (.aload_n 0, 1, 0), some (.getfield 2346, 3, 62), none, none, some (.iload_n 1, 1, 0), some (.invokevirtual 57, 3, 117), none, none, some (.astore_n 3, 1, 0), some (.aload_n 3, 1, 0), some (.ifnull 13, 3, 0), none, none, some (.iload_n 2, 1, 0), some (.ifCond .lt 9, 3, 0), none, none, some (.iload_n 2, 1, 0), some (.bipush 8, 2, 0), none, some (.if_icmp .le 6, 3, 0), none, none, some (.bipush (-4), 2, 0), none, some (.ireturn, 1, 0), some (.iload_n 2, 1, 0), some (.bipush 8, 2, 0), none, some (.if_icmp .ne 6, 3, 0), none, none, some (.bipush 9, 2, 0), none, some (.ireturn, 1, 0), some (.iload_n 2, 1, 0), some (.bipush 7, 2, 0), none, some (.if_icmp .ne 6, 3, 0), none, none, some (.bipush (-2), 2, 0), none, some (.ireturn, 1, 0), some (.aload_n 3, 1, 0), some (.iload_n 2, 1, 0), some (.invokevirtual 99, 3, 133), none, none, some (.ifCond .eq 12, 3, 0), none, none, some (.aload_n 3, 1, 0), some (.getfield 1542, 3, 149), none, none, some (.iload_n 2, 1, 0), some (.iaload, 1, 0), some (.goto 5, 3, 0), none, none, some (.bipush (-3), 2, 0), none, some (.ireturn, 1, 0)]
set_option maxRecDepth 20000 in
def zk_X11_placesOf : zCode := [some (.iload_n 3, 1, 0), some (.bipush 9, 2, 0), none, some (.if_icmp .ne 5, 3, 0), none, none, some (.iconst 4, 1, 0), some (.ireturn, 1, 0), some (.aload_n 0, 1, 0), some (.getfield 2346, 3, 62), none, none, some (.iload_n 1, 1, 0), some (.invokevirtual 57, 3, 117), none, none, some (.astore 4, 2, 0), none, some (.aload 4, 2, 0), none, some (.ifnull 25, 3, 0), none, none, some (.aload 4, 2, 0), none, some (.iload_n 2, 1, 0), some (.invokevirtual 99, 3, 133), none, none, some (.ifCond .eq 16, 3, 0), none, none, some (.bipush 8, 2, 0), none, some (.aload 4, 2, 0), none, some (.getfield 1546, 3, 152), none, none, some (.iload_n 2, 1, 0), some (.iaload, 1, 0), some (.imul, 1, 0), some (.goto 4, 3, 0), none, none, some (.iconst 0, 1, 0), some (.ireturn, 1, 0)]
set_option maxRecDepth 20000 in
def zk_X11_kindRefusal : zCode := [some (.iload 4, 2, 0), none, some (.ifCond .lt 10, 3, 0), none, none, some (.iload 4, 2, 0), none, some (.bipush 7, 2, 0), none, some (.if_icmp .le 6, 3, 0), none, none, some (.bipush (-4), 2, 0), none, some (.ireturn, 1, 0), some (.aload_n 0, 1, 0), some (.iload_n 1, 1, 0), some (.iload_n 2, 1, 0), some (.invokevirtual 145, 3, 203), none, none, some (.istore 5, 2, 0), none, some (.iload 5, 2, 0), none, some (.ifCond .ge 6, 3, 0), none, none, some (.iload 5, 2, 0), none, some (.ireturn, 1, 0), some (.iload 5, 2, 0), none, some (.bipush 7, 2, 0), none, some (.if_icmp .le 6, 3, 0), none, none, some (.bipush (-2), 2, 0), none, some (.ireturn, 1, 0), some (.iload_n 3, 1, 0), some (.ifCond .lt 15, 3, 0), none, none, some (.iload_n 3, 1, 0), some (.aload_n 0, 1, 0), some (.iload_n 1, 1, 0), some (.iload_n 2, 1, 0), some (.iload 5, 2, 0), none, some (.invokevirtual 146, 3, 209), none, none, some (.if_icmp .lt 7, 3, 0), none, none, some (.iconst (-1), 1, 0), some (.goto 4, 3, 0), none, none, some (.iconst 0, 1, 0), some (.ireturn, 1, 0)]
set_option maxRecDepth 20000 in
def zk_X11_thingRefusal : zCode := [some (.iload 4, 2, 0), none, some (.ifCond .lt 10, 3, 0), none, none, some (.iload 4, 2, 0), none, some (.bipush 10, 2, 0), none, some (.if_icmp .le 6, 3, 0), none, none, some (.bipush (-4), 2, 0), none, some (.ireturn, 1, 0), some (.aload_n 0, 1, 0), some (.iload_n 1, 1, 0), some (.iload_n 2, 1, 0), some (.invokevirtual 145, 3, 203), none, none, some (.istore 5, 2, 0), none, some (.iload 5, 2, 0), none, some (.ifCond .ge 6, 3, 0), none, none, some (.iload 5, 2, 0), none, some (.ireturn, 1, 0), some (.iload 5, 2, 0), none, some (.bipush 7, 2, 0), none, some (.if_icmp .gt 13, 3, 0), none, none, some (.iload 4, 2, 0), none, some (.bipush 10, 2, 0), none, some (.if_icmp .ne 6, 3, 0), none, none, some (.bipush (-2), 2, 0), none, some (.ireturn, 1, 0), some (.iload_n 3, 1, 0), some (.ifCond .lt 15, 3, 0), none, none, some (.iload_n 3, 1, 0), some (.aload_n 0, 1, 0), some (.iload_n 1, 1, 0), some (.iload_n 2, 1, 0), some (.iload 5, 2, 0), none, some (.invokevirtual 146, 3, 209), none, none, some (.if_icmp .lt 5, 3, 0), none, none, some (.iconst (-1), 1, 0), some (.ireturn, 1, 0), some (.iload 5, 2, 0), none, some (.iload 4, 2, 0), none, some (.invokestatic 149, 3, 271), none, none, some (.ifCond .eq 7, 3, 0), none, none, some (.iconst 0, 1, 0), some (.goto 5, 3, 0), none, none, some (.bipush (-2), 2, 0), none, some (.ireturn, 1, 0)]
set_option maxRecDepth 20000 in
def zk_X11_takesThing : zCode := [some (.iload_n 0, 1, 0), some (.bipush 9, 2, 0), none, some (.if_icmp .ne 5, 3, 0), none, none, some (.iconst 1, 1, 0), some (.ireturn, 1, 1), some (.iload_n 0, 1, 0), some (.bipush 8, 2, 0), none, some (.if_icmp .ne 21, 3, 0), none, none, some (.iload_n 1, 1, 0), some (.bipush 8, 2, 0), none, some (.if_icmp .eq 9, 3, 0), none, none, some (.iload_n 1, 1, 0), some (.bipush 10, 2, 0), none, some (.if_icmp .ne 7, 3, 0), none, none, some (.iconst 1, 1, 0), some (.goto 4, 3, 0), none, none, some (.iconst 0, 1, 0), some (.ireturn, 1, 1), some (.iload_n 1, 1, 0), some (.iload_n 0, 1, 0), some (.invokestatic 35, 3, 199), none, none, some (.ireturn, 1, 1)]
set_option maxRecDepth 20000 in
def zk_X11_differing : zCode := [some (.lconst 0, 1, 0), some (.lstore_n 2, 1, 0), some (.iconst 0, 1, 0), some (.istore 4, 2, 0), none, some (.iload 4, 2, 0), none, some (.aload_n 0, 1, 0), some (.arraylength, 1, 0), some (.if_icmp .ge 35, 3, 0), none, none, some (.iload 4, 2, 0), none, some (.aload_n 1, 1, 0), some (.arraylength, 1, 0), some (.if_icmp .ge 28, 3, 0), none, none, some (.aload_n 0, 1, 0), some (.iload 4, 2, 0), none, some (.laload, 1, 0), some (.aload_n 1, 1, 0), some (.iload 4, 2, 0), none, some (.laload, 1, 0), some (.lcmp, 1, 0), some (.ifCond .eq 10, 3, 0), none, none, some (.lload_n 2, 1, 0), some (.lconst 1, 1, 0), some (.iload 4, 2, 0), none, some (.lshl, 1, 0), some (.lor, 1, 0), some (.lstore_n 2, 1, 0), some (.iinc 4 1, 3, 0), none, none, some (.goto (-36), 3, 0), none, none, some (.lload_n 2, 1, 0), some (.lreturn, 1, 0)]
set_option maxRecDepth 20000 in
def zk_X11_make : zCode := [some (.aload_n 0, 1, 0), some (.getfield 2346, 3, 62), none, none, some (.iload_n 1, 1, 0), some (.invokevirtual 57, 3, 117), none, none, some (.ifnull 14, 3, 0), none, none, some (.aload_n 0, 1, 0), some (.getfield 2314, 3, 24), none, none, some (.iload_n 1, 1, 0), some (.invokevirtual 70, 3, 274), none, none, some (.ifCond .ne 15, 3, 0), none, none, some (.aload_n 0, 1, 0), some (.getfield 2326, 3, 42), none, none, some (.iconst 2, 1, 0), some (.dup2, 1, 0), some (.iaload, 1, 0), some (.iconst 1, 1, 0), some (.iadd, 1, 0), some (.iastore, 1, 0), some (.iconst (-1), 1, 0), some (.ireturn, 1, 0), some (.aload_n 0, 1, 0), some (.getfield 2314, 3, 24), none, none, some (.invokevirtual 66, 3, 240), none, none, some (.aload_n 0, 1, 0), some (.getfield 2314, 3, 24), none, none, some (.iload_n 1, 1, 0), some (.invokevirtual 75, 3, 277), none, none, some (.ireturn, 1, 0)]
set_option maxRecDepth 20000 in
def zk_X11_copy : zCode := [some (.aload_n 0, 1, 0), some (.getfield 2346, 3, 62), none, none, some (.iload_n 1, 1, 0), some (.invokevirtual 57, 3, 117), none, none, some (.ifnull 26, 3, 0), none, none, some (.aload_n 0, 1, 0), some (.getfield 2314, 3, 24), none, none, some (.iload_n 1, 1, 0), some (.iload_n 2, 1, 0), some (.invokevirtual 69, 3, 260), none, none, some (.ifCond .eq 14, 3, 0), none, none, some (.aload_n 0, 1, 0), some (.getfield 2314, 3, 24), none, none, some (.iload_n 1, 1, 0), some (.invokevirtual 70, 3, 274), none, none, some (.ifCond .ne 15, 3, 0), none, none, some (.aload_n 0, 1, 0), some (.getfield 2326, 3, 42), none, none, some (.iconst 2, 1, 0), some (.dup2, 1, 0), some (.iaload, 1, 0), some (.iconst 1, 1, 0), some (.iadd, 1, 0), some (.iastore, 1, 0), some (.iconst (-1), 1, 0), some (.ireturn, 1, 0), some (.aload_n 0, 1, 0), some (.getfield 2314, 3, 24), none, none, some (.invokevirtual 66, 3, 240), none, none, some (.aload_n 0, 1, 0), some (.getfield 2314, 3, 24), none, none, some (.iload_n 1, 1, 0), some (.iload_n 2, 1, 0), some (.invokevirtual 76, 3, 280), none, none, some (.ireturn, 1, 0)]
set_option maxRecDepth 20000 in
def zk_X11_drop : zCode := [some (.aload_n 0, 1, 0), some (.getfield 2346, 3, 62), none, none, some (.iload_n 1, 1, 0), some (.invokevirtual 57, 3, 117), none, none, some (.ifnull 15, 3, 0), none, none, some (.aload_n 0, 1, 0), some (.getfield 2314, 3, 24), none, none, some (.iload_n 1, 1, 0), some (.iload_n 2, 1, 0), some (.invokevirtual 69, 3, 260), none, none, some (.ifCond .ne 15, 3, 0), none, none, some (.aload_n 0, 1, 0), some (.getfield 2326, 3, 42), none, none, some (.iconst 2, 1, 0), some (.dup2, 1, 0), some (.iaload, 1, 0), some (.iconst 1, 1, 0), some (.iadd, 1, 0), some (.iastore, 1, 0), some (.iconst 0, 1, 0), some (.ireturn, 1, 1), some (.aload_n 0, 1, 0), some (.getfield 2314, 3, 24), none, none, some (.invokevirtual 66, 3, 240), none, none, some (.aload_n 0, 1, 0), some (.getfield 2314, 3, 24), none, none, some (.iload_n 1, 1, 0), some (.iload_n 2, 1, 0), some (.invokevirtual 77, 3, 283), none, none, some (.iconst 1, 1, 0), some (.ireturn, 1, 1)]
set_option maxRecDepth 20000 in
def zk_X11_chance : zCode := [some (.iload_n 1, 1, 0), some (.iconst 1, 1, 0), some (.if_icmp .lt 19, 3, 0), none, none, some (.iload_n 1, 1, 0), some (.bipush 20, 2, 0), none, some (.if_icmp .gt 13, 3, 0), none, none, some (.aload_n 0, 1, 0), some (.getfield 2346, 3, 62), none, none, some (.getfield 776, 3, 95), none, none, some (.ifCond .ne 15, 3, 0), none, none, some (.aload_n 0, 1, 0), some (.getfield 2326, 3, 42), none, none, some (.iconst 2, 1, 0), some (.dup2, 1, 0), some (.iaload, 1, 0), some (.iconst 1, 1, 0), some (.iadd, 1, 0), some (.iastore, 1, 0), some (.iconst (-1), 1, 0), some (.ireturn, 1, 0), some (.aload_n 0, 1, 0), some (.getfield 2314, 3, 24), none, none, some (.invokevirtual 66, 3, 240), none, none, some (.iconst 0, 1, 0), some (.istore_n 2, 1, 0), some (.iconst 0, 1, 0), some (.istore_n 3, 1, 0), some (.iload_n 3, 1, 0), some (.iload_n 1, 1, 0), some (.if_icmp .ge 19, 3, 0), none, none, some (.aload_n 0, 1, 0), some (.invokevirtual 155, 3, 287), none, none, some (.ifCond .eq 6, 3, 0), none, none, some (.iinc 2 1, 3, 0), none, none, some (.iinc 3 1, 3, 0), none, none, some (.goto (-18), 3, 0), none, none, some (.iload_n 2, 1, 0), some (.ireturn, 1, 0)]
set_option maxRecDepth 20000 in
def zk_X11_makeByChance : zCode := [some (.aload_n 0, 1, 0), some (.aload_n 0, 1, 0), some (.getfield 2346, 3, 62), none, none, some (.getfield 776, 3, 95), none, none, some (.invokevirtual 156, 3, 290), none, none, some (.istore_n 1, 1, 0), some (.aload_n 0, 1, 0), some (.getfield 2346, 3, 62), none, none, some (.iload_n 1, 1, 0), some (.invokevirtual 57, 3, 117), none, none, some (.astore_n 2, 1, 0), some (.aload_n 2, 1, 0), some (.ifnull 14, 3, 0), none, none, some (.aload_n 0, 1, 0), some (.getfield 2314, 3, 24), none, none, some (.iload_n 1, 1, 0), some (.invokevirtual 70, 3, 274), none, none, some (.ifCond .ne 5, 3, 0), none, none, some (.iconst 0, 1, 0), some (.ireturn, 1, 1), some (.aload_n 0, 1, 0), some (.getfield 2314, 3, 24), none, none, some (.iload_n 1, 1, 0), some (.invokevirtual 75, 3, 277), none, none, some (.istore_n 3, 1, 0), some (.iconst 0, 1, 0), some (.istore 4, 2, 0), none, some (.iload 4, 2, 0), none, some (.aload_n 2, 1, 0), some (.getfield 1556, 3, 121), none, none, some (.if_icmp .ge 91, 3, 0), none, none, some (.aload_n 2, 1, 0), some (.iload 4, 2, 0), none, some (.invokevirtual 99, 3, 133), none, none, some (.ifCond .eq 76, 3, 0), none, none, some (.aload_n 2, 1, 0), some (.getfield 1542, 3, 149), none, none, some (.iload 4, 2, 0), none, some (.iaload, 1, 0), some (.istore 5, 2, 0), none, some (.aload_n 2, 1, 0), some (.getfield 1546, 3, 152), none, none, some (.iload 4, 2, 0), none, some (.iaload, 1, 0), some (.istore 6, 2, 0), none, some (.iconst 0, 1, 0), some (.istore 7, 2, 0), none, some (.iload 7, 2, 0), none, some (.iload 6, 2, 0), none, some (.if_icmp .ge 48, 3, 0), none, none, some (.iload 5, 2, 0), none, some (.aload_n 0, 1, 0), some (.sipush 4000, 3, 0), none, none, some (.invokevirtual 156, 3, 290), none, none, some (.sipush 2000, 3, 0), none, none, some (.isub, 1, 0), some (.i2l, 1, 0), some (.invokestatic 37, 3, 243), none, none, some (.lstore 8, 2, 0), none, some (.aload_n 0, 1, 0), some (.getfield 2314, 3, 24), none, none, some (.iload_n 1, 1, 0), some (.aload_n 2, 1, 0), some (.iload 4, 2, 0), none, some (.iload_n 3, 1, 0), some (.iload 6, 2, 0), none, some (.imul, 1, 0), some (.iload 7, 2, 0), none, some (.iadd, 1, 0), some (.lload 8, 2, 0), none, some (.invokevirtual 82, 3, 247), none, none, some (.iinc 7 1, 3, 0), none, none, some (.goto (-49), 3, 0), none, none, some (.iinc 4 1, 3, 0), none, none, some (.goto (-94), 3, 0), none, none, some (.iconst 1, 1, 0), some (.ireturn, 1, 1)]
set_option maxRecDepth 20000 in
def zk_X11_draw : zCode := [some (.aload_n 0, 1, 0), some (.ldc2_w 14, 3, 293), none, none, some (.aload_n 0, 1, 0), some (.getfield 2356, 3, 66), none, none, some (.i2l, 1, 0), some (.lmul, 1, 0), some (.ldc2_w 15, 3, 295), none, none, some (.ladd, 1, 0), some (.ldc2_w 16, 3, 297), none, none, some (.land, 1, 0), some (.l2i, 1, 0), some (.putfield 2356, 3, 66), none, none, some (.iload_n 1, 1, 0), some (.iconst 1, 1, 0), some (.if_icmp .ge 7, 3, 0), none, none, some (.iconst 0, 1, 0), some (.goto 12, 3, 0), none, none, some (.aload_n 0, 1, 0), some (.getfield 2356, 3, 66), none, none, some (.bipush 64, 2, 0), none, some (.idiv, 1, 0), some (.iload_n 1, 1, 0), some (.irem, 1, 0), some (.ireturn, 1, 0)]
set_option maxRecDepth 20000 in
def zk_X11_cross : zCode := [some (.aload_n 0, 1, 0), some (.getfield 2346, 3, 62), none, none, some (.iload_n 1, 1, 0), some (.invokevirtual 58, 3, 155), none, none, some (.astore_n 3, 1, 0), some (.aload_n 3, 1, 0), some (.ifnull 32, 3, 0), none, none, some (.aload_n 0, 1, 0), some (.getfield 2314, 3, 24), none, none, some (.aload_n 3, 1, 0), some (.getfield 516, 3, 159), none, none, some (.iload_n 2, 1, 0), some (.invokevirtual 69, 3, 260), none, none, some (.ifCond .eq 17, 3, 0), none, none, some (.aload_n 0, 1, 0), some (.getfield 2314, 3, 24), none, none, some (.aload_n 3, 1, 0), some (.getfield 520, 3, 164), none, none, some (.invokevirtual 70, 3, 274), none, none, some (.ifCond .ne 15, 3, 0), none, none, some (.aload_n 0, 1, 0), some (.getfield 2326, 3, 42), none, none, some (.iconst 3, 1, 0), some (.dup2, 1, 0), some (.iaload, 1, 0), some (.iconst 1, 1, 0), some (.iadd, 1, 0), some (.iastore, 1, 0), some (.iconst (-1), 1, 0), some (.ireturn, 1, 0), some (.aload_n 0, 1, 0), some (.getfield 2314, 3, 24), none, none, some (.invokevirtual 66, 3, 240), none, none, some (.aload_n 0, 1, 0), some (.aload_n 3, 1, 0), some (.iload_n 2, 1, 0), some (.invokevirtual 167, 3, 299), none, none, some (.aload_n 0, 1, 0), some (.getfield 2314, 3, 24), none, none, some (.aload_n 3, 1, 0), some (.getfield 520, 3, 164), none, none, some (.invokevirtual 75, 3, 277), none, none, some (.istore 4, 2, 0), none, some (.aload_n 0, 1, 0), some (.getfield 2314, 3, 24), none, none, some (.aload_n 3, 1, 0), some (.getfield 520, 3, 164), none, none, some (.iload 4, 2, 0), none, some (.aload_n 0, 1, 0), some (.getfield 2338, 3, 53), none, none, some (.invokevirtual 87, 3, 303), none, none, some (.aload_n 0, 1, 0), some (.getfield 2318, 3, 31), none, none, some (.getfield 258, 3, 307), none, none, some (.iconst 0, 1, 0), some (.aload_n 0, 1, 0), some (.getfield 2330, 3, 46), none, none, some (.iconst 0, 1, 0), some (.bipush 6, 2, 0), none, some (.invokestatic 900, 3, 310), none, none, some (.aload_n 0, 1, 0), some (.iconst 1, 1, 0), some (.putfield 2351, 3, 91), none, none, some (.iload 4, 2, 0), none, some (.ireturn, 1, 0)]
set_option maxRecDepth 20000 in
def zk_X11_account : zCode := [some (.aload_n 0, 1, 0), some (.getfield 2351, 3, 91), none, none, some (.ifCond .eq 22, 3, 0), none, none, some (.iload_n 1, 1, 0), some (.ifCond .lt 18, 3, 0), none, none, some (.iload_n 1, 1, 0), some (.bipush 6, 2, 0), none, some (.if_icmp .ge 12, 3, 0), none, none, some (.aload_n 0, 1, 0), some (.getfield 2330, 3, 46), none, none, some (.iload_n 1, 1, 0), some (.iaload, 1, 0), some (.goto 4, 3, 0), none, none, some (.iconst (-1), 1, 0), some (.ireturn, 1, 0)]
set_option maxRecDepth 20000 in
def zk_X11_would : zCode := [some (.aload_n 0, 1, 0), some (.getfield 2346, 3, 62), none, none, some (.iload_n 1, 1, 0), some (.invokevirtual 58, 3, 155), none, none, some (.astore 4, 2, 0), none, some (.aload 4, 2, 0), none, some (.ifnull 19, 3, 0), none, none, some (.aload_n 0, 1, 0), some (.getfield 2314, 3, 24), none, none, some (.aload 4, 2, 0), none, some (.getfield 516, 3, 159), none, none, some (.iload_n 2, 1, 0), some (.invokevirtual 69, 3, 260), none, none, some (.ifCond .ne 5, 3, 0), none, none, some (.iconst (-1), 1, 0), some (.ireturn, 1, 0), some (.iload_n 3, 1, 0), some (.ifCond .lt 9, 3, 0), none, none, some (.iload_n 3, 1, 0), some (.bipush 6, 2, 0), none, some (.if_icmp .lt 5, 3, 0), none, none, some (.iconst (-1), 1, 0), some (.ireturn, 1, 0), some (.aload_n 0, 1, 0), some (.aload 4, 2, 0), none, some (.iload_n 2, 1, 0), some (.invokevirtual 167, 3, 299), none, none, some (.aload_n 0, 1, 0), some (.getfield 2318, 3, 31), none, none, some (.getfield 258, 3, 307), none, none, some (.iload_n 3, 1, 0), some (.iaload, 1, 0), some (.ireturn, 1, 0)]
set_option maxRecDepth 20000 in
def zk_X11_round : zCode := [some (.aload_n 0, 1, 0), some (.getfield 2346, 3, 62), none, none, some (.iload_n 1, 1, 0), some (.invokevirtual 58, 3, 155), none, none, some (.astore 4, 2, 0), none, some (.aload_n 0, 1, 0), some (.getfield 2346, 3, 62), none, none, some (.iload_n 2, 1, 0), some (.invokevirtual 58, 3, 155), none, none, some (.astore 5, 2, 0), none, some (.aload 4, 2, 0), none, some (.ifnull 18, 3, 0), none, none, some (.aload 5, 2, 0), none, some (.ifnull 13, 3, 0), none, none, some (.aload 5, 2, 0), none, some (.aload 4, 2, 0), none, some (.invokevirtual 51, 3, 316), none, none, some (.ifCond .ne 7, 3, 0), none, none, some (.ldc2_w 13, 3, 217), none, none, some (.lreturn, 1, 0), some (.aload_n 0, 1, 0), some (.getfield 2314, 3, 24), none, none, some (.aload 4, 2, 0), none, some (.getfield 516, 3, 159), none, none, some (.iload_n 3, 1, 0), some (.invokevirtual 69, 3, 260), none, none, some (.ifCond .ne 7, 3, 0), none, none, some (.ldc2_w 13, 3, 217), none, none, some (.lreturn, 1, 0), some (.aload_n 0, 1, 0), some (.aload 4, 2, 0), none, some (.iload_n 3, 1, 0), some (.invokevirtual 167, 3, 299), none, none, some (.aload_n 0, 1, 0), some (.getfield 2318, 3, 31), none, none, some (.aload_n 0, 1, 0), some (.getfield 2346, 3, 62), none, none, some (.aload 5, 2, 0), none, some (.aload_n 0, 1, 0), some (.getfield 2338, 3, 53), none, none, some (.aload_n 0, 1, 0), some (.getfield 2342, 3, 56), none, none, some (.invokevirtual 27, 3, 320), none, none, some (.aload_n 0, 1, 0), some (.getfield 2334, 3, 49), none, none, some (.aload_n 0, 1, 0), some (.getfield 2342, 3, 56), none, none, some (.invokestatic 150, 3, 267), none, none, some (.lreturn, 1, 0)]
set_option maxRecDepth 20000 in
def zk_X11_proved : zCode := [some (.aload_n 0, 1, 0), some (.getfield 2346, 3, 62), none, none, some (.iload_n 1, 1, 0), some (.invokevirtual 58, 3, 155), none, none, some (.astore_n 3, 1, 0), some (.aload_n 0, 1, 0), some (.getfield 2346, 3, 62), none, none, some (.iload_n 2, 1, 0), some (.invokevirtual 58, 3, 155), none, none, some (.astore 4, 2, 0), none, some (.aload_n 3, 1, 0), some (.ifnull 17, 3, 0), none, none, some (.aload 4, 2, 0), none, some (.ifnull 12, 3, 0), none, none, some (.aload 4, 2, 0), none, some (.aload_n 3, 1, 0), some (.invokevirtual 51, 3, 316), none, none, some (.ifCond .ne 5, 3, 0), none, none, some (.iconst (-1), 1, 0), some (.ireturn, 1, 0), some (.aload_n 0, 1, 0), some (.getfield 2346, 3, 62), none, none, some (.aload_n 3, 1, 0), some (.getfield 516, 3, 159), none, none, some (.invokevirtual 57, 3, 117), none, none, some (.astore 5, 2, 0), none, some (.aload_n 0, 1, 0), some (.getfield 2346, 3, 62), none, none, some (.aload_n 3, 1, 0), some (.getfield 520, 3, 164), none, none, some (.invokevirtual 57, 3, 117), none, none, some (.astore 6, 2, 0), none, some (.aload 5, 2, 0), none, some (.ifnull 8, 3, 0), none, none, some (.aload 6, 2, 0), none, some (.ifnonnull 5, 3, 0), none, none, some (.iconst (-1), 1, 0), some (.ireturn, 1, 0), some (.aload_n 3, 1, 0), some (.aload 4, 2, 0), none, some (.aload 5, 2, 0), none, some (.aload 6, 2, 0), none, some (.invokevirtual 52, 3, 324), none, none, some (.ireturn, 1, 0)]
set_option maxRecDepth 20000 in
def zk_X11_way : zCode := [some (.aload_n 0, 1, 0), some (.getfield 2346, 3, 62), none, none, some (.iload_n 1, 1, 0), some (.invokevirtual 57, 3, 117), none, none, some (.ifnull 19, 3, 0), none, none, some (.aload_n 0, 1, 0), some (.getfield 2346, 3, 62), none, none, some (.iload_n 2, 1, 0), some (.invokevirtual 57, 3, 117), none, none, some (.ifnull 8, 3, 0), none, none, some (.iload_n 1, 1, 0), some (.iload_n 2, 1, 0), some (.if_icmp .ne 5, 3, 0), none, none, some (.iconst (-1), 1, 0), some (.ireturn, 1, 0), some (.aload_n 0, 1, 0), some (.getfield 2322, 3, 38), none, none, some (.aload_n 0, 1, 0), some (.getfield 2346, 3, 62), none, none, some (.iload_n 1, 1, 0), some (.iload_n 2, 1, 0), some (.invokevirtual 119, 3, 328), none, none, some (.ifCond .ne 5, 3, 0), none, none, some (.iconst (-1), 1, 0), some (.ireturn, 1, 0), some (.iload_n 3, 1, 0), some (.iconst (-1), 1, 0), some (.if_icmp .ne 13, 3, 0), none, none, some (.aload_n 0, 1, 0), some (.getfield 2322, 3, 38), none, none, some (.getfield 2064, 3, 332), none, none, some (.goto 11, 3, 0), none, none, some (.aload_n 0, 1, 0), some (.getfield 2322, 3, 38), none, none, some (.iload_n 3, 1, 0), some (.invokevirtual 118, 3, 335), none, none, some (.ireturn, 1, 0)]
set_option maxRecDepth 20000 in
def zk_X11_least : zCode := [some (.aload_n 0, 1, 0), some (.getfield 2346, 3, 62), none, none, some (.iload_n 1, 1, 0), some (.invokevirtual 57, 3, 117), none, none, some (.astore 5, 2, 0), none, some (.aload 5, 2, 0), none, some (.ifnull 31, 3, 0), none, none, some (.aload_n 0, 1, 0), some (.getfield 2346, 3, 62), none, none, some (.iload_n 3, 1, 0), some (.invokevirtual 57, 3, 117), none, none, some (.ifnull 20, 3, 0), none, none, some (.iload_n 1, 1, 0), some (.iload_n 3, 1, 0), some (.if_icmp .eq 15, 3, 0), none, none, some (.aload_n 0, 1, 0), some (.getfield 2314, 3, 24), none, none, some (.iload_n 1, 1, 0), some (.iload_n 2, 1, 0), some (.invokevirtual 69, 3, 260), none, none, some (.ifCond .ne 5, 3, 0), none, none, some (.iconst (-1), 1, 0), some (.ireturn, 1, 0), some (.aload_n 0, 1, 0), some (.getfield 2314, 3, 24), none, none, some (.iload_n 1, 1, 0), some (.aload 5, 2, 0), none, some (.iload_n 2, 1, 0), some (.aload_n 0, 1, 0), some (.getfield 2334, 3, 49), none, none, some (.invokevirtual 86, 3, 263), none, none, some (.aload_n 0, 1, 0), some (.getfield 2322, 3, 38), none, none, some (.aload_n 0, 1, 0), some (.getfield 2346, 3, 62), none, none, some (.iload_n 1, 1, 0), some (.iload_n 3, 1, 0), some (.aload_n 0, 1, 0), some (.getfield 2334, 3, 49), none, none, some (.aload_n 0, 1, 0), some (.getfield 2318, 3, 31), none, none, some (.invokevirtual 120, 3, 338), none, none, some (.ifCond .ne 5, 3, 0), none, none, some (.iconst (-1), 1, 0), some (.ireturn, 1, 0), some (.iload 4, 2, 0), none, some (.iconst (-1), 1, 0), some (.if_icmp .ne 13, 3, 0), none, none, some (.aload_n 0, 1, 0), some (.getfield 2322, 3, 38), none, none, some (.getfield 2068, 3, 342), none, none, some (.goto 12, 3, 0), none, none, some (.aload_n 0, 1, 0), some (.getfield 2322, 3, 38), none, none, some (.iload 4, 2, 0), none, some (.invokevirtual 118, 3, 335), none, none, some (.ireturn, 1, 0)]
set_option maxRecDepth 20000 in
def zk_X11_origins : zCode := [some (.aload_n 0, 1, 0), some (.getfield 2346, 3, 62), none, none, some (.iload_n 1, 1, 0), some (.invokevirtual 58, 3, 155), none, none, some (.astore_n 3, 1, 0), some (.aload_n 3, 1, 0), some (.ifnull 18, 3, 0), none, none, some (.aload_n 0, 1, 0), some (.getfield 2314, 3, 24), none, none, some (.aload_n 3, 1, 0), some (.getfield 520, 3, 164), none, none, some (.iload_n 2, 1, 0), some (.invokevirtual 69, 3, 260), none, none, some (.ifCond .ne 5, 3, 0), none, none, some (.iconst (-1), 1, 0), some (.ireturn, 1, 0), some (.aload_n 0, 1, 0), some (.getfield 2346, 3, 62), none, none, some (.aload_n 3, 1, 0), some (.getfield 520, 3, 164), none, none, some (.invokevirtual 57, 3, 117), none, none, some (.astore 4, 2, 0), none, some (.aload 4, 2, 0), none, some (.ifnonnull 5, 3, 0), none, none, some (.iconst (-1), 1, 0), some (.ireturn, 1, 0), some (.aload_n 0, 1, 0), some (.getfield 2314, 3, 24), none, none, some (.aload_n 3, 1, 0), some (.getfield 520, 3, 164), none, none, some (.aload 4, 2, 0), none, some (.iload_n 2, 1, 0), some (.aload_n 0, 1, 0), some (.getfield 2342, 3, 56), none, none, some (.invokevirtual 86, 3, 263), none, none, some (.iconst 0, 1, 0), some (.istore 5, 2, 0), none, some (.iconst 0, 1, 0), some (.istore 6, 2, 0), none, some (.iload 6, 2, 0), none, some (.aload_n 0, 1, 0), some (.getfield 2314, 3, 24), none, none, some (.aload_n 3, 1, 0), some (.getfield 516, 3, 159), none, none, some (.invokevirtual 68, 3, 107), none, none, some (.if_icmp .ge 41, 3, 0), none, none, some (.aload_n 0, 1, 0), some (.aload_n 3, 1, 0), some (.iload 6, 2, 0), none, some (.invokevirtual 167, 3, 299), none, none, some (.aload_n 0, 1, 0), some (.getfield 2338, 3, 53), none, none, some (.aload_n 0, 1, 0), some (.getfield 2342, 3, 56), none, none, some (.invokestatic 150, 3, 267), none, none, some (.lconst 0, 1, 0), some (.lcmp, 1, 0), some (.ifCond .ne 12, 3, 0), none, none, some (.iload 5, 2, 0), none, some (.iconst 1, 1, 0), some (.iload 6, 2, 0), none, some (.ishl, 1, 0), some (.ior, 1, 0), some (.istore 5, 2, 0), none, some (.iinc 6 1, 3, 0), none, none, some (.goto (-51), 3, 0), none, none, some (.iload 5, 2, 0), none, some (.ireturn, 1, 0)]
set_option maxRecDepth 20000 in
def zk_X11_tells : zCode := [some (.aload_n 0, 1, 0), some (.getfield 2346, 3, 62), none, none, some (.iload_n 1, 1, 0), some (.invokevirtual 57, 3, 117), none, none, some (.astore_n 3, 1, 0), some (.aload_n 3, 1, 0), some (.ifnull 23, 3, 0), none, none, some (.aload_n 0, 1, 0), some (.getfield 2314, 3, 24), none, none, some (.iload_n 1, 1, 0), some (.invokevirtual 68, 3, 107), none, none, some (.ifCond .eq 12, 3, 0), none, none, some (.iload_n 2, 1, 0), some (.ifCond .lt 8, 3, 0), none, none, some (.iload_n 2, 1, 0), some (.iconst 1, 1, 0), some (.if_icmp .le 5, 3, 0), none, none, some (.iconst (-1), 1, 0), some (.ireturn, 1, 0), some (.iconst (-1), 1, 0), some (.istore 4, 2, 0), none, some (.bipush 9, 2, 0), none, some (.istore 5, 2, 0), none, some (.iconst 0, 1, 0), some (.istore 6, 2, 0), none, some (.iload 6, 2, 0), none, some (.aload_n 3, 1, 0), some (.getfield 1556, 3, 121), none, none, some (.if_icmp .ge 37, 3, 0), none, none, some (.aload_n 0, 1, 0), some (.getfield 2314, 3, 24), none, none, some (.iload_n 1, 1, 0), some (.aload_n 3, 1, 0), some (.iload 6, 2, 0), none, some (.invokevirtual 88, 3, 345), none, none, some (.istore 7, 2, 0), none, some (.iload 7, 2, 0), none, some (.iload 5, 2, 0), none, some (.if_icmp .ge 11, 3, 0), none, none, some (.iload 6, 2, 0), none, some (.istore 4, 2, 0), none, some (.iload 7, 2, 0), none, some (.istore 5, 2, 0), none, some (.iinc 6 1, 3, 0), none, none, some (.goto (-40), 3, 0), none, none, some (.iload_n 2, 1, 0), some (.ifCond .ne 8, 3, 0), none, none, some (.iload 4, 2, 0), none, some (.goto 5, 3, 0), none, none, some (.iload 5, 2, 0), none, some (.ireturn, 1, 0)]
set_option maxRecDepth 20000 in
def zk_X11_idle : zCode := [some (.aload_n 0, 1, 0), some (.getfield 2346, 3, 62), none, none, some (.iload_n 1, 1, 0), some (.invokevirtual 57, 3, 117), none, none, some (.astore_n 3, 1, 0), some (.aload_n 3, 1, 0), some (.ifnull 12, 3, 0), none, none, some (.iload_n 2, 1, 0), some (.ifCond .lt 8, 3, 0), none, none, some (.iload_n 2, 1, 0), some (.iconst 1, 1, 0), some (.if_icmp .le 5, 3, 0), none, none, some (.iconst (-1), 1, 0), some (.ireturn, 1, 0), some (.iconst 0, 1, 0), some (.istore 4, 2, 0), none, some (.iconst 0, 1, 0), some (.istore 5, 2, 0), none, some (.iload 5, 2, 0), none, some (.aload_n 0, 1, 0), some (.getfield 2346, 3, 62), none, none, some (.getfield 780, 3, 98), none, none, some (.if_icmp .ge 77, 3, 0), none, none, some (.aload_n 0, 1, 0), some (.getfield 2346, 3, 62), none, none, some (.iload 5, 2, 0), none, some (.invokevirtual 58, 3, 155), none, none, some (.astore 6, 2, 0), none, some (.aload 6, 2, 0), none, some (.ifnull 26, 3, 0), none, none, some (.iload_n 2, 1, 0), some (.ifCond .ne 22, 3, 0), none, none, some (.aload 6, 2, 0), none, some (.getfield 520, 3, 164), none, none, some (.iload_n 1, 1, 0), some (.if_icmp .ne 13, 3, 0), none, none, some (.iload 4, 2, 0), none, some (.aload 6, 2, 0), none, some (.invokevirtual 50, 3, 173), none, none, some (.ior, 1, 0), some (.istore 4, 2, 0), none, some (.aload 6, 2, 0), none, some (.ifnull 27, 3, 0), none, none, some (.iload_n 2, 1, 0), some (.iconst 1, 1, 0), some (.if_icmp .ne 22, 3, 0), none, none, some (.aload 6, 2, 0), none, some (.getfield 516, 3, 159), none, none, some (.iload_n 1, 1, 0), some (.if_icmp .ne 13, 3, 0), none, none, some (.iload 4, 2, 0), none, some (.aload 6, 2, 0), none, some (.invokevirtual 49, 3, 170), none, none, some (.ior, 1, 0), some (.istore 4, 2, 0), none, some (.iinc 5 1, 3, 0), none, none, some (.goto (-83), 3, 0), none, none, some (.iconst 1, 1, 0), some (.aload_n 3, 1, 0), some (.getfield 1556, 3, 121), none, none, some (.ishl, 1, 0), some (.iconst 1, 1, 0), some (.isub, 1, 0), some (.iload 4, 2, 0), none, some (.iconst (-1), 1, 0), some (.ixor, 1, 0), some (.iand, 1, 0), some (.ireturn, 1, 0)]
set_option maxRecDepth 20000 in
def zk_X11_carryRecord : zCode := [some (.aload_n 0, 1, 0), some (.getfield 2346, 3, 62), none, none, some (.aload_n 1, 1, 0), some (.getfield 516, 3, 159), none, none, some (.invokevirtual 57, 3, 117), none, none, some (.astore_n 3, 1, 0), some (.aload_n 3, 1, 0), some (.ifnull 40, 3, 0), none, none, some (.aload_n 0, 1, 0), some (.getfield 2314, 3, 24), none, none, some (.aload_n 1, 1, 0), some (.getfield 516, 3, 159), none, none, some (.aload_n 3, 1, 0), some (.iload_n 2, 1, 0), some (.aload_n 0, 1, 0), some (.getfield 2334, 3, 49), none, none, some (.invokevirtual 86, 3, 263), none, none, some (.aload_n 0, 1, 0), some (.getfield 2318, 3, 31), none, none, some (.aload_n 0, 1, 0), some (.getfield 2346, 3, 62), none, none, some (.aload_n 1, 1, 0), some (.aload_n 0, 1, 0), some (.getfield 2334, 3, 49), none, none, some (.aload_n 0, 1, 0), some (.getfield 2338, 3, 53), none, none, some (.invokevirtual 27, 3, 320), none, none, some (.return_, 1, 0)]
set_option maxRecDepth 20000 in
def zk_X11_undo : zCode := [some (.aload_n 0, 1, 0), some (.getfield 2314, 3, 24), none, none, some (.invokevirtual 67, 3, 349), none, none, some (.ifCond .ne 15, 3, 0), none, none, some (.aload_n 0, 1, 0), some (.getfield 2326, 3, 42), none, none, some (.iconst 4, 1, 0), some (.dup2, 1, 0), some (.iaload, 1, 0), some (.iconst 1, 1, 0), some (.iadd, 1, 0), some (.iastore, 1, 0), some (.iconst 0, 1, 0), some (.ireturn, 1, 1), some (.iconst 1, 1, 0), some (.ireturn, 1, 1)]
set_option maxRecDepth 20000 in
def zk_X11_seed : zCode := [some (.iload_n 1, 1, 0), some (.ifCond .ge 15, 3, 0), none, none, some (.aload_n 0, 1, 0), some (.getfield 2326, 3, 42), none, none, some (.iconst 5, 1, 0), some (.dup2, 1, 0), some (.iaload, 1, 0), some (.iconst 1, 1, 0), some (.iadd, 1, 0), some (.iastore, 1, 0), some (.iconst 0, 1, 0), some (.ireturn, 1, 1), some (.aload_n 0, 1, 0), some (.iload_n 1, 1, 0), some (.putfield 2356, 3, 66), none, none, some (.iconst 1, 1, 0), some (.ireturn, 1, 1)]
set_option maxRecDepth 20000 in
def zk_X11_status : zCode := [some (.iload_n 1, 1, 0), some (.ifCond .lt 21, 3, 0), none, none, some (.iload_n 1, 1, 0), some (.aload_n 0, 1, 0), some (.getfield 2326, 3, 42), none, none, some (.arraylength, 1, 0), some (.if_icmp .ge 12, 3, 0), none, none, some (.aload_n 0, 1, 0), some (.getfield 2326, 3, 42), none, none, some (.iload_n 1, 1, 0), some (.iaload, 1, 0), some (.goto 4, 3, 0), none, none, some (.iconst (-1), 1, 0), some (.ireturn, 1, 0)]
set_option maxRecDepth 20000 in
def zk_X12_init : zCode := [some (.aload_n 0, 1, 0), some (.invokespecial 907, 3, 1), none, none, some (.aload_n 0, 1, 0), some (.sipush 1600, 3, 0), none, none, some (.newarray .int, 2, 0), none, some (.putfield 2562, 3, 7), none, none, some (.aload_n 0, 1, 0), some (.iconst (-1), 1, 0), some (.putfield 2592, 3, 13), none, none, some (.aload_n 0, 1, 0), some (.bipush 6, 2, 0), none, some (.newarray .int, 2, 0), none, some (.putfield 2598, 3, 17), none, none, some (.aload_n 0, 1, 0), some (.bipush 87, 2, 0), none, some (.newarray .char, 2, 0), none, some (.dup, 1, 0), some (.iconst 0, 1, 0), some (.bipush 98, 2, 0), none, some (.castore, 1, 0), some (.dup, 1, 0), some (.iconst 1, 1, 0), some (.bipush 105, 2, 0), none, some (.castore, 1, 0), some (.dup, 1, 0), some (.iconst 2, 1, 0), some (.bipush 116, 2, 0), none, some (.castore, 1, 0), some (.dup, 1, 0), some (.iconst 3, 1, 0), some (.bipush 32, 2, 0), none, some (.castore, 1, 0), some (.dup, 1, 0), some (.iconst 4, 1, 0), some (.bipush 98, 2, 0), none, some (.castore, 1, 0), some (.dup, 1, 0), some (.iconst 5, 1, 0), some (.bipush 121, 2, 0), none, some (.castore, 1, 0), some (.dup, 1, 0), some (.bipush 6, 2, 0), none, some (.bipush 116, 2, 0), none, some (.castore, 1, 0), some (.dup, 1, 0), some (.bipush 7, 2, 0), none, some (.bipush 101, 2, 0), none, some (.castore, 1, 0), some (.dup, 1, 0), some (.bipush 8, 2, 0), none, some (.bipush 32, 2, 0), none, some (.castore, 1, 0), some (.dup, 1, 0), some (.bipush 9, 2, 0), none, some (.bipush 99, 2, 0), none, some (.castore, 1, 0), some (.dup, 1, 0), some (.bipush 10, 2, 0), none, some (.bipush 104, 2, 0), none, some (.castore, 1, 0), some (.dup, 1, 0), some (.bipush 11, 2, 0), none, some (.bipush 97, 2, 0), none, some (.castore, 1, 0), some (.dup, 1, 0), some (.bipush 12, 2, 0), none, some (.bipush 114, 2, 0), none, some (.castore, 1, 0), some (.dup, 1, 0), some (.bipush 13, 2, 0), none, some (.bipush 32, 2, 0), none, some (.castore, 1, 0), some (.dup, 1, 0), some (.bipush 14, 2, 0), none, some (.bipush 115, 2, 0), none, some (.castore, 1, 0), some (.dup, 1, 0), some (.bipush 15, 2, 0), none, some (.bipush 104, 2, 0), none, some (.castore, 1, 0), some (.dup, 1, 0), some (.bipush 16, 2, 0), none, some (.bipush 111, 2, 0), none, some (.castore, 1, 0), some (.dup, 1, 0), some (.bipush 17, 2, 0), none, some (.bipush 114, 2, 0), none, some (.castore, 1, 0), some (.dup, 1, 0), some (.bipush 18, 2, 0), none, some (.bipush 116, 2, 0), none, some (.castore, 1, 0), some (.dup, 1, 0), some (.bipush 19, 2, 0), none, some (.bipush 32, 2, 0), none, some (.castore, 1, 0), some (.dup, 1, 0), some (.bipush 20, 2, 0), none, some (.bipush 105, 2, 0), none, some (.castore, 1, 0), some (.dup, 1, 0), some (.bipush 21, 2, 0), none, some (.bipush 110, 2, 0), none, some (.castore, 1, 0), some (.dup, 1, 0), some (.bipush 22, 2, 0), none, some (.bipush 116, 2, 0), none, some (.castore, 1, 0), some (.dup, 1, 0), some (.bipush 23, 2, 0), none, some (.bipush 32, 2, 0), none, some (.castore, 1, 0), some (.dup, 1, 0), some (.bipush 24, 2, 0), none, some (.bipush 108, 2, 0), none, some (.castore, 1, 0), some (.dup, 1, 0), some (.bipush 25, 2, 0), none, some (.bipush 111, 2, 0), none, some (.castore, 1, 0), some (.dup, 1, 0), some (.bipush 26, 2, 0), none, some (.bipush 110, 2, 0), none, some (.castore, 1, 0), some (.dup, 1, 0), some (.bipush 27, 2, 0), none, some (.bipush 103, 2, 0), none, some (.castore, 1, 0), some (.dup, 1, 0), some (.bipush 28, 2, 0), none, some (.bipush 32, 2, 0), none, some (.castore, 1, 0), some (.dup, 1, 0), some (.bipush 29, 2, 0), none, some (.bipush 102, 2, 0), none, some (.castore, 1, 0), some (.dup, 1, 0), some (.bipush 30, 2, 0), none, some (.bipush 108, 2, 0), none, some (.castore, 1, 0), some (.dup, 1, 0), some (.bipush 31, 2, 0), none, some (.bipush 111, 2, 0), none, some (.castore, 1, 0), some (.dup, 1, 0), some (.bipush 32, 2, 0), none, some (.bipush 97, 2, 0), none, some (.castore, 1, 0), some (.dup, 1, 0), some (.bipush 33, 2, 0), none, some (.bipush 116, 2, 0), none, some (.castore, 1, 0), some (.dup, 1, 0), some (.bipush 34, 2, 0), none, some (.bipush 32, 2, 0), none, some (.castore, 1, 0), some (.dup, 1, 0), some (.bipush 35, 2, 0), none, some (.bipush 100, 2, 0), none, some (.castore, 1, 0), some (.dup, 1, 0), some (.bipush 36, 2, 0), none, some (.bipush 111, 2, 0), none, some (.castore, 1, 0), some (.dup, 1, 0), some (.bipush 37, 2, 0), none, some (.bipush 117, 2, 0), none, some (.castore, 1, 0), some (.dup, 1, 0), some (.bipush 38, 2, 0), none, some (.bipush 98, 2, 0), none, some (.castore, 1, 0), some (.dup, 1, 0), some (.bipush 39, 2, 0), none, some (.bipush 108, 2, 0), none, some (.castore, 1, 0), some (.dup, 1, 0), some (.bipush 40, 2, 0), none, some (.bipush 101, 2, 0), none, some (.castore, 1, 0), some (.dup, 1, 0), some (.bipush 41, 2, 0), none, some (.bipush 32, 2, 0), none, some (.castore, 1, 0), some (.dup, 1, 0), some (.bipush 42, 2, 0), none, some (.bipush 119, 2, 0), none, some (.castore, 1, 0), some (.dup, 1, 0), some (.bipush 43, 2, 0), none, some (.bipush 111, 2, 0), none, some (.castore, 1, 0), some (.dup, 1, 0), some (.bipush 44, 2, 0), none, some (.bipush 114, 2, 0), none, some (.castore, 1, 0), some (.dup, 1, 0), some (.bipush 45, 2, 0), none, some (.bipush 100, 2, 0), none, some (.castore, 1, 0), some (.dup, 1, 0), some (.bipush 46, 2, 0), none, some (.bipush 32, 2, 0), none, some (.castore, 1, 0), some (.dup, 1, 0), some (.bipush 47, 2, 0), none, some (.bipush 115, 2, 0), none, some (.castore, 1, 0), some (.dup, 1, 0), some (.bipush 48, 2, 0), none, some (.bipush 99, 2, 0), none, some (.castore, 1, 0), some (.dup, 1, 0), some (.bipush 49, 2, 0), none, some (.bipush 104, 2, 0), none, some (.castore, 1, 0), some (.dup, 1, 0), some (.bipush 50, 2, 0), none, some (.bipush 101, 2, 0), none, some (.castore, 1, 0), some (.dup, 1, 0), some (.bipush 51, 2, 0), none, some (.bipush 109, 2, 0), none, some (.castore, 1, 0), some (.dup, 1, 0), some (.bipush 52, 2, 0), none, some (.bipush 101, 2, 0), none, some (.castore, 1, 0), some (.dup, 1, 0), some (.bipush 53, 2, 0), none, some (.bipush 32, 2, 0), none, some (.castore, 1, 0), some (.dup, 1, 0), some (.bipush 54, 2, 0), none, some (.bipush 116, 2, 0), none, some (.castore, 1, 0), some (.dup, 1, 0), some (.bipush 55, 2, 0), none, some (.bipush 105, 2, 0), none, some (.castore, 1, 0), some (.dup, 1, 0), some (.bipush 56, 2, 0), none, some (.bipush 109, 2, 0), none, some (.castore, 1, 0), some (.dup, 1, 0), some (.bipush 57, 2, 0), none, some (.bipush 101, 2, 0), none, some (.castore, 1, 0), some (.dup, 1, 0), some (.bipush 58, 2, 0), none, some (.bipush 115, 2, 0), none, some (.castore, 1, 0), some (.dup, 1, 0), some (.bipush 59, 2, 0), none, some (.bipush 32, 2, 0), none, some (.castore, 1, 0), some (.dup, 1, 0), some (.bipush 60, 2, 0), none, some (.bipush 99, 2, 0), none, some (.castore, 1, 0), some (.dup, 1, 0), some (.bipush 61, 2, 0), none, some (.bipush 114, 2, 0), none, some (.castore, 1, 0), some (.dup, 1, 0), some (.bipush 62, 2, 0), none, some (.bipush 111, 2, 0), none, some (.castore, 1, 0), some (.dup, 1, 0), some (.bipush 63, 2, 0), none, some (.bipush 115, 2, 0), none, some (.castore, 1, 0), some (.dup, 1, 0), some (.bipush 64, 2, 0), none, some (.bipush 115, 2, 0), none, some (.castore, 1, 0), some (.dup, 1, 0), some (.bipush 65, 2, 0), none, some (.bipush 32, 2, 0), none, some (.castore, 1, 0), some (.dup, 1, 0), some (.bipush 66, 2, 0), none, some (.bipush 116, 2, 0), none, some (.castore, 1, 0), some (.dup, 1, 0), some (.bipush 67, 2, 0), none, some (.bipush 111, 2, 0), none, some (.castore, 1, 0), some (.dup, 1, 0), some (.bipush 68, 2, 0), none, some (.bipush 32, 2, 0), none, some (.castore, 1, 0), some (.dup, 1, 0), some (.bipush 69, 2, 0), none, some (.bipush 102, 2, 0), none, some (.castore, 1, 0), some (.dup, 1, 0), some (.bipush 70, 2, 0), none, some (.bipush 114, 2, 0), none, some (.castore, 1, 0), some (.dup, 1, 0), some (.bipush 71, 2, 0), none, some (.bipush 111, 2, 0), none, some (.castore, 1, 0), some (.dup, 1, 0), some (.bipush 72, 2, 0), none, some (.bipush 109, 2, 0), none, some (.castore, 1, 0), some (.dup, 1, 0), some (.bipush 73, 2, 0), none, some (.bipush 32, 2, 0), none, some (.castore, 1, 0), some (.dup, 1, 0), some (.bipush 74, 2, 0), none, some (.bipush 98, 2, 0), none, some (.castore, 1, 0), some (.dup, 1, 0), some (.bipush 75, 2, 0), none, some (.bipush 121, 2, 0), none, some (.castore, 1, 0), some (.dup, 1, 0), some (.bipush 76, 2, 0), none, some (.bipush 32, 2, 0), none, some (.castore, 1, 0), some (.dup, 1, 0), some (.bipush 77, 2, 0), none, some (.bipush 111, 2, 0), none, some (.castore, 1, 0), some (.dup, 1, 0), some (.bipush 78, 2, 0), none, some (.bipush 118, 2, 0), none, some (.castore, 1, 0), some (.dup, 1, 0), some (.bipush 79, 2, 0), none, some (.bipush 101, 2, 0), none, some (.castore, 1, 0), some (.dup, 1, 0), some (.bipush 80, 2, 0), none, some (.bipush 114, 2, 0), none, some (.castore, 1, 0), some (.dup, 1, 0), some (.bipush 81, 2, 0), none, some (.bipush 32, 2, 0), none, some (.castore, 1, 0), some (.dup, 1, 0), some (.bipush 82, 2, 0), none, some (.bipush 112, 2, 0), none, some (.castore, 1, 0), some (.dup, 1, 0), some (.bipush 83, 2, 0), none, some (.bipush 108, 2, 0), none, some (.castore, 1, 0), some (.dup, 1, 0), some (.bipush 84, 2, 0), none, some (.bipush 117, 2, 0), none, some (.castore, 1, 0), some (.dup, 1, 0), some (.bipush 85, 2, 0), none, some (.bipush 115, 2, 0), none, some (.castore, 1, 0), some (.dup, 1, 0), some (.bipush 86, 2, 0), none, some (.bipush 32, 2, 0), none, some (.castore, 1, 0), some (.putfield 2602, 3, 20), none, none, some (.aload_n 0, 1, 0), some (.sipush 170, 3, 0), none, none, some (.newarray .int, 2, 0), none, some (.putfield 2610, 3, 24), none, none, some (.aload_n 0, 1, 0), some (.sipush 170, 3, 0), none, none, some (.newarray .int, 2, 0), none, some (.putfield 2614, 3, 27), none, none, some (.aload_n 0, 1, 0), some (.sipush 587, 3, 0), none, none, some (.newarray .long, 2, 0), none, some (.putfield 2626, 3, 30), none, none, some (.aload_n 0, 1, 0), some (.bipush 81, 2, 0), none, some (.newarray .int, 2, 0), none, some (.dup, 1, 0), some (.iconst 0, 1, 0), some (.iconst 1, 1, 0), some (.iastore, 1, 0), some (.dup, 1, 0), some (.iconst 1, 1, 0), some (.iconst 0, 1, 0), some (.iastore, 1, 0), some (.dup, 1, 0), some (.iconst 2, 1, 0), some (.iconst 0, 1, 0), some (.iastore, 1, 0), some (.dup, 1, 0), some (.iconst 3, 1, 0), some (.iconst 0, 1, 0), some (.iastore, 1, 0), some (.dup, 1, 0), some (.iconst 4, 1, 0), some (.iconst 0, 1, 0), some (.iastore, 1, 0), some (.dup, 1, 0), some (.iconst 5, 1, 0), some (.iconst 0, 1, 0), some (.iastore, 1, 0), some (.dup, 1, 0), some (.bipush 6, 2, 0), none, some (.iconst 0, 1, 0), some (.iastore, 1, 0), some (.dup, 1, 0), some (.bipush 7, 2, 0), none, some (.iconst 0, 1, 0), some (.iastore, 1, 0), some (.dup, 1, 0), some (.bipush 8, 2, 0), none, some (.iconst 0, 1, 0), some (.iastore, 1, 0), some (.dup, 1, 0), some (.bipush 9, 2, 0), none, some (.iconst 0, 1, 0), some (.iastore, 1, 0), some (.dup, 1, 0), some (.bipush 10, 2, 0), none, some (.iconst 1, 1, 0), some (.iastore, 1, 0), some (.dup, 1, 0), some (.bipush 11, 2, 0), none, some (.iconst 0, 1, 0), some (.iastore, 1, 0), some (.dup, 1, 0), some (.bipush 12, 2, 0), none, some (.iconst 1, 1, 0), some (.iastore, 1, 0), some (.dup, 1, 0), some (.bipush 13, 2, 0), none, some (.iconst 1, 1, 0), some (.iastore, 1, 0), some (.dup, 1, 0), some (.bipush 14, 2, 0), none, some (.iconst 1, 1, 0), some (.iastore, 1, 0), some (.dup, 1, 0), some (.bipush 15, 2, 0), none, some (.iconst 1, 1, 0), some (.iastore, 1, 0), some (.dup, 1, 0), some (.bipush 16, 2, 0), none, some (.iconst 1, 1, 0), some (.iastore, 1, 0), some (.dup, 1, 0), some (.bipush 17, 2, 0), none, some (.iconst 0, 1, 0), some (.iastore, 1, 0), some (.dup, 1, 0), some (.bipush 18, 2, 0), none, some (.iconst 0, 1, 0), some (.iastore, 1, 0), some (.dup, 1, 0), some (.bipush 19, 2, 0), none, some (.iconst 0, 1, 0), some (.iastore, 1, 0), some (.dup, 1, 0), some (.bipush 20, 2, 0), none, some (.iconst 1, 1, 0), some (.iastore, 1, 0), some (.dup, 1, 0), some (.bipush 21, 2, 0), none, some (.iconst 0, 1, 0), some (.iastore, 1, 0), some (.dup, 1, 0), some (.bipush 22, 2, 0), none, some (.iconst 1, 1, 0), some (.iastore, 1, 0), some (.dup, 1, 0), some (.bipush 23, 2, 0), none, some (.iconst 1, 1, 0), some (.iastore, 1, 0), some (.dup, 1, 0), some (.bipush 24, 2, 0), none, some (.iconst 1, 1, 0), some (.iastore, 1, 0), some (.dup, 1, 0), some (.bipush 25, 2, 0), none, some (.iconst 1, 1, 0), some (.iastore, 1, 0), some (.dup, 1, 0), some (.bipush 26, 2, 0), none, some (.iconst 0, 1, 0), some (.iastore, 1, 0), some (.dup, 1, 0), some (.bipush 27, 2, 0), none, some (.iconst 0, 1, 0), some (.iastore, 1, 0), some (.dup, 1, 0), some (.bipush 28, 2, 0), none, some (.iconst 0, 1, 0), some (.iastore, 1, 0), some (.dup, 1, 0), some (.bipush 29, 2, 0), none, some (.iconst 0, 1, 0), some (.iastore, 1, 0), some (.dup, 1, 0), some (.bipush 30, 2, 0), none, some (.iconst 1, 1, 0), some (.iastore, 1, 0), some (.dup, 1, 0), some (.bipush 31, 2, 0), none, some (.iconst 1, 1, 0), some (.iastore, 1, 0), some (.dup, 1, 0), some (.bipush 32, 2, 0), none, some (.iconst 1, 1, 0), some (.iastore, 1, 0), some (.dup, 1, 0), some (.bipush 33, 2, 0), none, some (.iconst 1, 1, 0), some (.iastore, 1, 0), some (.dup, 1, 0), some (.bipush 34, 2, 0), none, some (.iconst 1, 1, 0), some (.iastore, 1, 0), some (.dup, 1, 0), some (.bipush 35, 2, 0), none, some (.iconst 0, 1, 0), some (.iastore, 1, 0), some (.dup, 1, 0), some (.bipush 36, 2, 0), none, some (.iconst 0, 1, 0), some (.iastore, 1, 0), some (.dup, 1, 0), some (.bipush 37, 2, 0), none, some (.iconst 0, 1, 0), some (.iastore, 1, 0), some (.dup, 1, 0), some (.bipush 38, 2, 0), none, some (.iconst 0, 1, 0), some (.iastore, 1, 0), some (.dup, 1, 0), some (.bipush 39, 2, 0), none, some (.iconst 0, 1, 0), some (.iastore, 1, 0), some (.dup, 1, 0), some (.bipush 40, 2, 0), none, some (.iconst 1, 1, 0), some (.iastore, 1, 0), some (.dup, 1, 0), some (.bipush 41, 2, 0), none, some (.iconst 1, 1, 0), some (.iastore, 1, 0), some (.dup, 1, 0), some (.bipush 42, 2, 0), none, some (.iconst 1, 1, 0), some (.iastore, 1, 0), some (.dup, 1, 0), some (.bipush 43, 2, 0), none, some (.iconst 1, 1, 0), some (.iastore, 1, 0), some (.dup, 1, 0), some (.bipush 44, 2, 0), none, some (.iconst 0, 1, 0), some (.iastore, 1, 0), some (.dup, 1, 0), some (.bipush 45, 2, 0), none, some (.iconst 0, 1, 0), some (.iastore, 1, 0), some (.dup, 1, 0), some (.bipush 46, 2, 0), none, some (.iconst 0, 1, 0), some (.iastore, 1, 0), some (.dup, 1, 0), some (.bipush 47, 2, 0), none, some (.iconst 0, 1, 0), some (.iastore, 1, 0), some (.dup, 1, 0), some (.bipush 48, 2, 0), none, some (.iconst 0, 1, 0), some (.iastore, 1, 0), some (.dup, 1, 0), some (.bipush 49, 2, 0), none, some (.iconst 0, 1, 0), some (.iastore, 1, 0), some (.dup, 1, 0), some (.bipush 50, 2, 0), none, some (.iconst 1, 1, 0), some (.iastore, 1, 0), some (.dup, 1, 0), some (.bipush 51, 2, 0), none, some (.iconst 1, 1, 0), some (.iastore, 1, 0), some (.dup, 1, 0), some (.bipush 52, 2, 0), none, some (.iconst 1, 1, 0), some (.iastore, 1, 0), some (.dup, 1, 0), some (.bipush 53, 2, 0), none, some (.iconst 0, 1, 0), some (.iastore, 1, 0), some (.dup, 1, 0), some (.bipush 54, 2, 0), none, some (.iconst 0, 1, 0), some (.iastore, 1, 0), some (.dup, 1, 0), some (.bipush 55, 2, 0), none, some (.iconst 0, 1, 0), some (.iastore, 1, 0), some (.dup, 1, 0), some (.bipush 56, 2, 0), none, some (.iconst 0, 1, 0), some (.iastore, 1, 0), some (.dup, 1, 0), some (.bipush 57, 2, 0), none, some (.iconst 0, 1, 0), some (.iastore, 1, 0), some (.dup, 1, 0), some (.bipush 58, 2, 0), none, some (.iconst 0, 1, 0), some (.iastore, 1, 0), some (.dup, 1, 0), some (.bipush 59, 2, 0), none, some (.iconst 0, 1, 0), some (.iastore, 1, 0), some (.dup, 1, 0), some (.bipush 60, 2, 0), none, some (.iconst 1, 1, 0), some (.iastore, 1, 0), some (.dup, 1, 0), some (.bipush 61, 2, 0), none, some (.iconst 1, 1, 0), some (.iastore, 1, 0), some (.dup, 1, 0), some (.bipush 62, 2, 0), none, some (.iconst 0, 1, 0), some (.iastore, 1, 0), some (.dup, 1, 0), some (.bipush 63, 2, 0), none, some (.iconst 0, 1, 0), some (.iastore, 1, 0), some (.dup, 1, 0), some (.bipush 64, 2, 0), none, some (.iconst 0, 1, 0), some (.iastore, 1, 0), some (.dup, 1, 0), some (.bipush 65, 2, 0), none, some (.iconst 0, 1, 0), some (.iastore, 1, 0), some (.dup, 1, 0), some (.bipush 66, 2, 0), none, some (.iconst 0, 1, 0), some (.iastore, 1, 0), some (.dup, 1, 0), some (.bipush 67, 2, 0), none, some (.iconst 0, 1, 0), some (.iastore, 1, 0), some (.dup, 1, 0), some (.bipush 68, 2, 0), none, some (.iconst 0, 1, 0), some (.iastore, 1, 0), some (.dup, 1, 0), some (.bipush 69, 2, 0), none, some (.iconst 0, 1, 0), some (.iastore, 1, 0), some (.dup, 1, 0), some (.bipush 70, 2, 0), none, some (.iconst 1, 1, 0), some (.iastore, 1, 0), some (.dup, 1, 0), some (.bipush 71, 2, 0), none, some (.iconst 0, 1, 0), some (.iastore, 1, 0), some (.dup, 1, 0), some (.bipush 72, 2, 0), none, some (.iconst 0, 1, 0), some (.iastore, 1, 0), some (.dup, 1, 0), some (.bipush 73, 2, 0), none, some (.iconst 0, 1, 0), some (.iastore, 1, 0), some (.dup, 1, 0), some (.bipush 74, 2, 0), none, some (.iconst 0, 1, 0), some (.iastore, 1, 0), some (.dup, 1, 0), some (.bipush 75, 2, 0), none, some (.iconst 0, 1, 0), some (.iastore, 1, 0), some (.dup, 1, 0), some (.bipush 76, 2, 0), none, some (.iconst 0, 1, 0), some (.iastore, 1, 0), some (.dup, 1, 0), some (.bipush 77, 2, 0), none, some (.iconst 0, 1, 0), some (.iastore, 1, 0), some (.dup, 1, 0), some (.bipush 78, 2, 0), none, some (.iconst 0, 1, 0), some (.iastore, 1, 0), some (.dup, 1, 0), some (.bipush 79, 2, 0), none, some (.iconst 0, 1, 0), some (.iastore, 1, 0), some (.dup, 1, 0), some (.bipush 80, 2, 0), none, some (.iconst 1, 1, 0), some (.iastore, 1, 0), some (.putfield 2630, 3, 34), none, none, some (.aload_n 0, 1, 0), some (.lconst 1, 1, 0), some (.putfield 2637, 3, 37), none, none, some (.aload_n 0, 1, 0), some (.bipush 24, 2, 0), none, some (.newarray .long, 2, 0), none, some (.putfield 2642, 3, 41), none, none, some (.aload_n 0, 1, 0), some (.bipush 24, 2, 0), none, some (.newarray .long, 2, 0), none, some (.putfield 2646, 3, 44), none, none, some (.aload_n 0, 1, 0), some (.bipush 6, 2, 0), none, some (.newarray .int, 2, 0), none, some (.putfield 2650, 3, 47), none, none, some (.aload_n 0, 1, 0), some (.bipush 24, 2, 0), none, some (.newarray .boolean, 2, 0), none, some (.putfield 2654, 3, 50), none, none, some (.aload_n 0, 1, 0), some (.bipush 24, 2, 0), none, some (.newarray .boolean, 2, 0), none, some (.putfield 2658, 3, 54), none, none, some (.aload_n 0, 1, 0), some (.bipush 6, 2, 0), none, some (.newarray .int, 2, 0), none, some (.putfield 2666, 3, 57), none, none, some (.aload_n 0, 1, 0), some (.iconst 3, 1, 0), some (.newarray .int, 2, 0), none, some (.putfield 2670, 3, 60), none, none, some (.aload_n 0, 1, 0), some (.iconst 3, 1, 0), some (.newarray .int, 2, 0), none, some (.putfield 2674, 3, 63), none, none, some (.aload_n 0, 1, 0), some (.sipush 11740, 3, 0), none, none, some (.newarray .long, 2, 0), none, some (.putfield 2678, 3, 66), none, none, some (.return_, 1, 0)]
set_option maxRecDepth 20000 in
def zk_X12_isIn : zCode := [some (.lload_n 0, 1, 0), some (.lload_n 2, 1, 0), some (.lcmp, 1, 0), some (.ifCond .lt 14, 3, 0), none, none, some (.lload_n 0, 1, 0), some (.lload 4, 2, 0), none, some (.lcmp, 1, 0), some (.ifCond .gt 7, 3, 0), none, none, some (.iconst 1, 1, 0), some (.goto 4, 3, 0), none, none, some (.iconst 0, 1, 0), some (.ireturn, 1, 1)]
set_option maxRecDepth 20000 in
def zk_X12_lessOf : zCode := [some (.iload_n 0, 1, 0), some (.iload_n 1, 1, 0), some (.if_icmp .ge 7, 3, 0), none, none, some (.iload_n 0, 1, 0), some (.goto 4, 3, 0), none, none, some (.iload_n 1, 1, 0), some (.ireturn, 1, 0)]
set_option maxRecDepth 20000 in
def zk_X12_flag : zCode := [some (.iload_n 0, 1, 0), some (.ifCond .eq 7, 3, 0), none, none, some (.iconst 1, 1, 0), some (.goto 4, 3, 0), none, none, some (.iconst 0, 1, 0), some (.ireturn, 1, 0)]
set_option maxRecDepth 20000 in
def zk_X12_refuses : zCode := [some (.aload_n 0, 1, 0), some (.getfield 2598, 3, 17), none, none, some (.iload_n 1, 1, 0), some (.dup2, 1, 0), some (.iaload, 1, 0), some (.iconst 1, 1, 0), some (.iadd, 1, 0), some (.iastore, 1, 0), some (.iconst (-1), 1, 0), some (.ireturn, 1, 0)]
set_option maxRecDepth 20000 in
def zk_X12_isRefused : zCode := [some (.aload_n 0, 1, 0), some (.getfield 2598, 3, 17), none, none, some (.iload_n 1, 1, 0), some (.dup2, 1, 0), some (.iaload, 1, 0), some (.iconst 1, 1, 0), some (.iadd, 1, 0), some (.iastore, 1, 0), some (.iconst 0, 1, 0), some (.ireturn, 1, 1)]
set_option maxRecDepth 20000 in
def zk_X12_feed : zCode := [some (.aload_n 0, 1, 0), some (.getfield 2564, 3, 69), none, none, some (.bipush 20, 2, 0), none, some (.iadd, 1, 0), some (.sipush 1600, 3, 0), none, none, some (.if_icmp .le 9, 3, 0), none, none, some (.aload_n 0, 1, 0), some (.iconst 0, 1, 0), some (.invokevirtual 175, 3, 72), none, none, some (.ireturn, 1, 0), some (.iconst 0, 1, 0), some (.istore 6, 2, 0), none, some (.iload 6, 2, 0), none, some (.bipush 20, 2, 0), none, some (.if_icmp .ge 92, 3, 0), none, none, some (.iload 6, 2, 0), none, some (.iconst 4, 1, 0), some (.if_icmp .ge 7, 3, 0), none, none, some (.iload_n 1, 1, 0), some (.goto 39, 3, 0), none, none, some (.iload 6, 2, 0), none, some (.bipush 8, 2, 0), none, some (.if_icmp .ge 7, 3, 0), none, none, some (.iload_n 2, 1, 0), some (.goto 28, 3, 0), none, none, some (.iload 6, 2, 0), none, some (.bipush 12, 2, 0), none, some (.if_icmp .ge 7, 3, 0), none, none, some (.iload_n 3, 1, 0), some (.goto 17, 3, 0), none, none, some (.iload 6, 2, 0), none, some (.bipush 16, 2, 0), none, some (.if_icmp .ge 8, 3, 0), none, none, some (.iload 4, 2, 0), none, some (.goto 5, 3, 0), none, none, some (.iload 5, 2, 0), none, some (.istore 7, 2, 0), none, some (.aload_n 0, 1, 0), some (.getfield 2562, 3, 7), none, none, some (.aload_n 0, 1, 0), some (.getfield 2564, 3, 69), none, none, some (.iload 7, 2, 0), none, some (.bipush 8, 2, 0), none, some (.iconst 3, 1, 0), some (.iload 6, 2, 0), none, some (.iconst 4, 1, 0), some (.irem, 1, 0), some (.isub, 1, 0), some (.imul, 1, 0), some (.ishr, 1, 0), some (.sipush 255, 3, 0), none, none, some (.iand, 1, 0), some (.iastore, 1, 0), some (.aload_n 0, 1, 0), some (.dup, 1, 0), some (.getfield 2564, 3, 69), none, none, some (.iconst 1, 1, 0), some (.iadd, 1, 0), some (.putfield 2564, 3, 69), none, none, some (.iinc 6 1, 3, 0), none, none, some (.goto (-93), 3, 0), none, none, some (.aload_n 0, 1, 0), some (.getfield 2564, 3, 69), none, none, some (.ireturn, 1, 0)]
set_option maxRecDepth 20000 in
def zk_X12_end : zCode := [some (.iload_n 1, 1, 0), some (.ifCond .lt 11, 3, 0), none, none, some (.iload_n 1, 1, 0), some (.aload_n 0, 1, 0), some (.getfield 2564, 3, 69), none, none, some (.if_icmp .le 9, 3, 0), none, none, some (.aload_n 0, 1, 0), some (.iconst 0, 1, 0), some (.invokevirtual 176, 3, 76), none, none, some (.ireturn, 1, 1), some (.aload_n 0, 1, 0), some (.iload_n 1, 1, 0), some (.putfield 2564, 3, 69), none, none, some (.iconst 1, 1, 0), some (.ireturn, 1, 1)]
set_option maxRecDepth 20000 in
def zk_X12_status : zCode := [some (.iload_n 1, 1, 0), some (.i2l, 1, 0), some (.lconst 0, 1, 0), some (.ldc2_w 17, 3, 80), none, none, some (.invokestatic 172, 3, 82), none, none, some (.ifCond .eq 12, 3, 0), none, none, some (.aload_n 0, 1, 0), some (.getfield 2598, 3, 17), none, none, some (.iload_n 1, 1, 0), some (.iaload, 1, 0), some (.goto 4, 3, 0), none, none, some (.iconst (-1), 1, 0), some (.ireturn, 1, 0)]
set_option maxRecDepth 20000 in
def zk_X12_fault : zCode := [some (.iload_n 1, 1, 0), some (.ifCond .ne 10, 3, 0), none, none, some (.aload_n 0, 1, 0), some (.getfield 2588, 3, 86), none, none, some (.goto 16, 3, 0), none, none, some (.iload_n 1, 1, 0), some (.iconst 1, 1, 0), some (.if_icmp .ne 10, 3, 0), none, none, some (.aload_n 0, 1, 0), some (.getfield 2592, 3, 13), none, none, some (.goto 4, 3, 0), none, none, some (.iconst (-1), 1, 0), some (.ireturn, 1, 0)]
set_option maxRecDepth 20000 in
def zk_X12_fail : zCode := [some (.aload_n 0, 1, 0), some (.getfield 2580, 3, 89), none, none, some (.ifCond .eq 4, 3, 0), none, none, some (.return_, 1, 0), some (.aload_n 0, 1, 0), some (.iload_n 1, 1, 0), some (.putfield 2580, 3, 89), none, none, some (.aload_n 0, 1, 0), some (.iload_n 2, 1, 0), some (.putfield 2584, 3, 92), none, none, some (.return_, 1, 0)]
set_option maxRecDepth 20000 in
def zk_X12_isLetter : zCode := [some (.iload_n 0, 1, 0), some (.bipush 97, 2, 0), none, some (.if_icmp .lt 13, 3, 0), none, none, some (.iload_n 0, 1, 0), some (.bipush 122, 2, 0), none, some (.if_icmp .gt 7, 3, 0), none, none, some (.iconst 1, 1, 0), some (.goto 4, 3, 0), none, none, some (.iconst 0, 1, 0), some (.ireturn, 1, 1)]
set_option maxRecDepth 20000 in
def zk_X12_isDigit : zCode := [some (.iload_n 0, 1, 0), some (.bipush 48, 2, 0), none, some (.if_icmp .lt 13, 3, 0), none, none, some (.iload_n 0, 1, 0), some (.bipush 57, 2, 0), none, some (.if_icmp .gt 7, 3, 0), none, none, some (.iconst 1, 1, 0), some (.goto 4, 3, 0), none, none, some (.iconst 0, 1, 0), some (.ireturn, 1, 1)]
set_option maxRecDepth 20000 in
def zk_X12_look : zCode := [some (.aload_n 0, 1, 0), some (.getfield 2568, 3, 95), none, none, some (.aload_n 0, 1, 0), some (.getfield 2572, 3, 98), none, none, some (.if_icmp .ge 44, 3, 0), none, none, some (.aload_n 0, 1, 0), some (.getfield 2562, 3, 7), none, none, some (.aload_n 0, 1, 0), some (.getfield 2568, 3, 95), none, none, some (.iaload, 1, 0), some (.bipush 10, 2, 0), none, some (.if_icmp .eq 17, 3, 0), none, none, some (.aload_n 0, 1, 0), some (.getfield 2562, 3, 7), none, none, some (.aload_n 0, 1, 0), some (.getfield 2568, 3, 95), none, none, some (.iaload, 1, 0), some (.bipush 32, 2, 0), none, some (.if_icmp .ne 16, 3, 0), none, none, some (.aload_n 0, 1, 0), some (.dup, 1, 0), some (.getfield 2568, 3, 95), none, none, some (.iconst 1, 1, 0), some (.iadd, 1, 0), some (.putfield 2568, 3, 95), none, none, some (.goto (-49), 3, 0), none, none, some (.aload_n 0, 1, 0), some (.getfield 2568, 3, 95), none, none, some (.aload_n 0, 1, 0), some (.getfield 2572, 3, 98), none, none, some (.if_icmp .ge 15, 3, 0), none, none, some (.aload_n 0, 1, 0), some (.getfield 2562, 3, 7), none, none, some (.aload_n 0, 1, 0), some (.getfield 2568, 3, 95), none, none, some (.iaload, 1, 0), some (.goto 4, 3, 0), none, none, some (.iconst (-1), 1, 0), some (.ireturn, 1, 0)]
set_option maxRecDepth 20000 in
def zk_X12_isWordHere : zCode := [some (.aload_n 0, 1, 0), some (.getfield 2580, 3, 89), none, none, some (.ifCond .ne 28, 3, 0), none, none, some (.aload_n 0, 1, 0), some (.invokevirtual 184, 3, 101), none, none, some (.invokestatic 182, 3, 105), none, none, some (.ifCond .eq 18, 3, 0), none, none, some (.aload_n 0, 1, 0), some (.getfield 2568, 3, 95), none, none, some (.aload_n 0, 1, 0), some (.getfield 2576, 3, 108), none, none, some (.if_icmp .eq 7, 3, 0), none, none, some (.iconst 1, 1, 0), some (.goto 4, 3, 0), none, none, some (.iconst 0, 1, 0), some (.ireturn, 1, 1)]
set_option maxRecDepth 20000 in
def zk_X12_takesSign : zCode := [some (.aload_n 0, 1, 0), some (.getfield 2580, 3, 89), none, none, some (.ifCond .ne 11, 3, 0), none, none, some (.aload_n 0, 1, 0), some (.invokevirtual 184, 3, 101), none, none, some (.iload_n 1, 1, 0), some (.if_icmp .eq 5, 3, 0), none, none, some (.iconst 0, 1, 0), some (.ireturn, 1, 1), some (.aload_n 0, 1, 0), some (.dup, 1, 0), some (.getfield 2568, 3, 95), none, none, some (.iconst 1, 1, 0), some (.iadd, 1, 0), some (.putfield 2568, 3, 95), none, none, some (.iconst 1, 1, 0), some (.ireturn, 1, 1)]
set_option maxRecDepth 20000 in
def zk_X12_asksSign : zCode := [some (.aload_n 0, 1, 0), some (.getfield 2580, 3, 89), none, none, some (.ifCond .ne 20, 3, 0), none, none, some (.aload_n 0, 1, 0), some (.iload_n 1, 1, 0), some (.invokevirtual 186, 3, 111), none, none, some (.ifCond .ne 12, 3, 0), none, none, some (.aload_n 0, 1, 0), some (.iconst 1, 1, 0), some (.aload_n 0, 1, 0), some (.getfield 2568, 3, 95), none, none, some (.invokevirtual 181, 3, 114), none, none, some (.return_, 1, 0)]
set_option maxRecDepth 20000 in
def zk_X12_number : zCode := [some (.aload_n 0, 1, 0), some (.getfield 2580, 3, 89), none, none, some (.ifCond .eq 5, 3, 0), none, none, some (.iload_n 1, 1, 0), some (.ireturn, 1, 0), some (.aload_n 0, 1, 0), some (.invokevirtual 184, 3, 101), none, none, some (.invokestatic 183, 3, 118), none, none, some (.ifCond .eq 14, 3, 0), none, none, some (.aload_n 0, 1, 0), some (.getfield 2568, 3, 95), none, none, some (.aload_n 0, 1, 0), some (.getfield 2576, 3, 108), none, none, some (.if_icmp .ne 14, 3, 0), none, none, some (.aload_n 0, 1, 0), some (.iconst 1, 1, 0), some (.aload_n 0, 1, 0), some (.getfield 2568, 3, 95), none, none, some (.invokevirtual 181, 3, 114), none, none, some (.iload_n 1, 1, 0), some (.ireturn, 1, 0), some (.aload_n 0, 1, 0), some (.getfield 2568, 3, 95), none, none, some (.istore_n 3, 1, 0), some (.iconst 0, 1, 0), some (.istore 4, 2, 0), none, some (.aload_n 0, 1, 0), some (.getfield 2568, 3, 95), none, none, some (.aload_n 0, 1, 0), some (.getfield 2572, 3, 98), none, none, some (.if_icmp .ge 72, 3, 0), none, none, some (.aload_n 0, 1, 0), some (.getfield 2562, 3, 7), none, none, some (.aload_n 0, 1, 0), some (.getfield 2568, 3, 95), none, none, some (.iaload, 1, 0), some (.invokestatic 183, 3, 118), none, none, some (.ifCond .eq 57, 3, 0), none, none, some (.aload_n 0, 1, 0), some (.getfield 2568, 3, 95), none, none, some (.iload_n 3, 1, 0), some (.isub, 1, 0), some (.iconst 3, 1, 0), some (.if_icmp .ne 14, 3, 0), none, none, some (.aload_n 0, 1, 0), some (.iconst 1, 1, 0), some (.aload_n 0, 1, 0), some (.getfield 2568, 3, 95), none, none, some (.invokevirtual 181, 3, 114), none, none, some (.iload_n 1, 1, 0), some (.ireturn, 1, 0), some (.bipush 10, 2, 0), none, some (.iload 4, 2, 0), none, some (.imul, 1, 0), some (.aload_n 0, 1, 0), some (.getfield 2562, 3, 7), none, none, some (.aload_n 0, 1, 0), some (.getfield 2568, 3, 95), none, none, some (.iaload, 1, 0), some (.iadd, 1, 0), some (.bipush 48, 2, 0), none, some (.isub, 1, 0), some (.istore 4, 2, 0), none, some (.aload_n 0, 1, 0), some (.dup, 1, 0), some (.getfield 2568, 3, 95), none, none, some (.iconst 1, 1, 0), some (.iadd, 1, 0), some (.putfield 2568, 3, 95), none, none, some (.goto (-77), 3, 0), none, none, some (.aload_n 0, 1, 0), some (.aload_n 0, 1, 0), some (.getfield 2568, 3, 95), none, none, some (.putfield 2576, 3, 108), none, none, some (.iload 4, 2, 0), none, some (.i2l, 1, 0), some (.iload_n 1, 1, 0), some (.i2l, 1, 0), some (.iload_n 2, 1, 0), some (.i2l, 1, 0), some (.invokestatic 172, 3, 82), none, none, some (.ifCond .ne 9, 3, 0), none, none, some (.aload_n 0, 1, 0), some (.iconst 2, 1, 0), some (.iload_n 3, 1, 0), some (.invokevirtual 181, 3, 114), none, none, some (.iload 4, 2, 0), none, some (.ireturn, 1, 0)]
set_option maxRecDepth 20000 in
def zk_X12_ownHere : zCode := [some (.aload_n 0, 1, 0), some (.invokevirtual 185, 3, 121), none, none, some (.ifCond .ne 5, 3, 0), none, none, some (.iconst (-1), 1, 0), some (.ireturn, 1, 0), some (.iconst 0, 1, 0), some (.istore_n 1, 1, 0), some (.aload_n 0, 1, 0), some (.getfield 2568, 3, 95), none, none, some (.iload_n 1, 1, 0), some (.iadd, 1, 0), some (.aload_n 0, 1, 0), some (.getfield 2572, 3, 98), none, none, some (.if_icmp .ge 26, 3, 0), none, none, some (.aload_n 0, 1, 0), some (.getfield 2562, 3, 7), none, none, some (.aload_n 0, 1, 0), some (.getfield 2568, 3, 95), none, none, some (.iload_n 1, 1, 0), some (.iadd, 1, 0), some (.iaload, 1, 0), some (.invokestatic 182, 3, 105), none, none, some (.ifCond .eq 9, 3, 0), none, none, some (.iinc 1 1, 3, 0), none, none, some (.goto (-33), 3, 0), none, none, some (.iconst 0, 1, 0), some (.istore_n 2, 1, 0), some (.iconst 0, 1, 0), some (.istore_n 3, 1, 0), some (.iconst 0, 1, 0), some (.istore 4, 2, 0), none, some (.iload 4, 2, 0), none, some (.aload_n 0, 1, 0), some (.getfield 2602, 3, 20), none, none, some (.arraylength, 1, 0), some (.if_icmp .ge 48, 3, 0), none, none, some (.aload_n 0, 1, 0), some (.getfield 2602, 3, 20), none, none, some (.iload 4, 2, 0), none, some (.caload, 1, 0), some (.bipush 32, 2, 0), none, some (.if_icmp .ne 30, 3, 0), none, none, some (.iload 4, 2, 0), none, some (.iload_n 3, 1, 0), some (.isub, 1, 0), some (.iload_n 1, 1, 0), some (.if_icmp .ne 14, 3, 0), none, none, some (.aload_n 0, 1, 0), some (.iload_n 3, 1, 0), some (.iload_n 1, 1, 0), some (.invokevirtual 190, 3, 125), none, none, some (.ifCond .eq 5, 3, 0), none, none, some (.iload_n 2, 1, 0), some (.ireturn, 1, 0), some (.iinc 2 1, 3, 0), none, none, some (.iload 4, 2, 0), none, some (.iconst 1, 1, 0), some (.iadd, 1, 0), some (.istore_n 3, 1, 0), some (.iinc 4 1, 3, 0), none, none, some (.goto (-52), 3, 0), none, none, some (.iconst (-1), 1, 0), some (.ireturn, 1, 0)]
set_option maxRecDepth 20000 in
def zk_X12_isLike : zCode := [some (.iconst 0, 1, 0), some (.istore_n 3, 1, 0), some (.iload_n 3, 1, 0), some (.iload_n 2, 1, 0), some (.if_icmp .ge 33, 3, 0), none, none, some (.aload_n 0, 1, 0), some (.getfield 2602, 3, 20), none, none, some (.iload_n 1, 1, 0), some (.iload_n 3, 1, 0), some (.iadd, 1, 0), some (.caload, 1, 0), some (.aload_n 0, 1, 0), some (.getfield 2562, 3, 7), none, none, some (.aload_n 0, 1, 0), some (.getfield 2568, 3, 95), none, none, some (.iload_n 3, 1, 0), some (.iadd, 1, 0), some (.iaload, 1, 0), some (.if_icmp .eq 5, 3, 0), none, none, some (.iconst 0, 1, 0), some (.ireturn, 1, 1), some (.iinc 3 1, 3, 0), none, none, some (.goto (-32), 3, 0), none, none, some (.iconst 1, 1, 0), some (.ireturn, 1, 1)]
set_option maxRecDepth 20000 in
def zk_X12_passes : zCode := [some (.aload_n 0, 1, 0), some (.getfield 2568, 3, 95), none, none, some (.aload_n 0, 1, 0), some (.getfield 2572, 3, 98), none, none, some (.if_icmp .ge 31, 3, 0), none, none, some (.aload_n 0, 1, 0), some (.getfield 2562, 3, 7), none, none, some (.aload_n 0, 1, 0), some (.getfield 2568, 3, 95), none, none, some (.iaload, 1, 0), some (.invokestatic 182, 3, 105), none, none, some (.ifCond .eq 16, 3, 0), none, none, some (.aload_n 0, 1, 0), some (.dup, 1, 0), some (.getfield 2568, 3, 95), none, none, some (.iconst 1, 1, 0), some (.iadd, 1, 0), some (.putfield 2568, 3, 95), none, none, some (.goto (-36), 3, 0), none, none, some (.aload_n 0, 1, 0), some (.aload_n 0, 1, 0), some (.getfield 2568, 3, 95), none, none, some (.putfield 2576, 3, 108), none, none, some (.return_, 1, 0)]
set_option maxRecDepth 20000 in
def zk_X12_takes : zCode := [some (.aload_n 0, 1, 0), some (.invokevirtual 189, 3, 129), none, none, some (.iload_n 1, 1, 0), some (.if_icmp .eq 5, 3, 0), none, none, some (.iconst 0, 1, 0), some (.ireturn, 1, 1), some (.aload_n 0, 1, 0), some (.invokevirtual 191, 3, 132), none, none, some (.iconst 1, 1, 0), some (.ireturn, 1, 1)]
set_option maxRecDepth 20000 in
def zk_X12_asks : zCode := [some (.aload_n 0, 1, 0), some (.getfield 2580, 3, 89), none, none, some (.ifCond .ne 20, 3, 0), none, none, some (.aload_n 0, 1, 0), some (.iload_n 1, 1, 0), some (.invokevirtual 192, 3, 135), none, none, some (.ifCond .ne 12, 3, 0), none, none, some (.aload_n 0, 1, 0), some (.iconst 1, 1, 0), some (.aload_n 0, 1, 0), some (.getfield 2568, 3, 95), none, none, some (.invokevirtual 181, 3, 114), none, none, some (.return_, 1, 0)]
set_option maxRecDepth 20000 in
def zk_X12_name : zCode := [some (.aload_n 0, 1, 0), some (.getfield 2580, 3, 89), none, none, some (.ifCond .eq 5, 3, 0), none, none, some (.iconst 0, 1, 0), some (.ireturn, 1, 0), some (.aload_n 0, 1, 0), some (.invokevirtual 185, 3, 121), none, none, some (.ifCond .eq 11, 3, 0), none, none, some (.aload_n 0, 1, 0), some (.invokevirtual 189, 3, 129), none, none, some (.iconst (-1), 1, 0), some (.if_icmp .eq 29, 3, 0), none, none, some (.aload_n 0, 1, 0), some (.iconst 1, 1, 0), some (.aload_n 0, 1, 0), some (.invokevirtual 184, 3, 101), none, none, some (.iconst (-1), 1, 0), some (.if_icmp .ne 10, 3, 0), none, none, some (.aload_n 0, 1, 0), some (.getfield 2572, 3, 98), none, none, some (.goto 7, 3, 0), none, none, some (.aload_n 0, 1, 0), some (.getfield 2568, 3, 95), none, none, some (.invokevirtual 181, 3, 114), none, none, some (.iconst 0, 1, 0), some (.ireturn, 1, 0), some (.aload_n 0, 1, 0), some (.aload_n 0, 1, 0), some (.getfield 2568, 3, 95), none, none, some (.putfield 2604, 3, 138), none, none, some (.iconst 0, 1, 0), some (.istore_n 1, 1, 0), some (.aload_n 0, 1, 0), some (.getfield 2568, 3, 95), none, none, some (.aload_n 0, 1, 0), some (.getfield 2572, 3, 98), none, none, some (.if_icmp .ge 76, 3, 0), none, none, some (.aload_n 0, 1, 0), some (.getfield 2562, 3, 7), none, none, some (.aload_n 0, 1, 0), some (.getfield 2568, 3, 95), none, none, some (.iaload, 1, 0), some (.invokestatic 182, 3, 105), none, none, some (.ifCond .eq 61, 3, 0), none, none, some (.aload_n 0, 1, 0), some (.getfield 2568, 3, 95), none, none, some (.aload_n 0, 1, 0), some (.getfield 2604, 3, 138), none, none, some (.isub, 1, 0), some (.bipush 6, 2, 0), none, some (.if_icmp .ne 14, 3, 0), none, none, some (.aload_n 0, 1, 0), some (.iconst 1, 1, 0), some (.aload_n 0, 1, 0), some (.getfield 2568, 3, 95), none, none, some (.invokevirtual 181, 3, 114), none, none, some (.iconst 0, 1, 0), some (.ireturn, 1, 0), some (.bipush 27, 2, 0), none, some (.iload_n 1, 1, 0), some (.imul, 1, 0), some (.aload_n 0, 1, 0), some (.getfield 2562, 3, 7), none, none, some (.aload_n 0, 1, 0), some (.getfield 2568, 3, 95), none, none, some (.iaload, 1, 0), some (.iadd, 1, 0), some (.bipush 97, 2, 0), none, some (.isub, 1, 0), some (.iconst 1, 1, 0), some (.iadd, 1, 0), some (.istore_n 1, 1, 0), some (.aload_n 0, 1, 0), some (.dup, 1, 0), some (.getfield 2568, 3, 95), none, none, some (.iconst 1, 1, 0), some (.iadd, 1, 0), some (.putfield 2568, 3, 95), none, none, some (.goto (-81), 3, 0), none, none, some (.aload_n 0, 1, 0), some (.aload_n 0, 1, 0), some (.getfield 2568, 3, 95), none, none, some (.putfield 2576, 3, 108), none, none, some (.iload_n 1, 1, 0), some (.ireturn, 1, 0)]
set_option maxRecDepth 20000 in
def zk_X12_schemeAt : zCode := [some (.iconst 2, 1, 0), some (.bipush 20, 2, 0), none, some (.iload_n 0, 1, 0), some (.imul, 1, 0), some (.iadd, 1, 0), some (.iload_n 1, 1, 0), some (.iadd, 1, 0), some (.ireturn, 1, 0)]
set_option maxRecDepth 20000 in
def zk_X12_fieldAt : zCode := [some (.iload_n 0, 1, 0), some (.iconst 2, 1, 0), some (.iconst 3, 1, 0), some (.iload_n 1, 1, 0), some (.imul, 1, 0), some (.iadd, 1, 0), some (.iload_n 2, 1, 0), some (.iadd, 1, 0), some (.invokestatic 195, 3, 141), none, none, some (.ireturn, 1, 0)]
set_option maxRecDepth 20000 in
def zk_X12_crossingAt : zCode := [some (.bipush 62, 2, 0), none, some (.bipush 27, 2, 0), none, some (.iload_n 0, 1, 0), some (.imul, 1, 0), some (.iadd, 1, 0), some (.iload_n 1, 1, 0), some (.iadd, 1, 0), some (.ireturn, 1, 0)]
set_option maxRecDepth 20000 in
def zk_X12_ruleAt : zCode := [some (.iload_n 0, 1, 0), some (.iconst 3, 1, 0), some (.iconst 4, 1, 0), some (.iload_n 1, 1, 0), some (.imul, 1, 0), some (.iadd, 1, 0), some (.iload_n 2, 1, 0), some (.iadd, 1, 0), some (.invokestatic 197, 3, 145), none, none, some (.ireturn, 1, 0)]
set_option maxRecDepth 20000 in
def zk_X12_schemeNamed : zCode := [some (.iconst 0, 1, 0), some (.istore_n 3, 1, 0), some (.iload_n 3, 1, 0), some (.aload_n 1, 1, 0), some (.iconst 0, 1, 0), some (.iaload, 1, 0), some (.if_icmp .ge 22, 3, 0), none, none, some (.aload_n 1, 1, 0), some (.iload_n 3, 1, 0), some (.iconst 0, 1, 0), some (.invokestatic 195, 3, 141), none, none, some (.iaload, 1, 0), some (.iload_n 2, 1, 0), some (.if_icmp .ne 5, 3, 0), none, none, some (.iload_n 3, 1, 0), some (.ireturn, 1, 0), some (.iinc 3 1, 3, 0), none, none, some (.goto (-23), 3, 0), none, none, some (.iconst (-1), 1, 0), some (.ireturn, 1, 0)]
set_option maxRecDepth 20000 in
def zk_X12_fieldNamed : zCode := [some (.iconst 0, 1, 0), some (.istore 4, 2, 0), none, some (.iload 4, 2, 0), none, some (.aload_n 1, 1, 0), some (.iload_n 2, 1, 0), some (.iconst 1, 1, 0), some (.invokestatic 195, 3, 141), none, none, some (.iaload, 1, 0), some (.if_icmp .ge 25, 3, 0), none, none, some (.aload_n 1, 1, 0), some (.iload_n 2, 1, 0), some (.iload 4, 2, 0), none, some (.iconst 0, 1, 0), some (.invokestatic 196, 3, 148), none, none, some (.iaload, 1, 0), some (.iload_n 3, 1, 0), some (.if_icmp .ne 6, 3, 0), none, none, some (.iload 4, 2, 0), none, some (.ireturn, 1, 0), some (.iinc 4 1, 3, 0), none, none, some (.goto (-31), 3, 0), none, none, some (.iconst (-1), 1, 0), some (.ireturn, 1, 0)]
set_option maxRecDepth 20000 in
def zk_X12_fieldTold : zCode := [some (.aload_n 0, 1, 0), some (.getfield 2610, 3, 24), none, none, some (.iload_n 1, 1, 0), some (.iconst 1, 1, 0), some (.invokestatic 195, 3, 141), none, none, some (.iaload, 1, 0), some (.istore_n 2, 1, 0), some (.aload_n 0, 1, 0), some (.invokevirtual 184, 3, 101), none, none, some (.pop, 1, 0), some (.iload_n 2, 1, 0), some (.bipush 6, 2, 0), none, some (.if_icmp .ne 27, 3, 0), none, none, some (.aload_n 0, 1, 0), some (.aload_n 0, 1, 0), some (.getfield 2568, 3, 95), none, none, some (.aload_n 0, 1, 0), some (.getfield 2572, 3, 98), none, none, some (.if_icmp .ne 7, 3, 0), none, none, some (.iconst 1, 1, 0), some (.goto 4, 3, 0), none, none, some (.iconst 5, 1, 0), some (.aload_n 0, 1, 0), some (.getfield 2568, 3, 95), none, none, some (.invokevirtual 181, 3, 114), none, none, some (.aload_n 0, 1, 0), some (.invokevirtual 189, 3, 129), none, none, some (.istore_n 3, 1, 0), some (.aload_n 0, 1, 0), some (.getfield 2580, 3, 89), none, none, some (.ifCond .ne 24, 3, 0), none, none, some (.iload_n 3, 1, 0), some (.i2l, 1, 0), some (.lconst 0, 1, 0), some (.ldc2_w 18, 3, 152), none, none, some (.invokestatic 172, 3, 82), none, none, some (.ifCond .ne 12, 3, 0), none, none, some (.aload_n 0, 1, 0), some (.iconst 1, 1, 0), some (.aload_n 0, 1, 0), some (.getfield 2568, 3, 95), none, none, some (.invokevirtual 181, 3, 114), none, none, some (.aload_n 0, 1, 0), some (.getfield 2580, 3, 89), none, none, some (.ifCond .eq 4, 3, 0), none, none, some (.return_, 1, 0), some (.aload_n 0, 1, 0), some (.invokevirtual 191, 3, 132), none, none, some (.aload_n 0, 1, 0), some (.invokevirtual 194, 3, 154), none, none, some (.istore 4, 2, 0), none, some (.aload_n 0, 1, 0), some (.getfield 2580, 3, 89), none, none, some (.ifCond .ne 27, 3, 0), none, none, some (.aload_n 0, 1, 0), some (.aload_n 0, 1, 0), some (.getfield 2610, 3, 24), none, none, some (.iload_n 1, 1, 0), some (.iload 4, 2, 0), none, some (.invokevirtual 200, 3, 157), none, none, some (.iconst (-1), 1, 0), some (.if_icmp .eq 12, 3, 0), none, none, some (.aload_n 0, 1, 0), some (.iconst 3, 1, 0), some (.aload_n 0, 1, 0), some (.getfield 2604, 3, 138), none, none, some (.invokevirtual 181, 3, 114), none, none, some (.aload_n 0, 1, 0), some (.bipush 10, 2, 0), none, some (.invokevirtual 192, 3, 135), none, none, some (.ifCond .eq 12, 3, 0), none, none, some (.aload_n 0, 1, 0), some (.iconst 1, 1, 0), some (.iconst 4, 1, 0), some (.invokevirtual 188, 3, 161), none, none, some (.goto 4, 3, 0), none, none, some (.iconst 1, 1, 0), some (.istore 5, 2, 0), none, some (.aload_n 0, 1, 0), some (.getfield 2580, 3, 89), none, none, some (.ifCond .eq 4, 3, 0), none, none, some (.return_, 1, 0), some (.aload_n 0, 1, 0), some (.getfield 2610, 3, 24), none, none, some (.iload_n 1, 1, 0), some (.iload_n 2, 1, 0), some (.iconst 0, 1, 0), some (.invokestatic 196, 3, 148), none, none, some (.iload 4, 2, 0), none, some (.iastore, 1, 0), some (.aload_n 0, 1, 0), some (.getfield 2610, 3, 24), none, none, some (.iload_n 1, 1, 0), some (.iload_n 2, 1, 0), some (.iconst 1, 1, 0), some (.invokestatic 196, 3, 148), none, none, some (.iload_n 3, 1, 0), some (.iastore, 1, 0), some (.aload_n 0, 1, 0), some (.getfield 2610, 3, 24), none, none, some (.iload_n 1, 1, 0), some (.iload_n 2, 1, 0), some (.iconst 2, 1, 0), some (.invokestatic 196, 3, 148), none, none, some (.iload 5, 2, 0), none, some (.iastore, 1, 0), some (.aload_n 0, 1, 0), some (.getfield 2610, 3, 24), none, none, some (.iload_n 1, 1, 0), some (.iconst 1, 1, 0), some (.invokestatic 195, 3, 141), none, none, some (.dup2, 1, 0), some (.iaload, 1, 0), some (.iconst 1, 1, 0), some (.iadd, 1, 0), some (.iastore, 1, 0), some (.return_, 1, 0)]
set_option maxRecDepth 20000 in
def zk_X12_schemeTold : zCode := [some (.aload_n 0, 1, 0), some (.getfield 2610, 3, 24), none, none, some (.iconst 0, 1, 0), some (.iaload, 1, 0), some (.istore_n 2, 1, 0), some (.iload_n 2, 1, 0), some (.iconst 3, 1, 0), some (.if_icmp .eq 12, 3, 0), none, none, some (.aload_n 0, 1, 0), some (.getfield 2610, 3, 24), none, none, some (.iconst 1, 1, 0), some (.iaload, 1, 0), some (.ifCond .le 9, 3, 0), none, none, some (.aload_n 0, 1, 0), some (.iconst 5, 1, 0), some (.iload_n 1, 1, 0), some (.invokevirtual 181, 3, 114), none, none, some (.aload_n 0, 1, 0), some (.invokevirtual 194, 3, 154), none, none, some (.istore_n 3, 1, 0), some (.aload_n 0, 1, 0), some (.getfield 2580, 3, 89), none, none, some (.ifCond .ne 25, 3, 0), none, none, some (.aload_n 0, 1, 0), some (.aload_n 0, 1, 0), some (.getfield 2610, 3, 24), none, none, some (.iload_n 3, 1, 0), some (.invokevirtual 199, 3, 164), none, none, some (.iconst (-1), 1, 0), some (.if_icmp .eq 12, 3, 0), none, none, some (.aload_n 0, 1, 0), some (.iconst 3, 1, 0), some (.aload_n 0, 1, 0), some (.getfield 2604, 3, 138), none, none, some (.invokevirtual 181, 3, 114), none, none, some (.aload_n 0, 1, 0), some (.getfield 2580, 3, 89), none, none, some (.ifCond .eq 4, 3, 0), none, none, some (.return_, 1, 0), some (.aload_n 0, 1, 0), some (.getfield 2610, 3, 24), none, none, some (.iload_n 2, 1, 0), some (.iconst 0, 1, 0), some (.invokestatic 195, 3, 141), none, none, some (.iload_n 3, 1, 0), some (.iastore, 1, 0), some (.iconst 1, 1, 0), some (.istore 4, 2, 0), none, some (.iload 4, 2, 0), none, some (.ifCond .eq 19, 3, 0), none, none, some (.aload_n 0, 1, 0), some (.iload_n 2, 1, 0), some (.invokevirtual 201, 3, 168), none, none, some (.aload_n 0, 1, 0), some (.bipush 44, 2, 0), none, some (.invokevirtual 186, 3, 111), none, none, some (.istore 4, 2, 0), none, some (.goto (-18), 3, 0), none, none, some (.aload_n 0, 1, 0), some (.getfield 2610, 3, 24), none, none, some (.iconst 0, 1, 0), some (.dup2, 1, 0), some (.iaload, 1, 0), some (.iconst 1, 1, 0), some (.iadd, 1, 0), some (.iastore, 1, 0), some (.return_, 1, 0)]
set_option maxRecDepth 20000 in
def zk_X12_schemeHere : zCode := [some (.aload_n 0, 1, 0), some (.invokevirtual 194, 3, 154), none, none, some (.istore_n 1, 1, 0), some (.aload_n 0, 1, 0), some (.getfield 2580, 3, 89), none, none, some (.ifCond .ne 15, 3, 0), none, none, some (.aload_n 0, 1, 0), some (.aload_n 0, 1, 0), some (.getfield 2610, 3, 24), none, none, some (.iload_n 1, 1, 0), some (.invokevirtual 199, 3, 164), none, none, some (.goto 4, 3, 0), none, none, some (.iconst 0, 1, 0), some (.istore_n 2, 1, 0), some (.aload_n 0, 1, 0), some (.getfield 2580, 3, 89), none, none, some (.ifCond .ne 17, 3, 0), none, none, some (.iload_n 2, 1, 0), some (.iconst (-1), 1, 0), some (.if_icmp .ne 12, 3, 0), none, none, some (.aload_n 0, 1, 0), some (.iconst 3, 1, 0), some (.aload_n 0, 1, 0), some (.getfield 2604, 3, 138), none, none, some (.invokevirtual 181, 3, 114), none, none, some (.aload_n 0, 1, 0), some (.getfield 2580, 3, 89), none, none, some (.ifCond .ne 7, 3, 0), none, none, some (.iload_n 2, 1, 0), some (.goto 4, 3, 0), none, none, some (.iconst 0, 1, 0), some (.ireturn, 1, 0)]
set_option maxRecDepth 20000 in
def zk_X12_fieldHere : zCode := [some (.aload_n 0, 1, 0), some (.invokevirtual 194, 3, 154), none, none, some (.istore_n 2, 1, 0), some (.aload_n 0, 1, 0), some (.getfield 2580, 3, 89), none, none, some (.ifCond .ne 16, 3, 0), none, none, some (.aload_n 0, 1, 0), some (.aload_n 0, 1, 0), some (.getfield 2610, 3, 24), none, none, some (.iload_n 1, 1, 0), some (.iload_n 2, 1, 0), some (.invokevirtual 200, 3, 157), none, none, some (.goto 4, 3, 0), none, none, some (.iconst 0, 1, 0), some (.istore_n 3, 1, 0), some (.aload_n 0, 1, 0), some (.getfield 2580, 3, 89), none, none, some (.ifCond .ne 17, 3, 0), none, none, some (.iload_n 3, 1, 0), some (.iconst (-1), 1, 0), some (.if_icmp .ne 12, 3, 0), none, none, some (.aload_n 0, 1, 0), some (.iconst 3, 1, 0), some (.aload_n 0, 1, 0), some (.getfield 2604, 3, 138), none, none, some (.invokevirtual 181, 3, 114), none, none, some (.aload_n 0, 1, 0), some (.getfield 2580, 3, 89), none, none, some (.ifCond .ne 7, 3, 0), none, none, some (.iload_n 3, 1, 0), some (.goto 4, 3, 0), none, none, some (.iconst 0, 1, 0), some (.ireturn, 1, 0)]
set_option maxRecDepth 20000 in
def zk_X12_isNumber : zCode := [some (.iload_n 0, 1, 0), some (.iconst 1, 1, 0), some (.if_icmp .lt 13, 3, 0), none, none, some (.iload_n 0, 1, 0), some (.bipush 7, 2, 0), none, some (.if_icmp .gt 7, 3, 0), none, none, some (.iconst 1, 1, 0), some (.goto 4, 3, 0), none, none, some (.iconst 0, 1, 0), some (.ireturn, 1, 1)]
set_option maxRecDepth 20000 in
def zk_X12_kindDrafted : zCode := [some (.aload_n 0, 1, 0), some (.getfield 2610, 3, 24), none, none, some (.iload_n 1, 1, 0), some (.iload_n 2, 1, 0), some (.iconst 1, 1, 0), some (.invokestatic 196, 3, 148), none, none, some (.iaload, 1, 0), some (.ireturn, 1, 0)]
set_option maxRecDepth 20000 in
def zk_X12_ruleTold : zCode := [some (.aload_n 0, 1, 0), some (.getfield 2610, 3, 24), none, none, some (.iload_n 1, 1, 0), some (.iconst 2, 1, 0), some (.invokestatic 197, 3, 145), none, none, some (.iaload, 1, 0), some (.istore 4, 2, 0), none, some (.aload_n 0, 1, 0), some (.invokevirtual 184, 3, 101), none, none, some (.pop, 1, 0), some (.iload 4, 2, 0), none, some (.bipush 6, 2, 0), none, some (.if_icmp .ne 27, 3, 0), none, none, some (.aload_n 0, 1, 0), some (.aload_n 0, 1, 0), some (.getfield 2568, 3, 95), none, none, some (.aload_n 0, 1, 0), some (.getfield 2572, 3, 98), none, none, some (.if_icmp .ne 7, 3, 0), none, none, some (.iconst 1, 1, 0), some (.goto 4, 3, 0), none, none, some (.iconst 5, 1, 0), some (.aload_n 0, 1, 0), some (.getfield 2568, 3, 95), none, none, some (.invokevirtual 181, 3, 114), none, none, some (.aload_n 0, 1, 0), some (.iload_n 3, 1, 0), some (.invokevirtual 204, 3, 172), none, none, some (.istore 5, 2, 0), none, some (.iconst 0, 1, 0), some (.istore 6, 2, 0), none, some (.iload 6, 2, 0), none, some (.iload 4, 2, 0), none, some (.if_icmp .ge 42, 3, 0), none, none, some (.aload_n 0, 1, 0), some (.getfield 2580, 3, 89), none, none, some (.ifCond .ne 35, 3, 0), none, none, some (.aload_n 0, 1, 0), some (.getfield 2610, 3, 24), none, none, some (.iload_n 1, 1, 0), some (.iload 6, 2, 0), none, some (.iconst 0, 1, 0), some (.invokestatic 198, 3, 175), none, none, some (.iaload, 1, 0), some (.iload 5, 2, 0), none, some (.if_icmp .ne 12, 3, 0), none, none, some (.aload_n 0, 1, 0), some (.iconst 3, 1, 0), some (.aload_n 0, 1, 0), some (.getfield 2604, 3, 138), none, none, some (.invokevirtual 181, 3, 114), none, none, some (.iinc 6 1, 3, 0), none, none, some (.goto (-43), 3, 0), none, none, some (.aload_n 0, 1, 0), some (.bipush 13, 2, 0), none, some (.invokevirtual 193, 3, 178), none, none, some (.aload_n 0, 1, 0), some (.getfield 2610, 3, 24), none, none, some (.iload_n 1, 1, 0), some (.iload 4, 2, 0), none, some (.iconst 0, 1, 0), some (.invokestatic 198, 3, 175), none, none, some (.iload 5, 2, 0), none, some (.iastore, 1, 0), some (.aload_n 0, 1, 0), some (.getfield 2580, 3, 89), none, none, some (.ifCond .eq 4, 3, 0), none, none, some (.return_, 1, 0), some (.aload_n 0, 1, 0), some (.invokevirtual 184, 3, 101), none, none, some (.invokestatic 183, 3, 118), none, none, some (.ifCond .eq 57, 3, 0), none, none, some (.aload_n 0, 1, 0), some (.getfield 2568, 3, 95), none, none, some (.istore 6, 2, 0), none, some (.aload_n 0, 1, 0), some (.iconst 0, 1, 0), some (.sipush 999, 3, 0), none, none, some (.invokevirtual 188, 3, 161), none, none, some (.istore 7, 2, 0), none, some (.aload_n 0, 1, 0), some (.getfield 2580, 3, 89), none, none, some (.ifCond .ne 20, 3, 0), none, none, some (.aload_n 0, 1, 0), some (.iload_n 3, 1, 0), some (.iload 5, 2, 0), none, some (.invokevirtual 206, 3, 181), none, none, some (.ifCond .ne 10, 3, 0), none, none, some (.aload_n 0, 1, 0), some (.iconst 4, 1, 0), some (.iload 6, 2, 0), none, some (.invokevirtual 181, 3, 114), none, none, some (.aload_n 0, 1, 0), some (.iload_n 1, 1, 0), some (.iload 4, 2, 0), none, some (.iconst 4, 1, 0), some (.iconst (-1), 1, 0), some (.iload 7, 2, 0), none, some (.invokevirtual 208, 3, 184), none, none, some (.goto 11, 3, 0), none, none, some (.aload_n 0, 1, 0), some (.iload_n 1, 1, 0), some (.iload 4, 2, 0), none, some (.iload_n 2, 1, 0), some (.invokevirtual 209, 3, 188), none, none, some (.aload_n 0, 1, 0), some (.getfield 2610, 3, 24), none, none, some (.iload_n 1, 1, 0), some (.iconst 2, 1, 0), some (.invokestatic 197, 3, 145), none, none, some (.dup2, 1, 0), some (.iaload, 1, 0), some (.iconst 1, 1, 0), some (.iadd, 1, 0), some (.iastore, 1, 0), some (.return_, 1, 0)]
set_option maxRecDepth 20000 in
def zk_X12_rule : zCode := [some (.aload_n 0, 1, 0), some (.getfield 2610, 3, 24), none, none, some (.iload_n 1, 1, 0), some (.iload_n 2, 1, 0), some (.iconst 1, 1, 0), some (.invokestatic 198, 3, 175), none, none, some (.iload_n 3, 1, 0), some (.iastore, 1, 0), some (.aload_n 0, 1, 0), some (.getfield 2610, 3, 24), none, none, some (.iload_n 1, 1, 0), some (.iload_n 2, 1, 0), some (.iconst 2, 1, 0), some (.invokestatic 198, 3, 175), none, none, some (.iload 4, 2, 0), none, some (.iastore, 1, 0), some (.aload_n 0, 1, 0), some (.getfield 2610, 3, 24), none, none, some (.iload_n 1, 1, 0), some (.iload_n 2, 1, 0), some (.iconst 3, 1, 0), some (.invokestatic 198, 3, 175), none, none, some (.iload 5, 2, 0), none, some (.iastore, 1, 0), some (.return_, 1, 0)]
set_option maxRecDepth 20000 in
def zk_X12_sourceTold : zCode := [some (.aload_n 0, 1, 0), some (.iload_n 3, 1, 0), some (.invokevirtual 204, 3, 172), none, none, some (.istore 4, 2, 0), none, some (.aload_n 0, 1, 0), some (.invokevirtual 189, 3, 129), none, none, some (.istore 5, 2, 0), none, some (.iload 5, 2, 0), none, some (.bipush 14, 2, 0), none, some (.if_icmp .ne 7, 3, 0), none, none, some (.iconst 1, 1, 0), some (.goto 26, 3, 0), none, none, some (.iload 5, 2, 0), none, some (.bipush 15, 2, 0), none, some (.if_icmp .ne 7, 3, 0), none, none, some (.iconst 2, 1, 0), some (.goto 15, 3, 0), none, none, some (.iload 5, 2, 0), none, some (.bipush 16, 2, 0), none, some (.if_icmp .ne 7, 3, 0), none, none, some (.iconst 3, 1, 0), some (.goto 4, 3, 0), none, none, some (.iconst 0, 1, 0), some (.istore 6, 2, 0), none, some (.iconst 0, 1, 0), some (.istore 7, 2, 0), none, some (.iload 6, 2, 0), none, some (.ifCond .eq 36, 3, 0), none, none, some (.aload_n 0, 1, 0), some (.iload_n 3, 1, 0), some (.iload 4, 2, 0), none, some (.invokevirtual 206, 3, 181), none, none, some (.invokestatic 205, 3, 192), none, none, some (.ifCond .ne 12, 3, 0), none, none, some (.aload_n 0, 1, 0), some (.iconst 4, 1, 0), some (.aload_n 0, 1, 0), some (.getfield 2568, 3, 95), none, none, some (.invokevirtual 181, 3, 114), none, none, some (.aload_n 0, 1, 0), some (.getfield 2580, 3, 89), none, none, some (.ifCond .ne 7, 3, 0), none, none, some (.aload_n 0, 1, 0), some (.invokevirtual 191, 3, 132), none, none, some (.iload 6, 2, 0), none, some (.iconst 1, 1, 0), some (.if_icmp .eq 9, 3, 0), none, none, some (.iload 6, 2, 0), none, some (.iconst 2, 1, 0), some (.if_icmp .ne 13, 3, 0), none, none, some (.aload_n 0, 1, 0), some (.iconst 1, 1, 0), some (.sipush 999, 3, 0), none, none, some (.invokevirtual 188, 3, 161), none, none, some (.istore 7, 2, 0), none, some (.iload 6, 2, 0), none, some (.iconst 3, 1, 0), some (.if_icmp .ne 39, 3, 0), none, none, some (.aload_n 0, 1, 0), some (.iload_n 3, 1, 0), some (.invokevirtual 204, 3, 172), none, none, some (.istore 7, 2, 0), none, some (.aload_n 0, 1, 0), some (.getfield 2580, 3, 89), none, none, some (.ifCond .ne 25, 3, 0), none, none, some (.aload_n 0, 1, 0), some (.iload_n 3, 1, 0), some (.iload 7, 2, 0), none, some (.invokevirtual 206, 3, 181), none, none, some (.invokestatic 205, 3, 192), none, none, some (.ifCond .ne 12, 3, 0), none, none, some (.aload_n 0, 1, 0), some (.iconst 4, 1, 0), some (.aload_n 0, 1, 0), some (.getfield 2604, 3, 138), none, none, some (.invokevirtual 181, 3, 114), none, none, some (.aload_n 0, 1, 0), some (.iload_n 1, 1, 0), some (.iload_n 2, 1, 0), some (.iload 6, 2, 0), none, some (.iload 4, 2, 0), none, some (.iload 7, 2, 0), none, some (.invokevirtual 208, 3, 184), none, none, some (.return_, 1, 0)]
set_option maxRecDepth 20000 in
def zk_X12_crossTold : zCode := [some (.aload_n 0, 1, 0), some (.getfield 2610, 3, 24), none, none, some (.iconst 1, 1, 0), some (.iaload, 1, 0), some (.istore_n 2, 1, 0), some (.iload_n 2, 1, 0), some (.iconst 4, 1, 0), some (.if_icmp .ne 9, 3, 0), none, none, some (.aload_n 0, 1, 0), some (.iconst 5, 1, 0), some (.iload_n 1, 1, 0), some (.invokevirtual 181, 3, 114), none, none, some (.aload_n 0, 1, 0), some (.invokevirtual 203, 3, 195), none, none, some (.istore_n 3, 1, 0), some (.aload_n 0, 1, 0), some (.bipush 12, 2, 0), none, some (.invokevirtual 193, 3, 178), none, none, some (.aload_n 0, 1, 0), some (.invokevirtual 203, 3, 195), none, none, some (.istore 4, 2, 0), none, some (.aload_n 0, 1, 0), some (.getfield 2580, 3, 89), none, none, some (.ifCond .ne 18, 3, 0), none, none, some (.iload_n 3, 1, 0), some (.iload 4, 2, 0), none, some (.if_icmp .ne 12, 3, 0), none, none, some (.aload_n 0, 1, 0), some (.iconst 3, 1, 0), some (.aload_n 0, 1, 0), some (.getfield 2604, 3, 138), none, none, some (.invokevirtual 181, 3, 114), none, none, some (.aload_n 0, 1, 0), some (.getfield 2580, 3, 89), none, none, some (.ifCond .eq 4, 3, 0), none, none, some (.return_, 1, 0), some (.aload_n 0, 1, 0), some (.getfield 2610, 3, 24), none, none, some (.iload_n 2, 1, 0), some (.iconst 0, 1, 0), some (.invokestatic 197, 3, 145), none, none, some (.iload_n 3, 1, 0), some (.iastore, 1, 0), some (.aload_n 0, 1, 0), some (.getfield 2610, 3, 24), none, none, some (.iload_n 2, 1, 0), some (.iconst 1, 1, 0), some (.invokestatic 197, 3, 145), none, none, some (.iload 4, 2, 0), none, some (.iastore, 1, 0), some (.iconst 1, 1, 0), some (.istore 5, 2, 0), none, some (.iload 5, 2, 0), none, some (.ifCond .eq 22, 3, 0), none, none, some (.aload_n 0, 1, 0), some (.iload_n 2, 1, 0), some (.iload_n 3, 1, 0), some (.iload 4, 2, 0), none, some (.invokevirtual 207, 3, 198), none, none, some (.aload_n 0, 1, 0), some (.bipush 44, 2, 0), none, some (.invokevirtual 186, 3, 111), none, none, some (.istore 5, 2, 0), none, some (.goto (-21), 3, 0), none, none, some (.aload_n 0, 1, 0), some (.getfield 2610, 3, 24), none, none, some (.iconst 1, 1, 0), some (.dup2, 1, 0), some (.iaload, 1, 0), some (.iconst 1, 1, 0), some (.iadd, 1, 0), some (.iastore, 1, 0), some (.return_, 1, 0)]
set_option maxRecDepth 20000 in
def zk_X12_statementTold : zCode := [some (.aload_n 0, 1, 0), some (.getfield 2568, 3, 95), none, none, some (.istore_n 1, 1, 0), some (.aload_n 0, 1, 0), some (.bipush 9, 2, 0), none, some (.invokevirtual 192, 3, 135), none, none, some (.ifCond .eq 11, 3, 0), none, none, some (.aload_n 0, 1, 0), some (.iload_n 1, 1, 0), some (.invokevirtual 202, 3, 201), none, none, some (.goto 35, 3, 0), none, none, some (.aload_n 0, 1, 0), some (.getfield 2610, 3, 24), none, none, some (.iconst 0, 1, 0), some (.iaload, 1, 0), some (.ifCond .le 20, 3, 0), none, none, some (.aload_n 0, 1, 0), some (.bipush 11, 2, 0), none, some (.invokevirtual 192, 3, 135), none, none, some (.ifCond .eq 11, 3, 0), none, none, some (.aload_n 0, 1, 0), some (.iload_n 1, 1, 0), some (.invokevirtual 210, 3, 204), none, none, some (.goto 9, 3, 0), none, none, some (.aload_n 0, 1, 0), some (.iconst 1, 1, 0), some (.iload_n 1, 1, 0), some (.invokevirtual 181, 3, 114), none, none, some (.aload_n 0, 1, 0), some (.bipush 59, 2, 0), none, some (.invokevirtual 187, 3, 207), none, none, some (.aload_n 0, 1, 0), some (.dup, 1, 0), some (.getfield 2620, 3, 210), none, none, some (.iconst 1, 1, 0), some (.iadd, 1, 0), some (.putfield 2620, 3, 210), none, none, some (.return_, 1, 0)]
set_option maxRecDepth 20000 in
def zk_X12_book : zCode := [some (.aload_n 0, 1, 0), some (.aload_n 0, 1, 0), some (.getfield 2564, 3, 69), none, none, some (.putfield 2572, 3, 98), none, none, some (.aload_n 0, 1, 0), some (.iconst 0, 1, 0), some (.putfield 2564, 3, 69), none, none, some (.aload_n 0, 1, 0), some (.iconst 0, 1, 0), some (.putfield 2568, 3, 95), none, none, some (.aload_n 0, 1, 0), some (.iconst (-1), 1, 0), some (.putfield 2576, 3, 108), none, none, some (.aload_n 0, 1, 0), some (.iconst 0, 1, 0), some (.putfield 2580, 3, 89), none, none, some (.aload_n 0, 1, 0), some (.iconst (-1), 1, 0), some (.putfield 2584, 3, 92), none, none, some (.aload_n 0, 1, 0), some (.iconst 0, 1, 0), some (.putfield 2620, 3, 210), none, none, some (.iconst 0, 1, 0), some (.istore_n 1, 1, 0), some (.iload_n 1, 1, 0), some (.sipush 170, 3, 0), none, none, some (.if_icmp .ge 16, 3, 0), none, none, some (.aload_n 0, 1, 0), some (.getfield 2610, 3, 24), none, none, some (.iload_n 1, 1, 0), some (.iconst 0, 1, 0), some (.iastore, 1, 0), some (.iinc 1 1, 3, 0), none, none, some (.goto (-17), 3, 0), none, none, some (.aload_n 0, 1, 0), some (.invokevirtual 184, 3, 101), none, none, some (.iconst (-1), 1, 0), some (.if_icmp .ne 12, 3, 0), none, none, some (.aload_n 0, 1, 0), some (.iconst 1, 1, 0), some (.aload_n 0, 1, 0), some (.getfield 2572, 3, 98), none, none, some (.invokevirtual 181, 3, 114), none, none, some (.aload_n 0, 1, 0), some (.getfield 2580, 3, 89), none, none, some (.ifCond .ne 18, 3, 0), none, none, some (.aload_n 0, 1, 0), some (.invokevirtual 184, 3, 101), none, none, some (.iconst (-1), 1, 0), some (.if_icmp .eq 10, 3, 0), none, none, some (.aload_n 0, 1, 0), some (.invokevirtual 211, 3, 213), none, none, some (.goto (-19), 3, 0), none, none, some (.aload_n 0, 1, 0), some (.aload_n 0, 1, 0), some (.getfield 2580, 3, 89), none, none, some (.putfield 2588, 3, 86), none, none, some (.aload_n 0, 1, 0), some (.aload_n 0, 1, 0), some (.getfield 2584, 3, 92), none, none, some (.putfield 2592, 3, 13), none, none, some (.aload_n 0, 1, 0), some (.getfield 2580, 3, 89), none, none, some (.ifCond .eq 9, 3, 0), none, none, some (.aload_n 0, 1, 0), some (.iconst 1, 1, 0), some (.invokevirtual 175, 3, 72), none, none, some (.ireturn, 1, 0), some (.iconst 0, 1, 0), some (.istore_n 1, 1, 0), some (.iload_n 1, 1, 0), some (.sipush 170, 3, 0), none, none, some (.if_icmp .ge 21, 3, 0), none, none, some (.aload_n 0, 1, 0), some (.getfield 2614, 3, 27), none, none, some (.iload_n 1, 1, 0), some (.aload_n 0, 1, 0), some (.getfield 2610, 3, 24), none, none, some (.iload_n 1, 1, 0), some (.iaload, 1, 0), some (.iastore, 1, 0), some (.iinc 1 1, 3, 0), none, none, some (.goto (-22), 3, 0), none, none, some (.aload_n 0, 1, 0), some (.iconst 1, 1, 0), some (.putfield 2619, 3, 216), none, none, some (.aload_n 0, 1, 0), some (.invokevirtual 226, 3, 220), none, none, some (.aload_n 0, 1, 0), some (.getfield 2620, 3, 210), none, none, some (.ireturn, 1, 0)]
set_option maxRecDepth 20000 in
def zk_X12_isScheme : zCode := [some (.aload_n 0, 1, 0), some (.getfield 2619, 3, 216), none, none, some (.ifCond .eq 25, 3, 0), none, none, some (.iload_n 1, 1, 0), some (.i2l, 1, 0), some (.lconst 0, 1, 0), some (.aload_n 0, 1, 0), some (.getfield 2614, 3, 27), none, none, some (.iconst 0, 1, 0), some (.iaload, 1, 0), some (.iconst 1, 1, 0), some (.isub, 1, 0), some (.i2l, 1, 0), some (.invokestatic 172, 3, 82), none, none, some (.ifCond .eq 7, 3, 0), none, none, some (.iconst 1, 1, 0), some (.goto 4, 3, 0), none, none, some (.iconst 0, 1, 0), some (.ireturn, 1, 1)]
set_option maxRecDepth 20000 in
def zk_X12_fieldMany : zCode := [some (.aload_n 0, 1, 0), some (.getfield 2614, 3, 27), none, none, some (.iload_n 1, 1, 0), some (.iconst 1, 1, 0), some (.invokestatic 195, 3, 141), none, none, some (.iaload, 1, 0), some (.ireturn, 1, 0)]
set_option maxRecDepth 20000 in
def zk_X12_isField : zCode := [some (.aload_n 0, 1, 0), some (.iload_n 1, 1, 0), some (.invokevirtual 213, 3, 223), none, none, some (.ifCond .eq 24, 3, 0), none, none, some (.iload_n 2, 1, 0), some (.i2l, 1, 0), some (.lconst 0, 1, 0), some (.aload_n 0, 1, 0), some (.iload_n 1, 1, 0), some (.invokevirtual 214, 3, 226), none, none, some (.iconst 1, 1, 0), some (.isub, 1, 0), some (.i2l, 1, 0), some (.invokestatic 172, 3, 82), none, none, some (.ifCond .eq 7, 3, 0), none, none, some (.iconst 1, 1, 0), some (.goto 4, 3, 0), none, none, some (.iconst 0, 1, 0), some (.ireturn, 1, 1)]
set_option maxRecDepth 20000 in
def zk_X12_kindOf : zCode := [some (.aload_n 0, 1, 0), some (.getfield 2614, 3, 27), none, none, some (.iload_n 1, 1, 0), some (.iload_n 2, 1, 0), some (.iconst 1, 1, 0), some (.invokestatic 196, 3, 148), none, none, some (.iaload, 1, 0), some (.ireturn, 1, 0)]
set_option maxRecDepth 20000 in
def zk_X12_cellsOf : zCode := [some (.aload_n 0, 1, 0), some (.getfield 2614, 3, 27), none, none, some (.iload_n 1, 1, 0), some (.iload_n 2, 1, 0), some (.iconst 2, 1, 0), some (.invokestatic 196, 3, 148), none, none, some (.iaload, 1, 0), some (.ireturn, 1, 0)]
set_option maxRecDepth 20000 in
def zk_X12_isCrossing : zCode := [some (.aload_n 0, 1, 0), some (.getfield 2619, 3, 216), none, none, some (.ifCond .eq 25, 3, 0), none, none, some (.iload_n 1, 1, 0), some (.i2l, 1, 0), some (.lconst 0, 1, 0), some (.aload_n 0, 1, 0), some (.getfield 2614, 3, 27), none, none, some (.iconst 1, 1, 0), some (.iaload, 1, 0), some (.iconst 1, 1, 0), some (.isub, 1, 0), some (.i2l, 1, 0), some (.invokestatic 172, 3, 82), none, none, some (.ifCond .eq 7, 3, 0), none, none, some (.iconst 1, 1, 0), some (.goto 4, 3, 0), none, none, some (.iconst 0, 1, 0), some (.ireturn, 1, 1)]
set_option maxRecDepth 20000 in
def zk_X12_fromOf : zCode := [some (.aload_n 0, 1, 0), some (.getfield 2614, 3, 27), none, none, some (.iload_n 1, 1, 0), some (.iconst 0, 1, 0), some (.invokestatic 197, 3, 145), none, none, some (.iaload, 1, 0), some (.ireturn, 1, 0)]
set_option maxRecDepth 20000 in
def zk_X12_toOf : zCode := [some (.aload_n 0, 1, 0), some (.getfield 2614, 3, 27), none, none, some (.iload_n 1, 1, 0), some (.iconst 1, 1, 0), some (.invokestatic 197, 3, 145), none, none, some (.iaload, 1, 0), some (.ireturn, 1, 0)]
set_option maxRecDepth 20000 in
def zk_X12_ruleMany : zCode := [some (.aload_n 0, 1, 0), some (.getfield 2614, 3, 27), none, none, some (.iload_n 1, 1, 0), some (.iconst 2, 1, 0), some (.invokestatic 197, 3, 145), none, none, some (.iaload, 1, 0), some (.ireturn, 1, 0)]
set_option maxRecDepth 20000 in
def zk_X12_ruleHas : zCode := [some (.aload_n 0, 1, 0), some (.getfield 2614, 3, 27), none, none, some (.iload_n 1, 1, 0), some (.iload_n 2, 1, 0), some (.iload_n 3, 1, 0), some (.invokestatic 198, 3, 175), none, none, some (.iaload, 1, 0), some (.ireturn, 1, 0)]
set_option maxRecDepth 20000 in
def zk_X12_placeAt : zCode := [some (.bipush 11, 2, 0), none, some (.bipush 32, 2, 0), none, some (.bipush 6, 2, 0), none, some (.iload_n 0, 1, 0), some (.imul, 1, 0), some (.iload_n 1, 1, 0), some (.iadd, 1, 0), some (.imul, 1, 0), some (.iadd, 1, 0), some (.iload_n 2, 1, 0), some (.iadd, 1, 0), some (.ireturn, 1, 0)]
set_option maxRecDepth 20000 in
def zk_X12_recordMany : zCode := [some (.aload_n 0, 1, 0), some (.getfield 2626, 3, 30), none, none, some (.iload_n 1, 1, 0), some (.laload, 1, 0), some (.l2i, 1, 0), some (.ireturn, 1, 0)]
set_option maxRecDepth 20000 in
def zk_X12_isRecord : zCode := [some (.aload_n 0, 1, 0), some (.iload_n 1, 1, 0), some (.invokevirtual 213, 3, 223), none, none, some (.ifCond .eq 24, 3, 0), none, none, some (.iload_n 2, 1, 0), some (.i2l, 1, 0), some (.lconst 0, 1, 0), some (.aload_n 0, 1, 0), some (.iload_n 1, 1, 0), some (.invokevirtual 224, 3, 229), none, none, some (.iconst 1, 1, 0), some (.isub, 1, 0), some (.i2l, 1, 0), some (.invokestatic 172, 3, 82), none, none, some (.ifCond .eq 7, 3, 0), none, none, some (.iconst 1, 1, 0), some (.goto 4, 3, 0), none, none, some (.iconst 0, 1, 0), some (.ireturn, 1, 1)]
set_option maxRecDepth 20000 in
def zk_X12_begins : zCode := [some (.iconst 0, 1, 0), some (.istore_n 1, 1, 0), some (.iload_n 1, 1, 0), some (.sipush 587, 3, 0), none, none, some (.if_icmp .ge 16, 3, 0), none, none, some (.aload_n 0, 1, 0), some (.getfield 2626, 3, 30), none, none, some (.iload_n 1, 1, 0), some (.lconst 0, 1, 0), some (.lastore, 1, 0), some (.iinc 1 1, 3, 0), none, none, some (.goto (-17), 3, 0), none, none, some (.bipush 8, 2, 0), none, some (.newarray .long, 2, 0), none, some (.dup, 1, 0), some (.iconst 0, 1, 0), some (.ldc2_w 19, 3, 232), none, none, some (.lastore, 1, 0), some (.dup, 1, 0), some (.iconst 1, 1, 0), some (.ldc2_w 10, 3, 234), none, none, some (.lastore, 1, 0), some (.dup, 1, 0), some (.iconst 2, 1, 0), some (.ldc2_w 18, 3, 152), none, none, some (.lastore, 1, 0), some (.dup, 1, 0), some (.iconst 3, 1, 0), some (.ldc2_w 11, 3, 236), none, none, some (.lastore, 1, 0), some (.dup, 1, 0), some (.iconst 4, 1, 0), some (.ldc2_w 6, 3, 238), none, none, some (.lastore, 1, 0), some (.dup, 1, 0), some (.iconst 5, 1, 0), some (.lconst 0, 1, 0), some (.lastore, 1, 0), some (.dup, 1, 0), some (.bipush 6, 2, 0), none, some (.lconst 0, 1, 0), some (.lastore, 1, 0), some (.dup, 1, 0), some (.bipush 7, 2, 0), none, some (.lconst 1, 1, 0), some (.lastore, 1, 0), some (.astore_n 1, 1, 0), some (.iconst 0, 1, 0), some (.istore_n 2, 1, 0), some (.iload_n 2, 1, 0), some (.bipush 8, 2, 0), none, some (.if_icmp .ge 20, 3, 0), none, none, some (.aload_n 0, 1, 0), some (.getfield 2626, 3, 30), none, none, some (.iconst 3, 1, 0), some (.iload_n 2, 1, 0), some (.iadd, 1, 0), some (.aload_n 1, 1, 0), some (.iload_n 2, 1, 0), some (.laload, 1, 0), some (.lastore, 1, 0), some (.iinc 2 1, 3, 0), none, none, some (.goto (-20), 3, 0), none, none, some (.aload_n 0, 1, 0), some (.iconst 0, 1, 0), some (.putfield 2663, 3, 240), none, none, some (.aload_n 0, 1, 0), some (.iconst 0, 1, 0), some (.putfield 2680, 3, 243), none, none, some (.return_, 1, 0)]
set_option maxRecDepth 20000 in
def zk_X12_word : zCode := [some (.lconst 0, 1, 0), some (.lstore_n 2, 1, 0), some (.bipush 7, 2, 0), none, some (.istore 4, 2, 0), none, some (.iload 4, 2, 0), none, some (.ifCond .lt 46, 3, 0), none, none, some (.lload_n 0, 1, 0), some (.iconst 5, 1, 0), some (.iload 4, 2, 0), none, some (.imul, 1, 0), some (.lshr, 1, 0), some (.ldc2_w 4, 3, 246), none, none, some (.land, 1, 0), some (.lstore 5, 2, 0), none, some (.lload 5, 2, 0), none, some (.lconst 1, 1, 0), some (.lcmp, 1, 0), some (.ifCond .lt 21, 3, 0), none, none, some (.lload 5, 2, 0), none, some (.ldc2_w 5, 3, 248), none, none, some (.lcmp, 1, 0), some (.ifCond .gt 12, 3, 0), none, none, some (.ldc2_w 20, 3, 250), none, none, some (.lload_n 2, 1, 0), some (.lmul, 1, 0), some (.lload 5, 2, 0), none, some (.ladd, 1, 0), some (.lstore_n 2, 1, 0), some (.iinc 4 (-1), 3, 0), none, none, some (.goto (-45), 3, 0), none, none, some (.lload_n 2, 1, 0), some (.lreturn, 1, 0)]
set_option maxRecDepth 20000 in
def zk_X12_float0 : zCode := [some (.fload_n 0, 1, 0), some (.invokestatic 312, 3, 252), none, none, some (.i2l, 1, 0), some (.lreturn, 1, 0)]
set_option maxRecDepth 20000 in
def zk_X12_double0 : zCode := [some (.dload_n 0, 1, 0), some (.invokestatic 310, 3, 258), none, none, some (.lreturn, 1, 0)]
set_option maxRecDepth 20000 in
def zk_X12_cast : zCode := [some (.iload_n 2, 1, 0), some (.tableswitch 74 1 7 #[43, 48, 53, 58, 74, 62, 68], 43, 0), none, none, none, none, none, none, none, none, none, none, none, none, none, none, none, none, none, none, none, none, none, none, none, none, none, none, none, none, none, none, none, none, none, none, none, none, none, none, none, none, none, none, some (.lload_n 0, 1, 0), some (.l2i, 1, 0), some (.i2b, 1, 0), some (.i2l, 1, 0), some (.lreturn, 1, 0), some (.lload_n 0, 1, 0), some (.l2i, 1, 0), some (.i2c, 1, 0), some (.i2l, 1, 0), some (.lreturn, 1, 0), some (.lload_n 0, 1, 0), some (.l2i, 1, 0), some (.i2s, 1, 0), some (.i2l, 1, 0), some (.lreturn, 1, 0), some (.lload_n 0, 1, 0), some (.l2i, 1, 0), some (.i2l, 1, 0), some (.lreturn, 1, 0), some (.lload_n 0, 1, 0), some (.l2f, 1, 0), some (.invokestatic 228, 3, 264), none, none, some (.lreturn, 1, 0), some (.lload_n 0, 1, 0), some (.l2d, 1, 0), some (.invokestatic 229, 3, 268), none, none, some (.lreturn, 1, 0), some (.lload_n 0, 1, 0), some (.lreturn, 1, 0)]
set_option maxRecDepth 20000 in
def zk_X12_toldAs : zCode := [some (.iload_n 2, 1, 0), some (.tableswitch 92 0 8 #[51, 92, 92, 92, 92, 92, 67, 77, 87], 51, 0), none, none, none, none, none, none, none, none, none, none, none, none, none, none, none, none, none, none, none, none, none, none, none, none, none, none, none, none, none, none, none, none, none, none, none, none, none, none, none, none, none, none, none, none, none, none, none, none, none, none, some (.lload_n 0, 1, 0), some (.lconst 0, 1, 0), some (.lcmp, 1, 0), some (.ifCond .eq 7, 3, 0), none, none, some (.iconst 1, 1, 0), some (.goto 4, 3, 0), none, none, some (.iconst 0, 1, 0), some (.invokestatic 174, 3, 271), none, none, some (.i2l, 1, 0), some (.lreturn, 1, 0), some (.lload_n 0, 1, 0), some (.l2f, 1, 0), some (.ldc_w 2, 3, 275), none, none, some (.fdiv, 1, 0), some (.invokestatic 228, 3, 264), none, none, some (.lreturn, 1, 0), some (.lload_n 0, 1, 0), some (.l2d, 1, 0), some (.ldc2_w 3, 3, 276), none, none, some (.ddiv, 1, 0), some (.invokestatic 229, 3, 268), none, none, some (.lreturn, 1, 0), some (.lload_n 0, 1, 0), some (.invokestatic 227, 3, 278), none, none, some (.lreturn, 1, 0), some (.lload_n 0, 1, 0), some (.iload_n 2, 1, 0), some (.invokestatic 230, 3, 282), none, none, some (.lreturn, 1, 0)]
set_option maxRecDepth 20000 in
def zk_X12_doesWiden : zCode := [some (.aload_n 0, 1, 0), some (.getfield 2630, 3, 34), none, none, some (.bipush 9, 2, 0), none, some (.iload_n 1, 1, 0), some (.imul, 1, 0), some (.iload_n 2, 1, 0), some (.iadd, 1, 0), some (.iaload, 1, 0), some (.iconst 1, 1, 0), some (.if_icmp .ne 7, 3, 0), none, none, some (.iconst 1, 1, 0), some (.goto 4, 3, 0), none, none, some (.iconst 0, 1, 0), some (.ireturn, 1, 1)]
set_option maxRecDepth 20000 in
def zk_X12_real : zCode := [some (.iload_n 2, 1, 0), some (.bipush 6, 2, 0), none, some (.if_icmp .ne 12, 3, 0), none, none, some (.lload_n 0, 1, 0), some (.l2i, 1, 0), some (.invokestatic 904, 3, 286), none, none, some (.f2d, 1, 0), some (.goto 18, 3, 0), none, none, some (.iload_n 2, 1, 0), some (.bipush 7, 2, 0), none, some (.if_icmp .ne 10, 3, 0), none, none, some (.lload_n 0, 1, 0), some (.invokestatic 902, 3, 290), none, none, some (.goto 5, 3, 0), none, none, some (.lload_n 0, 1, 0), some (.l2d, 1, 0), some (.dreturn, 1, 0)]
set_option maxRecDepth 20000 in
def zk_X12_castFrom : zCode := [some (.iload_n 2, 1, 0), some (.iconst 5, 1, 0), some (.if_icmp .gt 9, 3, 0), none, none, some (.lload_n 0, 1, 0), some (.iload_n 3, 1, 0), some (.invokestatic 230, 3, 282), none, none, some (.lreturn, 1, 0), some (.lload_n 0, 1, 0), some (.iload_n 2, 1, 0), some (.invokestatic 233, 3, 294), none, none, some (.dstore 4, 2, 0), none, some (.iload_n 3, 1, 0), some (.iconst 5, 1, 0), some (.if_icmp .ne 7, 3, 0), none, none, some (.dload 4, 2, 0), none, some (.d2l, 1, 0), some (.lreturn, 1, 0), some (.iload_n 3, 1, 0), some (.bipush 6, 2, 0), none, some (.if_icmp .ne 20, 3, 0), none, none, some (.iload_n 2, 1, 0), some (.bipush 6, 2, 0), none, some (.if_icmp .ne 7, 3, 0), none, none, some (.lload_n 0, 1, 0), some (.goto 9, 3, 0), none, none, some (.dload 4, 2, 0), none, some (.d2f, 1, 0), some (.invokestatic 228, 3, 264), none, none, some (.lreturn, 1, 0), some (.iload_n 3, 1, 0), some (.bipush 7, 2, 0), none, some (.if_icmp .ne 19, 3, 0), none, none, some (.iload_n 2, 1, 0), some (.bipush 7, 2, 0), none, some (.if_icmp .ne 7, 3, 0), none, none, some (.lload_n 0, 1, 0), some (.goto 8, 3, 0), none, none, some (.dload 4, 2, 0), none, some (.invokestatic 229, 3, 268), none, none, some (.lreturn, 1, 0), some (.dload 4, 2, 0), none, some (.d2i, 1, 0), some (.i2l, 1, 0), some (.iload_n 3, 1, 0), some (.invokestatic 230, 3, 282), none, none, some (.lreturn, 1, 0)]
set_option maxRecDepth 20000 in
def zk_X12_widened : zCode := [some (.iload_n 3, 1, 0), some (.iload 4, 2, 0), none, some (.if_icmp .eq 13, 3, 0), none, none, some (.iload_n 3, 1, 0), some (.ifCond .eq 9, 3, 0), none, none, some (.iload_n 3, 1, 0), some (.bipush 8, 2, 0), none, some (.if_icmp .ne 7, 3, 0), none, none, some (.lload_n 1, 1, 0), some (.goto 10, 3, 0), none, none, some (.lload_n 1, 1, 0), some (.iload_n 3, 1, 0), some (.iload 4, 2, 0), none, some (.invokestatic 234, 3, 298), none, none, some (.lreturn, 1, 0)]
set_option maxRecDepth 20000 in
def zk_X12_spelled : zCode := [some (.lconst 0, 1, 0), some (.lstore_n 2, 1, 0), some (.lload_n 0, 1, 0), some (.lstore 4, 2, 0), none, some (.iconst 0, 1, 0), some (.istore 6, 2, 0), none, some (.iconst 1, 1, 0), some (.istore 7, 2, 0), none, some (.iload 7, 2, 0), none, some (.ifCond .eq 71, 3, 0), none, none, some (.iload 6, 2, 0), none, some (.bipush 8, 2, 0), none, some (.if_icmp .ge 64, 3, 0), none, none, some (.lload 4, 2, 0), none, some (.ldc2_w 6, 3, 238), none, none, some (.lrem, 1, 0), some (.l2i, 1, 0), some (.istore 8, 2, 0), none, some (.lload_n 2, 1, 0), some (.iload 8, 2, 0), none, some (.ifCond .ge 9, 3, 0), none, none, some (.iload 8, 2, 0), none, some (.ineg, 1, 0), some (.goto 5, 3, 0), none, none, some (.iload 8, 2, 0), none, some (.iconst 1, 1, 0), some (.iadd, 1, 0), some (.i2l, 1, 0), some (.iconst 5, 1, 0), some (.iload 6, 2, 0), none, some (.imul, 1, 0), some (.lshl, 1, 0), some (.lor, 1, 0), some (.lstore_n 2, 1, 0), some (.lload 4, 2, 0), none, some (.ldc2_w 6, 3, 238), none, none, some (.ldiv, 1, 0), some (.lstore 4, 2, 0), none, some (.iinc 6 1, 3, 0), none, none, some (.lload 4, 2, 0), none, some (.lconst 0, 1, 0), some (.lcmp, 1, 0), some (.ifCond .eq 7, 3, 0), none, none, some (.iconst 1, 1, 0), some (.goto 4, 3, 0), none, none, some (.iconst 0, 1, 0), some (.istore 7, 2, 0), none, some (.goto (-70), 3, 0), none, none, some (.iload 7, 2, 0), none, some (.ifCond .ne 27, 3, 0), none, none, some (.iload 6, 2, 0), none, some (.bipush 8, 2, 0), none, some (.if_icmp .ge 20, 3, 0), none, none, some (.lload_n 0, 1, 0), some (.lconst 0, 1, 0), some (.lcmp, 1, 0), some (.ifCond .ge 14, 3, 0), none, none, some (.lload_n 2, 1, 0), some (.ldc2_w 5, 3, 248), none, none, some (.iconst 5, 1, 0), some (.iload 6, 2, 0), none, some (.imul, 1, 0), some (.lshl, 1, 0), some (.lor, 1, 0), some (.lstore_n 2, 1, 0), some (.lload_n 2, 1, 0), some (.lreturn, 1, 0)]
set_option maxRecDepth 20000 in
def zk_X12_lettersOf : zCode := [some (.iconst 0, 1, 0), some (.istore_n 2, 1, 0), some (.lload_n 0, 1, 0), some (.lstore_n 3, 1, 0), some (.lload_n 3, 1, 0), some (.lconst 0, 1, 0), some (.lcmp, 1, 0), some (.ifCond .le 15, 3, 0), none, none, some (.iinc 2 1, 3, 0), none, none, some (.lload_n 3, 1, 0), some (.ldc2_w 20, 3, 250), none, none, some (.ldiv, 1, 0), some (.lstore_n 3, 1, 0), some (.goto (-15), 3, 0), none, none, some (.iload_n 2, 1, 0), some (.ireturn, 1, 0)]
set_option maxRecDepth 20000 in
def zk_X12_read : zCode := [some (.lconst 0, 1, 0), some (.lstore_n 2, 1, 0), some (.lload_n 0, 1, 0), some (.invokestatic 237, 3, 302), none, none, some (.istore 4, 2, 0), none, some (.iload 4, 2, 0), none, some (.iconst 1, 1, 0), some (.isub, 1, 0), some (.istore 5, 2, 0), none, some (.iload 5, 2, 0), none, some (.ifCond .lt 41, 3, 0), none, none, some (.lload_n 0, 1, 0), some (.iconst 5, 1, 0), some (.iload 5, 2, 0), none, some (.imul, 1, 0), some (.lshr, 1, 0), some (.ldc2_w 4, 3, 246), none, none, some (.land, 1, 0), some (.l2i, 1, 0), some (.istore 6, 2, 0), none, some (.iload 6, 2, 0), none, some (.bipush 10, 2, 0), none, some (.if_icmp .gt 15, 3, 0), none, none, some (.ldc2_w 6, 3, 238), none, none, some (.lload_n 2, 1, 0), some (.lmul, 1, 0), some (.iload 6, 2, 0), none, some (.i2l, 1, 0), some (.ladd, 1, 0), some (.lconst 1, 1, 0), some (.lsub, 1, 0), some (.lstore_n 2, 1, 0), some (.iinc 5 (-1), 3, 0), none, none, some (.goto (-40), 3, 0), none, none, some (.iload 4, 2, 0), none, some (.ifCond .le 27, 3, 0), none, none, some (.lload_n 0, 1, 0), some (.iconst 5, 1, 0), some (.iload 4, 2, 0), none, some (.iconst 1, 1, 0), some (.isub, 1, 0), some (.imul, 1, 0), some (.lshr, 1, 0), some (.ldc2_w 4, 3, 246), none, none, some (.land, 1, 0), some (.ldc2_w 5, 3, 248), none, none, some (.lcmp, 1, 0), some (.ifCond .ne 8, 3, 0), none, none, some (.lload_n 2, 1, 0), some (.lneg, 1, 0), some (.goto 4, 3, 0), none, none, some (.lload_n 2, 1, 0), some (.lreturn, 1, 0)]
set_option maxRecDepth 20000 in
def zk_X12_wordOf : zCode := [some (.lload_n 0, 1, 0), some (.ldc2_w 12, 3, 306), none, none, some (.lcmp, 1, 0), some (.ifCond .ne 7, 3, 0), none, none, some (.lconst 0, 1, 0), some (.goto 4, 3, 0), none, none, some (.lload_n 0, 1, 0), some (.lreturn, 1, 0)]
set_option maxRecDepth 20000 in
def zk_X12_narrowed : zCode := [some (.iload 4, 2, 0), none, some (.ifCond .ne 69, 3, 0), none, none, some (.iload_n 3, 1, 0), some (.bipush 8, 2, 0), none, some (.if_icmp .ne 24, 3, 0), none, none, some (.lload_n 1, 1, 0), some (.invokestatic 239, 3, 308), none, none, some (.lconst 0, 1, 0), some (.lcmp, 1, 0), some (.ifCond .eq 7, 3, 0), none, none, some (.iconst 1, 1, 0), some (.goto 4, 3, 0), none, none, some (.iconst 0, 1, 0), some (.invokestatic 174, 3, 271), none, none, some (.i2l, 1, 0), some (.goto 41, 3, 0), none, none, some (.iload_n 3, 1, 0), some (.iconst 5, 1, 0), some (.if_icmp .gt 17, 3, 0), none, none, some (.lload_n 1, 1, 0), some (.lconst 0, 1, 0), some (.lcmp, 1, 0), some (.ifCond .eq 7, 3, 0), none, none, some (.iconst 1, 1, 0), some (.goto 22, 3, 0), none, none, some (.iconst 0, 1, 0), some (.goto 18, 3, 0), none, none, some (.lload_n 1, 1, 0), some (.iload_n 3, 1, 0), some (.invokestatic 233, 3, 294), none, none, some (.dconst 0, 1, 0), some (.dcmp .l, 1, 0), some (.ifCond .eq 7, 3, 0), none, none, some (.iconst 1, 1, 0), some (.goto 4, 3, 0), none, none, some (.iconst 0, 1, 0), some (.invokestatic 174, 3, 271), none, none, some (.i2l, 1, 0), some (.lreturn, 1, 0), some (.iload 4, 2, 0), none, some (.bipush 8, 2, 0), none, some (.if_icmp .ne 42, 3, 0), none, none, some (.iload_n 3, 1, 0), some (.ifCond .ne 19, 3, 0), none, none, some (.lload_n 1, 1, 0), some (.lconst 1, 1, 0), some (.lcmp, 1, 0), some (.ifCond .ne 9, 3, 0), none, none, some (.ldc2_w 21, 3, 311), none, none, some (.goto 25, 3, 0), none, none, some (.lconst 1, 1, 0), some (.goto 21, 3, 0), none, none, some (.iload_n 3, 1, 0), some (.iconst 5, 1, 0), some (.if_icmp .gt 7, 3, 0), none, none, some (.lload_n 1, 1, 0), some (.goto 9, 3, 0), none, none, some (.lload_n 1, 1, 0), some (.iload_n 3, 1, 0), some (.invokestatic 233, 3, 294), none, none, some (.d2l, 1, 0), some (.invokestatic 236, 3, 313), none, none, some (.lreturn, 1, 0), some (.iload_n 3, 1, 0), some (.bipush 8, 2, 0), none, some (.if_icmp .ne 16, 3, 0), none, none, some (.lload_n 1, 1, 0), some (.invokestatic 239, 3, 308), none, none, some (.invokestatic 238, 3, 316), none, none, some (.iload 4, 2, 0), none, some (.invokestatic 230, 3, 282), none, none, some (.lreturn, 1, 0), some (.lload_n 1, 1, 0), some (.iload_n 3, 1, 0), some (.iload 4, 2, 0), none, some (.invokestatic 234, 3, 298), none, none, some (.lreturn, 1, 0)]
set_option maxRecDepth 20000 in
def zk_X12_carried : zCode := [some (.aload_n 0, 1, 0), some (.iload_n 3, 1, 0), some (.iload 4, 2, 0), none, some (.invokevirtual 232, 3, 319), none, none, some (.ifCond .eq 27, 3, 0), none, none, some (.aload_n 0, 1, 0), some (.iload_n 3, 1, 0), some (.bipush 8, 2, 0), none, some (.if_icmp .ne 10, 3, 0), none, none, some (.lload_n 1, 1, 0), some (.invokestatic 239, 3, 308), none, none, some (.goto 4, 3, 0), none, none, some (.lload_n 1, 1, 0), some (.iload_n 3, 1, 0), some (.iload 4, 2, 0), none, some (.invokevirtual 235, 3, 322), none, none, some (.goto 11, 3, 0), none, none, some (.aload_n 0, 1, 0), some (.lload_n 1, 1, 0), some (.iload_n 3, 1, 0), some (.iload 4, 2, 0), none, some (.invokevirtual 240, 3, 325), none, none, some (.lreturn, 1, 0)]
set_option maxRecDepth 20000 in
def zk_X12_has : zCode := [some (.iload_n 1, 1, 0), some (.i2l, 1, 0), some (.lconst 0, 1, 0), some (.ldc2_w 22, 3, 328), none, none, some (.invokestatic 172, 3, 82), none, none, some (.ifCond .eq 27, 3, 0), none, none, some (.iload_n 1, 1, 0), some (.iconst 3, 1, 0), some (.if_icmp .le 24, 3, 0), none, none, some (.aload_n 0, 1, 0), some (.getfield 2619, 3, 216), none, none, some (.ifCond .eq 17, 3, 0), none, none, some (.aload_n 0, 1, 0), some (.iload_n 1, 1, 0), some (.iconst 4, 1, 0), some (.isub, 1, 0), some (.iconst 3, 1, 0), some (.irem, 1, 0), some (.invokevirtual 213, 3, 223), none, none, some (.ifCond .ne 5, 3, 0), none, none, some (.iconst (-1), 1, 0), some (.ireturn, 1, 0), some (.aload_n 0, 1, 0), some (.getfield 2619, 3, 216), none, none, some (.ifCond .ne 14, 3, 0), none, none, some (.iload_n 1, 1, 0), some (.iconst 3, 1, 0), some (.if_icmp .le 7, 3, 0), none, none, some (.iconst (-1), 1, 0), some (.goto 4, 3, 0), none, none, some (.iconst 0, 1, 0), some (.ireturn, 1, 0), some (.iload_n 1, 1, 0), some (.tableswitch 72 0 3 #[31, 38, 45, 67], 31, 0), none, none, none, none, none, none, none, none, none, none, none, none, none, none, none, none, none, none, none, none, none, none, none, none, none, none, none, none, none, none, some (.aload_n 0, 1, 0), some (.getfield 2614, 3, 27), none, none, some (.iconst 0, 1, 0), some (.iaload, 1, 0), some (.ireturn, 1, 0), some (.aload_n 0, 1, 0), some (.getfield 2614, 3, 27), none, none, some (.iconst 1, 1, 0), some (.iaload, 1, 0), some (.ireturn, 1, 0), some (.aload_n 0, 1, 0), some (.getfield 2626, 3, 30), none, none, some (.iconst 0, 1, 0), some (.laload, 1, 0), some (.aload_n 0, 1, 0), some (.getfield 2626, 3, 30), none, none, some (.iconst 1, 1, 0), some (.laload, 1, 0), some (.ladd, 1, 0), some (.aload_n 0, 1, 0), some (.getfield 2626, 3, 30), none, none, some (.iconst 2, 1, 0), some (.laload, 1, 0), some (.ladd, 1, 0), some (.l2i, 1, 0), some (.ireturn, 1, 0), some (.aload_n 0, 1, 0), some (.getfield 2680, 3, 243), none, none, some (.ireturn, 1, 0), some (.iload_n 1, 1, 0), some (.bipush 7, 2, 0), none, some (.if_icmp .ge 13, 3, 0), none, none, some (.aload_n 0, 1, 0), some (.iload_n 1, 1, 0), some (.iconst 4, 1, 0), some (.isub, 1, 0), some (.invokevirtual 224, 3, 229), none, none, some (.goto 11, 3, 0), none, none, some (.aload_n 0, 1, 0), some (.iload_n 1, 1, 0), some (.bipush 7, 2, 0), none, some (.isub, 1, 0), some (.invokevirtual 214, 3, 226), none, none, some (.ireturn, 1, 0)]
set_option maxRecDepth 20000 in
def zk_X12_letter : zCode := [some (.iload_n 3, 1, 0), some (.i2l, 1, 0), some (.lconst 0, 1, 0), some (.ldc2_w 17, 3, 80), none, none, some (.invokestatic 172, 3, 82), none, none, some (.ifCond .eq 28, 3, 0), none, none, some (.iload_n 2, 1, 0), some (.iconst (-1), 1, 0), some (.if_icmp .ne 14, 3, 0), none, none, some (.aload_n 0, 1, 0), some (.iload_n 1, 1, 0), some (.invokevirtual 213, 3, 223), none, none, some (.ifCond .eq 15, 3, 0), none, none, some (.goto 14, 3, 0), none, none, some (.aload_n 0, 1, 0), some (.iload_n 1, 1, 0), some (.iload_n 2, 1, 0), some (.invokevirtual 215, 3, 330), none, none, some (.ifCond .ne 5, 3, 0), none, none, some (.iconst (-1), 1, 0), some (.ireturn, 1, 0), some (.iload_n 2, 1, 0), some (.iconst (-1), 1, 0), some (.if_icmp .ne 16, 3, 0), none, none, some (.aload_n 0, 1, 0), some (.getfield 2614, 3, 27), none, none, some (.iload_n 1, 1, 0), some (.iconst 0, 1, 0), some (.invokestatic 195, 3, 141), none, none, some (.iaload, 1, 0), some (.goto 14, 3, 0), none, none, some (.aload_n 0, 1, 0), some (.getfield 2614, 3, 27), none, none, some (.iload_n 1, 1, 0), some (.iload_n 2, 1, 0), some (.iconst 0, 1, 0), some (.invokestatic 196, 3, 148), none, none, some (.iaload, 1, 0), some (.istore 4, 2, 0), none, some (.iconst 0, 1, 0), some (.istore 5, 2, 0), none, some (.iload 4, 2, 0), none, some (.istore 6, 2, 0), none, some (.iload 6, 2, 0), none, some (.ifCond .le 16, 3, 0), none, none, some (.iinc 5 1, 3, 0), none, none, some (.iload 6, 2, 0), none, some (.bipush 27, 2, 0), none, some (.idiv, 1, 0), some (.istore 6, 2, 0), none, some (.goto (-15), 3, 0), none, none, some (.iload 5, 2, 0), none, some (.iconst 1, 1, 0), some (.isub, 1, 0), some (.istore 6, 2, 0), none, some (.iload 6, 2, 0), none, some (.iload_n 3, 1, 0), some (.if_icmp .le 16, 3, 0), none, none, some (.iload 4, 2, 0), none, some (.bipush 27, 2, 0), none, some (.idiv, 1, 0), some (.istore 4, 2, 0), none, some (.iinc 6 (-1), 3, 0), none, none, some (.goto (-16), 3, 0), none, none, some (.iload_n 3, 1, 0), some (.iload 5, 2, 0), none, some (.if_icmp .ge 11, 3, 0), none, none, some (.iload 4, 2, 0), none, some (.bipush 27, 2, 0), none, some (.irem, 1, 0), some (.goto 4, 3, 0), none, none, some (.iconst 0, 1, 0), some (.ireturn, 1, 0)]
set_option maxRecDepth 20000 in
def zk_X12_named : zCode := [some (.aload_n 0, 1, 0), some (.getfield 2564, 3, 69), none, none, some (.istore_n 2, 1, 0), some (.aload_n 0, 1, 0), some (.iconst 0, 1, 0), some (.putfield 2564, 3, 69), none, none, some (.aload_n 0, 1, 0), some (.getfield 2619, 3, 216), none, none, some (.ifCond .eq 26, 3, 0), none, none, some (.iload_n 2, 1, 0), some (.ifCond .eq 22, 3, 0), none, none, some (.iload_n 2, 1, 0), some (.bipush 6, 2, 0), none, some (.if_icmp .gt 16, 3, 0), none, none, some (.iload_n 1, 1, 0), some (.iconst (-1), 1, 0), some (.if_icmp .eq 13, 3, 0), none, none, some (.aload_n 0, 1, 0), some (.iload_n 1, 1, 0), some (.invokevirtual 213, 3, 223), none, none, some (.ifCond .ne 5, 3, 0), none, none, some (.iconst (-1), 1, 0), some (.ireturn, 1, 0), some (.iconst 0, 1, 0), some (.istore_n 3, 1, 0), some (.iconst 0, 1, 0), some (.istore 4, 2, 0), none, some (.iload 4, 2, 0), none, some (.iload_n 2, 1, 0), some (.if_icmp .ge 42, 3, 0), none, none, some (.aload_n 0, 1, 0), some (.getfield 2562, 3, 7), none, none, some (.iload 4, 2, 0), none, some (.iaload, 1, 0), some (.invokestatic 182, 3, 105), none, none, some (.ifCond .ne 5, 3, 0), none, none, some (.iconst (-1), 1, 0), some (.ireturn, 1, 0), some (.bipush 27, 2, 0), none, some (.iload_n 3, 1, 0), some (.imul, 1, 0), some (.aload_n 0, 1, 0), some (.getfield 2562, 3, 7), none, none, some (.iload 4, 2, 0), none, some (.iaload, 1, 0), some (.iadd, 1, 0), some (.bipush 97, 2, 0), none, some (.isub, 1, 0), some (.iconst 1, 1, 0), some (.iadd, 1, 0), some (.istore_n 3, 1, 0), some (.iinc 4 1, 3, 0), none, none, some (.goto (-42), 3, 0), none, none, some (.iload_n 1, 1, 0), some (.iconst (-1), 1, 0), some (.if_icmp .ne 15, 3, 0), none, none, some (.aload_n 0, 1, 0), some (.aload_n 0, 1, 0), some (.getfield 2614, 3, 27), none, none, some (.iload_n 3, 1, 0), some (.invokevirtual 199, 3, 164), none, none, some (.goto 13, 3, 0), none, none, some (.aload_n 0, 1, 0), some (.aload_n 0, 1, 0), some (.getfield 2614, 3, 27), none, none, some (.iload_n 1, 1, 0), some (.iload_n 3, 1, 0), some (.invokevirtual 200, 3, 157), none, none, some (.ireturn, 1, 0)]
set_option maxRecDepth 20000 in
def zk_X12_field : zCode := [some (.aload_n 0, 1, 0), some (.iload_n 1, 1, 0), some (.iload_n 2, 1, 0), some (.invokevirtual 215, 3, 330), none, none, some (.ifCond .ne 5, 3, 0), none, none, some (.iconst (-1), 1, 0), some (.ireturn, 1, 0), some (.iload_n 3, 1, 0), some (.ifCond .ne 12, 3, 0), none, none, some (.aload_n 0, 1, 0), some (.iload_n 1, 1, 0), some (.iload_n 2, 1, 0), some (.invokevirtual 216, 3, 333), none, none, some (.goto 18, 3, 0), none, none, some (.iload_n 3, 1, 0), some (.iconst 1, 1, 0), some (.if_icmp .ne 12, 3, 0), none, none, some (.aload_n 0, 1, 0), some (.iload_n 1, 1, 0), some (.iload_n 2, 1, 0), some (.invokevirtual 217, 3, 336), none, none, some (.goto 4, 3, 0), none, none, some (.iconst (-1), 1, 0), some (.ireturn, 1, 0)]
set_option maxRecDepth 20000 in
def zk_X12_readBits : zCode := [some (.iconst 0, 1, 0), some (.istore_n 2, 1, 0), some (.iconst 0, 1, 0), some (.istore_n 3, 1, 0), some (.iload_n 3, 1, 0), some (.aload_n 0, 1, 0), some (.iload_n 1, 1, 0), some (.invokevirtual 221, 3, 339), none, none, some (.if_icmp .ge 55, 3, 0), none, none, some (.aload_n 0, 1, 0), some (.iload_n 1, 1, 0), some (.iload_n 3, 1, 0), some (.iconst 1, 1, 0), some (.invokevirtual 222, 3, 342), none, none, some (.iconst 4, 1, 0), some (.if_icmp .eq 15, 3, 0), none, none, some (.iload_n 2, 1, 0), some (.iconst 1, 1, 0), some (.aload_n 0, 1, 0), some (.iload_n 1, 1, 0), some (.iload_n 3, 1, 0), some (.iconst 2, 1, 0), some (.invokevirtual 222, 3, 342), none, none, some (.ishl, 1, 0), some (.ior, 1, 0), some (.istore_n 2, 1, 0), some (.aload_n 0, 1, 0), some (.iload_n 1, 1, 0), some (.iload_n 3, 1, 0), some (.iconst 1, 1, 0), some (.invokevirtual 222, 3, 342), none, none, some (.iconst 3, 1, 0), some (.if_icmp .ne 15, 3, 0), none, none, some (.iload_n 2, 1, 0), some (.iconst 1, 1, 0), some (.aload_n 0, 1, 0), some (.iload_n 1, 1, 0), some (.iload_n 3, 1, 0), some (.iconst 3, 1, 0), some (.invokevirtual 222, 3, 342), none, none, some (.ishl, 1, 0), some (.ior, 1, 0), some (.istore_n 2, 1, 0), some (.iinc 3 1, 3, 0), none, none, some (.goto (-58), 3, 0), none, none, some (.iload_n 2, 1, 0), some (.ireturn, 1, 0)]
set_option maxRecDepth 20000 in
def zk_X12_filledBits : zCode := [some (.iconst 0, 1, 0), some (.istore_n 2, 1, 0), some (.iconst 0, 1, 0), some (.istore_n 3, 1, 0), some (.iload_n 3, 1, 0), some (.aload_n 0, 1, 0), some (.iload_n 1, 1, 0), some (.invokevirtual 221, 3, 339), none, none, some (.if_icmp .ge 21, 3, 0), none, none, some (.iload_n 2, 1, 0), some (.iconst 1, 1, 0), some (.aload_n 0, 1, 0), some (.iload_n 1, 1, 0), some (.iload_n 3, 1, 0), some (.iconst 0, 1, 0), some (.invokevirtual 222, 3, 342), none, none, some (.ishl, 1, 0), some (.ior, 1, 0), some (.istore_n 2, 1, 0), some (.iinc 3 1, 3, 0), none, none, some (.goto (-24), 3, 0), none, none, some (.iload_n 2, 1, 0), some (.ireturn, 1, 0)]
set_option maxRecDepth 20000 in
def zk_X12_crossing : zCode := [some (.aload_n 0, 1, 0), some (.iload_n 1, 1, 0), some (.invokevirtual 218, 3, 345), none, none, some (.ifCond .ne 5, 3, 0), none, none, some (.iconst (-1), 1, 0), some (.ireturn, 1, 0), some (.iload_n 2, 1, 0), some (.tableswitch 63 0 4 #[33, 39, 45, 51, 57], 33, 0), none, none, none, none, none, none, none, none, none, none, none, none, none, none, none, none, none, none, none, none, none, none, none, none, none, none, none, none, none, none, none, none, some (.aload_n 0, 1, 0), some (.iload_n 1, 1, 0), some (.invokevirtual 219, 3, 348), none, none, some (.ireturn, 1, 0), some (.aload_n 0, 1, 0), some (.iload_n 1, 1, 0), some (.invokevirtual 220, 3, 351), none, none, some (.ireturn, 1, 0), some (.aload_n 0, 1, 0), some (.iload_n 1, 1, 0), some (.invokevirtual 221, 3, 339), none, none, some (.ireturn, 1, 0), some (.aload_n 0, 1, 0), some (.iload_n 1, 1, 0), some (.invokevirtual 246, 3, 354), none, none, some (.ireturn, 1, 0), some (.aload_n 0, 1, 0), some (.iload_n 1, 1, 0), some (.invokevirtual 247, 3, 357), none, none, some (.ireturn, 1, 0), some (.iconst (-1), 1, 0), some (.ireturn, 1, 0)]
set_option maxRecDepth 20000 in
def zk_X12_madeKind : zCode := [some (.aload_n 0, 1, 0), some (.iload_n 1, 1, 0), some (.iload_n 2, 1, 0), some (.iconst 1, 1, 0), some (.invokevirtual 222, 3, 342), none, none, some (.istore_n 3, 1, 0), some (.iload_n 3, 1, 0), some (.iconst 4, 1, 0), some (.if_icmp .ne 5, 3, 0), none, none, some (.iconst 4, 1, 0), some (.ireturn, 1, 0), some (.aload_n 0, 1, 0), some (.aload_n 0, 1, 0), some (.iload_n 1, 1, 0), some (.invokevirtual 219, 3, 348), none, none, some (.aload_n 0, 1, 0), some (.iload_n 1, 1, 0), some (.iload_n 2, 1, 0), some (.iconst 2, 1, 0), some (.invokevirtual 222, 3, 342), none, none, some (.invokevirtual 216, 3, 333), none, none, some (.istore 4, 2, 0), none, some (.iload_n 3, 1, 0), some (.ifCond .ne 6, 3, 0), none, none, some (.iload 4, 2, 0), none, some (.ireturn, 1, 0), some (.iload_n 3, 1, 0), some (.iconst 3, 1, 0), some (.if_icmp .ne 26, 3, 0), none, none, some (.aload_n 0, 1, 0), some (.aload_n 0, 1, 0), some (.iload_n 1, 1, 0), some (.invokevirtual 219, 3, 348), none, none, some (.aload_n 0, 1, 0), some (.iload_n 1, 1, 0), some (.iload_n 2, 1, 0), some (.iconst 3, 1, 0), some (.invokevirtual 222, 3, 342), none, none, some (.invokevirtual 216, 3, 333), none, none, some (.iconst 5, 1, 0), some (.if_icmp .le 6, 3, 0), none, none, some (.bipush 7, 2, 0), none, some (.ireturn, 1, 0), some (.iload 4, 2, 0), none, some (.iconst 5, 1, 0), some (.if_icmp .le 8, 3, 0), none, none, some (.bipush 7, 2, 0), none, some (.goto 4, 3, 0), none, none, some (.iconst 5, 1, 0), some (.ireturn, 1, 0)]
set_option maxRecDepth 20000 in
def zk_X12_targetKind : zCode := [some (.aload_n 0, 1, 0), some (.aload_n 0, 1, 0), some (.iload_n 1, 1, 0), some (.invokevirtual 220, 3, 351), none, none, some (.aload_n 0, 1, 0), some (.iload_n 1, 1, 0), some (.iload_n 2, 1, 0), some (.iconst 0, 1, 0), some (.invokevirtual 222, 3, 342), none, none, some (.invokevirtual 216, 3, 333), none, none, some (.ireturn, 1, 0)]
set_option maxRecDepth 20000 in
def zk_X12_rule_ : zCode := [some (.aload_n 0, 1, 0), some (.iload_n 1, 1, 0), some (.invokevirtual 218, 3, 345), none, none, some (.ifCond .eq 32, 3, 0), none, none, some (.iload_n 2, 1, 0), some (.i2l, 1, 0), some (.lconst 0, 1, 0), some (.aload_n 0, 1, 0), some (.iload_n 1, 1, 0), some (.invokevirtual 221, 3, 339), none, none, some (.iconst 1, 1, 0), some (.isub, 1, 0), some (.i2l, 1, 0), some (.invokestatic 172, 3, 82), none, none, some (.ifCond .eq 15, 3, 0), none, none, some (.iload_n 3, 1, 0), some (.i2l, 1, 0), some (.lconst 0, 1, 0), some (.ldc2_w 19, 3, 232), none, none, some (.invokestatic 172, 3, 82), none, none, some (.ifCond .ne 5, 3, 0), none, none, some (.iconst (-1), 1, 0), some (.ireturn, 1, 0), some (.iload_n 3, 1, 0), some (.iconst 4, 1, 0), some (.if_icmp .ne 25, 3, 0), none, none, some (.aload_n 0, 1, 0), some (.aload_n 0, 1, 0), some (.iload_n 1, 1, 0), some (.iload_n 2, 1, 0), some (.invokevirtual 249, 3, 360), none, none, some (.aload_n 0, 1, 0), some (.iload_n 1, 1, 0), some (.iload_n 2, 1, 0), some (.invokevirtual 250, 3, 363), none, none, some (.invokevirtual 232, 3, 319), none, none, some (.invokestatic 174, 3, 271), none, none, some (.goto 10, 3, 0), none, none, some (.aload_n 0, 1, 0), some (.iload_n 1, 1, 0), some (.iload_n 2, 1, 0), some (.iload_n 3, 1, 0), some (.invokevirtual 222, 3, 342), none, none, some (.ireturn, 1, 0)]
set_option maxRecDepth 20000 in
def zk_X12_widens : zCode := [some (.iload_n 1, 1, 0), some (.i2l, 1, 0), some (.lconst 0, 1, 0), some (.ldc2_w 18, 3, 152), none, none, some (.invokestatic 172, 3, 82), none, none, some (.ifCond .eq 27, 3, 0), none, none, some (.iload_n 2, 1, 0), some (.i2l, 1, 0), some (.lconst 0, 1, 0), some (.ldc2_w 18, 3, 152), none, none, some (.invokestatic 172, 3, 82), none, none, some (.ifCond .eq 15, 3, 0), none, none, some (.aload_n 0, 1, 0), some (.iload_n 1, 1, 0), some (.iload_n 2, 1, 0), some (.invokevirtual 232, 3, 319), none, none, some (.invokestatic 174, 3, 271), none, none, some (.goto 4, 3, 0), none, none, some (.iconst (-1), 1, 0), some (.ireturn, 1, 0)]
set_option maxRecDepth 20000 in
def zk_X12_rowKind : zCode := [some (.aload_n 0, 1, 0), some (.iload_n 1, 1, 0), some (.invokevirtual 213, 3, 223), none, none, some (.ifCond .eq 15, 3, 0), none, none, some (.iload_n 2, 1, 0), some (.i2l, 1, 0), some (.lconst 0, 1, 0), some (.ldc2_w 18, 3, 152), none, none, some (.invokestatic 172, 3, 82), none, none, some (.ifCond .ne 6, 3, 0), none, none, some (.bipush (-4), 2, 0), none, some (.ireturn, 1, 0), some (.iload_n 2, 1, 0), some (.bipush 8, 2, 0), none, some (.if_icmp .ne 6, 3, 0), none, none, some (.bipush 9, 2, 0), none, some (.ireturn, 1, 0), some (.iload_n 2, 1, 0), some (.bipush 7, 2, 0), none, some (.if_icmp .ne 6, 3, 0), none, none, some (.bipush (-2), 2, 0), none, some (.ireturn, 1, 0), some (.iload_n 2, 1, 0), some (.bipush 6, 2, 0), none, some (.if_icmp .eq 12, 3, 0), none, none, some (.iload_n 2, 1, 0), some (.aload_n 0, 1, 0), some (.iload_n 1, 1, 0), some (.invokevirtual 214, 3, 226), none, none, some (.if_icmp .lt 8, 3, 0), none, none, some (.bipush (-3), 2, 0), none, some (.goto 9, 3, 0), none, none, some (.aload_n 0, 1, 0), some (.iload_n 1, 1, 0), some (.iload_n 2, 1, 0), some (.invokevirtual 216, 3, 333), none, none, some (.ireturn, 1, 0)]
set_option maxRecDepth 20000 in
def zk_X12_longOf : zCode := [some (.iload_n 2, 1, 0), some (.bipush 8, 2, 0), none, some (.if_icmp .ne 7, 3, 0), none, none, some (.iconst 4, 1, 0), some (.goto 12, 3, 0), none, none, some (.bipush 8, 2, 0), none, some (.aload_n 0, 1, 0), some (.iload_n 1, 1, 0), some (.iload_n 2, 1, 0), some (.invokevirtual 217, 3, 336), none, none, some (.imul, 1, 0), some (.ireturn, 1, 0)]
set_option maxRecDepth 20000 in
def zk_X12_length : zCode := [some (.aload_n 0, 1, 0), some (.iload_n 1, 1, 0), some (.iload_n 2, 1, 0), some (.invokevirtual 253, 3, 366), none, none, some (.istore_n 3, 1, 0), some (.aload_n 0, 1, 0), some (.iload_n 3, 1, 0), some (.ifCond .ge 7, 3, 0), none, none, some (.iload_n 3, 1, 0), some (.goto 4, 3, 0), none, none, some (.iconst 0, 1, 0), some (.putfield 2632, 3, 369), none, none, some (.iload_n 3, 1, 0), some (.ifCond .ge 7, 3, 0), none, none, some (.iload_n 3, 1, 0), some (.goto 9, 3, 0), none, none, some (.aload_n 0, 1, 0), some (.iload_n 1, 1, 0), some (.iload_n 2, 1, 0), some (.invokevirtual 254, 3, 372), none, none, some (.ireturn, 1, 0)]
set_option maxRecDepth 20000 in
def zk_X12_isRefusedBy : zCode := [some (.aload_n 0, 1, 0), some (.iload_n 1, 1, 0), some (.putfield 2632, 3, 369), none, none, some (.iload_n 1, 1, 0), some (.ifCond .eq 7, 3, 0), none, none, some (.iconst 1, 1, 0), some (.goto 4, 3, 0), none, none, some (.iconst 0, 1, 0), some (.ireturn, 1, 1)]
set_option maxRecDepth 20000 in
def zk_X12_reasonOf : zCode := [some (.aload_n 0, 1, 0), some (.iload_n 1, 1, 0), some (.iload_n 2, 1, 0), some (.invokevirtual 253, 3, 366), none, none, some (.istore 6, 2, 0), none, some (.iload 6, 2, 0), none, some (.bipush (-4), 2, 0), none, some (.if_icmp .eq 16, 3, 0), none, none, some (.iload 4, 2, 0), none, some (.i2l, 1, 0), some (.lconst 0, 1, 0), some (.ldc2_w 10, 3, 234), none, none, some (.invokestatic 172, 3, 82), none, none, some (.ifCond .ne 6, 3, 0), none, none, some (.bipush (-4), 2, 0), none, some (.ireturn, 1, 0), some (.iload 6, 2, 0), none, some (.ifCond .ge 6, 3, 0), none, none, some (.iload 6, 2, 0), none, some (.ireturn, 1, 0), some (.iload 6, 2, 0), none, some (.bipush 8, 2, 0), none, some (.if_icmp .lt 6, 3, 0), none, none, some (.bipush (-2), 2, 0), none, some (.ireturn, 1, 0), some (.iload_n 3, 1, 0), some (.i2l, 1, 0), some (.lconst 0, 1, 0), some (.aload_n 0, 1, 0), some (.iload_n 1, 1, 0), some (.iload_n 2, 1, 0), some (.invokevirtual 254, 3, 372), none, none, some (.iconst 1, 1, 0), some (.isub, 1, 0), some (.i2l, 1, 0), some (.invokestatic 172, 3, 82), none, none, some (.ifCond .ne 5, 3, 0), none, none, some (.iconst (-1), 1, 0), some (.ireturn, 1, 0), some (.iload 5, 2, 0), none, some (.ifCond .eq 17, 3, 0), none, none, some (.aload_n 0, 1, 0), some (.iload 6, 2, 0), none, some (.iload 4, 2, 0), none, some (.invokevirtual 232, 3, 319), none, none, some (.ifCond .eq 21, 3, 0), none, none, some (.goto 14, 3, 0), none, none, some (.aload_n 0, 1, 0), some (.iload 4, 2, 0), none, some (.iload 6, 2, 0), none, some (.invokevirtual 232, 3, 319), none, none, some (.ifCond .eq 7, 3, 0), none, none, some (.iconst 0, 1, 0), some (.goto 5, 3, 0), none, none, some (.bipush (-2), 2, 0), none, some (.ireturn, 1, 0)]
set_option maxRecDepth 20000 in
def zk_X12_read_ : zCode := [some (.aload_n 0, 1, 0), some (.aload_n 0, 1, 0), some (.iload_n 1, 1, 0), some (.iload_n 2, 1, 0), some (.iload_n 3, 1, 0), some (.iload 4, 2, 0), none, some (.iconst 1, 1, 0), some (.invokevirtual 257, 3, 375), none, none, some (.invokevirtual 256, 3, 379), none, none, some (.ifCond .eq 7, 3, 0), none, none, some (.ldc2_w 13, 3, 382), none, none, some (.lreturn, 1, 0), some (.aload_n 0, 1, 0), some (.aload_n 0, 1, 0), some (.getfield 2626, 3, 30), none, none, some (.iload_n 1, 1, 0), some (.iload_n 2, 1, 0), some (.iload_n 3, 1, 0), some (.invokestatic 223, 3, 384), none, none, some (.laload, 1, 0), some (.aload_n 0, 1, 0), some (.iload_n 1, 1, 0), some (.iload_n 2, 1, 0), some (.invokevirtual 216, 3, 333), none, none, some (.iload 4, 2, 0), none, some (.invokevirtual 235, 3, 322), none, none, some (.lreturn, 1, 0)]
set_option maxRecDepth 20000 in
def zk_X12_get : zCode := [some (.aload_n 0, 1, 0), some (.iload_n 1, 1, 0), some (.iload_n 2, 1, 0), some (.invokevirtual 253, 3, 366), none, none, some (.istore 5, 2, 0), none, some (.iload 5, 2, 0), none, some (.bipush (-4), 2, 0), none, some (.if_icmp .eq 14, 3, 0), none, none, some (.iload 4, 2, 0), none, some (.i2l, 1, 0), some (.lconst 0, 1, 0), some (.lconst 1, 1, 0), some (.invokestatic 172, 3, 82), none, none, some (.ifCond .ne 8, 3, 0), none, none, some (.bipush (-4), 2, 0), none, some (.goto 36, 3, 0), none, none, some (.iload 5, 2, 0), none, some (.ifCond .ge 8, 3, 0), none, none, some (.iload 5, 2, 0), none, some (.goto 26, 3, 0), none, none, some (.iload_n 3, 1, 0), some (.i2l, 1, 0), some (.lconst 0, 1, 0), some (.aload_n 0, 1, 0), some (.iload_n 1, 1, 0), some (.iload_n 2, 1, 0), some (.invokevirtual 254, 3, 372), none, none, some (.iconst 1, 1, 0), some (.isub, 1, 0), some (.i2l, 1, 0), some (.invokestatic 172, 3, 82), none, none, some (.ifCond .ne 7, 3, 0), none, none, some (.iconst (-1), 1, 0), some (.goto 4, 3, 0), none, none, some (.iconst 0, 1, 0), some (.istore 6, 2, 0), none, some (.aload_n 0, 1, 0), some (.iload 6, 2, 0), none, some (.invokevirtual 256, 3, 379), none, none, some (.ifCond .eq 7, 3, 0), none, none, some (.ldc2_w 13, 3, 382), none, none, some (.lreturn, 1, 0), some (.iload 5, 2, 0), none, some (.bipush 9, 2, 0), none, some (.if_icmp .ne 17, 3, 0), none, none, some (.aload_n 0, 1, 0), some (.getfield 2626, 3, 30), none, none, some (.iconst 3, 1, 0), some (.iconst 2, 1, 0), some (.iload_n 3, 1, 0), some (.imul, 1, 0), some (.iadd, 1, 0), some (.iload 4, 2, 0), none, some (.iadd, 1, 0), some (.laload, 1, 0), some (.lreturn, 1, 0), some (.aload_n 0, 1, 0), some (.getfield 2626, 3, 30), none, none, some (.iload_n 1, 1, 0), some (.iload_n 2, 1, 0), some (.iload_n 3, 1, 0), some (.invokestatic 223, 3, 384), none, none, some (.laload, 1, 0), some (.lstore 7, 2, 0), none, some (.iload 4, 2, 0), none, some (.ifCond .ne 29, 3, 0), none, none, some (.iload 5, 2, 0), none, some (.bipush 8, 2, 0), none, some (.if_icmp .ne 18, 3, 0), none, none, some (.lload 7, 2, 0), none, some (.ldc2_w 12, 3, 306), none, none, some (.lcmp, 1, 0), some (.ifCond .ne 9, 3, 0), none, none, some (.ldc2_w 6, 3, 238), none, none, some (.goto 6, 3, 0), none, none, some (.iload 5, 2, 0), none, some (.i2l, 1, 0), some (.lreturn, 1, 0), some (.iload 5, 2, 0), none, some (.bipush 8, 2, 0), none, some (.if_icmp .ne 11, 3, 0), none, none, some (.lload 7, 2, 0), none, some (.invokestatic 239, 3, 308), none, none, some (.goto 5, 3, 0), none, none, some (.lload 7, 2, 0), none, some (.lreturn, 1, 0)]
set_option maxRecDepth 20000 in
def zk_X12_write : zCode := [some (.aload_n 0, 1, 0), some (.aload_n 0, 1, 0), some (.iload_n 1, 1, 0), some (.iload_n 2, 1, 0), some (.iload_n 3, 1, 0), some (.iload 4, 2, 0), none, some (.iconst 0, 1, 0), some (.invokevirtual 257, 3, 375), none, none, some (.invokevirtual 256, 3, 379), none, none, some (.ifCond .eq 5, 3, 0), none, none, some (.iconst 0, 1, 0), some (.ireturn, 1, 1), some (.aload_n 0, 1, 0), some (.invokevirtual 307, 3, 387), none, none, some (.aload_n 0, 1, 0), some (.getfield 2626, 3, 30), none, none, some (.iload_n 1, 1, 0), some (.iload_n 2, 1, 0), some (.iload_n 3, 1, 0), some (.invokestatic 223, 3, 384), none, none, some (.aload_n 0, 1, 0), some (.lload 5, 2, 0), none, some (.iload 4, 2, 0), none, some (.invokestatic 231, 3, 390), none, none, some (.iload 4, 2, 0), none, some (.aload_n 0, 1, 0), some (.iload_n 1, 1, 0), some (.iload_n 2, 1, 0), some (.invokevirtual 216, 3, 333), none, none, some (.invokevirtual 235, 3, 322), none, none, some (.lastore, 1, 0), some (.iconst 1, 1, 0), some (.ireturn, 1, 1)]
set_option maxRecDepth 20000 in
def zk_X12_reasonPut : zCode := [some (.aload_n 0, 1, 0), some (.iload_n 1, 1, 0), some (.iload_n 2, 1, 0), some (.invokevirtual 253, 3, 366), none, none, some (.istore 5, 2, 0), none, some (.iload 5, 2, 0), none, some (.bipush (-4), 2, 0), none, some (.if_icmp .eq 16, 3, 0), none, none, some (.iload 4, 2, 0), none, some (.i2l, 1, 0), some (.lconst 0, 1, 0), some (.ldc2_w 6, 3, 238), none, none, some (.invokestatic 172, 3, 82), none, none, some (.ifCond .ne 6, 3, 0), none, none, some (.bipush (-4), 2, 0), none, some (.ireturn, 1, 0), some (.iload 5, 2, 0), none, some (.ifCond .ge 6, 3, 0), none, none, some (.iload 5, 2, 0), none, some (.ireturn, 1, 0), some (.iload 5, 2, 0), none, some (.bipush 8, 2, 0), none, some (.if_icmp .ge 13, 3, 0), none, none, some (.iload 4, 2, 0), none, some (.bipush 10, 2, 0), none, some (.if_icmp .ne 6, 3, 0), none, none, some (.bipush (-2), 2, 0), none, some (.ireturn, 1, 0), some (.iload_n 3, 1, 0), some (.i2l, 1, 0), some (.lconst 0, 1, 0), some (.aload_n 0, 1, 0), some (.iload_n 1, 1, 0), some (.iload_n 2, 1, 0), some (.invokevirtual 254, 3, 372), none, none, some (.iconst 1, 1, 0), some (.isub, 1, 0), some (.i2l, 1, 0), some (.invokestatic 172, 3, 82), none, none, some (.ifCond .ne 5, 3, 0), none, none, some (.iconst (-1), 1, 0), some (.ireturn, 1, 0), some (.iload 5, 2, 0), none, some (.bipush 9, 2, 0), none, some (.if_icmp .ne 5, 3, 0), none, none, some (.iconst 0, 1, 0), some (.ireturn, 1, 0), some (.iload 5, 2, 0), none, some (.bipush 8, 2, 0), none, some (.if_icmp .ne 26, 3, 0), none, none, some (.iload 4, 2, 0), none, some (.bipush 8, 2, 0), none, some (.if_icmp .eq 10, 3, 0), none, none, some (.iload 4, 2, 0), none, some (.bipush 10, 2, 0), none, some (.if_icmp .ne 7, 3, 0), none, none, some (.iconst 0, 1, 0), some (.goto 32, 3, 0), none, none, some (.bipush (-2), 2, 0), none, some (.goto 27, 3, 0), none, none, some (.iload 4, 2, 0), none, some (.bipush 8, 2, 0), none, some (.if_icmp .ge 18, 3, 0), none, none, some (.aload_n 0, 1, 0), some (.iload 4, 2, 0), none, some (.iload 5, 2, 0), none, some (.invokevirtual 232, 3, 319), none, none, some (.ifCond .eq 7, 3, 0), none, none, some (.iconst 0, 1, 0), some (.goto 5, 3, 0), none, none, some (.bipush (-2), 2, 0), none, some (.ireturn, 1, 0)]
set_option maxRecDepth 20000 in
def zk_X12_put : zCode := [some (.aload_n 0, 1, 0), some (.aload_n 0, 1, 0), some (.iload_n 1, 1, 0), some (.iload_n 2, 1, 0), some (.iload_n 3, 1, 0), some (.iload 4, 2, 0), none, some (.invokevirtual 261, 3, 393), none, none, some (.invokevirtual 256, 3, 379), none, none, some (.ifCond .eq 5, 3, 0), none, none, some (.iconst 0, 1, 0), some (.ireturn, 1, 1), some (.aload_n 0, 1, 0), some (.invokevirtual 307, 3, 387), none, none, some (.iload 4, 2, 0), none, some (.bipush 10, 2, 0), none, some (.if_icmp .ne 7, 3, 0), none, none, some (.lconst 0, 1, 0), some (.goto 24, 3, 0), none, none, some (.iload 4, 2, 0), none, some (.bipush 9, 2, 0), none, some (.if_icmp .ne 10, 3, 0), none, none, some (.lload 5, 2, 0), none, some (.l2i, 1, 0), some (.i2l, 1, 0), some (.goto 10, 3, 0), none, none, some (.lload 5, 2, 0), none, some (.iload 4, 2, 0), none, some (.invokestatic 231, 3, 390), none, none, some (.lstore 7, 2, 0), none, some (.iload_n 2, 1, 0), some (.bipush 8, 2, 0), none, some (.if_icmp .ne 33, 3, 0), none, none, some (.aload_n 0, 1, 0), some (.getfield 2626, 3, 30), none, none, some (.iconst 3, 1, 0), some (.iconst 2, 1, 0), some (.iload_n 3, 1, 0), some (.imul, 1, 0), some (.iadd, 1, 0), some (.iload 4, 2, 0), none, some (.i2l, 1, 0), some (.lastore, 1, 0), some (.aload_n 0, 1, 0), some (.getfield 2626, 3, 30), none, none, some (.iconst 3, 1, 0), some (.iconst 2, 1, 0), some (.iload_n 3, 1, 0), some (.imul, 1, 0), some (.iadd, 1, 0), some (.iconst 1, 1, 0), some (.iadd, 1, 0), some (.lload 7, 2, 0), none, some (.lastore, 1, 0), some (.goto 41, 3, 0), none, none, some (.aload_n 0, 1, 0), some (.getfield 2626, 3, 30), none, none, some (.iload_n 1, 1, 0), some (.iload_n 2, 1, 0), some (.iload_n 3, 1, 0), some (.invokestatic 223, 3, 384), none, none, some (.iload 4, 2, 0), none, some (.bipush 10, 2, 0), none, some (.if_icmp .ne 9, 3, 0), none, none, some (.ldc2_w 12, 3, 306), none, none, some (.goto 17, 3, 0), none, none, some (.aload_n 0, 1, 0), some (.lload 7, 2, 0), none, some (.iload 4, 2, 0), none, some (.aload_n 0, 1, 0), some (.iload_n 1, 1, 0), some (.iload_n 2, 1, 0), some (.invokevirtual 216, 3, 333), none, none, some (.invokevirtual 235, 3, 322), none, none, some (.lastore, 1, 0), some (.iconst 1, 1, 0), some (.ireturn, 1, 1)]
set_option maxRecDepth 20000 in
def zk_X12_why : zCode := [some (.aload_n 0, 1, 0), some (.getfield 2632, 3, 369), none, none, some (.ireturn, 1, 0)]
set_option maxRecDepth 20000 in
def zk_X12_cellAt : zCode := [some (.aload_n 0, 1, 0), some (.getfield 2626, 3, 30), none, none, some (.iload_n 1, 1, 0), some (.iload_n 2, 1, 0), some (.aload_n 0, 1, 0), some (.iload_n 1, 1, 0), some (.iload_n 2, 1, 0), some (.invokevirtual 217, 3, 336), none, none, some (.iload_n 3, 1, 0), some (.imul, 1, 0), some (.iload 4, 2, 0), none, some (.iadd, 1, 0), some (.invokestatic 223, 3, 384), none, none, some (.laload, 1, 0), some (.lreturn, 1, 0)]
set_option maxRecDepth 20000 in
def zk_X12_valueAt : zCode := [some (.aload_n 0, 1, 0), some (.iload_n 1, 1, 0), some (.iload_n 2, 1, 0), some (.iload_n 3, 1, 0), some (.iload 4, 2, 0), none, some (.invokevirtual 264, 3, 397), none, none, some (.lstore 5, 2, 0), none, some (.aload_n 0, 1, 0), some (.iload_n 1, 1, 0), some (.iload_n 2, 1, 0), some (.invokevirtual 216, 3, 333), none, none, some (.bipush 8, 2, 0), none, some (.if_icmp .ne 11, 3, 0), none, none, some (.lload 5, 2, 0), none, some (.invokestatic 239, 3, 308), none, none, some (.goto 5, 3, 0), none, none, some (.lload 5, 2, 0), none, some (.lreturn, 1, 0)]
set_option maxRecDepth 20000 in
def zk_X12_cell : zCode := [some (.aload_n 0, 1, 0), some (.iload_n 1, 1, 0), some (.iload_n 2, 1, 0), some (.invokevirtual 215, 3, 330), none, none, some (.ifCond .eq 43, 3, 0), none, none, some (.aload_n 0, 1, 0), some (.iload_n 1, 1, 0), some (.iload_n 3, 1, 0), some (.invokevirtual 225, 3, 401), none, none, some (.ifCond .eq 34, 3, 0), none, none, some (.iload 4, 2, 0), none, some (.i2l, 1, 0), some (.lconst 0, 1, 0), some (.aload_n 0, 1, 0), some (.iload_n 1, 1, 0), some (.iload_n 2, 1, 0), some (.invokevirtual 217, 3, 336), none, none, some (.iconst 1, 1, 0), some (.isub, 1, 0), some (.i2l, 1, 0), some (.invokestatic 172, 3, 82), none, none, some (.ifCond .eq 15, 3, 0), none, none, some (.aload_n 0, 1, 0), some (.iload_n 1, 1, 0), some (.iload_n 2, 1, 0), some (.iload_n 3, 1, 0), some (.iload 4, 2, 0), none, some (.invokevirtual 265, 3, 404), none, none, some (.goto 6, 3, 0), none, none, some (.ldc2_w 13, 3, 382), none, none, some (.lreturn, 1, 0)]
set_option maxRecDepth 20000 in
def zk_X12_unlike : zCode := [some (.aload_n 0, 1, 0), some (.iload_n 1, 1, 0), some (.iload_n 2, 1, 0), some (.invokevirtual 225, 3, 401), none, none, some (.ifCond .eq 12, 3, 0), none, none, some (.aload_n 0, 1, 0), some (.iload_n 1, 1, 0), some (.iload_n 3, 1, 0), some (.invokevirtual 225, 3, 401), none, none, some (.ifCond .ne 7, 3, 0), none, none, some (.ldc2_w 13, 3, 382), none, none, some (.lreturn, 1, 0), some (.lconst 0, 1, 0), some (.lstore 4, 2, 0), none, some (.iconst 0, 1, 0), some (.istore 6, 2, 0), none, some (.iconst 0, 1, 0), some (.istore 7, 2, 0), none, some (.iload 7, 2, 0), none, some (.aload_n 0, 1, 0), some (.iload_n 1, 1, 0), some (.invokevirtual 214, 3, 226), none, none, some (.if_icmp .ge 66, 3, 0), none, none, some (.iconst 0, 1, 0), some (.istore 8, 2, 0), none, some (.iload 8, 2, 0), none, some (.aload_n 0, 1, 0), some (.iload_n 1, 1, 0), some (.iload 7, 2, 0), none, some (.invokevirtual 217, 3, 336), none, none, some (.if_icmp .ge 45, 3, 0), none, none, some (.aload_n 0, 1, 0), some (.iload_n 1, 1, 0), some (.iload 7, 2, 0), none, some (.iload_n 2, 1, 0), some (.iload 8, 2, 0), none, some (.invokevirtual 265, 3, 404), none, none, some (.aload_n 0, 1, 0), some (.iload_n 1, 1, 0), some (.iload 7, 2, 0), none, some (.iload_n 3, 1, 0), some (.iload 8, 2, 0), none, some (.invokevirtual 265, 3, 404), none, none, some (.lcmp, 1, 0), some (.ifCond .eq 12, 3, 0), none, none, some (.lload 4, 2, 0), none, some (.lconst 1, 1, 0), some (.iload 6, 2, 0), none, some (.lshl, 1, 0), some (.lor, 1, 0), some (.lstore 4, 2, 0), none, some (.iinc 6 1, 3, 0), none, none, some (.iinc 8 1, 3, 0), none, none, some (.goto (-51), 3, 0), none, none, some (.iinc 7 1, 3, 0), none, none, some (.goto (-70), 3, 0), none, none, some (.lload 4, 2, 0), none, some (.lreturn, 1, 0)]
set_option maxRecDepth 20000 in
def zk_X12_laysRecord : zCode := [some (.iconst 0, 1, 0), some (.istore_n 3, 1, 0), some (.iload_n 3, 1, 0), some (.aload_n 0, 1, 0), some (.iload_n 1, 1, 0), some (.invokevirtual 214, 3, 226), none, none, some (.if_icmp .ge 51, 3, 0), none, none, some (.iconst 0, 1, 0), some (.istore 4, 2, 0), none, some (.iload 4, 2, 0), none, some (.aload_n 0, 1, 0), some (.iload_n 1, 1, 0), some (.iload_n 3, 1, 0), some (.invokevirtual 217, 3, 336), none, none, some (.if_icmp .ge 31, 3, 0), none, none, some (.aload_n 0, 1, 0), some (.getfield 2626, 3, 30), none, none, some (.iload_n 1, 1, 0), some (.iload_n 3, 1, 0), some (.aload_n 0, 1, 0), some (.iload_n 1, 1, 0), some (.iload_n 3, 1, 0), some (.invokevirtual 217, 3, 336), none, none, some (.iload_n 2, 1, 0), some (.imul, 1, 0), some (.iload 4, 2, 0), none, some (.iadd, 1, 0), some (.invokestatic 223, 3, 384), none, none, some (.lconst 0, 1, 0), some (.lastore, 1, 0), some (.iinc 4 1, 3, 0), none, none, some (.goto (-36), 3, 0), none, none, some (.iinc 3 1, 3, 0), none, none, some (.goto (-54), 3, 0), none, none, some (.return_, 1, 0)]
set_option maxRecDepth 20000 in
def zk_X12_copiesRecord : zCode := [some (.iconst 0, 1, 0), some (.istore 4, 2, 0), none, some (.iload 4, 2, 0), none, some (.aload_n 0, 1, 0), some (.iload_n 1, 1, 0), some (.invokevirtual 214, 3, 226), none, none, some (.if_icmp .ge 63, 3, 0), none, none, some (.iconst 0, 1, 0), some (.istore 5, 2, 0), none, some (.iload 5, 2, 0), none, some (.aload_n 0, 1, 0), some (.iload_n 1, 1, 0), some (.iload 4, 2, 0), none, some (.invokevirtual 217, 3, 336), none, none, some (.if_icmp .ge 42, 3, 0), none, none, some (.aload_n 0, 1, 0), some (.getfield 2626, 3, 30), none, none, some (.iload_n 1, 1, 0), some (.iload 4, 2, 0), none, some (.aload_n 0, 1, 0), some (.iload_n 1, 1, 0), some (.iload 4, 2, 0), none, some (.invokevirtual 217, 3, 336), none, none, some (.iload_n 3, 1, 0), some (.imul, 1, 0), some (.iload 5, 2, 0), none, some (.iadd, 1, 0), some (.invokestatic 223, 3, 384), none, none, some (.aload_n 0, 1, 0), some (.iload_n 1, 1, 0), some (.iload 4, 2, 0), none, some (.iload_n 2, 1, 0), some (.iload 5, 2, 0), none, some (.invokevirtual 264, 3, 397), none, none, some (.lastore, 1, 0), some (.iinc 5 1, 3, 0), none, none, some (.goto (-48), 3, 0), none, none, some (.iinc 4 1, 3, 0), none, none, some (.goto (-67), 3, 0), none, none, some (.return_, 1, 0)]
set_option maxRecDepth 20000 in
def zk_X12_make : zCode := [some (.aload_n 0, 1, 0), some (.iload_n 1, 1, 0), some (.invokevirtual 213, 3, 223), none, none, some (.ifCond .eq 13, 3, 0), none, none, some (.aload_n 0, 1, 0), some (.iload_n 1, 1, 0), some (.invokevirtual 224, 3, 229), none, none, some (.bipush 8, 2, 0), none, some (.if_icmp .ne 9, 3, 0), none, none, some (.aload_n 0, 1, 0), some (.iconst 2, 1, 0), some (.invokevirtual 175, 3, 72), none, none, some (.ireturn, 1, 0), some (.aload_n 0, 1, 0), some (.invokevirtual 307, 3, 387), none, none, some (.aload_n 0, 1, 0), some (.iload_n 1, 1, 0), some (.invokevirtual 271, 3, 407), none, none, some (.ireturn, 1, 0)]
set_option maxRecDepth 20000 in
def zk_X12_makes : zCode := [some (.aload_n 0, 1, 0), some (.iload_n 1, 1, 0), some (.invokevirtual 224, 3, 229), none, none, some (.istore_n 2, 1, 0), some (.aload_n 0, 1, 0), some (.iload_n 1, 1, 0), some (.iload_n 2, 1, 0), some (.invokevirtual 268, 3, 410), none, none, some (.aload_n 0, 1, 0), some (.getfield 2626, 3, 30), none, none, some (.iload_n 1, 1, 0), some (.dup2, 1, 0), some (.laload, 1, 0), some (.lconst 1, 1, 0), some (.ladd, 1, 0), some (.lastore, 1, 0), some (.iload_n 2, 1, 0), some (.ireturn, 1, 0)]
set_option maxRecDepth 20000 in
def zk_X12_copy : zCode := [some (.aload_n 0, 1, 0), some (.iload_n 1, 1, 0), some (.iload_n 2, 1, 0), some (.invokevirtual 225, 3, 401), none, none, some (.ifCond .eq 13, 3, 0), none, none, some (.aload_n 0, 1, 0), some (.iload_n 1, 1, 0), some (.invokevirtual 224, 3, 229), none, none, some (.bipush 8, 2, 0), none, some (.if_icmp .ne 9, 3, 0), none, none, some (.aload_n 0, 1, 0), some (.iconst 2, 1, 0), some (.invokevirtual 175, 3, 72), none, none, some (.ireturn, 1, 0), some (.aload_n 0, 1, 0), some (.invokevirtual 307, 3, 387), none, none, some (.aload_n 0, 1, 0), some (.iload_n 1, 1, 0), some (.iload_n 2, 1, 0), some (.aload_n 0, 1, 0), some (.iload_n 1, 1, 0), some (.invokevirtual 224, 3, 229), none, none, some (.invokevirtual 269, 3, 413), none, none, some (.aload_n 0, 1, 0), some (.getfield 2626, 3, 30), none, none, some (.iload_n 1, 1, 0), some (.dup2, 1, 0), some (.laload, 1, 0), some (.lconst 1, 1, 0), some (.ladd, 1, 0), some (.lastore, 1, 0), some (.aload_n 0, 1, 0), some (.iload_n 1, 1, 0), some (.invokevirtual 224, 3, 229), none, none, some (.iconst 1, 1, 0), some (.isub, 1, 0), some (.ireturn, 1, 0)]
set_option maxRecDepth 20000 in
def zk_X12_drop : zCode := [some (.aload_n 0, 1, 0), some (.iload_n 1, 1, 0), some (.iload_n 2, 1, 0), some (.invokevirtual 225, 3, 401), none, none, some (.ifCond .ne 9, 3, 0), none, none, some (.aload_n 0, 1, 0), some (.iconst 2, 1, 0), some (.invokevirtual 176, 3, 76), none, none, some (.ireturn, 1, 1), some (.aload_n 0, 1, 0), some (.invokevirtual 307, 3, 387), none, none, some (.iload_n 2, 1, 0), some (.istore_n 3, 1, 0), some (.iload_n 3, 1, 0), some (.aload_n 0, 1, 0), some (.iload_n 1, 1, 0), some (.invokevirtual 224, 3, 229), none, none, some (.iconst 1, 1, 0), some (.isub, 1, 0), some (.if_icmp .ge 18, 3, 0), none, none, some (.aload_n 0, 1, 0), some (.iload_n 1, 1, 0), some (.iload_n 3, 1, 0), some (.iconst 1, 1, 0), some (.iadd, 1, 0), some (.iload_n 3, 1, 0), some (.invokevirtual 269, 3, 413), none, none, some (.iinc 3 1, 3, 0), none, none, some (.goto (-23), 3, 0), none, none, some (.aload_n 0, 1, 0), some (.getfield 2626, 3, 30), none, none, some (.iload_n 1, 1, 0), some (.dup2, 1, 0), some (.laload, 1, 0), some (.lconst 1, 1, 0), some (.lsub, 1, 0), some (.lastore, 1, 0), some (.aload_n 0, 1, 0), some (.iload_n 1, 1, 0), some (.aload_n 0, 1, 0), some (.iload_n 1, 1, 0), some (.invokevirtual 224, 3, 229), none, none, some (.invokevirtual 268, 3, 410), none, none, some (.iconst 1, 1, 0), some (.ireturn, 1, 1)]
set_option maxRecDepth 20000 in
def zk_X12_seed : zCode := [some (.iload_n 1, 1, 0), some (.ifCond .ge 9, 3, 0), none, none, some (.aload_n 0, 1, 0), some (.iconst 5, 1, 0), some (.invokevirtual 176, 3, 76), none, none, some (.ireturn, 1, 1), some (.aload_n 0, 1, 0), some (.iload_n 1, 1, 0), some (.i2l, 1, 0), some (.putfield 2637, 3, 37), none, none, some (.iconst 1, 1, 0), some (.ireturn, 1, 1)]
set_option maxRecDepth 20000 in
def zk_X12_drawOf : zCode := [some (.aload_n 0, 1, 0), some (.ldc2_w 14, 3, 416), none, none, some (.aload_n 0, 1, 0), some (.getfield 2637, 3, 37), none, none, some (.lmul, 1, 0), some (.ldc2_w 15, 3, 418), none, none, some (.ladd, 1, 0), some (.ldc2_w 23, 3, 420), none, none, some (.lrem, 1, 0), some (.putfield 2637, 3, 37), none, none, some (.aload_n 0, 1, 0), some (.getfield 2637, 3, 37), none, none, some (.ldc2_w 24, 3, 422), none, none, some (.ldiv, 1, 0), some (.iload_n 1, 1, 0), some (.i2l, 1, 0), some (.lrem, 1, 0), some (.l2i, 1, 0), some (.ireturn, 1, 0)]
set_option maxRecDepth 20000 in
def zk_X12_chance : zCode := [some (.aload_n 0, 1, 0), some (.getfield 2619, 3, 216), none, none, some (.ifCond .eq 15, 3, 0), none, none, some (.iload_n 1, 1, 0), some (.i2l, 1, 0), some (.lconst 1, 1, 0), some (.ldc2_w 25, 3, 424), none, none, some (.invokestatic 172, 3, 82), none, none, some (.ifCond .ne 9, 3, 0), none, none, some (.aload_n 0, 1, 0), some (.iconst 2, 1, 0), some (.invokevirtual 175, 3, 72), none, none, some (.ireturn, 1, 0), some (.aload_n 0, 1, 0), some (.invokevirtual 307, 3, 387), none, none, some (.iconst 0, 1, 0), some (.istore_n 2, 1, 0), some (.iconst 0, 1, 0), some (.istore_n 3, 1, 0), some (.iload_n 3, 1, 0), some (.iload_n 1, 1, 0), some (.if_icmp .ge 137, 3, 0), none, none, some (.aload_n 0, 1, 0), some (.aload_n 0, 1, 0), some (.getfield 2614, 3, 27), none, none, some (.iconst 0, 1, 0), some (.iaload, 1, 0), some (.invokevirtual 275, 3, 426), none, none, some (.istore 4, 2, 0), none, some (.aload_n 0, 1, 0), some (.iload 4, 2, 0), none, some (.invokevirtual 224, 3, 229), none, none, some (.bipush 8, 2, 0), none, some (.if_icmp .ne 6, 3, 0), none, none, some (.goto 105, 3, 0), none, none, some (.aload_n 0, 1, 0), some (.iload 4, 2, 0), none, some (.invokevirtual 271, 3, 407), none, none, some (.istore 5, 2, 0), none, some (.iconst 0, 1, 0), some (.istore 6, 2, 0), none, some (.iload 6, 2, 0), none, some (.aload_n 0, 1, 0), some (.iload 4, 2, 0), none, some (.invokevirtual 214, 3, 226), none, none, some (.if_icmp .ge 80, 3, 0), none, none, some (.iconst 0, 1, 0), some (.istore 7, 2, 0), none, some (.iload 7, 2, 0), none, some (.aload_n 0, 1, 0), some (.iload 4, 2, 0), none, some (.iload 6, 2, 0), none, some (.invokevirtual 217, 3, 336), none, none, some (.if_icmp .ge 58, 3, 0), none, none, some (.aload_n 0, 1, 0), some (.getfield 2626, 3, 30), none, none, some (.iload 4, 2, 0), none, some (.iload 6, 2, 0), none, some (.aload_n 0, 1, 0), some (.iload 4, 2, 0), none, some (.iload 6, 2, 0), none, some (.invokevirtual 217, 3, 336), none, none, some (.iload 5, 2, 0), none, some (.imul, 1, 0), some (.iload 7, 2, 0), none, some (.iadd, 1, 0), some (.invokestatic 223, 3, 384), none, none, some (.aload_n 0, 1, 0), some (.sipush 4000, 3, 0), none, none, some (.invokevirtual 275, 3, 426), none, none, some (.sipush 2000, 3, 0), none, none, some (.isub, 1, 0), some (.i2l, 1, 0), some (.aload_n 0, 1, 0), some (.iload 4, 2, 0), none, some (.iload 6, 2, 0), none, some (.invokevirtual 216, 3, 333), none, none, some (.invokestatic 231, 3, 390), none, none, some (.lastore, 1, 0), some (.iinc 7 1, 3, 0), none, none, some (.goto (-65), 3, 0), none, none, some (.iinc 6 1, 3, 0), none, none, some (.goto (-85), 3, 0), none, none, some (.iinc 2 1, 3, 0), none, none, some (.iinc 3 1, 3, 0), none, none, some (.goto (-136), 3, 0), none, none, some (.iload_n 2, 1, 0), some (.ireturn, 1, 0)]
set_option maxRecDepth 20000 in
def zk_X12_takesRecord : zCode := [some (.iconst 0, 1, 0), some (.istore_n 3, 1, 0), some (.iload_n 3, 1, 0), some (.aload_n 0, 1, 0), some (.iload_n 1, 1, 0), some (.invokevirtual 214, 3, 226), none, none, some (.if_icmp .ge 49, 3, 0), none, none, some (.iconst 0, 1, 0), some (.istore 4, 2, 0), none, some (.iload 4, 2, 0), none, some (.aload_n 0, 1, 0), some (.iload_n 1, 1, 0), some (.iload_n 3, 1, 0), some (.invokevirtual 217, 3, 336), none, none, some (.if_icmp .ge 29, 3, 0), none, none, some (.aload_n 0, 1, 0), some (.getfield 2642, 3, 41), none, none, some (.iconst 4, 1, 0), some (.iload_n 3, 1, 0), some (.imul, 1, 0), some (.iload 4, 2, 0), none, some (.iadd, 1, 0), some (.aload_n 0, 1, 0), some (.iload_n 1, 1, 0), some (.iload_n 3, 1, 0), some (.iload_n 2, 1, 0), some (.iload 4, 2, 0), none, some (.invokevirtual 265, 3, 404), none, none, some (.lastore, 1, 0), some (.iinc 4 1, 3, 0), none, none, some (.goto (-34), 3, 0), none, none, some (.iinc 3 1, 3, 0), none, none, some (.goto (-52), 3, 0), none, none, some (.return_, 1, 0)]
set_option maxRecDepth 20000 in
def zk_X12_held : zCode := [some (.dload_n 0, 1, 0), some (.ldc2_w 1, 3, 429), none, none, some (.dcmp .l, 1, 0), some (.ifCond .le 9, 3, 0), none, none, some (.ldc2_w 1, 3, 429), none, none, some (.goto 18, 3, 0), none, none, some (.dload_n 0, 1, 0), some (.ldc2_w 26, 3, 431), none, none, some (.dcmp .g, 1, 0), some (.ifCond .ge 9, 3, 0), none, none, some (.ldc2_w 26, 3, 431), none, none, some (.goto 4, 3, 0), none, none, some (.dload_n 0, 1, 0), some (.dreturn, 1, 0)]
set_option maxRecDepth 20000 in
def zk_X12_made : zCode := [some (.aload_n 0, 1, 0), some (.iload_n 1, 1, 0), some (.iload_n 2, 1, 0), some (.iconst 1, 1, 0), some (.invokevirtual 222, 3, 342), none, none, some (.istore 4, 2, 0), none, some (.aload_n 0, 1, 0), some (.iload_n 1, 1, 0), some (.iload_n 2, 1, 0), some (.iconst 3, 1, 0), some (.invokevirtual 222, 3, 342), none, none, some (.istore 5, 2, 0), none, some (.iload 4, 2, 0), none, some (.iconst 4, 1, 0), some (.if_icmp .ne 7, 3, 0), none, none, some (.iload 5, 2, 0), none, some (.i2l, 1, 0), some (.lreturn, 1, 0), some (.aload_n 0, 1, 0), some (.iload_n 1, 1, 0), some (.invokevirtual 219, 3, 348), none, none, some (.istore 6, 2, 0), none, some (.aload_n 0, 1, 0), some (.iload_n 1, 1, 0), some (.iload_n 2, 1, 0), some (.iconst 2, 1, 0), some (.invokevirtual 222, 3, 342), none, none, some (.istore 7, 2, 0), none, some (.aload_n 0, 1, 0), some (.getfield 2642, 3, 41), none, none, some (.iconst 4, 1, 0), some (.iload 7, 2, 0), none, some (.imul, 1, 0), some (.iload_n 3, 1, 0), some (.iadd, 1, 0), some (.laload, 1, 0), some (.lstore 8, 2, 0), none, some (.iload 4, 2, 0), none, some (.ifCond .ne 6, 3, 0), none, none, some (.lload 8, 2, 0), none, some (.lreturn, 1, 0), some (.aload_n 0, 1, 0), some (.iload_n 1, 1, 0), some (.iload_n 2, 1, 0), some (.invokevirtual 249, 3, 360), none, none, some (.iconst 5, 1, 0), some (.if_icmp .ne 48, 3, 0), none, none, some (.iload 4, 2, 0), none, some (.iconst 1, 1, 0), some (.if_icmp .ne 12, 3, 0), none, none, some (.lload 8, 2, 0), none, some (.iload 5, 2, 0), none, some (.i2l, 1, 0), some (.lmul, 1, 0), some (.goto 32, 3, 0), none, none, some (.iload 4, 2, 0), none, some (.iconst 2, 1, 0), some (.if_icmp .ne 12, 3, 0), none, none, some (.lload 8, 2, 0), none, some (.iload 5, 2, 0), none, some (.i2l, 1, 0), some (.ldiv, 1, 0), some (.goto 17, 3, 0), none, none, some (.lload 8, 2, 0), none, some (.aload_n 0, 1, 0), some (.getfield 2642, 3, 41), none, none, some (.iconst 4, 1, 0), some (.iload 5, 2, 0), none, some (.imul, 1, 0), some (.iload_n 3, 1, 0), some (.iadd, 1, 0), some (.laload, 1, 0), some (.ladd, 1, 0), some (.lreturn, 1, 0), some (.lload 8, 2, 0), none, some (.aload_n 0, 1, 0), some (.iload 6, 2, 0), none, some (.iload 7, 2, 0), none, some (.invokevirtual 216, 3, 333), none, none, some (.invokestatic 233, 3, 294), none, none, some (.dstore 10, 2, 0), none, some (.iload 4, 2, 0), none, some (.iconst 1, 1, 0), some (.if_icmp .ne 12, 3, 0), none, none, some (.dload 10, 2, 0), none, some (.iload 5, 2, 0), none, some (.i2d, 1, 0), some (.dmul, 1, 0), some (.goto 43, 3, 0), none, none, some (.iload 4, 2, 0), none, some (.iconst 2, 1, 0), some (.if_icmp .ne 12, 3, 0), none, none, some (.dload 10, 2, 0), none, some (.iload 5, 2, 0), none, some (.i2d, 1, 0), some (.ddiv, 1, 0), some (.goto 28, 3, 0), none, none, some (.dload 10, 2, 0), none, some (.aload_n 0, 1, 0), some (.getfield 2642, 3, 41), none, none, some (.iconst 4, 1, 0), some (.iload 5, 2, 0), none, some (.imul, 1, 0), some (.iload_n 3, 1, 0), some (.iadd, 1, 0), some (.laload, 1, 0), some (.aload_n 0, 1, 0), some (.iload 6, 2, 0), none, some (.iload 5, 2, 0), none, some (.invokevirtual 216, 3, 333), none, none, some (.invokestatic 233, 3, 294), none, none, some (.dadd, 1, 0), some (.invokestatic 278, 3, 433), none, none, some (.invokestatic 229, 3, 268), none, none, some (.lreturn, 1, 0)]
set_option maxRecDepth 20000 in
def zk_X12_longRule : zCode := [some (.aload_n 0, 1, 0), some (.aload_n 0, 1, 0), some (.iload_n 1, 1, 0), some (.invokevirtual 220, 3, 351), none, none, some (.aload_n 0, 1, 0), some (.iload_n 1, 1, 0), some (.iload_n 2, 1, 0), some (.iconst 0, 1, 0), some (.invokevirtual 222, 3, 342), none, none, some (.invokevirtual 217, 3, 336), none, none, some (.istore_n 3, 1, 0), some (.aload_n 0, 1, 0), some (.iload_n 1, 1, 0), some (.iload_n 2, 1, 0), some (.iconst 1, 1, 0), some (.invokevirtual 222, 3, 342), none, none, some (.istore 4, 2, 0), none, some (.iload 4, 2, 0), none, some (.iconst 4, 1, 0), some (.if_icmp .ne 5, 3, 0), none, none, some (.iload_n 3, 1, 0), some (.ireturn, 1, 0), some (.iload_n 3, 1, 0), some (.aload_n 0, 1, 0), some (.aload_n 0, 1, 0), some (.iload_n 1, 1, 0), some (.invokevirtual 219, 3, 348), none, none, some (.aload_n 0, 1, 0), some (.iload_n 1, 1, 0), some (.iload_n 2, 1, 0), some (.iconst 2, 1, 0), some (.invokevirtual 222, 3, 342), none, none, some (.invokevirtual 217, 3, 336), none, none, some (.invokestatic 173, 3, 437), none, none, some (.istore_n 3, 1, 0), some (.iload 4, 2, 0), none, some (.iconst 3, 1, 0), some (.if_icmp .ne 26, 3, 0), none, none, some (.iload_n 3, 1, 0), some (.aload_n 0, 1, 0), some (.aload_n 0, 1, 0), some (.iload_n 1, 1, 0), some (.invokevirtual 219, 3, 348), none, none, some (.aload_n 0, 1, 0), some (.iload_n 1, 1, 0), some (.iload_n 2, 1, 0), some (.iconst 3, 1, 0), some (.invokevirtual 222, 3, 342), none, none, some (.invokevirtual 217, 3, 336), none, none, some (.invokestatic 173, 3, 437), none, none, some (.goto 4, 3, 0), none, none, some (.iload_n 3, 1, 0), some (.ireturn, 1, 0)]
set_option maxRecDepth 20000 in
def zk_X12_tallies : zCode := [some (.aload_n 0, 1, 0), some (.getfield 2650, 3, 47), none, none, some (.iconst 0, 1, 0), some (.dup2, 1, 0), some (.iaload, 1, 0), some (.iconst 1, 1, 0), some (.iadd, 1, 0), some (.iastore, 1, 0), some (.aload_n 0, 1, 0), some (.iload_n 3, 1, 0), some (.iload 6, 2, 0), none, some (.invokevirtual 232, 3, 319), none, none, some (.ifCond .eq 16, 3, 0), none, none, some (.aload_n 0, 1, 0), some (.getfield 2650, 3, 47), none, none, some (.iconst 1, 1, 0), some (.dup2, 1, 0), some (.iaload, 1, 0), some (.iconst 1, 1, 0), some (.iadd, 1, 0), some (.iastore, 1, 0), some (.goto 40, 3, 0), none, none, some (.aload_n 0, 1, 0), some (.lload 4, 2, 0), none, some (.iload 6, 2, 0), none, some (.iload_n 3, 1, 0), some (.invokevirtual 241, 3, 440), none, none, some (.lload_n 1, 1, 0), some (.lcmp, 1, 0), some (.ifCond .ne 16, 3, 0), none, none, some (.aload_n 0, 1, 0), some (.getfield 2650, 3, 47), none, none, some (.iconst 2, 1, 0), some (.dup2, 1, 0), some (.iaload, 1, 0), some (.iconst 1, 1, 0), some (.iadd, 1, 0), some (.iastore, 1, 0), some (.goto 13, 3, 0), none, none, some (.aload_n 0, 1, 0), some (.getfield 2650, 3, 47), none, none, some (.iconst 3, 1, 0), some (.dup2, 1, 0), some (.iaload, 1, 0), some (.iconst 1, 1, 0), some (.iadd, 1, 0), some (.iastore, 1, 0), some (.return_, 1, 0)]
set_option maxRecDepth 20000 in
def zk_X12_marks : zCode := [some (.aload_n 0, 1, 0), some (.iload_n 1, 1, 0), some (.iload_n 2, 1, 0), some (.iconst 1, 1, 0), some (.invokevirtual 222, 3, 342), none, none, some (.istore 4, 2, 0), none, some (.iload 4, 2, 0), none, some (.iconst 4, 1, 0), some (.if_icmp .eq 20, 3, 0), none, none, some (.aload_n 0, 1, 0), some (.getfield 2654, 3, 50), none, none, some (.iconst 4, 1, 0), some (.aload_n 0, 1, 0), some (.iload_n 1, 1, 0), some (.iload_n 2, 1, 0), some (.iconst 2, 1, 0), some (.invokevirtual 222, 3, 342), none, none, some (.imul, 1, 0), some (.iload_n 3, 1, 0), some (.iadd, 1, 0), some (.iconst 1, 1, 0), some (.bastore, 1, 0), some (.iload 4, 2, 0), none, some (.iconst 3, 1, 0), some (.if_icmp .ne 20, 3, 0), none, none, some (.aload_n 0, 1, 0), some (.getfield 2654, 3, 50), none, none, some (.iconst 4, 1, 0), some (.aload_n 0, 1, 0), some (.iload_n 1, 1, 0), some (.iload_n 2, 1, 0), some (.iconst 3, 1, 0), some (.invokevirtual 222, 3, 342), none, none, some (.imul, 1, 0), some (.iload_n 3, 1, 0), some (.iadd, 1, 0), some (.iconst 1, 1, 0), some (.bastore, 1, 0), some (.aload_n 0, 1, 0), some (.getfield 2658, 3, 54), none, none, some (.iconst 4, 1, 0), some (.aload_n 0, 1, 0), some (.iload_n 1, 1, 0), some (.iload_n 2, 1, 0), some (.iconst 0, 1, 0), some (.invokevirtual 222, 3, 342), none, none, some (.imul, 1, 0), some (.iload_n 3, 1, 0), some (.iadd, 1, 0), some (.iconst 1, 1, 0), some (.bastore, 1, 0), some (.return_, 1, 0)]
set_option maxRecDepth 20000 in
def zk_X12_missing : zCode := [some (.iconst 0, 1, 0), some (.istore_n 3, 1, 0), some (.iconst 0, 1, 0), some (.istore 4, 2, 0), none, some (.iload 4, 2, 0), none, some (.aload_n 0, 1, 0), some (.iload_n 1, 1, 0), some (.invokevirtual 214, 3, 226), none, none, some (.if_icmp .ge 53, 3, 0), none, none, some (.iconst 0, 1, 0), some (.istore 5, 2, 0), none, some (.iload 5, 2, 0), none, some (.aload_n 0, 1, 0), some (.iload_n 1, 1, 0), some (.iload 4, 2, 0), none, some (.invokevirtual 217, 3, 336), none, none, some (.if_icmp .ge 32, 3, 0), none, none, some (.iload_n 3, 1, 0), some (.aload_n 2, 1, 0), some (.iconst 4, 1, 0), some (.iload 4, 2, 0), none, some (.imul, 1, 0), some (.iload 5, 2, 0), none, some (.iadd, 1, 0), some (.baload, 1, 0), some (.ifCond .ne 7, 3, 0), none, none, some (.iconst 1, 1, 0), some (.goto 4, 3, 0), none, none, some (.iconst 0, 1, 0), some (.invokestatic 174, 3, 271), none, none, some (.iadd, 1, 0), some (.istore_n 3, 1, 0), some (.iinc 5 1, 3, 0), none, none, some (.goto (-38), 3, 0), none, none, some (.iinc 4 1, 3, 0), none, none, some (.goto (-57), 3, 0), none, none, some (.iload_n 3, 1, 0), some (.ireturn, 1, 0)]
set_option maxRecDepth 20000 in
def zk_X12_carries : zCode := [some (.iconst 0, 1, 0), some (.istore_n 2, 1, 0), some (.iload_n 2, 1, 0), some (.bipush 24, 2, 0), none, some (.if_icmp .ge 30, 3, 0), none, none, some (.aload_n 0, 1, 0), some (.getfield 2646, 3, 44), none, none, some (.iload_n 2, 1, 0), some (.lconst 0, 1, 0), some (.lastore, 1, 0), some (.aload_n 0, 1, 0), some (.getfield 2654, 3, 50), none, none, some (.iload_n 2, 1, 0), some (.iconst 0, 1, 0), some (.bastore, 1, 0), some (.aload_n 0, 1, 0), some (.getfield 2658, 3, 54), none, none, some (.iload_n 2, 1, 0), some (.iconst 0, 1, 0), some (.bastore, 1, 0), some (.iinc 2 1, 3, 0), none, none, some (.goto (-30), 3, 0), none, none, some (.iconst 0, 1, 0), some (.istore_n 2, 1, 0), some (.iload_n 2, 1, 0), some (.bipush 6, 2, 0), none, some (.if_icmp .ge 16, 3, 0), none, none, some (.aload_n 0, 1, 0), some (.getfield 2650, 3, 47), none, none, some (.iload_n 2, 1, 0), some (.iconst 0, 1, 0), some (.iastore, 1, 0), some (.iinc 2 1, 3, 0), none, none, some (.goto (-16), 3, 0), none, none, some (.iconst 0, 1, 0), some (.istore_n 2, 1, 0), some (.iload_n 2, 1, 0), some (.aload_n 0, 1, 0), some (.iload_n 1, 1, 0), some (.invokevirtual 221, 3, 339), none, none, some (.if_icmp .ge 101, 3, 0), none, none, some (.iconst 0, 1, 0), some (.istore_n 3, 1, 0), some (.iload_n 3, 1, 0), some (.aload_n 0, 1, 0), some (.iload_n 1, 1, 0), some (.iload_n 2, 1, 0), some (.invokevirtual 280, 3, 443), none, none, some (.if_icmp .ge 83, 3, 0), none, none, some (.aload_n 0, 1, 0), some (.iload_n 1, 1, 0), some (.iload_n 2, 1, 0), some (.invokevirtual 249, 3, 360), none, none, some (.istore 4, 2, 0), none, some (.aload_n 0, 1, 0), some (.iload_n 1, 1, 0), some (.iload_n 2, 1, 0), some (.invokevirtual 250, 3, 363), none, none, some (.istore 5, 2, 0), none, some (.aload_n 0, 1, 0), some (.iload_n 1, 1, 0), some (.iload_n 2, 1, 0), some (.iload_n 3, 1, 0), some (.invokevirtual 279, 3, 446), none, none, some (.lstore 6, 2, 0), none, some (.aload_n 0, 1, 0), some (.lload 6, 2, 0), none, some (.iload 4, 2, 0), none, some (.iload 5, 2, 0), none, some (.invokevirtual 241, 3, 440), none, none, some (.lstore 8, 2, 0), none, some (.aload_n 0, 1, 0), some (.getfield 2646, 3, 44), none, none, some (.iconst 4, 1, 0), some (.aload_n 0, 1, 0), some (.iload_n 1, 1, 0), some (.iload_n 2, 1, 0), some (.iconst 0, 1, 0), some (.invokevirtual 222, 3, 342), none, none, some (.imul, 1, 0), some (.iload_n 3, 1, 0), some (.iadd, 1, 0), some (.lload 8, 2, 0), none, some (.lastore, 1, 0), some (.aload_n 0, 1, 0), some (.lload 6, 2, 0), none, some (.iload 4, 2, 0), none, some (.lload 8, 2, 0), none, some (.iload 5, 2, 0), none, some (.invokevirtual 281, 3, 450), none, none, some (.aload_n 0, 1, 0), some (.iload_n 1, 1, 0), some (.iload_n 2, 1, 0), some (.iload_n 3, 1, 0), some (.invokevirtual 282, 3, 454), none, none, some (.iinc 3 1, 3, 0), none, none, some (.goto (-87), 3, 0), none, none, some (.iinc 2 1, 3, 0), none, none, some (.goto (-104), 3, 0), none, none, some (.aload_n 0, 1, 0), some (.getfield 2650, 3, 47), none, none, some (.iconst 4, 1, 0), some (.aload_n 0, 1, 0), some (.aload_n 0, 1, 0), some (.iload_n 1, 1, 0), some (.invokevirtual 219, 3, 348), none, none, some (.aload_n 0, 1, 0), some (.getfield 2654, 3, 50), none, none, some (.invokevirtual 283, 3, 457), none, none, some (.iastore, 1, 0), some (.aload_n 0, 1, 0), some (.getfield 2650, 3, 47), none, none, some (.iconst 5, 1, 0), some (.aload_n 0, 1, 0), some (.aload_n 0, 1, 0), some (.iload_n 1, 1, 0), some (.invokevirtual 220, 3, 351), none, none, some (.aload_n 0, 1, 0), some (.getfield 2658, 3, 54), none, none, some (.invokevirtual 283, 3, 457), none, none, some (.iastore, 1, 0), some (.return_, 1, 0)]
set_option maxRecDepth 20000 in
def zk_X12_targetIsSource : zCode := [some (.iconst 0, 1, 0), some (.istore_n 1, 1, 0), some (.iload_n 1, 1, 0), some (.bipush 24, 2, 0), none, some (.if_icmp .ge 21, 3, 0), none, none, some (.aload_n 0, 1, 0), some (.getfield 2642, 3, 41), none, none, some (.iload_n 1, 1, 0), some (.aload_n 0, 1, 0), some (.getfield 2646, 3, 44), none, none, some (.iload_n 1, 1, 0), some (.laload, 1, 0), some (.lastore, 1, 0), some (.iinc 1 1, 3, 0), none, none, some (.goto (-21), 3, 0), none, none, some (.return_, 1, 0)]
set_option maxRecDepth 20000 in
def zk_X12_cross : zCode := [some (.aload_n 0, 1, 0), some (.iload_n 1, 1, 0), some (.invokevirtual 218, 3, 345), none, none, some (.ifCond .eq 30, 3, 0), none, none, some (.aload_n 0, 1, 0), some (.aload_n 0, 1, 0), some (.iload_n 1, 1, 0), some (.invokevirtual 219, 3, 348), none, none, some (.iload_n 2, 1, 0), some (.invokevirtual 225, 3, 401), none, none, some (.ifCond .eq 17, 3, 0), none, none, some (.aload_n 0, 1, 0), some (.aload_n 0, 1, 0), some (.iload_n 1, 1, 0), some (.invokevirtual 220, 3, 351), none, none, some (.invokevirtual 224, 3, 229), none, none, some (.bipush 8, 2, 0), none, some (.if_icmp .ne 9, 3, 0), none, none, some (.aload_n 0, 1, 0), some (.iconst 3, 1, 0), some (.invokevirtual 175, 3, 72), none, none, some (.ireturn, 1, 0), some (.aload_n 0, 1, 0), some (.invokevirtual 307, 3, 387), none, none, some (.aload_n 0, 1, 0), some (.aload_n 0, 1, 0), some (.iload_n 1, 1, 0), some (.invokevirtual 219, 3, 348), none, none, some (.iload_n 2, 1, 0), some (.invokevirtual 277, 3, 461), none, none, some (.aload_n 0, 1, 0), some (.iload_n 1, 1, 0), some (.invokevirtual 284, 3, 464), none, none, some (.aload_n 0, 1, 0), some (.iload_n 1, 1, 0), some (.invokevirtual 220, 3, 351), none, none, some (.istore_n 3, 1, 0), some (.aload_n 0, 1, 0), some (.iload_n 3, 1, 0), some (.invokevirtual 271, 3, 407), none, none, some (.istore 4, 2, 0), none, some (.iconst 0, 1, 0), some (.istore 5, 2, 0), none, some (.iload 5, 2, 0), none, some (.aload_n 0, 1, 0), some (.iload_n 3, 1, 0), some (.invokevirtual 214, 3, 226), none, none, some (.if_icmp .ge 66, 3, 0), none, none, some (.iconst 0, 1, 0), some (.istore 6, 2, 0), none, some (.iload 6, 2, 0), none, some (.aload_n 0, 1, 0), some (.iload_n 3, 1, 0), some (.iload 5, 2, 0), none, some (.invokevirtual 217, 3, 336), none, none, some (.if_icmp .ge 45, 3, 0), none, none, some (.aload_n 0, 1, 0), some (.getfield 2626, 3, 30), none, none, some (.iload_n 3, 1, 0), some (.iload 5, 2, 0), none, some (.aload_n 0, 1, 0), some (.iload_n 3, 1, 0), some (.iload 5, 2, 0), none, some (.invokevirtual 217, 3, 336), none, none, some (.iload 4, 2, 0), none, some (.imul, 1, 0), some (.iload 6, 2, 0), none, some (.iadd, 1, 0), some (.invokestatic 223, 3, 384), none, none, some (.aload_n 0, 1, 0), some (.getfield 2646, 3, 44), none, none, some (.iconst 4, 1, 0), some (.iload 5, 2, 0), none, some (.imul, 1, 0), some (.iload 6, 2, 0), none, some (.iadd, 1, 0), some (.laload, 1, 0), some (.lastore, 1, 0), some (.iinc 6 1, 3, 0), none, none, some (.goto (-51), 3, 0), none, none, some (.iinc 5 1, 3, 0), none, none, some (.goto (-70), 3, 0), none, none, some (.iconst 0, 1, 0), some (.istore 5, 2, 0), none, some (.iload 5, 2, 0), none, some (.bipush 6, 2, 0), none, some (.if_icmp .ge 23, 3, 0), none, none, some (.aload_n 0, 1, 0), some (.getfield 2666, 3, 57), none, none, some (.iload 5, 2, 0), none, some (.aload_n 0, 1, 0), some (.getfield 2650, 3, 47), none, none, some (.iload 5, 2, 0), none, some (.iaload, 1, 0), some (.iastore, 1, 0), some (.iinc 5 1, 3, 0), none, none, some (.goto (-24), 3, 0), none, none, some (.aload_n 0, 1, 0), some (.iconst 1, 1, 0), some (.putfield 2663, 3, 240), none, none, some (.iload 4, 2, 0), none, some (.ireturn, 1, 0)]
set_option maxRecDepth 20000 in
def zk_X12_account : zCode := [some (.aload_n 0, 1, 0), some (.getfield 2663, 3, 240), none, none, some (.ifCond .eq 24, 3, 0), none, none, some (.iload_n 1, 1, 0), some (.i2l, 1, 0), some (.lconst 0, 1, 0), some (.ldc2_w 17, 3, 80), none, none, some (.invokestatic 172, 3, 82), none, none, some (.ifCond .eq 12, 3, 0), none, none, some (.aload_n 0, 1, 0), some (.getfield 2666, 3, 57), none, none, some (.iload_n 1, 1, 0), some (.iaload, 1, 0), some (.goto 4, 3, 0), none, none, some (.iconst (-1), 1, 0), some (.ireturn, 1, 0)]
set_option maxRecDepth 20000 in
def zk_X12_canCross : zCode := [some (.aload_n 0, 1, 0), some (.iload_n 1, 1, 0), some (.invokevirtual 218, 3, 345), none, none, some (.ifCond .eq 20, 3, 0), none, none, some (.aload_n 0, 1, 0), some (.aload_n 0, 1, 0), some (.iload_n 1, 1, 0), some (.invokevirtual 219, 3, 348), none, none, some (.iload_n 2, 1, 0), some (.invokevirtual 225, 3, 401), none, none, some (.ifCond .eq 7, 3, 0), none, none, some (.iconst 1, 1, 0), some (.goto 4, 3, 0), none, none, some (.iconst 0, 1, 0), some (.ireturn, 1, 1)]
set_option maxRecDepth 20000 in
def zk_X12_would : zCode := [some (.aload_n 0, 1, 0), some (.iload_n 1, 1, 0), some (.iload_n 2, 1, 0), some (.invokevirtual 288, 3, 467), none, none, some (.ifCond .eq 15, 3, 0), none, none, some (.iload_n 3, 1, 0), some (.i2l, 1, 0), some (.lconst 0, 1, 0), some (.ldc2_w 17, 3, 80), none, none, some (.invokestatic 172, 3, 82), none, none, some (.ifCond .ne 5, 3, 0), none, none, some (.iconst (-1), 1, 0), some (.ireturn, 1, 0), some (.aload_n 0, 1, 0), some (.aload_n 0, 1, 0), some (.iload_n 1, 1, 0), some (.invokevirtual 219, 3, 348), none, none, some (.iload_n 2, 1, 0), some (.invokevirtual 277, 3, 461), none, none, some (.aload_n 0, 1, 0), some (.iload_n 1, 1, 0), some (.invokevirtual 284, 3, 464), none, none, some (.aload_n 0, 1, 0), some (.getfield 2650, 3, 47), none, none, some (.iload_n 3, 1, 0), some (.iaload, 1, 0), some (.ireturn, 1, 0)]
set_option maxRecDepth 20000 in
def zk_X12_doesLeadBack : zCode := [some (.aload_n 0, 1, 0), some (.iload_n 1, 1, 0), some (.invokevirtual 218, 3, 345), none, none, some (.ifCond .eq 41, 3, 0), none, none, some (.aload_n 0, 1, 0), some (.iload_n 2, 1, 0), some (.invokevirtual 218, 3, 345), none, none, some (.ifCond .eq 33, 3, 0), none, none, some (.aload_n 0, 1, 0), some (.iload_n 2, 1, 0), some (.invokevirtual 219, 3, 348), none, none, some (.aload_n 0, 1, 0), some (.iload_n 1, 1, 0), some (.invokevirtual 220, 3, 351), none, none, some (.if_icmp .ne 20, 3, 0), none, none, some (.aload_n 0, 1, 0), some (.iload_n 2, 1, 0), some (.invokevirtual 220, 3, 351), none, none, some (.aload_n 0, 1, 0), some (.iload_n 1, 1, 0), some (.invokevirtual 219, 3, 348), none, none, some (.if_icmp .ne 7, 3, 0), none, none, some (.iconst 1, 1, 0), some (.goto 4, 3, 0), none, none, some (.iconst 0, 1, 0), some (.ireturn, 1, 1)]
set_option maxRecDepth 20000 in
def zk_X12_unlikeTarget : zCode := [some (.lconst 0, 1, 0), some (.lstore_n 3, 1, 0), some (.iconst 0, 1, 0), some (.istore 5, 2, 0), none, some (.iconst 0, 1, 0), some (.istore 6, 2, 0), none, some (.iload 6, 2, 0), none, some (.aload_n 0, 1, 0), some (.iload_n 1, 1, 0), some (.invokevirtual 214, 3, 226), none, none, some (.if_icmp .ge 66, 3, 0), none, none, some (.iconst 0, 1, 0), some (.istore 7, 2, 0), none, some (.iload 7, 2, 0), none, some (.aload_n 0, 1, 0), some (.iload_n 1, 1, 0), some (.iload 6, 2, 0), none, some (.invokevirtual 217, 3, 336), none, none, some (.if_icmp .ge 45, 3, 0), none, none, some (.aload_n 0, 1, 0), some (.iload_n 1, 1, 0), some (.iload 6, 2, 0), none, some (.iload_n 2, 1, 0), some (.iload 7, 2, 0), none, some (.invokevirtual 265, 3, 404), none, none, some (.aload_n 0, 1, 0), some (.getfield 2646, 3, 44), none, none, some (.iconst 4, 1, 0), some (.iload 6, 2, 0), none, some (.imul, 1, 0), some (.iload 7, 2, 0), none, some (.iadd, 1, 0), some (.laload, 1, 0), some (.lcmp, 1, 0), some (.ifCond .eq 10, 3, 0), none, none, some (.lload_n 3, 1, 0), some (.lconst 1, 1, 0), some (.iload 5, 2, 0), none, some (.lshl, 1, 0), some (.lor, 1, 0), some (.lstore_n 3, 1, 0), some (.iinc 5 1, 3, 0), none, none, some (.iinc 7 1, 3, 0), none, none, some (.goto (-51), 3, 0), none, none, some (.iinc 6 1, 3, 0), none, none, some (.goto (-70), 3, 0), none, none, some (.lload_n 3, 1, 0), some (.lreturn, 1, 0)]
set_option maxRecDepth 20000 in
def zk_X12_round : zCode := [some (.aload_n 0, 1, 0), some (.iload_n 1, 1, 0), some (.iload_n 2, 1, 0), some (.invokevirtual 290, 3, 470), none, none, some (.ifCond .eq 12, 3, 0), none, none, some (.aload_n 0, 1, 0), some (.iload_n 1, 1, 0), some (.iload_n 3, 1, 0), some (.invokevirtual 288, 3, 467), none, none, some (.ifCond .ne 7, 3, 0), none, none, some (.ldc2_w 13, 3, 382), none, none, some (.lreturn, 1, 0), some (.aload_n 0, 1, 0), some (.aload_n 0, 1, 0), some (.iload_n 1, 1, 0), some (.invokevirtual 219, 3, 348), none, none, some (.iload_n 3, 1, 0), some (.invokevirtual 277, 3, 461), none, none, some (.aload_n 0, 1, 0), some (.iload_n 1, 1, 0), some (.invokevirtual 284, 3, 464), none, none, some (.aload_n 0, 1, 0), some (.invokevirtual 285, 3, 473), none, none, some (.aload_n 0, 1, 0), some (.iload_n 2, 1, 0), some (.invokevirtual 284, 3, 464), none, none, some (.aload_n 0, 1, 0), some (.aload_n 0, 1, 0), some (.iload_n 1, 1, 0), some (.invokevirtual 219, 3, 348), none, none, some (.iload_n 3, 1, 0), some (.invokevirtual 291, 3, 476), none, none, some (.lreturn, 1, 0)]
set_option maxRecDepth 20000 in
def zk_X12_isAside : zCode := [some (.iload_n 0, 1, 0), some (.iconst 4, 1, 0), some (.if_icmp .ne 9, 3, 0), none, none, some (.iload_n 1, 1, 0), some (.bipush 6, 2, 0), none, some (.if_icmp .eq 20, 3, 0), none, none, some (.iload_n 0, 1, 0), some (.iconst 5, 1, 0), some (.if_icmp .ne 19, 3, 0), none, none, some (.iload_n 1, 1, 0), some (.bipush 6, 2, 0), none, some (.if_icmp .eq 9, 3, 0), none, none, some (.iload_n 1, 1, 0), some (.bipush 7, 2, 0), none, some (.if_icmp .ne 7, 3, 0), none, none, some (.iconst 1, 1, 0), some (.goto 4, 3, 0), none, none, some (.iconst 0, 1, 0), some (.ireturn, 1, 1)]
set_option maxRecDepth 20000 in
def zk_X12_isAlone : zCode := [some (.iconst 0, 1, 0), some (.istore 4, 2, 0), none, some (.iload 4, 2, 0), none, some (.aload_n 0, 1, 0), some (.iload_n 1, 1, 0), some (.invokevirtual 221, 3, 339), none, none, some (.if_icmp .ge 46, 3, 0), none, none, some (.aload_n 0, 1, 0), some (.iload_n 1, 1, 0), some (.iload 4, 2, 0), none, some (.iconst 0, 1, 0), some (.invokevirtual 222, 3, 342), none, none, some (.iload_n 3, 1, 0), some (.if_icmp .ne 28, 3, 0), none, none, some (.aload_n 0, 1, 0), some (.iload_n 1, 1, 0), some (.iload 4, 2, 0), none, some (.iconst 1, 1, 0), some (.invokevirtual 222, 3, 342), none, none, some (.ifCond .ne 17, 3, 0), none, none, some (.aload_n 0, 1, 0), some (.iload_n 1, 1, 0), some (.iload 4, 2, 0), none, some (.iconst 2, 1, 0), some (.invokevirtual 222, 3, 342), none, none, some (.iload_n 2, 1, 0), some (.if_icmp .ne 5, 3, 0), none, none, some (.iconst 1, 1, 0), some (.ireturn, 1, 1), some (.iinc 4 1, 3, 0), none, none, some (.goto (-50), 3, 0), none, none, some (.iconst 0, 1, 0), some (.ireturn, 1, 1)]
set_option maxRecDepth 20000 in
def zk_X12_isProved : zCode := [some (.aload_n 0, 1, 0), some (.aload_n 0, 1, 0), some (.iload_n 1, 1, 0), some (.invokevirtual 219, 3, 348), none, none, some (.iload_n 3, 1, 0), some (.invokevirtual 216, 3, 333), none, none, some (.istore 5, 2, 0), none, some (.aload_n 0, 1, 0), some (.aload_n 0, 1, 0), some (.iload_n 1, 1, 0), some (.invokevirtual 220, 3, 351), none, none, some (.iload 4, 2, 0), none, some (.invokevirtual 216, 3, 333), none, none, some (.istore 6, 2, 0), none, some (.aload_n 0, 1, 0), some (.iload_n 1, 1, 0), some (.iload_n 3, 1, 0), some (.iload 4, 2, 0), none, some (.invokevirtual 294, 3, 480), none, none, some (.ifCond .eq 63, 3, 0), none, none, some (.aload_n 0, 1, 0), some (.iload_n 2, 1, 0), some (.iload 4, 2, 0), none, some (.iload_n 3, 1, 0), some (.invokevirtual 294, 3, 480), none, none, some (.ifCond .eq 52, 3, 0), none, none, some (.aload_n 0, 1, 0), some (.iload 5, 2, 0), none, some (.iload 6, 2, 0), none, some (.invokevirtual 232, 3, 319), none, none, some (.ifCond .eq 41, 3, 0), none, none, some (.iload 5, 2, 0), none, some (.iload 6, 2, 0), none, some (.invokestatic 293, 3, 484), none, none, some (.ifCond .ne 31, 3, 0), none, none, some (.aload_n 0, 1, 0), some (.aload_n 0, 1, 0), some (.iload_n 1, 1, 0), some (.invokevirtual 220, 3, 351), none, none, some (.iload 4, 2, 0), none, some (.invokevirtual 217, 3, 336), none, none, some (.aload_n 0, 1, 0), some (.aload_n 0, 1, 0), some (.iload_n 1, 1, 0), some (.invokevirtual 219, 3, 348), none, none, some (.iload_n 3, 1, 0), some (.invokevirtual 217, 3, 336), none, none, some (.if_icmp .lt 7, 3, 0), none, none, some (.iconst 1, 1, 0), some (.goto 4, 3, 0), none, none, some (.iconst 0, 1, 0), some (.ireturn, 1, 1)]
set_option maxRecDepth 20000 in
def zk_X12_proved : zCode := [some (.aload_n 0, 1, 0), some (.iload_n 1, 1, 0), some (.iload_n 2, 1, 0), some (.invokevirtual 290, 3, 470), none, none, some (.ifCond .ne 5, 3, 0), none, none, some (.iconst (-1), 1, 0), some (.ireturn, 1, 0), some (.iconst 0, 1, 0), some (.istore_n 3, 1, 0), some (.iconst 0, 1, 0), some (.istore 4, 2, 0), none, some (.iload 4, 2, 0), none, some (.aload_n 0, 1, 0), some (.aload_n 0, 1, 0), some (.iload_n 1, 1, 0), some (.invokevirtual 219, 3, 348), none, none, some (.invokevirtual 214, 3, 226), none, none, some (.if_icmp .ge 52, 3, 0), none, none, some (.iconst 0, 1, 0), some (.istore 5, 2, 0), none, some (.iload 5, 2, 0), none, some (.aload_n 0, 1, 0), some (.aload_n 0, 1, 0), some (.iload_n 1, 1, 0), some (.invokevirtual 220, 3, 351), none, none, some (.invokevirtual 214, 3, 226), none, none, some (.if_icmp .ge 29, 3, 0), none, none, some (.aload_n 0, 1, 0), some (.iload_n 1, 1, 0), some (.iload_n 2, 1, 0), some (.iload 4, 2, 0), none, some (.iload 5, 2, 0), none, some (.invokevirtual 295, 3, 487), none, none, some (.ifCond .eq 10, 3, 0), none, none, some (.iload_n 3, 1, 0), some (.iconst 1, 1, 0), some (.iload 4, 2, 0), none, some (.ishl, 1, 0), some (.ior, 1, 0), some (.istore_n 3, 1, 0), some (.iinc 5 1, 3, 0), none, none, some (.goto (-37), 3, 0), none, none, some (.iinc 4 1, 3, 0), none, none, some (.goto (-60), 3, 0), none, none, some (.iload_n 3, 1, 0), some (.ireturn, 1, 0)]
set_option maxRecDepth 20000 in
def zk_X12_isWay : zCode := [some (.iload_n 1, 1, 0), some (.istore 5, 2, 0), none, some (.iload_n 2, 1, 0), some (.iconst 1, 1, 0), some (.isub, 1, 0), some (.istore 6, 2, 0), none, some (.iload 6, 2, 0), none, some (.ifCond .lt 36, 3, 0), none, none, some (.aload_n 0, 1, 0), some (.getfield 2670, 3, 60), none, none, some (.iload 6, 2, 0), none, some (.iload 5, 2, 0), none, some (.aload_n 0, 1, 0), some (.getfield 2614, 3, 27), none, none, some (.iconst 1, 1, 0), some (.iaload, 1, 0), some (.irem, 1, 0), some (.iastore, 1, 0), some (.iload 5, 2, 0), none, some (.aload_n 0, 1, 0), some (.getfield 2614, 3, 27), none, none, some (.iconst 1, 1, 0), some (.iaload, 1, 0), some (.idiv, 1, 0), some (.istore 5, 2, 0), none, some (.iinc 6 (-1), 3, 0), none, none, some (.goto (-35), 3, 0), none, none, some (.iload_n 3, 1, 0), some (.istore 6, 2, 0), none, some (.iconst 0, 1, 0), some (.istore 7, 2, 0), none, some (.iload 7, 2, 0), none, some (.iload_n 2, 1, 0), some (.if_icmp .ge 75, 3, 0), none, none, some (.aload_n 0, 1, 0), some (.aload_n 0, 1, 0), some (.getfield 2670, 3, 60), none, none, some (.iload 7, 2, 0), none, some (.iaload, 1, 0), some (.invokevirtual 219, 3, 348), none, none, some (.iload 6, 2, 0), none, some (.if_icmp .eq 5, 3, 0), none, none, some (.iconst 0, 1, 0), some (.ireturn, 1, 1), some (.iconst 0, 1, 0), some (.istore 8, 2, 0), none, some (.iload 8, 2, 0), none, some (.iload 7, 2, 0), none, some (.if_icmp .ge 28, 3, 0), none, none, some (.aload_n 0, 1, 0), some (.getfield 2670, 3, 60), none, none, some (.iload 8, 2, 0), none, some (.iaload, 1, 0), some (.aload_n 0, 1, 0), some (.getfield 2670, 3, 60), none, none, some (.iload 7, 2, 0), none, some (.iaload, 1, 0), some (.if_icmp .ne 5, 3, 0), none, none, some (.iconst 0, 1, 0), some (.ireturn, 1, 1), some (.iinc 8 1, 3, 0), none, none, some (.goto (-29), 3, 0), none, none, some (.aload_n 0, 1, 0), some (.aload_n 0, 1, 0), some (.getfield 2670, 3, 60), none, none, some (.iload 7, 2, 0), none, some (.iaload, 1, 0), some (.invokevirtual 220, 3, 351), none, none, some (.istore 6, 2, 0), none, some (.iinc 7 1, 3, 0), none, none, some (.goto (-75), 3, 0), none, none, some (.iload 6, 2, 0), none, some (.iload 4, 2, 0), none, some (.if_icmp .ne 7, 3, 0), none, none, some (.iconst 1, 1, 0), some (.goto 4, 3, 0), none, none, some (.iconst 0, 1, 0), some (.ireturn, 1, 1)]
set_option maxRecDepth 20000 in
def zk_X12_rowsOf : zCode := [some (.iconst 1, 1, 0), some (.istore_n 2, 1, 0), some (.iconst 0, 1, 0), some (.istore_n 3, 1, 0), some (.iload_n 3, 1, 0), some (.iload_n 1, 1, 0), some (.if_icmp .ge 18, 3, 0), none, none, some (.iload_n 2, 1, 0), some (.aload_n 0, 1, 0), some (.getfield 2614, 3, 27), none, none, some (.iconst 1, 1, 0), some (.iaload, 1, 0), some (.imul, 1, 0), some (.istore_n 2, 1, 0), some (.iinc 3 1, 3, 0), none, none, some (.goto (-17), 3, 0), none, none, some (.iload_n 2, 1, 0), some (.ireturn, 1, 0)]
set_option maxRecDepth 20000 in
def zk_X12_way : zCode := [some (.aload_n 0, 1, 0), some (.iload_n 1, 1, 0), some (.invokevirtual 213, 3, 223), none, none, some (.ifCond .eq 21, 3, 0), none, none, some (.aload_n 0, 1, 0), some (.iload_n 2, 1, 0), some (.invokevirtual 213, 3, 223), none, none, some (.ifCond .eq 13, 3, 0), none, none, some (.iload_n 1, 1, 0), some (.iload_n 2, 1, 0), some (.if_icmp .eq 8, 3, 0), none, none, some (.iload_n 3, 1, 0), some (.iconst (-1), 1, 0), some (.if_icmp .ge 5, 3, 0), none, none, some (.iconst (-1), 1, 0), some (.ireturn, 1, 0), some (.iconst 1, 1, 0), some (.istore 4, 2, 0), none, some (.iload 4, 2, 0), none, some (.iconst 3, 1, 0), some (.if_icmp .gt 69, 3, 0), none, none, some (.iconst 0, 1, 0), some (.istore 5, 2, 0), none, some (.iload 5, 2, 0), none, some (.aload_n 0, 1, 0), some (.iload 4, 2, 0), none, some (.invokevirtual 298, 3, 491), none, none, some (.if_icmp .ge 49, 3, 0), none, none, some (.aload_n 0, 1, 0), some (.iload 5, 2, 0), none, some (.iload 4, 2, 0), none, some (.iload_n 1, 1, 0), some (.iload_n 2, 1, 0), some (.invokevirtual 297, 3, 494), none, none, some (.ifCond .eq 30, 3, 0), none, none, some (.iload_n 3, 1, 0), some (.iconst (-1), 1, 0), some (.if_icmp .ne 8, 3, 0), none, none, some (.iload 4, 2, 0), none, some (.goto 19, 3, 0), none, none, some (.iload_n 3, 1, 0), some (.iload 4, 2, 0), none, some (.if_icmp .ge 12, 3, 0), none, none, some (.aload_n 0, 1, 0), some (.getfield 2670, 3, 60), none, none, some (.iload_n 3, 1, 0), some (.iaload, 1, 0), some (.goto 4, 3, 0), none, none, some (.iconst (-1), 1, 0), some (.ireturn, 1, 0), some (.iinc 5 1, 3, 0), none, none, some (.goto (-54), 3, 0), none, none, some (.iinc 4 1, 3, 0), none, none, some (.goto (-69), 3, 0), none, none, some (.iconst (-1), 1, 0), some (.ireturn, 1, 0)]
set_option maxRecDepth 20000 in
def zk_X12_losses : zCode := [some (.iconst 0, 1, 0), some (.istore 4, 2, 0), none, some (.aload_n 0, 1, 0), some (.iload_n 1, 1, 0), some (.iload_n 2, 1, 0), some (.invokevirtual 277, 3, 461), none, none, some (.iconst 0, 1, 0), some (.istore 5, 2, 0), none, some (.iload 5, 2, 0), none, some (.iload_n 3, 1, 0), some (.if_icmp .ge 35, 3, 0), none, none, some (.aload_n 0, 1, 0), some (.aload_n 0, 1, 0), some (.getfield 2670, 3, 60), none, none, some (.iload 5, 2, 0), none, some (.iaload, 1, 0), some (.invokevirtual 284, 3, 464), none, none, some (.iload 4, 2, 0), none, some (.aload_n 0, 1, 0), some (.getfield 2650, 3, 47), none, none, some (.iconst 3, 1, 0), some (.iaload, 1, 0), some (.iadd, 1, 0), some (.istore 4, 2, 0), none, some (.aload_n 0, 1, 0), some (.invokevirtual 285, 3, 473), none, none, some (.iinc 5 1, 3, 0), none, none, some (.goto (-35), 3, 0), none, none, some (.iload 4, 2, 0), none, some (.ireturn, 1, 0)]
set_option maxRecDepth 20000 in
def zk_X12_least : zCode := [some (.aload_n 0, 1, 0), some (.iload_n 1, 1, 0), some (.iload_n 2, 1, 0), some (.invokevirtual 225, 3, 401), none, none, some (.ifCond .eq 22, 3, 0), none, none, some (.aload_n 0, 1, 0), some (.iload_n 3, 1, 0), some (.invokevirtual 213, 3, 223), none, none, some (.ifCond .eq 14, 3, 0), none, none, some (.iload_n 1, 1, 0), some (.iload_n 3, 1, 0), some (.if_icmp .eq 9, 3, 0), none, none, some (.iload 4, 2, 0), none, some (.iconst (-1), 1, 0), some (.if_icmp .ge 5, 3, 0), none, none, some (.iconst (-1), 1, 0), some (.ireturn, 1, 0), some (.iconst (-1), 1, 0), some (.istore 5, 2, 0), none, some (.iconst 0, 1, 0), some (.istore 6, 2, 0), none, some (.iconst 1, 1, 0), some (.istore 7, 2, 0), none, some (.iload 7, 2, 0), none, some (.iconst 3, 1, 0), some (.if_icmp .gt 109, 3, 0), none, none, some (.iconst 0, 1, 0), some (.istore 8, 2, 0), none, some (.iload 8, 2, 0), none, some (.aload_n 0, 1, 0), some (.iload 7, 2, 0), none, some (.invokevirtual 298, 3, 491), none, none, some (.if_icmp .ge 89, 3, 0), none, none, some (.aload_n 0, 1, 0), some (.iload 8, 2, 0), none, some (.iload 7, 2, 0), none, some (.iload_n 1, 1, 0), some (.iload_n 3, 1, 0), some (.invokevirtual 297, 3, 494), none, none, some (.ifCond .ne 6, 3, 0), none, none, some (.goto 67, 3, 0), none, none, some (.aload_n 0, 1, 0), some (.iload_n 1, 1, 0), some (.iload_n 2, 1, 0), some (.iload 7, 2, 0), none, some (.invokevirtual 300, 3, 497), none, none, some (.istore 9, 2, 0), none, some (.iload 5, 2, 0), none, some (.iconst (-1), 1, 0), some (.if_icmp .eq 13, 3, 0), none, none, some (.iload 9, 2, 0), none, some (.iload 5, 2, 0), none, some (.if_icmp .lt 6, 3, 0), none, none, some (.goto 41, 3, 0), none, none, some (.iload 9, 2, 0), none, some (.istore 5, 2, 0), none, some (.iload 7, 2, 0), none, some (.istore 6, 2, 0), none, some (.iconst 0, 1, 0), some (.istore 10, 2, 0), none, some (.iload 10, 2, 0), none, some (.iload 7, 2, 0), none, some (.if_icmp .ge 23, 3, 0), none, none, some (.aload_n 0, 1, 0), some (.getfield 2674, 3, 63), none, none, some (.iload 10, 2, 0), none, some (.aload_n 0, 1, 0), some (.getfield 2670, 3, 60), none, none, some (.iload 10, 2, 0), none, some (.iaload, 1, 0), some (.iastore, 1, 0), some (.iinc 10 1, 3, 0), none, none, some (.goto (-24), 3, 0), none, none, some (.iinc 8 1, 3, 0), none, none, some (.goto (-94), 3, 0), none, none, some (.iinc 7 1, 3, 0), none, none, some (.goto (-109), 3, 0), none, none, some (.iload 5, 2, 0), none, some (.iconst (-1), 1, 0), some (.if_icmp .eq 9, 3, 0), none, none, some (.iload 4, 2, 0), none, some (.iconst (-1), 1, 0), some (.if_icmp .ne 8, 3, 0), none, none, some (.iload 5, 2, 0), none, some (.goto 21, 3, 0), none, none, some (.iload 4, 2, 0), none, some (.iload 6, 2, 0), none, some (.if_icmp .ge 13, 3, 0), none, none, some (.aload_n 0, 1, 0), some (.getfield 2674, 3, 63), none, none, some (.iload 4, 2, 0), none, some (.iaload, 1, 0), some (.goto 4, 3, 0), none, none, some (.iconst (-1), 1, 0), some (.ireturn, 1, 0)]
set_option maxRecDepth 20000 in
def zk_X12_origins : zCode := [some (.aload_n 0, 1, 0), some (.iload_n 1, 1, 0), some (.invokevirtual 218, 3, 345), none, none, some (.ifCond .eq 16, 3, 0), none, none, some (.aload_n 0, 1, 0), some (.aload_n 0, 1, 0), some (.iload_n 1, 1, 0), some (.invokevirtual 220, 3, 351), none, none, some (.iload_n 2, 1, 0), some (.invokevirtual 225, 3, 401), none, none, some (.ifCond .ne 5, 3, 0), none, none, some (.iconst (-1), 1, 0), some (.ireturn, 1, 0), some (.iconst 0, 1, 0), some (.istore_n 3, 1, 0), some (.iconst 0, 1, 0), some (.istore 4, 2, 0), none, some (.iload 4, 2, 0), none, some (.aload_n 0, 1, 0), some (.aload_n 0, 1, 0), some (.iload_n 1, 1, 0), some (.invokevirtual 219, 3, 348), none, none, some (.invokevirtual 224, 3, 229), none, none, some (.if_icmp .ge 47, 3, 0), none, none, some (.aload_n 0, 1, 0), some (.aload_n 0, 1, 0), some (.iload_n 1, 1, 0), some (.invokevirtual 219, 3, 348), none, none, some (.iload 4, 2, 0), none, some (.invokevirtual 277, 3, 461), none, none, some (.aload_n 0, 1, 0), some (.iload_n 1, 1, 0), some (.invokevirtual 284, 3, 464), none, none, some (.aload_n 0, 1, 0), some (.aload_n 0, 1, 0), some (.iload_n 1, 1, 0), some (.invokevirtual 220, 3, 351), none, none, some (.iload_n 2, 1, 0), some (.invokevirtual 291, 3, 476), none, none, some (.lconst 0, 1, 0), some (.lcmp, 1, 0), some (.ifCond .ne 10, 3, 0), none, none, some (.iload_n 3, 1, 0), some (.iconst 1, 1, 0), some (.iload 4, 2, 0), none, some (.ishl, 1, 0), some (.ior, 1, 0), some (.istore_n 3, 1, 0), some (.iinc 4 1, 3, 0), none, none, some (.goto (-55), 3, 0), none, none, some (.iload_n 3, 1, 0), some (.ireturn, 1, 0)]
set_option maxRecDepth 20000 in
def zk_X12_areLike : zCode := [some (.iconst 0, 1, 0), some (.istore 5, 2, 0), none, some (.iload 5, 2, 0), none, some (.aload_n 0, 1, 0), some (.iload_n 1, 1, 0), some (.iload_n 2, 1, 0), some (.invokevirtual 217, 3, 336), none, none, some (.if_icmp .ge 34, 3, 0), none, none, some (.aload_n 0, 1, 0), some (.iload_n 1, 1, 0), some (.iload_n 2, 1, 0), some (.iload_n 3, 1, 0), some (.iload 5, 2, 0), none, some (.invokevirtual 265, 3, 404), none, none, some (.aload_n 0, 1, 0), some (.iload_n 1, 1, 0), some (.iload_n 2, 1, 0), some (.iload 4, 2, 0), none, some (.iload 5, 2, 0), none, some (.invokevirtual 265, 3, 404), none, none, some (.lcmp, 1, 0), some (.ifCond .eq 5, 3, 0), none, none, some (.iconst 0, 1, 0), some (.ireturn, 1, 1), some (.iinc 5 1, 3, 0), none, none, some (.goto (-39), 3, 0), none, none, some (.iconst 1, 1, 0), some (.ireturn, 1, 1)]
set_option maxRecDepth 20000 in
def zk_X12_mostAlike : zCode := [some (.iconst 0, 1, 0), some (.istore_n 3, 1, 0), some (.iconst 0, 1, 0), some (.istore 4, 2, 0), none, some (.iload 4, 2, 0), none, some (.aload_n 0, 1, 0), some (.iload_n 1, 1, 0), some (.invokevirtual 224, 3, 229), none, none, some (.if_icmp .ge 58, 3, 0), none, none, some (.iconst 0, 1, 0), some (.istore 5, 2, 0), none, some (.iconst 0, 1, 0), some (.istore 6, 2, 0), none, some (.iload 6, 2, 0), none, some (.aload_n 0, 1, 0), some (.iload_n 1, 1, 0), some (.invokevirtual 224, 3, 229), none, none, some (.if_icmp .ge 27, 3, 0), none, none, some (.iload 5, 2, 0), none, some (.aload_n 0, 1, 0), some (.iload_n 1, 1, 0), some (.iload_n 2, 1, 0), some (.iload 4, 2, 0), none, some (.iload 6, 2, 0), none, some (.invokevirtual 303, 3, 500), none, none, some (.invokestatic 174, 3, 271), none, none, some (.iadd, 1, 0), some (.istore 5, 2, 0), none, some (.iinc 6 1, 3, 0), none, none, some (.goto (-31), 3, 0), none, none, some (.iload 5, 2, 0), none, some (.iload_n 3, 1, 0), some (.if_icmp .le 6, 3, 0), none, none, some (.iload 5, 2, 0), none, some (.istore_n 3, 1, 0), some (.iinc 4 1, 3, 0), none, none, some (.goto (-62), 3, 0), none, none, some (.iload_n 3, 1, 0), some (.ireturn, 1, 0)]
set_option maxRecDepth 20000 in
def zk_X12_tells : zCode := [some (.aload_n 0, 1, 0), some (.iload_n 1, 1, 0), some (.invokevirtual 213, 3, 223), none, none, some (.ifCond .eq 21, 3, 0), none, none, some (.aload_n 0, 1, 0), some (.iload_n 1, 1, 0), some (.invokevirtual 224, 3, 229), none, none, some (.ifCond .eq 13, 3, 0), none, none, some (.iload_n 2, 1, 0), some (.i2l, 1, 0), some (.lconst 0, 1, 0), some (.lconst 1, 1, 0), some (.invokestatic 172, 3, 82), none, none, some (.ifCond .ne 5, 3, 0), none, none, some (.iconst (-1), 1, 0), some (.ireturn, 1, 0), some (.iconst 0, 1, 0), some (.istore_n 3, 1, 0), some (.iconst 1, 1, 0), some (.istore 4, 2, 0), none, some (.iload 4, 2, 0), none, some (.aload_n 0, 1, 0), some (.iload_n 1, 1, 0), some (.invokevirtual 214, 3, 226), none, none, some (.if_icmp .ge 28, 3, 0), none, none, some (.aload_n 0, 1, 0), some (.iload_n 1, 1, 0), some (.iload 4, 2, 0), none, some (.invokevirtual 304, 3, 503), none, none, some (.aload_n 0, 1, 0), some (.iload_n 1, 1, 0), some (.iload_n 3, 1, 0), some (.invokevirtual 304, 3, 503), none, none, some (.if_icmp .ge 6, 3, 0), none, none, some (.iload 4, 2, 0), none, some (.istore_n 3, 1, 0), some (.iinc 4 1, 3, 0), none, none, some (.goto (-32), 3, 0), none, none, some (.iload_n 2, 1, 0), some (.ifCond .ne 7, 3, 0), none, none, some (.iload_n 3, 1, 0), some (.goto 9, 3, 0), none, none, some (.aload_n 0, 1, 0), some (.iload_n 1, 1, 0), some (.iload_n 3, 1, 0), some (.invokevirtual 304, 3, 503), none, none, some (.ireturn, 1, 0)]
set_option maxRecDepth 20000 in
def zk_X12_idle : zCode := [some (.aload_n 0, 1, 0), some (.iload_n 1, 1, 0), some (.invokevirtual 213, 3, 223), none, none, some (.ifCond .eq 13, 3, 0), none, none, some (.iload_n 2, 1, 0), some (.i2l, 1, 0), some (.lconst 0, 1, 0), some (.lconst 1, 1, 0), some (.invokestatic 172, 3, 82), none, none, some (.ifCond .ne 5, 3, 0), none, none, some (.iconst (-1), 1, 0), some (.ireturn, 1, 0), some (.iconst 0, 1, 0), some (.istore_n 3, 1, 0), some (.iconst 0, 1, 0), some (.istore 4, 2, 0), none, some (.iload 4, 2, 0), none, some (.aload_n 0, 1, 0), some (.getfield 2614, 3, 27), none, none, some (.iconst 1, 1, 0), some (.iaload, 1, 0), some (.if_icmp .ge 56, 3, 0), none, none, some (.iload_n 2, 1, 0), some (.ifCond .ne 22, 3, 0), none, none, some (.aload_n 0, 1, 0), some (.iload 4, 2, 0), none, some (.invokevirtual 220, 3, 351), none, none, some (.iload_n 1, 1, 0), some (.if_icmp .ne 12, 3, 0), none, none, some (.iload_n 3, 1, 0), some (.aload_n 0, 1, 0), some (.iload 4, 2, 0), none, some (.invokevirtual 247, 3, 357), none, none, some (.ior, 1, 0), some (.istore_n 3, 1, 0), some (.iload_n 2, 1, 0), some (.iconst 1, 1, 0), some (.if_icmp .ne 22, 3, 0), none, none, some (.aload_n 0, 1, 0), some (.iload 4, 2, 0), none, some (.invokevirtual 219, 3, 348), none, none, some (.iload_n 1, 1, 0), some (.if_icmp .ne 12, 3, 0), none, none, some (.iload_n 3, 1, 0), some (.aload_n 0, 1, 0), some (.iload 4, 2, 0), none, some (.invokevirtual 246, 3, 354), none, none, some (.ior, 1, 0), some (.istore_n 3, 1, 0), some (.iinc 4 1, 3, 0), none, none, some (.goto (-61), 3, 0), none, none, some (.iconst 1, 1, 0), some (.aload_n 0, 1, 0), some (.iload_n 1, 1, 0), some (.invokevirtual 214, 3, 226), none, none, some (.ishl, 1, 0), some (.iconst 1, 1, 0), some (.isub, 1, 0), some (.iload_n 3, 1, 0), some (.iconst (-1), 1, 0), some (.ixor, 1, 0), some (.iand, 1, 0), some (.ireturn, 1, 0)]
set_option maxRecDepth 20000 in
def zk_X12_keeps : zCode := [some (.aload_n 0, 1, 0), some (.aload_n 0, 1, 0), some (.getfield 2684, 3, 506), none, none, some (.iconst 1, 1, 0), some (.iadd, 1, 0), some (.bipush 20, 2, 0), none, some (.irem, 1, 0), some (.putfield 2684, 3, 506), none, none, some (.iconst 0, 1, 0), some (.istore_n 1, 1, 0), some (.iload_n 1, 1, 0), some (.sipush 587, 3, 0), none, none, some (.if_icmp .ge 30, 3, 0), none, none, some (.aload_n 0, 1, 0), some (.getfield 2678, 3, 66), none, none, some (.sipush 587, 3, 0), none, none, some (.aload_n 0, 1, 0), some (.getfield 2684, 3, 506), none, none, some (.imul, 1, 0), some (.iload_n 1, 1, 0), some (.iadd, 1, 0), some (.aload_n 0, 1, 0), some (.getfield 2626, 3, 30), none, none, some (.iload_n 1, 1, 0), some (.laload, 1, 0), some (.lastore, 1, 0), some (.iinc 1 1, 3, 0), none, none, some (.goto (-31), 3, 0), none, none, some (.aload_n 0, 1, 0), some (.getfield 2680, 3, 243), none, none, some (.bipush 20, 2, 0), none, some (.if_icmp .ge 13, 3, 0), none, none, some (.aload_n 0, 1, 0), some (.dup, 1, 0), some (.getfield 2680, 3, 243), none, none, some (.iconst 1, 1, 0), some (.iadd, 1, 0), some (.putfield 2680, 3, 243), none, none, some (.return_, 1, 0)]
set_option maxRecDepth 20000 in
def zk_X12_undo : zCode := [some (.aload_n 0, 1, 0), some (.getfield 2680, 3, 243), none, none, some (.ifCond .ne 9, 3, 0), none, none, some (.aload_n 0, 1, 0), some (.iconst 4, 1, 0), some (.invokevirtual 176, 3, 76), none, none, some (.ireturn, 1, 1), some (.iconst 0, 1, 0), some (.istore_n 1, 1, 0), some (.iload_n 1, 1, 0), some (.sipush 587, 3, 0), none, none, some (.if_icmp .ge 30, 3, 0), none, none, some (.aload_n 0, 1, 0), some (.getfield 2626, 3, 30), none, none, some (.iload_n 1, 1, 0), some (.aload_n 0, 1, 0), some (.getfield 2678, 3, 66), none, none, some (.sipush 587, 3, 0), none, none, some (.aload_n 0, 1, 0), some (.getfield 2684, 3, 506), none, none, some (.imul, 1, 0), some (.iload_n 1, 1, 0), some (.iadd, 1, 0), some (.laload, 1, 0), some (.lastore, 1, 0), some (.iinc 1 1, 3, 0), none, none, some (.goto (-31), 3, 0), none, none, some (.aload_n 0, 1, 0), some (.aload_n 0, 1, 0), some (.getfield 2684, 3, 506), none, none, some (.bipush 20, 2, 0), none, some (.iadd, 1, 0), some (.iconst 1, 1, 0), some (.isub, 1, 0), some (.bipush 20, 2, 0), none, some (.irem, 1, 0), some (.putfield 2684, 3, 506), none, none, some (.aload_n 0, 1, 0), some (.dup, 1, 0), some (.getfield 2680, 3, 243), none, none, some (.iconst 1, 1, 0), some (.isub, 1, 0), some (.putfield 2680, 3, 243), none, none, some (.iconst 1, 1, 0), some (.ireturn, 1, 1)]
set_option maxRecDepth 20000 in
def zk_Jxe99ae_isNaN_b9ae7 : zCode := [some (.dload_n 0, 1, 0), some (.dload_n 0, 1, 0), some (.dcmp .l, 1, 0), some (.ifCond .eq 7, 3, 0), none, none, some (.iconst 1, 1, 0), some (.goto 4, 3, 0), none, none, some (.iconst 0, 1, 0), some (.ireturn, 1, 1)]
set_option maxRecDepth 20000 in
def zk_Jxe99ae_doubleToLongBits_ccdee : zCode := [some (.dload_n 0, 1, 0), some (.invokestatic 309, 3, 122), none, none, some (.ifCond .ne 8, 3, 0), none, none, some (.dload_n 0, 1, 0), some (.invokestatic 901, 3, 134), none, none, some (.lreturn, 1, 0), some (.ldc2_w 27, 3, 137), none, none, some (.lreturn, 1, 0)]
set_option maxRecDepth 20000 in
def zk_Jxf58ca_isNaN_12338 : zCode := [some (.fload_n 0, 1, 0), some (.fload_n 0, 1, 0), some (.fcmp .l, 1, 0), some (.ifCond .eq 7, 3, 0), none, none, some (.iconst 1, 1, 0), some (.goto 4, 3, 0), none, none, some (.iconst 0, 1, 0), some (.ireturn, 1, 1)]
set_option maxRecDepth 20000 in
def zk_Jxf58ca_floatToIntBits_5c35a : zCode := [some (.fload_n 0, 1, 0), some (.invokestatic 311, 3, 59), none, none, some (.ifCond .ne 8, 3, 0), none, none, some (.fload_n 0, 1, 0), some (.invokestatic 903, 3, 74), none, none, some (.ireturn, 1, 0), some (.ldc 28, 2, 77), none, some (.ireturn, 1, 0)]
set_option maxRecDepth 20000 in
def zk_J6_bitCount_0f7a4 : zCode := [some (.iload_n 0, 1, 0), some (.iload_n 0, 1, 0), some (.iconst 1, 1, 0), some (.iushr, 1, 0), some (.ldc_w 29, 3, 265), none, none, some (.iand, 1, 0), some (.isub, 1, 0), some (.istore_n 0, 1, 0), some (.iload_n 0, 1, 0), some (.ldc_w 30, 3, 266), none, none, some (.iand, 1, 0), some (.iload_n 0, 1, 0), some (.iconst 2, 1, 0), some (.iushr, 1, 0), some (.ldc_w 30, 3, 266), none, none, some (.iand, 1, 0), some (.iadd, 1, 0), some (.istore_n 0, 1, 0), some (.iload_n 0, 1, 0), some (.iload_n 0, 1, 0), some (.iconst 4, 1, 0), some (.iushr, 1, 0), some (.iadd, 1, 0), some (.ldc_w 31, 3, 267), none, none, some (.iand, 1, 0), some (.istore_n 0, 1, 0), some (.iload_n 0, 1, 0), some (.iload_n 0, 1, 0), some (.bipush 8, 2, 0), none, some (.iushr, 1, 0), some (.iadd, 1, 0), some (.istore_n 0, 1, 0), some (.iload_n 0, 1, 0), some (.iload_n 0, 1, 0), some (.bipush 16, 2, 0), none, some (.iushr, 1, 0), some (.iadd, 1, 0), some (.istore_n 0, 1, 0), some (.iload_n 0, 1, 0), some (.bipush 63, 2, 0), none, some (.iand, 1, 0), some (.ireturn, 1, 0)]
set_option maxRecDepth 20000 in
def zk_J9_floorMod_7cf53 : zCode := [some (.iload_n 0, 1, 0), some (.iload_n 1, 1, 0), some (.irem, 1, 0), some (.istore_n 2, 1, 0), some (.iload_n 0, 1, 0), some (.iload_n 1, 1, 0), some (.ixor, 1, 0), some (.ifCond .ge 11, 3, 0), none, none, some (.iload_n 2, 1, 0), some (.ifCond .eq 7, 3, 0), none, none, some (.iload_n 2, 1, 0), some (.iload_n 1, 1, 0), some (.iadd, 1, 0), some (.ireturn, 1, 0), some (.iload_n 2, 1, 0), some (.ireturn, 1, 0)]
set_option maxRecDepth 20000 in
def zk_J9_max_7cf53 : zCode := [some (.iload_n 0, 1, 0), some (.iload_n 1, 1, 0), some (.if_icmp .lt 7, 3, 0), none, none, some (.iload_n 0, 1, 0), some (.goto 4, 3, 0), none, none, some (.iload_n 1, 1, 0), some (.ireturn, 1, 0)]
set_option maxRecDepth 20000 in
def zk_J9_min_7cf53 : zCode := [some (.iload_n 0, 1, 0), some (.iload_n 1, 1, 0), some (.if_icmp .gt 7, 3, 0), none, none, some (.iload_n 0, 1, 0), some (.goto 4, 3, 0), none, none, some (.iload_n 1, 1, 0), some (.ireturn, 1, 0)]
set_option maxRecDepth 20000 in
def zk_J7_fill_d0a16 : zCode := [some (.iconst 0, 1, 0), some (.istore_n 3, 1, 0), some (.aload_n 0, 1, 0), some (.arraylength, 1, 0), some (.istore 4, 2, 0), none, some (.iload_n 3, 1, 0), some (.iload 4, 2, 0), none, some (.if_icmp .ge 13, 3, 0), none, none, some (.aload_n 0, 1, 0), some (.iload_n 3, 1, 0), some (.lload_n 1, 1, 0), some (.lastore, 1, 0), some (.iinc 3 1, 3, 0), none, none, some (.goto (-13), 3, 0), none, none, some (.return_, 1, 0)]
set_option maxRecDepth 20000 in
def zk_J7_fill_53178 : zCode := [some (.iconst 0, 1, 0), some (.istore_n 2, 1, 0), some (.aload_n 0, 1, 0), some (.arraylength, 1, 0), some (.istore_n 3, 1, 0), some (.iload_n 2, 1, 0), some (.iload_n 3, 1, 0), some (.if_icmp .ge 13, 3, 0), none, none, some (.aload_n 0, 1, 0), some (.iload_n 2, 1, 0), some (.iload_n 1, 1, 0), some (.iastore, 1, 0), some (.iinc 2 1, 3, 0), none, none, some (.goto (-12), 3, 0), none, none, some (.return_, 1, 0)]
set_option maxRecDepth 20000 in
def zk_L_law : zCode := [some (.new 9, 3, 7), none, none, some (.dup, 1, 0), some (.invokespecial 124, 3, 9), none, none, some (.astore_n 1, 1, 0), some (.new 10, 3, 10), none, none, some (.dup, 1, 0), some (.invokespecial 171, 3, 12), none, none, some (.astore_n 2, 1, 0), some (.iconst 0, 1, 0), some (.istore_n 3, 1, 0), some (.iload_n 3, 1, 0), some (.aload_n 0, 1, 0), some (.arraylength, 1, 0), some (.bipush 7, 2, 0), none, some (.isub, 1, 0), some (.if_icmp .gt 1521, 3, 0), none, none, some (.aload_n 0, 1, 0), some (.iload_n 3, 1, 0), some (.iaload, 1, 0), some (.bipush 63, 2, 0), none, some (.iand, 1, 0), some (.tableswitch 1506 0 35 #[159, 222, 245, 258, 281, 304, 347, 370, 413, 446, 489, 522, 555, 609, 663, 758, 853, 866, 920, 964, 987, 1020, 1053, 1076, 1109, 1132, 1175, 1219, 1252, 1295, 1348, 1381, 1414, 1447, 1460, 1483], 159, 0), none, none, none, none, none, none, none, none, none, none, none, none, none, none, none, none, none, none, none, none, none, none, none, none, none, none, none, none, none, none, none, none, none, none, none, none, none, none, none, none, none, none, none, none, none, none, none, none, none, none, none, none, none, none, none, none, none, none, none, none, none, none, none, none, none, none, none, none, none, none, none, none, none, none, none, none, none, none, none, none, none, none, none, none, none, none, none, none, none, none, none, none, none, none, none, none, none, none, none, none, none, none, none, none, none, none, none, none, none, none, none, none, none, none, none, none, none, none, none, none, none, none, none, none, none, none, none, none, none, none, none, none, none, none, none, none, none, none, none, none, none, none, none, none, none, none, none, none, none, none, none, none, none, none, none, none, none, none, some (.aload_n 1, 1, 0), some (.aload_n 0, 1, 0), some (.iload_n 3, 1, 0), some (.iconst 1, 1, 0), some (.iadd, 1, 0), some (.iaload, 1, 0), some (.aload_n 0, 1, 0), some (.iload_n 3, 1, 0), some (.iconst 2, 1, 0), some (.iadd, 1, 0), some (.iaload, 1, 0), some (.aload_n 0, 1, 0), some (.iload_n 3, 1, 0), some (.iconst 3, 1, 0), some (.iadd, 1, 0), some (.iaload, 1, 0), some (.aload_n 0, 1, 0), some (.iload_n 3, 1, 0), some (.iconst 4, 1, 0), some (.iadd, 1, 0), some (.iaload, 1, 0), some (.aload_n 0, 1, 0), some (.iload_n 3, 1, 0), some (.iconst 5, 1, 0), some (.iadd, 1, 0), some (.iaload, 1, 0), some (.invokevirtual 125, 3, 13), none, none, some (.aload_n 2, 1, 0), some (.aload_n 0, 1, 0), some (.iload_n 3, 1, 0), some (.iconst 1, 1, 0), some (.iadd, 1, 0), some (.iaload, 1, 0), some (.aload_n 0, 1, 0), some (.iload_n 3, 1, 0), some (.iconst 2, 1, 0), some (.iadd, 1, 0), some (.iaload, 1, 0), some (.aload_n 0, 1, 0), some (.iload_n 3, 1, 0), some (.iconst 3, 1, 0), some (.iadd, 1, 0), some (.iaload, 1, 0), some (.aload_n 0, 1, 0), some (.iload_n 3, 1, 0), some (.iconst 4, 1, 0), some (.iadd, 1, 0), some (.iaload, 1, 0), some (.aload_n 0, 1, 0), some (.iload_n 3, 1, 0), some (.iconst 5, 1, 0), some (.iadd, 1, 0), some (.iaload, 1, 0), some (.invokevirtual 177, 3, 17), none, none, some (.if_icmp .eq 1289, 3, 0), none, none, some (.iconst 0, 1, 0), some (.ireturn, 1, 1), some (.aload_n 1, 1, 0), some (.aload_n 0, 1, 0), some (.iload_n 3, 1, 0), some (.iconst 1, 1, 0), some (.iadd, 1, 0), some (.iaload, 1, 0), some (.invokevirtual 126, 3, 18), none, none, some (.aload_n 2, 1, 0), some (.aload_n 0, 1, 0), some (.iload_n 3, 1, 0), some (.iconst 1, 1, 0), some (.iadd, 1, 0), some (.iaload, 1, 0), some (.invokevirtual 178, 3, 22), none, none, some (.if_icmp .eq 1266, 3, 0), none, none, some (.iconst 0, 1, 0), some (.ireturn, 1, 1), some (.aload_n 1, 1, 0), some (.invokevirtual 127, 3, 23), none, none, some (.aload_n 2, 1, 0), some (.invokevirtual 212, 3, 27), none, none, some (.if_icmp .eq 1253, 3, 0), none, none, some (.iconst 0, 1, 0), some (.ireturn, 1, 1), some (.aload_n 1, 1, 0), some (.aload_n 0, 1, 0), some (.iload_n 3, 1, 0), some (.iconst 1, 1, 0), some (.iadd, 1, 0), some (.iaload, 1, 0), some (.invokevirtual 128, 3, 28), none, none, some (.aload_n 2, 1, 0), some (.aload_n 0, 1, 0), some (.iload_n 3, 1, 0), some (.iconst 1, 1, 0), some (.iadd, 1, 0), some (.iaload, 1, 0), some (.invokevirtual 180, 3, 32), none, none, some (.if_icmp .eq 1230, 3, 0), none, none, some (.iconst 0, 1, 0), some (.ireturn, 1, 1), some (.aload_n 1, 1, 0), some (.aload_n 0, 1, 0), some (.iload_n 3, 1, 0), some (.iconst 1, 1, 0), some (.iadd, 1, 0), some (.iaload, 1, 0), some (.invokevirtual 129, 3, 33), none, none, some (.aload_n 2, 1, 0), some (.aload_n 0, 1, 0), some (.iload_n 3, 1, 0), some (.iconst 1, 1, 0), some (.iadd, 1, 0), some (.iaload, 1, 0), some (.invokevirtual 242, 3, 36), none, none, some (.if_icmp .eq 1207, 3, 0), none, none, some (.iconst 0, 1, 0), some (.ireturn, 1, 1), some (.aload_n 1, 1, 0), some (.aload_n 0, 1, 0), some (.iload_n 3, 1, 0), some (.iconst 1, 1, 0), some (.iadd, 1, 0), some (.iaload, 1, 0), some (.aload_n 0, 1, 0), some (.iload_n 3, 1, 0), some (.iconst 2, 1, 0), some (.iadd, 1, 0), some (.iaload, 1, 0), some (.aload_n 0, 1, 0), some (.iload_n 3, 1, 0), some (.iconst 3, 1, 0), some (.iadd, 1, 0), some (.iaload, 1, 0), some (.invokevirtual 131, 3, 37), none, none, some (.aload_n 2, 1, 0), some (.aload_n 0, 1, 0), some (.iload_n 3, 1, 0), some (.iconst 1, 1, 0), some (.iadd, 1, 0), some (.iaload, 1, 0), some (.aload_n 0, 1, 0), some (.iload_n 3, 1, 0), some (.iconst 2, 1, 0), some (.iadd, 1, 0), some (.iaload, 1, 0), some (.aload_n 0, 1, 0), some (.iload_n 3, 1, 0), some (.iconst 3, 1, 0), some (.iadd, 1, 0), some (.iaload, 1, 0), some (.invokevirtual 243, 3, 41), none, none, some (.if_icmp .eq 1164, 3, 0), none, none, some (.iconst 0, 1, 0), some (.ireturn, 1, 1), some (.aload_n 1, 1, 0), some (.aload_n 0, 1, 0), some (.iload_n 3, 1, 0), some (.iconst 1, 1, 0), some (.iadd, 1, 0), some (.iaload, 1, 0), some (.invokevirtual 132, 3, 42), none, none, some (.aload_n 2, 1, 0), some (.aload_n 0, 1, 0), some (.iload_n 3, 1, 0), some (.iconst 1, 1, 0), some (.iadd, 1, 0), some (.iaload, 1, 0), some (.invokevirtual 244, 3, 45), none, none, some (.if_icmp .eq 1141, 3, 0), none, none, some (.iconst 0, 1, 0), some (.ireturn, 1, 1), some (.aload_n 1, 1, 0), some (.aload_n 0, 1, 0), some (.iload_n 3, 1, 0), some (.iconst 1, 1, 0), some (.iadd, 1, 0), some (.iaload, 1, 0), some (.aload_n 0, 1, 0), some (.iload_n 3, 1, 0), some (.iconst 2, 1, 0), some (.iadd, 1, 0), some (.iaload, 1, 0), some (.aload_n 0, 1, 0), some (.iload_n 3, 1, 0), some (.iconst 3, 1, 0), some (.iadd, 1, 0), some (.iaload, 1, 0), some (.invokevirtual 133, 3, 46), none, none, some (.aload_n 2, 1, 0), some (.aload_n 0, 1, 0), some (.iload_n 3, 1, 0), some (.iconst 1, 1, 0), some (.iadd, 1, 0), some (.iaload, 1, 0), some (.aload_n 0, 1, 0), some (.iload_n 3, 1, 0), some (.iconst 2, 1, 0), some (.iadd, 1, 0), some (.iaload, 1, 0), some (.aload_n 0, 1, 0), some (.iload_n 3, 1, 0), some (.iconst 3, 1, 0), some (.iadd, 1, 0), some (.iaload, 1, 0), some (.invokevirtual 245, 3, 49), none, none, some (.if_icmp .eq 1098, 3, 0), none, none, some (.iconst 0, 1, 0), some (.ireturn, 1, 1), some (.aload_n 1, 1, 0), some (.aload_n 0, 1, 0), some (.iload_n 3, 1, 0), some (.iconst 1, 1, 0), some (.iadd, 1, 0), some (.iaload, 1, 0), some (.aload_n 0, 1, 0), some (.iload_n 3, 1, 0), some (.iconst 2, 1, 0), some (.iadd, 1, 0), some (.iaload, 1, 0), some (.invokevirtual 134, 3, 50), none, none, some (.aload_n 2, 1, 0), some (.aload_n 0, 1, 0), some (.iload_n 3, 1, 0), some (.iconst 1, 1, 0), some (.iadd, 1, 0), some (.iaload, 1, 0), some (.aload_n 0, 1, 0), some (.iload_n 3, 1, 0), some (.iconst 2, 1, 0), some (.iadd, 1, 0), some (.iaload, 1, 0), some (.invokevirtual 248, 3, 54), none, none, some (.if_icmp .eq 1065, 3, 0), none, none, some (.iconst 0, 1, 0), some (.ireturn, 1, 1), some (.aload_n 1, 1, 0), some (.aload_n 0, 1, 0), some (.iload_n 3, 1, 0), some (.iconst 1, 1, 0), some (.iadd, 1, 0), some (.iaload, 1, 0), some (.aload_n 0, 1, 0), some (.iload_n 3, 1, 0), some (.iconst 2, 1, 0), some (.iadd, 1, 0), some (.iaload, 1, 0), some (.aload_n 0, 1, 0), some (.iload_n 3, 1, 0), some (.iconst 3, 1, 0), some (.iadd, 1, 0), some (.iaload, 1, 0), some (.invokevirtual 135, 3, 55), none, none, some (.aload_n 2, 1, 0), some (.aload_n 0, 1, 0), some (.iload_n 3, 1, 0), some (.iconst 1, 1, 0), some (.iadd, 1, 0), some (.iaload, 1, 0), some (.aload_n 0, 1, 0), some (.iload_n 3, 1, 0), some (.iconst 2, 1, 0), some (.iadd, 1, 0), some (.iaload, 1, 0), some (.aload_n 0, 1, 0), some (.iload_n 3, 1, 0), some (.iconst 3, 1, 0), some (.iadd, 1, 0), some (.iaload, 1, 0), some (.invokevirtual 251, 3, 58), none, none, some (.if_icmp .eq 1022, 3, 0), none, none, some (.iconst 0, 1, 0), some (.ireturn, 1, 1), some (.aload_n 1, 1, 0), some (.aload_n 0, 1, 0), some (.iload_n 3, 1, 0), some (.iconst 1, 1, 0), some (.iadd, 1, 0), some (.iaload, 1, 0), some (.aload_n 0, 1, 0), some (.iload_n 3, 1, 0), some (.iconst 2, 1, 0), some (.iadd, 1, 0), some (.iaload, 1, 0), some (.invokevirtual 136, 3, 59), none, none, some (.aload_n 2, 1, 0), some (.aload_n 0, 1, 0), some (.iload_n 3, 1, 0), some (.iconst 1, 1, 0), some (.iadd, 1, 0), some (.iaload, 1, 0), some (.aload_n 0, 1, 0), some (.iload_n 3, 1, 0), some (.iconst 2, 1, 0), some (.iadd, 1, 0), some (.iaload, 1, 0), some (.invokevirtual 252, 3, 62), none, none, some (.if_icmp .eq 989, 3, 0), none, none, some (.iconst 0, 1, 0), some (.ireturn, 1, 1), some (.aload_n 1, 1, 0), some (.aload_n 0, 1, 0), some (.iload_n 3, 1, 0), some (.iconst 1, 1, 0), some (.iadd, 1, 0), some (.iaload, 1, 0), some (.aload_n 0, 1, 0), some (.iload_n 3, 1, 0), some (.iconst 2, 1, 0), some (.iadd, 1, 0), some (.iaload, 1, 0), some (.invokevirtual 137, 3, 63), none, none, some (.aload_n 2, 1, 0), some (.aload_n 0, 1, 0), some (.iload_n 3, 1, 0), some (.iconst 1, 1, 0), some (.iadd, 1, 0), some (.iaload, 1, 0), some (.aload_n 0, 1, 0), some (.iload_n 3, 1, 0), some (.iconst 2, 1, 0), some (.iadd, 1, 0), some (.iaload, 1, 0), some (.invokevirtual 255, 3, 66), none, none, some (.if_icmp .eq 956, 3, 0), none, none, some (.iconst 0, 1, 0), some (.ireturn, 1, 1), some (.aload_n 1, 1, 0), some (.aload_n 0, 1, 0), some (.iload_n 3, 1, 0), some (.iconst 1, 1, 0), some (.iadd, 1, 0), some (.iaload, 1, 0), some (.aload_n 0, 1, 0), some (.iload_n 3, 1, 0), some (.iconst 2, 1, 0), some (.iadd, 1, 0), some (.iaload, 1, 0), some (.aload_n 0, 1, 0), some (.iload_n 3, 1, 0), some (.iconst 3, 1, 0), some (.iadd, 1, 0), some (.iaload, 1, 0), some (.aload_n 0, 1, 0), some (.iload_n 3, 1, 0), some (.iconst 4, 1, 0), some (.iadd, 1, 0), some (.iaload, 1, 0), some (.invokevirtual 138, 3, 67), none, none, some (.aload_n 2, 1, 0), some (.aload_n 0, 1, 0), some (.iload_n 3, 1, 0), some (.iconst 1, 1, 0), some (.iadd, 1, 0), some (.iaload, 1, 0), some (.aload_n 0, 1, 0), some (.iload_n 3, 1, 0), some (.iconst 2, 1, 0), some (.iadd, 1, 0), some (.iaload, 1, 0), some (.aload_n 0, 1, 0), some (.iload_n 3, 1, 0), some (.iconst 3, 1, 0), some (.iadd, 1, 0), some (.iaload, 1, 0), some (.aload_n 0, 1, 0), some (.iload_n 3, 1, 0), some (.iconst 4, 1, 0), some (.iadd, 1, 0), some (.iaload, 1, 0), some (.invokevirtual 258, 3, 71), none, none, some (.lcmp, 1, 0), some (.ifCond .eq 902, 3, 0), none, none, some (.iconst 0, 1, 0), some (.ireturn, 1, 1), some (.aload_n 1, 1, 0), some (.aload_n 0, 1, 0), some (.iload_n 3, 1, 0), some (.iconst 1, 1, 0), some (.iadd, 1, 0), some (.iaload, 1, 0), some (.aload_n 0, 1, 0), some (.iload_n 3, 1, 0), some (.iconst 2, 1, 0), some (.iadd, 1, 0), some (.iaload, 1, 0), some (.aload_n 0, 1, 0), some (.iload_n 3, 1, 0), some (.iconst 3, 1, 0), some (.iadd, 1, 0), some (.iaload, 1, 0), some (.aload_n 0, 1, 0), some (.iload_n 3, 1, 0), some (.iconst 4, 1, 0), some (.iadd, 1, 0), some (.iaload, 1, 0), some (.invokevirtual 139, 3, 72), none, none, some (.aload_n 2, 1, 0), some (.aload_n 0, 1, 0), some (.iload_n 3, 1, 0), some (.iconst 1, 1, 0), some (.iadd, 1, 0), some (.iaload, 1, 0), some (.aload_n 0, 1, 0), some (.iload_n 3, 1, 0), some (.iconst 2, 1, 0), some (.iadd, 1, 0), some (.iaload, 1, 0), some (.aload_n 0, 1, 0), some (.iload_n 3, 1, 0), some (.iconst 3, 1, 0), some (.iadd, 1, 0), some (.iaload, 1, 0), some (.aload_n 0, 1, 0), some (.iload_n 3, 1, 0), some (.iconst 4, 1, 0), some (.iadd, 1, 0), some (.iaload, 1, 0), some (.invokevirtual 259, 3, 75), none, none, some (.lcmp, 1, 0), some (.ifCond .eq 848, 3, 0), none, none, some (.iconst 0, 1, 0), some (.ireturn, 1, 1), some (.aload_n 1, 1, 0), some (.aload_n 0, 1, 0), some (.iload_n 3, 1, 0), some (.iconst 1, 1, 0), some (.iadd, 1, 0), some (.iaload, 1, 0), some (.aload_n 0, 1, 0), some (.iload_n 3, 1, 0), some (.iconst 2, 1, 0), some (.iadd, 1, 0), some (.iaload, 1, 0), some (.aload_n 0, 1, 0), some (.iload_n 3, 1, 0), some (.iconst 3, 1, 0), some (.iadd, 1, 0), some (.iaload, 1, 0), some (.aload_n 0, 1, 0), some (.iload_n 3, 1, 0), some (.iconst 4, 1, 0), some (.iadd, 1, 0), some (.iaload, 1, 0), some (.aload_n 0, 1, 0), some (.iload_n 3, 1, 0), some (.iconst 5, 1, 0), some (.iadd, 1, 0), some (.iaload, 1, 0), some (.i2l, 1, 0), some (.bipush 32, 2, 0), none, some (.lshl, 1, 0), some (.aload_n 0, 1, 0), some (.iload_n 3, 1, 0), some (.bipush 6, 2, 0), none, some (.iadd, 1, 0), some (.iaload, 1, 0), some (.i2l, 1, 0), some (.ldc2_w 32, 3, 76), none, none, some (.land, 1, 0), some (.lor, 1, 0), some (.invokevirtual 140, 3, 78), none, none, some (.aload_n 2, 1, 0), some (.aload_n 0, 1, 0), some (.iload_n 3, 1, 0), some (.iconst 1, 1, 0), some (.iadd, 1, 0), some (.iaload, 1, 0), some (.aload_n 0, 1, 0), some (.iload_n 3, 1, 0), some (.iconst 2, 1, 0), some (.iadd, 1, 0), some (.iaload, 1, 0), some (.aload_n 0, 1, 0), some (.iload_n 3, 1, 0), some (.iconst 3, 1, 0), some (.iadd, 1, 0), some (.iaload, 1, 0), some (.aload_n 0, 1, 0), some (.iload_n 3, 1, 0), some (.iconst 4, 1, 0), some (.iadd, 1, 0), some (.iaload, 1, 0), some (.aload_n 0, 1, 0), some (.iload_n 3, 1, 0), some (.iconst 5, 1, 0), some (.iadd, 1, 0), some (.iaload, 1, 0), some (.i2l, 1, 0), some (.bipush 32, 2, 0), none, some (.lshl, 1, 0), some (.aload_n 0, 1, 0), some (.iload_n 3, 1, 0), some (.bipush 6, 2, 0), none, some (.iadd, 1, 0), some (.iaload, 1, 0), some (.i2l, 1, 0), some (.ldc2_w 32, 3, 76), none, none, some (.land, 1, 0), some (.lor, 1, 0), some (.invokevirtual 260, 3, 82), none, none, some (.if_icmp .eq 753, 3, 0), none, none, some (.iconst 0, 1, 0), some (.ireturn, 1, 1), some (.aload_n 1, 1, 0), some (.aload_n 0, 1, 0), some (.iload_n 3, 1, 0), some (.iconst 1, 1, 0), some (.iadd, 1, 0), some (.iaload, 1, 0), some (.aload_n 0, 1, 0), some (.iload_n 3, 1, 0), some (.iconst 2, 1, 0), some (.iadd, 1, 0), some (.iaload, 1, 0), some (.aload_n 0, 1, 0), some (.iload_n 3, 1, 0), some (.iconst 3, 1, 0), some (.iadd, 1, 0), some (.iaload, 1, 0), some (.aload_n 0, 1, 0), some (.iload_n 3, 1, 0), some (.iconst 4, 1, 0), some (.iadd, 1, 0), some (.iaload, 1, 0), some (.aload_n 0, 1, 0), some (.iload_n 3, 1, 0), some (.iconst 5, 1, 0), some (.iadd, 1, 0), some (.iaload, 1, 0), some (.i2l, 1, 0), some (.bipush 32, 2, 0), none, some (.lshl, 1, 0), some (.aload_n 0, 1, 0), some (.iload_n 3, 1, 0), some (.bipush 6, 2, 0), none, some (.iadd, 1, 0), some (.iaload, 1, 0), some (.i2l, 1, 0), some (.ldc2_w 32, 3, 76), none, none, some (.land, 1, 0), some (.lor, 1, 0), some (.invokevirtual 141, 3, 83), none, none, some (.aload_n 2, 1, 0), some (.aload_n 0, 1, 0), some (.iload_n 3, 1, 0), some (.iconst 1, 1, 0), some (.iadd, 1, 0), some (.iaload, 1, 0), some (.aload_n 0, 1, 0), some (.iload_n 3, 1, 0), some (.iconst 2, 1, 0), some (.iadd, 1, 0), some (.iaload, 1, 0), some (.aload_n 0, 1, 0), some (.iload_n 3, 1, 0), some (.iconst 3, 1, 0), some (.iadd, 1, 0), some (.iaload, 1, 0), some (.aload_n 0, 1, 0), some (.iload_n 3, 1, 0), some (.iconst 4, 1, 0), some (.iadd, 1, 0), some (.iaload, 1, 0), some (.aload_n 0, 1, 0), some (.iload_n 3, 1, 0), some (.iconst 5, 1, 0), some (.iadd, 1, 0), some (.iaload, 1, 0), some (.i2l, 1, 0), some (.bipush 32, 2, 0), none, some (.lshl, 1, 0), some (.aload_n 0, 1, 0), some (.iload_n 3, 1, 0), some (.bipush 6, 2, 0), none, some (.iadd, 1, 0), some (.iaload, 1, 0), some (.i2l, 1, 0), some (.ldc2_w 32, 3, 76), none, none, some (.land, 1, 0), some (.lor, 1, 0), some (.invokevirtual 262, 3, 86), none, none, some (.if_icmp .eq 658, 3, 0), none, none, some (.iconst 0, 1, 0), some (.ireturn, 1, 1), some (.aload_n 1, 1, 0), some (.invokevirtual 142, 3, 87), none, none, some (.aload_n 2, 1, 0), some (.invokevirtual 263, 3, 90), none, none, some (.if_icmp .eq 645, 3, 0), none, none, some (.iconst 0, 1, 0), some (.ireturn, 1, 1), some (.aload_n 1, 1, 0), some (.aload_n 0, 1, 0), some (.iload_n 3, 1, 0), some (.iconst 1, 1, 0), some (.iadd, 1, 0), some (.iaload, 1, 0), some (.aload_n 0, 1, 0), some (.iload_n 3, 1, 0), some (.iconst 2, 1, 0), some (.iadd, 1, 0), some (.iaload, 1, 0), some (.aload_n 0, 1, 0), some (.iload_n 3, 1, 0), some (.iconst 3, 1, 0), some (.iadd, 1, 0), some (.iaload, 1, 0), some (.aload_n 0, 1, 0), some (.iload_n 3, 1, 0), some (.iconst 4, 1, 0), some (.iadd, 1, 0), some (.iaload, 1, 0), some (.invokevirtual 143, 3, 91), none, none, some (.aload_n 2, 1, 0), some (.aload_n 0, 1, 0), some (.iload_n 3, 1, 0), some (.iconst 1, 1, 0), some (.iadd, 1, 0), some (.iaload, 1, 0), some (.aload_n 0, 1, 0), some (.iload_n 3, 1, 0), some (.iconst 2, 1, 0), some (.iadd, 1, 0), some (.iaload, 1, 0), some (.aload_n 0, 1, 0), some (.iload_n 3, 1, 0), some (.iconst 3, 1, 0), some (.iadd, 1, 0), some (.iaload, 1, 0), some (.aload_n 0, 1, 0), some (.iload_n 3, 1, 0), some (.iconst 4, 1, 0), some (.iadd, 1, 0), some (.iaload, 1, 0), some (.invokevirtual 266, 3, 94), none, none, some (.lcmp, 1, 0), some (.ifCond .eq 591, 3, 0), none, none, some (.iconst 0, 1, 0), some (.ireturn, 1, 1), some (.aload_n 1, 1, 0), some (.aload_n 0, 1, 0), some (.iload_n 3, 1, 0), some (.iconst 1, 1, 0), some (.iadd, 1, 0), some (.iaload, 1, 0), some (.aload_n 0, 1, 0), some (.iload_n 3, 1, 0), some (.iconst 2, 1, 0), some (.iadd, 1, 0), some (.iaload, 1, 0), some (.aload_n 0, 1, 0), some (.iload_n 3, 1, 0), some (.iconst 3, 1, 0), some (.iadd, 1, 0), some (.iaload, 1, 0), some (.invokevirtual 144, 3, 95), none, none, some (.aload_n 2, 1, 0), some (.aload_n 0, 1, 0), some (.iload_n 3, 1, 0), some (.iconst 1, 1, 0), some (.iadd, 1, 0), some (.iaload, 1, 0), some (.aload_n 0, 1, 0), some (.iload_n 3, 1, 0), some (.iconst 2, 1, 0), some (.iadd, 1, 0), some (.iaload, 1, 0), some (.aload_n 0, 1, 0), some (.iload_n 3, 1, 0), some (.iconst 3, 1, 0), some (.iadd, 1, 0), some (.iaload, 1, 0), some (.invokevirtual 267, 3, 99), none, none, some (.lcmp, 1, 0), some (.ifCond .eq 547, 3, 0), none, none, some (.iconst 0, 1, 0), some (.ireturn, 1, 1), some (.aload_n 1, 1, 0), some (.aload_n 0, 1, 0), some (.iload_n 3, 1, 0), some (.iconst 1, 1, 0), some (.iadd, 1, 0), some (.iaload, 1, 0), some (.invokevirtual 151, 3, 100), none, none, some (.aload_n 2, 1, 0), some (.aload_n 0, 1, 0), some (.iload_n 3, 1, 0), some (.iconst 1, 1, 0), some (.iadd, 1, 0), some (.iaload, 1, 0), some (.invokevirtual 270, 3, 103), none, none, some (.if_icmp .eq 524, 3, 0), none, none, some (.iconst 0, 1, 0), some (.ireturn, 1, 1), some (.aload_n 1, 1, 0), some (.aload_n 0, 1, 0), some (.iload_n 3, 1, 0), some (.iconst 1, 1, 0), some (.iadd, 1, 0), some (.iaload, 1, 0), some (.aload_n 0, 1, 0), some (.iload_n 3, 1, 0), some (.iconst 2, 1, 0), some (.iadd, 1, 0), some (.iaload, 1, 0), some (.invokevirtual 152, 3, 104), none, none, some (.aload_n 2, 1, 0), some (.aload_n 0, 1, 0), some (.iload_n 3, 1, 0), some (.iconst 1, 1, 0), some (.iadd, 1, 0), some (.iaload, 1, 0), some (.aload_n 0, 1, 0), some (.iload_n 3, 1, 0), some (.iconst 2, 1, 0), some (.iadd, 1, 0), some (.iaload, 1, 0), some (.invokevirtual 272, 3, 107), none, none, some (.if_icmp .eq 491, 3, 0), none, none, some (.iconst 0, 1, 0), some (.ireturn, 1, 1), some (.aload_n 1, 1, 0), some (.aload_n 0, 1, 0), some (.iload_n 3, 1, 0), some (.iconst 1, 1, 0), some (.iadd, 1, 0), some (.iaload, 1, 0), some (.aload_n 0, 1, 0), some (.iload_n 3, 1, 0), some (.iconst 2, 1, 0), some (.iadd, 1, 0), some (.iaload, 1, 0), some (.invokevirtual 153, 3, 108), none, none, some (.aload_n 2, 1, 0), some (.aload_n 0, 1, 0), some (.iload_n 3, 1, 0), some (.iconst 1, 1, 0), some (.iadd, 1, 0), some (.iaload, 1, 0), some (.aload_n 0, 1, 0), some (.iload_n 3, 1, 0), some (.iconst 2, 1, 0), some (.iadd, 1, 0), some (.iaload, 1, 0), some (.invokevirtual 273, 3, 112), none, none, some (.if_icmp .eq 458, 3, 0), none, none, some (.iconst 0, 1, 0), some (.ireturn, 1, 1), some (.aload_n 1, 1, 0), some (.aload_n 0, 1, 0), some (.iload_n 3, 1, 0), some (.iconst 1, 1, 0), some (.iadd, 1, 0), some (.iaload, 1, 0), some (.invokevirtual 154, 3, 113), none, none, some (.aload_n 2, 1, 0), some (.aload_n 0, 1, 0), some (.iload_n 3, 1, 0), some (.iconst 1, 1, 0), some (.iadd, 1, 0), some (.iaload, 1, 0), some (.invokevirtual 276, 3, 116), none, none, some (.if_icmp .eq 435, 3, 0), none, none, some (.iconst 0, 1, 0), some (.ireturn, 1, 1), some (.aload_n 1, 1, 0), some (.aload_n 0, 1, 0), some (.iload_n 3, 1, 0), some (.iconst 1, 1, 0), some (.iadd, 1, 0), some (.iaload, 1, 0), some (.aload_n 0, 1, 0), some (.iload_n 3, 1, 0), some (.iconst 2, 1, 0), some (.iadd, 1, 0), some (.iaload, 1, 0), some (.invokevirtual 157, 3, 117), none, none, some (.aload_n 2, 1, 0), some (.aload_n 0, 1, 0), some (.iload_n 3, 1, 0), some (.iconst 1, 1, 0), some (.iadd, 1, 0), some (.iaload, 1, 0), some (.aload_n 0, 1, 0), some (.iload_n 3, 1, 0), some (.iconst 2, 1, 0), some (.iadd, 1, 0), some (.iaload, 1, 0), some (.invokevirtual 286, 3, 120), none, none, some (.if_icmp .eq 402, 3, 0), none, none, some (.iconst 0, 1, 0), some (.ireturn, 1, 1), some (.aload_n 1, 1, 0), some (.aload_n 0, 1, 0), some (.iload_n 3, 1, 0), some (.iconst 1, 1, 0), some (.iadd, 1, 0), some (.iaload, 1, 0), some (.invokevirtual 158, 3, 121), none, none, some (.aload_n 2, 1, 0), some (.aload_n 0, 1, 0), some (.iload_n 3, 1, 0), some (.iconst 1, 1, 0), some (.iadd, 1, 0), some (.iaload, 1, 0), some (.invokevirtual 287, 3, 124), none, none, some (.if_icmp .eq 379, 3, 0), none, none, some (.iconst 0, 1, 0), some (.ireturn, 1, 1), some (.aload_n 1, 1, 0), some (.aload_n 0, 1, 0), some (.iload_n 3, 1, 0), some (.iconst 1, 1, 0), some (.iadd, 1, 0), some (.iaload, 1, 0), some (.aload_n 0, 1, 0), some (.iload_n 3, 1, 0), some (.iconst 2, 1, 0), some (.iadd, 1, 0), some (.iaload, 1, 0), some (.aload_n 0, 1, 0), some (.iload_n 3, 1, 0), some (.iconst 3, 1, 0), some (.iadd, 1, 0), some (.iaload, 1, 0), some (.invokevirtual 159, 3, 125), none, none, some (.aload_n 2, 1, 0), some (.aload_n 0, 1, 0), some (.iload_n 3, 1, 0), some (.iconst 1, 1, 0), some (.iadd, 1, 0), some (.iaload, 1, 0), some (.aload_n 0, 1, 0), some (.iload_n 3, 1, 0), some (.iconst 2, 1, 0), some (.iadd, 1, 0), some (.iaload, 1, 0), some (.aload_n 0, 1, 0), some (.iload_n 3, 1, 0), some (.iconst 3, 1, 0), some (.iadd, 1, 0), some (.iaload, 1, 0), some (.invokevirtual 289, 3, 128), none, none, some (.if_icmp .eq 336, 3, 0), none, none, some (.iconst 0, 1, 0), some (.ireturn, 1, 1), some (.aload_n 1, 1, 0), some (.aload_n 0, 1, 0), some (.iload_n 3, 1, 0), some (.iconst 1, 1, 0), some (.iadd, 1, 0), some (.iaload, 1, 0), some (.aload_n 0, 1, 0), some (.iload_n 3, 1, 0), some (.iconst 2, 1, 0), some (.iadd, 1, 0), some (.iaload, 1, 0), some (.aload_n 0, 1, 0), some (.iload_n 3, 1, 0), some (.iconst 3, 1, 0), some (.iadd, 1, 0), some (.iaload, 1, 0), some (.invokevirtual 160, 3, 129), none, none, some (.aload_n 2, 1, 0), some (.aload_n 0, 1, 0), some (.iload_n 3, 1, 0), some (.iconst 1, 1, 0), some (.iadd, 1, 0), some (.iaload, 1, 0), some (.aload_n 0, 1, 0), some (.iload_n 3, 1, 0), some (.iconst 2, 1, 0), some (.iadd, 1, 0), some (.iaload, 1, 0), some (.aload_n 0, 1, 0), some (.iload_n 3, 1, 0), some (.iconst 3, 1, 0), some (.iadd, 1, 0), some (.iaload, 1, 0), some (.invokevirtual 292, 3, 132), none, none, some (.lcmp, 1, 0), some (.ifCond .eq 292, 3, 0), none, none, some (.iconst 0, 1, 0), some (.ireturn, 1, 1), some (.aload_n 1, 1, 0), some (.aload_n 0, 1, 0), some (.iload_n 3, 1, 0), some (.iconst 1, 1, 0), some (.iadd, 1, 0), some (.iaload, 1, 0), some (.aload_n 0, 1, 0), some (.iload_n 3, 1, 0), some (.iconst 2, 1, 0), some (.iadd, 1, 0), some (.iaload, 1, 0), some (.invokevirtual 161, 3, 133), none, none, some (.aload_n 2, 1, 0), some (.aload_n 0, 1, 0), some (.iload_n 3, 1, 0), some (.iconst 1, 1, 0), some (.iadd, 1, 0), some (.iaload, 1, 0), some (.aload_n 0, 1, 0), some (.iload_n 3, 1, 0), some (.iconst 2, 1, 0), some (.iadd, 1, 0), some (.iaload, 1, 0), some (.invokevirtual 296, 3, 136), none, none, some (.if_icmp .eq 259, 3, 0), none, none, some (.iconst 0, 1, 0), some (.ireturn, 1, 1), some (.aload_n 1, 1, 0), some (.aload_n 0, 1, 0), some (.iload_n 3, 1, 0), some (.iconst 1, 1, 0), some (.iadd, 1, 0), some (.iaload, 1, 0), some (.aload_n 0, 1, 0), some (.iload_n 3, 1, 0), some (.iconst 2, 1, 0), some (.iadd, 1, 0), some (.iaload, 1, 0), some (.aload_n 0, 1, 0), some (.iload_n 3, 1, 0), some (.iconst 3, 1, 0), some (.iadd, 1, 0), some (.iaload, 1, 0), some (.invokevirtual 162, 3, 137), none, none, some (.aload_n 2, 1, 0), some (.aload_n 0, 1, 0), some (.iload_n 3, 1, 0), some (.iconst 1, 1, 0), some (.iadd, 1, 0), some (.iaload, 1, 0), some (.aload_n 0, 1, 0), some (.iload_n 3, 1, 0), some (.iconst 2, 1, 0), some (.iadd, 1, 0), some (.iaload, 1, 0), some (.aload_n 0, 1, 0), some (.iload_n 3, 1, 0), some (.iconst 3, 1, 0), some (.iadd, 1, 0), some (.iaload, 1, 0), some (.invokevirtual 299, 3, 140), none, none, some (.if_icmp .eq 216, 3, 0), none, none, some (.iconst 0, 1, 0), some (.ireturn, 1, 1), some (.aload_n 1, 1, 0), some (.aload_n 0, 1, 0), some (.iload_n 3, 1, 0), some (.iconst 1, 1, 0), some (.iadd, 1, 0), some (.iaload, 1, 0), some (.aload_n 0, 1, 0), some (.iload_n 3, 1, 0), some (.iconst 2, 1, 0), some (.iadd, 1, 0), some (.iaload, 1, 0), some (.aload_n 0, 1, 0), some (.iload_n 3, 1, 0), some (.iconst 3, 1, 0), some (.iadd, 1, 0), some (.iaload, 1, 0), some (.aload_n 0, 1, 0), some (.iload_n 3, 1, 0), some (.iconst 4, 1, 0), some (.iadd, 1, 0), some (.iaload, 1, 0), some (.invokevirtual 163, 3, 141), none, none, some (.aload_n 2, 1, 0), some (.aload_n 0, 1, 0), some (.iload_n 3, 1, 0), some (.iconst 1, 1, 0), some (.iadd, 1, 0), some (.iaload, 1, 0), some (.aload_n 0, 1, 0), some (.iload_n 3, 1, 0), some (.iconst 2, 1, 0), some (.iadd, 1, 0), some (.iaload, 1, 0), some (.aload_n 0, 1, 0), some (.iload_n 3, 1, 0), some (.iconst 3, 1, 0), some (.iadd, 1, 0), some (.iaload, 1, 0), some (.aload_n 0, 1, 0), some (.iload_n 3, 1, 0), some (.iconst 4, 1, 0), some (.iadd, 1, 0), some (.iaload, 1, 0), some (.invokevirtual 301, 3, 145), none, none, some (.if_icmp .eq 163, 3, 0), none, none, some (.iconst 0, 1, 0), some (.ireturn, 1, 1), some (.aload_n 1, 1, 0), some (.aload_n 0, 1, 0), some (.iload_n 3, 1, 0), some (.iconst 1, 1, 0), some (.iadd, 1, 0), some (.iaload, 1, 0), some (.aload_n 0, 1, 0), some (.iload_n 3, 1, 0), some (.iconst 2, 1, 0), some (.iadd, 1, 0), some (.iaload, 1, 0), some (.invokevirtual 164, 3, 146), none, none, some (.aload_n 2, 1, 0), some (.aload_n 0, 1, 0), some (.iload_n 3, 1, 0), some (.iconst 1, 1, 0), some (.iadd, 1, 0), some (.iaload, 1, 0), some (.aload_n 0, 1, 0), some (.iload_n 3, 1, 0), some (.iconst 2, 1, 0), some (.iadd, 1, 0), some (.iaload, 1, 0), some (.invokevirtual 302, 3, 149), none, none, some (.if_icmp .eq 130, 3, 0), none, none, some (.iconst 0, 1, 0), some (.ireturn, 1, 1), some (.aload_n 1, 1, 0), some (.aload_n 0, 1, 0), some (.iload_n 3, 1, 0), some (.iconst 1, 1, 0), some (.iadd, 1, 0), some (.iaload, 1, 0), some (.aload_n 0, 1, 0), some (.iload_n 3, 1, 0), some (.iconst 2, 1, 0), some (.iadd, 1, 0), some (.iaload, 1, 0), some (.invokevirtual 165, 3, 150), none, none, some (.aload_n 2, 1, 0), some (.aload_n 0, 1, 0), some (.iload_n 3, 1, 0), some (.iconst 1, 1, 0), some (.iadd, 1, 0), some (.iaload, 1, 0), some (.aload_n 0, 1, 0), some (.iload_n 3, 1, 0), some (.iconst 2, 1, 0), some (.iadd, 1, 0), some (.iaload, 1, 0), some (.invokevirtual 305, 3, 153), none, none, some (.if_icmp .eq 97, 3, 0), none, none, some (.iconst 0, 1, 0), some (.ireturn, 1, 1), some (.aload_n 1, 1, 0), some (.aload_n 0, 1, 0), some (.iload_n 3, 1, 0), some (.iconst 1, 1, 0), some (.iadd, 1, 0), some (.iaload, 1, 0), some (.aload_n 0, 1, 0), some (.iload_n 3, 1, 0), some (.iconst 2, 1, 0), some (.iadd, 1, 0), some (.iaload, 1, 0), some (.invokevirtual 166, 3, 154), none, none, some (.aload_n 2, 1, 0), some (.aload_n 0, 1, 0), some (.iload_n 3, 1, 0), some (.iconst 1, 1, 0), some (.iadd, 1, 0), some (.iaload, 1, 0), some (.aload_n 0, 1, 0), some (.iload_n 3, 1, 0), some (.iconst 2, 1, 0), some (.iadd, 1, 0), some (.iaload, 1, 0), some (.invokevirtual 306, 3, 157), none, none, some (.if_icmp .eq 64, 3, 0), none, none, some (.iconst 0, 1, 0), some (.ireturn, 1, 1), some (.aload_n 1, 1, 0), some (.invokevirtual 168, 3, 158), none, none, some (.aload_n 2, 1, 0), some (.invokevirtual 308, 3, 162), none, none, some (.if_icmp .eq 51, 3, 0), none, none, some (.iconst 0, 1, 0), some (.ireturn, 1, 1), some (.aload_n 1, 1, 0), some (.aload_n 0, 1, 0), some (.iload_n 3, 1, 0), some (.iconst 1, 1, 0), some (.iadd, 1, 0), some (.iaload, 1, 0), some (.invokevirtual 169, 3, 163), none, none, some (.aload_n 2, 1, 0), some (.aload_n 0, 1, 0), some (.iload_n 3, 1, 0), some (.iconst 1, 1, 0), some (.iadd, 1, 0), some (.iaload, 1, 0), some (.invokevirtual 274, 3, 166), none, none, some (.if_icmp .eq 28, 3, 0), none, none, some (.iconst 0, 1, 0), some (.ireturn, 1, 1), some (.aload_n 1, 1, 0), some (.aload_n 0, 1, 0), some (.iload_n 3, 1, 0), some (.iconst 1, 1, 0), some (.iadd, 1, 0), some (.iaload, 1, 0), some (.invokevirtual 170, 3, 167), none, none, some (.aload_n 2, 1, 0), some (.aload_n 0, 1, 0), some (.iload_n 3, 1, 0), some (.iconst 1, 1, 0), some (.iadd, 1, 0), some (.iaload, 1, 0), some (.invokevirtual 179, 3, 170), none, none, some (.if_icmp .eq 5, 3, 0), none, none, some (.iconst 0, 1, 0), some (.ireturn, 1, 1), some (.iinc 3 7, 3, 0), none, none, some (.goto (-1524), 3, 0), none, none, some (.iconst 1, 1, 0), some (.ireturn, 1, 1)]
def zTB0 : List zCode := [zk_X0_init, zk_X0_readBook, zk_X0_lookAtNext, zk_X0_takeInScheme, zk_X0_takeInCross, zk_X0_refuse, zk_X0_goOn, zk_X0_nameStands, zk_X0_numberStands, zk_X0_refuseOneMore, zk_X0_takeSign, zk_X0_takeStatement, zk_X0_takeSchemeName, zk_X0_takeKind, zk_X0_takeFieldName, zk_X0_takeTimesNumber]
def zNB0 : List Nat := [1, 1, 1, 1, 1, 3, 2, 1, 3, 1, 2, 1, 1, 1, 1, 1]
def zLB0 : List Nat := [5, 3, 2, 1, 1, 3, 2, 1, 3, 1, 3, 2, 2, 1, 1, 1]
def zTB1 : List zCode := [zk_X0_takeFirstScheme, zk_X0_takeSecondScheme, zk_X0_takeTarget, zk_X0_takeNumberSource, zk_X0_takeFieldSource, zk_X0_beginRule, zk_X0_takeSort, zk_X0_takeFactor, zk_X0_takeSecondField, zk_X0_takeRuleSign, zk_X1_init, zk_X1_carry, zk_X1_carryByRule, zk_X1_valueMade, zk_X1_valueOf, zk_X1_wholeMade]
def zNB1 : List Nat := [1, 1, 1, 1, 1, 5, 1, 1, 1, 1, 1, 5, 6, 4, 4, 3]
def zLB1 : List Nat := [1, 5, 1, 1, 2, 6, 1, 1, 2, 1, 1, 10, 13, 13, 5, 5]
def zTB2 : List zCode := [zk_X1_realMade, zk_X2_isNumber, zk_X2_isReal, zk_X2_goesInto, zk_X2_goesWholeInto, zk_X2_told, zk_X2_toldWord, zk_X2_changed, zk_X2_realOf, zk_X2_wholeOfWord, zk_X2_digitsWord, zk_X2_ofWhole, zk_X2_ofReal, zk_X3_init, zk_X3_begin, zk_X3_ruleAt]
def zNB2 : List Nat := [3, 1, 1, 2, 2, 2, 1, 3, 2, 1, 1, 2, 2, 1, 3, 2]
def zLB2 : List Nat := [9, 1, 1, 2, 2, 3, 7, 4, 3, 9, 9, 3, 3, 2, 3, 2]
def zTB3 : List zCode := [zk_X3_addRule, zk_X3_fieldsRead, zk_X3_fieldsFilled, zk_X3_leadsBack, zk_X3_fieldsKeptWhole, zk_X3_keepsWhole, zk_X3_carriesAlone, zk_X4_init, zk_X4_clear, zk_X4_shape, zk_X4_passage, zk_X4_addShape, zk_X4_addPassage, zk_X4_shapeOfName, zk_X5_toBits, zk_X5_fromBits]
def zNB3 : List Nat := [1, 1, 1, 2, 4, 3, 3, 1, 1, 2, 2, 2, 3, 2, 2, 2]
def zLB3 : List Nat := [1, 4, 4, 2, 7, 3, 5, 2, 1, 2, 3, 3, 4, 4, 12, 14]
def zTB4 : List zCode := [zk_X6_init, zk_X6_clear, zk_X6_keepPast, zk_X6_goBack, zk_X6_countOf, zk_X6_hasRecord, zk_X6_hasRoom, zk_X6_recordStart, zk_X6_isRecordPlace, zk_X6_blank, zk_X6_move, zk_X6_addBlank, zk_X6_addLike, zk_X6_remove, zk_X6_indexOf, zk_X6_rawAt]
def zNB4 : List Nat := [1, 1, 1, 1, 2, 3, 2, 2, 2, 3, 4, 2, 3, 3, 4, 5]
def zLB4 : List Nat := [1, 1, 1, 1, 2, 3, 2, 2, 2, 5, 4, 3, 4, 5, 5, 6]
def zTB5 : List zCode := [zk_X6_isEmptyAt, zk_X6_valueAt, zk_X6_setAt, zk_X6_thingKind, zk_X6_thingValue, zk_X6_setThing, zk_X6_takeValues, zk_X6_setValues, zk_X6_mostAlike, zk_X6_areAlike, zk_X7_init, zk_X7_set, zk_X7_settle, zk_X7_fieldsRead, zk_X7_isAlone, zk_X8_init]
def zNB5 : List Nat := [5, 5, 6, 2, 2, 4, 5, 4, 4, 6, 1, 5, 3, 1, 3, 1]
def zLB5 : List Nat := [5, 7, 8, 2, 2, 5, 9, 4, 8, 10, 1, 5, 5, 1, 3, 1]
def zTB6 : List zCode := [zk_X8_begin, zk_X8_addField, zk_X8_repeatLast, zk_X8_hasField, zk_X8_kindOf, zk_X8_hasWords, zk_X8_fieldOfName, zk_X9_init, zk_X9_takes, zk_X9_addNumber, zk_X9_byteAt, zk_X9_isLetter, zk_X9_isDigit, zk_X9_isBlank, zk_X9_lettersFrom, zk_X9_digitsFrom]
def zNB6 : List Nat := [2, 3, 2, 2, 2, 2, 2, 1, 2, 2, 2, 2, 2, 2, 2, 2]
def zLB6 : List Nat := [2, 3, 2, 2, 2, 2, 3, 1, 2, 3, 2, 3, 3, 3, 3, 3]
def zTB7 : List zCode := [zk_X9_numberFrom, zk_X9_nameFrom, zk_X9_wholeName, zk_X9_withLetter, zk_X9_letterOf, zk_X10_init, zk_X10_stepAt, zk_X10_findShortest, zk_X10_findLeast, zk_X10_choose, zk_X10_leads, zk_X10_lostBySteps, zk_X11_init, zk_X11_feed, zk_X11_end, zk_X11_book]
def zNB7 : List Nat := [3, 2, 1, 3, 2, 1, 2, 4, 6, 2, 6, 5, 1, 6, 2, 1]
def zLB7 : List Nat := [5, 4, 1, 3, 2, 1, 2, 6, 9, 2, 11, 11, 1, 6, 2, 3]
def zTB8 : List zCode := [zk_X11_fault, zk_X11_has, zk_X11_hasOfScheme, zk_X11_letter, zk_X11_named, zk_X11_field, zk_X11_crossing, zk_X11_rule, zk_X11_widens, zk_X11_length, zk_X11_read, zk_X11_get, zk_X11_write, zk_X11_put, zk_X11_why, zk_X11_cell]
def zNB8 : List Nat := [2, 2, 2, 4, 2, 4, 3, 4, 3, 3, 5, 5, 6, 6, 1, 5]
def zLB8 : List Nat := [2, 2, 4, 5, 4, 5, 4, 6, 3, 4, 7, 8, 9, 9, 1, 6]
def zTB9 : List zCode := [zk_X11_unlike, zk_X11_rowSort, zk_X11_placesOf, zk_X11_kindRefusal, zk_X11_thingRefusal, zk_X11_takesThing, zk_X11_differing, zk_X11_make, zk_X11_copy, zk_X11_drop, zk_X11_chance, zk_X11_makeByChance, zk_X11_draw, zk_X11_cross, zk_X11_account, zk_X11_would]
def zNB9 : List Nat := [4, 3, 4, 5, 5, 2, 2, 2, 3, 3, 2, 1, 2, 3, 2, 4]
def zLB9 : List Nat := [5, 4, 5, 6, 6, 2, 5, 2, 3, 3, 4, 10, 2, 5, 2, 5]
def zTB10 : List zCode := [zk_X11_round, zk_X11_proved, zk_X11_way, zk_X11_least, zk_X11_origins, zk_X11_tells, zk_X11_idle, zk_X11_carryRecord, zk_X11_undo, zk_X11_seed, zk_X11_status, zk_X12_init, zk_X12_isIn, zk_X12_lessOf, zk_X12_flag, zk_X12_refuses]
def zNB10 : List Nat := [4, 3, 4, 5, 3, 3, 3, 3, 1, 2, 2, 1, 3, 2, 1, 2]
def zLB10 : List Nat := [6, 7, 4, 6, 7, 8, 7, 4, 1, 2, 2, 1, 6, 2, 1, 2]
def zTB11 : List zCode := [zk_X12_isRefused, zk_X12_feed, zk_X12_end, zk_X12_status, zk_X12_fault, zk_X12_fail, zk_X12_isLetter, zk_X12_isDigit, zk_X12_look, zk_X12_isWordHere, zk_X12_takesSign, zk_X12_asksSign, zk_X12_number, zk_X12_ownHere, zk_X12_isLike, zk_X12_passes]
def zNB11 : List Nat := [2, 6, 2, 2, 2, 3, 1, 1, 1, 1, 2, 2, 3, 1, 3, 1]
def zLB11 : List Nat := [2, 8, 2, 2, 2, 3, 1, 1, 1, 1, 2, 2, 5, 5, 4, 1]
def zTB12 : List zCode := [zk_X12_takes, zk_X12_asks, zk_X12_name, zk_X12_schemeAt, zk_X12_fieldAt, zk_X12_crossingAt, zk_X12_ruleAt, zk_X12_schemeNamed, zk_X12_fieldNamed, zk_X12_fieldTold, zk_X12_schemeTold, zk_X12_schemeHere, zk_X12_fieldHere, zk_X12_isNumber, zk_X12_kindDrafted, zk_X12_ruleTold]
def zNB12 : List Nat := [2, 2, 1, 2, 3, 2, 3, 3, 4, 2, 2, 1, 2, 1, 3, 4]
def zLB12 : List Nat := [2, 2, 2, 2, 3, 2, 3, 4, 5, 6, 5, 3, 4, 1, 3, 8]
def zTB13 : List zCode := [zk_X12_rule, zk_X12_sourceTold, zk_X12_crossTold, zk_X12_statementTold, zk_X12_book, zk_X12_isScheme, zk_X12_fieldMany, zk_X12_isField, zk_X12_kindOf, zk_X12_cellsOf, zk_X12_isCrossing, zk_X12_fromOf, zk_X12_toOf, zk_X12_ruleMany, zk_X12_ruleHas, zk_X12_placeAt]
def zNB13 : List Nat := [6, 4, 2, 1, 1, 2, 2, 3, 3, 3, 2, 2, 2, 2, 4, 3]
def zLB13 : List Nat := [6, 8, 6, 2, 2, 2, 2, 3, 3, 3, 2, 2, 2, 2, 4, 3]
def zTB14 : List zCode := [zk_X12_recordMany, zk_X12_isRecord, zk_X12_begins, zk_X12_word, zk_X12_float0, zk_X12_double0, zk_X12_cast, zk_X12_toldAs, zk_X12_doesWiden, zk_X12_real, zk_X12_castFrom, zk_X12_widened, zk_X12_spelled, zk_X12_lettersOf, zk_X12_read, zk_X12_wordOf]
def zNB14 : List Nat := [2, 3, 1, 1, 1, 1, 2, 2, 3, 2, 3, 4, 1, 1, 1, 1]
def zLB14 : List Nat := [2, 3, 3, 7, 1, 2, 3, 3, 3, 3, 6, 5, 9, 5, 7, 2]
def zTB15 : List zCode := [zk_X12_narrowed, zk_X12_carried, zk_X12_has, zk_X12_letter, zk_X12_named, zk_X12_field, zk_X12_readBits, zk_X12_filledBits, zk_X12_crossing, zk_X12_madeKind, zk_X12_targetKind, zk_X12_rule_, zk_X12_widens, zk_X12_rowKind, zk_X12_longOf, zk_X12_length]
def zNB15 : List Nat := [4, 4, 2, 4, 2, 4, 2, 2, 3, 3, 3, 4, 3, 3, 3, 3]
def zLB15 : List Nat := [5, 5, 2, 7, 5, 4, 4, 4, 3, 5, 3, 4, 3, 3, 3, 4]
def zTB16 : List zCode := [zk_X12_isRefusedBy, zk_X12_reasonOf, zk_X12_read_, zk_X12_get, zk_X12_write, zk_X12_reasonPut, zk_X12_put, zk_X12_why, zk_X12_cellAt, zk_X12_valueAt, zk_X12_cell, zk_X12_unlike, zk_X12_laysRecord, zk_X12_copiesRecord, zk_X12_make, zk_X12_makes]
def zNB16 : List Nat := [2, 6, 5, 5, 6, 5, 6, 1, 5, 5, 5, 4, 3, 4, 2, 2]
def zLB16 : List Nat := [2, 7, 5, 9, 7, 6, 9, 1, 5, 7, 5, 9, 5, 6, 2, 3]
def zTB17 : List zCode := [zk_X12_copy, zk_X12_drop, zk_X12_seed, zk_X12_drawOf, zk_X12_chance, zk_X12_takesRecord, zk_X12_held, zk_X12_made, zk_X12_longRule, zk_X12_tallies, zk_X12_marks, zk_X12_missing, zk_X12_carries, zk_X12_targetIsSource, zk_X12_cross, zk_X12_account]
def zNB17 : List Nat := [3, 3, 2, 2, 2, 3, 1, 4, 3, 5, 4, 3, 2, 1, 3, 2]
def zLB17 : List Nat := [3, 4, 2, 2, 8, 5, 2, 12, 5, 7, 5, 6, 10, 2, 7, 2]
def zTB18 : List zCode := [zk_X12_canCross, zk_X12_would, zk_X12_doesLeadBack, zk_X12_unlikeTarget, zk_X12_round, zk_X12_isAside, zk_X12_isAlone, zk_X12_isProved, zk_X12_proved, zk_X12_isWay, zk_X12_rowsOf, zk_X12_way, zk_X12_losses, zk_X12_least, zk_X12_origins, zk_X12_areLike]
def zNB18 : List Nat := [3, 4, 3, 3, 4, 2, 4, 5, 3, 5, 2, 4, 4, 5, 3, 5]
def zLB18 : List Nat := [3, 4, 3, 8, 4, 2, 5, 7, 6, 9, 4, 6, 6, 11, 5, 6]
def zTB19 : List zCode := [zk_X12_mostAlike, zk_X12_tells, zk_X12_idle, zk_X12_keeps, zk_X12_undo, zk_Jxe99ae_isNaN_b9ae7, zk_Jxe99ae_doubleToLongBits_ccdee, zk_Jxf58ca_isNaN_12338, zk_Jxf58ca_floatToIntBits_5c35a, zk_J6_bitCount_0f7a4, zk_J9_floorMod_7cf53, zk_J9_max_7cf53, zk_J9_min_7cf53, zk_J7_fill_d0a16, zk_J7_fill_53178, zk_L_law]
def zNB19 : List Nat := [3, 3, 3, 1, 1, 1, 1, 1, 1, 1, 2, 2, 2, 2, 2, 1]
def zLB19 : List Nat := [7, 5, 5, 2, 2, 2, 2, 1, 1, 1, 3, 2, 2, 5, 4, 4]
def zTB : List (List zCode) := [zTB0, zTB1, zTB2, zTB3, zTB4, zTB5, zTB6, zTB7, zTB8, zTB9, zTB10, zTB11, zTB12, zTB13, zTB14, zTB15, zTB16, zTB17, zTB18, zTB19]
def zNB : List (List Nat) := [zNB0, zNB1, zNB2, zNB3, zNB4, zNB5, zNB6, zNB7, zNB8, zNB9, zNB10, zNB11, zNB12, zNB13, zNB14, zNB15, zNB16, zNB17, zNB18, zNB19]
def zIC : List Nat := [0, 0, 0, 0, 0, 0, 0, 0, 0, 0, 0, 0, 0, 0, 0, 0, 0, 0, 0, 0, 0, 0, 0, 0, 0, 0, 1, 1, 1, 1, 1, 1, 1, 99, 99, 99, 99, 99, 99, 99, 99, 99, 99, 99, 99, 2, 2, 2, 2, 2, 2, 2, 2, 2, 2, 3, 3, 3, 3, 3, 3, 3, 99, 99, 4, 4, 4, 4, 4, 4, 4, 4, 4, 4, 4, 4, 4, 4, 4, 4, 4, 4, 4, 4, 4, 4, 4, 4, 4, 4, 5, 5, 5, 5, 5, 6, 6, 6, 6, 6, 6, 6, 6, 7, 7, 7, 7, 7, 7, 7, 7, 7, 7, 7, 7, 7, 7, 8, 8, 8, 8, 8, 8, 8, 9, 9, 9, 9, 9, 9, 9, 9, 9, 9, 9, 9, 9, 9, 9, 9, 9, 9, 9, 9, 9, 9, 9, 9, 9, 9, 9, 9, 9, 9, 9, 9, 9, 9, 9, 9, 9, 9, 9, 9, 9, 9, 9, 9, 9, 9, 9, 10, 10, 10, 10, 10, 10, 10, 10, 10, 10, 10, 10, 10, 10, 10, 10, 10, 10, 10, 10, 10, 10, 10, 10, 10, 10, 10, 10, 10, 10, 10, 10, 10, 10, 10, 10, 10, 10, 10, 10, 10, 10, 10, 10, 10, 10, 10, 10, 10, 10, 10, 10, 10, 10, 10, 10, 10, 10, 10, 10, 10, 10, 10, 10, 10, 10, 10, 10, 10, 10, 10, 10, 10, 10, 10, 10, 10, 10, 10, 10, 10, 10, 10, 10, 10, 10, 10, 10, 10, 10, 10, 10, 10, 10, 10, 10, 10, 10, 10, 10, 10, 10, 10, 10, 10, 10, 10, 10, 10, 10, 10, 10, 10, 10, 10, 10, 10, 10, 10, 10, 10, 10, 10, 10, 10, 10, 10, 10, 10, 10, 10, 10, 10, 10, 10, 10, 10, 10, 99, 99, 99, 99, 99, 99, 99, 99, 99, 99, 99]
/-- the class whose objects a method is called on -/
def zCI (n : Nat) : Nat := (zIC[n]?).getD 99
def zLB : List (List Nat) := [zLB0, zLB1, zLB2, zLB3, zLB4, zLB5, zLB6, zLB7, zLB8, zLB9, zLB10, zLB11, zLB12, zLB13, zLB14, zLB15, zLB16, zLB17, zLB18, zLB19]
/-- how many words of locals a method has -/
def zML (n : Nat) : Nat := (((zLB[n / 16]?).getD [])[n % 16]?).getD 0
/-- the code of a method, by its number -/
def zcode (n : Nat) : zCode := (((zTB[n / 16]?).getD [])[n % 16]?).getD []
/-- how many values a call takes off the stack -/
def zNA (n : Nat) : Nat := if 900 ≤ n then [5, 1, 1, 1, 1, 1, 2, 1].getD (n - 900) 0 else (((zNB[n / 16]?).getD [])[n % 16]?).getD 0
end
section
/-! A SMALL MACHINE OF ITS OWN over the listed code: a store of numbered objects, a step, a run with fuel. All later parts speak of it; part 05 shows that what it answers the claim's machine answers. -/
abbrev zSt : Type := (Nat → Nat → Int32) × (Nat → Nat → Int64) × (Nat → Nat → Option Nat) × Nat
def zI (σ : zSt) (o k : Nat) : Int32 := σ.1 o k
def zL (σ : zSt) (o k : Nat) : Int64 := σ.2.1 o k
def zR (σ : zSt) (o k : Nat) : Option Nat := σ.2.2.1 o k
def zN (σ : zSt) : Nat := σ.2.2.2
/-- one place is written -/
def zwI (σ : zSt) (o k : Nat) (v : Int32) : zSt := (va_up σ.1 o (va_up (σ.1 o) k v), σ.2)
def zwL (σ : zSt) (o k : Nat) (v : Int64) : zSt := (σ.1, va_up σ.2.1 o (va_up (σ.2.1 o) k v), σ.2.2)
def zwR (σ : zSt) (o k : Nat) (v : Option Nat) : zSt := (σ.1, σ.2.1, va_up σ.2.2.1 o (va_up (σ.2.2.1 o) k v), σ.2.2.2)
/-- a whole row is written -/
def zrI (σ : zSt) (o : Nat) (f : Nat → Int32) : zSt := (va_up σ.1 o f, σ.2)
def zrL (σ : zSt) (o : Nat) (f : Nat → Int64) : zSt := (σ.1, va_up σ.2.1 o f, σ.2.2)
def zrR (σ : zSt) (o : Nat) (f : Nat → Option Nat) : zSt := (σ.1, σ.2.1, va_up σ.2.2.1 o f, σ.2.2.2)
/-- a new object: the next number, all its places as born -/
def znew (σ : zSt) : zSt := (va_up σ.1 σ.2.2.2 (fun _ => 0), va_up σ.2.1 σ.2.2.2 (fun _ => 0), va_up σ.2.2.1 σ.2.2.2 (fun _ => none), σ.2.2.2 + 1)
/-- k new objects -/
def znews : Nat → zSt → zSt
  | 0, σ => σ
  | k + 1, σ => znews k (znew σ)
/-- what stands at each number: its kind (0 .. 10 objects by their class, 11 .. 18 arrays), its length -/
def zLY (o : Nat) : Nat × Nat := (zLYl[o]?).getD (13, 8)
abbrev zLv : Type := List (Nat × Value)
def zld (ls : zLv) (i : Nat) : Option Value := (ls.find? (fun q => q.1 == i)).map (fun q => q.2)
def zs1 (ls : zLv) (i : Nat) (v : Value) : zLv := (i, v) :: ls.filter (fun q => !(q.1 == i) && !(q.1 + 1 == i && q.2.category == 2))
def zs2 (ls : zLv) (i : Nat) (v : Value) : zLv := (i, v) :: ls.filter (fun q => !(q.1 == i) && (!(q.1 == i + 1) && !(q.1 + 1 == i && q.2.category == 2)))
abbrev zFr : Type := Nat × zLv × List Value × zSt
abbrev zRes : Type := Option (zFr ⊕ (zSt × Option Value))
def zgo (pc : Nat) (ls : zLv) (st : List Value) (σ : zSt) : zRes := some (.inl (pc, ls, st, σ))
def zjp (pc : Nat) (off : Int) : Nat := ((pc : Int) + off).toNat
def zii (st : List Value) (f : Int32 → Int32 → Value) : Option (List Value) := match st with
  | .int y :: .int x :: r => some (f x y :: r)
  | _ => none
def zi1 (st : List Value) (f : Int32 → Value) : Option (List Value) := match st with
  | .int x :: r => some (f x :: r)
  | _ => none
def zll (st : List Value) (f : Int64 → Int64 → Value) : Option (List Value) := match st with
  | .long y :: .long x :: r => some (f x y :: r)
  | _ => none
def zl1 (st : List Value) (f : Int64 → Value) : Option (List Value) := match st with
  | .long x :: r => some (f x :: r)
  | _ => none
def zli (st : List Value) (f : Int64 → Int32 → Value) : Option (List Value) := match st with
  | .int y :: .long x :: r => some (f x y :: r)
  | _ => none
def zdd (st : List Value) (f : UInt64 → UInt64 → Option Value) : Option (List Value) := match st with
  | .double y :: .double x :: r => (f x y).map (fun v => v :: r)
  | _ => none
def zd1 (st : List Value) (f : UInt64 → Option Value) : Option (List Value) := match st with
  | .double x :: r => (f x).map (fun v => v :: r)
  | _ => none
/-- a double, if it is a number -/
def zD (x : UInt64) : Option Value := if x &&& 0x7fffffffffffffff ≤ 0x7ff0000000000000 then some (.double x) else none
def zF (x : UInt32) : Option Value := if x &&& 0x7fffffff ≤ 0x7f800000 then some (.float x) else none
/-- the instructions that touch the stack alone -/
def zpst (i : Instr) (st : List Value) : Option (List Value) := match i with
  | .aconst_null => some (.null :: st)
  | .iconst n => some (.int (Int32.ofInt n) :: st)
  | .bipush n => some (.int (Int8.ofInt n).toInt32 :: st)
  | .sipush n => some (.int (Int16.ofInt n).toInt32 :: st)
  | .lconst n => some (.long (Int64.ofNat (n : Nat)) :: st)
  | .dconst 0 => some (.double 0 :: st)
  | .dconst 1 => some (.double 0x3ff0000000000000 :: st)
  | .iadd => zii st (fun x y => .int (x + y))
  | .isub => zii st (fun x y => .int (x - y))
  | .imul => zii st (fun x y => .int (x * y))
  | .iand => zii st (fun x y => .int (x &&& y))
  | .ior => zii st (fun x y => .int (x ||| y))
  | .ixor => zii st (fun x y => .int (x ^^^ y))
  | .ishl => zii st (fun x y => .int (x <<< (y &&& 31)))
  | .ishr => zii st (fun x y => .int (x >>> (y &&& 31)))
  | .iushr => zii st (fun x y => .int (x.toUInt32 >>> (y.toUInt32 &&& Int32.toUInt32 31)).toInt32)
  | .idiv => match st with
    | .int y :: .int x :: r => if y = 0 then none else some (.int (x / y) :: r)
    | _ => none
  | .irem => match st with
    | .int y :: .int x :: r => if y = 0 then none else some (.int (x - x / y * y) :: r)
    | _ => none
  | .ineg => zi1 st (fun x => .int (-x))
  | .i2l => zi1 st (fun x => .long x.toInt64)
  | .i2b => zi1 st (fun x => .int x.toInt8.toInt32)
  | .i2s => zi1 st (fun x => .int x.toInt16.toInt32)
  | .i2c => zi1 st (fun x => .int (x.toUInt32 % 65536).toInt32)
  | .i2d => zi1 st (fun x => .double (FP.i2d x))
  | .ladd => zll st (fun x y => .long (x + y))
  | .lsub => zll st (fun x y => .long (x - y))
  | .lmul => zll st (fun x y => .long (x * y))
  | .land => zll st (fun x y => .long (x &&& y))
  | .lor => zll st (fun x y => .long (x ||| y))
  | .lcmp => zll st (fun x y => .int (lg_cmp x y))
  | .ldiv => match st with
    | .long y :: .long x :: r => if y = 0 then none else some (.long (x / y) :: r)
    | _ => none
  | .lrem => match st with
    | .long y :: .long x :: r => if y = 0 then none else some (.long (x - x / y * y) :: r)
    | _ => none
  | .lneg => zl1 st (fun x => .long (-x))
  | .l2i => zl1 st (fun x => .int x.toInt32)
  | .l2f => zl1 st (fun x => .float (FP.l2f x))
  | .l2d => zl1 st (fun x => .double (FP.l2d x))
  | .lshl => zli st (fun x y => .long (x <<< (y.toInt64 &&& 63)))
  | .lshr => zli st (fun x y => .long (x >>> (y.toInt64 &&& 63)))
  | .lushr => zli st (fun x y => .long (x.toUInt64 >>> (y.toInt64.toUInt64 &&& Int64.toUInt64 63)).toInt64)
  | .dadd => zdd st (fun x y => zD (FP.dadd x y))
  | .dmul => zdd st (fun x y => zD (FP.dmul x y))
  | .ddiv => zdd st (fun x y => zD (FP.ddiv x y))
  | .dcmp op => zdd st (fun x y => some (.int (Op.cmpValue (FP.dcmp x y) op)))
  | .dneg => zd1 st (fun x => some (.double (FP.dneg x)))
  | .d2i => zd1 st (fun x => some (.int (FP.d2i x)))
  | .d2l => zd1 st (fun x => some (.long (FP.d2l x)))
  | .d2f => zd1 st (fun x => zF (FP.d2f x))
  | .f2d => match st with
    | .float x :: r => (zD (FP.f2d x)).map (fun v => v :: r)
    | _ => none
  | .fdiv => match st with
    | .float y :: .float x :: r => (zF (FP.fdiv x y)).map (fun v => v :: r)
    | _ => none
  | .fcmp op => match st with
    | .float y :: .float x :: r => some (.int (Op.cmpValue (FP.fcmp x y) op) :: r)
    | _ => none
  | .dup => match st with
    | .int x :: r => some (.int x :: .int x :: r)
    | .ref x :: r => some (.ref x :: .ref x :: r)
    | .null :: r => some (.null :: .null :: r)
    | _ => none
  | .dup2 => match st with
    | .long x :: r => some (.long x :: .long x :: r)
    | .int y :: .ref x :: r => some (.int y :: .ref x :: .int y :: .ref x :: r)
    | _ => none
  | .pop => match st with
    | .int _ :: r => some r
    | .ref _ :: r => some r
    | .null :: r => some r
    | _ => none
  | _ => none
/-- the branches: whether it is taken, by how much, what is left of the stack -/
def zbr (i : Instr) (st : List Value) : Option (Bool × Int × List Value) := match i with
  | .goto off => some (true, off, st)
  | .ifCond c off => match st with
    | .int x :: r => some (match c with
      | .eq => decide (x = 0)
      | .ne => decide (¬ x = 0)
      | .lt => decide (x < 0)
      | .ge => decide (0 ≤ x)
      | .gt => decide (0 < x)
      | .le => decide (x ≤ 0), off, r)
    | _ => none
  | .if_icmp c off => match st with
    | .int y :: .int x :: r => some (match c with
      | .eq => decide (x = y)
      | .ne => decide (¬ x = y)
      | .lt => decide (x < y)
      | .ge => decide (y ≤ x)
      | .gt => decide (y < x)
      | .le => decide (x ≤ y), off, r)
    | _ => none
  | .ifnull off => match st with
    | .null :: r => some (true, off, r)
    | .ref _ :: r => some (false, off, r)
    | _ => none
  | .ifnonnull off => match st with
    | .null :: r => some (false, off, r)
    | .ref _ :: r => some (true, off, r)
    | _ => none
  | .tableswitch dflt lo hi offs => match st with
    | .int x :: r => if x.toInt < lo ∨ hi < x.toInt then some (true, dflt, r) else (offs[(x.toInt - lo).toNat]?).map (fun o => (true, o, r))
    | _ => none
  | _ => none
/-- loads and stores of locals -/
def zloc (i : Instr) (ls : zLv) (st : List Value) : Option (zLv × List Value) := match i with
  | .iload k => match zld ls k with
    | some (.int x) => some (ls, .int x :: st)
    | _ => none
  | .iload_n k => match zld ls k with
    | some (.int x) => some (ls, .int x :: st)
    | _ => none
  | .lload k => match zld ls k with
    | some (.long x) => some (ls, .long x :: st)
    | _ => none
  | .lload_n k => match zld ls k with
    | some (.long x) => some (ls, .long x :: st)
    | _ => none
  | .dload k => match zld ls k with
    | some (.double x) => some (ls, .double x :: st)
    | _ => none
  | .dload_n k => match zld ls k with
    | some (.double x) => some (ls, .double x :: st)
    | _ => none
  | .fload_n k => match zld ls k with
    | some (.float x) => some (ls, .float x :: st)
    | _ => none
  | .aload k => match zld ls k with
    | some (.ref x) => some (ls, .ref x :: st)
    | some .null => some (ls, .null :: st)
    | _ => none
  | .aload_n k => match zld ls k with
    | some (.ref x) => some (ls, .ref x :: st)
    | some .null => some (ls, .null :: st)
    | _ => none
  | .istore k => match st with
    | .int x :: r => some (zs1 ls k (.int x), r)
    | _ => none
  | .istore_n k => match st with
    | .int x :: r => some (zs1 ls k (.int x), r)
    | _ => none
  | .astore k => match st with
    | .ref x :: r => some (zs1 ls k (.ref x), r)
    | .null :: r => some (zs1 ls k .null, r)
    | _ => none
  | .astore_n k => match st with
    | .ref x :: r => some (zs1 ls k (.ref x), r)
    | .null :: r => some (zs1 ls k .null, r)
    | _ => none
  | .lstore k => match st with
    | .long x :: r => some (zs2 ls k (.long x), r)
    | _ => none
  | .lstore_n k => match st with
    | .long x :: r => some (zs2 ls k (.long x), r)
    | _ => none
  | .dstore k => match st with
    | .double x :: r => some (zs2 ls k (.double x), r)
    | _ => none
  | .iinc k n => match zld ls k with
    | some (.int x) => some (zs1 ls k (.int (x + Int32.ofInt n)), st)
    | _ => none
  | _ => none
/-- what a place of an object holds, by the sort of the place: 0 an int, 1 a long, 2 a reference, 3 a yes or no -/
def zget (σ : zSt) (o k t : Nat) : Value := if t = 1 then .long (zL σ o k) else if t = 2 then va_rf (zR σ o k) else .int (zI σ o k)
def zbit (x : Int32) : Prop := x = 0 ∨ x = 1
/-- an index within -/
abbrev zin (i : Int32) (n : Nat) : Prop := ¬ (i < 0 ∨ n ≤ i.toNatClampNeg)
/-- fields, arrays: a getfield's number is 256 * class + 4 * place + sort -/
def zmem (i : Instr) (st : List Value) (σ : zSt) : Option (List Value × zSt) := match i with
  | .getfield x => match st with
    | .ref o :: r => if o < zN σ ∧ (zLY o).1 = x / 256 then some (zget σ o (x / 4 % 64) (x % 4) :: r, σ) else none
    | _ => none
  | .putfield x => match st with
    | v :: .ref o :: r => if o < zN σ ∧ (zLY o).1 = x / 256 then (match v with
      | .int n => if x % 4 = 0 ∨ (x % 4 = 3 ∧ (n = 0 ∨ n = 1)) then some (r, zwI σ o (x / 4 % 64) n) else none
      | .long n => if x % 4 = 1 then some (r, zwL σ o (x / 4 % 64) n) else none
      | .ref n => if x % 4 = 2 then some (r, zwR σ o (x / 4 % 64) (some n)) else none
      | .null => if x % 4 = 2 then some (r, zwR σ o (x / 4 % 64) none) else none
      | _ => none) else none
    | _ => none
  | .iaload => match st with
    | .int k :: .ref a :: r => if a = zSCR then (if zin k ((zR σ zSCR 0).getD 0) then some (.int (zI σ zSCR k.toNatClampNeg) :: r, σ) else none)
        else if a < zN σ ∧ (zLY a).1 = 12 ∧ zin k (zLY a).2 then some (.int (zI σ a k.toNatClampNeg) :: r, σ) else none
    | _ => none
  | .caload => match st with
    | .int k :: .ref a :: r => if a < zN σ ∧ (zLY a).1 = 11 ∧ zin k (zLY a).2 then some (.int (zI σ a k.toNatClampNeg) :: r, σ) else none
    | _ => none
  | .baload => match st with
    | .int k :: .ref a :: r => if a < zN σ ∧ (zLY a).1 = 14 ∧ zin k (zLY a).2 then some (.int (zI σ a k.toNatClampNeg) :: r, σ) else none
    | _ => none
  | .laload => match st with
    | .int k :: .ref a :: r => if a < zN σ ∧ (zLY a).1 = 13 ∧ zin k (zLY a).2 then some (.long (zL σ a k.toNatClampNeg) :: r, σ) else none
    | _ => none
  | .aaload => match st with
    | .int k :: .ref a :: r => if a < zN σ ∧ (15 ≤ (zLY a).1 ∧ (zLY a).1 ≤ 18) ∧ zin k (zLY a).2 then some (va_rf (zR σ a k.toNatClampNeg) :: r, σ) else none
    | _ => none
  | .iastore => match st with
    | .int v :: .int k :: .ref a :: r => if a < zN σ ∧ (zLY a).1 = 12 ∧ zin k (zLY a).2 then some (r, zwI σ a k.toNatClampNeg v) else none
    | _ => none
  | .castore => match st with
    | .int v :: .int k :: .ref a :: r => if a < zN σ ∧ (zLY a).1 = 11 ∧ zin k (zLY a).2 then some (r, zwI σ a k.toNatClampNeg (vp_nar .char v)) else none
    | _ => none
  | .bastore => match st with
    | .int v :: .int k :: .ref a :: r => if a < zN σ ∧ (zLY a).1 = 14 ∧ zin k (zLY a).2 then some (r, zwI σ a k.toNatClampNeg (vp_nar .boolean v)) else none
    | _ => none
  | .lastore => match st with
    | .long v :: .int k :: .ref a :: r => if a < zN σ ∧ (zLY a).1 = 13 ∧ zin k (zLY a).2 then some (r, zwL σ a k.toNatClampNeg v) else none
    | _ => none
  | .aastore => match st with
    | .ref v :: .int k :: .ref a :: r => if a < zN σ ∧ v < zN σ ∧ ((zLY a).1, (zLY v).1) ∈ [(15, 2), (16, 5), (17, 6)] ∧ zin k (zLY a).2 then some (r, zwR σ a k.toNatClampNeg (some v)) else none
    | _ => none
  | .arraylength => match st with
    | .ref a :: r => if a = zSCR then some (.int (Int32.ofNat ((zR σ zSCR 0).getD 0)) :: r, σ)
        else if a < zN σ ∧ 11 ≤ (zLY a).1 ∧ (zLY a).1 ≤ 18 then some (.int (Int32.ofNat (zLY a).2) :: r, σ) else none
    | _ => none
  | _ => none
/-- new objects -/
def zaty : ArrayType → Nat
  | .char => 11
  | .int => 12
  | .long => 13
  | .boolean => 14
  | _ => 99
def zmak (i : Instr) (st : List Value) (σ : zSt) : Option (List Value × zSt) := match i with
  | .new c => if (zLY (zN σ)).1 = c ∧ c ≤ 10 then some (.ref (zN σ) :: st, znew σ) else none
  | .newarray t => match st with
    | .int n :: r => if zaty t ≤ 14 ∧ ¬ n < 0 ∧ zLY (zN σ) = (zaty t, n.toNatClampNeg) then some (.ref (zN σ) :: r, znew σ) else none
    | _ => none
  | .anewarray c => match st with
    | .int n :: r => if (c = 15 ∨ c = 16 ∨ c = 17) ∧ ¬ n < 0 ∧ zLY (zN σ) = (c, n.toNatClampNeg) then some (.ref (zN σ) :: r, znew σ) else none
    | _ => none
  | .multianewarray c d => match st with
    | .int k :: .int n :: r => if c = 18 ∧ d = 2 ∧ ¬ k < 0 ∧ ¬ n < 0 ∧ zLY (zN σ) = (18, n.toNatClampNeg) ∧ (∀ j, j < n.toNatClampNeg → zLY (zN σ + 1 + j) = (13, k.toNatClampNeg))
        then some (.ref (zN σ) :: r, zrR (znews (n.toNatClampNeg + 1) σ) (zN σ) (fun j => if j < n.toNatClampNeg then some (zN σ + 1 + j) else none)) else none
    | _ => none
  | _ => none
/-- constants: of the table beside the code -/
def zcst (i : Instr) (st : List Value) : Option (List Value) := match i with
  | .ldc j => (zCT[j]?).map (fun v => v :: st)
  | .ldc_w j => (zCT[j]?).map (fun v => v :: st)
  | .ldc2_w j => (zCT[j]?).map (fun v => v :: st)
  | _ => none
/-- answers: t the sort that the method's head asks for: 0 an int, 1 a yes or no, 2 anything else -/
def zret (i : Instr) (t : Nat) (st : List Value) : Option (Option Value) := match i with
  | .return_ => match st with
    | [] => some none
    | _ => none
  | .ireturn => match st with
    | [.int x] => if t = 0 ∨ (t = 1 ∧ (x = 0 ∨ x = 1)) then some (some (.int x)) else none
    | _ => none
  | .lreturn => match st with
    | [.long x] => some (some (.long x))
    | _ => none
  | .freturn => match st with
    | [.float x] => some (some (.float x))
    | _ => none
  | .dreturn => match st with
    | [.double x] => some (some (.double x))
    | _ => none
  | .areturn => match st with
    | [.ref x] => some (some (.ref x))
    | [.null] => some (some .null)
    | _ => none
  | _ => none
/-- one step that isn't a call -/
def zstp (i : Instr) (len t pc : Nat) (ls : zLv) (st : List Value) (σ : zSt) : zRes :=
  match zpst i st with
  | some st' => zgo (pc + len) ls st' σ
  | none => match zbr i st with
    | some (b, off, r) => zgo (if b then zjp pc off else pc + len) ls r σ
    | none => match zloc i ls st with
      | some (ls', st') => zgo (pc + len) ls' st' σ
      | none => match zmem i st σ with
        | some (st', σ') => zgo (pc + len) ls st' σ'
        | none => match zmak i st σ with
          | some (st', σ') => zgo (pc + len) ls st' σ'
          | none => match zcst i st with
            | some st' => zgo (pc + len) ls st' σ
            | none => match zret i t st with
              | some r => some (.inr (σ, r))
              | none => none
/-- calls: the number of the method that is called, whether by its receiver's class -/
def zcal : Instr → Option (Nat × Bool)
  | .invokevirtual n => some (n, true)
  | .invokestatic n => some (n, false)
  | .invokespecial n => some (n, true)
  | _ => none
/-- the receiver is an object of the method's class -/
def zrcv (y : Nat) (a : List Value) (σ : zSt) : Bool := match a with
  | .ref o :: _ => decide (o < zN σ) && ((zLY o).1 == zCI y)
  | _ => false
/-- the n uppermost values, the lowest first, and what is left -/
def zpop : Nat → List Value → Option (List Value × List Value)
  | 0, st => some ([], st)
  | n + 1, v :: st => (zpop n st).map (fun q => (q.1 ++ [v], q.2))
  | _ + 1, [] => none
/-- calls that no listed code answers: numbers from 900 on -/
def znat (n : Nat) (a : List Value) (σ : zSt) : Option (zSt × Option Value) := match n with
  | 900 => match a with
    | [.ref x, .int i, .ref y, .int j, .int k] =>
      if x < zN σ ∧ y < zN σ ∧ ¬ i < 0 ∧ ¬ j < 0 ∧ ¬ k < 0 ∧ i.toNatClampNeg + k.toNatClampNeg ≤ (zLY x).2 ∧ j.toNatClampNeg + k.toNatClampNeg ≤ (zLY y).2 ∧ (zLY x).1 = (zLY y).1 then
        (if (zLY x).1 = 12 then some (zrI σ y (va_cpy (zI σ x) (zI σ y) i.toNatClampNeg j.toNatClampNeg k.toNatClampNeg), none)
         else if (zLY x).1 = 13 then some (zrL σ y (va_cpy (zL σ x) (zL σ y) i.toNatClampNeg j.toNatClampNeg k.toNatClampNeg), none) else none) else none
    | _ => none
  | 901 => match a with
    | [.double x] => some (σ, some (.long x.toInt64))
    | _ => none
  | 902 => match a with
    | [.long x] => if vn_snl2d x = false then some (σ, some (.double x.toUInt64)) else none
    | _ => none
  | 903 => match a with
    | [.float x] => some (σ, some (.int x.toInt32))
    | _ => none
  | 904 => match a with
    | [.int x] => if vn_sni2f x = false then some (σ, some (.float x.toUInt32)) else none
    | _ => none
  | 905 => match a with
    | [.ref x] => if x = zSTR then some (σ, some (.int 87)) else none
    | _ => none
  | 906 => match a with
    | [.ref x, .int k] => if x = zSTR ∧ zin k 87 then some (σ, some (.int (zTX.getD k.toNatClampNeg 0))) else none
    | _ => none
  | 907 => match a with
    | [.ref _] => some (σ, none)
    | _ => none
  | _ => none
/-- THE RUN: n is the fuel -/
def zrun : Nat → zCode → Nat → zLv → List Value → zSt → Option (zSt × Option Value)
  | 0, _, _, _, _, _ => none
  | n + 1, c, pc, ls, st, σ => match c[pc]? with
    | some (some (i, len, t)) => match zcal i with
      | some (y, vt) => match zpop (zNA y) st with
        | some (a, r) => if (r.map (fun v => v.category)).sum ≤ 8 ∧ (900 ≤ y ∨ ((a.map (fun v => v.category)).sum ≤ zML y ∧ (vt = true → zrcv y a σ = true))) then
            (match (if 900 ≤ y then znat y a σ else zrun n (zcode y) 0 (lv_args 0 a) [] σ) with
              | some (σ', v) => zrun n c (pc + 3) ls (v.toList ++ r) σ'
              | none => none) else none
        | none => none
      | none => match zstp i len t pc ls st σ with
        | some (.inl (pc', ls', st', σ')) => zrun n c pc' ls' st' σ'
        | some (.inr q) => some q
        | none => none
    | _ => none
end
section
/-! THE STORE AS CELLS of the claim's machine: object o stands at address zad o; what a cell holds is read off the store. -/
def zad (B sc tx o : Nat) : Nat := if o = zSCR then sc else if o = zSTR then tx else B + o
def zv (ad : Nat → Nat) : Value → Value
  | .ref o => .ref (ad o)
  | v => v
theorem zv_cat (ad : Nat → Nat) (v : Value) : (zv ad v).category = v.category := by cases v <;> rfl
def zq (ad : Nat → Nat) (q : Nat × Value) : Nat × Value := (q.1, zv ad q.2)
theorem zv_rf (ad : Nat → Nat) (r : Option Nat) : zv ad (va_rf r) = va_rf (r.map ad) := by cases r <;> rfl
/-- the sorts of a class's places: 0 an int, 1 a long, 2 a reference, 3 a yes or no -/
def zFT : List (List Nat) := [[2, 2, 2, 0, 0, 0, 0, 0, 0, 0, 2, 0, 2, 0, 2, 2, 2, 0, 0, 0], [2], [2, 0, 0, 0], [2, 2, 0, 0], [2, 2, 0, 0], [0, 0, 0, 0, 0, 0, 0, 3], [2, 2, 2, 2, 0, 0, 0], [2, 0], [2, 2, 2, 2, 0, 0], [2, 2, 2, 2, 2, 2, 2, 2, 2, 2, 2, 3, 0, 0], [2, 0, 0, 0, 0, 0, 0, 0, 0, 2, 2, 0, 2, 2, 3, 0, 2, 2, 0, 1, 2, 2, 2, 2, 2, 3, 2, 2, 2, 2, 0, 0]]
def zft (c j : Nat) : Nat := (((zFT[c]?).getD [])[j]?).getD 0
def zfv (ad : Nat → Nat) (σ : zSt) (o j t : Nat) : Value := if t = 1 then .long (zL σ o j) else if t = 2 then va_rf ((zR σ o j).map ad) else .int (zI σ o j)
def zfs (ad : Nat → Nat) (σ : zSt) (o c n : Nat) : List Value := (List.range n).map (fun j => zfv ad σ o j (zft c j))
def zel (ad : Nat → Nat) (cy : Nat → ClassId) (σ : zSt) (o : Nat) : va_E :=
  if (zLY o).1 ≤ 10 then .inr ((zLY o).1, zfs ad σ o (zLY o).1 (zLY o).2)
  else if (zLY o).1 = 13 then .inl (cy 13, (zLY o).2, .inr (.inl (zL σ o)))
  else if 15 ≤ (zLY o).1 then .inl (cy (zLY o).1, (zLY o).2, .inr (.inr (.inr (.inr (fun j => (zR σ o j).map ad)))))
  else .inl (cy (zLY o).1, (zLY o).2, .inl (zI σ o))
def zW (ad : Nat → Nat) (cy : Nat → ClassId) (σ : zSt) : va_W := (List.range (zN σ)).map (fun o => (ad o, zel ad cy σ o))
def zty (cy : Nat → ClassId) : List (ClassId × FieldType) := [(cy 11, .char), (cy 12, .int), (cy 13, .long), (cy 14, .boolean), (cy 15, .object "RecordBridge$Passage"), (cy 16, .object "RecordBridge$Rule"), (cy 17, .object "RecordBridge$Shape"), (cy 18, .array .long)]
theorem zW_at (ad : Nat → Nat) (cy : Nat → ClassId) (σ : zSt) {o : Nat} (h : o < zN σ) : (zW ad cy σ)[o]? = some (ad o, zel ad cy σ o) := by
  simp [zW, List.getElem?_map, List.getElem?_range h]
theorem zW_len (ad : Nat → Nat) (cy : Nat → ClassId) (σ : zSt) : (zW ad cy σ).length = zN σ := by simp [zW]
theorem zW_out (ad : Nat → Nat) (cy : Nat → ClassId) (σ : zSt) {o : Nat} (h : zN σ ≤ o) : (zW ad cy σ)[o]? = none := by
  rw [List.getElem?_eq_none_iff, zW_len]; exact h
theorem zel_congr {ad : Nat → Nat} {cy : Nat → ClassId} {σ σ' : zSt} {o : Nat} (h1 : zI σ' o = zI σ o) (h2 : zL σ' o = zL σ o) (h3 : zR σ' o = zR σ o) : zel ad cy σ' o = zel ad cy σ o := by
  simp only [zel, zfs, zfv, h1, h2, h3]
theorem zW_set {ad : Nat → Nat} {cy : Nat → ClassId} {σ σ' : zSt} {o : Nat} (hN : zN σ' = zN σ) (h : ∀ q, q ≠ o → zel ad cy σ' q = zel ad cy σ q) : (zW ad cy σ).set o (ad o, zel ad cy σ' o) = zW ad cy σ' := by
  apply List.ext_getElem?
  intro i
  rw [List.getElem?_set]
  by_cases hi : i < zN σ
  · rw [zW_at ad cy σ' (by rw [hN]; exact hi), zW_at ad cy σ hi, zW_len]
    by_cases e : o = i
    · subst e; simp [hi]
    · rw [if_neg e, h i (fun q => e q.symm)]
  · rw [zW_out ad cy σ' (by rw [hN]; omega), zW_out ad cy σ (by omega), zW_len]
    by_cases e : o = i
    · subst e; simp [hi]
    · rw [if_neg e]
theorem zN_new (σ : zSt) : zN (znew σ) = zN σ + 1 := rfl
theorem zW_new {ad : Nat → Nat} {cy : Nat → ClassId} {σ : zSt} : zW ad cy (znew σ) = zW ad cy σ ++ [(ad (zN σ), zel ad cy (znew σ) (zN σ))] := by
  apply List.ext_getElem?
  intro i
  by_cases hi : i < zN σ
  · rw [zW_at ad cy (znew σ) (by rw [zN_new]; omega), List.getElem?_append_left (by rw [zW_len]; exact hi), zW_at ad cy σ hi]
    have hne : i ≠ σ.2.2.2 := Nat.ne_of_lt hi
    rw [zel_congr (σ := σ) (σ' := znew σ)]
    · show va_up _ _ _ i = _
      simp only [va_up, hne, if_false]
      rfl
    · show va_up _ _ _ i = _
      simp only [va_up, hne, if_false]
      rfl
    · show va_up _ _ _ i = _
      simp only [va_up, hne, if_false]
      rfl
  · rw [List.getElem?_append_right (by rw [zW_len]; omega), zW_len]
    by_cases e : i = zN σ
    · subst e
      rw [zW_at ad cy (znew σ) (by rw [zN_new]; omega)]
      simp
    · rw [zW_out ad cy (znew σ) (by rw [zN_new]; omega)]
      rw [List.getElem?_eq_none]
      simp; omega
/-- the addresses are apart, from B on -/
theorem zW_D {B sc tx : Nat} {cy : Nat → ClassId} {σ : zSt} (hn : zN σ ≤ 1000000) : va_D (fun q => B ≤ q) (zW (zad B sc tx) cy σ) := by
  have key : ∀ (i : Nat) (p : Nat × va_E), (zW (zad B sc tx) cy σ)[i]? = some p → i < zN σ ∧ p.1 = B + i := by
    intro i p h
    by_cases hi : i < zN σ
    · rw [zW_at _ _ _ hi] at h
      refine ⟨hi, ?_⟩
      cases h
      show zad B sc tx i = B + i
      have h1 : i ≠ zSCR := by unfold zSCR; omega
      have h2 : i ≠ zSTR := by unfold zSTR; omega
      simp [zad, h1, h2]
    · rw [zW_out _ _ _ (by omega)] at h; cases h
  refine ⟨fun i j p q hp hq e => ?_, fun k q hq => ?_⟩
  · obtain ⟨-, h1⟩ := key i p hp
    obtain ⟨-, h2⟩ := key j q hq
    omega
  · obtain ⟨-, h1⟩ := key k q hq
    show B ≤ q.1
    omega
theorem zad_lt {B sc tx o : Nat} (h : o < 1000000) : zad B sc tx o = B + o := by
  have h1 : o ≠ zSCR := by unfold zSCR; omega
  have h2 : o ≠ zSTR := by unfold zSTR; omega
  simp [zad, h1, h2]
/-! locals -/
theorem zld_mem {ls : zLv} {i : Nat} {v : Value} (h : zld ls i = some v) : (i, v) ∈ ls := by
  unfold zld at h
  cases hf : ls.find? (fun q => q.1 == i) with
  | none => rw [hf] at h; cases h
  | some q =>
    rw [hf] at h
    have h1 := List.mem_of_find?_eq_some hf
    have h2 := List.find?_some hf
    simp at h2
    obtain ⟨a, b⟩ := q
    cases h
    simp at h2
    subst h2
    exact h1
theorem zld_at {ad : Nat → Nat} {lsA : Array Slot} {nL : Nat} {ls : zLv} (hl : lv_has lsA nL (ls.map (zq ad))) {i : Nat} {v : Value} (h : zld ls i = some v) : lsA[i]? = some (.val (zv ad v)) :=
  hl.2.2 (i, zv ad v) (List.mem_map.mpr ⟨(i, v), zld_mem h, rfl⟩)
theorem zs1_map (ad : Nat → Nat) (ls : zLv) (i : Nat) (v : Value) : (i, zv ad v) :: (ls.map (zq ad)).filter (fun q => !(q.1 == i) && !(q.1 + 1 == i && q.2.category == 2)) = (zs1 ls i v).map (zq ad) := by
  simp only [zs1, List.map_cons, List.filter_map]
  congr 2
  apply List.filter_congr
  intro q _
  simp [zq, Function.comp, zv_cat]
theorem zs2_map (ad : Nat → Nat) (ls : zLv) (i : Nat) (v : Value) : (i, zv ad v) :: (ls.map (zq ad)).filter (fun q => !(q.1 == i) && (!(q.1 == i + 1) && !(q.1 + 1 == i && q.2.category == 2))) = (zs2 ls i v).map (zq ad) := by
  simp only [zs2, List.map_cons, List.filter_map]
  congr 2
  apply List.filter_congr
  intro q _
  simp [zq, Function.comp, zv_cat]
theorem lv_args_map (ad : Nat → Nat) : ∀ (vs : List Value) (i : Nat), lv_args i (vs.map (zv ad)) = (lv_args i vs).map (zq ad)
  | [], _ => rfl
  | v :: vs, i => by
    show (i, zv ad v) :: lv_args (if (zv ad v).category = 2 then i + 2 else i + 1) (vs.map (zv ad)) = zq ad (i, v) :: (lv_args (if v.category = 2 then i + 2 else i + 1) vs).map (zq ad)
    rw [zv_cat, lv_args_map ad vs]
    rfl
theorem zld_idx {ad : Nat → Nat} {ls : zLv} {i : Nat} {v : Value} (h : zld ls i = some v) : ∃ k : Nat, (ls.map (zq ad))[k]? = some (i, zv ad v) :=
  List.getElem?_of_mem (List.mem_map.mpr ⟨(i, v), zld_mem h, rfl⟩)
end
section
/-! WHAT THE LINKS REST ON: each method, each link, and the word of the tables that says so; written by wip/whole/gen_links.py. -/
/-- is the first list among the second, in its order -/
def zsub : List Cond → List Cond → Bool
  | [], [] => true
  | _ :: _, [] => false
  | [], _ :: _ => true
  | a :: l, b :: r => if a = b then zsub l r else zsub (a :: l) r
theorem zsub_in : ∀ (r l : List Cond), zsub l r = true → ∀ w ∈ l, w ∈ r
  | [], l, h, w, hw => by
    cases l with
    | nil => cases hw
    | cons a l => cases h
  | b :: r, [], h, w, hw => by cases hw
  | b :: r, a :: l, h, w, hw => by
    rw [zsub] at h
    split at h
    · rename_i e
      rcases List.mem_cons.mp hw with q | q
      · rw [q, e]; exact List.mem_cons_self
      · exact List.mem_cons_of_mem _ (zsub_in r l h w q)
    · exact List.mem_cons_of_mem _ (zsub_in r (a :: l) h w hw)
def zOwl : List String := [RX11, RX0, RX1, RX2, RX3, RX4, RX5, RX6, RX7, RX8, RX9, RX10, RL, RX12, RJxe99ae, RJxf58ca, RJ6, RJ9, RJ7]
def zOw (a : Nat) : String := (zOwl[a]?).getD RL
/-- a method: its name, bytes, words of locals, answer, class, frames, words that it needs above it -/
abbrev zMt : Type := MethodName × ByteArray × Nat × Option FieldType × Nat × Nat × Nat
def zMT0 : List zMt := [(yX0_init, cX0_init, 5, none, 1, 6, 140), (yX0_readBook, cX0_readBook, 3, (some .boolean), 1, 5, 108), (yX0_lookAtNext, cX0_lookAtNext, 2, none, 1, 3, 67), (yX0_takeInScheme, cX0_takeInScheme, 1, (some .boolean), 1, 4, 85), (yX0_takeInCross, cX0_takeInCross, 1, (some .boolean), 1, 4, 88), (yX0_refuse, cX0_refuse, 3, (some .boolean), 1, 0, 0), (yX0_goOn, cX0_goOn, 2, (some .boolean), 1, 1, 21), (yX0_nameStands, cX0_nameStands, 1, (some .boolean), 1, 1, 22), (yX0_numberStands, cX0_numberStands, 3, (some .boolean), 1, 2, 43), (yX0_refuseOneMore, cX0_refuseOneMore, 1, (some .boolean), 1, 1, 22), (yX0_takeSign, cX0_takeSign, 3, (some .boolean), 1, 2, 42), (yX0_takeStatement, cX0_takeStatement, 2, (some .boolean), 1, 2, 42), (yX0_takeSchemeName, cX0_takeSchemeName, 2, (some .boolean), 1, 2, 44), (yX0_takeKind, cX0_takeKind, 1, (some .boolean), 1, 2, 42), (yX0_takeFieldName, cX0_takeFieldName, 1, (some .boolean), 1, 2, 42), (yX0_takeTimesNumber, cX0_takeTimesNumber, 1, (some .boolean), 1, 3, 65)]
def zMT1 : List zMt := [(yX0_takeFirstScheme, cX0_takeFirstScheme, 1, (some .boolean), 1, 2, 44), (yX0_takeSecondScheme, cX0_takeSecondScheme, 5, (some .boolean), 1, 2, 45), (yX0_takeTarget, cX0_takeTarget, 1, (some .boolean), 1, 2, 44), (yX0_takeNumberSource, cX0_takeNumberSource, 1, (some .boolean), 1, 3, 67), (yX0_takeFieldSource, cX0_takeFieldSource, 2, (some .boolean), 1, 3, 67), (yX0_beginRule, cX0_beginRule, 6, (some .boolean), 1, 2, 42), (yX0_takeSort, cX0_takeSort, 1, (some .boolean), 1, 2, 42), (yX0_takeFactor, cX0_takeFactor, 1, (some .boolean), 1, 3, 65), (yX0_takeSecondField, cX0_takeSecondField, 2, (some .boolean), 1, 2, 42), (yX0_takeRuleSign, cX0_takeRuleSign, 1, (some .boolean), 1, 3, 64), (yX1_init, cX1_init, 1, none, 2, 1, 40), (yX1_carry, cX1_carry, 10, none, 2, 4, 119), (yX1_carryByRule, cX1_carryByRule, 13, none, 2, 3, 87), (yX1_valueMade, cX1_valueMade, 13, (some .long), 2, 2, 55), (yX1_valueOf, cX1_valueOf, 5, (some .long), 2, 1, 21), (yX1_wholeMade, cX1_wholeMade, 5, (some .long), 2, 0, 0)]
def zMT2 : List zMt := [(yX1_realMade, cX1_realMade, 9, (some .double), 2, 0, 0), (yX2_isNumber, cX2_isNumber, 1, (some .boolean), 3, 0, 0), (yX2_isReal, cX2_isReal, 1, (some .boolean), 3, 0, 0), (yX2_goesInto, cX2_goesInto, 2, (some .boolean), 3, 0, 0), (yX2_goesWholeInto, cX2_goesWholeInto, 2, (some .boolean), 3, 1, 21), (yX2_told, cX2_told, 3, (some .long), 3, 2, 53), (yX2_toldWord, cX2_toldWord, 7, (some .long), 3, 0, 0), (yX2_changed, cX2_changed, 4, (some .long), 3, 2, 53), (yX2_realOf, cX2_realOf, 3, (some .double), 3, 1, 33), (yX2_wholeOfWord, cX2_wholeOfWord, 9, (some .long), 3, 0, 0), (yX2_digitsWord, cX2_digitsWord, 9, (some .long), 3, 0, 0), (yX2_ofWhole, cX2_ofWhole, 3, (some .long), 3, 1, 31), (yX2_ofReal, cX2_ofReal, 3, (some .long), 3, 1, 31), (yX3_init, cX3_init, 2, none, 4, 2, 60), (yX3_begin, cX3_begin, 3, none, 4, 0, 0), (yX3_ruleAt, cX3_ruleAt, 2, (some (.object "RecordBridge$Rule")), 4, 0, 0)]
def zMT3 : List zMt := [(yX3_addRule, cX3_addRule, 1, (some (.object "RecordBridge$Rule")), 4, 1, 21), (yX3_fieldsRead, cX3_fieldsRead, 4, (some .int), 4, 1, 21), (yX3_fieldsFilled, cX3_fieldsFilled, 4, (some .int), 4, 1, 21), (yX3_leadsBack, cX3_leadsBack, 2, (some .boolean), 4, 0, 0), (yX3_fieldsKeptWhole, cX3_fieldsKeptWhole, 7, (some .int), 4, 3, 64), (yX3_keepsWhole, cX3_keepsWhole, 3, (some .boolean), 4, 2, 42), (yX3_carriesAlone, cX3_carriesAlone, 5, (some .boolean), 4, 1, 22), (yX4_init, cX4_init, 2, none, 5, 3, 81), (yX4_clear, cX4_clear, 1, none, 5, 0, 0), (yX4_shape, cX4_shape, 2, (some (.object "RecordBridge$Shape")), 5, 0, 0), (yX4_passage, cX4_passage, 3, (some (.object "RecordBridge$Passage")), 5, 0, 0), (yX4_addShape, cX4_addShape, 3, (some (.object "RecordBridge$Shape")), 5, 1, 21), (yX4_addPassage, cX4_addPassage, 4, (some (.object "RecordBridge$Passage")), 5, 1, 22), (yX4_shapeOfName, cX4_shapeOfName, 4, (some .int), 5, 1, 21), (yX5_toBits, cX5_toBits, 12, (some .long), 6, 0, 0), (yX5_fromBits, cX5_fromBits, 14, (some .double), 6, 0, 0)]
def zMT4 : List zMt := [(yX6_init, cX6_init, 1, none, 7, 2, 44), (yX6_clear, cX6_clear, 1, none, 7, 1, 24), (yX6_keepPast, cX6_keepPast, 1, none, 7, 1, 40), (yX6_goBack, cX6_goBack, 1, (some .boolean), 7, 1, 40), (yX6_countOf, cX6_countOf, 2, (some .int), 7, 0, 0), (yX6_hasRecord, cX6_hasRecord, 3, (some .boolean), 7, 1, 21), (yX6_hasRoom, cX6_hasRoom, 2, (some .boolean), 7, 1, 21), (yX6_recordStart, cX6_recordStart, 2, (some .int), 7, 0, 0), (yX6_isRecordPlace, cX6_isRecordPlace, 2, (some .boolean), 7, 0, 0), (yX6_blank, cX6_blank, 5, none, 7, 1, 21), (yX6_move, cX6_move, 4, none, 7, 1, 40), (yX6_addBlank, cX6_addBlank, 3, (some .int), 7, 2, 45), (yX6_addLike, cX6_addLike, 4, (some .int), 7, 3, 67), (yX6_remove, cX6_remove, 5, none, 7, 2, 63), (yX6_indexOf, cX6_indexOf, 5, (some .int), 7, 1, 21), (yX6_rawAt, cX6_rawAt, 6, (some .long), 7, 2, 45)]
def zMT5 : List zMt := [(yX6_isEmptyAt, cX6_isEmptyAt, 5, (some .boolean), 7, 3, 70), (yX6_valueAt, cX6_valueAt, 7, (some .long), 7, 3, 70), (yX6_setAt, cX6_setAt, 8, none, 7, 2, 45), (yX6_thingKind, cX6_thingKind, 2, (some .int), 7, 0, 0), (yX6_thingValue, cX6_thingValue, 2, (some .long), 7, 0, 0), (yX6_setThing, cX6_setThing, 5, none, 7, 0, 0), (yX6_takeValues, cX6_takeValues, 9, none, 7, 4, 96), (yX6_setValues, cX6_setValues, 4, none, 7, 1, 40), (yX6_mostAlike, cX6_mostAlike, 8, (some .int), 7, 5, 125), (yX6_areAlike, cX6_areAlike, 10, (some .boolean), 7, 4, 96), (yX7_init, cX7_init, 1, none, 8, 1, 40), (yX7_set, cX7_set, 5, none, 8, 0, 0), (yX7_settle, cX7_settle, 5, none, 8, 1, 21), (yX7_fieldsRead, cX7_fieldsRead, 1, (some .int), 8, 0, 0), (yX7_isAlone, cX7_isAlone, 3, (some .boolean), 8, 0, 0), (yX8_init, cX8_init, 1, none, 9, 1, 40)]
def zMT6 : List zMt := [(yX8_begin, cX8_begin, 2, none, 9, 0, 0), (yX8_addField, cX8_addField, 3, none, 9, 0, 0), (yX8_repeatLast, cX8_repeatLast, 2, none, 9, 1, 21), (yX8_hasField, cX8_hasField, 2, (some .boolean), 9, 0, 0), (yX8_kindOf, cX8_kindOf, 2, (some .int), 9, 1, 21), (yX8_hasWords, cX8_hasWords, 2, (some .boolean), 9, 2, 42), (yX8_fieldOfName, cX8_fieldOfName, 3, (some .int), 9, 0, 0), (yX9_init, cX9_init, 1, none, 10, 1, 40), (yX9_takes, cX9_takes, 2, (some .boolean), 10, 0, 0), (yX9_addNumber, cX9_addNumber, 3, none, 10, 0, 0), (yX9_byteAt, cX9_byteAt, 2, (some .int), 10, 0, 0), (yX9_isLetter, cX9_isLetter, 3, (some .boolean), 10, 1, 21), (yX9_isDigit, cX9_isDigit, 3, (some .boolean), 10, 1, 21), (yX9_isBlank, cX9_isBlank, 3, (some .boolean), 10, 1, 21), (yX9_lettersFrom, cX9_lettersFrom, 3, (some .int), 10, 2, 43), (yX9_digitsFrom, cX9_digitsFrom, 3, (some .int), 10, 2, 43)]
def zMT7 : List zMt := [(yX9_numberFrom, cX9_numberFrom, 5, (some .int), 10, 2, 43), (yX9_nameFrom, cX9_nameFrom, 4, (some .int), 10, 2, 43), (yX9_wholeName, cX9_wholeName, 1, (some .int), 10, 3, 66), (yX9_withLetter, cX9_withLetter, 3, (some .int), 10, 0, 0), (yX9_letterOf, cX9_letterOf, 2, (some .int), 10, 0, 0), (yX10_init, cX10_init, 1, none, 11, 1, 40), (yX10_stepAt, cX10_stepAt, 2, (some .int), 11, 0, 0), (yX10_findShortest, cX10_findShortest, 6, (some .boolean), 11, 2, 61), (yX10_findLeast, cX10_findLeast, 9, (some .boolean), 11, 6, 178), (yX10_choose, cX10_choose, 2, none, 11, 1, 40), (yX10_leads, cX10_leads, 11, (some .boolean), 11, 1, 22), (yX10_lostBySteps, cX10_lostBySteps, 11, (some .int), 11, 5, 148), (yX11_init, cX11_init, 1, none, 0, 7, 164), (yX11_feed, cX11_feed, 6, (some .int), 0, 1, 22), (yX11_end, cX11_end, 2, (some .boolean), 0, 0, 0), (yX11_book, cX11_book, 3, (some .int), 0, 6, 130)]
def zMT8 : List zMt := [(yX11_fault, cX11_fault, 2, (some .int), 0, 0, 0), (yX11_has, cX11_has, 2, (some .int), 0, 2, 44), (yX11_hasOfScheme, cX11_hasOfScheme, 4, (some .int), 0, 1, 21), (yX11_letter, cX11_letter, 5, (some .int), 0, 1, 21), (yX11_named, cX11_named, 4, (some .int), 0, 4, 86), (yX11_field, cX11_field, 5, (some .int), 0, 1, 21), (yX11_crossing, cX11_crossing, 4, (some .int), 0, 2, 44), (yX11_rule, cX11_rule, 6, (some .int), 0, 1, 22), (yX11_widens, cX11_widens, 3, (some .int), 0, 1, 21), (yX11_length, cX11_length, 4, (some .int), 0, 2, 45), (yX11_read, cX11_read, 7, (some .long), 0, 4, 96), (yX11_get, cX11_get, 8, (some .long), 0, 4, 96), (yX11_write, cX11_write, 9, (some .boolean), 0, 3, 76), (yX11_put, cX11_put, 9, (some .boolean), 0, 3, 76), (yX11_why, cX11_why, 1, (some .int), 0, 0, 0), (yX11_cell, cX11_cell, 6, (some .long), 0, 4, 96)]
def zMT9 : List zMt := [(yX11_unlike, cX11_unlike, 5, (some .long), 0, 5, 124), (yX11_rowSort, cX11_rowSort, 4, (some .int), 0, 1, 21), (yX11_placesOf, cX11_placesOf, 5, (some .int), 0, 1, 21), (yX11_kindRefusal, cX11_kindRefusal, 6, (some .int), 0, 2, 45), (yX11_thingRefusal, cX11_thingRefusal, 6, (some .int), 0, 2, 45), (yX11_takesThing, cX11_takesThing, 2, (some .boolean), 0, 1, 21), (yX11_differing, cX11_differing, 5, (some .long), 0, 0, 0), (yX11_make, cX11_make, 2, (some .int), 0, 3, 67), (yX11_copy, cX11_copy, 3, (some .int), 0, 4, 90), (yX11_drop, cX11_drop, 3, (some .boolean), 0, 3, 87), (yX11_chance, cX11_chance, 4, (some .int), 0, 4, 104), (yX11_makeByChance, cX11_makeByChance, 10, (some .boolean), 0, 3, 75), (yX11_draw, cX11_draw, 2, (some .int), 0, 0, 0), (yX11_cross, cX11_cross, 5, (some .int), 0, 6, 171), (yX11_account, cX11_account, 2, (some .int), 0, 0, 0), (yX11_would, cX11_would, 5, (some .int), 0, 6, 171)]
def zMT10 : List zMt := [(yX11_round, cX11_round, 6, (some .long), 0, 6, 171), (yX11_proved, cX11_proved, 7, (some .int), 0, 4, 90), (yX11_way, cX11_way, 4, (some .int), 0, 3, 86), (yX11_least, cX11_least, 6, (some .int), 0, 7, 206), (yX11_origins, cX11_origins, 7, (some .int), 0, 6, 171), (yX11_tells, cX11_tells, 8, (some .int), 0, 6, 152), (yX11_idle, cX11_idle, 7, (some .int), 0, 2, 44), (yX11_carryRecord, cX11_carryRecord, 4, none, 0, 5, 148), (yX11_undo, cX11_undo, 1, (some .boolean), 0, 2, 60), (yX11_seed, cX11_seed, 2, (some .boolean), 0, 0, 0), (yX11_status, cX11_status, 2, (some .int), 0, 0, 0), (yX12_init, cX12_init, 1, none, 13, 1, 40), (yX12_isIn, cX12_isIn, 6, (some .boolean), 13, 0, 0), (yX12_lessOf, cX12_lessOf, 2, (some .int), 13, 0, 0), (yX12_flag, cX12_flag, 1, (some .int), 13, 0, 0), (yX12_refuses, cX12_refuses, 2, (some .int), 13, 0, 0)]
def zMT11 : List zMt := [(yX12_isRefused, cX12_isRefused, 2, (some .boolean), 13, 0, 0), (yX12_feed, cX12_feed, 8, (some .int), 13, 1, 21), (yX12_end, cX12_end, 2, (some .boolean), 13, 1, 21), (yX12_status, cX12_status, 2, (some .int), 13, 1, 25), (yX12_fault, cX12_fault, 2, (some .int), 13, 0, 0), (yX12_fail, cX12_fail, 3, none, 13, 0, 0), (yX12_isLetter, cX12_isLetter, 1, (some .boolean), 13, 0, 0), (yX12_isDigit, cX12_isDigit, 1, (some .boolean), 13, 0, 0), (yX12_look, cX12_look, 1, (some .int), 13, 0, 0), (yX12_isWordHere, cX12_isWordHere, 1, (some .boolean), 13, 1, 20), (yX12_takesSign, cX12_takesSign, 2, (some .boolean), 13, 1, 20), (yX12_asksSign, cX12_asksSign, 2, none, 13, 2, 41), (yX12_number, cX12_number, 5, (some .int), 13, 1, 25), (yX12_ownHere, cX12_ownHere, 5, (some .int), 13, 2, 40), (yX12_isLike, cX12_isLike, 4, (some .boolean), 13, 0, 0), (yX12_passes, cX12_passes, 1, none, 13, 1, 20)]
def zMT12 : List zMt := [(yX12_takes, cX12_takes, 2, (some .boolean), 13, 3, 64), (yX12_asks, cX12_asks, 2, none, 13, 4, 85), (yX12_name, cX12_name, 2, (some .int), 13, 3, 64), (yX12_schemeAt, cX12_schemeAt, 2, (some .int), 13, 0, 0), (yX12_fieldAt, cX12_fieldAt, 3, (some .int), 13, 1, 21), (yX12_crossingAt, cX12_crossingAt, 2, (some .int), 13, 0, 0), (yX12_ruleAt, cX12_ruleAt, 3, (some .int), 13, 1, 21), (yX12_schemeNamed, cX12_schemeNamed, 4, (some .int), 13, 1, 21), (yX12_fieldNamed, cX12_fieldNamed, 5, (some .int), 13, 2, 43), (yX12_fieldTold, cX12_fieldTold, 6, none, 13, 4, 85), (yX12_schemeTold, cX12_schemeTold, 5, none, 13, 5, 110), (yX12_schemeHere, cX12_schemeHere, 3, (some .int), 13, 4, 85), (yX12_fieldHere, cX12_fieldHere, 4, (some .int), 13, 4, 85), (yX12_isNumber, cX12_isNumber, 1, (some .boolean), 13, 0, 0), (yX12_kindDrafted, cX12_kindDrafted, 3, (some .int), 13, 2, 43), (yX12_ruleTold, cX12_ruleTold, 8, none, 13, 6, 135)]
def zMT13 : List zMt := [(yX12_rule, cX12_rule, 6, none, 13, 2, 43), (yX12_sourceTold, cX12_sourceTold, 8, none, 13, 5, 108), (yX12_crossTold, cX12_crossTold, 6, none, 13, 7, 162), (yX12_statementTold, cX12_statementTold, 2, none, 13, 8, 187), (yX12_book, cX12_book, 2, (some .int), 13, 9, 208), (yX12_isScheme, cX12_isScheme, 2, (some .boolean), 13, 1, 25), (yX12_fieldMany, cX12_fieldMany, 2, (some .int), 13, 1, 21), (yX12_isField, cX12_isField, 3, (some .boolean), 13, 2, 46), (yX12_kindOf, cX12_kindOf, 3, (some .int), 13, 2, 43), (yX12_cellsOf, cX12_cellsOf, 3, (some .int), 13, 2, 43), (yX12_isCrossing, cX12_isCrossing, 2, (some .boolean), 13, 1, 25), (yX12_fromOf, cX12_fromOf, 2, (some .int), 13, 1, 21), (yX12_toOf, cX12_toOf, 2, (some .int), 13, 1, 21), (yX12_ruleMany, cX12_ruleMany, 2, (some .int), 13, 1, 21), (yX12_ruleHas, cX12_ruleHas, 4, (some .int), 13, 2, 43), (yX12_placeAt, cX12_placeAt, 3, (some .int), 13, 0, 0)]
def zMT14 : List zMt := [(yX12_recordMany, cX12_recordMany, 2, (some .int), 13, 0, 0), (yX12_isRecord, cX12_isRecord, 3, (some .boolean), 13, 2, 46), (yX12_begins, cX12_begins, 3, none, 13, 0, 0), (yX12_word, cX12_word, 7, (some .long), 13, 0, 0), (yX12_float0, cX12_float0, 1, (some .long), 13, 2, 60), (yX12_double0, cX12_double0, 2, (some .long), 13, 2, 61), (yX12_cast, cX12_cast, 3, (some .long), 13, 3, 82), (yX12_toldAs, cX12_toldAs, 3, (some .long), 13, 4, 104), (yX12_doesWiden, cX12_doesWiden, 3, (some .boolean), 13, 0, 0), (yX12_real, cX12_real, 3, (some .double), 13, 1, 40), (yX12_castFrom, cX12_castFrom, 6, (some .long), 13, 4, 104), (yX12_widened, cX12_widened, 5, (some .long), 13, 5, 129), (yX12_spelled, cX12_spelled, 9, (some .long), 13, 0, 0), (yX12_lettersOf, cX12_lettersOf, 5, (some .int), 13, 0, 0), (yX12_read, cX12_read, 7, (some .long), 13, 1, 24), (yX12_wordOf, cX12_wordOf, 2, (some .long), 13, 0, 0)]
def zMT15 : List zMt := [(yX12_narrowed, cX12_narrowed, 5, (some .long), 13, 5, 129), (yX12_carried, cX12_carried, 5, (some .long), 13, 6, 153), (yX12_has, cX12_has, 2, (some .int), 13, 2, 46), (yX12_letter, cX12_letter, 7, (some .int), 13, 3, 68), (yX12_named, cX12_named, 5, (some .int), 13, 3, 67), (yX12_field, cX12_field, 4, (some .int), 13, 3, 68), (yX12_readBits, cX12_readBits, 4, (some .int), 13, 3, 66), (yX12_filledBits, cX12_filledBits, 4, (some .int), 13, 3, 66), (yX12_crossing, cX12_crossing, 3, (some .int), 13, 4, 89), (yX12_madeKind, cX12_madeKind, 5, (some .int), 13, 3, 66), (yX12_targetKind, cX12_targetKind, 3, (some .int), 13, 3, 66), (yX12_rule_, cX12_rule_, 4, (some .int), 13, 4, 90), (yX12_widens, cX12_widens, 3, (some .int), 13, 1, 25), (yX12_rowKind, cX12_rowKind, 3, (some .int), 13, 3, 65), (yX12_longOf, cX12_longOf, 3, (some .int), 13, 3, 65), (yX12_length, cX12_length, 4, (some .int), 13, 4, 87)]
def zMT16 : List zMt := [(yX12_isRefusedBy, cX12_isRefusedBy, 2, (some .boolean), 13, 0, 0), (yX12_reasonOf, cX12_reasonOf, 7, (some .int), 13, 4, 87), (yX12_read_, cX12_read_, 5, (some .long), 13, 6, 153), (yX12_get, cX12_get, 9, (some .long), 13, 4, 87), (yX12_write, cX12_write, 7, (some .boolean), 13, 6, 153), (yX12_reasonPut, cX12_reasonPut, 6, (some .int), 13, 4, 87), (yX12_put, cX12_put, 9, (some .boolean), 13, 6, 153), (yX12_why, cX12_why, 1, (some .int), 13, 0, 0), (yX12_cellAt, cX12_cellAt, 5, (some .long), 13, 3, 65), (yX12_valueAt, cX12_valueAt, 7, (some .long), 13, 4, 89), (yX12_cell, cX12_cell, 5, (some .long), 13, 5, 115), (yX12_unlike, cX12_unlike, 9, (some .long), 13, 5, 115), (yX12_laysRecord, cX12_laysRecord, 5, none, 13, 3, 65), (yX12_copiesRecord, cX12_copiesRecord, 6, none, 13, 4, 89), (yX12_make, cX12_make, 2, (some .int), 13, 5, 111), (yX12_makes, cX12_makes, 3, (some .int), 13, 4, 89)]
def zMT17 : List zMt := [(yX12_copy, cX12_copy, 3, (some .int), 13, 5, 114), (yX12_drop, cX12_drop, 4, (some .boolean), 13, 5, 114), (yX12_seed, cX12_seed, 2, (some .boolean), 13, 1, 21), (yX12_drawOf, cX12_drawOf, 2, (some .int), 13, 0, 0), (yX12_chance, cX12_chance, 8, (some .int), 13, 5, 126), (yX12_takesRecord, cX12_takesRecord, 5, none, 13, 5, 115), (yX12_held, cX12_held, 2, (some .double), 13, 0, 0), (yX12_made, cX12_made, 12, (some .long), 13, 4, 90), (yX12_longRule, cX12_longRule, 5, (some .int), 13, 3, 66), (yX12_tallies, cX12_tallies, 7, none, 13, 7, 177), (yX12_marks, cX12_marks, 5, none, 13, 3, 66), (yX12_missing, cX12_missing, 6, (some .int), 13, 3, 65), (yX12_carries, cX12_carries, 10, none, 13, 8, 203), (yX12_targetIsSource, cX12_targetIsSource, 2, none, 13, 0, 0), (yX12_cross, cX12_cross, 7, (some .int), 13, 9, 232), (yX12_account, cX12_account, 2, (some .int), 13, 1, 25)]
def zMT18 : List zMt := [(yX12_canCross, cX12_canCross, 3, (some .boolean), 13, 3, 68), (yX12_would, cX12_would, 4, (some .int), 13, 9, 232), (yX12_doesLeadBack, cX12_doesLeadBack, 3, (some .boolean), 13, 2, 46), (yX12_unlikeTarget, cX12_unlikeTarget, 8, (some .long), 13, 5, 115), (yX12_round, cX12_round, 4, (some .long), 13, 9, 232), (yX12_isAside, cX12_isAside, 2, (some .boolean), 13, 0, 0), (yX12_isAlone, cX12_isAlone, 5, (some .boolean), 13, 3, 66), (yX12_isProved, cX12_isProved, 7, (some .boolean), 13, 4, 90), (yX12_proved, cX12_proved, 6, (some .int), 13, 5, 116), (yX12_isWay, cX12_isWay, 9, (some .boolean), 13, 2, 42), (yX12_rowsOf, cX12_rowsOf, 4, (some .int), 13, 0, 0), (yX12_way, cX12_way, 6, (some .int), 13, 3, 70), (yX12_losses, cX12_losses, 6, (some .int), 13, 9, 232), (yX12_least, cX12_least, 11, (some .int), 13, 10, 257), (yX12_origins, cX12_origins, 5, (some .int), 13, 9, 232), (yX12_areLike, cX12_areLike, 6, (some .boolean), 13, 5, 115)]
def zMT19 : List zMt := [(yX12_mostAlike, cX12_mostAlike, 7, (some .int), 13, 6, 140), (yX12_tells, cX12_tells, 5, (some .int), 13, 7, 166), (yX12_idle, cX12_idle, 5, (some .int), 13, 4, 89), (yX12_keeps, cX12_keeps, 2, none, 13, 0, 0), (yX12_undo, cX12_undo, 2, (some .boolean), 13, 1, 21), (yJxe99ae_isNaN_b9ae7, cJxe99ae_isNaN_b9ae7, 2, (some .boolean), 14, 0, 0), (yJxe99ae_doubleToLongBits_ccdee, cJxe99ae_doubleToLongBits_ccdee, 2, (some .long), 14, 1, 40), (yJxf58ca_isNaN_12338, cJxf58ca_isNaN_12338, 1, (some .boolean), 15, 0, 0), (yJxf58ca_floatToIntBits_5c35a, cJxf58ca_floatToIntBits_5c35a, 1, (some .int), 15, 1, 40), (yJ6_bitCount_0f7a4, cJ6_bitCount_0f7a4, 1, (some .int), 16, 0, 0), (yJ9_floorMod_7cf53, cJ9_floorMod_7cf53, 3, (some .int), 17, 0, 0), (yJ9_max_7cf53, cJ9_max_7cf53, 2, (some .int), 17, 0, 0), (yJ9_min_7cf53, cJ9_min_7cf53, 2, (some .int), 17, 0, 0), (yJ7_fill_d0a16, cJ7_fill_d0a16, 5, none, 18, 0, 0), (yJ7_fill_53178, cJ7_fill_53178, 4, none, 18, 0, 0), (yL_law, cL_law, 4, some .boolean, 12, 11, 287)]
def zMT : List (List zMt) := [zMT0, zMT1, zMT2, zMT3, zMT4, zMT5, zMT6, zMT7, zMT8, zMT9, zMT10, zMT11, zMT12, zMT13, zMT14, zMT15, zMT16, zMT17, zMT18, zMT19]
def zNT : List zMt := [(⟨"java/lang/System", "arraycopy", "(Ljava/lang/Object;ILjava/lang/Object;II)V"⟩, ⟨#[]⟩, 0, none, 0, 0, 0), (⟨"java/lang/Double", "doubleToRawLongBits", "(D)J"⟩, ⟨#[]⟩, 0, none, 0, 0, 0), (⟨"java/lang/Double", "longBitsToDouble", "(J)D"⟩, ⟨#[]⟩, 0, none, 0, 0, 0), (⟨"java/lang/Float", "floatToRawIntBits", "(F)I"⟩, ⟨#[]⟩, 0, none, 0, 0, 0), (⟨"java/lang/Float", "intBitsToFloat", "(I)F"⟩, ⟨#[]⟩, 0, none, 0, 0, 0), (⟨"java/lang/String", "length", "()I"⟩, ⟨#[]⟩, 0, none, 0, 0, 0), (⟨"java/lang/String", "charAt", "(I)C"⟩, ⟨#[]⟩, 0, none, 0, 0, 0), (⟨"java/lang/Object", "<init>", "()V"⟩, ⟨#[]⟩, 0, none, 0, 0, 0)]
def zMI (n : Nat) : zMt := if 900 ≤ n then (zNT[n - 900]?).getD (yL_law, cL_law, 4, none, 0, 0, 0) else (((zMT[n / 16]?).getD [])[n % 16]?).getD (yL_law, cL_law, 4, none, 0, 0, 0)
def zoC : List Nat := [124, 0, 103, 55, 95, 45, 90, 115, 64, 65, 317, 85, 26, 117, 125, 104, 105, 126, 127, 1, 56, 2, 109, 106, 110, 107, 111, 108, 316, 112, 113, 3, 11, 5, 6, 315, 12, 7, 61, 57, 59, 96, 13, 9, 14, 102, 97, 10, 15, 8, 98, 99, 4, 16, 17, 60, 58, 46, 18, 50, 47, 19, 100, 21, 48, 91, 20, 22, 33, 25, 92, 93, 34, 35, 23, 24, 128, 129, 68, 130, 131, 116, 132, 114, 133, 134, 49, 135, 136, 137, 145, 146, 138, 147, 81, 79, 78, 72, 71, 101, 39, 63, 44, 62, 42, 43, 41, 139, 83, 84, 80, 140, 66, 37, 38, 82, 141, 148, 149, 142, 143, 69, 144, 86, 150, 151, 70, 75, 73, 152, 76, 74, 153, 77, 154, 155, 156, 157, 167, 27, 318, 28, 29, 30, 31, 40, 32, 313, 87, 158, 159, 160, 51, 161, 52, 53, 36, 54, 94, 162, 119, 122, 121, 118, 163, 120, 123, 164, 165, 88, 89, 166, 168, 67, 314, 169, 170, 171, 177, 175, 178, 176, 179, 172, 180, 212, 184, 181, 211, 192, 189, 185, 182, 190, 191, 202, 194, 199, 195, 201, 200, 196, 188, 183, 186, 210, 203, 193, 197, 207, 204, 198, 206, 208, 209, 205, 187, 226, 242, 213, 224, 214, 243, 215, 244, 245, 216, 217, 248, 218, 219, 220, 221, 246, 222, 247, 251, 249, 250, 232, 174, 252, 255, 253, 254, 258, 257, 256, 223, 235, 234, 230, 228, 312, 311, 229, 310, 309, 233, 259, 239, 260, 307, 231, 227, 262, 261, 263, 266, 225, 265, 264, 267, 270, 271, 268, 272, 269, 273, 274, 276, 275, 286, 277, 284, 280, 173, 279, 278, 241, 240, 236, 238, 237, 281, 282, 283, 287, 289, 288, 292, 290, 285, 291, 296, 295, 294, 293, 299, 298, 297, 301, 300, 302, 305, 304, 303, 306, 308]
def zoI : List Nat := [124, 907, 0, 103, 55, 95, 45, 90, 905, 906, 64, 65, 85, 26, 117, 125, 104, 105, 126, 127, 1, 56, 2, 109, 106, 110, 107, 111, 108, 112, 113, 3, 11, 5, 6, 12, 7, 61, 57, 59, 96, 13, 9, 14, 102, 97, 10, 15, 8, 98, 99, 4, 16, 17, 60, 58, 46, 18, 50, 47, 19, 100, 21, 48, 91, 20, 22, 25, 92, 93, 23, 24, 128, 129, 68, 130, 131, 132, 114, 133, 134, 49, 135, 136, 137, 145, 146, 138, 147, 81, 79, 101, 139, 83, 84, 80, 140, 66, 82, 141, 148, 142, 143, 69, 144, 86, 151, 70, 75, 73, 152, 76, 74, 153, 77, 154, 155, 156, 157, 167, 27, 28, 87, 158, 159, 160, 51, 161, 52, 54, 94, 162, 119, 122, 121, 118, 163, 120, 123, 164, 165, 88, 89, 166, 168, 67, 169, 170, 171, 177, 175, 178, 176, 179, 180, 212, 184, 181, 211, 192, 189, 185, 190, 191, 202, 194, 199, 201, 200, 188, 186, 210, 203, 193, 207, 204, 206, 208, 209, 187, 226, 242, 213, 224, 214, 243, 215, 244, 245, 216, 217, 248, 218, 219, 220, 221, 246, 222, 247, 251, 249, 250, 232, 252, 255, 253, 254, 258, 257, 256, 235, 259, 260, 307, 262, 261, 263, 266, 225, 265, 264, 267, 270, 271, 268, 272, 269, 273, 274, 276, 275, 286, 277, 284, 280, 279, 241, 240, 281, 282, 283, 287, 289, 288, 292, 290, 285, 291, 296, 295, 294, 299, 298, 297, 301, 300, 302, 305, 304, 303, 306, 308]
def zoS : List Nat := [2, 3, 11, 5, 6, 12, 7, 13, 9, 14, 10, 15, 8, 4, 16, 17, 18, 19, 21, 20, 22, 25, 23, 24, 130, 145, 146, 147, 79, 148, 73, 74, 155, 156, 167, 28, 54, 122, 121, 123, 89, 175, 176, 184, 181, 211, 192, 189, 185, 190, 191, 202, 194, 199, 201, 200, 188, 186, 210, 203, 193, 207, 204, 206, 208, 209, 187, 226, 213, 224, 214, 215, 216, 217, 218, 219, 220, 221, 246, 222, 247, 249, 250, 232, 253, 254, 257, 256, 235, 307, 261, 225, 265, 264, 271, 268, 269, 275, 277, 284, 280, 279, 241, 240, 281, 282, 283, 288, 290, 285, 291, 295, 294, 298, 297, 300, 304, 303, 905, 906, 65, 85, 125, 104, 105, 126, 127, 1, 56, 109, 106, 110, 107, 111, 108, 112, 113, 61, 57, 59, 96, 102, 97, 98, 99, 60, 58, 46, 50, 47, 100, 48, 91, 92, 93, 128, 129, 68, 131, 132, 114, 133, 134, 49, 135, 136, 137, 138, 81, 101, 139, 83, 84, 80, 140, 66, 82, 141, 142, 143, 69, 144, 86, 151, 70, 75, 152, 76, 153, 77, 154, 157, 27, 87, 158, 159, 160, 51, 161, 52, 94, 162, 119, 118, 163, 120, 164, 165, 88, 166, 168, 67, 169, 170, 177, 178, 179, 180, 212, 242, 243, 244, 245, 248, 251, 252, 255, 258, 259, 260, 262, 263, 266, 267, 270, 272, 273, 274, 276, 286, 287, 289, 292, 296, 299, 301, 302, 305, 306, 308]
def zoT : List Nat := [115, 317, 316, 315, 33, 34, 35, 116, 78, 72, 71, 39, 63, 44, 62, 42, 43, 41, 900, 37, 38, 149, 150, 318, 29, 30, 31, 40, 32, 313, 53, 36, 314, 172, 182, 195, 196, 183, 197, 198, 205, 174, 223, 234, 230, 228, 312, 311, 903, 229, 310, 309, 901, 233, 904, 902, 239, 231, 227, 173, 278, 236, 238, 237, 293]
def zoN : List Nat := [900, 903, 901, 904, 902]
def zLF : List (Nat × Nat × Nat) := [(10, 9, 1794), (10, 13, 1796), (1, 91, 1796), (0, 80, 1796), (9, 11, 1538), (0, 136, 1538), (9, 15, 1542), (2, 73, 1542), (8, 52, 1542), (4, 57, 1542), (0, 149, 1542), (9, 18, 1546), (8, 32, 1546), (4, 66, 1546), (0, 152, 1546), (7, 94, 1546), (9, 21, 1550), (2, 79, 1550), (8, 69, 1550), (7, 98, 1550), (9, 24, 1552), (5, 47, 1552), (0, 126, 1552), (9, 28, 1556), (8, 43, 1556), (0, 121, 1556), (1, 216, 1556), (7, 114, 1556), (9, 31, 1560), (2, 55, 1560), (8, 7, 1280), (2, 66, 1280), (4, 34, 1280), (0, 180, 1280), (8, 13, 1284), (2, 99, 1284), (4, 37, 1284), (0, 185, 1284), (1, 279, 1284), (8, 16, 1288), (2, 105, 1288), (4, 44, 1288), (0, 188, 1288), (1, 274, 1288), (8, 19, 1292), (2, 102, 1292), (0, 191, 1292), (1, 282, 1292), (8, 40, 1296), (2, 86, 1296), (2, 76, 1300), (8, 36, 1300), (2, 50, 1304), (8, 66, 1304), (2, 95, 1311), (8, 62, 1311), (0, 194, 1311), (4, 11, 514), (4, 16, 516), (2, 24, 516), (11, 58, 516), (0, 159, 516), (4, 20, 520), (2, 36, 520), (11, 63, 520), (0, 164, 520), (4, 23, 524), (2, 39, 524), (0, 167, 524), (1, 250, 524), (5, 13, 770), (5, 19, 774), (5, 25, 776), (1, 94, 776), (0, 95, 776), (5, 29, 780), (0, 98, 780), (1, 203, 780), (1, 11, 2), (1, 18, 6), (0, 16, 6), (1, 25, 10), (0, 87, 10), (1, 79, 12), (1, 82, 16), (1, 116, 20), (1, 140, 24), (1, 143, 28), (1, 122, 32), (1, 134, 36), (1, 32, 42), (1, 224, 44), (1, 39, 50), (1, 241, 52), (1, 43, 58), (1, 46, 62), (1, 52, 66), (1, 253, 68), (1, 85, 72), (0, 101, 72), (1, 56, 76), (0, 104, 76), (7, 13, 1026), (7, 19, 1030), (7, 41, 1032), (7, 45, 1036), (0, 111, 1036), (2, 11, 258), (11, 78, 258), (0, 307, 258), (11, 11, 2050), (11, 15, 2054), (11, 20, 2058), (11, 24, 2062), (11, 27, 2064), (0, 332, 2064), (11, 43, 2068), (0, 342, 2068), (0, 20, 2306), (0, 10, 2310), (0, 24, 2314), (0, 31, 2318), (0, 38, 2322), (0, 42, 2326), (0, 46, 2330), (0, 49, 2334), (0, 53, 2338), (0, 56, 2342), (0, 62, 2346), (0, 91, 2351), (0, 206, 2352), (0, 66, 2356), (13, 7, 2562), (13, 69, 2564), (13, 95, 2568), (13, 98, 2572), (13, 108, 2576), (13, 89, 2580), (13, 92, 2584), (13, 86, 2588), (13, 13, 2592), (13, 17, 2598), (13, 20, 2602), (13, 138, 2604), (13, 24, 2610), (13, 27, 2614), (13, 216, 2619), (13, 210, 2620), (13, 30, 2626), (13, 34, 2630), (13, 369, 2632), (13, 37, 2637), (13, 41, 2642), (13, 44, 2646), (13, 47, 2650), (13, 50, 2654), (13, 54, 2658), (13, 240, 2663), (13, 57, 2666), (13, 60, 2670), (13, 63, 2674), (13, 66, 2678), (13, 243, 2680), (13, 506, 2684)]
def zLM : List (Nat × Nat × Nat) := [(12, 9, 124), (0, 1, 907), (0, 9, 0), (1, 3, 907), (10, 1, 907), (1, 24, 55), (5, 3, 907), (9, 3, 907), (5, 24, 45), (4, 1, 907), (8, 1, 907), (1, 38, 45), (1, 62, 905), (1, 68, 906), (1, 72, 115), (0, 23, 64), (7, 7, 907), (7, 22, 65), (7, 25, 317), (7, 35, 85), (2, 3, 907), (11, 3, 907), (0, 61, 55), (12, 13, 125), (0, 70, 104), (0, 76, 105), (12, 18, 126), (12, 23, 127), (0, 83, 1), (1, 76, 56), (1, 88, 2), (1, 108, 109), (10, 17, 106), (1, 112, 110), (10, 21, 107), (1, 119, 111), (10, 25, 108), (1, 125, 316), (1, 131, 112), (1, 137, 113), (10, 28, 115), (1, 97, 3), (1, 146, 11), (1, 104, 5), (1, 158, 6), (1, 194, 315), (1, 149, 12), (1, 206, 7), (1, 209, 61), (5, 32, 57), (1, 212, 59), (5, 36, 96), (1, 152, 13), (1, 219, 9), (1, 155, 14), (1, 227, 102), (1, 230, 97), (1, 161, 10), (1, 200, 106), (1, 164, 15), (1, 234, 8), (1, 197, 107), (1, 237, 98), (9, 34, 99), (1, 101, 4), (1, 167, 16), (1, 170, 17), (1, 244, 57), (1, 246, 60), (5, 40, 58), (5, 44, 46), (1, 173, 18), (1, 256, 50), (4, 26, 47), (1, 176, 19), (1, 259, 100), (1, 262, 21), (1, 266, 48), (1, 270, 91), (1, 179, 20), (1, 182, 22), (1, 276, 33), (1, 185, 25), (1, 285, 92), (8, 22, 93), (8, 26, 99), (8, 46, 316), (8, 55, 34), (8, 58, 35), (1, 188, 23), (1, 191, 24), (0, 88, 65), (12, 28, 128), (12, 33, 129), (0, 107, 68), (0, 114, 130), (0, 117, 57), (12, 37, 131), (0, 129, 116), (0, 133, 99), (12, 42, 132), (0, 139, 114), (10, 32, 110), (10, 35, 113), (0, 143, 61), (0, 146, 102), (12, 46, 133), (12, 50, 134), (0, 155, 58), (0, 170, 49), (4, 30, 93), (0, 173, 50), (12, 55, 135), (0, 176, 47), (12, 59, 136), (0, 199, 35), (12, 63, 137), (0, 203, 145), (0, 209, 146), (12, 67, 138), (0, 213, 147), (0, 219, 81), (7, 108, 79), (7, 101, 78), (7, 88, 99), (7, 67, 72), (7, 71, 71), (7, 105, 101), (9, 38, 100), (0, 223, 39), (3, 34, 34), (3, 38, 63), (3, 42, 44), (3, 14, 62), (3, 50, 42), (3, 26, 43), (3, 45, 41), (12, 72, 139), (0, 227, 83), (0, 230, 84), (0, 234, 80), (12, 78, 140), (0, 240, 66), (7, 48, 900), (7, 54, 316), (0, 243, 37), (3, 22, 38), (0, 247, 82), (12, 83, 141), (0, 251, 148), (0, 271, 149), (0, 254, 85), (12, 87, 142), (12, 91, 143), (0, 260, 69), (7, 63, 68), (12, 95, 144), (0, 263, 86), (7, 117, 81), (0, 267, 150), (12, 100, 151), (0, 274, 70), (0, 277, 75), (7, 74, 73), (12, 104, 152), (0, 280, 76), (7, 78, 75), (7, 81, 74), (12, 108, 153), (0, 283, 77), (7, 85, 69), (12, 113, 154), (0, 287, 155), (0, 290, 156), (12, 117, 157), (0, 299, 167), (0, 320, 27), (2, 15, 318), (2, 21, 317), (2, 30, 57), (2, 42, 47), (2, 46, 28), (2, 69, 99), (2, 82, 29), (2, 108, 30), (2, 112, 31), (2, 116, 100), (2, 119, 40), (2, 123, 32), (2, 127, 62), (2, 89, 39), (2, 60, 313), (0, 303, 87), (0, 310, 900), (12, 121, 158), (12, 125, 159), (12, 129, 160), (0, 316, 51), (12, 133, 161), (0, 324, 52), (4, 40, 53), (4, 51, 99), (4, 61, 36), (3, 9, 35), (4, 47, 54), (4, 69, 94), (12, 137, 162), (0, 328, 119), (11, 31, 122), (11, 52, 58), (11, 35, 121), (11, 46, 900), (0, 335, 118), (12, 141, 163), (0, 338, 120), (11, 39, 123), (11, 66, 316), (11, 72, 27), (12, 146, 164), (12, 150, 165), (0, 345, 88), (7, 120, 89), (7, 124, 315), (12, 154, 166), (12, 158, 168), (0, 349, 67), (7, 60, 314), (12, 163, 169), (12, 167, 170), (12, 12, 171), (13, 1, 907), (12, 17, 177), (13, 72, 175), (12, 22, 178), (13, 76, 176), (12, 170, 179), (13, 82, 172), (12, 32, 180), (12, 27, 212), (13, 101, 184), (13, 114, 181), (13, 213, 211), (13, 135, 192), (13, 129, 189), (13, 121, 185), (13, 105, 182), (13, 125, 190), (13, 132, 191), (13, 201, 202), (13, 154, 194), (13, 164, 199), (13, 141, 195), (13, 168, 201), (13, 157, 200), (13, 148, 196), (13, 161, 188), (13, 118, 183), (13, 111, 186), (13, 204, 210), (13, 195, 203), (13, 178, 193), (13, 145, 197), (13, 198, 207), (13, 172, 204), (13, 175, 198), (13, 181, 206), (13, 184, 208), (13, 188, 209), (13, 192, 205), (13, 207, 187), (13, 220, 226), (12, 36, 242), (13, 223, 213), (13, 229, 224), (13, 226, 214), (12, 41, 243), (13, 330, 215), (12, 45, 244), (12, 49, 245), (13, 333, 216), (13, 336, 217), (12, 54, 248), (13, 345, 218), (13, 348, 219), (13, 351, 220), (13, 339, 221), (13, 354, 246), (13, 342, 222), (13, 357, 247), (12, 58, 251), (13, 360, 249), (13, 363, 250), (13, 319, 232), (13, 271, 174), (12, 62, 252), (12, 66, 255), (13, 366, 253), (13, 372, 254), (12, 71, 258), (13, 375, 257), (13, 379, 256), (13, 384, 223), (13, 322, 235), (13, 298, 234), (13, 282, 230), (13, 264, 228), (13, 252, 312), (15, 59, 311), (15, 74, 903), (13, 268, 229), (13, 258, 310), (14, 122, 309), (14, 134, 901), (13, 294, 233), (13, 286, 904), (13, 290, 902), (12, 75, 259), (13, 308, 239), (12, 82, 260), (13, 387, 307), (13, 390, 231), (13, 278, 227), (12, 86, 262), (13, 393, 261), (12, 90, 263), (12, 94, 266), (13, 401, 225), (13, 404, 265), (13, 397, 264), (12, 99, 267), (12, 103, 270), (13, 407, 271), (13, 410, 268), (12, 107, 272), (13, 413, 269), (12, 112, 273), (12, 166, 274), (12, 116, 276), (13, 426, 275), (12, 120, 286), (13, 461, 277), (13, 464, 284), (13, 443, 280), (13, 437, 173), (13, 446, 279), (13, 433, 278), (13, 440, 241), (13, 325, 240), (13, 313, 236), (13, 316, 238), (13, 302, 237), (13, 450, 281), (13, 454, 282), (13, 457, 283), (12, 124, 287), (12, 128, 289), (13, 467, 288), (12, 132, 292), (13, 470, 290), (13, 473, 285), (13, 476, 291), (12, 136, 296), (13, 487, 295), (13, 480, 294), (13, 484, 293), (12, 140, 299), (13, 491, 298), (13, 494, 297), (12, 145, 301), (13, 497, 300), (12, 149, 302), (12, 153, 305), (13, 503, 304), (13, 500, 303), (12, 157, 306), (12, 162, 308)]
def zLN : List (Nat × Nat × Nat) := [(1, 17, 103), (5, 23, 95), (4, 15, 90), (1, 31, 95), (1, 51, 90), (0, 30, 26), (0, 37, 117)]
def zLC : List (Nat × Nat × Nat) := [(12, 7, 9), (0, 7, 0), (1, 15, 7), (1, 22, 3), (5, 11, 6), (5, 17, 2), (4, 9, 5), (1, 29, 6), (1, 36, 2), (1, 49, 5), (0, 21, 4), (0, 28, 1), (0, 35, 8), (0, 59, 3), (12, 10, 10)]
def zLA : List (Nat × Nat × Nat) := [(5, 11, 17), (5, 17, 15), (4, 9, 16), (7, 17, 18)]
def zLK : List (Nat × Nat × Nat) := [(7, 33, 10), (7, 39, 11), (0, 217, 13), (7, 112, 12), (6, 11, 7), (6, 13, 8), (6, 15, 9), (3, 48, 6), (3, 32, 5), (3, 30, 4), (0, 238, 6), (3, 13, 2), (3, 20, 3), (0, 258, 12), (0, 293, 14), (0, 295, 15), (0, 297, 16), (2, 133, 1), (16, 265, 29), (16, 266, 30), (16, 267, 31), (13, 80, 17), (13, 152, 18), (13, 232, 19), (13, 234, 10), (13, 236, 11), (13, 238, 6), (13, 328, 22), (13, 382, 13), (15, 77, 28), (14, 137, 27), (13, 306, 12), (13, 275, 2), (13, 276, 3), (13, 246, 4), (13, 248, 5), (13, 250, 20), (13, 424, 25), (13, 416, 14), (13, 418, 15), (13, 420, 23), (13, 422, 24), (13, 429, 1), (13, 431, 26), (13, 311, 21), (12, 76, 32)]
/-- the pool's string -/
def zLS : Nat × Nat × Nat := (1, 60, 0)
/-- a place of a class, by its number: declaring class, name, descriptor, final -/
def zFI (x : Nat) : String × String × String × Bool := match vwCl[x / 256]? with
  | some q => q.2.1 (x / 4 % 64)
  | none => ("", "", "", false)
def zCN (t : Nat) : String := if t = 15 then RX3 else if t = 16 then RX7 else if t = 17 then RX8 else if t = 18 then "[[J" else match vwCl[t]? with
  | some q => q.1
  | none => ""
def zwF (q : Nat × Nat × Nat) : Cond := .fieldLink (zOw q.1) q.2.1 (zFI q.2.2).1 (zFI q.2.2).2.1 (zFI q.2.2).2.2.1
def zwM (q : Nat × Nat × Nat) : Cond := .methodLink (zOw q.1) q.2.1 (zMI q.2.2).1
def zwN (q : Nat × Nat × Nat) : Cond := .methodLinkNest (zOw q.1) q.2.1 (zMI q.2.2).1 RX11
def zwC (q : Nat × Nat × Nat) : Cond := .classLink (zOw q.1) q.2.1 (zCN q.2.2)
def zwK (q : Nat × Nat × Nat) : Cond := match (zCT[q.2.2]?).getD .null with
  | .int v => .constant (zOw q.1) q.2.1 v
  | .long v => .constantLong (zOw q.1) q.2.1 v
  | .float v => .constantFloat (zOw q.1) q.2.1 v
  | .double v => .constantDouble (zOw q.1) q.2.1 v
  | _ => .tt
def zwc (n : Nat) : Cond := .code (zMI n).1 (zMI n).2.1 (zMI n).2.2.1 (zMI n).2.2.2.1
theorem zF_all : zsub (zLF.map zwF) lw_tbl = true := by decide +kernel
theorem zM_all : zsub (zLM.map zwM) lw_tbl = true := by decide +kernel
theorem zN_all : zsub (zLN.map zwN) lw_tbl = true := by decide +kernel
theorem zC_all : zsub (zLC.map zwC) lw_tbl = true := by decide +kernel
theorem zA_all : zsub (zLA.map zwC) lw_tbl = true := by decide +kernel
theorem zK_all : zsub (zLK.map zwK) lw_tbl = true := by decide +kernel
theorem zI_all : zsub (zoI.map (fun n => Cond.instanceMethod (zMI n).1)) lw_tbl = true := by decide +kernel
theorem zS_all : zsub (zoS.map (fun n => Cond.selects (zMI n).1.cls (zMI n).1 (zMI n).1)) lw_tbl = true := by decide +kernel
theorem zT_all : zsub (zoT.map (fun n => Cond.static (zMI n).1)) lw_tbl = true := by decide +kernel
theorem zNa_all : zsub (zoN.map (fun n => Cond.native (zMI n).1)) lw_tbl = true := by decide +kernel
set_option maxRecDepth 100000 in
theorem zc_1 : ∀ n ∈ [124, 0, 103, 55, 95, 45, 90], zwc n ∈ tables_1_1 := by
  have e : tables_1_1.filter k2_isCode = [zwc 124, Cond.code ⟨"java/lang/Object", "<init>", "()V"⟩ object_method_1_code 1 (Option.none : Option FieldType), zwc 0, zwc 103, zwc 55, zwc 95, zwc 45, zwc 90, Cond.code ⟨"java/lang/String", "length", "()I"⟩ prog_20_method_54_code 1 (Option.some FieldType.int), Cond.code ⟨"java/lang/String", "coder", "()B"⟩ prog_20_method_152_code 1 (Option.some FieldType.byte), Cond.code ⟨"java/lang/String", "charAt", "(I)C"⟩ prog_20_method_56_code 2 (Option.some FieldType.char), Cond.code ⟨"java/lang/String", "isLatin1", "()Z"⟩ prog_20_method_154_code 1 (Option.some FieldType.boolean), Cond.code ⟨"java/lang/StringLatin1", "charAt", "([BI)C"⟩ prog_21_method_2_code 2 (Option.some FieldType.char), Cond.code ⟨"java/lang/String", "checkIndex", "(II)V"⟩ prog_20_method_155_code 2 (Option.none : Option FieldType)] := rfl
  intro n hn
  have h : zwc n ∈ tables_1_1.filter k2_isCode := by
    rw [e]
    simp only [List.mem_cons, List.not_mem_nil, or_false] at hn
    rcases hn with rfl | rfl | rfl | rfl | rfl | rfl | rfl <;> simp only [List.mem_cons, true_or, or_true]
  exact (List.mem_filter.mp h).1
set_option maxRecDepth 100000 in
theorem zc_2 : ∀ n ∈ [115, 64, 65, 317, 85, 26, 117, 125, 104, 105, 126, 127, 1, 56], zwc n ∈ tables_1_2 := by
  have e : tables_1_2.filter k2_isCode = [Cond.code ⟨"jdk/internal/util/Preconditions", "checkIndex", "(IILjava/util/function/BiFunction;)I"⟩ prog_25_method_11_code 3 (Option.some FieldType.int), Cond.code ⟨"java/lang/StringUTF16", "charAt", "([BI)C"⟩ prog_22_method_83_code 2 (Option.some FieldType.char), Cond.code ⟨"java/lang/StringUTF16", "checkIndex", "(I[B)V"⟩ prog_22_method_91_code 2 (Option.none : Option FieldType), Cond.code ⟨"java/lang/StringUTF16", "length", "([B)I"⟩ prog_22_method_6_code 1 (Option.some FieldType.int), Cond.code ⟨"java/lang/StringUTF16", "getChar", "([BI)C"⟩ prog_22_method_5_code 2 (Option.some FieldType.char), zwc 115, zwc 64, zwc 65, zwc 317, zwc 85, zwc 26, zwc 117, zwc 125, zwc 104, zwc 105, zwc 126, zwc 127, zwc 1, zwc 56] := rfl
  intro n hn
  have h : zwc n ∈ tables_1_2.filter k2_isCode := by
    rw [e]
    simp only [List.mem_cons, List.not_mem_nil, or_false] at hn
    rcases hn with rfl | rfl | rfl | rfl | rfl | rfl | rfl | rfl | rfl | rfl | rfl | rfl | rfl | rfl <;> simp only [List.mem_cons, true_or, or_true]
  exact (List.mem_filter.mp h).1
set_option maxRecDepth 100000 in
theorem zc_3 : ∀ n ∈ [2, 109, 106, 110, 107, 111, 108, 316, 112, 113, 3, 11, 5, 6, 315, 12, 7, 61, 57, 59, 96, 13, 9, 14, 102, 97, 10, 15, 8, 98, 99, 4, 16, 17, 60, 58, 46, 18, 50, 47, 19, 100, 21, 48, 91, 20, 22, 33, 25, 92, 93, 34, 35, 23, 24, 128, 129, 68, 130], zwc n ∈ tables_1_3 := by
  have e : tables_1_3.filter k2_isCode = [zwc 2, zwc 109, zwc 106, zwc 110, zwc 107, zwc 111, zwc 108, zwc 316, zwc 112, zwc 113, zwc 3, zwc 11, zwc 5, zwc 6, zwc 315, zwc 12, zwc 7, zwc 61, zwc 57, zwc 59, zwc 96, zwc 13, zwc 9, zwc 14, zwc 102, zwc 97, zwc 10, zwc 15, zwc 8, zwc 98, zwc 99, zwc 4, zwc 16, zwc 17, zwc 60, zwc 58, zwc 46, zwc 18, zwc 50, zwc 47, zwc 19, zwc 100, zwc 21, zwc 48, zwc 91, zwc 20, zwc 22, zwc 33, zwc 25, zwc 92, zwc 93, zwc 34, zwc 35, zwc 23, zwc 24, zwc 128, zwc 129, zwc 68, zwc 130] := rfl
  intro n hn
  have h : zwc n ∈ tables_1_3.filter k2_isCode := by
    rw [e]
    simp only [List.mem_cons, List.not_mem_nil, or_false] at hn
    rcases hn with rfl | rfl | rfl | rfl | rfl | rfl | rfl | rfl | rfl | rfl | rfl | rfl | rfl | rfl | rfl | rfl | rfl | rfl | rfl | rfl | rfl | rfl | rfl | rfl | rfl | rfl | rfl | rfl | rfl | rfl | rfl | rfl | rfl | rfl | rfl | rfl | rfl | rfl | rfl | rfl | rfl | rfl | rfl | rfl | rfl | rfl | rfl | rfl | rfl | rfl | rfl | rfl | rfl | rfl | rfl | rfl | rfl | rfl | rfl <;> simp only [List.mem_cons, true_or, or_true]
  exact (List.mem_filter.mp h).1
set_option maxRecDepth 100000 in
theorem zc_4 : ∀ n ∈ [131, 116, 132, 114, 133, 134, 49, 135, 136, 137, 145, 146, 138, 147, 81, 79, 78, 72, 71, 101, 39, 63, 44, 62, 42, 43, 41, 139, 83, 84, 80, 140, 66, 37, 38, 82, 141, 148, 149, 142, 143, 69, 144, 86, 150, 151, 70, 75, 73, 152, 76, 74, 153, 77, 154, 155], zwc n ∈ tables_1_4 := by
  have e : tables_1_4.filter k2_isCode = [zwc 131, zwc 116, zwc 132, zwc 114, zwc 133, zwc 134, zwc 49, zwc 135, zwc 136, zwc 137, zwc 145, zwc 146, zwc 138, zwc 147, zwc 81, zwc 79, zwc 78, zwc 72, zwc 71, zwc 101, zwc 39, zwc 63, zwc 44, zwc 62, zwc 42, zwc 43, zwc 41, zwc 139, zwc 83, zwc 84, zwc 80, zwc 140, zwc 66, zwc 37, zwc 38, zwc 82, zwc 141, zwc 148, zwc 149, zwc 142, zwc 143, zwc 69, zwc 144, zwc 86, zwc 150, zwc 151, zwc 70, zwc 75, zwc 73, zwc 152, zwc 76, zwc 74, zwc 153, zwc 77, zwc 154, zwc 155] := rfl
  intro n hn
  have h : zwc n ∈ tables_1_4.filter k2_isCode := by
    rw [e]
    simp only [List.mem_cons, List.not_mem_nil, or_false] at hn
    rcases hn with rfl | rfl | rfl | rfl | rfl | rfl | rfl | rfl | rfl | rfl | rfl | rfl | rfl | rfl | rfl | rfl | rfl | rfl | rfl | rfl | rfl | rfl | rfl | rfl | rfl | rfl | rfl | rfl | rfl | rfl | rfl | rfl | rfl | rfl | rfl | rfl | rfl | rfl | rfl | rfl | rfl | rfl | rfl | rfl | rfl | rfl | rfl | rfl | rfl | rfl | rfl | rfl | rfl | rfl | rfl | rfl <;> simp only [List.mem_cons, true_or, or_true]
  exact (List.mem_filter.mp h).1
set_option maxRecDepth 100000 in
theorem zc_5 : ∀ n ∈ [156, 157, 167, 27, 318, 28, 29, 30, 31, 40, 32, 313, 87, 158, 159, 160, 51, 161, 52, 53, 36, 54, 94, 162, 119, 122, 121, 118, 163, 120, 123, 164, 165, 88, 89, 166, 168, 67, 314, 169, 170, 171], zwc n ∈ tables_1_5 := by
  have e : tables_1_5.filter k2_isCode = [zwc 156, zwc 157, zwc 167, zwc 27, zwc 318, zwc 28, zwc 29, zwc 30, zwc 31, zwc 40, zwc 32, zwc 313, zwc 87, zwc 158, zwc 159, zwc 160, zwc 51, zwc 161, zwc 52, zwc 53, zwc 36, zwc 54, zwc 94, zwc 162, zwc 119, zwc 122, zwc 121, zwc 118, zwc 163, zwc 120, zwc 123, zwc 164, zwc 165, zwc 88, zwc 89, zwc 166, zwc 168, zwc 67, zwc 314, zwc 169, zwc 170, zwc 171] := rfl
  intro n hn
  have h : zwc n ∈ tables_1_5.filter k2_isCode := by
    rw [e]
    simp only [List.mem_cons, List.not_mem_nil, or_false] at hn
    rcases hn with rfl | rfl | rfl | rfl | rfl | rfl | rfl | rfl | rfl | rfl | rfl | rfl | rfl | rfl | rfl | rfl | rfl | rfl | rfl | rfl | rfl | rfl | rfl | rfl | rfl | rfl | rfl | rfl | rfl | rfl | rfl | rfl | rfl | rfl | rfl | rfl | rfl | rfl | rfl | rfl | rfl | rfl <;> simp only [List.mem_cons, true_or, or_true]
  exact (List.mem_filter.mp h).1
set_option maxRecDepth 100000 in
theorem zc_6 : ∀ n ∈ [177, 175, 178, 176, 179, 172, 180, 212, 184, 181, 211, 192, 189, 185, 182, 190, 191, 202, 194, 199, 195, 201, 200, 196, 188, 183, 186, 210, 203, 193, 197, 207, 204, 198, 206, 208, 209, 205, 187, 226, 242, 213, 224, 214, 243, 215, 244, 245, 216, 217], zwc n ∈ tables_1_6 := by
  have e : tables_1_6.filter k2_isCode = [zwc 177, zwc 175, zwc 178, zwc 176, zwc 179, zwc 172, zwc 180, zwc 212, zwc 184, zwc 181, zwc 211, zwc 192, zwc 189, zwc 185, zwc 182, zwc 190, zwc 191, zwc 202, zwc 194, zwc 199, zwc 195, zwc 201, zwc 200, zwc 196, zwc 188, zwc 183, zwc 186, zwc 210, zwc 203, zwc 193, zwc 197, zwc 207, zwc 204, zwc 198, zwc 206, zwc 208, zwc 209, zwc 205, zwc 187, zwc 226, zwc 242, zwc 213, zwc 224, zwc 214, zwc 243, zwc 215, zwc 244, zwc 245, zwc 216, zwc 217] := rfl
  intro n hn
  have h : zwc n ∈ tables_1_6.filter k2_isCode := by
    rw [e]
    simp only [List.mem_cons, List.not_mem_nil, or_false] at hn
    rcases hn with rfl | rfl | rfl | rfl | rfl | rfl | rfl | rfl | rfl | rfl | rfl | rfl | rfl | rfl | rfl | rfl | rfl | rfl | rfl | rfl | rfl | rfl | rfl | rfl | rfl | rfl | rfl | rfl | rfl | rfl | rfl | rfl | rfl | rfl | rfl | rfl | rfl | rfl | rfl | rfl | rfl | rfl | rfl | rfl | rfl | rfl | rfl | rfl | rfl | rfl <;> simp only [List.mem_cons, true_or, or_true]
  exact (List.mem_filter.mp h).1
set_option maxRecDepth 100000 in
theorem zc_7 : ∀ n ∈ [248, 218, 219, 220, 221, 246, 222, 247, 251, 249, 250, 232, 174, 252, 255, 253, 254, 258, 257, 256, 223, 235, 234, 230, 228, 312, 311, 229, 310, 309, 233, 259, 239, 260, 307, 231, 227, 262, 261, 263, 266, 225, 265, 264, 267, 270, 271, 268, 272, 269, 273, 274, 276, 275, 286, 277, 284], zwc n ∈ tables_1_7 := by
  have e : tables_1_7.filter k2_isCode = [zwc 248, zwc 218, zwc 219, zwc 220, zwc 221, zwc 246, zwc 222, zwc 247, zwc 251, zwc 249, zwc 250, zwc 232, zwc 174, zwc 252, zwc 255, zwc 253, zwc 254, zwc 258, zwc 257, zwc 256, zwc 223, zwc 235, zwc 234, zwc 230, zwc 228, zwc 312, zwc 311, zwc 229, zwc 310, zwc 309, zwc 233, zwc 259, zwc 239, zwc 260, zwc 307, zwc 231, zwc 227, zwc 262, zwc 261, zwc 263, zwc 266, zwc 225, zwc 265, zwc 264, zwc 267, zwc 270, zwc 271, zwc 268, zwc 272, zwc 269, zwc 273, zwc 274, zwc 276, zwc 275, zwc 286, zwc 277, zwc 284] := rfl
  intro n hn
  have h : zwc n ∈ tables_1_7.filter k2_isCode := by
    rw [e]
    simp only [List.mem_cons, List.not_mem_nil, or_false] at hn
    rcases hn with rfl | rfl | rfl | rfl | rfl | rfl | rfl | rfl | rfl | rfl | rfl | rfl | rfl | rfl | rfl | rfl | rfl | rfl | rfl | rfl | rfl | rfl | rfl | rfl | rfl | rfl | rfl | rfl | rfl | rfl | rfl | rfl | rfl | rfl | rfl | rfl | rfl | rfl | rfl | rfl | rfl | rfl | rfl | rfl | rfl | rfl | rfl | rfl | rfl | rfl | rfl | rfl | rfl | rfl | rfl | rfl | rfl <;> simp only [List.mem_cons, true_or, or_true]
  exact (List.mem_filter.mp h).1
set_option maxRecDepth 100000 in
theorem zc_8 : ∀ n ∈ [280, 173, 279, 278, 241, 240, 236, 238, 237, 281, 282, 283, 287, 289, 288, 292, 290, 285, 291, 296, 295, 294, 293, 299, 298, 297, 301, 300, 302, 305, 304, 303, 306, 308], zwc n ∈ tables_1_8 := by
  have e : tables_1_8.filter k2_isCode = [zwc 280, zwc 173, zwc 279, zwc 278, zwc 241, zwc 240, zwc 236, zwc 238, zwc 237, zwc 281, zwc 282, zwc 283, zwc 287, zwc 289, zwc 288, zwc 292, zwc 290, zwc 285, zwc 291, zwc 296, zwc 295, zwc 294, zwc 293, zwc 299, zwc 298, zwc 297, zwc 301, zwc 300, zwc 302, zwc 305, zwc 304, zwc 303, zwc 306, zwc 308] := rfl
  intro n hn
  have h : zwc n ∈ tables_1_8.filter k2_isCode := by
    rw [e]
    simp only [List.mem_cons, List.not_mem_nil, or_false] at hn
    rcases hn with rfl | rfl | rfl | rfl | rfl | rfl | rfl | rfl | rfl | rfl | rfl | rfl | rfl | rfl | rfl | rfl | rfl | rfl | rfl | rfl | rfl | rfl | rfl | rfl | rfl | rfl | rfl | rfl | rfl | rfl | rfl | rfl | rfl | rfl <;> simp only [List.mem_cons, true_or, or_true]
  exact (List.mem_filter.mp h).1
def zoIn : List String := [RL, RX11, RX0, RX9, RX4, RX8, RX3, RX7, RJ0, RJ1, RJ3, RJ2, RX6, RJ7, RX1, RX10, RX12, RJ9, RX2, RX5, RJxd2413, RJxf58ca, RJxe99ae, RJ10, RJ6]
theorem zIn_all : zsub (zoIn.map Cond.initialized) lw_tbl = true := by decide +kernel
def zoIs : List (String × Nat) := [(RX11, 14), (RX0, 20), (RX9, 2), (RX4, 4), (RX8, 7), (RX3, 4), (RX7, 8), (RX6, 4), (RX1, 1), (RX10, 6), (RX12, 32)]
theorem zIs_all : zsub (zoIs.map (fun q => Cond.instantiable q.1 q.2)) lw_tbl = true := by decide +kernel
theorem zAr_all : zsub [.arrayClass .int, .arrayClass .byte, .arrayClass .long, .arrayClass .char, .arrayClass .boolean] lw_tbl = true := by decide +kernel
theorem zAo_all : zsub [.arrayOver (FieldType.object "RecordBridge$Shape"), .arrayOver (FieldType.object "RecordBridge$Passage"), .arrayOver (FieldType.object "RecordBridge$Rule"), .arrayOver (FieldType.array FieldType.long)] lw_tbl = true := by decide +kernel
theorem zU_0 : zsub (u_ws RX0 TX0 20) lw_tbl = true := by decide +kernel
theorem zU_1 : zsub (u_ws RX1 TX1 1) lw_tbl = true := by decide +kernel
theorem zU_2 : zsub (u_ws RX3 TX3 4) lw_tbl = true := by decide +kernel
theorem zU_3 : zsub (u_ws RX4 TX4 4) lw_tbl = true := by decide +kernel
theorem zU_4 : zsub (u_ws RX6 TX6 4) lw_tbl = true := by decide +kernel
theorem zU_5 : zsub (u_ws RX7 TX7 8) lw_tbl = true := by decide +kernel
theorem zU_6 : zsub (u_ws RX8 TX8 7) lw_tbl = true := by decide +kernel
theorem zU_7 : zsub (u_ws RX9 TX9 2) lw_tbl = true := by decide +kernel
theorem zU_8 : zsub (u_ws RX10 TX10 6) lw_tbl = true := by decide +kernel
theorem zU_9 : zsub (u_ws RX11 TX11 14) lw_tbl = true := by decide +kernel
theorem zU_10 : zsub (u_ws RX12 TX12 32) lw_tbl = true := by decide +kernel
end
section
/-! STEP BY STEP: what the small machine does, the claim's machine does. -/
theorem zii_inv {st st' : List Value} {f : Int32 → Int32 → Value} (h : zii st f = some st') : ∃ x y r, st = .int y :: .int x :: r ∧ st' = f x y :: r := by
  unfold zii at h
  split at h
  · cases h; exact ⟨_, _, _, rfl, rfl⟩
  · cases h
theorem zi1_inv {st st' : List Value} {f : Int32 → Value} (h : zi1 st f = some st') : ∃ x r, st = .int x :: r ∧ st' = f x :: r := by
  unfold zi1 at h
  split at h
  · cases h; exact ⟨_, _, rfl, rfl⟩
  · cases h
theorem zll_inv {st st' : List Value} {f : Int64 → Int64 → Value} (h : zll st f = some st') : ∃ x y r, st = .long y :: .long x :: r ∧ st' = f x y :: r := by
  unfold zll at h
  split at h
  · cases h; exact ⟨_, _, _, rfl, rfl⟩
  · cases h
theorem zl1_inv {st st' : List Value} {f : Int64 → Value} (h : zl1 st f = some st') : ∃ x r, st = .long x :: r ∧ st' = f x :: r := by
  unfold zl1 at h
  split at h
  · cases h; exact ⟨_, _, rfl, rfl⟩
  · cases h
theorem zli_inv {st st' : List Value} {f : Int64 → Int32 → Value} (h : zli st f = some st') : ∃ x y r, st = .int y :: .long x :: r ∧ st' = f x y :: r := by
  unfold zli at h
  split at h
  · cases h; exact ⟨_, _, _, rfl, rfl⟩
  · cases h
theorem zdd_inv {st st' : List Value} {f : UInt64 → UInt64 → Option Value} (h : zdd st f = some st') : ∃ x y r v, st = .double y :: .double x :: r ∧ f x y = some v ∧ st' = v :: r := by
  unfold zdd at h
  split at h
  · rename_i y x r
    cases hf : f x y with
    | none => rw [hf] at h; cases h
    | some v => rw [hf] at h; cases h; exact ⟨_, _, _, _, rfl, hf, rfl⟩
  · cases h
theorem zd1_inv {st st' : List Value} {f : UInt64 → Option Value} (h : zd1 st f = some st') : ∃ x r v, st = .double x :: r ∧ f x = some v ∧ st' = v :: r := by
  unfold zd1 at h
  split at h
  · rename_i x r
    cases hf : f x with
    | none => rw [hf] at h; cases h
    | some v => rw [hf] at h; cases h; exact ⟨_, _, _, rfl, hf, rfl⟩
  · cases h
theorem zD_inv {x : UInt64} {v : Value} (h : zD x = some v) : v = .double x ∧ vf_n64 x := by
  unfold zD at h
  split at h
  · rename_i q; cases h; exact ⟨rfl, q⟩
  · cases h
theorem zF_inv {x : UInt32} {v : Value} (h : zF x = some v) : v = .float x ∧ vf_n32 x := by
  unfold zF at h
  split at h
  · rename_i q; cases h; exact ⟨rfl, q⟩
  · cases h
theorem zjp_ok {pc : Nat} {off : Int} (h : 0 ≤ (pc : Int) + off) : (pc : Int) + off = ((zjp pc off : Nat) : Int) := (Int.toNat_of_nonneg h).symm
/-- how long an instruction is (a switch: as it stands) -/
def zlen : Instr → Nat
  | .bipush _ => 2
  | .sipush _ => 3
  | .iload _ => 2
  | .lload _ => 2
  | .dload _ => 2
  | .aload _ => 2
  | .istore _ => 2
  | .lstore _ => 2
  | .dstore _ => 2
  | .astore _ => 2
  | .iinc _ _ => 3
  | .ldc _ => 2
  | .ldc_w _ => 3
  | .ldc2_w _ => 3
  | .goto _ => 3
  | .ifCond _ _ => 3
  | .if_icmp _ _ => 3
  | .ifnull _ => 3
  | .ifnonnull _ => 3
  | .getfield _ => 3
  | .putfield _ => 3
  | .invokevirtual _ => 3
  | .invokestatic _ => 3
  | .invokespecial _ => 3
  | .new _ => 3
  | .newarray _ => 2
  | .anewarray _ => 3
  | .multianewarray _ _ => 4
  | _ => 1
def zlenOK (i : Instr) (len : Nat) : Bool := match i with
  | .tableswitch _ _ _ _ => true
  | j => zlen j == len
/-- where an instruction may jump to -/
def zoffs : Instr → List Int
  | .goto o => [o]
  | .ifCond _ o => [o]
  | .if_icmp _ o => [o]
  | .ifnull o => [o]
  | .ifnonnull o => [o]
  | .tableswitch d _ _ os => d :: os.toList
  | _ => []
/-- how many words of locals a store wants -/
def zlocs : Instr → Nat
  | .istore k => k + 1
  | .istore_n k => (k : Nat) + 1
  | .astore k => k + 1
  | .astore_n k => (k : Nat) + 1
  | .iinc k _ => k + 1
  | .lstore k => k + 2
  | .lstore_n k => (k : Nat) + 2
  | .dstore k => k + 2
  | .dstore_n k => (k : Nat) + 2
  | _ => 0
section ZS
variable {p : Program} {l : Launch} {e : Env} {R : Room} {s : State} {m : MethodId} {args : Array Value} {below : List Frame} {meth : Method} {c : Code} {H : Heap} {locs : List Loc} {cells slots : Nat} {Q : State → Prop}
variable {cc : ByteArray} {pc : Nat} {lsA : Array Slot}

set_option maxHeartbeats 4000000 in
theorem zpst_ok (hx : p.tables.exec = Jvm.exec) (hb : c.code = cc) (ad : Nat → Nat) {i : Instr} {len : Nat} {st st' : List Value} (hd : decode cc pc = .ok (i, len)) (hl : zlenOK i len = true) (h : zpst i st = some st') (k : W p l e R s m args below meth c H locs cells slots Q (F0 m (pc + len) lsA (st'.map (zv ad)))) : W p l e R s m args below meth c H locs cells slots Q (F0 m pc lsA (st.map (zv ad))) := by
  unfold zpst at h
  split at h
  · have hl : 1 = len := eq_of_beq hl
    subst hl
    cases h
    exact lv_null hx hb hd k
  · have hl : 1 = len := eq_of_beq hl
    subst hl
    cases h
    exact lv_iconst hx hb hd rfl k
  · have hl : 2 = len := eq_of_beq hl
    subst hl
    cases h
    exact lv_bipush hx hb hd rfl k
  · have hl : 3 = len := eq_of_beq hl
    subst hl
    cases h
    exact lv_sipush hx hb hd rfl k
  · have hl : 1 = len := eq_of_beq hl
    subst hl
    cases h
    exact lv_lconst hx hb hd rfl k
  · have hl : 1 = len := eq_of_beq hl
    subst hl
    cases h
    exact lv_dconst0 hx hb hd k
  · have hl : 1 = len := eq_of_beq hl
    subst hl
    cases h
    exact lv_dconst1 hx hb hd k
  · have hl : 1 = len := eq_of_beq hl
    subst hl
    obtain ⟨x, y, r, rfl, rfl⟩ := zii_inv h
    exact lv_iadd hx hb hd k
  · have hl : 1 = len := eq_of_beq hl
    subst hl
    obtain ⟨x, y, r, rfl, rfl⟩ := zii_inv h
    exact lv_isub hx hb hd k
  · have hl : 1 = len := eq_of_beq hl
    subst hl
    obtain ⟨x, y, r, rfl, rfl⟩ := zii_inv h
    exact lv_imul hx hb hd k
  · have hl : 1 = len := eq_of_beq hl
    subst hl
    obtain ⟨x, y, r, rfl, rfl⟩ := zii_inv h
    exact lv_iand hx hb hd k
  · have hl : 1 = len := eq_of_beq hl
    subst hl
    obtain ⟨x, y, r, rfl, rfl⟩ := zii_inv h
    exact lv_ior hx hb hd k
  · have hl : 1 = len := eq_of_beq hl
    subst hl
    obtain ⟨x, y, r, rfl, rfl⟩ := zii_inv h
    exact lv_ixor hx hb hd k
  · have hl : 1 = len := eq_of_beq hl
    subst hl
    obtain ⟨x, y, r, rfl, rfl⟩ := zii_inv h
    exact lv_ishl hx hb hd k
  · have hl : 1 = len := eq_of_beq hl
    subst hl
    obtain ⟨x, y, r, rfl, rfl⟩ := zii_inv h
    exact lv_ishr hx hb hd k
  · have hl : 1 = len := eq_of_beq hl
    subst hl
    obtain ⟨x, y, r, rfl, rfl⟩ := zii_inv h
    exact lv_iushr hx hb hd rfl k
  · have hl : 1 = len := eq_of_beq hl
    subst hl
    split at h
    · split at h
      · cases h
      · rename_i hne
        cases h
        exact lv_idiv hx hb hd hne k
    · cases h
  · have hl : 1 = len := eq_of_beq hl
    subst hl
    split at h
    · split at h
      · cases h
      · rename_i hne
        cases h
        exact lv_irem hx hb hd hne k
    · cases h
  · have hl : 1 = len := eq_of_beq hl
    subst hl
    obtain ⟨x, r, rfl, rfl⟩ := zi1_inv h
    exact lv_ineg hx hb hd k
  · have hl : 1 = len := eq_of_beq hl
    subst hl
    obtain ⟨x, r, rfl, rfl⟩ := zi1_inv h
    exact lv_i2l hx hb hd rfl k
  · have hl : 1 = len := eq_of_beq hl
    subst hl
    obtain ⟨x, r, rfl, rfl⟩ := zi1_inv h
    exact lv_i2b hx hb hd rfl k
  · have hl : 1 = len := eq_of_beq hl
    subst hl
    obtain ⟨x, r, rfl, rfl⟩ := zi1_inv h
    exact lv_i2s hx hb hd rfl k
  · have hl : 1 = len := eq_of_beq hl
    subst hl
    obtain ⟨x, r, rfl, rfl⟩ := zi1_inv h
    exact lv_i2c hx hb hd rfl k
  · have hl : 1 = len := eq_of_beq hl
    subst hl
    obtain ⟨x, r, rfl, rfl⟩ := zi1_inv h
    exact lv_i2d hx hb hd k
  · have hl : 1 = len := eq_of_beq hl
    subst hl
    obtain ⟨x, y, r, rfl, rfl⟩ := zll_inv h
    exact lv_ladd hx hb hd k
  · have hl : 1 = len := eq_of_beq hl
    subst hl
    obtain ⟨x, y, r, rfl, rfl⟩ := zll_inv h
    exact lv_lsub hx hb hd k
  · have hl : 1 = len := eq_of_beq hl
    subst hl
    obtain ⟨x, y, r, rfl, rfl⟩ := zll_inv h
    exact lv_lmul hx hb hd k
  · have hl : 1 = len := eq_of_beq hl
    subst hl
    obtain ⟨x, y, r, rfl, rfl⟩ := zll_inv h
    exact lv_land hx hb hd k
  · have hl : 1 = len := eq_of_beq hl
    subst hl
    obtain ⟨x, y, r, rfl, rfl⟩ := zll_inv h
    exact lv_lor hx hb hd k
  · have hl : 1 = len := eq_of_beq hl
    subst hl
    obtain ⟨x, y, r, rfl, rfl⟩ := zll_inv h
    exact W.lcmp hx hb hd k
  · have hl : 1 = len := eq_of_beq hl
    subst hl
    split at h
    · split at h
      · cases h
      · rename_i hne
        cases h
        exact lv_ldiv hx hb hd hne k
    · cases h
  · have hl : 1 = len := eq_of_beq hl
    subst hl
    split at h
    · split at h
      · cases h
      · rename_i hne
        cases h
        exact lv_lrem hx hb hd hne k
    · cases h
  · have hl : 1 = len := eq_of_beq hl
    subst hl
    obtain ⟨x, r, rfl, rfl⟩ := zl1_inv h
    exact lv_lneg hx hb hd k
  · have hl : 1 = len := eq_of_beq hl
    subst hl
    obtain ⟨x, r, rfl, rfl⟩ := zl1_inv h
    exact lv_l2i hx hb hd rfl k
  · have hl : 1 = len := eq_of_beq hl
    subst hl
    obtain ⟨x, r, rfl, rfl⟩ := zl1_inv h
    exact lv_l2f hx hb hd k
  · have hl : 1 = len := eq_of_beq hl
    subst hl
    obtain ⟨x, r, rfl, rfl⟩ := zl1_inv h
    exact lv_l2d hx hb hd k
  · have hl : 1 = len := eq_of_beq hl
    subst hl
    obtain ⟨x, y, r, rfl, rfl⟩ := zli_inv h
    exact lv_lshl hx hb hd rfl k
  · have hl : 1 = len := eq_of_beq hl
    subst hl
    obtain ⟨x, y, r, rfl, rfl⟩ := zli_inv h
    exact lv_lshr hx hb hd rfl k
  · have hl : 1 = len := eq_of_beq hl
    subst hl
    obtain ⟨x, y, r, rfl, rfl⟩ := zli_inv h
    exact lv_lushr hx hb hd rfl k
  · have hl : 1 = len := eq_of_beq hl
    subst hl
    obtain ⟨x, y, r, v, rfl, hf, rfl⟩ := zdd_inv h
    obtain ⟨rfl, hne⟩ := zD_inv hf
    exact lv_dadd hx hb hd hne k
  · have hl : 1 = len := eq_of_beq hl
    subst hl
    obtain ⟨x, y, r, v, rfl, hf, rfl⟩ := zdd_inv h
    obtain ⟨rfl, hne⟩ := zD_inv hf
    exact lv_dmul hx hb hd hne k
  · have hl : 1 = len := eq_of_beq hl
    subst hl
    obtain ⟨x, y, r, v, rfl, hf, rfl⟩ := zdd_inv h
    obtain ⟨rfl, hne⟩ := zD_inv hf
    exact lv_ddiv hx hb hd hne k
  · have hl : 1 = len := eq_of_beq hl
    subst hl
    obtain ⟨x, y, r, v, rfl, hf, rfl⟩ := zdd_inv h
    cases hf
    exact lv_dcmp hx hb hd k
  · have hl : 1 = len := eq_of_beq hl
    subst hl
    obtain ⟨x, r, v, rfl, hf, rfl⟩ := zd1_inv h
    cases hf
    exact lv_dneg hx hb hd k
  · have hl : 1 = len := eq_of_beq hl
    subst hl
    obtain ⟨x, r, v, rfl, hf, rfl⟩ := zd1_inv h
    cases hf
    exact lv_d2i hx hb hd k
  · have hl : 1 = len := eq_of_beq hl
    subst hl
    obtain ⟨x, r, v, rfl, hf, rfl⟩ := zd1_inv h
    cases hf
    exact lv_d2l hx hb hd k
  · have hl : 1 = len := eq_of_beq hl
    subst hl
    obtain ⟨x, r, v, rfl, hf, rfl⟩ := zd1_inv h
    obtain ⟨rfl, hne⟩ := zF_inv hf
    exact lv_d2f hx hb hd hne k
  · have hl : 1 = len := eq_of_beq hl
    subst hl
    split at h
    · rename_i x r
      cases hf : zD (FP.f2d x) with
      | none => rw [hf] at h; cases h
      | some v =>
        rw [hf] at h; cases h
        obtain ⟨rfl, hne⟩ := zD_inv hf
        exact lv_f2d hx hb hd hne k
    · cases h
  · have hl : 1 = len := eq_of_beq hl
    subst hl
    split at h
    · rename_i y x r
      cases hf : zF (FP.fdiv x y) with
      | none => rw [hf] at h; cases h
      | some v =>
        rw [hf] at h; cases h
        obtain ⟨rfl, hne⟩ := zF_inv hf
        exact lv_fdiv hx hb hd hne k
    · cases h
  · have hl : 1 = len := eq_of_beq hl
    subst hl
    split at h
    · cases h
      exact lv_fcmp hx hb hd k
    · cases h
  · have hl : 1 = len := eq_of_beq hl
    subst hl
    split at h
    · cases h; exact lv_dup hx hb hd rfl k
    · cases h; exact lv_dup hx hb hd rfl k
    · cases h; exact lv_dup hx hb hd rfl k
    · cases h
  · have hl : 1 = len := eq_of_beq hl
    subst hl
    split at h
    · cases h; exact lv_dup2_2 hx hb hd rfl k
    · cases h; exact lv_dup2_11 hx hb hd rfl rfl k
    · cases h
  · have hl : 1 = len := eq_of_beq hl
    subst hl
    split at h
    · cases h; exact lv_pop hx hb hd rfl k
    · cases h; exact lv_pop hx hb hd rfl k
    · cases h; exact lv_pop hx hb hd rfl k
    · cases h
  · cases h
set_option maxHeartbeats 4000000 in
theorem zbr_ok (hx : p.tables.exec = Jvm.exec) (hb : c.code = cc) (ad : Nat → Nat) {i : Instr} {len : Nat} {st r : List Value} {b : Bool} {off : Int} (hd : decode cc pc = .ok (i, len)) (hl : zlenOK i len = true) (ho : ∀ o ∈ zoffs i, 0 ≤ (pc : Int) + o) (h : zbr i st = some (b, off, r)) (k : W p l e R s m args below meth c H locs cells slots Q (F0 m (if b then zjp pc off else pc + len) lsA (r.map (zv ad)))) : W p l e R s m args below meth c H locs cells slots Q (F0 m pc lsA (st.map (zv ad))) := by
  unfold zbr at h
  split at h
  · have hl : 3 = len := eq_of_beq hl
    subst hl
    cases h
    exact lv_goto hx hb hd (zjp_ok (ho _ List.mem_cons_self)) k
  · have hl : 3 = len := eq_of_beq hl
    subst hl
    rename_i c0 o0
    split at h
    · cases c0
      · cases h
        exact lv_if_eq hx hb hd (zjp_ok (ho _ List.mem_cons_self)) (fun q => by simpa [q] using k) (fun q => by simpa [q] using k)
      · cases h
        exact lv_if_ne hx hb hd (zjp_ok (ho _ List.mem_cons_self)) (fun q => by simpa [q] using k) (fun q => by simpa [q] using k)
      · cases h
        exact lv_if_lt hx hb hd (zjp_ok (ho _ List.mem_cons_self)) (fun q => by simpa [q] using k) (fun q => by simpa [q] using k)
      · cases h
        exact lv_if_ge hx hb hd (zjp_ok (ho _ List.mem_cons_self)) (fun q => by simpa [q] using k) (fun q => by simpa [q] using k)
      · cases h
        exact lv_if_gt hx hb hd (zjp_ok (ho _ List.mem_cons_self)) (fun q => by simpa [q] using k) (fun q => by simpa [q] using k)
      · cases h
        exact lv_if_le hx hb hd (zjp_ok (ho _ List.mem_cons_self)) (fun q => by simpa [q] using k) (fun q => by simpa [q] using k)
    · cases h
  · have hl : 3 = len := eq_of_beq hl
    subst hl
    rename_i c0 o0
    split at h
    · cases c0
      · cases h
        exact lv_icmp_eq hx hb hd (zjp_ok (ho _ List.mem_cons_self)) (fun q => by simpa [q] using k) (fun q => by simpa [q] using k)
      · cases h
        exact lv_icmp_ne hx hb hd (zjp_ok (ho _ List.mem_cons_self)) (fun q => by simpa [q] using k) (fun q => by simpa [q] using k)
      · cases h
        exact lv_icmp_lt hx hb hd (zjp_ok (ho _ List.mem_cons_self)) (fun q => by simpa [q] using k) (fun q => by simpa [q] using k)
      · cases h
        exact lv_icmp_ge hx hb hd (zjp_ok (ho _ List.mem_cons_self)) (fun q => by simpa [q] using k) (fun q => by simpa [q] using k)
      · cases h
        exact lv_icmp_gt hx hb hd (zjp_ok (ho _ List.mem_cons_self)) (fun q => by simpa [q] using k) (fun q => by simpa [q] using k)
      · cases h
        exact lv_icmp_le hx hb hd (zjp_ok (ho _ List.mem_cons_self)) (fun q => by simpa [q] using k) (fun q => by simpa [q] using k)
    · cases h
  · have hl : 3 = len := eq_of_beq hl
    subst hl
    split at h
    · cases h; exact lv_ifnullN hx hb hd (zjp_ok (ho _ List.mem_cons_self)) k
    · cases h; exact lv_ifnull hx hb hd k
    · cases h
  · have hl : 3 = len := eq_of_beq hl
    subst hl
    split at h
    · cases h; exact lv_ifnonnullN hx hb hd k
    · cases h; exact lv_ifnonnull hx hb hd (zjp_ok (ho _ List.mem_cons_self)) k
    · cases h
  · split at h
    · split at h
      · rename_i q
        cases h
        exact lv_tableOut hx hb hd q (zjp_ok (ho _ List.mem_cons_self)) k
      · rename_i dd lo hi offs st0 x r0 q
        cases hf : offs[(x.toInt - lo).toNat]? with
        | none => rw [hf] at h; cases h
        | some o =>
          rw [hf] at h; cases h
          have hm : off ∈ offs.toList := by
            rw [← Array.getElem?_toList] at hf
            exact List.mem_of_getElem? hf
          exact lv_tableIn hx hb hd (fun z => q (Or.inl z)) (fun z => q (Or.inr z)) hf (zjp_ok (ho _ (List.mem_cons_of_mem _ hm))) k
    · cases h
  · cases h
set_option maxHeartbeats 4000000 in
theorem zloc_ok (hx : p.tables.exec = Jvm.exec) (hb : c.code = cc) (ad : Nat → Nat) {i : Instr} {len nL : Nat} {ls ls' : zLv} {st st' : List Value} (hd : decode cc pc = .ok (i, len)) (hl : zlenOK i len = true) (hn : zlocs i ≤ nL) (hA : lv_has lsA nL (ls.map (zq ad))) (h : zloc i ls st = some (ls', st')) (k : ∀ lsA' : Array Slot, lv_has lsA' nL (ls'.map (zq ad)) → W p l e R s m args below meth c H locs cells slots Q (F0 m (pc + len) lsA' (st'.map (zv ad)))) : W p l e R s m args below meth c H locs cells slots Q (F0 m pc lsA (st.map (zv ad))) := by
  unfold zloc at h
  split at h
  · have hl : 2 = len := eq_of_beq hl
    subst hl
    split at h
    · rename_i q
      cases h
      exact lv_iload hx hb hd (zld_at hA q) (k _ hA)
    · cases h
  · have hl : 1 = len := eq_of_beq hl
    subst hl
    split at h
    · rename_i q
      cases h
      exact lv_iload_n hx hb hd rfl (zld_at hA q) (k _ hA)
    · cases h
  · have hl : 2 = len := eq_of_beq hl
    subst hl
    split at h
    · rename_i q
      cases h
      exact lv_lload hx hb hd (zld_at hA q) (k _ hA)
    · cases h
  · have hl : 1 = len := eq_of_beq hl
    subst hl
    split at h
    · rename_i q
      cases h
      exact lv_lload_n hx hb hd rfl (zld_at hA q) (k _ hA)
    · cases h
  · have hl : 2 = len := eq_of_beq hl
    subst hl
    split at h
    · rename_i q
      cases h
      exact lv_dload hx hb hd (zld_at hA q) (k _ hA)
    · cases h
  · have hl : 1 = len := eq_of_beq hl
    subst hl
    split at h
    · rename_i q
      cases h
      exact lv_dload_n hx hb hd rfl (zld_at hA q) (k _ hA)
    · cases h
  · have hl : 1 = len := eq_of_beq hl
    subst hl
    split at h
    · rename_i q
      cases h
      exact lv_fload_n hx hb hd rfl (zld_at hA q) (k _ hA)
    · cases h
  · have hl : 2 = len := eq_of_beq hl
    subst hl
    split at h
    · rename_i q
      cases h
      exact lv_aload hx hb hd (zld_at hA q) (k _ hA)
    · rename_i q
      cases h
      exact lv_aloadN hx hb hd (zld_at hA q) (k _ hA)
    · cases h
  · have hl : 1 = len := eq_of_beq hl
    subst hl
    split at h
    · rename_i q
      cases h
      exact lv_aload_n hx hb hd rfl (zld_at hA q) (k _ hA)
    · rename_i q
      cases h
      exact lv_aload_nN hx hb hd rfl (zld_at hA q) (k _ hA)
    · cases h
  · have hl : 2 = len := eq_of_beq hl
    subst hl
    split at h
    · cases h
      exact lv_istore hx hb hd hA (by simp only [zlocs] at hn; omega) (zs1_map ad ls _ (.int _)) k
    · cases h
  · have hl : 1 = len := eq_of_beq hl
    subst hl
    split at h
    · cases h
      exact lv_istore_n hx hb hd rfl hA (by simp only [zlocs] at hn; omega) (zs1_map ad ls _ (.int _)) k
    · cases h
  · have hl : 2 = len := eq_of_beq hl
    subst hl
    split at h
    · cases h
      exact lv_astore hx hb hd hA (by simp only [zlocs] at hn; omega) (zs1_map ad ls _ (.ref _)) k
    · cases h
      exact lv_astoreN hx hb hd hA (by simp only [zlocs] at hn; omega) (zs1_map ad ls _ .null) k
    · cases h
  · have hl : 1 = len := eq_of_beq hl
    subst hl
    split at h
    · cases h
      exact lv_astore_n hx hb hd rfl hA (by simp only [zlocs] at hn; omega) (zs1_map ad ls _ (.ref _)) k
    · cases h
      exact lv_astore_nN hx hb hd rfl hA (by simp only [zlocs] at hn; omega) (zs1_map ad ls _ .null) k
    · cases h
  · have hl : 2 = len := eq_of_beq hl
    subst hl
    split at h
    · cases h
      exact lv_lstore hx hb hd hA (by simp only [zlocs] at hn; omega) (zs2_map ad ls _ (.long _)) k
    · cases h
  · have hl : 1 = len := eq_of_beq hl
    subst hl
    split at h
    · cases h
      exact lv_lstore_n hx hb hd rfl hA (by simp only [zlocs] at hn; omega) (zs2_map ad ls _ (.long _)) k
    · cases h
  · have hl : 2 = len := eq_of_beq hl
    subst hl
    split at h
    · cases h
      exact lv_dstore hx hb hd hA (by simp only [zlocs] at hn; omega) (zs2_map ad ls _ (.double _)) k
    · cases h
  · have hl : 3 = len := eq_of_beq hl
    subst hl
    split at h
    · rename_i q
      cases h
      obtain ⟨j, hj⟩ := zld_idx (ad := ad) q
      exact lv_iinc hx hb hd hA hj rfl (by simp only [zlocs] at hn; omega) (zs1_map ad ls _ (.int _)) k
    · cases h
  · cases h
end ZS
end
section
/-! THE GROUND: the tables' good words, what they say of the classes, what stays from call to call. -/
def zWS : List Cond := lw_tbl.filter goodWord
theorem zWS_of {w : Cond} (h : w ∈ lw_tbl) (g : goodWord w = true) : w ∈ zWS := List.mem_filter.mpr ⟨h, g⟩
theorem zWS_good (w0 : Cond) : GoodIn (w0 :: zWS) zWS := fun w hw => ⟨List.mem_cons_of_mem _ hw, good_of_word (List.mem_filter.mp hw).2⟩
theorem zwF_in {q : Nat × Nat × Nat} (h : q ∈ zLF) : zwF q ∈ zWS := zWS_of (zsub_in _ _ zF_all _ (List.mem_map.mpr ⟨q, h, rfl⟩)) rfl
theorem zwM_in {q : Nat × Nat × Nat} (h : q ∈ zLM) : zwM q ∈ zWS := zWS_of (zsub_in _ _ zM_all _ (List.mem_map.mpr ⟨q, h, rfl⟩)) rfl
theorem zwC_in {q : Nat × Nat × Nat} (h : q ∈ zLC) : zwC q ∈ zWS := zWS_of (zsub_in _ _ zC_all _ (List.mem_map.mpr ⟨q, h, rfl⟩)) rfl
theorem zwA_in {q : Nat × Nat × Nat} (h : q ∈ zLA) : zwC q ∈ zWS := zWS_of (zsub_in _ _ zA_all _ (List.mem_map.mpr ⟨q, h, rfl⟩)) rfl
theorem zwK_in {q : Nat × Nat × Nat} (h : q ∈ zLK) : zwK q ∈ zWS := zWS_of (zsub_in _ _ zK_all _ (List.mem_map.mpr ⟨q, h, rfl⟩)) (by
  unfold zwK
  split <;> rfl)
theorem zwI_in {n : Nat} (h : n ∈ zoI) : Cond.instanceMethod (zMI n).1 ∈ zWS := zWS_of (zsub_in _ _ zI_all _ (List.mem_map.mpr ⟨n, h, rfl⟩)) rfl
theorem zwS_in {n : Nat} (h : n ∈ zoS) : Cond.selects (zMI n).1.cls (zMI n).1 (zMI n).1 ∈ zWS := zWS_of (zsub_in _ _ zS_all _ (List.mem_map.mpr ⟨n, h, rfl⟩)) rfl
theorem zwT_in {n : Nat} (h : n ∈ zoT) : Cond.static (zMI n).1 ∈ zWS := zWS_of (zsub_in _ _ zT_all _ (List.mem_map.mpr ⟨n, h, rfl⟩)) rfl
theorem zwNa_in {n : Nat} (h : n ∈ zoN) : Cond.native (zMI n).1 ∈ zWS := zWS_of (zsub_in _ _ zNa_all _ (List.mem_map.mpr ⟨n, h, rfl⟩)) rfl
theorem zwIn_in {c : String} (h : c ∈ zoIn) : Cond.initialized c ∈ zWS := zWS_of (zsub_in _ _ zIn_all _ (List.mem_map.mpr ⟨c, h, rfl⟩)) rfl
theorem zwIs_in {q : String × Nat} (h : q ∈ zoIs) : Cond.instantiable q.1 q.2 ∈ zWS := zWS_of (zsub_in _ _ zIs_all _ (List.mem_map.mpr ⟨q, h, rfl⟩)) rfl
theorem zwc_in {n : Nat} (h : n < 319) : zwc n ∈ zWS := by
  refine zWS_of ?_ rfl
  have key : ∀ n, n < 319 → (n ∈ [124, 0, 103, 55, 95, 45, 90] ∨ n ∈ [115, 64, 65, 317, 85, 26, 117, 125, 104, 105, 126, 127, 1, 56] ∨ n ∈ [2, 109, 106, 110, 107, 111, 108, 316, 112, 113, 3, 11, 5, 6, 315, 12, 7, 61, 57, 59, 96, 13, 9, 14, 102, 97, 10, 15, 8, 98, 99, 4, 16, 17, 60, 58, 46, 18, 50, 47, 19, 100, 21, 48, 91, 20, 22, 33, 25, 92, 93, 34, 35, 23, 24, 128, 129, 68, 130] ∨ n ∈ [131, 116, 132, 114, 133, 134, 49, 135, 136, 137, 145, 146, 138, 147, 81, 79, 78, 72, 71, 101, 39, 63, 44, 62, 42, 43, 41, 139, 83, 84, 80, 140, 66, 37, 38, 82, 141, 148, 149, 142, 143, 69, 144, 86, 150, 151, 70, 75, 73, 152, 76, 74, 153, 77, 154, 155] ∨ n ∈ [156, 157, 167, 27, 318, 28, 29, 30, 31, 40, 32, 313, 87, 158, 159, 160, 51, 161, 52, 53, 36, 54, 94, 162, 119, 122, 121, 118, 163, 120, 123, 164, 165, 88, 89, 166, 168, 67, 314, 169, 170, 171] ∨ n ∈ [177, 175, 178, 176, 179, 172, 180, 212, 184, 181, 211, 192, 189, 185, 182, 190, 191, 202, 194, 199, 195, 201, 200, 196, 188, 183, 186, 210, 203, 193, 197, 207, 204, 198, 206, 208, 209, 205, 187, 226, 242, 213, 224, 214, 243, 215, 244, 245, 216, 217] ∨ n ∈ [248, 218, 219, 220, 221, 246, 222, 247, 251, 249, 250, 232, 174, 252, 255, 253, 254, 258, 257, 256, 223, 235, 234, 230, 228, 312, 311, 229, 310, 309, 233, 259, 239, 260, 307, 231, 227, 262, 261, 263, 266, 225, 265, 264, 267, 270, 271, 268, 272, 269, 273, 274, 276, 275, 286, 277, 284] ∨ n ∈ [280, 173, 279, 278, 241, 240, 236, 238, 237, 281, 282, 283, 287, 289, 288, 292, 290, 285, 291, 296, 295, 294, 293, 299, 298, 297, 301, 300, 302, 305, 304, 303, 306, 308]) := by decide +kernel
  have in1 : ∀ w ∈ tables_1, w ∈ lw_tbl := fun w hw => List.mem_append_right _ hw
  refine in1 _ ?_
  unfold tables_1
  simp only [List.mem_append]
  rcases key n h with q | q | q | q | q | q | q | q
  · exact Or.inl (zc_1 n q)
  · exact Or.inr (Or.inl (zc_2 n q))
  · exact Or.inr (Or.inr (Or.inl (zc_3 n q)))
  · exact Or.inr (Or.inr (Or.inr (Or.inl (zc_4 n q))))
  · exact Or.inr (Or.inr (Or.inr (Or.inr (Or.inl (zc_5 n q)))))
  · exact Or.inr (Or.inr (Or.inr (Or.inr (Or.inr (Or.inl (zc_6 n q))))))
  · exact Or.inr (Or.inr (Or.inr (Or.inr (Or.inr (Or.inr (Or.inl (zc_7 n q)))))))
  · exact Or.inr (Or.inr (Or.inr (Or.inr (Or.inr (Or.inr (Or.inr (zc_8 n q)))))))
/-- a sort and a type -/
def zsrt : Nat → FieldType → Bool
  | 0, .int => true
  | 1, .long => true
  | 2, .object _ => true
  | 2, .array _ => true
  | 3, .boolean => true
  | _, _ => false
/-- what is known of a class of the world -/
def zCl (ci : Nat) (q : vw_C) : Prop := (∀ w ∈ u_ws q.1 q.2.1 q.2.2, w ∈ zWS) ∧ (∀ k, k < q.2.2 → ∃ ty, parseFieldDescriptor (q.2.1 k).2.2.1 = some ty ∧ zsrt (zft ci k) ty = true) ∧ (∀ a, a < q.2.2 → ∀ b, b < q.2.2 → a ≠ b → (q.2.1 a).2.1 ≠ (q.2.1 b).2.1) ∧ (∀ k, k < q.2.2 → (q.2.1 k).1 = q.1)
theorem zU_in {ws : List Cond} (h : zsub ws lw_tbl = true) (g : ws.all goodWord = true) : ∀ w ∈ ws, w ∈ zWS := fun w hw => zWS_of (zsub_in _ _ h w hw) (List.all_eq_true.mp g w hw)
theorem zck_sort {ci N : Nat} {T : u_T} (h : (List.range N).all (fun k => match parseFieldDescriptor (T k).2.2.1 with | some ty => zsrt (zft ci k) ty | none => false) = true) : ∀ k, k < N → ∃ ty, parseFieldDescriptor (T k).2.2.1 = some ty ∧ zsrt (zft ci k) ty = true := by
  intro k hk
  have h1 := List.all_eq_true.mp h k (List.mem_range.mpr hk)
  cases hp : parseFieldDescriptor (T k).2.2.1 with
  | none => rw [hp] at h1; cases h1
  | some ty => rw [hp] at h1; exact ⟨ty, rfl, h1⟩
theorem zCl_0 : zCl 0 (RX0, TX0, 20) := ⟨zU_in zU_0 (by decide +kernel), zck_sort (by decide +kernel), nmX0, by decide +kernel⟩
theorem zCl_1 : zCl 1 (RX1, TX1, 1) := ⟨zU_in zU_1 (by decide +kernel), zck_sort (by decide +kernel), nmX1, by decide +kernel⟩
theorem zCl_2 : zCl 2 (RX3, TX3, 4) := ⟨zU_in zU_2 (by decide +kernel), zck_sort (by decide +kernel), nmX3, by decide +kernel⟩
theorem zCl_3 : zCl 3 (RX4, TX4, 4) := ⟨zU_in zU_3 (by decide +kernel), zck_sort (by decide +kernel), nmX4, by decide +kernel⟩
theorem zCl_4 : zCl 4 (RX6, TX6, 4) := ⟨zU_in zU_4 (by decide +kernel), zck_sort (by decide +kernel), nmX6, by decide +kernel⟩
theorem zCl_5 : zCl 5 (RX7, TX7, 8) := ⟨zU_in zU_5 (by decide +kernel), zck_sort (by decide +kernel), nmX7, by decide +kernel⟩
theorem zCl_6 : zCl 6 (RX8, TX8, 7) := ⟨zU_in zU_6 (by decide +kernel), zck_sort (by decide +kernel), nmX8, by decide +kernel⟩
theorem zCl_7 : zCl 7 (RX9, TX9, 2) := ⟨zU_in zU_7 (by decide +kernel), zck_sort (by decide +kernel), nmX9, by decide +kernel⟩
theorem zCl_8 : zCl 8 (RX10, TX10, 6) := ⟨zU_in zU_8 (by decide +kernel), zck_sort (by decide +kernel), nmX10, by decide +kernel⟩
theorem zCl_9 : zCl 9 (RX11, TX11, 14) := ⟨zU_in zU_9 (by decide +kernel), zck_sort (by decide +kernel), nmX11, by decide +kernel⟩
theorem zCl_10 : zCl 10 (RX12, TX12, 32) := ⟨zU_in zU_10 (by decide +kernel), zck_sort (by decide +kernel), nmX12, by decide +kernel⟩
theorem zCl_all : ∀ (ci : Nat) (q : vw_C), vwCl[ci]? = some q → zCl ci q := by
  intro ci q h
  match ci, h with
  | 0, h => cases h; exact zCl_0
  | 1, h => cases h; exact zCl_1
  | 2, h => cases h; exact zCl_2
  | 3, h => cases h; exact zCl_3
  | 4, h => cases h; exact zCl_4
  | 5, h => cases h; exact zCl_5
  | 6, h => cases h; exact zCl_6
  | 7, h => cases h; exact zCl_7
  | 8, h => cases h; exact zCl_8
  | 9, h => cases h; exact zCl_9
  | 10, h => cases h; exact zCl_10
  | n + 11, h => simp [vwCl] at h
/-- the kinds of the layout: an object's class, how many places it has -/
theorem zLY_obj {o : Nat} (h : (zLY o).1 ≤ 10) : ∃ q, vwCl[(zLY o).1]? = some q ∧ q.2.2 = (zLY o).2 := by
  have key : ∀ o, o < 181 → (zLY o).1 ≤ 10 → (vwCl[(zLY o).1]?.map (fun q => q.2.2)) = some (zLY o).2 := by decide +kernel
  by_cases ho : o < 181
  · have h1 := key o ho h
    cases hq : vwCl[(zLY o).1]? with
    | none => rw [hq] at h1; cases h1
    | some q => rw [hq] at h1; exact ⟨q, rfl, Option.some.inj h1⟩
  · have h2 : zLY o = (13, 8) := by
      unfold zLY
      rw [List.getElem?_eq_none (by have : zLYl.length = 181 := by decide +kernel
                                    omega)]
      rfl
    rw [h2] at h
    exact absurd h (by decide)
/-- how many places all objects below n have -/
def zSl : Nat → Nat
  | 0 => 0
  | n + 1 => zSl n + (zLY n).2
theorem zSl_mono {a b : Nat} (h : a ≤ b) : zSl a ≤ zSl b := by
  induction h with
  | refl => exact Nat.le_refl _
  | step _ ih => exact Nat.le_trans ih (Nat.le_add_right _ _)
/-- WHAT STAYS: the classes and array classes, the links among nest mates, arrays of references, the string, the script -/
def zGs (D : va_G) (cy : Nat → ClassId) (U : State) : Prop :=
  va_K D vwCl (zty cy) U ∧ (∀ q ∈ zLN, va_Nw (zwN q) U) ∧ (va_AO "RecordBridge$Shape" U ∧ va_AO "RecordBridge$Passage" U ∧ va_AO "RecordBridge$Rule" U ∧ va_Nw (.arrayOver (.array .long)) U)
end
section
/-! FIELDS, ARRAYS, CONSTANTS, ANSWERS: the small machine's are the claim's machine's. -/
/-- the instruction as it stands in the class file -/
def zreal : Instr → Nat → Instr
  | .getfield _, t => .getfield t
  | .putfield _, t => .putfield t
  | .invokevirtual _, t => .invokevirtual t
  | .invokestatic _, t => .invokestatic t
  | .invokespecial _, t => .invokespecial t
  | .new _, t => .new t
  | .anewarray _, t => .anewarray t
  | .multianewarray _ d, t => .multianewarray t d
  | .ldc _, t => .ldc t
  | .ldc_w _, t => .ldc_w t
  | .ldc2_w _, t => .ldc2_w t
  | i, _ => i
/-- is the number of a place right: within its class, of the sort that stands there -/
def zfok (x : Nat) : Bool := match vwCl[x / 256]? with
  | some q => decide (x / 4 % 64 < q.2.2) && (x % 4 == zft (x / 256) (x / 4 % 64))
  | none => false
theorem zfok_inv {x : Nat} (h : zfok x = true) : ∃ q, vwCl[x / 256]? = some q ∧ x / 4 % 64 < q.2.2 ∧ x % 4 = zft (x / 256) (x / 4 % 64) ∧ zFI x = q.2.1 (x / 4 % 64) := by
  unfold zfok at h
  cases hq : vwCl[x / 256]? with
  | none => rw [hq] at h; cases h
  | some q =>
    rw [hq] at h
    simp only [Bool.and_eq_true, decide_eq_true_eq, beq_iff_eq] at h
    refine ⟨q, rfl, h.1, h.2, ?_⟩
    unfold zFI
    rw [hq]
theorem zvw_lt {ci : Nat} {q : vw_C} (h : vwCl[ci]? = some q) : ci ≤ 10 := by
  have h1 := (List.getElem?_eq_some_iff.mp h).1
  have h2 : vwCl.length = 11 := rfl
  omega
theorem zel_o {ad : Nat → Nat} {cy : Nat → ClassId} {σ : zSt} {o : Nat} (h : (zLY o).1 ≤ 10) : zel ad cy σ o = .inr ((zLY o).1, zfs ad σ o (zLY o).1 (zLY o).2) := by
  unfold zel; rw [if_pos h]
theorem zel_i {ad : Nat → Nat} {cy : Nat → ClassId} {σ : zSt} {o k : Nat} (h : (zLY o).1 = k) (hk : k = 11 ∨ k = 12 ∨ k = 14) : zel ad cy σ o = .inl (cy k, (zLY o).2, .inl (zI σ o)) := by
  unfold zel; rw [h, if_neg (by omega), if_neg (by omega), if_neg (by omega)]
theorem zel_l {ad : Nat → Nat} {cy : Nat → ClassId} {σ : zSt} {o : Nat} (h : (zLY o).1 = 13) : zel ad cy σ o = .inl (cy 13, (zLY o).2, .inr (.inl (zL σ o))) := by
  unfold zel; rw [h, if_neg (by omega), if_pos rfl]
theorem zel_q {ad : Nat → Nat} {cy : Nat → ClassId} {σ : zSt} {o k : Nat} (h : (zLY o).1 = k) (hk : 15 ≤ k) : zel ad cy σ o = .inl (cy k, (zLY o).2, .inr (.inr (.inr (.inr (fun j => (zR σ o j).map ad))))) := by
  unfold zel; rw [h, if_neg (by omega), if_neg (by omega), if_pos hk]
theorem zfs_at {ad : Nat → Nat} {σ : zSt} {o c n k : Nat} (h : k < n) : (zfs ad σ o c n)[k]? = some (zfv ad σ o k (zft c k)) := by
  simp [zfs, List.getElem?_map, List.getElem?_range h]
theorem zfs_len {ad : Nat → Nat} {σ : zSt} {o c n : Nat} : (zfs ad σ o c n).length = n := by simp [zfs]
theorem zfs_set {ad : Nat → Nat} {σ σ' : zSt} {o c n k : Nat} {v : Value} (h : k < n) (hv : zfv ad σ' o k (zft c k) = v) (ho : ∀ j, j ≠ k → zfv ad σ' o j (zft c j) = zfv ad σ o j (zft c j)) : (zfs ad σ o c n).set k v = zfs ad σ' o c n := by
  apply List.ext_getElem?
  intro i
  rw [List.getElem?_set]
  by_cases hi : i < n
  · rw [zfs_at hi, zfs_at hi, zfs_len]
    by_cases e : k = i
    · subst e; simp [hi, hv]
    · rw [if_neg e, ho i (fun q => e q.symm)]
  · rw [List.getElem?_eq_none (by rw [zfs_len]; omega), List.getElem?_eq_none (by rw [zfs_len]; omega), zfs_len]
    by_cases e : k = i
    · subst e; simp [hi]
    · rw [if_neg e]
theorem zget_v {ad : Nat → Nat} {σ : zSt} {o k t : Nat} : zv ad (zget σ o k t) = zfv ad σ o k t := by
  unfold zget zfv
  split
  · rfl
  · split
    · rw [zv_rf]
    · rfl
/-- where another object is written, this one stays -/
theorem zel_wI {ad : Nat → Nat} {cy : Nat → ClassId} {σ : zSt} {o k : Nat} {v : Int32} : ∀ q, q ≠ o → zel ad cy (zwI σ o k v) q = zel ad cy σ q := fun q h => zel_congr (by show va_up _ _ _ q = _; simp only [va_up, h, if_false]; rfl) rfl rfl
theorem zel_wL {ad : Nat → Nat} {cy : Nat → ClassId} {σ : zSt} {o k : Nat} {v : Int64} : ∀ q, q ≠ o → zel ad cy (zwL σ o k v) q = zel ad cy σ q := fun q h => zel_congr rfl (by show va_up _ _ _ q = _; simp only [va_up, h, if_false]; rfl) rfl
theorem zel_wR {ad : Nat → Nat} {cy : Nat → ClassId} {σ : zSt} {o k : Nat} {v : Option Nat} : ∀ q, q ≠ o → zel ad cy (zwR σ o k v) q = zel ad cy σ q := fun q h => zel_congr rfl rfl (by show va_up _ _ _ q = _; simp only [va_up, h, if_false]; rfl)
theorem zel_rI {ad : Nat → Nat} {cy : Nat → ClassId} {σ : zSt} {o : Nat} {f : Nat → Int32} : ∀ q, q ≠ o → zel ad cy (zrI σ o f) q = zel ad cy σ q := fun q h => zel_congr (by show va_up _ _ _ q = _; simp only [va_up, h, if_false]; rfl) rfl rfl
theorem zel_rL {ad : Nat → Nat} {cy : Nat → ClassId} {σ : zSt} {o : Nat} {f : Nat → Int64} : ∀ q, q ≠ o → zel ad cy (zrL σ o f) q = zel ad cy σ q := fun q h => zel_congr rfl (by show va_up _ _ _ q = _; simp only [va_up, h, if_false]; rfl) rfl
theorem zI_w (σ : zSt) (o k : Nat) (v : Int32) : zI (zwI σ o k v) o = va_up (zI σ o) k v := by show va_up _ _ _ o = _; simp only [va_up, if_true]; rfl
theorem zL_w (σ : zSt) (o k : Nat) (v : Int64) : zL (zwL σ o k v) o = va_up (zL σ o) k v := by show va_up _ _ _ o = _; simp only [va_up, if_true]; rfl
theorem zR_w (σ : zSt) (o k : Nat) (v : Option Nat) : zR (zwR σ o k v) o = va_up (zR σ o) k v := by show va_up _ _ _ o = _; simp only [va_up, if_true]; rfl
theorem zI_r (σ : zSt) (o : Nat) (f : Nat → Int32) : zI (zrI σ o f) o = f := by show va_up _ _ _ o = _; simp only [va_up, if_true]
theorem zL_r (σ : zSt) (o : Nat) (f : Nat → Int64) : zL (zrL σ o f) o = f := by show va_up _ _ _ o = _; simp only [va_up, if_true]
theorem zW_set' {ad : Nat → Nat} {cy : Nat → ClassId} {σ σ' : zSt} {o : Nat} {x : va_E} (he : zel ad cy σ' o = x) (hN : zN σ' = zN σ) (h : ∀ q, q ≠ o → zel ad cy σ' q = zel ad cy σ q) : (zW ad cy σ).set o (ad o, x) = zW ad cy σ' := by
  rw [← he]; exact zW_set hN h
/-- the links of an instruction, in method n -/
def zlnk (n : Nat) (i : Instr) (t : Nat) : Bool := match i with
  | .getfield x => decide (((zMI n).2.2.2.2.1, t, x) ∈ zLF) && zfok x
  | .putfield x => decide (((zMI n).2.2.2.2.1, t, x) ∈ zLF) && zfok x && ((zFI x).2.2.2 == false || (decide ((zMI n).1.name = "<init>") && decide ((zFI x).1 = zOw (zMI n).2.2.2.2.1)))
  | .new c => decide (((zMI n).2.2.2.2.1, t, c) ∈ zLC)
  | .anewarray c => decide (((zMI n).2.2.2.2.1, t, c) ∈ zLA)
  | .multianewarray c _ => decide (((zMI n).2.2.2.2.1, t, c) ∈ zLA)
  | .ldc j => decide (((zMI n).2.2.2.2.1, t, j) = zLS) || (decide (((zMI n).2.2.2.2.1, t, j) ∈ zLK) && (match (zCT[j]?).getD .null with | .int _ => true | .float _ => true | _ => false))
  | .ldc_w j => decide (((zMI n).2.2.2.2.1, t, j) ∈ zLK) && (match (zCT[j]?).getD .null with | .int _ => true | .float _ => true | _ => false)
  | .ldc2_w j => decide (((zMI n).2.2.2.2.1, t, j) ∈ zLK) && (match (zCT[j]?).getD .null with | .long _ => true | .double _ => true | _ => false)
  | .return_ => decide ((zMI n).2.2.2.1 = none)
  | .ireturn => decide ((zMI n).2.2.2.1 = some .int ∧ t = 0) || decide ((zMI n).2.2.2.1 = some .boolean ∧ t = 1)
  | .lreturn => decide ((zMI n).2.2.2.1 = some .long)
  | .freturn => decide ((zMI n).2.2.2.1 = some .float)
  | .dreturn => decide ((zMI n).2.2.2.1 = some .double)
  | .areturn => match (zMI n).2.2.2.1 with
    | some (.object _) => true
    | some (.array _) => true
    | _ => false
  | .invokevirtual y => decide (((zMI n).2.2.2.2.1, t, y) ∈ zLM) && decide (y ∈ zoI) && decide (y ∈ zoS)
  | .invokestatic y => decide (((zMI n).2.2.2.2.1, t, y) ∈ zLM) && decide (y ∈ zoT)
  | .invokespecial y => (decide (((zMI n).2.2.2.2.1, t, y) ∈ zLM) || decide (((zMI n).2.2.2.2.1, t, y) ∈ zLN)) && decide (y ∈ zoI) && decide ((zMI y).1.name = "<init>") && (y == 907 || decide (y < 319))
  | _ => true
section ZM
variable {p : Program} {l : Launch} {e : Env} {R : Room} {s : State} {m : MethodId} {args : Array Value} {below : List Frame} {meth : Method} {c : Code} {H : Heap} {locs : List Loc} {cells slots : Nat} {Q : State → Prop}
variable {cc : ByteArray} {pc : Nat} {lsA : Array Slot} {D : va_G} {cy : Nat → ClassId} {B sc tx n : Nat} {σ σ' : zSt} {rest : List Value}
/-- an array of arrays: one of them is taken -/
theorem zald_a (hexec : p.tables.exec = Jvm.exec) (hb : c.code = cc) {cl : List vw_C} {tys : List (ClassId × FieldType)} {ws : va_W} (hK : va_K D cl tys s) (hP : va_P D cl ws H) (q0 t0 : Nat) {a : Nat} {cA : ClassId} {t : FieldType} {N : Nat} {f : Nat → Option Nat} (ha : ws[q0]? = some (a, .inl (cA, N, .inr (.inr (.inr (.inr f)))))) (ht : tys[t0]? = some (cA, .array t)) {i : Int32} (hin : vp_in i N) (hdg : decode cc pc = .ok (.aaload, 1))
    (kk : W p l e R s m args below meth c H locs cells slots Q (F0 m (pc + 1) lsA (va_rf (f i.toNatClampNeg) :: rest))) : W p l e R s m args below meth c H locs cells slots Q (F0 m pc lsA (.int i :: .ref a :: rest)) := by
  have hlt : i.toNatClampNeg < N := Nat.not_le.mp fun q => hin (Or.inr q)
  exact W.aald (v := va_rf (f i.toNatClampNeg)) (ty := .array t) hexec hb (hP q0 _ ha) ((hK.2 t0 _ ht).1 N (fun j => va_rf (f j))) rfl (fun q => by cases q) (by show ¬ (i < 0 ∨ (arrV _ _ _).slots.size ≤ _); rw [arrV_size]; exact hin) (by show (arrV _ _ _).slots[_]? = _; rw [arrV_read _ _ hlt]) rfl rfl hdg kk
set_option maxHeartbeats 4000000 in
theorem zput_ok (hx : p.tables.exec = Jvm.exec) (hb : c.code = cc) (hown : s.vm.findClass (zOw (zMI n).2.2.2.2.1) = some m.cls) (hts : ∀ w ∈ zWS, w.before args s = true) (hi0 : (zMI n).1.name = "<init>" → meth.name = "<init>") (hG : zGs D cy s)
    {x t : Nat} (hd : decode cc pc = .ok (.putfield t, 3)) (hk : zlnk n (.putfield x) t = true) (hP : va_P D vwCl (zW (zad B sc tx) cy σ) H) (hS : va_S (fun q => B ≤ q) s.heap H locs) (hN : zN σ ≤ 1000000)
    {o : Nat} (ho : o < zN σ) (hc : (zLY o).1 = x / 256) {v : Value} (hty : ∀ ty, zsrt (x % 4) ty = true → narrow ty (zv (zad B sc tx) v) = zv (zad B sc tx) v ∧ fits ty (zv (zad B sc tx) v) = true)
    (hv : zfv (zad B sc tx) σ' o (x / 4 % 64) (x % 4) = zv (zad B sc tx) v) (hj : ∀ j, j ≠ x / 4 % 64 → ∀ tt, zfv (zad B sc tx) σ' o j tt = zfv (zad B sc tx) σ o j tt) (hN' : zN σ' = zN σ) (hq : ∀ q, q ≠ o → zel (zad B sc tx) cy σ' q = zel (zad B sc tx) cy σ q)
    (k : ∀ H' locs', va_P D vwCl (zW (zad B sc tx) cy σ') H' → va_S (fun q => B ≤ q) s.heap H' locs' → W p l e R s m args below meth c H' locs' cells slots Q (F0 m (pc + 3) lsA rest)) : W p l e R s m args below meth c H locs cells slots Q (F0 m pc lsA (zv (zad B sc tx) v :: .ref (zad B sc tx o) :: rest)) := by
  simp only [zlnk, Bool.and_eq_true, decide_eq_true_eq, Bool.or_eq_true, beq_iff_eq] at hk
  obtain ⟨⟨hm, hf⟩, hfin⟩ := hk
  obtain ⟨q, hq1, hlt, hsrt, hFI⟩ := zfok_inv hf
  obtain ⟨hC1, hC2, hC3, hC4⟩ := zCl_all _ _ hq1
  have hle : (zLY o).1 ≤ 10 := by rw [hc]; exact zvw_lt hq1
  obtain ⟨q', hq2, hnum⟩ := zLY_obj hle
  rw [hc, hq1] at hq2
  cases hq2
  have hlink := hts _ (zwF_in hm)
  unfold zwF at hlink
  simp only [hFI] at hlink hfin
  have he : (zW (zad B sc tx) cy σ)[o]? = some (zad B sc tx o, .inr (x / 256, zfs (zad B sc tx) σ o (x / 256) q.2.2)) := by
    rw [zW_at _ _ _ ho, zel_o hle, hc, hnum]
  obtain ⟨ty, hp1, hp2⟩ := hC2 _ hlt
  rw [← hsrt] at hp2
  obtain ⟨hn1, hf1⟩ := hty ty hp2
  have hset : (zfs (zad B sc tx) σ o (x / 256) q.2.2).set (x / 4 % 64) (zv (zad B sc tx) v) = zfs (zad B sc tx) σ' o (x / 256) q.2.2 := zfs_set hlt (by rw [← hsrt]; exact hv) (fun j h => hj j h _)
  have hend : (zW (zad B sc tx) cy σ).set o (zad B sc tx o, .inr (x / 256, (zfs (zad B sc tx) σ o (x / 256) q.2.2).set (x / 4 % 64) (zv (zad B sc tx) v))) = zW (zad B sc tx) cy σ' := by
    rw [hset]
    exact zW_set' (by rw [zel_o hle, hc, hnum]) hN' hq
  have hty0 : ∃ ty0 : Nat → FieldType, ∀ k, k < q.2.2 → parseFieldDescriptor (q.2.1 k).2.2.1 = some (ty0 k) := ⟨fun k => (parseFieldDescriptor (q.2.1 k).2.2.1).getD .int, fun k hk => by
    obtain ⟨t1, e1, -⟩ := hC2 k hk
    show parseFieldDescriptor (q.2.1 k).2.2.1 = some ((parseFieldDescriptor (q.2.1 k).2.2.1).getD .int)
    rw [e1]; rfl⟩
  obtain ⟨ty0, hty0⟩ := hty0
  by_cases hfi : (q.2.1 (x / 4 % 64)).2.2.2 = false
  · refine va_put hx hb hts hC1 ty0 hty0 hC3 hown hG.1 hP (zW_D hN) hS o he hq1 (x / 4 % 64) hlt hlink (fun _ h => h) hfi hp1 hn1 hf1 (by rw [zfs_len]; exact hlt) hd fun H1 locs1 hP1 _ hS1 => ?_
    rw [hend] at hP1
    exact k H1 locs1 hP1 hS1
  · have hfi2 : (q.2.1 (x / 4 % 64)).2.2.2 = true := by
      cases hz : (q.2.1 (x / 4 % 64)).2.2.2 with
      | true => rfl
      | false => exact absurd hz hfi
    rcases hfin with h | h
    · exact absurd h hfi
    · refine va_putF hx hb hts hC1 ty0 hty0 hC3 hown hG.1 hP (zW_D hN) hS o he hq1 (x / 4 % 64) hlt hlink (fun _ h => h) hfi2 (hi0 h.1) h.2 hp1 hn1 hf1 (by rw [zfs_len]; exact hlt) hd fun H1 locs1 hP1 _ hS1 => ?_
      rw [hend] at hP1
      exact k H1 locs1 hP1 hS1
end ZM
end
section
/-! EVERY INSTRUCTION IS CHECKED: it is the class file's, its links are the tables', what it calls has room -/
def zroom (n y : Nat) : Bool := if y < 900 then decide ((zMI y).2.2.2.2.2.1 + 1 ≤ (zMI n).2.2.2.2.2.1) && decide (8 + ((zMI y).2.2.1 + 11) + (zMI y).2.2.2.2.2.2 ≤ (zMI n).2.2.2.2.2.2)
  else if y = 905 ∨ y = 906 then decide (6 ≤ (zMI n).2.2.2.2.2.1) && decide (140 ≤ (zMI n).2.2.2.2.2.2)
  else decide (1 ≤ (zMI n).2.2.2.2.2.1) && decide (40 ≤ (zMI n).2.2.2.2.2.2)
def zrmk (n : Nat) (i : Instr) : Bool := match zcal i with
  | some (y, _) => zroom n y
  | none => true
def zins (n pc : Nat) (q : zIns) : Bool := decide (decode (zMI n).2.1 pc = .ok (zreal q.1 q.2.2, q.2.1)) && (zlenOK q.1 q.2.1 && ((zoffs q.1).all (fun o => decide (0 ≤ (pc : Int) + o)) && (decide (zlocs q.1 ≤ (zMI n).2.2.1) && (zlnk n q.1 q.2.2 && zrmk n q.1))))
def zinsAll (n : Nat) : Nat → zCode → Bool
  | _, [] => true
  | pc, none :: l => zinsAll n (pc + 1) l
  | pc, some q :: l => zins n pc q && zinsAll n (pc + 1) l
theorem zinsAll_at {n : Nat} : ∀ (l : zCode) (pc0 : Nat), zinsAll n pc0 l = true → ∀ (k : Nat) (q : zIns), l[k]? = some (some q) → zins n (pc0 + k) q = true
  | [], pc0, h, k, q, hk => by cases hk
  | none :: l, pc0, h, 0, q, hk => by cases hk
  | none :: l, pc0, h, k + 1, q, hk => by
    have := zinsAll_at l (pc0 + 1) h k q hk
    rw [show pc0 + (k + 1) = pc0 + 1 + k by omega]; exact this
  | some r :: l, pc0, h, 0, q, hk => by
    cases hk
    rw [zinsAll, Bool.and_eq_true] at h
    exact h.1
  | some r :: l, pc0, h, k + 1, q, hk => by
    rw [zinsAll, Bool.and_eq_true] at h
    have := zinsAll_at l (pc0 + 1) h.2 k q hk
    rw [show pc0 + (k + 1) = pc0 + 1 + k by omega]; exact this
def zPm (n : Nat) : Prop := ∀ (pc : Nat) (q : zIns), (zcode n)[pc]? = some (some q) → zins n pc q = true
theorem zPm_of (n step m : Nat) (hm : (zcode n).length ≤ step * m ∧ 0 < step) (h : ∀ j, j < m → zinsAll n (step * j) (((zcode n).drop (step * j)).take step) = true) : zPm n := by
  intro pc q hq
  have h1 : pc < (zcode n).length := (List.getElem?_eq_some_iff.mp hq).1
  have h2 : pc / step < m := (Nat.div_lt_iff_lt_mul hm.2).mpr (by rw [Nat.mul_comm]; omega)
  have h3 := zinsAll_at _ _ (h _ h2) (pc % step) q (by
    rw [List.getElem?_take, if_pos (Nat.mod_lt _ hm.2), List.getElem?_drop, Nat.div_add_mod]; exact hq)
  rw [Nat.div_add_mod] at h3
  exact h3
/-- a method's own facts -/
def zmth2 (n : Nat) : Bool := decide ((zMI n).2.2.1 = zML n) && (decide ((parseMethodDescriptor (zMI n).1.desc).map (fun d => d.parameters.length) = some (if n ∈ zoT ∨ n = 319 then zNA n else zNA n - 1)) && ((decide (1 ≤ zNA n) || decide (n ∈ zoT)) && (plainFor (zMI n).1 && (decide ((zMI n).1.cls ∈ zoIn) && (decide ((zMI n).1.cls = zOw (zMI n).2.2.2.2.1) && ((decide (n ∈ zoT) || decide (n = 319)) || decide ((vwCl[zCI n]?).map (fun q => q.1) = some (zMI n).1.cls)))))))

theorem zch_0_0 : zinsAll 0 0 (((zcode 0).drop 0).take 60) = true := by decide +kernel
theorem zch_0_60 : zinsAll 0 60 (((zcode 0).drop 60).take 60) = true := by decide +kernel
theorem zch_0_120 : zinsAll 0 120 (((zcode 0).drop 120).take 60) = true := by decide +kernel
theorem zPm_0 : zPm 0 := zPm_of 0 60 3 (by decide +kernel) (fun j hj => by
  match j, hj with
  | 0, _ => exact zch_0_0
  | 1, _ => exact zch_0_60
  | 2, _ => exact zch_0_120
  | j + 3, hj => omega)
theorem zch_1_0 : zinsAll 1 0 (((zcode 1).drop 0).take 60) = true := by decide +kernel
theorem zch_1_60 : zinsAll 1 60 (((zcode 1).drop 60).take 60) = true := by decide +kernel
theorem zPm_1 : zPm 1 := zPm_of 1 60 2 (by decide +kernel) (fun j hj => by
  match j, hj with
  | 0, _ => exact zch_1_0
  | 1, _ => exact zch_1_60
  | j + 2, hj => omega)
theorem zch_2_0 : zinsAll 2 0 (((zcode 2).drop 0).take 60) = true := by decide +kernel
theorem zch_2_60 : zinsAll 2 60 (((zcode 2).drop 60).take 60) = true := by decide +kernel
theorem zch_2_120 : zinsAll 2 120 (((zcode 2).drop 120).take 60) = true := by decide +kernel
theorem zPm_2 : zPm 2 := zPm_of 2 60 3 (by decide +kernel) (fun j hj => by
  match j, hj with
  | 0, _ => exact zch_2_0
  | 1, _ => exact zch_2_60
  | 2, _ => exact zch_2_120
  | j + 3, hj => omega)
theorem zch_3_0 : zinsAll 3 0 (((zcode 3).drop 0).take 60) = true := by decide +kernel
theorem zch_3_60 : zinsAll 3 60 (((zcode 3).drop 60).take 60) = true := by decide +kernel
theorem zPm_3 : zPm 3 := zPm_of 3 60 2 (by decide +kernel) (fun j hj => by
  match j, hj with
  | 0, _ => exact zch_3_0
  | 1, _ => exact zch_3_60
  | j + 2, hj => omega)
theorem zch_4_0 : zinsAll 4 0 (((zcode 4).drop 0).take 60) = true := by decide +kernel
theorem zch_4_60 : zinsAll 4 60 (((zcode 4).drop 60).take 60) = true := by decide +kernel
theorem zch_4_120 : zinsAll 4 120 (((zcode 4).drop 120).take 60) = true := by decide +kernel
theorem zch_4_180 : zinsAll 4 180 (((zcode 4).drop 180).take 60) = true := by decide +kernel
theorem zPm_4 : zPm 4 := zPm_of 4 60 4 (by decide +kernel) (fun j hj => by
  match j, hj with
  | 0, _ => exact zch_4_0
  | 1, _ => exact zch_4_60
  | 2, _ => exact zch_4_120
  | 3, _ => exact zch_4_180
  | j + 4, hj => omega)
theorem zch_5_0 : zinsAll 5 0 (((zcode 5).drop 0).take 60) = true := by decide +kernel
theorem zPm_5 : zPm 5 := zPm_of 5 60 1 (by decide +kernel) (fun j hj => by
  match j, hj with
  | 0, _ => exact zch_5_0
  | j + 1, hj => omega)
theorem zch_6_0 : zinsAll 6 0 (((zcode 6).drop 0).take 60) = true := by decide +kernel
theorem zPm_6 : zPm 6 := zPm_of 6 60 1 (by decide +kernel) (fun j hj => by
  match j, hj with
  | 0, _ => exact zch_6_0
  | j + 1, hj => omega)
theorem zch_7_0 : zinsAll 7 0 (((zcode 7).drop 0).take 60) = true := by decide +kernel
theorem zPm_7 : zPm 7 := zPm_of 7 60 1 (by decide +kernel) (fun j hj => by
  match j, hj with
  | 0, _ => exact zch_7_0
  | j + 1, hj => omega)
theorem zch_8_0 : zinsAll 8 0 (((zcode 8).drop 0).take 60) = true := by decide +kernel
theorem zch_8_60 : zinsAll 8 60 (((zcode 8).drop 60).take 60) = true := by decide +kernel
theorem zPm_8 : zPm 8 := zPm_of 8 60 2 (by decide +kernel) (fun j hj => by
  match j, hj with
  | 0, _ => exact zch_8_0
  | 1, _ => exact zch_8_60
  | j + 2, hj => omega)
theorem zch_9_0 : zinsAll 9 0 (((zcode 9).drop 0).take 60) = true := by decide +kernel
theorem zPm_9 : zPm 9 := zPm_of 9 60 1 (by decide +kernel) (fun j hj => by
  match j, hj with
  | 0, _ => exact zch_9_0
  | j + 1, hj => omega)
theorem zch_10_0 : zinsAll 10 0 (((zcode 10).drop 0).take 60) = true := by decide +kernel
theorem zPm_10 : zPm 10 := zPm_of 10 60 1 (by decide +kernel) (fun j hj => by
  match j, hj with
  | 0, _ => exact zch_10_0
  | j + 1, hj => omega)
theorem zch_11_0 : zinsAll 11 0 (((zcode 11).drop 0).take 60) = true := by decide +kernel
theorem zch_11_60 : zinsAll 11 60 (((zcode 11).drop 60).take 60) = true := by decide +kernel
theorem zch_11_120 : zinsAll 11 120 (((zcode 11).drop 120).take 60) = true := by decide +kernel
theorem zPm_11 : zPm 11 := zPm_of 11 60 3 (by decide +kernel) (fun j hj => by
  match j, hj with
  | 0, _ => exact zch_11_0
  | 1, _ => exact zch_11_60
  | 2, _ => exact zch_11_120
  | j + 3, hj => omega)
theorem zch_12_0 : zinsAll 12 0 (((zcode 12).drop 0).take 60) = true := by decide +kernel
theorem zch_12_60 : zinsAll 12 60 (((zcode 12).drop 60).take 60) = true := by decide +kernel
theorem zPm_12 : zPm 12 := zPm_of 12 60 2 (by decide +kernel) (fun j hj => by
  match j, hj with
  | 0, _ => exact zch_12_0
  | 1, _ => exact zch_12_60
  | j + 2, hj => omega)
theorem zch_13_0 : zinsAll 13 0 (((zcode 13).drop 0).take 60) = true := by decide +kernel
theorem zPm_13 : zPm 13 := zPm_of 13 60 1 (by decide +kernel) (fun j hj => by
  match j, hj with
  | 0, _ => exact zch_13_0
  | j + 1, hj => omega)
theorem zch_14_0 : zinsAll 14 0 (((zcode 14).drop 0).take 60) = true := by decide +kernel
theorem zPm_14 : zPm 14 := zPm_of 14 60 1 (by decide +kernel) (fun j hj => by
  match j, hj with
  | 0, _ => exact zch_14_0
  | j + 1, hj => omega)
theorem zch_15_0 : zinsAll 15 0 (((zcode 15).drop 0).take 60) = true := by decide +kernel
theorem zPm_15 : zPm 15 := zPm_of 15 60 1 (by decide +kernel) (fun j hj => by
  match j, hj with
  | 0, _ => exact zch_15_0
  | j + 1, hj => omega)
theorem zch_16_0 : zinsAll 16 0 (((zcode 16).drop 0).take 60) = true := by decide +kernel
theorem zPm_16 : zPm 16 := zPm_of 16 60 1 (by decide +kernel) (fun j hj => by
  match j, hj with
  | 0, _ => exact zch_16_0
  | j + 1, hj => omega)
theorem zch_17_0 : zinsAll 17 0 (((zcode 17).drop 0).take 60) = true := by decide +kernel
theorem zch_17_60 : zinsAll 17 60 (((zcode 17).drop 60).take 60) = true := by decide +kernel
theorem zPm_17 : zPm 17 := zPm_of 17 60 2 (by decide +kernel) (fun j hj => by
  match j, hj with
  | 0, _ => exact zch_17_0
  | 1, _ => exact zch_17_60
  | j + 2, hj => omega)
theorem zch_18_0 : zinsAll 18 0 (((zcode 18).drop 0).take 60) = true := by decide +kernel
theorem zch_18_60 : zinsAll 18 60 (((zcode 18).drop 60).take 60) = true := by decide +kernel
theorem zPm_18 : zPm 18 := zPm_of 18 60 2 (by decide +kernel) (fun j hj => by
  match j, hj with
  | 0, _ => exact zch_18_0
  | 1, _ => exact zch_18_60
  | j + 2, hj => omega)
theorem zch_19_0 : zinsAll 19 0 (((zcode 19).drop 0).take 60) = true := by decide +kernel
theorem zPm_19 : zPm 19 := zPm_of 19 60 1 (by decide +kernel) (fun j hj => by
  match j, hj with
  | 0, _ => exact zch_19_0
  | j + 1, hj => omega)
theorem zch_20_0 : zinsAll 20 0 (((zcode 20).drop 0).take 60) = true := by decide +kernel
theorem zPm_20 : zPm 20 := zPm_of 20 60 1 (by decide +kernel) (fun j hj => by
  match j, hj with
  | 0, _ => exact zch_20_0
  | j + 1, hj => omega)
theorem zch_21_0 : zinsAll 21 0 (((zcode 21).drop 0).take 60) = true := by decide +kernel
theorem zPm_21 : zPm 21 := zPm_of 21 60 1 (by decide +kernel) (fun j hj => by
  match j, hj with
  | 0, _ => exact zch_21_0
  | j + 1, hj => omega)
theorem zch_22_0 : zinsAll 22 0 (((zcode 22).drop 0).take 60) = true := by decide +kernel
theorem zch_22_60 : zinsAll 22 60 (((zcode 22).drop 60).take 60) = true := by decide +kernel
theorem zPm_22 : zPm 22 := zPm_of 22 60 2 (by decide +kernel) (fun j hj => by
  match j, hj with
  | 0, _ => exact zch_22_0
  | 1, _ => exact zch_22_60
  | j + 2, hj => omega)
theorem zch_23_0 : zinsAll 23 0 (((zcode 23).drop 0).take 60) = true := by decide +kernel
theorem zPm_23 : zPm 23 := zPm_of 23 60 1 (by decide +kernel) (fun j hj => by
  match j, hj with
  | 0, _ => exact zch_23_0
  | j + 1, hj => omega)
theorem zch_24_0 : zinsAll 24 0 (((zcode 24).drop 0).take 60) = true := by decide +kernel
theorem zch_24_60 : zinsAll 24 60 (((zcode 24).drop 60).take 60) = true := by decide +kernel
theorem zPm_24 : zPm 24 := zPm_of 24 60 2 (by decide +kernel) (fun j hj => by
  match j, hj with
  | 0, _ => exact zch_24_0
  | 1, _ => exact zch_24_60
  | j + 2, hj => omega)
theorem zch_25_0 : zinsAll 25 0 (((zcode 25).drop 0).take 60) = true := by decide +kernel
theorem zPm_25 : zPm 25 := zPm_of 25 60 1 (by decide +kernel) (fun j hj => by
  match j, hj with
  | 0, _ => exact zch_25_0
  | j + 1, hj => omega)
theorem zch_26_0 : zinsAll 26 0 (((zcode 26).drop 0).take 60) = true := by decide +kernel
theorem zPm_26 : zPm 26 := zPm_of 26 60 1 (by decide +kernel) (fun j hj => by
  match j, hj with
  | 0, _ => exact zch_26_0
  | j + 1, hj => omega)
theorem zch_27_0 : zinsAll 27 0 (((zcode 27).drop 0).take 60) = true := by decide +kernel
theorem zch_27_60 : zinsAll 27 60 (((zcode 27).drop 60).take 60) = true := by decide +kernel
theorem zch_27_120 : zinsAll 27 120 (((zcode 27).drop 120).take 60) = true := by decide +kernel
theorem zPm_27 : zPm 27 := zPm_of 27 60 3 (by decide +kernel) (fun j hj => by
  match j, hj with
  | 0, _ => exact zch_27_0
  | 1, _ => exact zch_27_60
  | 2, _ => exact zch_27_120
  | j + 3, hj => omega)
theorem zch_28_0 : zinsAll 28 0 (((zcode 28).drop 0).take 60) = true := by decide +kernel
theorem zch_28_60 : zinsAll 28 60 (((zcode 28).drop 60).take 60) = true := by decide +kernel
theorem zch_28_120 : zinsAll 28 120 (((zcode 28).drop 120).take 60) = true := by decide +kernel
theorem zPm_28 : zPm 28 := zPm_of 28 60 3 (by decide +kernel) (fun j hj => by
  match j, hj with
  | 0, _ => exact zch_28_0
  | 1, _ => exact zch_28_60
  | 2, _ => exact zch_28_120
  | j + 3, hj => omega)
theorem zch_29_0 : zinsAll 29 0 (((zcode 29).drop 0).take 60) = true := by decide +kernel
theorem zch_29_60 : zinsAll 29 60 (((zcode 29).drop 60).take 60) = true := by decide +kernel
theorem zch_29_120 : zinsAll 29 120 (((zcode 29).drop 120).take 60) = true := by decide +kernel
theorem zPm_29 : zPm 29 := zPm_of 29 60 3 (by decide +kernel) (fun j hj => by
  match j, hj with
  | 0, _ => exact zch_29_0
  | 1, _ => exact zch_29_60
  | 2, _ => exact zch_29_120
  | j + 3, hj => omega)
theorem zch_30_0 : zinsAll 30 0 (((zcode 30).drop 0).take 60) = true := by decide +kernel
theorem zPm_30 : zPm 30 := zPm_of 30 60 1 (by decide +kernel) (fun j hj => by
  match j, hj with
  | 0, _ => exact zch_30_0
  | j + 1, hj => omega)
theorem zch_31_0 : zinsAll 31 0 (((zcode 31).drop 0).take 60) = true := by decide +kernel
theorem zPm_31 : zPm 31 := zPm_of 31 60 1 (by decide +kernel) (fun j hj => by
  match j, hj with
  | 0, _ => exact zch_31_0
  | j + 1, hj => omega)
theorem zch_32_0 : zinsAll 32 0 (((zcode 32).drop 0).take 60) = true := by decide +kernel
theorem zch_32_60 : zinsAll 32 60 (((zcode 32).drop 60).take 60) = true := by decide +kernel
theorem zPm_32 : zPm 32 := zPm_of 32 60 2 (by decide +kernel) (fun j hj => by
  match j, hj with
  | 0, _ => exact zch_32_0
  | 1, _ => exact zch_32_60
  | j + 2, hj => omega)
theorem zch_33_0 : zinsAll 33 0 (((zcode 33).drop 0).take 60) = true := by decide +kernel
theorem zPm_33 : zPm 33 := zPm_of 33 60 1 (by decide +kernel) (fun j hj => by
  match j, hj with
  | 0, _ => exact zch_33_0
  | j + 1, hj => omega)
theorem zch_34_0 : zinsAll 34 0 (((zcode 34).drop 0).take 60) = true := by decide +kernel
theorem zPm_34 : zPm 34 := zPm_of 34 60 1 (by decide +kernel) (fun j hj => by
  match j, hj with
  | 0, _ => exact zch_34_0
  | j + 1, hj => omega)
theorem zch_35_0 : zinsAll 35 0 (((zcode 35).drop 0).take 60) = true := by decide +kernel
theorem zch_35_60 : zinsAll 35 60 (((zcode 35).drop 60).take 60) = true := by decide +kernel
theorem zPm_35 : zPm 35 := zPm_of 35 60 2 (by decide +kernel) (fun j hj => by
  match j, hj with
  | 0, _ => exact zch_35_0
  | 1, _ => exact zch_35_60
  | j + 2, hj => omega)
theorem zch_36_0 : zinsAll 36 0 (((zcode 36).drop 0).take 60) = true := by decide +kernel
theorem zPm_36 : zPm 36 := zPm_of 36 60 1 (by decide +kernel) (fun j hj => by
  match j, hj with
  | 0, _ => exact zch_36_0
  | j + 1, hj => omega)
theorem zch_37_0 : zinsAll 37 0 (((zcode 37).drop 0).take 60) = true := by decide +kernel
theorem zch_37_60 : zinsAll 37 60 (((zcode 37).drop 60).take 60) = true := by decide +kernel
theorem zPm_37 : zPm 37 := zPm_of 37 60 2 (by decide +kernel) (fun j hj => by
  match j, hj with
  | 0, _ => exact zch_37_0
  | 1, _ => exact zch_37_60
  | j + 2, hj => omega)
theorem zch_38_0 : zinsAll 38 0 (((zcode 38).drop 0).take 60) = true := by decide +kernel
theorem zPm_38 : zPm 38 := zPm_of 38 60 1 (by decide +kernel) (fun j hj => by
  match j, hj with
  | 0, _ => exact zch_38_0
  | j + 1, hj => omega)
theorem zch_39_0 : zinsAll 39 0 (((zcode 39).drop 0).take 60) = true := by decide +kernel
theorem zch_39_60 : zinsAll 39 60 (((zcode 39).drop 60).take 60) = true := by decide +kernel
theorem zPm_39 : zPm 39 := zPm_of 39 60 2 (by decide +kernel) (fun j hj => by
  match j, hj with
  | 0, _ => exact zch_39_0
  | 1, _ => exact zch_39_60
  | j + 2, hj => omega)
theorem zch_40_0 : zinsAll 40 0 (((zcode 40).drop 0).take 60) = true := by decide +kernel
theorem zPm_40 : zPm 40 := zPm_of 40 60 1 (by decide +kernel) (fun j hj => by
  match j, hj with
  | 0, _ => exact zch_40_0
  | j + 1, hj => omega)
theorem zch_41_0 : zinsAll 41 0 (((zcode 41).drop 0).take 60) = true := by decide +kernel
theorem zch_41_60 : zinsAll 41 60 (((zcode 41).drop 60).take 60) = true := by decide +kernel
theorem zPm_41 : zPm 41 := zPm_of 41 60 2 (by decide +kernel) (fun j hj => by
  match j, hj with
  | 0, _ => exact zch_41_0
  | 1, _ => exact zch_41_60
  | j + 2, hj => omega)
theorem zch_42_0 : zinsAll 42 0 (((zcode 42).drop 0).take 60) = true := by decide +kernel
theorem zch_42_60 : zinsAll 42 60 (((zcode 42).drop 60).take 60) = true := by decide +kernel
theorem zPm_42 : zPm 42 := zPm_of 42 60 2 (by decide +kernel) (fun j hj => by
  match j, hj with
  | 0, _ => exact zch_42_0
  | 1, _ => exact zch_42_60
  | j + 2, hj => omega)
theorem zch_43_0 : zinsAll 43 0 (((zcode 43).drop 0).take 60) = true := by decide +kernel
theorem zch_43_60 : zinsAll 43 60 (((zcode 43).drop 60).take 60) = true := by decide +kernel
theorem zPm_43 : zPm 43 := zPm_of 43 60 2 (by decide +kernel) (fun j hj => by
  match j, hj with
  | 0, _ => exact zch_43_0
  | 1, _ => exact zch_43_60
  | j + 2, hj => omega)
theorem zch_44_0 : zinsAll 44 0 (((zcode 44).drop 0).take 60) = true := by decide +kernel
theorem zch_44_60 : zinsAll 44 60 (((zcode 44).drop 60).take 60) = true := by decide +kernel
theorem zPm_44 : zPm 44 := zPm_of 44 60 2 (by decide +kernel) (fun j hj => by
  match j, hj with
  | 0, _ => exact zch_44_0
  | 1, _ => exact zch_44_60
  | j + 2, hj => omega)
theorem zch_45_0 : zinsAll 45 0 (((zcode 45).drop 0).take 60) = true := by decide +kernel
theorem zPm_45 : zPm 45 := zPm_of 45 60 1 (by decide +kernel) (fun j hj => by
  match j, hj with
  | 0, _ => exact zch_45_0
  | j + 1, hj => omega)
theorem zch_46_0 : zinsAll 46 0 (((zcode 46).drop 0).take 60) = true := by decide +kernel
theorem zPm_46 : zPm 46 := zPm_of 46 60 1 (by decide +kernel) (fun j hj => by
  match j, hj with
  | 0, _ => exact zch_46_0
  | j + 1, hj => omega)
theorem zch_47_0 : zinsAll 47 0 (((zcode 47).drop 0).take 60) = true := by decide +kernel
theorem zPm_47 : zPm 47 := zPm_of 47 60 1 (by decide +kernel) (fun j hj => by
  match j, hj with
  | 0, _ => exact zch_47_0
  | j + 1, hj => omega)
theorem zch_48_0 : zinsAll 48 0 (((zcode 48).drop 0).take 60) = true := by decide +kernel
theorem zPm_48 : zPm 48 := zPm_of 48 60 1 (by decide +kernel) (fun j hj => by
  match j, hj with
  | 0, _ => exact zch_48_0
  | j + 1, hj => omega)
theorem zch_49_0 : zinsAll 49 0 (((zcode 49).drop 0).take 60) = true := by decide +kernel
theorem zPm_49 : zPm 49 := zPm_of 49 60 1 (by decide +kernel) (fun j hj => by
  match j, hj with
  | 0, _ => exact zch_49_0
  | j + 1, hj => omega)
theorem zch_50_0 : zinsAll 50 0 (((zcode 50).drop 0).take 60) = true := by decide +kernel
theorem zPm_50 : zPm 50 := zPm_of 50 60 1 (by decide +kernel) (fun j hj => by
  match j, hj with
  | 0, _ => exact zch_50_0
  | j + 1, hj => omega)
theorem zch_51_0 : zinsAll 51 0 (((zcode 51).drop 0).take 60) = true := by decide +kernel
theorem zPm_51 : zPm 51 := zPm_of 51 60 1 (by decide +kernel) (fun j hj => by
  match j, hj with
  | 0, _ => exact zch_51_0
  | j + 1, hj => omega)
theorem zch_52_0 : zinsAll 52 0 (((zcode 52).drop 0).take 60) = true := by decide +kernel
theorem zch_52_60 : zinsAll 52 60 (((zcode 52).drop 60).take 60) = true := by decide +kernel
theorem zPm_52 : zPm 52 := zPm_of 52 60 2 (by decide +kernel) (fun j hj => by
  match j, hj with
  | 0, _ => exact zch_52_0
  | 1, _ => exact zch_52_60
  | j + 2, hj => omega)
theorem zch_53_0 : zinsAll 53 0 (((zcode 53).drop 0).take 60) = true := by decide +kernel
theorem zch_53_60 : zinsAll 53 60 (((zcode 53).drop 60).take 60) = true := by decide +kernel
theorem zPm_53 : zPm 53 := zPm_of 53 60 2 (by decide +kernel) (fun j hj => by
  match j, hj with
  | 0, _ => exact zch_53_0
  | 1, _ => exact zch_53_60
  | j + 2, hj => omega)
theorem zch_54_0 : zinsAll 54 0 (((zcode 54).drop 0).take 60) = true := by decide +kernel
theorem zPm_54 : zPm 54 := zPm_of 54 60 1 (by decide +kernel) (fun j hj => by
  match j, hj with
  | 0, _ => exact zch_54_0
  | j + 1, hj => omega)
theorem zch_55_0 : zinsAll 55 0 (((zcode 55).drop 0).take 60) = true := by decide +kernel
theorem zch_55_60 : zinsAll 55 60 (((zcode 55).drop 60).take 60) = true := by decide +kernel
theorem zPm_55 : zPm 55 := zPm_of 55 60 2 (by decide +kernel) (fun j hj => by
  match j, hj with
  | 0, _ => exact zch_55_0
  | 1, _ => exact zch_55_60
  | j + 2, hj => omega)
theorem zch_56_0 : zinsAll 56 0 (((zcode 56).drop 0).take 60) = true := by decide +kernel
theorem zPm_56 : zPm 56 := zPm_of 56 60 1 (by decide +kernel) (fun j hj => by
  match j, hj with
  | 0, _ => exact zch_56_0
  | j + 1, hj => omega)
theorem zch_57_0 : zinsAll 57 0 (((zcode 57).drop 0).take 60) = true := by decide +kernel
theorem zPm_57 : zPm 57 := zPm_of 57 60 1 (by decide +kernel) (fun j hj => by
  match j, hj with
  | 0, _ => exact zch_57_0
  | j + 1, hj => omega)
theorem zch_58_0 : zinsAll 58 0 (((zcode 58).drop 0).take 60) = true := by decide +kernel
theorem zPm_58 : zPm 58 := zPm_of 58 60 1 (by decide +kernel) (fun j hj => by
  match j, hj with
  | 0, _ => exact zch_58_0
  | j + 1, hj => omega)
theorem zch_59_0 : zinsAll 59 0 (((zcode 59).drop 0).take 60) = true := by decide +kernel
theorem zPm_59 : zPm 59 := zPm_of 59 60 1 (by decide +kernel) (fun j hj => by
  match j, hj with
  | 0, _ => exact zch_59_0
  | j + 1, hj => omega)
theorem zch_60_0 : zinsAll 60 0 (((zcode 60).drop 0).take 60) = true := by decide +kernel
theorem zPm_60 : zPm 60 := zPm_of 60 60 1 (by decide +kernel) (fun j hj => by
  match j, hj with
  | 0, _ => exact zch_60_0
  | j + 1, hj => omega)
theorem zch_61_0 : zinsAll 61 0 (((zcode 61).drop 0).take 60) = true := by decide +kernel
theorem zPm_61 : zPm 61 := zPm_of 61 60 1 (by decide +kernel) (fun j hj => by
  match j, hj with
  | 0, _ => exact zch_61_0
  | j + 1, hj => omega)
theorem zch_62_0 : zinsAll 62 0 (((zcode 62).drop 0).take 60) = true := by decide +kernel
theorem zch_62_60 : zinsAll 62 60 (((zcode 62).drop 60).take 60) = true := by decide +kernel
theorem zch_62_120 : zinsAll 62 120 (((zcode 62).drop 120).take 60) = true := by decide +kernel
theorem zch_62_180 : zinsAll 62 180 (((zcode 62).drop 180).take 60) = true := by decide +kernel
theorem zPm_62 : zPm 62 := zPm_of 62 60 4 (by decide +kernel) (fun j hj => by
  match j, hj with
  | 0, _ => exact zch_62_0
  | 1, _ => exact zch_62_60
  | 2, _ => exact zch_62_120
  | 3, _ => exact zch_62_180
  | j + 4, hj => omega)
theorem zch_63_0 : zinsAll 63 0 (((zcode 63).drop 0).take 60) = true := by decide +kernel
theorem zch_63_60 : zinsAll 63 60 (((zcode 63).drop 60).take 60) = true := by decide +kernel
theorem zch_63_120 : zinsAll 63 120 (((zcode 63).drop 120).take 60) = true := by decide +kernel
theorem zPm_63 : zPm 63 := zPm_of 63 60 3 (by decide +kernel) (fun j hj => by
  match j, hj with
  | 0, _ => exact zch_63_0
  | 1, _ => exact zch_63_60
  | 2, _ => exact zch_63_120
  | j + 3, hj => omega)
theorem zch_64_0 : zinsAll 64 0 (((zcode 64).drop 0).take 60) = true := by decide +kernel
theorem zPm_64 : zPm 64 := zPm_of 64 60 1 (by decide +kernel) (fun j hj => by
  match j, hj with
  | 0, _ => exact zch_64_0
  | j + 1, hj => omega)
theorem zch_65_0 : zinsAll 65 0 (((zcode 65).drop 0).take 60) = true := by decide +kernel
theorem zPm_65 : zPm 65 := zPm_of 65 60 1 (by decide +kernel) (fun j hj => by
  match j, hj with
  | 0, _ => exact zch_65_0
  | j + 1, hj => omega)
theorem zch_66_0 : zinsAll 66 0 (((zcode 66).drop 0).take 60) = true := by decide +kernel
theorem zch_66_60 : zinsAll 66 60 (((zcode 66).drop 60).take 60) = true := by decide +kernel
theorem zPm_66 : zPm 66 := zPm_of 66 60 2 (by decide +kernel) (fun j hj => by
  match j, hj with
  | 0, _ => exact zch_66_0
  | 1, _ => exact zch_66_60
  | j + 2, hj => omega)
theorem zch_67_0 : zinsAll 67 0 (((zcode 67).drop 0).take 60) = true := by decide +kernel
theorem zPm_67 : zPm 67 := zPm_of 67 60 1 (by decide +kernel) (fun j hj => by
  match j, hj with
  | 0, _ => exact zch_67_0
  | j + 1, hj => omega)
theorem zch_68_0 : zinsAll 68 0 (((zcode 68).drop 0).take 60) = true := by decide +kernel
theorem zPm_68 : zPm 68 := zPm_of 68 60 1 (by decide +kernel) (fun j hj => by
  match j, hj with
  | 0, _ => exact zch_68_0
  | j + 1, hj => omega)
theorem zch_69_0 : zinsAll 69 0 (((zcode 69).drop 0).take 60) = true := by decide +kernel
theorem zPm_69 : zPm 69 := zPm_of 69 60 1 (by decide +kernel) (fun j hj => by
  match j, hj with
  | 0, _ => exact zch_69_0
  | j + 1, hj => omega)
theorem zch_70_0 : zinsAll 70 0 (((zcode 70).drop 0).take 60) = true := by decide +kernel
theorem zPm_70 : zPm 70 := zPm_of 70 60 1 (by decide +kernel) (fun j hj => by
  match j, hj with
  | 0, _ => exact zch_70_0
  | j + 1, hj => omega)
theorem zch_71_0 : zinsAll 71 0 (((zcode 71).drop 0).take 60) = true := by decide +kernel
theorem zPm_71 : zPm 71 := zPm_of 71 60 1 (by decide +kernel) (fun j hj => by
  match j, hj with
  | 0, _ => exact zch_71_0
  | j + 1, hj => omega)
theorem zch_72_0 : zinsAll 72 0 (((zcode 72).drop 0).take 60) = true := by decide +kernel
theorem zPm_72 : zPm 72 := zPm_of 72 60 1 (by decide +kernel) (fun j hj => by
  match j, hj with
  | 0, _ => exact zch_72_0
  | j + 1, hj => omega)
theorem zch_73_0 : zinsAll 73 0 (((zcode 73).drop 0).take 60) = true := by decide +kernel
theorem zPm_73 : zPm 73 := zPm_of 73 60 1 (by decide +kernel) (fun j hj => by
  match j, hj with
  | 0, _ => exact zch_73_0
  | j + 1, hj => omega)
theorem zch_74_0 : zinsAll 74 0 (((zcode 74).drop 0).take 60) = true := by decide +kernel
theorem zPm_74 : zPm 74 := zPm_of 74 60 1 (by decide +kernel) (fun j hj => by
  match j, hj with
  | 0, _ => exact zch_74_0
  | j + 1, hj => omega)
theorem zch_75_0 : zinsAll 75 0 (((zcode 75).drop 0).take 60) = true := by decide +kernel
theorem zPm_75 : zPm 75 := zPm_of 75 60 1 (by decide +kernel) (fun j hj => by
  match j, hj with
  | 0, _ => exact zch_75_0
  | j + 1, hj => omega)
theorem zch_76_0 : zinsAll 76 0 (((zcode 76).drop 0).take 60) = true := by decide +kernel
theorem zPm_76 : zPm 76 := zPm_of 76 60 1 (by decide +kernel) (fun j hj => by
  match j, hj with
  | 0, _ => exact zch_76_0
  | j + 1, hj => omega)
theorem zch_77_0 : zinsAll 77 0 (((zcode 77).drop 0).take 60) = true := by decide +kernel
theorem zch_77_60 : zinsAll 77 60 (((zcode 77).drop 60).take 60) = true := by decide +kernel
theorem zPm_77 : zPm 77 := zPm_of 77 60 2 (by decide +kernel) (fun j hj => by
  match j, hj with
  | 0, _ => exact zch_77_0
  | 1, _ => exact zch_77_60
  | j + 2, hj => omega)
theorem zch_78_0 : zinsAll 78 0 (((zcode 78).drop 0).take 60) = true := by decide +kernel
theorem zch_78_60 : zinsAll 78 60 (((zcode 78).drop 60).take 60) = true := by decide +kernel
theorem zPm_78 : zPm 78 := zPm_of 78 60 2 (by decide +kernel) (fun j hj => by
  match j, hj with
  | 0, _ => exact zch_78_0
  | 1, _ => exact zch_78_60
  | j + 2, hj => omega)
theorem zch_79_0 : zinsAll 79 0 (((zcode 79).drop 0).take 60) = true := by decide +kernel
theorem zPm_79 : zPm 79 := zPm_of 79 60 1 (by decide +kernel) (fun j hj => by
  match j, hj with
  | 0, _ => exact zch_79_0
  | j + 1, hj => omega)
theorem zch_80_0 : zinsAll 80 0 (((zcode 80).drop 0).take 60) = true := by decide +kernel
theorem zPm_80 : zPm 80 := zPm_of 80 60 1 (by decide +kernel) (fun j hj => by
  match j, hj with
  | 0, _ => exact zch_80_0
  | j + 1, hj => omega)
theorem zch_81_0 : zinsAll 81 0 (((zcode 81).drop 0).take 60) = true := by decide +kernel
theorem zPm_81 : zPm 81 := zPm_of 81 60 1 (by decide +kernel) (fun j hj => by
  match j, hj with
  | 0, _ => exact zch_81_0
  | j + 1, hj => omega)
theorem zch_82_0 : zinsAll 82 0 (((zcode 82).drop 0).take 60) = true := by decide +kernel
theorem zPm_82 : zPm 82 := zPm_of 82 60 1 (by decide +kernel) (fun j hj => by
  match j, hj with
  | 0, _ => exact zch_82_0
  | j + 1, hj => omega)
theorem zch_83_0 : zinsAll 83 0 (((zcode 83).drop 0).take 60) = true := by decide +kernel
theorem zPm_83 : zPm 83 := zPm_of 83 60 1 (by decide +kernel) (fun j hj => by
  match j, hj with
  | 0, _ => exact zch_83_0
  | j + 1, hj => omega)
theorem zch_84_0 : zinsAll 84 0 (((zcode 84).drop 0).take 60) = true := by decide +kernel
theorem zPm_84 : zPm 84 := zPm_of 84 60 1 (by decide +kernel) (fun j hj => by
  match j, hj with
  | 0, _ => exact zch_84_0
  | j + 1, hj => omega)
theorem zch_85_0 : zinsAll 85 0 (((zcode 85).drop 0).take 60) = true := by decide +kernel
theorem zPm_85 : zPm 85 := zPm_of 85 60 1 (by decide +kernel) (fun j hj => by
  match j, hj with
  | 0, _ => exact zch_85_0
  | j + 1, hj => omega)
theorem zch_86_0 : zinsAll 86 0 (((zcode 86).drop 0).take 60) = true := by decide +kernel
theorem zch_86_60 : zinsAll 86 60 (((zcode 86).drop 60).take 60) = true := by decide +kernel
theorem zPm_86 : zPm 86 := zPm_of 86 60 2 (by decide +kernel) (fun j hj => by
  match j, hj with
  | 0, _ => exact zch_86_0
  | 1, _ => exact zch_86_60
  | j + 2, hj => omega)
theorem zch_87_0 : zinsAll 87 0 (((zcode 87).drop 0).take 60) = true := by decide +kernel
theorem zPm_87 : zPm 87 := zPm_of 87 60 1 (by decide +kernel) (fun j hj => by
  match j, hj with
  | 0, _ => exact zch_87_0
  | j + 1, hj => omega)
theorem zch_88_0 : zinsAll 88 0 (((zcode 88).drop 0).take 60) = true := by decide +kernel
theorem zch_88_60 : zinsAll 88 60 (((zcode 88).drop 60).take 60) = true := by decide +kernel
theorem zPm_88 : zPm 88 := zPm_of 88 60 2 (by decide +kernel) (fun j hj => by
  match j, hj with
  | 0, _ => exact zch_88_0
  | 1, _ => exact zch_88_60
  | j + 2, hj => omega)
theorem zch_89_0 : zinsAll 89 0 (((zcode 89).drop 0).take 60) = true := by decide +kernel
theorem zch_89_60 : zinsAll 89 60 (((zcode 89).drop 60).take 60) = true := by decide +kernel
theorem zPm_89 : zPm 89 := zPm_of 89 60 2 (by decide +kernel) (fun j hj => by
  match j, hj with
  | 0, _ => exact zch_89_0
  | 1, _ => exact zch_89_60
  | j + 2, hj => omega)
theorem zch_90_0 : zinsAll 90 0 (((zcode 90).drop 0).take 60) = true := by decide +kernel
theorem zPm_90 : zPm 90 := zPm_of 90 60 1 (by decide +kernel) (fun j hj => by
  match j, hj with
  | 0, _ => exact zch_90_0
  | j + 1, hj => omega)
theorem zch_91_0 : zinsAll 91 0 (((zcode 91).drop 0).take 60) = true := by decide +kernel
theorem zPm_91 : zPm 91 := zPm_of 91 60 1 (by decide +kernel) (fun j hj => by
  match j, hj with
  | 0, _ => exact zch_91_0
  | j + 1, hj => omega)
theorem zch_92_0 : zinsAll 92 0 (((zcode 92).drop 0).take 60) = true := by decide +kernel
theorem zch_92_60 : zinsAll 92 60 (((zcode 92).drop 60).take 60) = true := by decide +kernel
theorem zch_92_120 : zinsAll 92 120 (((zcode 92).drop 120).take 60) = true := by decide +kernel
theorem zch_92_180 : zinsAll 92 180 (((zcode 92).drop 180).take 60) = true := by decide +kernel
theorem zch_92_240 : zinsAll 92 240 (((zcode 92).drop 240).take 60) = true := by decide +kernel
theorem zPm_92 : zPm 92 := zPm_of 92 60 5 (by decide +kernel) (fun j hj => by
  match j, hj with
  | 0, _ => exact zch_92_0
  | 1, _ => exact zch_92_60
  | 2, _ => exact zch_92_120
  | 3, _ => exact zch_92_180
  | 4, _ => exact zch_92_240
  | j + 5, hj => omega)
theorem zch_93_0 : zinsAll 93 0 (((zcode 93).drop 0).take 60) = true := by decide +kernel
theorem zPm_93 : zPm 93 := zPm_of 93 60 1 (by decide +kernel) (fun j hj => by
  match j, hj with
  | 0, _ => exact zch_93_0
  | j + 1, hj => omega)
theorem zch_94_0 : zinsAll 94 0 (((zcode 94).drop 0).take 60) = true := by decide +kernel
theorem zPm_94 : zPm 94 := zPm_of 94 60 1 (by decide +kernel) (fun j hj => by
  match j, hj with
  | 0, _ => exact zch_94_0
  | j + 1, hj => omega)
theorem zch_95_0 : zinsAll 95 0 (((zcode 95).drop 0).take 60) = true := by decide +kernel
theorem zPm_95 : zPm 95 := zPm_of 95 60 1 (by decide +kernel) (fun j hj => by
  match j, hj with
  | 0, _ => exact zch_95_0
  | j + 1, hj => omega)
theorem zch_96_0 : zinsAll 96 0 (((zcode 96).drop 0).take 60) = true := by decide +kernel
theorem zPm_96 : zPm 96 := zPm_of 96 60 1 (by decide +kernel) (fun j hj => by
  match j, hj with
  | 0, _ => exact zch_96_0
  | j + 1, hj => omega)
theorem zch_97_0 : zinsAll 97 0 (((zcode 97).drop 0).take 60) = true := by decide +kernel
theorem zch_97_60 : zinsAll 97 60 (((zcode 97).drop 60).take 60) = true := by decide +kernel
theorem zPm_97 : zPm 97 := zPm_of 97 60 2 (by decide +kernel) (fun j hj => by
  match j, hj with
  | 0, _ => exact zch_97_0
  | 1, _ => exact zch_97_60
  | j + 2, hj => omega)
theorem zch_98_0 : zinsAll 98 0 (((zcode 98).drop 0).take 60) = true := by decide +kernel
theorem zPm_98 : zPm 98 := zPm_of 98 60 1 (by decide +kernel) (fun j hj => by
  match j, hj with
  | 0, _ => exact zch_98_0
  | j + 1, hj => omega)
theorem zch_99_0 : zinsAll 99 0 (((zcode 99).drop 0).take 60) = true := by decide +kernel
theorem zPm_99 : zPm 99 := zPm_of 99 60 1 (by decide +kernel) (fun j hj => by
  match j, hj with
  | 0, _ => exact zch_99_0
  | j + 1, hj => omega)
theorem zch_100_0 : zinsAll 100 0 (((zcode 100).drop 0).take 60) = true := by decide +kernel
theorem zPm_100 : zPm 100 := zPm_of 100 60 1 (by decide +kernel) (fun j hj => by
  match j, hj with
  | 0, _ => exact zch_100_0
  | j + 1, hj => omega)
theorem zch_101_0 : zinsAll 101 0 (((zcode 101).drop 0).take 60) = true := by decide +kernel
theorem zPm_101 : zPm 101 := zPm_of 101 60 1 (by decide +kernel) (fun j hj => by
  match j, hj with
  | 0, _ => exact zch_101_0
  | j + 1, hj => omega)
theorem zch_102_0 : zinsAll 102 0 (((zcode 102).drop 0).take 60) = true := by decide +kernel
theorem zPm_102 : zPm 102 := zPm_of 102 60 1 (by decide +kernel) (fun j hj => by
  match j, hj with
  | 0, _ => exact zch_102_0
  | j + 1, hj => omega)
theorem zch_103_0 : zinsAll 103 0 (((zcode 103).drop 0).take 60) = true := by decide +kernel
theorem zPm_103 : zPm 103 := zPm_of 103 60 1 (by decide +kernel) (fun j hj => by
  match j, hj with
  | 0, _ => exact zch_103_0
  | j + 1, hj => omega)
theorem zch_104_0 : zinsAll 104 0 (((zcode 104).drop 0).take 60) = true := by decide +kernel
theorem zPm_104 : zPm 104 := zPm_of 104 60 1 (by decide +kernel) (fun j hj => by
  match j, hj with
  | 0, _ => exact zch_104_0
  | j + 1, hj => omega)
theorem zch_105_0 : zinsAll 105 0 (((zcode 105).drop 0).take 60) = true := by decide +kernel
theorem zPm_105 : zPm 105 := zPm_of 105 60 1 (by decide +kernel) (fun j hj => by
  match j, hj with
  | 0, _ => exact zch_105_0
  | j + 1, hj => omega)
theorem zch_106_0 : zinsAll 106 0 (((zcode 106).drop 0).take 60) = true := by decide +kernel
theorem zPm_106 : zPm 106 := zPm_of 106 60 1 (by decide +kernel) (fun j hj => by
  match j, hj with
  | 0, _ => exact zch_106_0
  | j + 1, hj => omega)
theorem zch_107_0 : zinsAll 107 0 (((zcode 107).drop 0).take 60) = true := by decide +kernel
theorem zPm_107 : zPm 107 := zPm_of 107 60 1 (by decide +kernel) (fun j hj => by
  match j, hj with
  | 0, _ => exact zch_107_0
  | j + 1, hj => omega)
theorem zch_108_0 : zinsAll 108 0 (((zcode 108).drop 0).take 60) = true := by decide +kernel
theorem zPm_108 : zPm 108 := zPm_of 108 60 1 (by decide +kernel) (fun j hj => by
  match j, hj with
  | 0, _ => exact zch_108_0
  | j + 1, hj => omega)
theorem zch_109_0 : zinsAll 109 0 (((zcode 109).drop 0).take 60) = true := by decide +kernel
theorem zPm_109 : zPm 109 := zPm_of 109 60 1 (by decide +kernel) (fun j hj => by
  match j, hj with
  | 0, _ => exact zch_109_0
  | j + 1, hj => omega)
theorem zch_110_0 : zinsAll 110 0 (((zcode 110).drop 0).take 60) = true := by decide +kernel
theorem zPm_110 : zPm 110 := zPm_of 110 60 1 (by decide +kernel) (fun j hj => by
  match j, hj with
  | 0, _ => exact zch_110_0
  | j + 1, hj => omega)
theorem zch_111_0 : zinsAll 111 0 (((zcode 111).drop 0).take 60) = true := by decide +kernel
theorem zPm_111 : zPm 111 := zPm_of 111 60 1 (by decide +kernel) (fun j hj => by
  match j, hj with
  | 0, _ => exact zch_111_0
  | j + 1, hj => omega)
theorem zch_112_0 : zinsAll 112 0 (((zcode 112).drop 0).take 60) = true := by decide +kernel
theorem zPm_112 : zPm 112 := zPm_of 112 60 1 (by decide +kernel) (fun j hj => by
  match j, hj with
  | 0, _ => exact zch_112_0
  | j + 1, hj => omega)
theorem zch_113_0 : zinsAll 113 0 (((zcode 113).drop 0).take 60) = true := by decide +kernel
theorem zPm_113 : zPm 113 := zPm_of 113 60 1 (by decide +kernel) (fun j hj => by
  match j, hj with
  | 0, _ => exact zch_113_0
  | j + 1, hj => omega)
theorem zch_114_0 : zinsAll 114 0 (((zcode 114).drop 0).take 60) = true := by decide +kernel
theorem zPm_114 : zPm 114 := zPm_of 114 60 1 (by decide +kernel) (fun j hj => by
  match j, hj with
  | 0, _ => exact zch_114_0
  | j + 1, hj => omega)
theorem zch_115_0 : zinsAll 115 0 (((zcode 115).drop 0).take 60) = true := by decide +kernel
theorem zPm_115 : zPm 115 := zPm_of 115 60 1 (by decide +kernel) (fun j hj => by
  match j, hj with
  | 0, _ => exact zch_115_0
  | j + 1, hj => omega)
theorem zch_116_0 : zinsAll 116 0 (((zcode 116).drop 0).take 60) = true := by decide +kernel
theorem zPm_116 : zPm 116 := zPm_of 116 60 1 (by decide +kernel) (fun j hj => by
  match j, hj with
  | 0, _ => exact zch_116_0
  | j + 1, hj => omega)
theorem zch_117_0 : zinsAll 117 0 (((zcode 117).drop 0).take 60) = true := by decide +kernel
theorem zPm_117 : zPm 117 := zPm_of 117 60 1 (by decide +kernel) (fun j hj => by
  match j, hj with
  | 0, _ => exact zch_117_0
  | j + 1, hj => omega)
theorem zch_118_0 : zinsAll 118 0 (((zcode 118).drop 0).take 60) = true := by decide +kernel
theorem zPm_118 : zPm 118 := zPm_of 118 60 1 (by decide +kernel) (fun j hj => by
  match j, hj with
  | 0, _ => exact zch_118_0
  | j + 1, hj => omega)
theorem zch_119_0 : zinsAll 119 0 (((zcode 119).drop 0).take 60) = true := by decide +kernel
theorem zch_119_60 : zinsAll 119 60 (((zcode 119).drop 60).take 60) = true := by decide +kernel
theorem zPm_119 : zPm 119 := zPm_of 119 60 2 (by decide +kernel) (fun j hj => by
  match j, hj with
  | 0, _ => exact zch_119_0
  | 1, _ => exact zch_119_60
  | j + 2, hj => omega)
theorem zch_120_0 : zinsAll 120 0 (((zcode 120).drop 0).take 60) = true := by decide +kernel
theorem zch_120_60 : zinsAll 120 60 (((zcode 120).drop 60).take 60) = true := by decide +kernel
theorem zPm_120 : zPm 120 := zPm_of 120 60 2 (by decide +kernel) (fun j hj => by
  match j, hj with
  | 0, _ => exact zch_120_0
  | 1, _ => exact zch_120_60
  | j + 2, hj => omega)
theorem zch_121_0 : zinsAll 121 0 (((zcode 121).drop 0).take 60) = true := by decide +kernel
theorem zPm_121 : zPm 121 := zPm_of 121 60 1 (by decide +kernel) (fun j hj => by
  match j, hj with
  | 0, _ => exact zch_121_0
  | j + 1, hj => omega)
theorem zch_122_0 : zinsAll 122 0 (((zcode 122).drop 0).take 60) = true := by decide +kernel
theorem zch_122_60 : zinsAll 122 60 (((zcode 122).drop 60).take 60) = true := by decide +kernel
theorem zPm_122 : zPm 122 := zPm_of 122 60 2 (by decide +kernel) (fun j hj => by
  match j, hj with
  | 0, _ => exact zch_122_0
  | 1, _ => exact zch_122_60
  | j + 2, hj => omega)
theorem zch_123_0 : zinsAll 123 0 (((zcode 123).drop 0).take 60) = true := by decide +kernel
theorem zch_123_60 : zinsAll 123 60 (((zcode 123).drop 60).take 60) = true := by decide +kernel
theorem zPm_123 : zPm 123 := zPm_of 123 60 2 (by decide +kernel) (fun j hj => by
  match j, hj with
  | 0, _ => exact zch_123_0
  | 1, _ => exact zch_123_60
  | j + 2, hj => omega)
theorem zch_124_0 : zinsAll 124 0 (((zcode 124).drop 0).take 60) = true := by decide +kernel
theorem zch_124_60 : zinsAll 124 60 (((zcode 124).drop 60).take 60) = true := by decide +kernel
theorem zPm_124 : zPm 124 := zPm_of 124 60 2 (by decide +kernel) (fun j hj => by
  match j, hj with
  | 0, _ => exact zch_124_0
  | 1, _ => exact zch_124_60
  | j + 2, hj => omega)
theorem zch_125_0 : zinsAll 125 0 (((zcode 125).drop 0).take 60) = true := by decide +kernel
theorem zch_125_60 : zinsAll 125 60 (((zcode 125).drop 60).take 60) = true := by decide +kernel
theorem zPm_125 : zPm 125 := zPm_of 125 60 2 (by decide +kernel) (fun j hj => by
  match j, hj with
  | 0, _ => exact zch_125_0
  | 1, _ => exact zch_125_60
  | j + 2, hj => omega)
theorem zch_126_0 : zinsAll 126 0 (((zcode 126).drop 0).take 60) = true := by decide +kernel
theorem zPm_126 : zPm 126 := zPm_of 126 60 1 (by decide +kernel) (fun j hj => by
  match j, hj with
  | 0, _ => exact zch_126_0
  | j + 1, hj => omega)
theorem zch_127_0 : zinsAll 127 0 (((zcode 127).drop 0).take 60) = true := by decide +kernel
theorem zch_127_60 : zinsAll 127 60 (((zcode 127).drop 60).take 60) = true := by decide +kernel
theorem zPm_127 : zPm 127 := zPm_of 127 60 2 (by decide +kernel) (fun j hj => by
  match j, hj with
  | 0, _ => exact zch_127_0
  | 1, _ => exact zch_127_60
  | j + 2, hj => omega)
theorem zch_128_0 : zinsAll 128 0 (((zcode 128).drop 0).take 60) = true := by decide +kernel
theorem zPm_128 : zPm 128 := zPm_of 128 60 1 (by decide +kernel) (fun j hj => by
  match j, hj with
  | 0, _ => exact zch_128_0
  | j + 1, hj => omega)
theorem zch_129_0 : zinsAll 129 0 (((zcode 129).drop 0).take 60) = true := by decide +kernel
theorem zch_129_60 : zinsAll 129 60 (((zcode 129).drop 60).take 60) = true := by decide +kernel
theorem zPm_129 : zPm 129 := zPm_of 129 60 2 (by decide +kernel) (fun j hj => by
  match j, hj with
  | 0, _ => exact zch_129_0
  | 1, _ => exact zch_129_60
  | j + 2, hj => omega)
theorem zch_130_0 : zinsAll 130 0 (((zcode 130).drop 0).take 60) = true := by decide +kernel
theorem zch_130_60 : zinsAll 130 60 (((zcode 130).drop 60).take 60) = true := by decide +kernel
theorem zPm_130 : zPm 130 := zPm_of 130 60 2 (by decide +kernel) (fun j hj => by
  match j, hj with
  | 0, _ => exact zch_130_0
  | 1, _ => exact zch_130_60
  | j + 2, hj => omega)
theorem zch_131_0 : zinsAll 131 0 (((zcode 131).drop 0).take 60) = true := by decide +kernel
theorem zch_131_60 : zinsAll 131 60 (((zcode 131).drop 60).take 60) = true := by decide +kernel
theorem zPm_131 : zPm 131 := zPm_of 131 60 2 (by decide +kernel) (fun j hj => by
  match j, hj with
  | 0, _ => exact zch_131_0
  | 1, _ => exact zch_131_60
  | j + 2, hj => omega)
theorem zch_132_0 : zinsAll 132 0 (((zcode 132).drop 0).take 60) = true := by decide +kernel
theorem zPm_132 : zPm 132 := zPm_of 132 60 1 (by decide +kernel) (fun j hj => by
  match j, hj with
  | 0, _ => exact zch_132_0
  | j + 1, hj => omega)
theorem zch_133_0 : zinsAll 133 0 (((zcode 133).drop 0).take 60) = true := by decide +kernel
theorem zPm_133 : zPm 133 := zPm_of 133 60 1 (by decide +kernel) (fun j hj => by
  match j, hj with
  | 0, _ => exact zch_133_0
  | j + 1, hj => omega)
theorem zch_134_0 : zinsAll 134 0 (((zcode 134).drop 0).take 60) = true := by decide +kernel
theorem zch_134_60 : zinsAll 134 60 (((zcode 134).drop 60).take 60) = true := by decide +kernel
theorem zPm_134 : zPm 134 := zPm_of 134 60 2 (by decide +kernel) (fun j hj => by
  match j, hj with
  | 0, _ => exact zch_134_0
  | 1, _ => exact zch_134_60
  | j + 2, hj => omega)
theorem zch_135_0 : zinsAll 135 0 (((zcode 135).drop 0).take 60) = true := by decide +kernel
theorem zch_135_60 : zinsAll 135 60 (((zcode 135).drop 60).take 60) = true := by decide +kernel
theorem zPm_135 : zPm 135 := zPm_of 135 60 2 (by decide +kernel) (fun j hj => by
  match j, hj with
  | 0, _ => exact zch_135_0
  | 1, _ => exact zch_135_60
  | j + 2, hj => omega)
theorem zch_136_0 : zinsAll 136 0 (((zcode 136).drop 0).take 60) = true := by decide +kernel
theorem zPm_136 : zPm 136 := zPm_of 136 60 1 (by decide +kernel) (fun j hj => by
  match j, hj with
  | 0, _ => exact zch_136_0
  | j + 1, hj => omega)
theorem zch_137_0 : zinsAll 137 0 (((zcode 137).drop 0).take 60) = true := by decide +kernel
theorem zPm_137 : zPm 137 := zPm_of 137 60 1 (by decide +kernel) (fun j hj => by
  match j, hj with
  | 0, _ => exact zch_137_0
  | j + 1, hj => omega)
theorem zch_138_0 : zinsAll 138 0 (((zcode 138).drop 0).take 60) = true := by decide +kernel
theorem zch_138_60 : zinsAll 138 60 (((zcode 138).drop 60).take 60) = true := by decide +kernel
theorem zPm_138 : zPm 138 := zPm_of 138 60 2 (by decide +kernel) (fun j hj => by
  match j, hj with
  | 0, _ => exact zch_138_0
  | 1, _ => exact zch_138_60
  | j + 2, hj => omega)
theorem zch_139_0 : zinsAll 139 0 (((zcode 139).drop 0).take 60) = true := by decide +kernel
theorem zch_139_60 : zinsAll 139 60 (((zcode 139).drop 60).take 60) = true := by decide +kernel
theorem zch_139_120 : zinsAll 139 120 (((zcode 139).drop 120).take 60) = true := by decide +kernel
theorem zPm_139 : zPm 139 := zPm_of 139 60 3 (by decide +kernel) (fun j hj => by
  match j, hj with
  | 0, _ => exact zch_139_0
  | 1, _ => exact zch_139_60
  | 2, _ => exact zch_139_120
  | j + 3, hj => omega)
theorem zch_140_0 : zinsAll 140 0 (((zcode 140).drop 0).take 60) = true := by decide +kernel
theorem zch_140_60 : zinsAll 140 60 (((zcode 140).drop 60).take 60) = true := by decide +kernel
theorem zPm_140 : zPm 140 := zPm_of 140 60 2 (by decide +kernel) (fun j hj => by
  match j, hj with
  | 0, _ => exact zch_140_0
  | 1, _ => exact zch_140_60
  | j + 2, hj => omega)
theorem zch_141_0 : zinsAll 141 0 (((zcode 141).drop 0).take 60) = true := by decide +kernel
theorem zch_141_60 : zinsAll 141 60 (((zcode 141).drop 60).take 60) = true := by decide +kernel
theorem zch_141_120 : zinsAll 141 120 (((zcode 141).drop 120).take 60) = true := by decide +kernel
theorem zPm_141 : zPm 141 := zPm_of 141 60 3 (by decide +kernel) (fun j hj => by
  match j, hj with
  | 0, _ => exact zch_141_0
  | 1, _ => exact zch_141_60
  | 2, _ => exact zch_141_120
  | j + 3, hj => omega)
theorem zch_142_0 : zinsAll 142 0 (((zcode 142).drop 0).take 60) = true := by decide +kernel
theorem zPm_142 : zPm 142 := zPm_of 142 60 1 (by decide +kernel) (fun j hj => by
  match j, hj with
  | 0, _ => exact zch_142_0
  | j + 1, hj => omega)
theorem zch_143_0 : zinsAll 143 0 (((zcode 143).drop 0).take 60) = true := by decide +kernel
theorem zch_143_60 : zinsAll 143 60 (((zcode 143).drop 60).take 60) = true := by decide +kernel
theorem zPm_143 : zPm 143 := zPm_of 143 60 2 (by decide +kernel) (fun j hj => by
  match j, hj with
  | 0, _ => exact zch_143_0
  | 1, _ => exact zch_143_60
  | j + 2, hj => omega)
theorem zch_144_0 : zinsAll 144 0 (((zcode 144).drop 0).take 60) = true := by decide +kernel
theorem zch_144_60 : zinsAll 144 60 (((zcode 144).drop 60).take 60) = true := by decide +kernel
theorem zPm_144 : zPm 144 := zPm_of 144 60 2 (by decide +kernel) (fun j hj => by
  match j, hj with
  | 0, _ => exact zch_144_0
  | 1, _ => exact zch_144_60
  | j + 2, hj => omega)
theorem zch_145_0 : zinsAll 145 0 (((zcode 145).drop 0).take 60) = true := by decide +kernel
theorem zch_145_60 : zinsAll 145 60 (((zcode 145).drop 60).take 60) = true := by decide +kernel
theorem zPm_145 : zPm 145 := zPm_of 145 60 2 (by decide +kernel) (fun j hj => by
  match j, hj with
  | 0, _ => exact zch_145_0
  | 1, _ => exact zch_145_60
  | j + 2, hj => omega)
theorem zch_146_0 : zinsAll 146 0 (((zcode 146).drop 0).take 60) = true := by decide +kernel
theorem zPm_146 : zPm 146 := zPm_of 146 60 1 (by decide +kernel) (fun j hj => by
  match j, hj with
  | 0, _ => exact zch_146_0
  | j + 1, hj => omega)
theorem zch_147_0 : zinsAll 147 0 (((zcode 147).drop 0).take 60) = true := by decide +kernel
theorem zch_147_60 : zinsAll 147 60 (((zcode 147).drop 60).take 60) = true := by decide +kernel
theorem zPm_147 : zPm 147 := zPm_of 147 60 2 (by decide +kernel) (fun j hj => by
  match j, hj with
  | 0, _ => exact zch_147_0
  | 1, _ => exact zch_147_60
  | j + 2, hj => omega)
theorem zch_148_0 : zinsAll 148 0 (((zcode 148).drop 0).take 60) = true := by decide +kernel
theorem zch_148_60 : zinsAll 148 60 (((zcode 148).drop 60).take 60) = true := by decide +kernel
theorem zPm_148 : zPm 148 := zPm_of 148 60 2 (by decide +kernel) (fun j hj => by
  match j, hj with
  | 0, _ => exact zch_148_0
  | 1, _ => exact zch_148_60
  | j + 2, hj => omega)
theorem zch_149_0 : zinsAll 149 0 (((zcode 149).drop 0).take 60) = true := by decide +kernel
theorem zPm_149 : zPm 149 := zPm_of 149 60 1 (by decide +kernel) (fun j hj => by
  match j, hj with
  | 0, _ => exact zch_149_0
  | j + 1, hj => omega)
theorem zch_150_0 : zinsAll 150 0 (((zcode 150).drop 0).take 60) = true := by decide +kernel
theorem zPm_150 : zPm 150 := zPm_of 150 60 1 (by decide +kernel) (fun j hj => by
  match j, hj with
  | 0, _ => exact zch_150_0
  | j + 1, hj => omega)
theorem zch_151_0 : zinsAll 151 0 (((zcode 151).drop 0).take 60) = true := by decide +kernel
theorem zPm_151 : zPm 151 := zPm_of 151 60 1 (by decide +kernel) (fun j hj => by
  match j, hj with
  | 0, _ => exact zch_151_0
  | j + 1, hj => omega)
theorem zch_152_0 : zinsAll 152 0 (((zcode 152).drop 0).take 60) = true := by decide +kernel
theorem zch_152_60 : zinsAll 152 60 (((zcode 152).drop 60).take 60) = true := by decide +kernel
theorem zPm_152 : zPm 152 := zPm_of 152 60 2 (by decide +kernel) (fun j hj => by
  match j, hj with
  | 0, _ => exact zch_152_0
  | 1, _ => exact zch_152_60
  | j + 2, hj => omega)
theorem zch_153_0 : zinsAll 153 0 (((zcode 153).drop 0).take 60) = true := by decide +kernel
theorem zPm_153 : zPm 153 := zPm_of 153 60 1 (by decide +kernel) (fun j hj => by
  match j, hj with
  | 0, _ => exact zch_153_0
  | j + 1, hj => omega)
theorem zch_154_0 : zinsAll 154 0 (((zcode 154).drop 0).take 60) = true := by decide +kernel
theorem zch_154_60 : zinsAll 154 60 (((zcode 154).drop 60).take 60) = true := by decide +kernel
theorem zPm_154 : zPm 154 := zPm_of 154 60 2 (by decide +kernel) (fun j hj => by
  match j, hj with
  | 0, _ => exact zch_154_0
  | 1, _ => exact zch_154_60
  | j + 2, hj => omega)
theorem zch_155_0 : zinsAll 155 0 (((zcode 155).drop 0).take 60) = true := by decide +kernel
theorem zch_155_60 : zinsAll 155 60 (((zcode 155).drop 60).take 60) = true := by decide +kernel
theorem zch_155_120 : zinsAll 155 120 (((zcode 155).drop 120).take 60) = true := by decide +kernel
theorem zPm_155 : zPm 155 := zPm_of 155 60 3 (by decide +kernel) (fun j hj => by
  match j, hj with
  | 0, _ => exact zch_155_0
  | 1, _ => exact zch_155_60
  | 2, _ => exact zch_155_120
  | j + 3, hj => omega)
theorem zch_156_0 : zinsAll 156 0 (((zcode 156).drop 0).take 60) = true := by decide +kernel
theorem zPm_156 : zPm 156 := zPm_of 156 60 1 (by decide +kernel) (fun j hj => by
  match j, hj with
  | 0, _ => exact zch_156_0
  | j + 1, hj => omega)
theorem zch_157_0 : zinsAll 157 0 (((zcode 157).drop 0).take 60) = true := by decide +kernel
theorem zch_157_60 : zinsAll 157 60 (((zcode 157).drop 60).take 60) = true := by decide +kernel
theorem zch_157_120 : zinsAll 157 120 (((zcode 157).drop 120).take 60) = true := by decide +kernel
theorem zPm_157 : zPm 157 := zPm_of 157 60 3 (by decide +kernel) (fun j hj => by
  match j, hj with
  | 0, _ => exact zch_157_0
  | 1, _ => exact zch_157_60
  | 2, _ => exact zch_157_120
  | j + 3, hj => omega)
theorem zch_158_0 : zinsAll 158 0 (((zcode 158).drop 0).take 60) = true := by decide +kernel
theorem zPm_158 : zPm 158 := zPm_of 158 60 1 (by decide +kernel) (fun j hj => by
  match j, hj with
  | 0, _ => exact zch_158_0
  | j + 1, hj => omega)
theorem zch_159_0 : zinsAll 159 0 (((zcode 159).drop 0).take 60) = true := by decide +kernel
theorem zch_159_60 : zinsAll 159 60 (((zcode 159).drop 60).take 60) = true := by decide +kernel
theorem zPm_159 : zPm 159 := zPm_of 159 60 2 (by decide +kernel) (fun j hj => by
  match j, hj with
  | 0, _ => exact zch_159_0
  | 1, _ => exact zch_159_60
  | j + 2, hj => omega)
theorem zch_160_0 : zinsAll 160 0 (((zcode 160).drop 0).take 60) = true := by decide +kernel
theorem zch_160_60 : zinsAll 160 60 (((zcode 160).drop 60).take 60) = true := by decide +kernel
theorem zPm_160 : zPm 160 := zPm_of 160 60 2 (by decide +kernel) (fun j hj => by
  match j, hj with
  | 0, _ => exact zch_160_0
  | 1, _ => exact zch_160_60
  | j + 2, hj => omega)
theorem zch_161_0 : zinsAll 161 0 (((zcode 161).drop 0).take 60) = true := by decide +kernel
theorem zch_161_60 : zinsAll 161 60 (((zcode 161).drop 60).take 60) = true := by decide +kernel
theorem zPm_161 : zPm 161 := zPm_of 161 60 2 (by decide +kernel) (fun j hj => by
  match j, hj with
  | 0, _ => exact zch_161_0
  | 1, _ => exact zch_161_60
  | j + 2, hj => omega)
theorem zch_162_0 : zinsAll 162 0 (((zcode 162).drop 0).take 60) = true := by decide +kernel
theorem zch_162_60 : zinsAll 162 60 (((zcode 162).drop 60).take 60) = true := by decide +kernel
theorem zPm_162 : zPm 162 := zPm_of 162 60 2 (by decide +kernel) (fun j hj => by
  match j, hj with
  | 0, _ => exact zch_162_0
  | 1, _ => exact zch_162_60
  | j + 2, hj => omega)
theorem zch_163_0 : zinsAll 163 0 (((zcode 163).drop 0).take 60) = true := by decide +kernel
theorem zch_163_60 : zinsAll 163 60 (((zcode 163).drop 60).take 60) = true := by decide +kernel
theorem zPm_163 : zPm 163 := zPm_of 163 60 2 (by decide +kernel) (fun j hj => by
  match j, hj with
  | 0, _ => exact zch_163_0
  | 1, _ => exact zch_163_60
  | j + 2, hj => omega)
theorem zch_164_0 : zinsAll 164 0 (((zcode 164).drop 0).take 60) = true := by decide +kernel
theorem zch_164_60 : zinsAll 164 60 (((zcode 164).drop 60).take 60) = true := by decide +kernel
theorem zch_164_120 : zinsAll 164 120 (((zcode 164).drop 120).take 60) = true := by decide +kernel
theorem zPm_164 : zPm 164 := zPm_of 164 60 3 (by decide +kernel) (fun j hj => by
  match j, hj with
  | 0, _ => exact zch_164_0
  | 1, _ => exact zch_164_60
  | 2, _ => exact zch_164_120
  | j + 3, hj => omega)
theorem zch_165_0 : zinsAll 165 0 (((zcode 165).drop 0).take 60) = true := by decide +kernel
theorem zch_165_60 : zinsAll 165 60 (((zcode 165).drop 60).take 60) = true := by decide +kernel
theorem zPm_165 : zPm 165 := zPm_of 165 60 2 (by decide +kernel) (fun j hj => by
  match j, hj with
  | 0, _ => exact zch_165_0
  | 1, _ => exact zch_165_60
  | j + 2, hj => omega)
theorem zch_166_0 : zinsAll 166 0 (((zcode 166).drop 0).take 60) = true := by decide +kernel
theorem zch_166_60 : zinsAll 166 60 (((zcode 166).drop 60).take 60) = true := by decide +kernel
theorem zch_166_120 : zinsAll 166 120 (((zcode 166).drop 120).take 60) = true := by decide +kernel
theorem zPm_166 : zPm 166 := zPm_of 166 60 3 (by decide +kernel) (fun j hj => by
  match j, hj with
  | 0, _ => exact zch_166_0
  | 1, _ => exact zch_166_60
  | 2, _ => exact zch_166_120
  | j + 3, hj => omega)
theorem zch_167_0 : zinsAll 167 0 (((zcode 167).drop 0).take 60) = true := by decide +kernel
theorem zPm_167 : zPm 167 := zPm_of 167 60 1 (by decide +kernel) (fun j hj => by
  match j, hj with
  | 0, _ => exact zch_167_0
  | j + 1, hj => omega)
theorem zch_168_0 : zinsAll 168 0 (((zcode 168).drop 0).take 60) = true := by decide +kernel
theorem zPm_168 : zPm 168 := zPm_of 168 60 1 (by decide +kernel) (fun j hj => by
  match j, hj with
  | 0, _ => exact zch_168_0
  | j + 1, hj => omega)
theorem zch_169_0 : zinsAll 169 0 (((zcode 169).drop 0).take 60) = true := by decide +kernel
theorem zPm_169 : zPm 169 := zPm_of 169 60 1 (by decide +kernel) (fun j hj => by
  match j, hj with
  | 0, _ => exact zch_169_0
  | j + 1, hj => omega)
theorem zch_170_0 : zinsAll 170 0 (((zcode 170).drop 0).take 60) = true := by decide +kernel
theorem zPm_170 : zPm 170 := zPm_of 170 60 1 (by decide +kernel) (fun j hj => by
  match j, hj with
  | 0, _ => exact zch_170_0
  | j + 1, hj => omega)
theorem zch_171_0 : zinsAll 171 0 (((zcode 171).drop 0).take 40) = true := by decide +kernel
theorem zch_171_40 : zinsAll 171 40 (((zcode 171).drop 40).take 40) = true := by decide +kernel
theorem zch_171_80 : zinsAll 171 80 (((zcode 171).drop 80).take 40) = true := by decide +kernel
theorem zch_171_120 : zinsAll 171 120 (((zcode 171).drop 120).take 40) = true := by decide +kernel
theorem zch_171_160 : zinsAll 171 160 (((zcode 171).drop 160).take 40) = true := by decide +kernel
theorem zch_171_200 : zinsAll 171 200 (((zcode 171).drop 200).take 40) = true := by decide +kernel
theorem zch_171_240 : zinsAll 171 240 (((zcode 171).drop 240).take 40) = true := by decide +kernel
theorem zch_171_280 : zinsAll 171 280 (((zcode 171).drop 280).take 40) = true := by decide +kernel
theorem zch_171_320 : zinsAll 171 320 (((zcode 171).drop 320).take 40) = true := by decide +kernel
theorem zch_171_360 : zinsAll 171 360 (((zcode 171).drop 360).take 40) = true := by decide +kernel
theorem zch_171_400 : zinsAll 171 400 (((zcode 171).drop 400).take 40) = true := by decide +kernel
theorem zch_171_440 : zinsAll 171 440 (((zcode 171).drop 440).take 40) = true := by decide +kernel
theorem zch_171_480 : zinsAll 171 480 (((zcode 171).drop 480).take 40) = true := by decide +kernel
theorem zch_171_520 : zinsAll 171 520 (((zcode 171).drop 520).take 40) = true := by decide +kernel
theorem zch_171_560 : zinsAll 171 560 (((zcode 171).drop 560).take 40) = true := by decide +kernel
theorem zch_171_600 : zinsAll 171 600 (((zcode 171).drop 600).take 40) = true := by decide +kernel
theorem zch_171_640 : zinsAll 171 640 (((zcode 171).drop 640).take 40) = true := by decide +kernel
theorem zch_171_680 : zinsAll 171 680 (((zcode 171).drop 680).take 40) = true := by decide +kernel
theorem zch_171_720 : zinsAll 171 720 (((zcode 171).drop 720).take 40) = true := by decide +kernel
theorem zch_171_760 : zinsAll 171 760 (((zcode 171).drop 760).take 40) = true := by decide +kernel
theorem zch_171_800 : zinsAll 171 800 (((zcode 171).drop 800).take 40) = true := by decide +kernel
theorem zch_171_840 : zinsAll 171 840 (((zcode 171).drop 840).take 40) = true := by decide +kernel
theorem zch_171_880 : zinsAll 171 880 (((zcode 171).drop 880).take 40) = true := by decide +kernel
theorem zch_171_920 : zinsAll 171 920 (((zcode 171).drop 920).take 40) = true := by decide +kernel
theorem zch_171_960 : zinsAll 171 960 (((zcode 171).drop 960).take 40) = true := by decide +kernel
theorem zch_171_1000 : zinsAll 171 1000 (((zcode 171).drop 1000).take 40) = true := by decide +kernel
theorem zch_171_1040 : zinsAll 171 1040 (((zcode 171).drop 1040).take 40) = true := by decide +kernel
theorem zPm_171 : zPm 171 := zPm_of 171 40 27 (by decide +kernel) (fun j hj => by
  match j, hj with
  | 0, _ => exact zch_171_0
  | 1, _ => exact zch_171_40
  | 2, _ => exact zch_171_80
  | 3, _ => exact zch_171_120
  | 4, _ => exact zch_171_160
  | 5, _ => exact zch_171_200
  | 6, _ => exact zch_171_240
  | 7, _ => exact zch_171_280
  | 8, _ => exact zch_171_320
  | 9, _ => exact zch_171_360
  | 10, _ => exact zch_171_400
  | 11, _ => exact zch_171_440
  | 12, _ => exact zch_171_480
  | 13, _ => exact zch_171_520
  | 14, _ => exact zch_171_560
  | 15, _ => exact zch_171_600
  | 16, _ => exact zch_171_640
  | 17, _ => exact zch_171_680
  | 18, _ => exact zch_171_720
  | 19, _ => exact zch_171_760
  | 20, _ => exact zch_171_800
  | 21, _ => exact zch_171_840
  | 22, _ => exact zch_171_880
  | 23, _ => exact zch_171_920
  | 24, _ => exact zch_171_960
  | 25, _ => exact zch_171_1000
  | 26, _ => exact zch_171_1040
  | j + 27, hj => omega)
theorem zch_172_0 : zinsAll 172 0 (((zcode 172).drop 0).take 60) = true := by decide +kernel
theorem zPm_172 : zPm 172 := zPm_of 172 60 1 (by decide +kernel) (fun j hj => by
  match j, hj with
  | 0, _ => exact zch_172_0
  | j + 1, hj => omega)
theorem zch_173_0 : zinsAll 173 0 (((zcode 173).drop 0).take 60) = true := by decide +kernel
theorem zPm_173 : zPm 173 := zPm_of 173 60 1 (by decide +kernel) (fun j hj => by
  match j, hj with
  | 0, _ => exact zch_173_0
  | j + 1, hj => omega)
theorem zch_174_0 : zinsAll 174 0 (((zcode 174).drop 0).take 60) = true := by decide +kernel
theorem zPm_174 : zPm 174 := zPm_of 174 60 1 (by decide +kernel) (fun j hj => by
  match j, hj with
  | 0, _ => exact zch_174_0
  | j + 1, hj => omega)
theorem zch_175_0 : zinsAll 175 0 (((zcode 175).drop 0).take 60) = true := by decide +kernel
theorem zPm_175 : zPm 175 := zPm_of 175 60 1 (by decide +kernel) (fun j hj => by
  match j, hj with
  | 0, _ => exact zch_175_0
  | j + 1, hj => omega)
theorem zch_176_0 : zinsAll 176 0 (((zcode 176).drop 0).take 60) = true := by decide +kernel
theorem zPm_176 : zPm 176 := zPm_of 176 60 1 (by decide +kernel) (fun j hj => by
  match j, hj with
  | 0, _ => exact zch_176_0
  | j + 1, hj => omega)
theorem zch_177_0 : zinsAll 177 0 (((zcode 177).drop 0).take 60) = true := by decide +kernel
theorem zch_177_60 : zinsAll 177 60 (((zcode 177).drop 60).take 60) = true := by decide +kernel
theorem zch_177_120 : zinsAll 177 120 (((zcode 177).drop 120).take 60) = true := by decide +kernel
theorem zPm_177 : zPm 177 := zPm_of 177 60 3 (by decide +kernel) (fun j hj => by
  match j, hj with
  | 0, _ => exact zch_177_0
  | 1, _ => exact zch_177_60
  | 2, _ => exact zch_177_120
  | j + 3, hj => omega)
theorem zch_178_0 : zinsAll 178 0 (((zcode 178).drop 0).take 60) = true := by decide +kernel
theorem zPm_178 : zPm 178 := zPm_of 178 60 1 (by decide +kernel) (fun j hj => by
  match j, hj with
  | 0, _ => exact zch_178_0
  | j + 1, hj => omega)
theorem zch_179_0 : zinsAll 179 0 (((zcode 179).drop 0).take 60) = true := by decide +kernel
theorem zPm_179 : zPm 179 := zPm_of 179 60 1 (by decide +kernel) (fun j hj => by
  match j, hj with
  | 0, _ => exact zch_179_0
  | j + 1, hj => omega)
theorem zch_180_0 : zinsAll 180 0 (((zcode 180).drop 0).take 60) = true := by decide +kernel
theorem zPm_180 : zPm 180 := zPm_of 180 60 1 (by decide +kernel) (fun j hj => by
  match j, hj with
  | 0, _ => exact zch_180_0
  | j + 1, hj => omega)
theorem zch_181_0 : zinsAll 181 0 (((zcode 181).drop 0).take 60) = true := by decide +kernel
theorem zPm_181 : zPm 181 := zPm_of 181 60 1 (by decide +kernel) (fun j hj => by
  match j, hj with
  | 0, _ => exact zch_181_0
  | j + 1, hj => omega)
theorem zch_182_0 : zinsAll 182 0 (((zcode 182).drop 0).take 60) = true := by decide +kernel
theorem zPm_182 : zPm 182 := zPm_of 182 60 1 (by decide +kernel) (fun j hj => by
  match j, hj with
  | 0, _ => exact zch_182_0
  | j + 1, hj => omega)
theorem zch_183_0 : zinsAll 183 0 (((zcode 183).drop 0).take 60) = true := by decide +kernel
theorem zPm_183 : zPm 183 := zPm_of 183 60 1 (by decide +kernel) (fun j hj => by
  match j, hj with
  | 0, _ => exact zch_183_0
  | j + 1, hj => omega)
theorem zch_184_0 : zinsAll 184 0 (((zcode 184).drop 0).take 60) = true := by decide +kernel
theorem zch_184_60 : zinsAll 184 60 (((zcode 184).drop 60).take 60) = true := by decide +kernel
theorem zPm_184 : zPm 184 := zPm_of 184 60 2 (by decide +kernel) (fun j hj => by
  match j, hj with
  | 0, _ => exact zch_184_0
  | 1, _ => exact zch_184_60
  | j + 2, hj => omega)
theorem zch_185_0 : zinsAll 185 0 (((zcode 185).drop 0).take 60) = true := by decide +kernel
theorem zPm_185 : zPm 185 := zPm_of 185 60 1 (by decide +kernel) (fun j hj => by
  match j, hj with
  | 0, _ => exact zch_185_0
  | j + 1, hj => omega)
theorem zch_186_0 : zinsAll 186 0 (((zcode 186).drop 0).take 60) = true := by decide +kernel
theorem zPm_186 : zPm 186 := zPm_of 186 60 1 (by decide +kernel) (fun j hj => by
  match j, hj with
  | 0, _ => exact zch_186_0
  | j + 1, hj => omega)
theorem zch_187_0 : zinsAll 187 0 (((zcode 187).drop 0).take 60) = true := by decide +kernel
theorem zPm_187 : zPm 187 := zPm_of 187 60 1 (by decide +kernel) (fun j hj => by
  match j, hj with
  | 0, _ => exact zch_187_0
  | j + 1, hj => omega)
theorem zch_188_0 : zinsAll 188 0 (((zcode 188).drop 0).take 60) = true := by decide +kernel
theorem zch_188_60 : zinsAll 188 60 (((zcode 188).drop 60).take 60) = true := by decide +kernel
theorem zch_188_120 : zinsAll 188 120 (((zcode 188).drop 120).take 60) = true := by decide +kernel
theorem zPm_188 : zPm 188 := zPm_of 188 60 3 (by decide +kernel) (fun j hj => by
  match j, hj with
  | 0, _ => exact zch_188_0
  | 1, _ => exact zch_188_60
  | 2, _ => exact zch_188_120
  | j + 3, hj => omega)
theorem zch_189_0 : zinsAll 189 0 (((zcode 189).drop 0).take 60) = true := by decide +kernel
theorem zch_189_60 : zinsAll 189 60 (((zcode 189).drop 60).take 60) = true := by decide +kernel
theorem zPm_189 : zPm 189 := zPm_of 189 60 2 (by decide +kernel) (fun j hj => by
  match j, hj with
  | 0, _ => exact zch_189_0
  | 1, _ => exact zch_189_60
  | j + 2, hj => omega)
theorem zch_190_0 : zinsAll 190 0 (((zcode 190).drop 0).take 60) = true := by decide +kernel
theorem zPm_190 : zPm 190 := zPm_of 190 60 1 (by decide +kernel) (fun j hj => by
  match j, hj with
  | 0, _ => exact zch_190_0
  | j + 1, hj => omega)
theorem zch_191_0 : zinsAll 191 0 (((zcode 191).drop 0).take 60) = true := by decide +kernel
theorem zPm_191 : zPm 191 := zPm_of 191 60 1 (by decide +kernel) (fun j hj => by
  match j, hj with
  | 0, _ => exact zch_191_0
  | j + 1, hj => omega)
theorem zch_192_0 : zinsAll 192 0 (((zcode 192).drop 0).take 60) = true := by decide +kernel
theorem zPm_192 : zPm 192 := zPm_of 192 60 1 (by decide +kernel) (fun j hj => by
  match j, hj with
  | 0, _ => exact zch_192_0
  | j + 1, hj => omega)
theorem zch_193_0 : zinsAll 193 0 (((zcode 193).drop 0).take 60) = true := by decide +kernel
theorem zPm_193 : zPm 193 := zPm_of 193 60 1 (by decide +kernel) (fun j hj => by
  match j, hj with
  | 0, _ => exact zch_193_0
  | j + 1, hj => omega)
theorem zch_194_0 : zinsAll 194 0 (((zcode 194).drop 0).take 60) = true := by decide +kernel
theorem zch_194_60 : zinsAll 194 60 (((zcode 194).drop 60).take 60) = true := by decide +kernel
theorem zch_194_120 : zinsAll 194 120 (((zcode 194).drop 120).take 60) = true := by decide +kernel
theorem zPm_194 : zPm 194 := zPm_of 194 60 3 (by decide +kernel) (fun j hj => by
  match j, hj with
  | 0, _ => exact zch_194_0
  | 1, _ => exact zch_194_60
  | 2, _ => exact zch_194_120
  | j + 3, hj => omega)
theorem zch_195_0 : zinsAll 195 0 (((zcode 195).drop 0).take 60) = true := by decide +kernel
theorem zPm_195 : zPm 195 := zPm_of 195 60 1 (by decide +kernel) (fun j hj => by
  match j, hj with
  | 0, _ => exact zch_195_0
  | j + 1, hj => omega)
theorem zch_196_0 : zinsAll 196 0 (((zcode 196).drop 0).take 60) = true := by decide +kernel
theorem zPm_196 : zPm 196 := zPm_of 196 60 1 (by decide +kernel) (fun j hj => by
  match j, hj with
  | 0, _ => exact zch_196_0
  | j + 1, hj => omega)
theorem zch_197_0 : zinsAll 197 0 (((zcode 197).drop 0).take 60) = true := by decide +kernel
theorem zPm_197 : zPm 197 := zPm_of 197 60 1 (by decide +kernel) (fun j hj => by
  match j, hj with
  | 0, _ => exact zch_197_0
  | j + 1, hj => omega)
theorem zch_198_0 : zinsAll 198 0 (((zcode 198).drop 0).take 60) = true := by decide +kernel
theorem zPm_198 : zPm 198 := zPm_of 198 60 1 (by decide +kernel) (fun j hj => by
  match j, hj with
  | 0, _ => exact zch_198_0
  | j + 1, hj => omega)
theorem zch_199_0 : zinsAll 199 0 (((zcode 199).drop 0).take 60) = true := by decide +kernel
theorem zPm_199 : zPm 199 := zPm_of 199 60 1 (by decide +kernel) (fun j hj => by
  match j, hj with
  | 0, _ => exact zch_199_0
  | j + 1, hj => omega)
theorem zch_200_0 : zinsAll 200 0 (((zcode 200).drop 0).take 60) = true := by decide +kernel
theorem zPm_200 : zPm 200 := zPm_of 200 60 1 (by decide +kernel) (fun j hj => by
  match j, hj with
  | 0, _ => exact zch_200_0
  | j + 1, hj => omega)
theorem zch_201_0 : zinsAll 201 0 (((zcode 201).drop 0).take 60) = true := by decide +kernel
theorem zch_201_60 : zinsAll 201 60 (((zcode 201).drop 60).take 60) = true := by decide +kernel
theorem zch_201_120 : zinsAll 201 120 (((zcode 201).drop 120).take 60) = true := by decide +kernel
theorem zch_201_180 : zinsAll 201 180 (((zcode 201).drop 180).take 60) = true := by decide +kernel
theorem zPm_201 : zPm 201 := zPm_of 201 60 4 (by decide +kernel) (fun j hj => by
  match j, hj with
  | 0, _ => exact zch_201_0
  | 1, _ => exact zch_201_60
  | 2, _ => exact zch_201_120
  | 3, _ => exact zch_201_180
  | j + 4, hj => omega)
theorem zch_202_0 : zinsAll 202 0 (((zcode 202).drop 0).take 60) = true := by decide +kernel
theorem zch_202_60 : zinsAll 202 60 (((zcode 202).drop 60).take 60) = true := by decide +kernel
theorem zPm_202 : zPm 202 := zPm_of 202 60 2 (by decide +kernel) (fun j hj => by
  match j, hj with
  | 0, _ => exact zch_202_0
  | 1, _ => exact zch_202_60
  | j + 2, hj => omega)
theorem zch_203_0 : zinsAll 203 0 (((zcode 203).drop 0).take 60) = true := by decide +kernel
theorem zPm_203 : zPm 203 := zPm_of 203 60 1 (by decide +kernel) (fun j hj => by
  match j, hj with
  | 0, _ => exact zch_203_0
  | j + 1, hj => omega)
theorem zch_204_0 : zinsAll 204 0 (((zcode 204).drop 0).take 60) = true := by decide +kernel
theorem zch_204_60 : zinsAll 204 60 (((zcode 204).drop 60).take 60) = true := by decide +kernel
theorem zPm_204 : zPm 204 := zPm_of 204 60 2 (by decide +kernel) (fun j hj => by
  match j, hj with
  | 0, _ => exact zch_204_0
  | 1, _ => exact zch_204_60
  | j + 2, hj => omega)
theorem zch_205_0 : zinsAll 205 0 (((zcode 205).drop 0).take 60) = true := by decide +kernel
theorem zPm_205 : zPm 205 := zPm_of 205 60 1 (by decide +kernel) (fun j hj => by
  match j, hj with
  | 0, _ => exact zch_205_0
  | j + 1, hj => omega)
theorem zch_206_0 : zinsAll 206 0 (((zcode 206).drop 0).take 60) = true := by decide +kernel
theorem zPm_206 : zPm 206 := zPm_of 206 60 1 (by decide +kernel) (fun j hj => by
  match j, hj with
  | 0, _ => exact zch_206_0
  | j + 1, hj => omega)
theorem zch_207_0 : zinsAll 207 0 (((zcode 207).drop 0).take 60) = true := by decide +kernel
theorem zch_207_60 : zinsAll 207 60 (((zcode 207).drop 60).take 60) = true := by decide +kernel
theorem zch_207_120 : zinsAll 207 120 (((zcode 207).drop 120).take 60) = true := by decide +kernel
theorem zch_207_180 : zinsAll 207 180 (((zcode 207).drop 180).take 60) = true := by decide +kernel
theorem zPm_207 : zPm 207 := zPm_of 207 60 4 (by decide +kernel) (fun j hj => by
  match j, hj with
  | 0, _ => exact zch_207_0
  | 1, _ => exact zch_207_60
  | 2, _ => exact zch_207_120
  | 3, _ => exact zch_207_180
  | j + 4, hj => omega)
theorem zch_208_0 : zinsAll 208 0 (((zcode 208).drop 0).take 60) = true := by decide +kernel
theorem zPm_208 : zPm 208 := zPm_of 208 60 1 (by decide +kernel) (fun j hj => by
  match j, hj with
  | 0, _ => exact zch_208_0
  | j + 1, hj => omega)
theorem zch_209_0 : zinsAll 209 0 (((zcode 209).drop 0).take 60) = true := by decide +kernel
theorem zch_209_60 : zinsAll 209 60 (((zcode 209).drop 60).take 60) = true := by decide +kernel
theorem zch_209_120 : zinsAll 209 120 (((zcode 209).drop 120).take 60) = true := by decide +kernel
theorem zPm_209 : zPm 209 := zPm_of 209 60 3 (by decide +kernel) (fun j hj => by
  match j, hj with
  | 0, _ => exact zch_209_0
  | 1, _ => exact zch_209_60
  | 2, _ => exact zch_209_120
  | j + 3, hj => omega)
theorem zch_210_0 : zinsAll 210 0 (((zcode 210).drop 0).take 60) = true := by decide +kernel
theorem zch_210_60 : zinsAll 210 60 (((zcode 210).drop 60).take 60) = true := by decide +kernel
theorem zch_210_120 : zinsAll 210 120 (((zcode 210).drop 120).take 60) = true := by decide +kernel
theorem zPm_210 : zPm 210 := zPm_of 210 60 3 (by decide +kernel) (fun j hj => by
  match j, hj with
  | 0, _ => exact zch_210_0
  | 1, _ => exact zch_210_60
  | 2, _ => exact zch_210_120
  | j + 3, hj => omega)
theorem zch_211_0 : zinsAll 211 0 (((zcode 211).drop 0).take 60) = true := by decide +kernel
theorem zch_211_60 : zinsAll 211 60 (((zcode 211).drop 60).take 60) = true := by decide +kernel
theorem zPm_211 : zPm 211 := zPm_of 211 60 2 (by decide +kernel) (fun j hj => by
  match j, hj with
  | 0, _ => exact zch_211_0
  | 1, _ => exact zch_211_60
  | j + 2, hj => omega)
theorem zch_212_0 : zinsAll 212 0 (((zcode 212).drop 0).take 60) = true := by decide +kernel
theorem zch_212_60 : zinsAll 212 60 (((zcode 212).drop 60).take 60) = true := by decide +kernel
theorem zch_212_120 : zinsAll 212 120 (((zcode 212).drop 120).take 60) = true := by decide +kernel
theorem zPm_212 : zPm 212 := zPm_of 212 60 3 (by decide +kernel) (fun j hj => by
  match j, hj with
  | 0, _ => exact zch_212_0
  | 1, _ => exact zch_212_60
  | 2, _ => exact zch_212_120
  | j + 3, hj => omega)
theorem zch_213_0 : zinsAll 213 0 (((zcode 213).drop 0).take 60) = true := by decide +kernel
theorem zPm_213 : zPm 213 := zPm_of 213 60 1 (by decide +kernel) (fun j hj => by
  match j, hj with
  | 0, _ => exact zch_213_0
  | j + 1, hj => omega)
theorem zch_214_0 : zinsAll 214 0 (((zcode 214).drop 0).take 60) = true := by decide +kernel
theorem zPm_214 : zPm 214 := zPm_of 214 60 1 (by decide +kernel) (fun j hj => by
  match j, hj with
  | 0, _ => exact zch_214_0
  | j + 1, hj => omega)
theorem zch_215_0 : zinsAll 215 0 (((zcode 215).drop 0).take 60) = true := by decide +kernel
theorem zPm_215 : zPm 215 := zPm_of 215 60 1 (by decide +kernel) (fun j hj => by
  match j, hj with
  | 0, _ => exact zch_215_0
  | j + 1, hj => omega)
theorem zch_216_0 : zinsAll 216 0 (((zcode 216).drop 0).take 60) = true := by decide +kernel
theorem zPm_216 : zPm 216 := zPm_of 216 60 1 (by decide +kernel) (fun j hj => by
  match j, hj with
  | 0, _ => exact zch_216_0
  | j + 1, hj => omega)
theorem zch_217_0 : zinsAll 217 0 (((zcode 217).drop 0).take 60) = true := by decide +kernel
theorem zPm_217 : zPm 217 := zPm_of 217 60 1 (by decide +kernel) (fun j hj => by
  match j, hj with
  | 0, _ => exact zch_217_0
  | j + 1, hj => omega)
theorem zch_218_0 : zinsAll 218 0 (((zcode 218).drop 0).take 60) = true := by decide +kernel
theorem zPm_218 : zPm 218 := zPm_of 218 60 1 (by decide +kernel) (fun j hj => by
  match j, hj with
  | 0, _ => exact zch_218_0
  | j + 1, hj => omega)
theorem zch_219_0 : zinsAll 219 0 (((zcode 219).drop 0).take 60) = true := by decide +kernel
theorem zPm_219 : zPm 219 := zPm_of 219 60 1 (by decide +kernel) (fun j hj => by
  match j, hj with
  | 0, _ => exact zch_219_0
  | j + 1, hj => omega)
theorem zch_220_0 : zinsAll 220 0 (((zcode 220).drop 0).take 60) = true := by decide +kernel
theorem zPm_220 : zPm 220 := zPm_of 220 60 1 (by decide +kernel) (fun j hj => by
  match j, hj with
  | 0, _ => exact zch_220_0
  | j + 1, hj => omega)
theorem zch_221_0 : zinsAll 221 0 (((zcode 221).drop 0).take 60) = true := by decide +kernel
theorem zPm_221 : zPm 221 := zPm_of 221 60 1 (by decide +kernel) (fun j hj => by
  match j, hj with
  | 0, _ => exact zch_221_0
  | j + 1, hj => omega)
theorem zch_222_0 : zinsAll 222 0 (((zcode 222).drop 0).take 60) = true := by decide +kernel
theorem zPm_222 : zPm 222 := zPm_of 222 60 1 (by decide +kernel) (fun j hj => by
  match j, hj with
  | 0, _ => exact zch_222_0
  | j + 1, hj => omega)
theorem zch_223_0 : zinsAll 223 0 (((zcode 223).drop 0).take 60) = true := by decide +kernel
theorem zPm_223 : zPm 223 := zPm_of 223 60 1 (by decide +kernel) (fun j hj => by
  match j, hj with
  | 0, _ => exact zch_223_0
  | j + 1, hj => omega)
theorem zch_224_0 : zinsAll 224 0 (((zcode 224).drop 0).take 60) = true := by decide +kernel
theorem zPm_224 : zPm 224 := zPm_of 224 60 1 (by decide +kernel) (fun j hj => by
  match j, hj with
  | 0, _ => exact zch_224_0
  | j + 1, hj => omega)
theorem zch_225_0 : zinsAll 225 0 (((zcode 225).drop 0).take 60) = true := by decide +kernel
theorem zPm_225 : zPm 225 := zPm_of 225 60 1 (by decide +kernel) (fun j hj => by
  match j, hj with
  | 0, _ => exact zch_225_0
  | j + 1, hj => omega)
theorem zch_226_0 : zinsAll 226 0 (((zcode 226).drop 0).take 60) = true := by decide +kernel
theorem zch_226_60 : zinsAll 226 60 (((zcode 226).drop 60).take 60) = true := by decide +kernel
theorem zPm_226 : zPm 226 := zPm_of 226 60 2 (by decide +kernel) (fun j hj => by
  match j, hj with
  | 0, _ => exact zch_226_0
  | 1, _ => exact zch_226_60
  | j + 2, hj => omega)
theorem zch_227_0 : zinsAll 227 0 (((zcode 227).drop 0).take 60) = true := by decide +kernel
theorem zPm_227 : zPm 227 := zPm_of 227 60 1 (by decide +kernel) (fun j hj => by
  match j, hj with
  | 0, _ => exact zch_227_0
  | j + 1, hj => omega)
theorem zch_228_0 : zinsAll 228 0 (((zcode 228).drop 0).take 60) = true := by decide +kernel
theorem zPm_228 : zPm 228 := zPm_of 228 60 1 (by decide +kernel) (fun j hj => by
  match j, hj with
  | 0, _ => exact zch_228_0
  | j + 1, hj => omega)
theorem zch_229_0 : zinsAll 229 0 (((zcode 229).drop 0).take 60) = true := by decide +kernel
theorem zPm_229 : zPm 229 := zPm_of 229 60 1 (by decide +kernel) (fun j hj => by
  match j, hj with
  | 0, _ => exact zch_229_0
  | j + 1, hj => omega)
theorem zch_230_0 : zinsAll 230 0 (((zcode 230).drop 0).take 60) = true := by decide +kernel
theorem zch_230_60 : zinsAll 230 60 (((zcode 230).drop 60).take 60) = true := by decide +kernel
theorem zPm_230 : zPm 230 := zPm_of 230 60 2 (by decide +kernel) (fun j hj => by
  match j, hj with
  | 0, _ => exact zch_230_0
  | 1, _ => exact zch_230_60
  | j + 2, hj => omega)
theorem zch_231_0 : zinsAll 231 0 (((zcode 231).drop 0).take 60) = true := by decide +kernel
theorem zch_231_60 : zinsAll 231 60 (((zcode 231).drop 60).take 60) = true := by decide +kernel
theorem zPm_231 : zPm 231 := zPm_of 231 60 2 (by decide +kernel) (fun j hj => by
  match j, hj with
  | 0, _ => exact zch_231_0
  | 1, _ => exact zch_231_60
  | j + 2, hj => omega)
theorem zch_232_0 : zinsAll 232 0 (((zcode 232).drop 0).take 60) = true := by decide +kernel
theorem zPm_232 : zPm 232 := zPm_of 232 60 1 (by decide +kernel) (fun j hj => by
  match j, hj with
  | 0, _ => exact zch_232_0
  | j + 1, hj => omega)
theorem zch_233_0 : zinsAll 233 0 (((zcode 233).drop 0).take 60) = true := by decide +kernel
theorem zPm_233 : zPm 233 := zPm_of 233 60 1 (by decide +kernel) (fun j hj => by
  match j, hj with
  | 0, _ => exact zch_233_0
  | j + 1, hj => omega)
theorem zch_234_0 : zinsAll 234 0 (((zcode 234).drop 0).take 60) = true := by decide +kernel
theorem zch_234_60 : zinsAll 234 60 (((zcode 234).drop 60).take 60) = true := by decide +kernel
theorem zPm_234 : zPm 234 := zPm_of 234 60 2 (by decide +kernel) (fun j hj => by
  match j, hj with
  | 0, _ => exact zch_234_0
  | 1, _ => exact zch_234_60
  | j + 2, hj => omega)
theorem zch_235_0 : zinsAll 235 0 (((zcode 235).drop 0).take 60) = true := by decide +kernel
theorem zPm_235 : zPm 235 := zPm_of 235 60 1 (by decide +kernel) (fun j hj => by
  match j, hj with
  | 0, _ => exact zch_235_0
  | j + 1, hj => omega)
theorem zch_236_0 : zinsAll 236 0 (((zcode 236).drop 0).take 60) = true := by decide +kernel
theorem zch_236_60 : zinsAll 236 60 (((zcode 236).drop 60).take 60) = true := by decide +kernel
theorem zPm_236 : zPm 236 := zPm_of 236 60 2 (by decide +kernel) (fun j hj => by
  match j, hj with
  | 0, _ => exact zch_236_0
  | 1, _ => exact zch_236_60
  | j + 2, hj => omega)
theorem zch_237_0 : zinsAll 237 0 (((zcode 237).drop 0).take 60) = true := by decide +kernel
theorem zPm_237 : zPm 237 := zPm_of 237 60 1 (by decide +kernel) (fun j hj => by
  match j, hj with
  | 0, _ => exact zch_237_0
  | j + 1, hj => omega)
theorem zch_238_0 : zinsAll 238 0 (((zcode 238).drop 0).take 60) = true := by decide +kernel
theorem zch_238_60 : zinsAll 238 60 (((zcode 238).drop 60).take 60) = true := by decide +kernel
theorem zPm_238 : zPm 238 := zPm_of 238 60 2 (by decide +kernel) (fun j hj => by
  match j, hj with
  | 0, _ => exact zch_238_0
  | 1, _ => exact zch_238_60
  | j + 2, hj => omega)
theorem zch_239_0 : zinsAll 239 0 (((zcode 239).drop 0).take 60) = true := by decide +kernel
theorem zPm_239 : zPm 239 := zPm_of 239 60 1 (by decide +kernel) (fun j hj => by
  match j, hj with
  | 0, _ => exact zch_239_0
  | j + 1, hj => omega)
theorem zch_240_0 : zinsAll 240 0 (((zcode 240).drop 0).take 60) = true := by decide +kernel
theorem zch_240_60 : zinsAll 240 60 (((zcode 240).drop 60).take 60) = true := by decide +kernel
theorem zch_240_120 : zinsAll 240 120 (((zcode 240).drop 120).take 60) = true := by decide +kernel
theorem zPm_240 : zPm 240 := zPm_of 240 60 3 (by decide +kernel) (fun j hj => by
  match j, hj with
  | 0, _ => exact zch_240_0
  | 1, _ => exact zch_240_60
  | 2, _ => exact zch_240_120
  | j + 3, hj => omega)
theorem zch_241_0 : zinsAll 241 0 (((zcode 241).drop 0).take 60) = true := by decide +kernel
theorem zPm_241 : zPm 241 := zPm_of 241 60 1 (by decide +kernel) (fun j hj => by
  match j, hj with
  | 0, _ => exact zch_241_0
  | j + 1, hj => omega)
theorem zch_242_0 : zinsAll 242 0 (((zcode 242).drop 0).take 60) = true := by decide +kernel
theorem zch_242_60 : zinsAll 242 60 (((zcode 242).drop 60).take 60) = true := by decide +kernel
theorem zch_242_120 : zinsAll 242 120 (((zcode 242).drop 120).take 60) = true := by decide +kernel
theorem zPm_242 : zPm 242 := zPm_of 242 60 3 (by decide +kernel) (fun j hj => by
  match j, hj with
  | 0, _ => exact zch_242_0
  | 1, _ => exact zch_242_60
  | 2, _ => exact zch_242_120
  | j + 3, hj => omega)
theorem zch_243_0 : zinsAll 243 0 (((zcode 243).drop 0).take 60) = true := by decide +kernel
theorem zch_243_60 : zinsAll 243 60 (((zcode 243).drop 60).take 60) = true := by decide +kernel
theorem zch_243_120 : zinsAll 243 120 (((zcode 243).drop 120).take 60) = true := by decide +kernel
theorem zPm_243 : zPm 243 := zPm_of 243 60 3 (by decide +kernel) (fun j hj => by
  match j, hj with
  | 0, _ => exact zch_243_0
  | 1, _ => exact zch_243_60
  | 2, _ => exact zch_243_120
  | j + 3, hj => omega)
theorem zch_244_0 : zinsAll 244 0 (((zcode 244).drop 0).take 60) = true := by decide +kernel
theorem zch_244_60 : zinsAll 244 60 (((zcode 244).drop 60).take 60) = true := by decide +kernel
theorem zPm_244 : zPm 244 := zPm_of 244 60 2 (by decide +kernel) (fun j hj => by
  match j, hj with
  | 0, _ => exact zch_244_0
  | 1, _ => exact zch_244_60
  | j + 2, hj => omega)
theorem zch_245_0 : zinsAll 245 0 (((zcode 245).drop 0).take 60) = true := by decide +kernel
theorem zPm_245 : zPm 245 := zPm_of 245 60 1 (by decide +kernel) (fun j hj => by
  match j, hj with
  | 0, _ => exact zch_245_0
  | j + 1, hj => omega)
theorem zch_246_0 : zinsAll 246 0 (((zcode 246).drop 0).take 60) = true := by decide +kernel
theorem zch_246_60 : zinsAll 246 60 (((zcode 246).drop 60).take 60) = true := by decide +kernel
theorem zPm_246 : zPm 246 := zPm_of 246 60 2 (by decide +kernel) (fun j hj => by
  match j, hj with
  | 0, _ => exact zch_246_0
  | 1, _ => exact zch_246_60
  | j + 2, hj => omega)
theorem zch_247_0 : zinsAll 247 0 (((zcode 247).drop 0).take 60) = true := by decide +kernel
theorem zPm_247 : zPm 247 := zPm_of 247 60 1 (by decide +kernel) (fun j hj => by
  match j, hj with
  | 0, _ => exact zch_247_0
  | j + 1, hj => omega)
theorem zch_248_0 : zinsAll 248 0 (((zcode 248).drop 0).take 60) = true := by decide +kernel
theorem zch_248_60 : zinsAll 248 60 (((zcode 248).drop 60).take 60) = true := by decide +kernel
theorem zPm_248 : zPm 248 := zPm_of 248 60 2 (by decide +kernel) (fun j hj => by
  match j, hj with
  | 0, _ => exact zch_248_0
  | 1, _ => exact zch_248_60
  | j + 2, hj => omega)
theorem zch_249_0 : zinsAll 249 0 (((zcode 249).drop 0).take 60) = true := by decide +kernel
theorem zch_249_60 : zinsAll 249 60 (((zcode 249).drop 60).take 60) = true := by decide +kernel
theorem zPm_249 : zPm 249 := zPm_of 249 60 2 (by decide +kernel) (fun j hj => by
  match j, hj with
  | 0, _ => exact zch_249_0
  | 1, _ => exact zch_249_60
  | j + 2, hj => omega)
theorem zch_250_0 : zinsAll 250 0 (((zcode 250).drop 0).take 60) = true := by decide +kernel
theorem zPm_250 : zPm 250 := zPm_of 250 60 1 (by decide +kernel) (fun j hj => by
  match j, hj with
  | 0, _ => exact zch_250_0
  | j + 1, hj => omega)
theorem zch_251_0 : zinsAll 251 0 (((zcode 251).drop 0).take 60) = true := by decide +kernel
theorem zch_251_60 : zinsAll 251 60 (((zcode 251).drop 60).take 60) = true := by decide +kernel
theorem zPm_251 : zPm 251 := zPm_of 251 60 2 (by decide +kernel) (fun j hj => by
  match j, hj with
  | 0, _ => exact zch_251_0
  | 1, _ => exact zch_251_60
  | j + 2, hj => omega)
theorem zch_252_0 : zinsAll 252 0 (((zcode 252).drop 0).take 60) = true := by decide +kernel
theorem zPm_252 : zPm 252 := zPm_of 252 60 1 (by decide +kernel) (fun j hj => by
  match j, hj with
  | 0, _ => exact zch_252_0
  | j + 1, hj => omega)
theorem zch_253_0 : zinsAll 253 0 (((zcode 253).drop 0).take 60) = true := by decide +kernel
theorem zch_253_60 : zinsAll 253 60 (((zcode 253).drop 60).take 60) = true := by decide +kernel
theorem zPm_253 : zPm 253 := zPm_of 253 60 2 (by decide +kernel) (fun j hj => by
  match j, hj with
  | 0, _ => exact zch_253_0
  | 1, _ => exact zch_253_60
  | j + 2, hj => omega)
theorem zch_254_0 : zinsAll 254 0 (((zcode 254).drop 0).take 60) = true := by decide +kernel
theorem zPm_254 : zPm 254 := zPm_of 254 60 1 (by decide +kernel) (fun j hj => by
  match j, hj with
  | 0, _ => exact zch_254_0
  | j + 1, hj => omega)
theorem zch_255_0 : zinsAll 255 0 (((zcode 255).drop 0).take 60) = true := by decide +kernel
theorem zPm_255 : zPm 255 := zPm_of 255 60 1 (by decide +kernel) (fun j hj => by
  match j, hj with
  | 0, _ => exact zch_255_0
  | j + 1, hj => omega)
theorem zch_256_0 : zinsAll 256 0 (((zcode 256).drop 0).take 60) = true := by decide +kernel
theorem zPm_256 : zPm 256 := zPm_of 256 60 1 (by decide +kernel) (fun j hj => by
  match j, hj with
  | 0, _ => exact zch_256_0
  | j + 1, hj => omega)
theorem zch_257_0 : zinsAll 257 0 (((zcode 257).drop 0).take 60) = true := by decide +kernel
theorem zch_257_60 : zinsAll 257 60 (((zcode 257).drop 60).take 60) = true := by decide +kernel
theorem zPm_257 : zPm 257 := zPm_of 257 60 2 (by decide +kernel) (fun j hj => by
  match j, hj with
  | 0, _ => exact zch_257_0
  | 1, _ => exact zch_257_60
  | j + 2, hj => omega)
theorem zch_258_0 : zinsAll 258 0 (((zcode 258).drop 0).take 60) = true := by decide +kernel
theorem zPm_258 : zPm 258 := zPm_of 258 60 1 (by decide +kernel) (fun j hj => by
  match j, hj with
  | 0, _ => exact zch_258_0
  | j + 1, hj => omega)
theorem zch_259_0 : zinsAll 259 0 (((zcode 259).drop 0).take 60) = true := by decide +kernel
theorem zch_259_60 : zinsAll 259 60 (((zcode 259).drop 60).take 60) = true := by decide +kernel
theorem zch_259_120 : zinsAll 259 120 (((zcode 259).drop 120).take 60) = true := by decide +kernel
theorem zPm_259 : zPm 259 := zPm_of 259 60 3 (by decide +kernel) (fun j hj => by
  match j, hj with
  | 0, _ => exact zch_259_0
  | 1, _ => exact zch_259_60
  | 2, _ => exact zch_259_120
  | j + 3, hj => omega)
theorem zch_260_0 : zinsAll 260 0 (((zcode 260).drop 0).take 60) = true := by decide +kernel
theorem zPm_260 : zPm 260 := zPm_of 260 60 1 (by decide +kernel) (fun j hj => by
  match j, hj with
  | 0, _ => exact zch_260_0
  | j + 1, hj => omega)
theorem zch_261_0 : zinsAll 261 0 (((zcode 261).drop 0).take 60) = true := by decide +kernel
theorem zch_261_60 : zinsAll 261 60 (((zcode 261).drop 60).take 60) = true := by decide +kernel
theorem zch_261_120 : zinsAll 261 120 (((zcode 261).drop 120).take 60) = true := by decide +kernel
theorem zPm_261 : zPm 261 := zPm_of 261 60 3 (by decide +kernel) (fun j hj => by
  match j, hj with
  | 0, _ => exact zch_261_0
  | 1, _ => exact zch_261_60
  | 2, _ => exact zch_261_120
  | j + 3, hj => omega)
theorem zch_262_0 : zinsAll 262 0 (((zcode 262).drop 0).take 60) = true := by decide +kernel
theorem zch_262_60 : zinsAll 262 60 (((zcode 262).drop 60).take 60) = true := by decide +kernel
theorem zch_262_120 : zinsAll 262 120 (((zcode 262).drop 120).take 60) = true := by decide +kernel
theorem zPm_262 : zPm 262 := zPm_of 262 60 3 (by decide +kernel) (fun j hj => by
  match j, hj with
  | 0, _ => exact zch_262_0
  | 1, _ => exact zch_262_60
  | 2, _ => exact zch_262_120
  | j + 3, hj => omega)
theorem zch_263_0 : zinsAll 263 0 (((zcode 263).drop 0).take 60) = true := by decide +kernel
theorem zPm_263 : zPm 263 := zPm_of 263 60 1 (by decide +kernel) (fun j hj => by
  match j, hj with
  | 0, _ => exact zch_263_0
  | j + 1, hj => omega)
theorem zch_264_0 : zinsAll 264 0 (((zcode 264).drop 0).take 60) = true := by decide +kernel
theorem zPm_264 : zPm 264 := zPm_of 264 60 1 (by decide +kernel) (fun j hj => by
  match j, hj with
  | 0, _ => exact zch_264_0
  | j + 1, hj => omega)
theorem zch_265_0 : zinsAll 265 0 (((zcode 265).drop 0).take 60) = true := by decide +kernel
theorem zPm_265 : zPm 265 := zPm_of 265 60 1 (by decide +kernel) (fun j hj => by
  match j, hj with
  | 0, _ => exact zch_265_0
  | j + 1, hj => omega)
theorem zch_266_0 : zinsAll 266 0 (((zcode 266).drop 0).take 60) = true := by decide +kernel
theorem zPm_266 : zPm 266 := zPm_of 266 60 1 (by decide +kernel) (fun j hj => by
  match j, hj with
  | 0, _ => exact zch_266_0
  | j + 1, hj => omega)
theorem zch_267_0 : zinsAll 267 0 (((zcode 267).drop 0).take 60) = true := by decide +kernel
theorem zch_267_60 : zinsAll 267 60 (((zcode 267).drop 60).take 60) = true := by decide +kernel
theorem zPm_267 : zPm 267 := zPm_of 267 60 2 (by decide +kernel) (fun j hj => by
  match j, hj with
  | 0, _ => exact zch_267_0
  | 1, _ => exact zch_267_60
  | j + 2, hj => omega)
theorem zch_268_0 : zinsAll 268 0 (((zcode 268).drop 0).take 60) = true := by decide +kernel
theorem zPm_268 : zPm 268 := zPm_of 268 60 1 (by decide +kernel) (fun j hj => by
  match j, hj with
  | 0, _ => exact zch_268_0
  | j + 1, hj => omega)
theorem zch_269_0 : zinsAll 269 0 (((zcode 269).drop 0).take 60) = true := by decide +kernel
theorem zch_269_60 : zinsAll 269 60 (((zcode 269).drop 60).take 60) = true := by decide +kernel
theorem zPm_269 : zPm 269 := zPm_of 269 60 2 (by decide +kernel) (fun j hj => by
  match j, hj with
  | 0, _ => exact zch_269_0
  | 1, _ => exact zch_269_60
  | j + 2, hj => omega)
theorem zch_270_0 : zinsAll 270 0 (((zcode 270).drop 0).take 60) = true := by decide +kernel
theorem zPm_270 : zPm 270 := zPm_of 270 60 1 (by decide +kernel) (fun j hj => by
  match j, hj with
  | 0, _ => exact zch_270_0
  | j + 1, hj => omega)
theorem zch_271_0 : zinsAll 271 0 (((zcode 271).drop 0).take 60) = true := by decide +kernel
theorem zPm_271 : zPm 271 := zPm_of 271 60 1 (by decide +kernel) (fun j hj => by
  match j, hj with
  | 0, _ => exact zch_271_0
  | j + 1, hj => omega)
theorem zch_272_0 : zinsAll 272 0 (((zcode 272).drop 0).take 60) = true := by decide +kernel
theorem zPm_272 : zPm 272 := zPm_of 272 60 1 (by decide +kernel) (fun j hj => by
  match j, hj with
  | 0, _ => exact zch_272_0
  | j + 1, hj => omega)
theorem zch_273_0 : zinsAll 273 0 (((zcode 273).drop 0).take 60) = true := by decide +kernel
theorem zch_273_60 : zinsAll 273 60 (((zcode 273).drop 60).take 60) = true := by decide +kernel
theorem zPm_273 : zPm 273 := zPm_of 273 60 2 (by decide +kernel) (fun j hj => by
  match j, hj with
  | 0, _ => exact zch_273_0
  | 1, _ => exact zch_273_60
  | j + 2, hj => omega)
theorem zch_274_0 : zinsAll 274 0 (((zcode 274).drop 0).take 60) = true := by decide +kernel
theorem zPm_274 : zPm 274 := zPm_of 274 60 1 (by decide +kernel) (fun j hj => by
  match j, hj with
  | 0, _ => exact zch_274_0
  | j + 1, hj => omega)
theorem zch_275_0 : zinsAll 275 0 (((zcode 275).drop 0).take 60) = true := by decide +kernel
theorem zPm_275 : zPm 275 := zPm_of 275 60 1 (by decide +kernel) (fun j hj => by
  match j, hj with
  | 0, _ => exact zch_275_0
  | j + 1, hj => omega)
theorem zch_276_0 : zinsAll 276 0 (((zcode 276).drop 0).take 60) = true := by decide +kernel
theorem zch_276_60 : zinsAll 276 60 (((zcode 276).drop 60).take 60) = true := by decide +kernel
theorem zch_276_120 : zinsAll 276 120 (((zcode 276).drop 120).take 60) = true := by decide +kernel
theorem zPm_276 : zPm 276 := zPm_of 276 60 3 (by decide +kernel) (fun j hj => by
  match j, hj with
  | 0, _ => exact zch_276_0
  | 1, _ => exact zch_276_60
  | 2, _ => exact zch_276_120
  | j + 3, hj => omega)
theorem zch_277_0 : zinsAll 277 0 (((zcode 277).drop 0).take 60) = true := by decide +kernel
theorem zPm_277 : zPm 277 := zPm_of 277 60 1 (by decide +kernel) (fun j hj => by
  match j, hj with
  | 0, _ => exact zch_277_0
  | j + 1, hj => omega)
theorem zch_278_0 : zinsAll 278 0 (((zcode 278).drop 0).take 60) = true := by decide +kernel
theorem zPm_278 : zPm 278 := zPm_of 278 60 1 (by decide +kernel) (fun j hj => by
  match j, hj with
  | 0, _ => exact zch_278_0
  | j + 1, hj => omega)
theorem zch_279_0 : zinsAll 279 0 (((zcode 279).drop 0).take 60) = true := by decide +kernel
theorem zch_279_60 : zinsAll 279 60 (((zcode 279).drop 60).take 60) = true := by decide +kernel
theorem zch_279_120 : zinsAll 279 120 (((zcode 279).drop 120).take 60) = true := by decide +kernel
theorem zch_279_180 : zinsAll 279 180 (((zcode 279).drop 180).take 60) = true := by decide +kernel
theorem zPm_279 : zPm 279 := zPm_of 279 60 4 (by decide +kernel) (fun j hj => by
  match j, hj with
  | 0, _ => exact zch_279_0
  | 1, _ => exact zch_279_60
  | 2, _ => exact zch_279_120
  | 3, _ => exact zch_279_180
  | j + 4, hj => omega)
theorem zch_280_0 : zinsAll 280 0 (((zcode 280).drop 0).take 60) = true := by decide +kernel
theorem zch_280_60 : zinsAll 280 60 (((zcode 280).drop 60).take 60) = true := by decide +kernel
theorem zPm_280 : zPm 280 := zPm_of 280 60 2 (by decide +kernel) (fun j hj => by
  match j, hj with
  | 0, _ => exact zch_280_0
  | 1, _ => exact zch_280_60
  | j + 2, hj => omega)
theorem zch_281_0 : zinsAll 281 0 (((zcode 281).drop 0).take 60) = true := by decide +kernel
theorem zch_281_60 : zinsAll 281 60 (((zcode 281).drop 60).take 60) = true := by decide +kernel
theorem zPm_281 : zPm 281 := zPm_of 281 60 2 (by decide +kernel) (fun j hj => by
  match j, hj with
  | 0, _ => exact zch_281_0
  | 1, _ => exact zch_281_60
  | j + 2, hj => omega)
theorem zch_282_0 : zinsAll 282 0 (((zcode 282).drop 0).take 60) = true := by decide +kernel
theorem zch_282_60 : zinsAll 282 60 (((zcode 282).drop 60).take 60) = true := by decide +kernel
theorem zPm_282 : zPm 282 := zPm_of 282 60 2 (by decide +kernel) (fun j hj => by
  match j, hj with
  | 0, _ => exact zch_282_0
  | 1, _ => exact zch_282_60
  | j + 2, hj => omega)
theorem zch_283_0 : zinsAll 283 0 (((zcode 283).drop 0).take 60) = true := by decide +kernel
theorem zch_283_60 : zinsAll 283 60 (((zcode 283).drop 60).take 60) = true := by decide +kernel
theorem zPm_283 : zPm 283 := zPm_of 283 60 2 (by decide +kernel) (fun j hj => by
  match j, hj with
  | 0, _ => exact zch_283_0
  | 1, _ => exact zch_283_60
  | j + 2, hj => omega)
theorem zch_284_0 : zinsAll 284 0 (((zcode 284).drop 0).take 60) = true := by decide +kernel
theorem zch_284_60 : zinsAll 284 60 (((zcode 284).drop 60).take 60) = true := by decide +kernel
theorem zch_284_120 : zinsAll 284 120 (((zcode 284).drop 120).take 60) = true := by decide +kernel
theorem zch_284_180 : zinsAll 284 180 (((zcode 284).drop 180).take 60) = true := by decide +kernel
theorem zPm_284 : zPm 284 := zPm_of 284 60 4 (by decide +kernel) (fun j hj => by
  match j, hj with
  | 0, _ => exact zch_284_0
  | 1, _ => exact zch_284_60
  | 2, _ => exact zch_284_120
  | 3, _ => exact zch_284_180
  | j + 4, hj => omega)
theorem zch_285_0 : zinsAll 285 0 (((zcode 285).drop 0).take 60) = true := by decide +kernel
theorem zPm_285 : zPm 285 := zPm_of 285 60 1 (by decide +kernel) (fun j hj => by
  match j, hj with
  | 0, _ => exact zch_285_0
  | j + 1, hj => omega)
theorem zch_286_0 : zinsAll 286 0 (((zcode 286).drop 0).take 60) = true := by decide +kernel
theorem zch_286_60 : zinsAll 286 60 (((zcode 286).drop 60).take 60) = true := by decide +kernel
theorem zch_286_120 : zinsAll 286 120 (((zcode 286).drop 120).take 60) = true := by decide +kernel
theorem zch_286_180 : zinsAll 286 180 (((zcode 286).drop 180).take 60) = true := by decide +kernel
theorem zPm_286 : zPm 286 := zPm_of 286 60 4 (by decide +kernel) (fun j hj => by
  match j, hj with
  | 0, _ => exact zch_286_0
  | 1, _ => exact zch_286_60
  | 2, _ => exact zch_286_120
  | 3, _ => exact zch_286_180
  | j + 4, hj => omega)
theorem zch_287_0 : zinsAll 287 0 (((zcode 287).drop 0).take 60) = true := by decide +kernel
theorem zPm_287 : zPm 287 := zPm_of 287 60 1 (by decide +kernel) (fun j hj => by
  match j, hj with
  | 0, _ => exact zch_287_0
  | j + 1, hj => omega)
theorem zch_288_0 : zinsAll 288 0 (((zcode 288).drop 0).take 60) = true := by decide +kernel
theorem zPm_288 : zPm 288 := zPm_of 288 60 1 (by decide +kernel) (fun j hj => by
  match j, hj with
  | 0, _ => exact zch_288_0
  | j + 1, hj => omega)
theorem zch_289_0 : zinsAll 289 0 (((zcode 289).drop 0).take 60) = true := by decide +kernel
theorem zPm_289 : zPm 289 := zPm_of 289 60 1 (by decide +kernel) (fun j hj => by
  match j, hj with
  | 0, _ => exact zch_289_0
  | j + 1, hj => omega)
theorem zch_290_0 : zinsAll 290 0 (((zcode 290).drop 0).take 60) = true := by decide +kernel
theorem zPm_290 : zPm 290 := zPm_of 290 60 1 (by decide +kernel) (fun j hj => by
  match j, hj with
  | 0, _ => exact zch_290_0
  | j + 1, hj => omega)
theorem zch_291_0 : zinsAll 291 0 (((zcode 291).drop 0).take 60) = true := by decide +kernel
theorem zch_291_60 : zinsAll 291 60 (((zcode 291).drop 60).take 60) = true := by decide +kernel
theorem zPm_291 : zPm 291 := zPm_of 291 60 2 (by decide +kernel) (fun j hj => by
  match j, hj with
  | 0, _ => exact zch_291_0
  | 1, _ => exact zch_291_60
  | j + 2, hj => omega)
theorem zch_292_0 : zinsAll 292 0 (((zcode 292).drop 0).take 60) = true := by decide +kernel
theorem zPm_292 : zPm 292 := zPm_of 292 60 1 (by decide +kernel) (fun j hj => by
  match j, hj with
  | 0, _ => exact zch_292_0
  | j + 1, hj => omega)
theorem zch_293_0 : zinsAll 293 0 (((zcode 293).drop 0).take 60) = true := by decide +kernel
theorem zPm_293 : zPm 293 := zPm_of 293 60 1 (by decide +kernel) (fun j hj => by
  match j, hj with
  | 0, _ => exact zch_293_0
  | j + 1, hj => omega)
theorem zch_294_0 : zinsAll 294 0 (((zcode 294).drop 0).take 60) = true := by decide +kernel
theorem zPm_294 : zPm 294 := zPm_of 294 60 1 (by decide +kernel) (fun j hj => by
  match j, hj with
  | 0, _ => exact zch_294_0
  | j + 1, hj => omega)
theorem zch_295_0 : zinsAll 295 0 (((zcode 295).drop 0).take 60) = true := by decide +kernel
theorem zch_295_60 : zinsAll 295 60 (((zcode 295).drop 60).take 60) = true := by decide +kernel
theorem zPm_295 : zPm 295 := zPm_of 295 60 2 (by decide +kernel) (fun j hj => by
  match j, hj with
  | 0, _ => exact zch_295_0
  | 1, _ => exact zch_295_60
  | j + 2, hj => omega)
theorem zch_296_0 : zinsAll 296 0 (((zcode 296).drop 0).take 60) = true := by decide +kernel
theorem zch_296_60 : zinsAll 296 60 (((zcode 296).drop 60).take 60) = true := by decide +kernel
theorem zPm_296 : zPm 296 := zPm_of 296 60 2 (by decide +kernel) (fun j hj => by
  match j, hj with
  | 0, _ => exact zch_296_0
  | 1, _ => exact zch_296_60
  | j + 2, hj => omega)
theorem zch_297_0 : zinsAll 297 0 (((zcode 297).drop 0).take 60) = true := by decide +kernel
theorem zch_297_60 : zinsAll 297 60 (((zcode 297).drop 60).take 60) = true := by decide +kernel
theorem zch_297_120 : zinsAll 297 120 (((zcode 297).drop 120).take 60) = true := by decide +kernel
theorem zPm_297 : zPm 297 := zPm_of 297 60 3 (by decide +kernel) (fun j hj => by
  match j, hj with
  | 0, _ => exact zch_297_0
  | 1, _ => exact zch_297_60
  | 2, _ => exact zch_297_120
  | j + 3, hj => omega)
theorem zch_298_0 : zinsAll 298 0 (((zcode 298).drop 0).take 60) = true := by decide +kernel
theorem zPm_298 : zPm 298 := zPm_of 298 60 1 (by decide +kernel) (fun j hj => by
  match j, hj with
  | 0, _ => exact zch_298_0
  | j + 1, hj => omega)
theorem zch_299_0 : zinsAll 299 0 (((zcode 299).drop 0).take 60) = true := by decide +kernel
theorem zch_299_60 : zinsAll 299 60 (((zcode 299).drop 60).take 60) = true := by decide +kernel
theorem zPm_299 : zPm 299 := zPm_of 299 60 2 (by decide +kernel) (fun j hj => by
  match j, hj with
  | 0, _ => exact zch_299_0
  | 1, _ => exact zch_299_60
  | j + 2, hj => omega)
theorem zch_300_0 : zinsAll 300 0 (((zcode 300).drop 0).take 60) = true := by decide +kernel
theorem zPm_300 : zPm 300 := zPm_of 300 60 1 (by decide +kernel) (fun j hj => by
  match j, hj with
  | 0, _ => exact zch_300_0
  | j + 1, hj => omega)
theorem zch_301_0 : zinsAll 301 0 (((zcode 301).drop 0).take 60) = true := by decide +kernel
theorem zch_301_60 : zinsAll 301 60 (((zcode 301).drop 60).take 60) = true := by decide +kernel
theorem zch_301_120 : zinsAll 301 120 (((zcode 301).drop 120).take 60) = true := by decide +kernel
theorem zch_301_180 : zinsAll 301 180 (((zcode 301).drop 180).take 60) = true := by decide +kernel
theorem zPm_301 : zPm 301 := zPm_of 301 60 4 (by decide +kernel) (fun j hj => by
  match j, hj with
  | 0, _ => exact zch_301_0
  | 1, _ => exact zch_301_60
  | 2, _ => exact zch_301_120
  | 3, _ => exact zch_301_180
  | j + 4, hj => omega)
theorem zch_302_0 : zinsAll 302 0 (((zcode 302).drop 0).take 60) = true := by decide +kernel
theorem zch_302_60 : zinsAll 302 60 (((zcode 302).drop 60).take 60) = true := by decide +kernel
theorem zPm_302 : zPm 302 := zPm_of 302 60 2 (by decide +kernel) (fun j hj => by
  match j, hj with
  | 0, _ => exact zch_302_0
  | 1, _ => exact zch_302_60
  | j + 2, hj => omega)
theorem zch_303_0 : zinsAll 303 0 (((zcode 303).drop 0).take 60) = true := by decide +kernel
theorem zPm_303 : zPm 303 := zPm_of 303 60 1 (by decide +kernel) (fun j hj => by
  match j, hj with
  | 0, _ => exact zch_303_0
  | j + 1, hj => omega)
theorem zch_304_0 : zinsAll 304 0 (((zcode 304).drop 0).take 60) = true := by decide +kernel
theorem zch_304_60 : zinsAll 304 60 (((zcode 304).drop 60).take 60) = true := by decide +kernel
theorem zPm_304 : zPm 304 := zPm_of 304 60 2 (by decide +kernel) (fun j hj => by
  match j, hj with
  | 0, _ => exact zch_304_0
  | 1, _ => exact zch_304_60
  | j + 2, hj => omega)
theorem zch_305_0 : zinsAll 305 0 (((zcode 305).drop 0).take 60) = true := by decide +kernel
theorem zch_305_60 : zinsAll 305 60 (((zcode 305).drop 60).take 60) = true := by decide +kernel
theorem zPm_305 : zPm 305 := zPm_of 305 60 2 (by decide +kernel) (fun j hj => by
  match j, hj with
  | 0, _ => exact zch_305_0
  | 1, _ => exact zch_305_60
  | j + 2, hj => omega)
theorem zch_306_0 : zinsAll 306 0 (((zcode 306).drop 0).take 60) = true := by decide +kernel
theorem zch_306_60 : zinsAll 306 60 (((zcode 306).drop 60).take 60) = true := by decide +kernel
theorem zPm_306 : zPm 306 := zPm_of 306 60 2 (by decide +kernel) (fun j hj => by
  match j, hj with
  | 0, _ => exact zch_306_0
  | 1, _ => exact zch_306_60
  | j + 2, hj => omega)
theorem zch_307_0 : zinsAll 307 0 (((zcode 307).drop 0).take 60) = true := by decide +kernel
theorem zch_307_60 : zinsAll 307 60 (((zcode 307).drop 60).take 60) = true := by decide +kernel
theorem zPm_307 : zPm 307 := zPm_of 307 60 2 (by decide +kernel) (fun j hj => by
  match j, hj with
  | 0, _ => exact zch_307_0
  | 1, _ => exact zch_307_60
  | j + 2, hj => omega)
theorem zch_308_0 : zinsAll 308 0 (((zcode 308).drop 0).take 60) = true := by decide +kernel
theorem zch_308_60 : zinsAll 308 60 (((zcode 308).drop 60).take 60) = true := by decide +kernel
theorem zPm_308 : zPm 308 := zPm_of 308 60 2 (by decide +kernel) (fun j hj => by
  match j, hj with
  | 0, _ => exact zch_308_0
  | 1, _ => exact zch_308_60
  | j + 2, hj => omega)
theorem zch_309_0 : zinsAll 309 0 (((zcode 309).drop 0).take 60) = true := by decide +kernel
theorem zPm_309 : zPm 309 := zPm_of 309 60 1 (by decide +kernel) (fun j hj => by
  match j, hj with
  | 0, _ => exact zch_309_0
  | j + 1, hj => omega)
theorem zch_310_0 : zinsAll 310 0 (((zcode 310).drop 0).take 60) = true := by decide +kernel
theorem zPm_310 : zPm 310 := zPm_of 310 60 1 (by decide +kernel) (fun j hj => by
  match j, hj with
  | 0, _ => exact zch_310_0
  | j + 1, hj => omega)
theorem zch_311_0 : zinsAll 311 0 (((zcode 311).drop 0).take 60) = true := by decide +kernel
theorem zPm_311 : zPm 311 := zPm_of 311 60 1 (by decide +kernel) (fun j hj => by
  match j, hj with
  | 0, _ => exact zch_311_0
  | j + 1, hj => omega)
theorem zch_312_0 : zinsAll 312 0 (((zcode 312).drop 0).take 60) = true := by decide +kernel
theorem zPm_312 : zPm 312 := zPm_of 312 60 1 (by decide +kernel) (fun j hj => by
  match j, hj with
  | 0, _ => exact zch_312_0
  | j + 1, hj => omega)
theorem zch_313_0 : zinsAll 313 0 (((zcode 313).drop 0).take 60) = true := by decide +kernel
theorem zPm_313 : zPm 313 := zPm_of 313 60 1 (by decide +kernel) (fun j hj => by
  match j, hj with
  | 0, _ => exact zch_313_0
  | j + 1, hj => omega)
theorem zch_314_0 : zinsAll 314 0 (((zcode 314).drop 0).take 60) = true := by decide +kernel
theorem zPm_314 : zPm 314 := zPm_of 314 60 1 (by decide +kernel) (fun j hj => by
  match j, hj with
  | 0, _ => exact zch_314_0
  | j + 1, hj => omega)
theorem zch_315_0 : zinsAll 315 0 (((zcode 315).drop 0).take 60) = true := by decide +kernel
theorem zPm_315 : zPm 315 := zPm_of 315 60 1 (by decide +kernel) (fun j hj => by
  match j, hj with
  | 0, _ => exact zch_315_0
  | j + 1, hj => omega)
theorem zch_316_0 : zinsAll 316 0 (((zcode 316).drop 0).take 60) = true := by decide +kernel
theorem zPm_316 : zPm 316 := zPm_of 316 60 1 (by decide +kernel) (fun j hj => by
  match j, hj with
  | 0, _ => exact zch_316_0
  | j + 1, hj => omega)
theorem zch_317_0 : zinsAll 317 0 (((zcode 317).drop 0).take 60) = true := by decide +kernel
theorem zPm_317 : zPm 317 := zPm_of 317 60 1 (by decide +kernel) (fun j hj => by
  match j, hj with
  | 0, _ => exact zch_317_0
  | j + 1, hj => omega)
theorem zch_318_0 : zinsAll 318 0 (((zcode 318).drop 0).take 60) = true := by decide +kernel
theorem zPm_318 : zPm 318 := zPm_of 318 60 1 (by decide +kernel) (fun j hj => by
  match j, hj with
  | 0, _ => exact zch_318_0
  | j + 1, hj => omega)
theorem zch_319_0 : zinsAll 319 0 (((zcode 319).drop 0).take 40) = true := by decide +kernel
theorem zch_319_40 : zinsAll 319 40 (((zcode 319).drop 40).take 40) = true := by decide +kernel
theorem zch_319_80 : zinsAll 319 80 (((zcode 319).drop 80).take 40) = true := by decide +kernel
theorem zch_319_120 : zinsAll 319 120 (((zcode 319).drop 120).take 40) = true := by decide +kernel
theorem zch_319_160 : zinsAll 319 160 (((zcode 319).drop 160).take 40) = true := by decide +kernel
theorem zch_319_200 : zinsAll 319 200 (((zcode 319).drop 200).take 40) = true := by decide +kernel
theorem zch_319_240 : zinsAll 319 240 (((zcode 319).drop 240).take 40) = true := by decide +kernel
theorem zch_319_280 : zinsAll 319 280 (((zcode 319).drop 280).take 40) = true := by decide +kernel
theorem zch_319_320 : zinsAll 319 320 (((zcode 319).drop 320).take 40) = true := by decide +kernel
theorem zch_319_360 : zinsAll 319 360 (((zcode 319).drop 360).take 40) = true := by decide +kernel
theorem zch_319_400 : zinsAll 319 400 (((zcode 319).drop 400).take 40) = true := by decide +kernel
theorem zch_319_440 : zinsAll 319 440 (((zcode 319).drop 440).take 40) = true := by decide +kernel
theorem zch_319_480 : zinsAll 319 480 (((zcode 319).drop 480).take 40) = true := by decide +kernel
theorem zch_319_520 : zinsAll 319 520 (((zcode 319).drop 520).take 40) = true := by decide +kernel
theorem zch_319_560 : zinsAll 319 560 (((zcode 319).drop 560).take 40) = true := by decide +kernel
theorem zch_319_600 : zinsAll 319 600 (((zcode 319).drop 600).take 40) = true := by decide +kernel
theorem zch_319_640 : zinsAll 319 640 (((zcode 319).drop 640).take 40) = true := by decide +kernel
theorem zch_319_680 : zinsAll 319 680 (((zcode 319).drop 680).take 40) = true := by decide +kernel
theorem zch_319_720 : zinsAll 319 720 (((zcode 319).drop 720).take 40) = true := by decide +kernel
theorem zch_319_760 : zinsAll 319 760 (((zcode 319).drop 760).take 40) = true := by decide +kernel
theorem zch_319_800 : zinsAll 319 800 (((zcode 319).drop 800).take 40) = true := by decide +kernel
theorem zch_319_840 : zinsAll 319 840 (((zcode 319).drop 840).take 40) = true := by decide +kernel
theorem zch_319_880 : zinsAll 319 880 (((zcode 319).drop 880).take 40) = true := by decide +kernel
theorem zch_319_920 : zinsAll 319 920 (((zcode 319).drop 920).take 40) = true := by decide +kernel
theorem zch_319_960 : zinsAll 319 960 (((zcode 319).drop 960).take 40) = true := by decide +kernel
theorem zch_319_1000 : zinsAll 319 1000 (((zcode 319).drop 1000).take 40) = true := by decide +kernel
theorem zch_319_1040 : zinsAll 319 1040 (((zcode 319).drop 1040).take 40) = true := by decide +kernel
theorem zch_319_1080 : zinsAll 319 1080 (((zcode 319).drop 1080).take 40) = true := by decide +kernel
theorem zch_319_1120 : zinsAll 319 1120 (((zcode 319).drop 1120).take 40) = true := by decide +kernel
theorem zch_319_1160 : zinsAll 319 1160 (((zcode 319).drop 1160).take 40) = true := by decide +kernel
theorem zch_319_1200 : zinsAll 319 1200 (((zcode 319).drop 1200).take 40) = true := by decide +kernel
theorem zch_319_1240 : zinsAll 319 1240 (((zcode 319).drop 1240).take 40) = true := by decide +kernel
theorem zch_319_1280 : zinsAll 319 1280 (((zcode 319).drop 1280).take 40) = true := by decide +kernel
theorem zch_319_1320 : zinsAll 319 1320 (((zcode 319).drop 1320).take 40) = true := by decide +kernel
theorem zch_319_1360 : zinsAll 319 1360 (((zcode 319).drop 1360).take 40) = true := by decide +kernel
theorem zch_319_1400 : zinsAll 319 1400 (((zcode 319).drop 1400).take 40) = true := by decide +kernel
theorem zch_319_1440 : zinsAll 319 1440 (((zcode 319).drop 1440).take 40) = true := by decide +kernel
theorem zch_319_1480 : zinsAll 319 1480 (((zcode 319).drop 1480).take 40) = true := by decide +kernel
theorem zch_319_1520 : zinsAll 319 1520 (((zcode 319).drop 1520).take 40) = true := by decide +kernel
theorem zPm_319 : zPm 319 := zPm_of 319 40 39 (by decide +kernel) (fun j hj => by
  match j, hj with
  | 0, _ => exact zch_319_0
  | 1, _ => exact zch_319_40
  | 2, _ => exact zch_319_80
  | 3, _ => exact zch_319_120
  | 4, _ => exact zch_319_160
  | 5, _ => exact zch_319_200
  | 6, _ => exact zch_319_240
  | 7, _ => exact zch_319_280
  | 8, _ => exact zch_319_320
  | 9, _ => exact zch_319_360
  | 10, _ => exact zch_319_400
  | 11, _ => exact zch_319_440
  | 12, _ => exact zch_319_480
  | 13, _ => exact zch_319_520
  | 14, _ => exact zch_319_560
  | 15, _ => exact zch_319_600
  | 16, _ => exact zch_319_640
  | 17, _ => exact zch_319_680
  | 18, _ => exact zch_319_720
  | 19, _ => exact zch_319_760
  | 20, _ => exact zch_319_800
  | 21, _ => exact zch_319_840
  | 22, _ => exact zch_319_880
  | 23, _ => exact zch_319_920
  | 24, _ => exact zch_319_960
  | 25, _ => exact zch_319_1000
  | 26, _ => exact zch_319_1040
  | 27, _ => exact zch_319_1080
  | 28, _ => exact zch_319_1120
  | 29, _ => exact zch_319_1160
  | 30, _ => exact zch_319_1200
  | 31, _ => exact zch_319_1240
  | 32, _ => exact zch_319_1280
  | 33, _ => exact zch_319_1320
  | 34, _ => exact zch_319_1360
  | 35, _ => exact zch_319_1400
  | 36, _ => exact zch_319_1440
  | 37, _ => exact zch_319_1480
  | 38, _ => exact zch_319_1520
  | j + 39, hj => omega)
theorem zPl_16 : ∀ n, n < 16 → zPm n := (lt_s (lt_s (lt_s (lt_s (lt_s (lt_s (lt_s (lt_s (lt_s (lt_s (lt_s (lt_s (lt_s (lt_s (lt_s (lt_s lt_0 zPm_0) zPm_1) zPm_2) zPm_3) zPm_4) zPm_5) zPm_6) zPm_7) zPm_8) zPm_9) zPm_10) zPm_11) zPm_12) zPm_13) zPm_14) zPm_15)
theorem zPl_32 : ∀ n, n < 32 → zPm n := (lt_s (lt_s (lt_s (lt_s (lt_s (lt_s (lt_s (lt_s (lt_s (lt_s (lt_s (lt_s (lt_s (lt_s (lt_s (lt_s zPl_16 zPm_16) zPm_17) zPm_18) zPm_19) zPm_20) zPm_21) zPm_22) zPm_23) zPm_24) zPm_25) zPm_26) zPm_27) zPm_28) zPm_29) zPm_30) zPm_31)
theorem zPl_48 : ∀ n, n < 48 → zPm n := (lt_s (lt_s (lt_s (lt_s (lt_s (lt_s (lt_s (lt_s (lt_s (lt_s (lt_s (lt_s (lt_s (lt_s (lt_s (lt_s zPl_32 zPm_32) zPm_33) zPm_34) zPm_35) zPm_36) zPm_37) zPm_38) zPm_39) zPm_40) zPm_41) zPm_42) zPm_43) zPm_44) zPm_45) zPm_46) zPm_47)
theorem zPl_64 : ∀ n, n < 64 → zPm n := (lt_s (lt_s (lt_s (lt_s (lt_s (lt_s (lt_s (lt_s (lt_s (lt_s (lt_s (lt_s (lt_s (lt_s (lt_s (lt_s zPl_48 zPm_48) zPm_49) zPm_50) zPm_51) zPm_52) zPm_53) zPm_54) zPm_55) zPm_56) zPm_57) zPm_58) zPm_59) zPm_60) zPm_61) zPm_62) zPm_63)
theorem zPl_80 : ∀ n, n < 80 → zPm n := (lt_s (lt_s (lt_s (lt_s (lt_s (lt_s (lt_s (lt_s (lt_s (lt_s (lt_s (lt_s (lt_s (lt_s (lt_s (lt_s zPl_64 zPm_64) zPm_65) zPm_66) zPm_67) zPm_68) zPm_69) zPm_70) zPm_71) zPm_72) zPm_73) zPm_74) zPm_75) zPm_76) zPm_77) zPm_78) zPm_79)
theorem zPl_96 : ∀ n, n < 96 → zPm n := (lt_s (lt_s (lt_s (lt_s (lt_s (lt_s (lt_s (lt_s (lt_s (lt_s (lt_s (lt_s (lt_s (lt_s (lt_s (lt_s zPl_80 zPm_80) zPm_81) zPm_82) zPm_83) zPm_84) zPm_85) zPm_86) zPm_87) zPm_88) zPm_89) zPm_90) zPm_91) zPm_92) zPm_93) zPm_94) zPm_95)
theorem zPl_112 : ∀ n, n < 112 → zPm n := (lt_s (lt_s (lt_s (lt_s (lt_s (lt_s (lt_s (lt_s (lt_s (lt_s (lt_s (lt_s (lt_s (lt_s (lt_s (lt_s zPl_96 zPm_96) zPm_97) zPm_98) zPm_99) zPm_100) zPm_101) zPm_102) zPm_103) zPm_104) zPm_105) zPm_106) zPm_107) zPm_108) zPm_109) zPm_110) zPm_111)
theorem zPl_128 : ∀ n, n < 128 → zPm n := (lt_s (lt_s (lt_s (lt_s (lt_s (lt_s (lt_s (lt_s (lt_s (lt_s (lt_s (lt_s (lt_s (lt_s (lt_s (lt_s zPl_112 zPm_112) zPm_113) zPm_114) zPm_115) zPm_116) zPm_117) zPm_118) zPm_119) zPm_120) zPm_121) zPm_122) zPm_123) zPm_124) zPm_125) zPm_126) zPm_127)
theorem zPl_144 : ∀ n, n < 144 → zPm n := (lt_s (lt_s (lt_s (lt_s (lt_s (lt_s (lt_s (lt_s (lt_s (lt_s (lt_s (lt_s (lt_s (lt_s (lt_s (lt_s zPl_128 zPm_128) zPm_129) zPm_130) zPm_131) zPm_132) zPm_133) zPm_134) zPm_135) zPm_136) zPm_137) zPm_138) zPm_139) zPm_140) zPm_141) zPm_142) zPm_143)
theorem zPl_160 : ∀ n, n < 160 → zPm n := (lt_s (lt_s (lt_s (lt_s (lt_s (lt_s (lt_s (lt_s (lt_s (lt_s (lt_s (lt_s (lt_s (lt_s (lt_s (lt_s zPl_144 zPm_144) zPm_145) zPm_146) zPm_147) zPm_148) zPm_149) zPm_150) zPm_151) zPm_152) zPm_153) zPm_154) zPm_155) zPm_156) zPm_157) zPm_158) zPm_159)
theorem zPl_176 : ∀ n, n < 176 → zPm n := (lt_s (lt_s (lt_s (lt_s (lt_s (lt_s (lt_s (lt_s (lt_s (lt_s (lt_s (lt_s (lt_s (lt_s (lt_s (lt_s zPl_160 zPm_160) zPm_161) zPm_162) zPm_163) zPm_164) zPm_165) zPm_166) zPm_167) zPm_168) zPm_169) zPm_170) zPm_171) zPm_172) zPm_173) zPm_174) zPm_175)
theorem zPl_192 : ∀ n, n < 192 → zPm n := (lt_s (lt_s (lt_s (lt_s (lt_s (lt_s (lt_s (lt_s (lt_s (lt_s (lt_s (lt_s (lt_s (lt_s (lt_s (lt_s zPl_176 zPm_176) zPm_177) zPm_178) zPm_179) zPm_180) zPm_181) zPm_182) zPm_183) zPm_184) zPm_185) zPm_186) zPm_187) zPm_188) zPm_189) zPm_190) zPm_191)
theorem zPl_208 : ∀ n, n < 208 → zPm n := (lt_s (lt_s (lt_s (lt_s (lt_s (lt_s (lt_s (lt_s (lt_s (lt_s (lt_s (lt_s (lt_s (lt_s (lt_s (lt_s zPl_192 zPm_192) zPm_193) zPm_194) zPm_195) zPm_196) zPm_197) zPm_198) zPm_199) zPm_200) zPm_201) zPm_202) zPm_203) zPm_204) zPm_205) zPm_206) zPm_207)
theorem zPl_224 : ∀ n, n < 224 → zPm n := (lt_s (lt_s (lt_s (lt_s (lt_s (lt_s (lt_s (lt_s (lt_s (lt_s (lt_s (lt_s (lt_s (lt_s (lt_s (lt_s zPl_208 zPm_208) zPm_209) zPm_210) zPm_211) zPm_212) zPm_213) zPm_214) zPm_215) zPm_216) zPm_217) zPm_218) zPm_219) zPm_220) zPm_221) zPm_222) zPm_223)
theorem zPl_240 : ∀ n, n < 240 → zPm n := (lt_s (lt_s (lt_s (lt_s (lt_s (lt_s (lt_s (lt_s (lt_s (lt_s (lt_s (lt_s (lt_s (lt_s (lt_s (lt_s zPl_224 zPm_224) zPm_225) zPm_226) zPm_227) zPm_228) zPm_229) zPm_230) zPm_231) zPm_232) zPm_233) zPm_234) zPm_235) zPm_236) zPm_237) zPm_238) zPm_239)
theorem zPl_256 : ∀ n, n < 256 → zPm n := (lt_s (lt_s (lt_s (lt_s (lt_s (lt_s (lt_s (lt_s (lt_s (lt_s (lt_s (lt_s (lt_s (lt_s (lt_s (lt_s zPl_240 zPm_240) zPm_241) zPm_242) zPm_243) zPm_244) zPm_245) zPm_246) zPm_247) zPm_248) zPm_249) zPm_250) zPm_251) zPm_252) zPm_253) zPm_254) zPm_255)
theorem zPl_272 : ∀ n, n < 272 → zPm n := (lt_s (lt_s (lt_s (lt_s (lt_s (lt_s (lt_s (lt_s (lt_s (lt_s (lt_s (lt_s (lt_s (lt_s (lt_s (lt_s zPl_256 zPm_256) zPm_257) zPm_258) zPm_259) zPm_260) zPm_261) zPm_262) zPm_263) zPm_264) zPm_265) zPm_266) zPm_267) zPm_268) zPm_269) zPm_270) zPm_271)
theorem zPl_288 : ∀ n, n < 288 → zPm n := (lt_s (lt_s (lt_s (lt_s (lt_s (lt_s (lt_s (lt_s (lt_s (lt_s (lt_s (lt_s (lt_s (lt_s (lt_s (lt_s zPl_272 zPm_272) zPm_273) zPm_274) zPm_275) zPm_276) zPm_277) zPm_278) zPm_279) zPm_280) zPm_281) zPm_282) zPm_283) zPm_284) zPm_285) zPm_286) zPm_287)
theorem zPl_304 : ∀ n, n < 304 → zPm n := (lt_s (lt_s (lt_s (lt_s (lt_s (lt_s (lt_s (lt_s (lt_s (lt_s (lt_s (lt_s (lt_s (lt_s (lt_s (lt_s zPl_288 zPm_288) zPm_289) zPm_290) zPm_291) zPm_292) zPm_293) zPm_294) zPm_295) zPm_296) zPm_297) zPm_298) zPm_299) zPm_300) zPm_301) zPm_302) zPm_303)
theorem zPl_320 : ∀ n, n < 320 → zPm n := (lt_s (lt_s (lt_s (lt_s (lt_s (lt_s (lt_s (lt_s (lt_s (lt_s (lt_s (lt_s (lt_s (lt_s (lt_s (lt_s zPl_304 zPm_304) zPm_305) zPm_306) zPm_307) zPm_308) zPm_309) zPm_310) zPm_311) zPm_312) zPm_313) zPm_314) zPm_315) zPm_316) zPm_317) zPm_318) zPm_319)
theorem zmth2_all : (List.range 320).all zmth2 = true := by decide +kernel
end
section
/-! WHAT IS READ AND WRITTEN -/
section ZMM
variable {p : Program} {l : Launch} {e : Env} {R : Room} {s : State} {m : MethodId} {args : Array Value} {below : List Frame} {meth : Method} {c : Code} {H : Heap} {locs : List Loc} {cells slots : Nat} {Q : State → Prop}
variable {cc : ByteArray} {pc : Nat} {lsA : Array Slot} {D : va_G} {cy : Nat → ClassId} {B sc tx n : Nat} {σ σ' : zSt}
theorem zscr_ad : zad B sc tx zSCR = sc := by unfold zad; rw [if_pos rfl]
set_option maxHeartbeats 4000000 in
theorem zmem_ok (hx : p.tables.exec = Jvm.exec) (hb : c.code = cc) (hown : s.vm.findClass (zOw (zMI n).2.2.2.2.1) = some m.cls) (hts : ∀ w ∈ zWS, w.before args s = true) (hi0 : (zMI n).1.name = "<init>" → meth.name = "<init>") (hG : zGs D cy s)
    (hX : va_X sc ((zR σ zSCR 0).getD 0) (zI σ zSCR) s s.heap) (hsc : sc < B) (hBs : B ≤ s.heap.size)
    {i : Instr} {t len : Nat} {st st' : List Value} (hd : decode cc pc = .ok (zreal i t, len)) (hl : zlenOK i len = true) (hk : zlnk n i t = true) (h : zmem i st σ = some (st', σ')) (hP : va_P D vwCl (zW (zad B sc tx) cy σ) H) (hS : va_S (fun q => B ≤ q) s.heap H locs) (hN : zN σ ≤ 1000000)
    (k : ∀ H' locs', va_P D vwCl (zW (zad B sc tx) cy σ') H' → va_S (fun q => B ≤ q) s.heap H' locs' → W p l e R s m args below meth c H' locs' cells slots Q (F0 m (pc + len) lsA (st'.map (zv (zad B sc tx))))) : W p l e R s m args below meth c H locs cells slots Q (F0 m pc lsA (st.map (zv (zad B sc tx)))) := by
  unfold zmem at h
  split at h
  · have hl : 3 = len := eq_of_beq hl
    subst hl
    split at h
    · split at h
      · rename_i x _ o r hc
        cases h
        obtain ⟨ho, hc⟩ := hc
        simp only [zlnk, Bool.and_eq_true, decide_eq_true_eq] at hk
        obtain ⟨hm, hf⟩ := hk
        obtain ⟨q, hq1, hlt, hsrt, hFI⟩ := zfok_inv hf
        obtain ⟨hC1, hC2, hC3, hC4⟩ := zCl_all _ _ hq1
        have hle : (zLY o).1 ≤ 10 := by rw [hc]; exact zvw_lt hq1
        obtain ⟨q', hq2, hnum⟩ := zLY_obj hle
        rw [hc, hq1] at hq2
        cases hq2
        have hlink := hts _ (zwF_in hm)
        unfold zwF at hlink
        simp only [hFI] at hlink
        have he : (zW (zad B sc tx) cy σ)[o]? = some (zad B sc tx o, .inr (x / 256, zfs (zad B sc tx) σ o (x / 256) q.2.2)) := by
          rw [zW_at _ _ _ ho, zel_o hle, hc, hnum]
        refine va_get hx hb hts hC1 hown hG.1 hP o he hq1 (x / 4 % 64) hlt hlink (fun _ h => h) (zfs_at hlt) hd ?_
        have k := k H locs hP hS
        simp only [List.map_cons, zget_v] at k
        rw [hsrt] at k
        exact k
      · cases h
    · cases h
  · have hl : 3 = len := eq_of_beq hl
    subst hl
    split at h
    · split at h
      · rename_i x _ v o r hc
        obtain ⟨ho, hc⟩ := hc
        split at h
        · split at h
          · rename_i hz
            cases h
            refine zput_ok (σ' := zwI σ o (x / 4 % 64) _) (v := .int _) hx hb hown hts hi0 hG hd hk hP hS hN ho hc ?_ ?_ ?_ rfl zel_wI k
            · intro ty hty
              rcases hz with hz | ⟨hz, hz2⟩
              · rw [hz] at hty
                cases ty <;> first | (cases hty; done) | exact ⟨rfl, rfl⟩
              · rw [hz] at hty
                cases ty <;> first | (cases hty; done) | skip
                rcases hz2 with rfl | rfl <;> first | exact ⟨(by decide : narrow .boolean (.int 0) = .int 0), (by decide : fits .boolean (.int 0) = true)⟩ | exact ⟨(by decide : narrow .boolean (.int 1) = .int 1), (by decide : fits .boolean (.int 1) = true)⟩
            · unfold zfv
              rw [zI_w]
              rcases hz with hz | ⟨hz, -⟩ <;> (rw [hz]; simp [va_up, zv])
            · intro j hj tt
              unfold zfv
              rw [zI_w]
              simp only [va_up, hj, if_false]
              rfl
          · cases h
        · split at h
          · rename_i hz
            cases h
            refine zput_ok (σ' := zwL σ o (x / 4 % 64) _) (v := .long _) hx hb hown hts hi0 hG hd hk hP hS hN ho hc ?_ ?_ ?_ rfl zel_wL k
            · intro ty hty
              rw [hz] at hty
              cases ty <;> first | (cases hty; done) | exact ⟨rfl, rfl⟩
            · unfold zfv
              rw [zL_w, hz]
              simp [va_up, zv]
            · intro j hj tt
              unfold zfv
              rw [zL_w]
              simp only [va_up, hj, if_false]
              rfl
          · cases h
        · split at h
          · rename_i hz
            cases h
            refine zput_ok (σ' := zwR σ o (x / 4 % 64) (some _)) (v := .ref _) hx hb hown hts hi0 hG hd hk hP hS hN ho hc ?_ ?_ ?_ rfl zel_wR k
            · intro ty hty
              rw [hz] at hty
              cases ty <;> first | (cases hty; done) | exact ⟨rfl, rfl⟩
            · unfold zfv
              rw [zR_w, hz]
              simp [va_up, zv, va_rf]
            · intro j hj tt
              unfold zfv
              rw [zR_w]
              simp only [va_up, hj, if_false]
              rfl
          · cases h
        · split at h
          · rename_i hz
            cases h
            refine zput_ok (σ' := zwR σ o (x / 4 % 64) none) (v := .null) hx hb hown hts hi0 hG hd hk hP hS hN ho hc ?_ ?_ ?_ rfl zel_wR k
            · intro ty hty
              rw [hz] at hty
              cases ty <;> first | (cases hty; done) | exact ⟨rfl, rfl⟩
            · unfold zfv
              rw [zR_w, hz]
              simp [va_up, zv, va_rf]
            · intro j hj tt
              unfold zfv
              rw [zR_w]
              simp only [va_up, hj, if_false]
              rfl
          · cases h
        · cases h
      · cases h
    · cases h
  · have hl : 1 = len := eq_of_beq hl
    subst hl
    split at h
    · split at h
      · rename_i j a r hsc2
        split at h
        · rename_i hin
          cases h
          subst hsc2
          show W p l e R s m args below meth c H locs cells slots Q (F0 m pc lsA (.int j :: .ref (zad B sc tx zSCR) :: r.map (zv (zad B sc tx))))
          rw [zscr_ad]
          exact va_sld hx hb hX (Nat.lt_of_lt_of_le hsc hBs) (Nat.not_le.mpr hsc) hS hin hd (k H locs hP hS)
        · cases h
      · split at h
        · rename_i j a r _ hc
          obtain ⟨ha, hkd, hin⟩ := hc
          cases h
          refine va_iald hx hb hG.1 hP a 1 (by rw [zW_at _ _ _ ha, zel_i hkd (by omega)]) rfl hin hd ?_
          exact k H locs hP hS
        · cases h
    · cases h
  · have hl : 1 = len := eq_of_beq hl
    subst hl
    split at h
    · split at h
      · rename_i _ j a r hc
        obtain ⟨ha, hkd, hin⟩ := hc
        cases h
        refine va_cald hx hb hG.1 hP a 0 (by rw [zW_at _ _ _ ha, zel_i hkd (by omega)]) rfl hin hd ?_
        exact k H locs hP hS
      · cases h
    · cases h
  · have hl : 1 = len := eq_of_beq hl
    subst hl
    split at h
    · split at h
      · rename_i _ j a r hc
        obtain ⟨ha, hkd, hin⟩ := hc
        cases h
        refine va_zald hx hb hG.1 hP a 3 (by rw [zW_at _ _ _ ha, zel_i hkd (by omega)]) rfl hin hd ?_
        exact k H locs hP hS
      · cases h
    · cases h
  · have hl : 1 = len := eq_of_beq hl
    subst hl
    split at h
    · split at h
      · rename_i _ j a r hc
        obtain ⟨ha, hkd, hin⟩ := hc
        cases h
        refine va_lald hx hb hG.1 hP a 2 (by rw [zW_at _ _ _ ha, zel_l hkd]) rfl hin hd ?_
        exact k H locs hP hS
      · cases h
    · cases h
  · have hl : 1 = len := eq_of_beq hl
    subst hl
    split at h
    · split at h
      · rename_i j a r hc
        obtain ⟨ha, ⟨h15, h18⟩, hin⟩ := hc
        cases h
        have k := k H locs hP hS
        simp only [List.map_cons, zv_rf] at k
        have hcs : (zLY a).1 = 15 ∨ (zLY a).1 = 16 ∨ (zLY a).1 = 17 ∨ (zLY a).1 = 18 := by omega
        rcases hcs with q | q | q | q
        · exact va_aldq hx hb hG.1 hP a 4 (by rw [zW_at _ _ _ ha, zel_q q (by omega)]) rfl hin hd k
        · exact va_aldq hx hb hG.1 hP a 5 (by rw [zW_at _ _ _ ha, zel_q q (by omega)]) rfl hin hd k
        · exact va_aldq hx hb hG.1 hP a 6 (by rw [zW_at _ _ _ ha, zel_q q (by omega)]) rfl hin hd k
        · exact zald_a hx hb hG.1 hP a 7 (by rw [zW_at _ _ _ ha, zel_q q (by omega)]) rfl hin hd k
      · cases h
    · cases h
  · have hl : 1 = len := eq_of_beq hl
    subst hl
    split at h
    · split at h
      · rename_i v j a r hc
        obtain ⟨ha, hkd, hin⟩ := hc
        cases h
        refine va_iast hx hb hG.1 hP (zW_D hN) hS a 1 (by rw [zW_at _ _ _ ha, zel_i hkd (by omega)]) rfl hin hd fun H1 locs1 hP1 _ hS1 => ?_
        rw [zW_set' (σ := σ) (σ' := zwI σ a j.toNatClampNeg v) (x := .inl (cy 12, (zLY a).2, .inl (upd (zI σ a) j.toNatClampNeg v))) (by rw [zel_i hkd (by omega), zI_w]; rfl) rfl zel_wI] at hP1
        exact k H1 locs1 hP1 hS1
      · cases h
    · cases h
  · have hl : 1 = len := eq_of_beq hl
    subst hl
    split at h
    · split at h
      · rename_i v j a r hc
        obtain ⟨ha, hkd, hin⟩ := hc
        cases h
        refine va_cast hx hb hG.1 hP (zW_D hN) hS a 0 (by rw [zW_at _ _ _ ha, zel_i hkd (by omega)]) rfl hin hd fun H1 locs1 hP1 _ hS1 => ?_
        rw [zW_set' (σ := σ) (σ' := zwI σ a j.toNatClampNeg (vp_nar .char v)) (x := .inl (cy 11, (zLY a).2, .inl (upd (zI σ a) j.toNatClampNeg (vp_nar .char v)))) (by rw [zel_i hkd (by omega), zI_w]; rfl) rfl zel_wI] at hP1
        exact k H1 locs1 hP1 hS1
      · cases h
    · cases h
  · have hl : 1 = len := eq_of_beq hl
    subst hl
    split at h
    · split at h
      · rename_i v j a r hc
        obtain ⟨ha, hkd, hin⟩ := hc
        cases h
        refine va_zast hx hb hG.1 hP (zW_D hN) hS a 3 (by rw [zW_at _ _ _ ha, zel_i hkd (by omega)]) rfl hin hd fun H1 locs1 hP1 _ hS1 => ?_
        rw [zW_set' (σ := σ) (σ' := zwI σ a j.toNatClampNeg (vp_nar .boolean v)) (x := .inl (cy 14, (zLY a).2, .inl (upd (zI σ a) j.toNatClampNeg (vp_nar .boolean v)))) (by rw [zel_i hkd (by omega), zI_w]; rfl) rfl zel_wI] at hP1
        exact k H1 locs1 hP1 hS1
      · cases h
    · cases h
  · have hl : 1 = len := eq_of_beq hl
    subst hl
    split at h
    · split at h
      · rename_i v j a r hc
        obtain ⟨ha, hkd, hin⟩ := hc
        cases h
        refine va_last hx hb hG.1 hP (zW_D hN) hS a 2 (by rw [zW_at _ _ _ ha, zel_l hkd]) rfl hin hd fun H1 locs1 hP1 _ hS1 => ?_
        rw [zW_set' (σ := σ) (σ' := zwL σ a j.toNatClampNeg v) (x := .inl (cy 13, (zLY a).2, .inr (.inl (vp_updL (zL σ a) j.toNatClampNeg v)))) (by rw [zel_l hkd, zL_w]; rfl) rfl zel_wL] at hP1
        exact k H1 locs1 hP1 hS1
      · cases h
    · cases h
  · have hl : 1 = len := eq_of_beq hl
    subst hl
    split at h
    · split at h
      · rename_i v j a r hc
        obtain ⟨ha, hv, hkd, hin⟩ := hc
        cases h
        have hend : ∀ kd, (zLY a).1 = kd → 15 ≤ kd → (zW (zad B sc tx) cy σ).set a (zad B sc tx a, .inl (cy kd, (zLY a).2, .inr (.inr (.inr (.inr (va_up (fun j => (zR σ a j).map (zad B sc tx)) j.toNatClampNeg (some (zad B sc tx v)))))))) = zW (zad B sc tx) cy (zwR σ a j.toNatClampNeg (some v)) := by
          intro kd hkd h15
          refine zW_set' ?_ rfl zel_wR
          rw [zel_q hkd h15, zR_w]
          refine congrArg (fun f => Sum.inl (cy kd, (zLY a).2, Sum.inr (Sum.inr (Sum.inr (Sum.inr f))))) (funext fun x => ?_)
          unfold va_up
          split <;> rfl
        simp only [List.mem_cons, Prod.mk.injEq, List.not_mem_nil, or_false] at hkd
        rcases hkd with ⟨q, qv⟩ | ⟨q, qv⟩ | ⟨q, qv⟩
        · refine va_astq hx hb hG.1 hP (zW_D hN) hS a 4 v 2 (by rw [zW_at _ _ _ ha, zel_q q (by omega)]) rfl (by rw [zW_at _ _ _ hv, zel_o (by omega), qv]) rfl hin hd fun H1 locs1 hP1 _ hS1 => ?_
          rw [hend _ q (by omega)] at hP1
          exact k H1 locs1 hP1 hS1
        · refine va_astq hx hb hG.1 hP (zW_D hN) hS a 5 v 5 (by rw [zW_at _ _ _ ha, zel_q q (by omega)]) rfl (by rw [zW_at _ _ _ hv, zel_o (by omega), qv]) rfl hin hd fun H1 locs1 hP1 _ hS1 => ?_
          rw [hend _ q (by omega)] at hP1
          exact k H1 locs1 hP1 hS1
        · refine va_astq hx hb hG.1 hP (zW_D hN) hS a 6 v 6 (by rw [zW_at _ _ _ ha, zel_q q (by omega)]) rfl (by rw [zW_at _ _ _ hv, zel_o (by omega), qv]) rfl hin hd fun H1 locs1 hP1 _ hS1 => ?_
          rw [hend _ q (by omega)] at hP1
          exact k H1 locs1 hP1 hS1
      · cases h
    · cases h
  · have hl : 1 = len := eq_of_beq hl
    subst hl
    split at h
    · split at h
      · rename_i a r hsc2
        cases h
        subst hsc2
        show W p l e R s m args below meth c H locs cells slots Q (F0 m pc lsA (.ref (zad B sc tx zSCR) :: r.map (zv (zad B sc tx))))
        rw [zscr_ad]
        exact va_slen hx hb hX (Nat.lt_of_lt_of_le hsc hBs) (Nat.not_le.mpr hsc) hS hd (k H locs hP hS)
      · split at h
        · rename_i a r _ hc
          obtain ⟨ha, h11, h18⟩ := hc
          cases h
          have k := k H locs hP hS
          have hcs : (zLY a).1 = 11 ∨ (zLY a).1 = 12 ∨ (zLY a).1 = 13 ∨ (zLY a).1 = 14 ∨ (zLY a).1 = 15 ∨ (zLY a).1 = 16 ∨ (zLY a).1 = 17 ∨ (zLY a).1 = 18 := by omega
          rcases hcs with q | q | q | q | q | q | q | q
          · exact va_alen (x := ((zLY a).2, .inl (zI σ a))) hx hb hG.1 hP a 0 (by rw [zW_at _ _ _ ha, zel_i q (by omega)]) rfl rfl hd k
          · exact va_alen (x := ((zLY a).2, .inl (zI σ a))) hx hb hG.1 hP a 1 (by rw [zW_at _ _ _ ha, zel_i q (by omega)]) rfl rfl hd k
          · exact va_alen (x := ((zLY a).2, .inr (.inl (zL σ a)))) hx hb hG.1 hP a 2 (by rw [zW_at _ _ _ ha, zel_l q]) rfl rfl hd k
          · exact va_alen (x := ((zLY a).2, .inl (zI σ a))) hx hb hG.1 hP a 3 (by rw [zW_at _ _ _ ha, zel_i q (by omega)]) rfl rfl hd k
          · exact va_alen (x := ((zLY a).2, .inr (.inr (.inr (.inr (fun j => (zR σ a j).map (zad B sc tx))))))) hx hb hG.1 hP a 4 (by rw [zW_at _ _ _ ha, zel_q q (by omega)]) rfl rfl hd k
          · exact va_alen (x := ((zLY a).2, .inr (.inr (.inr (.inr (fun j => (zR σ a j).map (zad B sc tx))))))) hx hb hG.1 hP a 5 (by rw [zW_at _ _ _ ha, zel_q q (by omega)]) rfl rfl hd k
          · exact va_alen (x := ((zLY a).2, .inr (.inr (.inr (.inr (fun j => (zR σ a j).map (zad B sc tx))))))) hx hb hG.1 hP a 6 (by rw [zW_at _ _ _ ha, zel_q q (by omega)]) rfl rfl hd k
          · exact va_alen (x := ((zLY a).2, .inr (.inr (.inr (.inr (fun j => (zR σ a j).map (zad B sc tx))))))) hx hb hG.1 hP a 7 (by rw [zW_at _ _ _ ha, zel_q q (by omega)]) rfl rfl hd k
        · cases h
    · cases h
  · cases h
end ZMM
end
section
/-! NEW OBJECTS, CONSTANTS, ANSWERS -/
section ZMK
variable {p : Program} {l : Launch} {e : Env} {R : Room} {s : State} {m : MethodId} {args : Array Value} {below : List Frame} {meth : Method} {c : Code} {H : Heap} {locs : List Loc} {cells slots : Nat} {Q : State → Prop}
variable {cc : ByteArray} {pc : Nat} {lsA : Array Slot} {D : va_G} {cy : Nat → ClassId} {B sc tx n : Nat} {σ σ' : zSt}
/-- how large the heap is, when all cells made are told -/
theorem zW_sz {k : Nat} {g : JFrame} (h0 : s.heap.size + cells ≤ k) (kk : H.size ≤ k → W p l e R s m args below meth c H locs cells slots Q g) : W p l e R s m args below meth c H locs cells slots Q g := by
  intro T hT X
  exact kk (by rw [← hT]; exact Nat.le_trans X.heapSize h0) T hT X
theorem zlow {ws : va_W} {x : va_E} {q : Nat} (hN : zN σ ≤ 1000000) (hws : ws = zW (zad B sc tx) cy σ) (hP : va_P D vwCl (ws ++ [(q, x)]) H) (hD : va_D (fun q => B ≤ q) (ws ++ [(q, x)])) (hz : H.size ≤ B + zN σ + 1) : q = B + zN σ := by
  subst hws
  have hl : (zW (zad B sc tx) cy σ ++ [(q, x)])[zN σ]? = some (q, x) := by
    rw [List.getElem?_append_right (by rw [zW_len]; exact Nat.le_refl _), zW_len, Nat.sub_self]; rfl
  have h1 : q < H.size := (hP _ _ hl).lt
  have h2 : B ≤ q := hD.2 _ _ hl
  rcases Nat.lt_or_ge q (B + zN σ) with h3 | h3
  · exfalso
    have h4 : q - B < zN σ := by omega
    have h5 : (zW (zad B sc tx) cy σ ++ [(q, x)])[q - B]? = some (zad B sc tx (q - B), zel (zad B sc tx) cy σ (q - B)) := by
      rw [List.getElem?_append_left (by rw [zW_len]; exact h4), zW_at _ _ _ h4]
    have h6 := hD.1 _ _ _ _ h5 hl (by show zad B sc tx (q - B) = q; rw [zad_lt (by omega)]; omega)
    omega
  · omega
theorem zI_new (σ : zSt) : zI (znew σ) (zN σ) = fun _ => 0 := by show va_up _ _ _ _ = _; simp only [va_up, zN, if_true]
theorem zL_new (σ : zSt) : zL (znew σ) (zN σ) = fun _ => 0 := by show va_up _ _ _ _ = _; simp only [va_up, zN, if_true]
theorem zR_new (σ : zSt) : zR (znew σ) (zN σ) = fun _ => none := by show va_up _ _ _ _ = _; simp only [va_up, zN, if_true]
/-- the array class of a kind is the one that stands in the tables -/
theorem zcy_eq {t0 : Nat} {ty : FieldType} {k : Nat} {cA : ClassId} (hG : zGs D cy s) (ht : (zty cy)[t0]? = some (cy k, ty)) (hty : ∀ C, ty ≠ .object C) (hK : va_K D vwCl (zty cy ++ [(cA, ty)]) s) : cA = cy k := by
  have h1 := (hG.1.2 t0 _ ht).2
  have h2 := (hK.2 (zty cy).length (cA, ty) (by rw [List.getElem?_append_right (Nat.le_refl _), Nat.sub_self]; rfl)).2
  cases ty with
  | object C => exact absurd rfl (hty C)
  | _ => exact Option.some.inj (h2.symm.trans h1)
theorem zcy_eqO {t0 : Nat} {C : String} {k : Nat} {cA : ClassId} (hG : zGs D cy s) (ht : (zty cy)[t0]? = some (cy k, .object C)) (hK : va_K D vwCl (zty cy ++ [(cA, .object C)]) s) : cA = cy k := by
  obtain ⟨_, _, -, -, -, h1⟩ := (hG.1.2 t0 _ ht).2
  obtain ⟨_, _, -, -, -, h2⟩ := (hK.2 (zty cy).length (cA, .object C) (by rw [List.getElem?_append_right (Nat.le_refl _), Nat.sub_self]; rfl)).2
  exact Option.some.inj (h2.symm.trans h1)
theorem zad_N (hN : zN σ < 1000000) : zad B sc tx (zN σ) = B + zN σ := zad_lt hN
theorem zAr_in {a : FieldType} (h : Cond.arrayClass a ∈ [Cond.arrayClass .int, .arrayClass .byte, .arrayClass .long, .arrayClass .char, .arrayClass .boolean]) : Cond.arrayClass a ∈ zWS := zWS_of (zsub_in _ _ zAr_all _ h) rfl
set_option maxHeartbeats 4000000 in
theorem znew_ok (hx : p.tables.exec = Jvm.exec) (hb : c.code = cc) (hown : s.vm.findClass (zOw (zMI n).2.2.2.2.1) = some m.cls) (hts : ∀ w ∈ zWS, w.before args s = true) (hG : zGs D cy s) (hBs : B ≤ s.heap.size)
    {ci t : Nat} {st : List Value} (hd : decode cc pc = .ok (.new t, 3)) (hk : zlnk n (.new ci) t = true) (hc : (zLY (zN σ)).1 = ci) (hc2 : ci ≤ 10) (hP : va_P D vwCl (zW (zad B sc tx) cy σ) H) (hS : va_S (fun q => B ≤ q) s.heap H locs) (hN : zN σ < 1000000)
    (hr1 : cells + 1 ≤ R.cells) (hr2 : slots + (zLY (zN σ)).2 ≤ R.slots) (hsz : s.heap.size + cells ≤ B + zN σ)
    (k : ∀ H' locs', va_P D vwCl (zW (zad B sc tx) cy (znew σ)) H' → va_S (fun q => B ≤ q) s.heap H' locs' → W p l e R s m args below meth c H' locs' (cells + 1) (slots + (zLY (zN σ)).2) Q (F0 m (pc + 3) lsA (.ref (zad B sc tx (zN σ)) :: st))) : W p l e R s m args below meth c H locs cells slots Q (F0 m pc lsA st) := by
  simp only [zlnk, decide_eq_true_eq] at hk
  obtain ⟨q, hq1, hnum⟩ := zLY_obj (by omega : (zLY (zN σ)).1 ≤ 10)
  rw [hc] at hq1
  obtain ⟨hC1, hC2, -, -⟩ := zCl_all _ _ hq1
  have hlink := hts _ (zwC_in hk)
  have hcn : zCN ci = q.1 := by
    unfold zCN
    rw [if_neg (by omega), if_neg (by omega), if_neg (by omega), if_neg (by omega), hq1]
  unfold zwC at hlink
  simp only [hcn] at hlink
  have hins : ∀ (ci : Nat) (q : vw_C), vwCl[ci]? = some q → (q.1, q.2.2) ∈ zoIs ∧ q.1 ∈ zoIn := by
    intro ci q h
    match ci, h with
    | 0, h => cases h; exact ⟨by decide +kernel, by decide +kernel⟩
    | 1, h => cases h; exact ⟨by decide +kernel, by decide +kernel⟩
    | 2, h => cases h; exact ⟨by decide +kernel, by decide +kernel⟩
    | 3, h => cases h; exact ⟨by decide +kernel, by decide +kernel⟩
    | 4, h => cases h; exact ⟨by decide +kernel, by decide +kernel⟩
    | 5, h => cases h; exact ⟨by decide +kernel, by decide +kernel⟩
    | 6, h => cases h; exact ⟨by decide +kernel, by decide +kernel⟩
    | 7, h => cases h; exact ⟨by decide +kernel, by decide +kernel⟩
    | 8, h => cases h; exact ⟨by decide +kernel, by decide +kernel⟩
    | 9, h => cases h; exact ⟨by decide +kernel, by decide +kernel⟩
    | 10, h => cases h; exact ⟨by decide +kernel, by decide +kernel⟩
    | n + 11, h => simp [vwCl] at h
  have hty : ∃ ty : Nat → FieldType, ∀ k, k < q.2.2 → parseFieldDescriptor (q.2.1 k).2.2.1 = some (ty k) ∧ zsrt (zft ci k) (ty k) = true := ⟨fun k => (parseFieldDescriptor (q.2.1 k).2.2.1).getD .int, fun k hk => by
    obtain ⟨t1, e1, e2⟩ := hC2 k hk
    show parseFieldDescriptor (q.2.1 k).2.2.1 = some ((parseFieldDescriptor (q.2.1 k).2.2.1).getD .int) ∧ zsrt (zft ci k) ((parseFieldDescriptor (q.2.1 k).2.2.1).getD .int) = true
    rw [e1]; exact ⟨rfl, e2⟩⟩
  obtain ⟨ty, hty⟩ := hty
  refine va_new (fs := zfs (zad B sc tx) (znew σ) (zN σ) ci q.2.2) hx hb hts hC1 ty (fun k hk => (hty k hk).1) hown hlink (hts _ (zwIs_in (hins _ _ hq1).1)) (hts _ (zwIn_in (hins _ _ hq1).2)) hG.1 hP (zW_D (Nat.le_of_lt hN)) hS (fun q h => Nat.le_trans hBs h) hq1 ?_ hr1 (by rw [hnum]; exact hr2) hd fun q0 H1 hP1 hD1 hS1 => ?_
  · intro j hj
    have h1 := (hty j hj).2
    rw [vp_V, List.getD_eq_getElem?_getD, zfs_at hj]
    show defaultValue (ty j) = zfv _ _ _ _ _
    unfold zfv
    rw [zI_new, zL_new, zR_new]
    generalize zft ci j = z at h1
    generalize ty j = y at h1
    match z, y, h1 with
    | 0, .int, _ => rfl
    | 1, .long, _ => rfl
    | 2, .object _, _ => rfl
    | 2, .array _, _ => rfl
    | 3, .boolean, _ => rfl
  · rw [hnum]
    refine zW_sz (k := B + zN σ + 1) (by omega) fun hz => ?_
    have e := zlow (Nat.le_of_lt hN) rfl hP1 hD1 hz
    subst e
    rw [← zad_N (sc := sc) (tx := tx) hN] at hP1 ⊢
    refine k H1 locs ?_ hS1
    rw [zW_new, zel_o (by omega), hc, ← hnum]
    exact hP1
set_option maxHeartbeats 4000000 in
theorem znewa_ok (hx : p.tables.exec = Jvm.exec) (hb : c.code = cc) (hts : ∀ w ∈ zWS, w.before args s = true) (hG : zGs D cy s) (hBs : B ≤ s.heap.size)
    {aty : ArrayType} {j : Int32} {st : List Value} (hd : decode cc pc = .ok (.newarray aty, 2)) (hj : ¬ j < 0) (hc : zLY (zN σ) = (zaty aty, j.toNatClampNeg)) (hP : va_P D vwCl (zW (zad B sc tx) cy σ) H) (hS : va_S (fun q => B ≤ q) s.heap H locs) (hN : zN σ < 1000000) (hsm : (zLY (zN σ)).2 ≤ 100000)
    (hr1 : cells + 1 ≤ R.cells) (hr2 : slots + (zLY (zN σ)).2 ≤ R.slots) (hsz : s.heap.size + cells ≤ B + zN σ) (h4 : zaty aty ≤ 14)
    (k : ∀ H' locs', va_P D vwCl (zW (zad B sc tx) cy (znew σ)) H' → va_S (fun q => B ≤ q) s.heap H' locs' → W p l e R s m args below meth c H' locs' (cells + 1) (slots + (zLY (zN σ)).2) Q (F0 m (pc + 2) lsA (.ref (zad B sc tx (zN σ)) :: st))) : W p l e R s m args below meth c H locs cells slots Q (F0 m pc lsA (.int j :: st)) := by
  have hlen : (zLY (zN σ)).2 = j.toNatClampNeg := by rw [hc]
  have fin : ∀ (kd : Nat) (x : vp_A) (ty : FieldType) (t0 : Nat), (zty cy)[t0]? = some (cy kd, ty) → (∀ C, ty ≠ .object C) → zel (zad B sc tx) cy (znew σ) (zN σ) = .inl (cy kd, x) → ∀ (q : Nat) (cA : ClassId) (H1 : Heap), va_K D vwCl (zty cy ++ [(cA, ty)]) s → va_P D vwCl (zW (zad B sc tx) cy σ ++ [(q, .inl (cA, x))]) H1 → va_D (fun q => B ≤ q) (zW (zad B sc tx) cy σ ++ [(q, .inl (cA, x))]) → va_S (fun q => B ≤ q) s.heap H1 locs → W p l e R s m args below meth c H1 locs (cells + 1) (slots + j.toNatClampNeg) Q (F0 m (pc + 2) lsA (.ref q :: st)) := by
    intro kd x ty t0 ht0 hno hel q cA H1 hK1 hP1 hD1 hS1
    have e1 := zcy_eq hG ht0 hno hK1
    subst e1
    refine zW_sz (k := B + zN σ + 1) (by omega) fun hz => ?_
    have e := zlow (Nat.le_of_lt hN) rfl hP1 hD1 hz
    subst e
    rw [← zad_N (sc := sc) (tx := tx) hN] at hP1 ⊢
    rw [← hlen]
    refine k H1 locs ?_ hS1
    rw [zW_new, hel]
    exact hP1
  have hkd : (zLY (zN σ)).1 = zaty aty := by rw [hc]
  cases aty <;> first | (exact absurd h4 (by decide)) | skip
  case boolean =>
    refine va_newa (atype := .boolean) (ty := .boolean) (a0 := (j.toNatClampNeg, .inl (fun _ => 0))) hx hb (hts _ (zAr_in (by decide +kernel))) rfl hG.1 hP (zW_D (Nat.le_of_lt hN)) hS (fun q h => Nat.le_trans hBs h) (fun cA => rfl) hj rfl (by simp only [componentBytes]; omega) hr1 (by omega) hd ?_
    exact fin 14 _ .boolean 3 rfl (by intro C h; cases h) (by rw [zel_i hkd (by decide), zI_new, hlen]; rfl)
  case char =>
    refine va_newa (atype := .char) (ty := .char) (a0 := (j.toNatClampNeg, .inl (fun _ => 0))) hx hb (hts _ (zAr_in (by decide +kernel))) rfl hG.1 hP (zW_D (Nat.le_of_lt hN)) hS (fun q h => Nat.le_trans hBs h) (fun cA => rfl) hj rfl (by simp only [componentBytes]; omega) hr1 (by omega) hd ?_
    exact fin 11 _ .char 0 rfl (by intro C h; cases h) (by rw [zel_i hkd (by decide), zI_new, hlen]; rfl)
  case int =>
    refine va_newa (atype := .int) (ty := .int) (a0 := (j.toNatClampNeg, .inl (fun _ => 0))) hx hb (hts _ (zAr_in (by decide +kernel))) rfl hG.1 hP (zW_D (Nat.le_of_lt hN)) hS (fun q h => Nat.le_trans hBs h) (fun cA => rfl) hj rfl (by simp only [componentBytes]; omega) hr1 (by omega) hd ?_
    exact fin 12 _ .int 1 rfl (by intro C h; cases h) (by rw [zel_i hkd (by decide), zI_new, hlen]; rfl)
  case long =>
    refine va_newa (atype := .long) (ty := .long) (a0 := (j.toNatClampNeg, .inr (.inl (fun _ => 0)))) hx hb (hts _ (zAr_in (by decide +kernel))) rfl hG.1 hP (zW_D (Nat.le_of_lt hN)) hS (fun q h => Nat.le_trans hBs h) (fun cA => rfl) hj rfl (by simp only [componentBytes]; omega) hr1 (by omega) hd ?_
    exact fin 13 _ .long 2 rfl (by intro C h; cases h) (by rw [zel_l hkd, zL_new, hlen])
set_option maxHeartbeats 4000000 in
theorem znewq_ok (hx : p.tables.exec = Jvm.exec) (hb : c.code = cc) (hown : s.vm.findClass (zOw (zMI n).2.2.2.2.1) = some m.cls) (hts : ∀ w ∈ zWS, w.before args s = true) (hG : zGs D cy s) (hBs : B ≤ s.heap.size)
    {ci t : Nat} {j : Int32} {st : List Value} (hd : decode cc pc = .ok (.anewarray t, 3)) (hk : zlnk n (.anewarray ci) t = true) (h15 : ci = 15 ∨ ci = 16 ∨ ci = 17) (hj : ¬ j < 0) (hc : zLY (zN σ) = (ci, j.toNatClampNeg)) (hP : va_P D vwCl (zW (zad B sc tx) cy σ) H) (hS : va_S (fun q => B ≤ q) s.heap H locs) (hN : zN σ < 1000000) (hsm : (zLY (zN σ)).2 ≤ 100000)
    (hr1 : cells + 1 ≤ R.cells) (hr2 : slots + (zLY (zN σ)).2 ≤ R.slots) (hsz : s.heap.size + cells ≤ B + zN σ)
    (k : ∀ H' locs', va_P D vwCl (zW (zad B sc tx) cy (znew σ)) H' → va_S (fun q => B ≤ q) s.heap H' locs' → W p l e R s m args below meth c H' locs' (cells + 1) (slots + (zLY (zN σ)).2) Q (F0 m (pc + 3) lsA (.ref (zad B sc tx (zN σ)) :: st))) : W p l e R s m args below meth c H locs cells slots Q (F0 m pc lsA (.int j :: st)) := by
  have hlen : (zLY (zN σ)).2 = j.toNatClampNeg := by rw [hc]
  have hkd : (zLY (zN σ)).1 = ci := by rw [hc]
  simp only [zlnk, decide_eq_true_eq] at hk
  have hlink := hts _ (zwA_in hk)
  unfold zwC at hlink
  have fin : ∀ (C : String) (t0 : Nat), zCN ci = C → va_AO C s → (zty cy)[t0]? = some (cy ci, .object C) → W p l e R s m args below meth c H locs cells slots Q (F0 m pc lsA (.int j :: st)) := by
    intro C t0 hC hAO ht0
    rw [hC] at hlink
    refine va_newq hx hb hown hlink hAO hG.1 hP (zW_D (Nat.le_of_lt hN)) hS (fun q h => Nat.le_trans hBs h) hj rfl (by omega) hr1 (by omega) hd fun q cA H1 hK1 hP1 hD1 hS1 => ?_
    have e1 := zcy_eqO hG ht0 hK1
    subst e1
    refine zW_sz (k := B + zN σ + 1) (by omega) fun hz => ?_
    have e := zlow (Nat.le_of_lt hN) rfl hP1 hD1 hz
    subst e
    rw [← zad_N (sc := sc) (tx := tx) hN] at hP1 ⊢
    rw [← hlen]
    refine k H1 locs ?_ hS1
    rw [zW_new, zel_q hkd (by omega), zR_new, hlen]
    exact hP1
  obtain ⟨hS1, hP2, hR1, -⟩ := hG.2.2
  rcases h15 with rfl | rfl | rfl
  · exact fin _ 4 rfl hP2 rfl
  · exact fin _ 5 rfl hR1 rfl
  · exact fin _ 6 rfl hS1 rfl
end ZMK
end
section
/-! NEW ROWS OF ROWS -/
theorem zN_news : ∀ (k : Nat) (σ : zSt), zN (znews k σ) = zN σ + k
  | 0, σ => rfl
  | k + 1, σ => by rw [znews, zN_news k, zN_new]; omega
theorem zI_news : ∀ (k : Nat) (σ : zSt) (o : Nat), zI (znews k σ) o = if zN σ ≤ o ∧ o < zN σ + k then (fun _ => 0) else zI σ o
  | 0, σ, o => by rw [if_neg (by omega)]; rfl
  | k + 1, σ, o => by
    rw [znews, zI_news k, zN_new]
    by_cases h : o = zN σ
    · subst h; rw [if_neg (by omega), if_pos (by omega), zI_new]
    · have e : zI (znew σ) o = zI σ o := by show va_up _ _ _ o = _; simp only [va_up, show ¬ o = σ.2.2.2 from h, if_false]; rfl
      rw [e]
      by_cases h2 : zN σ ≤ o ∧ o < zN σ + (k + 1)
      · rw [if_pos h2, if_pos (by omega)]
      · rw [if_neg h2, if_neg (by omega)]
theorem zL_news : ∀ (k : Nat) (σ : zSt) (o : Nat), zL (znews k σ) o = if zN σ ≤ o ∧ o < zN σ + k then (fun _ => 0) else zL σ o
  | 0, σ, o => by rw [if_neg (by omega)]; rfl
  | k + 1, σ, o => by
    rw [znews, zL_news k, zN_new]
    by_cases h : o = zN σ
    · subst h; rw [if_neg (by omega), if_pos (by omega), zL_new]
    · have e : zL (znew σ) o = zL σ o := by show va_up _ _ _ o = _; simp only [va_up, show ¬ o = σ.2.2.2 from h, if_false]; rfl
      rw [e]
      by_cases h2 : zN σ ≤ o ∧ o < zN σ + (k + 1)
      · rw [if_pos h2, if_pos (by omega)]
      · rw [if_neg h2, if_neg (by omega)]
theorem zR_news : ∀ (k : Nat) (σ : zSt) (o : Nat), zR (znews k σ) o = if zN σ ≤ o ∧ o < zN σ + k then (fun _ => none) else zR σ o
  | 0, σ, o => by rw [if_neg (by omega)]; rfl
  | k + 1, σ, o => by
    rw [znews, zR_news k, zN_new]
    by_cases h : o = zN σ
    · subst h; rw [if_neg (by omega), if_pos (by omega), zR_new]
    · have e : zR (znew σ) o = zR σ o := by show va_up _ _ _ o = _; simp only [va_up, show ¬ o = σ.2.2.2 from h, if_false]; rfl
      rw [e]
      by_cases h2 : zN σ ≤ o ∧ o < zN σ + (k + 1)
      · rw [if_pos h2, if_pos (by omega)]
      · rw [if_neg h2, if_neg (by omega)]
section ZMU
variable {p : Program} {l : Launch} {e : Env} {R : Room} {s : State} {m : MethodId} {args : Array Value} {below : List Frame} {meth : Method} {c : Code} {H : Heap} {locs : List Loc} {cells slots : Nat} {Q : State → Prop}
variable {cc : ByteArray} {pc : Nat} {lsA : Array Slot} {D : va_G} {cy : Nat → ClassId} {B sc tx n : Nat} {σ σ' : zSt}
theorem zsz_low (hBs : B ≤ s.heap.size) (hN : zN σ ≤ 1000000) (hP : va_P D vwCl (zW (zad B sc tx) cy σ) H) (hS : va_S (fun q => B ≤ q) s.heap H locs) : B + zN σ ≤ H.size := by
  rcases Nat.eq_zero_or_pos (zN σ) with h | h
  · rw [h]; exact Nat.le_trans hBs hS.1
  · have h1 := (hP (zN σ - 1) _ (zW_at _ _ _ (by omega))).lt
    have h2 : zad B sc tx (zN σ - 1) < H.size := h1
    rw [zad_lt (by omega)] at h2
    omega
set_option maxHeartbeats 4000000 in
theorem zmna_ok (hx : p.tables.exec = Jvm.exec) (hb : c.code = cc) (hown : s.vm.findClass (zOw (zMI n).2.2.2.2.1) = some m.cls) (hts : ∀ w ∈ zWS, w.before args s = true) (hG : zGs D cy s) (hBs : B ≤ s.heap.size)
    {t : Nat} {k0 j0 : Int32} {st : List Value} {N K : Nat} (hd : decode cc pc = .ok (.multianewarray t 2, 4)) (hk : zlnk n (.multianewarray 18 2) t = true) (hk0 : ¬ k0 < 0) (hj0 : ¬ j0 < 0) (hjN : j0.toNatClampNeg = N) (hkK : k0.toNatClampNeg = K) (hc1 : zLY (zN σ) = (18, N)) (hc2 : ∀ j, j < N → zLY (zN σ + 1 + j) = (13, K))
    (hP : va_P D vwCl (zW (zad B sc tx) cy σ) H) (hS : va_S (fun q => B ≤ q) s.heap H locs) (hN : zN σ + (1 + N) < 1000000) (hs1 : N ≤ 100000) (hs2 : K ≤ 100000)
    (hr1 : cells + (1 + N) ≤ R.cells) (hr2 : slots + (N + N * K) ≤ R.slots) (hsz : s.heap.size + cells ≤ B + zN σ)
    (kk : ∀ H' locs', va_P D vwCl (zW (zad B sc tx) cy (zrR (znews (N + 1) σ) (zN σ) (fun j => if j < N then some (zN σ + 1 + j) else none))) H' → va_S (fun q => B ≤ q) s.heap H' locs' → W p l e R s m args below meth c H' locs' (cells + 1 + N) (slots + N + N * K) Q (F0 m (pc + 4) lsA (.ref (zad B sc tx (zN σ)) :: st))) : W p l e R s m args below meth c H locs cells slots Q (F0 m pc lsA (.int k0 :: .int j0 :: st)) := by
  subst hjN
  subst hkK
  have hlow := zsz_low (sc := sc) (tx := tx) hBs (by omega) hP hS
  refine zW_sz (k := B + zN σ) hsz fun hup => ?_
  have hsize : H.size = B + zN σ := Nat.le_antisymm hup hlow
  simp only [zlnk, decide_eq_true_eq] at hk
  have hlink := hts _ (zwA_in hk)
  unfold zwC at hlink
  have hlink : (Cond.classLink (zOw (zMI n).2.2.2.2.1) t ("[" ++ (FieldType.array .long).toString)).before args s = true := hlink
  have hover : (Cond.arrayOver (.array .long)).before args s = true := hG.2.2.2.2.2
  intro T hT X
  obtain ⟨vm₁, cA, comp, -, fA, fC, -, -, X', step⟩ := X.multianewarray2F hx hown hlink hover (hts _ (zAr_in (by decide +kernel))) (g := F0 m pc lsA (.int k0 :: .int j0 :: st)) rfl (by rw [hb]; exact hd) rfl hj0 hk0 (by omega) (by show _ * 8 ≤ _; omega) (by omega) rfl rfl hr1 hr2
  have e18 : cy 18 = cA := Option.some.inj ((hG.1.2 7 _ rfl).2.symm.trans fA)
  have e13 : cy 13 = comp := Option.some.inj ((hG.1.2 2 _ rfl).2.symm.trans fC)
  subst e18
  subst e13
  have hTh : (T.setVm vm₁).heap = H := hT
  obtain ⟨f1, f2, -, -⟩ := Jvm.Free.Multi.fill_facts (T.setVm vm₁) (cy 18) (cy 13) j0.toNatClampNeg k0.toNatClampNeg (defaultValue .long) j0.toNatClampNeg
  rw [hTh] at f1 f2
  have hold := fun (x : Nat) (hx : x < H.size) => Jvm.Free.Multi.fill_old (T.setVm vm₁) (cy 18) (cy 13) j0.toNatClampNeg k0.toNatClampNeg (defaultValue .long) (a := x) (by rw [hTh]; exact hx) j0.toNatClampNeg
  have hrow := fun (j : Nat) (hj : j < j0.toNatClampNeg) => Jvm.Free.Multi.fill_inner (T.setVm vm₁) (cy 18) (cy 13) j0.toNatClampNeg k0.toNatClampNeg (defaultValue .long) j0.toNatClampNeg j hj
  rw [hTh] at hold hrow
  generalize Jvm.Free.Multi.fill (T.setVm vm₁) (cy 18) (cy 13) j0.toNatClampNeg k0.toNatClampNeg (defaultValue .long) j0.toNatClampNeg = F at X' step f1 f2 hold hrow
  have hres := kk F.heap locs ?_ ?_ F rfl X'
  · obtain ⟨t, a1, b1⟩ := hres
    refine ⟨t, step t ?_, b1⟩
    have e0 : zad B sc tx (zN σ) = T.heap.size := by rw [zad_lt (by omega), ← hsize, hT]
    rw [← e0]
    exact a1
  · intro o q hq
    have ho : o < zN σ + (j0.toNatClampNeg + 1) := by
      have h := (List.getElem?_eq_some_iff.mp hq).1
      rw [zW_len] at h
      have h2 : zN (zrR (znews (j0.toNatClampNeg + 1) σ) (zN σ) (fun j => if j < j0.toNatClampNeg then some (zN σ + 1 + j) else none)) = zN σ + (j0.toNatClampNeg + 1) := zN_news _ _
      omega
    rw [zW_at _ _ _ (by show o < zN (znews _ σ); rw [zN_news]; exact ho)] at hq
    cases hq
    rcases Nat.lt_trichotomy o (zN σ) with h | h | h
    · have e1 : zel (zad B sc tx) cy (zrR (znews (j0.toNatClampNeg + 1) σ) (zN σ) (fun j => if j < j0.toNatClampNeg then some (zN σ + 1 + j) else none)) o = zel (zad B sc tx) cy σ o := by
        refine zel_congr ?_ ?_ ?_
        · show zI (znews _ σ) o = _; rw [zI_news, if_neg (by omega)]
        · show zL (znews _ σ) o = _; rw [zL_news, if_neg (by omega)]
        · show va_up _ _ _ o = _
          simp only [va_up, show ¬ o = zN σ by omega, if_false]
          show zR (znews _ σ) o = _; rw [zR_news, if_neg (by omega)]
      rw [e1]
      have h3 := hP o _ (zW_at _ _ _ h)
      exact h3.kept (hold _ h3.lt)
    · subst h
      have e1 : zel (zad B sc tx) cy (zrR (znews (j0.toNatClampNeg + 1) σ) (zN σ) (fun j => if j < j0.toNatClampNeg then some (zN σ + 1 + j) else none)) (zN σ) = .inl (cy 18, (j0.toNatClampNeg, .inr (.inr (.inr (.inr (fun j => if j < j0.toNatClampNeg then some (H.size + 1 + j) else none)))))) := by
        rw [zel_q (k := 18) (by rw [hc1]) (by omega), hc1]
        refine congrArg (fun f => Sum.inl (cy 18, j0.toNatClampNeg, Sum.inr (Sum.inr (Sum.inr (Sum.inr f))))) (funext fun x => ?_)
        have e2 : zR (zrR (znews (j0.toNatClampNeg + 1) σ) (zN σ) (fun j => if j < j0.toNatClampNeg then some (zN σ + 1 + j) else none)) (zN σ) = fun j => if j < j0.toNatClampNeg then some (zN σ + 1 + j) else none := by
          show va_up _ _ _ _ = _
          simp only [va_up, if_true]
        rw [e2]
        dsimp only
        by_cases h4 : x < j0.toNatClampNeg
        · simp only [h4, if_true, Option.map_some]
          rw [zad_lt (by omega), hsize]
          congr 1; omega
        · simp only [h4, if_false, Option.map_none]
      rw [e1]
      show F.heap[zad B sc tx (zN σ)]? = some (vp_cell _ _)
      rw [zad_lt (by omega), ← hsize, f2, vp_cell_q]
      exact congrArg some (vr_outer (cy 18) j0.toNatClampNeg H.size j0.toNatClampNeg)
    · obtain ⟨j, rfl⟩ : ∃ j, o = zN σ + 1 + j := ⟨o - zN σ - 1, by omega⟩
      have hj : j < j0.toNatClampNeg := by omega
      have e1 : zel (zad B sc tx) cy (zrR (znews (j0.toNatClampNeg + 1) σ) (zN σ) (fun j => if j < j0.toNatClampNeg then some (zN σ + 1 + j) else none)) (zN σ + 1 + j) = .inl (cy 13, (k0.toNatClampNeg, .inr (.inl (fun _ => 0)))) := by
        rw [zel_l (by rw [hc2 j hj]), hc2 j hj]
        show Sum.inl (cy 13, k0.toNatClampNeg, Sum.inr (Sum.inl (zL (znews _ σ) _))) = _
        rw [zL_news, if_pos (by omega)]
      rw [e1]
      show F.heap[zad B sc tx (zN σ + 1 + j)]? = some (vp_cell _ _)
      rw [zad_lt (by omega), show B + (zN σ + 1 + j) = H.size + 1 + j by omega, hrow j hj]
      exact congrArg some (arrV_new (cy 13) k0.toNatClampNeg (.long 0))
  · refine ⟨Nat.le_trans hS.1 (by omega), fun q h1 h2 => ?_, hS.2.2⟩
    rw [hold q (Nat.lt_of_lt_of_le h1 hS.1)]
    exact hS.2.1 q h1 h2
end ZMU
end
section
/-! WHAT A STEP LEAVES: objects are only added; the script stays. -/
def zKp (σ σ' : zSt) : Prop := zN σ ≤ zN σ' ∧ (zN σ' ≤ 900000 → zI σ' zSCR = zI σ zSCR ∧ zR σ' zSCR = zR σ zSCR)
theorem zKp.rfl' {σ : zSt} : zKp σ σ := ⟨Nat.le_refl _, fun _ => ⟨rfl, rfl⟩⟩
theorem zKp.trans {a b c : zSt} (h1 : zKp a b) (h2 : zKp b c) : zKp a c := ⟨Nat.le_trans h1.1 h2.1, fun h => by
  obtain ⟨x1, x2⟩ := h2.2 h
  obtain ⟨y1, y2⟩ := h1.2 (Nat.le_trans h2.1 h)
  exact ⟨x1.trans y1, x2.trans y2⟩⟩
theorem zKp_wI {σ : zSt} {o k : Nat} {v : Int32} (ho : o < zN σ) : zKp σ (zwI σ o k v) := ⟨Nat.le_refl _, fun h => ⟨by
  have h : zN σ ≤ 900000 := h
  show va_up _ _ _ zSCR = _
  simp only [va_up, show ¬ zSCR = o by unfold zSCR; omega, if_false]; rfl, rfl⟩⟩
theorem zKp_wL {σ : zSt} {o k : Nat} {v : Int64} : zKp σ (zwL σ o k v) := ⟨Nat.le_refl _, fun _ => ⟨rfl, rfl⟩⟩
theorem zKp_wR {σ : zSt} {o k : Nat} {v : Option Nat} (ho : o < zN σ) : zKp σ (zwR σ o k v) := ⟨Nat.le_refl _, fun h => ⟨rfl, by
  have h : zN σ ≤ 900000 := h
  show va_up _ _ _ zSCR = _
  simp only [va_up, show ¬ zSCR = o by unfold zSCR; omega, if_false]; rfl⟩⟩
theorem zKp_rI {σ : zSt} {o : Nat} {f : Nat → Int32} (ho : o < zN σ) : zKp σ (zrI σ o f) := ⟨Nat.le_refl _, fun h => ⟨by
  have h : zN σ ≤ 900000 := h
  show va_up _ _ _ zSCR = _
  simp only [va_up, show ¬ zSCR = o by unfold zSCR; omega, if_false]; rfl, rfl⟩⟩
theorem zKp_rL {σ : zSt} {o : Nat} {f : Nat → Int64} : zKp σ (zrL σ o f) := ⟨Nat.le_refl _, fun _ => ⟨rfl, rfl⟩⟩
theorem zKp_new {σ : zSt} : zKp σ (znew σ) := ⟨Nat.le_succ _, fun h => by
  have h : zN σ + 1 ≤ 900000 := h
  have hne : ¬ zSCR = σ.2.2.2 := by
    have : σ.2.2.2 = zN σ := rfl
    unfold zSCR; omega
  constructor
  · show va_up _ _ _ zSCR = _
    simp only [va_up, hne, if_false]; rfl
  · show va_up _ _ _ zSCR = _
    simp only [va_up, hne, if_false]; rfl⟩
theorem zmem_kp {i : Instr} {st st' : List Value} {σ σ' : zSt} (h : zmem i st σ = some (st', σ')) : zKp σ σ' := by
  unfold zmem at h
  split at h
  all_goals (repeat' (first | (cases h; done) | split at h))
  all_goals first
    | (cases h; exact zKp.rfl')
    | (rename_i hc; cases h; exact zKp_wI hc.1)
    | (cases h; exact zKp_wL)
    | (rename_i hc; cases h; exact zKp_wR hc.1)
    | (rename_i hc _ _ _; cases h; exact zKp_wI hc.1)
    | (rename_i hc _ _; cases h; exact zKp_wI hc.1)
    | (rename_i hc _ _ _; cases h; exact zKp_wR hc.1)
    | (rename_i hc _ _; cases h; exact zKp_wR hc.1)
    | (rename_i hc _; cases h; exact zKp_wR hc.1)
theorem zmak_kp {i : Instr} {st st' : List Value} {σ σ' : zSt} (h : zmak i st σ = some (st', σ')) : zKp σ σ' := by
  unfold zmak at h
  split at h
  all_goals (repeat' (first | (cases h; done) | split at h))
  all_goals first
    | (cases h; exact zKp_new)
    | skip
  rename_i k n r hc
  cases h
  refine ⟨by show zN σ ≤ zN (znews _ σ); rw [zN_news]; omega, fun h9 => ?_⟩
  have h9 : zN (znews (n.toNatClampNeg + 1) σ) ≤ 900000 := h9
  rw [zN_news] at h9
  constructor
  · show zI (znews _ σ) zSCR = _
    rw [zI_news, if_neg (by unfold zSCR; omega)]
  · show va_up _ _ _ zSCR = _
    simp only [va_up, show ¬ zSCR = zN σ by unfold zSCR; omega, if_false]
    show zR (znews _ σ) zSCR = _
    rw [zR_news, if_neg (by unfold zSCR; omega)]
theorem zstp_kp {i : Instr} {len t pc pc' : Nat} {ls ls' : zLv} {st st' : List Value} {σ σ' : zSt} (h : zstp i len t pc ls st σ = some (.inl (pc', ls', st', σ'))) : zKp σ σ' := by
  unfold zstp zgo at h
  split at h
  · cases h; exact zKp.rfl'
  · split at h
    · cases h; exact zKp.rfl'
    · split at h
      · cases h; exact zKp.rfl'
      · split at h
        · rename_i hm; cases h; exact zmem_kp hm
        · split at h
          · rename_i hm; cases h; exact zmak_kp hm
          · split at h
            · cases h; exact zKp.rfl'
            · split at h <;> cases h
theorem zstp_kpR {i : Instr} {len t pc : Nat} {ls : zLv} {st : List Value} {σ : zSt} {q : zSt × Option Value} (h : zstp i len t pc ls st σ = some (.inr q)) : zKp σ q.1 := by
  unfold zstp zgo at h
  split at h
  · cases h
  · split at h
    · cases h
    · split at h
      · cases h
      · split at h
        · cases h
        · split at h
          · cases h
          · split at h
            · cases h
            · split at h
              · cases h; exact zKp.rfl'
              · cases h
theorem znat_kp {n : Nat} {a : List Value} {σ : zSt} {q : zSt × Option Value} (h : znat n a σ = some q) : zKp σ q.1 := by
  unfold znat at h
  split at h
  all_goals (repeat' (first | (cases h; done) | split at h))
  all_goals first
    | (cases h; exact zKp.rfl')
    | (cases h; exact zKp_rL)
    | (rename_i hc _; cases h; exact zKp_rI hc.2.1)
theorem zrun_kp : ∀ (f : Nat) (c : zCode) (pc : Nat) (ls : zLv) (st : List Value) (σ : zSt) (q : zSt × Option Value), zrun f c pc ls st σ = some q → zKp σ q.1
  | 0, c, pc, ls, st, σ, q, h => by cases h
  | f + 1, c, pc, ls, st, σ, q, h => by
    rw [zrun] at h
    split at h
    · split at h
      · split at h
        · split at h
          · split at h
            · rename_i hr
              refine zKp.trans ?_ (zrun_kp f _ _ _ _ _ _ h)
              split at hr
              · exact znat_kp hr
              · exact zrun_kp f _ _ _ _ _ _ hr
            · cases h
          · cases h
        · cases h
      · split at h
        · rename_i hs
          exact zKp.trans (zstp_kp hs) (zrun_kp f _ _ _ _ _ _ h)
        · rename_i hs
          cases h
          exact zstp_kpR hs
        · cases h
    · cases h
end
section
/-! WHAT STAYS FROM STATE TO STATE; ANSWERS; CALLS -/
def zTXs : String := "bit byte char short int long float double word scheme times cross to from by over plus "
/-- the one string, and two statics of the JDK's -/
def zSg (B tx : Nat) (U : State) : Prop := vk_R RX0 60 zTXs tx U ∧ (∃ ad : Nat, vk_S 1 [87] [zTX] (fun _ => tx) (fun _ => ad) (fun q => B ≤ q) U U.heap) ∧ va_Z "java/lang/String" "COMPACT_STRINGS" "Z" (.int 1) (fun q => B ≤ q) U U.heap ∧ va_Zq "jdk/internal/util/Preconditions" "SIOOBE_FORMATTER" "Ljava/util/function/BiFunction;" (fun q => B ≤ q) U U.heap
theorem zSg.go {B tx : Nat} {s t : State} (hW : s.WarmedH t.vm) (hk : ∀ a : Nat, a < s.heap.size → ¬ B ≤ a → t.heap[a]? = s.heap[a]?) (h : zSg B tx s) : zSg B tx t := by
  obtain ⟨h1, ⟨ad, h2⟩, h3, h4⟩ := h
  exact ⟨vk_R.warm hW h1, ⟨ad, (vk_S.moved hW.alike h2).kept hk⟩, (va_Z.moved hW.alike h3).kept hk, (va_Zq.moved hW.alike h4).kept hk⟩
/-- arrays of rows of longs: as the tables have them, in every state of this start -/
theorem zAOA_go {u U : State} (hvm : u.vm.Alike U.vm) (h : va_Nw (.arrayOver (.array .long)) u) : va_Nw (.arrayOver (.array .long)) U := by
  unfold va_Nw Cond.before Cond.holds at h ⊢
  simp only [Cond.value, beq_iff_eq] at h ⊢
  rw [hvm.findClass]
  cases hc : u.vm.findClass (FieldType.array .long).toString with
  | none => rw [hc] at h; cases h
  | some comp =>
    rw [hc, Option.bind_some] at h
    rw [Option.bind_some]
    rw [hvm.findIdx?_eq _ (fun _ => rfl)]
    generalize Array.findIdx? _ u.vm.classes = r at h ⊢
    cases r with
    | none => cases h
    | some c =>
      rw [Option.bind_some] at h ⊢
      cases hk : u.vm.classes[c]? with
      | none => rw [hk] at h; cases h
      | some k =>
        obtain ⟨k', hk', he⟩ := hvm.2.2 _ _ hk
        rw [hk] at h
        rw [hk']
        have hkind : k'.kind = k.kind := by rw [he]
        simp only [Option.map_some, hkind, hvm.findClass] at h ⊢
        exact h
theorem zGs.go {D : va_G} {cy : Nat → ClassId} {s t : State} (hW : s.WarmedH t.vm) (h : zGs D cy s) : zGs D cy t := by
  obtain ⟨h1, h2, h3, h4, h5, h6⟩ := h
  refine ⟨va_K.moved hW.alike h1, fun q hq => va_Nw.warmM hW (h2 q hq), va_AO.moved hW.alike h3, va_AO.moved hW.alike h4, va_AO.moved hW.alike h5, ?_⟩
  exact zAOA_go hW.alike h6
/-- THE WORLD of a store, in a state of the claim's machine -/
def zWd (D : va_G) (cy : Nat → ClassId) (B sc tx : Nat) (σ : zSt) (U : State) : Prop :=
  U.heap.size = B + zN σ ∧ va_P D vwCl (zW (zad B sc tx) cy σ) U.heap ∧ zGs D cy U ∧ zSg B tx U ∧ va_X sc ((zR σ zSCR 0).getD 0) (zI σ zSCR) U U.heap ∧ sc < B
theorem zWd.go {D : va_G} {cy : Nat → ClassId} {B sc tx : Nat} {σ σ' : zSt} {s t : State} {H : Heap} {locs : List Loc} (h : zWd D cy B sc tx σ s) (hW : s.WarmedH t.vm) (ht : t.heap = H) (hz : H.size = B + zN σ') (hP : va_P D vwCl (zW (zad B sc tx) cy σ') H) (hS : va_S (fun q => B ≤ q) s.heap H locs) (hk : zI σ' zSCR = zI σ zSCR ∧ zR σ' zSCR = zR σ zSCR) : zWd D cy B sc tx σ' t := by
  obtain ⟨h1, h2, h3, h4, h5, h6⟩ := h
  subst ht
  refine ⟨hz, hP, h3.go hW, h4.go hW hS.2.1, ?_, h6⟩
  rw [hk.1, hk.2]
  exact (va_X.moved hW.alike h5).kept (hS.2.1 sc (by omega) (by show ¬ B ≤ sc; omega))
section ZCL
variable {p : Program} {l : Launch} {e : Env} {R : Room} {s : State} {m : MethodId} {args : Array Value} {below : List Frame} {meth : Method} {c : Code} {H : Heap} {locs : List Loc} {cells slots : Nat} {Q : State → Prop}
variable {cc : ByteArray} {pc : Nat} {lsA : Array Slot} {D : va_G} {cy : Nat → ClassId} {B sc tx n : Nat} {σ σ' : zSt}
set_option maxHeartbeats 4000000 in
theorem zret_ok {Qc : Array Value → State → Outcome → State → Prop} {free : Addr → Prop} (hx : p.tables.exec = Jvm.exec) (hb : c.code = cc) (ad : Nat → Nat) (hr : meth.sig.returnType = (zMI n).2.2.2.1) (hlocks : meth.locks = false) {i : Instr} {t len : Nat} {st : List Value} {r : Option Value} (hd : decode cc pc = .ok (zreal i t, len)) (hl : zlenOK i len = true) (hk : zlnk n i t = true) (h : zret i t st = some r)
    (hq : ∀ t : State, t.heap = H → s.WarmedH t.vm → Qc args s (.returned (r.map (zv ad))) t) (hf : ∀ q ∈ locs, free q.base) : W p l e R s m args below meth c H locs cells slots (MQ below Qc args s cells slots free) (F0 m pc lsA (st.map (zv ad))) := by
  unfold zret at h
  split at h
  · have hl : 1 = len := eq_of_beq hl
    subst hl
    split at h
    · cases h
      simp only [zlnk, decide_eq_true_eq] at hk
      exact W.vret hx hb (hr.trans hk) hq hf hd
    · cases h
  · have hl : 1 = len := eq_of_beq hl
    subst hl
    split at h
    · split at h
      · rename_i hz
        cases h
        simp only [zlnk, Bool.or_eq_true, decide_eq_true_eq] at hk
        rcases hk with ⟨hk, e⟩ | ⟨hk, e⟩
        · exact W.iret hx hb (hr.trans hk) hq hf hd
        · rcases hz with hz | ⟨-, rfl | rfl⟩
          · omega
          · exact W.zret (ty := .boolean) hx hb (hr.trans hk) (by decide) hq hf hd
          · exact W.zret (ty := .boolean) hx hb (hr.trans hk) (by decide) hq hf hd
      · cases h
    · cases h
  · have hl : 1 = len := eq_of_beq hl
    subst hl
    split at h
    · cases h
      simp only [zlnk, decide_eq_true_eq] at hk
      exact W.lret hx hb (hr.trans hk) hq hf hd
    · cases h
  · have hl : 1 = len := eq_of_beq hl
    subst hl
    split at h
    · cases h
      simp only [zlnk, decide_eq_true_eq] at hk
      exact W.fret hx hb (hr.trans hk) hq hf hd
    · cases h
  · have hl : 1 = len := eq_of_beq hl
    subst hl
    split at h
    · cases h
      simp only [zlnk, decide_eq_true_eq] at hk
      exact W.dret hx hb (hr.trans hk) hq hf hd
    · cases h
  · have hl : 1 = len := eq_of_beq hl
    subst hl
    have hk2 : ∃ rt, (zMI n).2.2.2.1 = some rt ∧ ((∃ n, rt = .object n) ∨ ∃ t, rt = .array t) := by
      simp only [zlnk] at hk
      split at hk
      · rename_i o e; exact ⟨_, e, Or.inl ⟨_, rfl⟩⟩
      · rename_i o e; exact ⟨_, e, Or.inr ⟨_, rfl⟩⟩
      · cases hk
    obtain ⟨rt, hk3, hk4⟩ := hk2
    split at h
    · cases h
      exact W.aret hx hb (hr.trans hk3) hk4 (Or.inr ⟨_, rfl⟩) hq hf hd
    · cases h
      exact W.aret hx hb (hr.trans hk3) hk4 (Or.inl rfl) hq hf hd
    · cases h
  · cases h
theorem zldcwF (hx : p.tables.exec = Jvm.exec) (hb : c.code = cc) {ls : Array Slot} {rest : List Value} {own : String} {index : Nat} {v : UInt32} (hown : s.vm.findClass own = some m.cls) (hconst : (Jvm.Cond.constantFloat own index v).before args s = true) (hdg : decode cc pc = .ok (.ldc_w index, 3)) (k : W p l e R s m args below meth c H locs cells slots Q (F0 m (pc + 3) ls (.float v :: rest))) : W p l e R s m args below meth c H locs cells slots Q (F0 m pc ls rest) := by
  obtain ⟨kc, cf, hkc, hcf, hcp⟩ := Cond.constantFloat_spec hown hconst
  intro T hT X
  obtain ⟨t, a, b⟩ := k T hT X
  refine ⟨t, ?_, b⟩
  obtain ⟨k', hk', he⟩ := X.warmed.alike.2.2 _ _ hkc
  jvm_step X.here [hx, hb, hdg, ldc_w.wp_float (s := T) (f := F0 m pc ls rest) X.here.top hk' (by rw [he]; exact hcf) hcp]
  exact a
/-- constants -/
theorem zcst_ok (hx : p.tables.exec = Jvm.exec) (hb : c.code = cc) (hown : s.vm.findClass (zOw (zMI n).2.2.2.2.1) = some m.cls) (hts : ∀ w ∈ zWS, w.before args s = true) (hSg : zSg B tx s) {i : Instr} {t len : Nat} {st st' : List Value} (hd : decode cc pc = .ok (zreal i t, len)) (hl : zlenOK i len = true) (hk : zlnk n i t = true) (h : zcst i st = some st')
    (k : W p l e R s m args below meth c H locs cells slots Q (F0 m (pc + len) lsA (st'.map (zv (zad B sc tx))))) : W p l e R s m args below meth c H locs cells slots Q (F0 m pc lsA (st.map (zv (zad B sc tx)))) := by
  have hstr : zad B sc tx zSTR = tx := by unfold zad; rw [if_neg (by decide), if_pos rfl]
  unfold zcst at h
  split at h
  · rename_i j
    have hl : 2 = len := eq_of_beq hl
    subst hl
    cases hv : zCT[j]? with
    | none => rw [hv] at h; cases h
    | some v =>
      rw [hv] at h
      cases h
      simp only [zlnk, hv, Bool.or_eq_true, Bool.and_eq_true, decide_eq_true_eq] at hk
      rcases hk with hk | ⟨hk, hk2⟩
      · have e1 : (zMI n).2.2.2.2.1 = 1 ∧ t = 60 ∧ j = 0 := by
          unfold zLS at hk
          simpa using hk
        obtain ⟨e1, rfl, rfl⟩ := e1
        have e2 : v = .ref zSTR := by
          have : zCT[0]? = some (.ref zSTR) := rfl
          rw [this] at hv
          exact (Option.some.inj hv).symm
        subst e2
        rw [e1] at hown
        have k : W p l e R s m args below meth c H locs cells slots Q (F0 m (pc + 2) lsA (.ref (zad B sc tx zSTR) :: st.map (zv (zad B sc tx)))) := k
        rw [hstr] at k
        exact va_ldcS hx hb hown hSg.1 hd k
      · have hc := hts _ (zwK_in hk)
        unfold zwK at hc
        simp only [hv, Option.getD_some] at hc hk2
        cases v <;> first | (cases hk2; done) | skip
        · exact lv_ldc hx hb hown hc hd k
        · exact lv_ldcf hx hb hown hc hd k
  · rename_i j
    have hl : 3 = len := eq_of_beq hl
    subst hl
    cases hv : zCT[j]? with
    | none => rw [hv] at h; cases h
    | some v =>
      rw [hv] at h
      cases h
      simp only [zlnk, hv, Bool.and_eq_true, decide_eq_true_eq] at hk
      have hc := hts _ (zwK_in hk.1)
      unfold zwK at hc
      have hk2 := hk.2
      simp only [hv, Option.getD_some] at hc hk2
      cases v <;> first | (cases hk2; done) | skip
      · exact lv_ldcw hx hb hown hc hd k
      · exact zldcwF hx hb hown hc hd k
  · rename_i j
    have hl : 3 = len := eq_of_beq hl
    subst hl
    cases hv : zCT[j]? with
    | none => rw [hv] at h; cases h
    | some v =>
      rw [hv] at h
      cases h
      simp only [zlnk, hv, Bool.and_eq_true, decide_eq_true_eq] at hk
      have hc := hts _ (zwK_in hk.1)
      unfold zwK at hc
      have hk2 := hk.2
      simp only [hv, Option.getD_some] at hc hk2
      cases v <;> first | (cases hk2; done) | skip
      · exact lv_ldc2 hx hb hown hc hd k
      · exact lv_ldc2d hx hb hown hc hd k
  · cases h
/-- a call, whatever it answers -/
theorem zcall_ok {Qa : State → Outcome → State → Prop} {free : Addr → Prop} {mc ms : Nat} {rest st0 : List Value} {v : Option Value} {P : Heap → Prop} (hr : va_Run p l e R s m args below meth c H locs cells slots mc ms (F0 m pc lsA st0) rest Qa free) (hQ : ∀ st o t, Qa st o t → (o = .returned v ∧ P t.heap) ∧ va_F (fun q => B ≤ q) st t) (hS : va_S (fun q => B ≤ q) s.heap H locs) (hf : ∀ q, free q → B ≤ q)
    (kk : ∀ (H1 : Heap) (locs1 : List Loc), P H1 → va_S (fun q => B ≤ q) s.heap H1 locs1 → W p l e R s m args below meth c H1 locs1 (cells + mc) (slots + ms) Q (F0 m (pc + 3) lsA (v.toList ++ rest))) : W p l e R s m args below meth c H locs cells slots Q (F0 m pc lsA st0) := by
  intro T hT X
  obtain ⟨v', st₀, t, T', L, h0, X', hL, e1, e2, hq, st⟩ := hr T hT X
  obtain ⟨⟨hv, hP⟩, hz, hk⟩ := hQ _ _ _ hq
  cases hv
  rw [h0] at hz hk
  obtain ⟨t2, a1, b1⟩ := kk T'.heap (locs ++ L) (by rw [e1]; exact hP)
    ⟨Nat.le_trans hS.1 (by rw [e1]; exact hz), fun q h1 h2 => by rw [e1, hk q (Nat.lt_of_lt_of_le h1 hS.1) h2]; exact hS.2.1 q h1 h2, fun q hq => by
      rcases List.mem_append.mp hq with h | h
      · exact hS.2.2 q h
      · exact hf _ (hL q h)⟩ T' rfl X'
  exact ⟨t2, st t2 a1, b1⟩
end ZCL
theorem zpop_inv : ∀ {n : Nat} {st a r : List Value}, zpop n st = some (a, r) → st = a.reverse ++ r ∧ a.length = n
  | 0, st, a, r, h => by cases h; exact ⟨rfl, rfl⟩
  | n + 1, [], a, r, h => by cases h
  | n + 1, v :: st, a, r, h => by
    rw [zpop] at h
    cases hz : zpop n st with
    | none => rw [hz] at h; cases h
    | some q =>
      rw [hz] at h
      cases h
      obtain ⟨h1, h2⟩ := zpop_inv (a := q.1) (r := q.2) hz
      refine ⟨?_, by simp [h2]⟩
      rw [h1]; simp
end
section
/-! NEW OBJECTS, all kinds -/
theorem zLY_small (o : Nat) : (zLY o).2 ≤ 11740 := by
  have key : ∀ o, o < 181 → (zLY o).2 ≤ 11740 := by decide +kernel
  by_cases ho : o < 181
  · exact key o ho
  · have h2 : zLY o = (13, 8) := by
      unfold zLY
      rw [List.getElem?_eq_none (by have : zLYl.length = 181 := by decide +kernel
                                    omega)]
      rfl
    rw [h2]; decide
theorem zSl_rows {m N K : Nat} (h0 : (zLY m).2 = N) (h : ∀ j, j < N → zLY (m + 1 + j) = (13, K)) : zSl (m + (N + 1)) = zSl m + (N + N * K) := by
  have key : ∀ j, j ≤ N → zSl (m + 1 + j) = zSl m + (N + j * K) := by
    intro j
    induction j with
    | zero => intro _; show zSl m + (zLY m).2 = _; rw [h0]; simp
    | succ j ih =>
      intro hj
      show zSl (m + 1 + j) + (zLY (m + 1 + j)).2 = _
      rw [ih (by omega), h j (by omega), Nat.succ_mul]
      omega
  rw [show m + (N + 1) = m + 1 + N by omega]
  exact key N (Nat.le_refl _)
section ZMA
variable {p : Program} {l : Launch} {e : Env} {R : Room} {s : State} {m : MethodId} {args : Array Value} {below : List Frame} {meth : Method} {c : Code} {H : Heap} {locs : List Loc} {cells slots : Nat} {Q : State → Prop}
variable {cc : ByteArray} {pc : Nat} {lsA : Array Slot} {D : va_G} {cy : Nat → ClassId} {B sc tx n : Nat} {σ σ' : zSt}
set_option maxHeartbeats 4000000 in
theorem zmak_ok (hx : p.tables.exec = Jvm.exec) (hb : c.code = cc) (hown : s.vm.findClass (zOw (zMI n).2.2.2.2.1) = some m.cls) (hts : ∀ w ∈ zWS, w.before args s = true) (hG : zGs D cy s) (hBs : B ≤ s.heap.size)
    {i : Instr} {t len : Nat} {st st' : List Value} (hd : decode cc pc = .ok (zreal i t, len)) (hl : zlenOK i len = true) (hk : zlnk n i t = true) (h : zmak i st σ = some (st', σ')) (hP : va_P D vwCl (zW (zad B sc tx) cy σ) H) (hS : va_S (fun q => B ≤ q) s.heap H locs) (hN : zN σ' ≤ 900000)
    (hr1 : cells + (zN σ' - zN σ) ≤ R.cells) (hr2 : slots + (zSl (zN σ') - zSl (zN σ)) ≤ R.slots) (hsz : s.heap.size + cells ≤ B + zN σ)
    (k : ∀ H' locs', va_P D vwCl (zW (zad B sc tx) cy σ') H' → va_S (fun q => B ≤ q) s.heap H' locs' → W p l e R s m args below meth c H' locs' (cells + (zN σ' - zN σ)) (slots + (zSl (zN σ') - zSl (zN σ))) Q (F0 m (pc + len) lsA (st'.map (zv (zad B sc tx))))) : W p l e R s m args below meth c H locs cells slots Q (F0 m pc lsA (st.map (zv (zad B sc tx)))) := by
  have one : zN (znew σ) - zN σ = 1 := by rw [zN_new]; omega
  have onS : zSl (zN (znew σ)) - zSl (zN σ) = (zLY (zN σ)).2 := by rw [zN_new]; show zSl (zN σ) + _ - zSl (zN σ) = _; omega
  have hsm := zLY_small (zN σ)
  unfold zmak at h
  split at h
  · have hl : 3 = len := eq_of_beq hl
    subst hl
    split at h
    · rename_i ci hc
      cases h
      rw [one] at hr1 k; rw [onS] at hr2 k; rw [zN_new] at hN
      exact znew_ok hx hb hown hts hG hBs hd hk hc.1 hc.2 hP hS (by omega) hr1 hr2 hsz k
    · cases h
  · have hl : 2 = len := eq_of_beq hl
    subst hl
    split at h
    · split at h
      · rename_i aty _ j r hc
        cases h
        rw [one] at hr1 k; rw [onS] at hr2 k; rw [zN_new] at hN
        exact znewa_ok hx hb hts hG hBs hd hc.2.1 hc.2.2 hP hS (by omega) (by omega) hr1 hr2 hsz hc.1 k
      · cases h
    · cases h
  · have hl : 3 = len := eq_of_beq hl
    subst hl
    split at h
    · split at h
      · rename_i ci _ j r hc
        cases h
        rw [one] at hr1 k; rw [onS] at hr2 k; rw [zN_new] at hN
        exact znewq_ok hx hb hown hts hG hBs hd hk hc.1 hc.2.1 hc.2.2 hP hS (by omega) (by omega) hr1 hr2 hsz k
      · cases h
    · cases h
  · split at h
    · split at h
      · rename_i ci di _ k0 j0 r hc
        cases h
        obtain ⟨rfl, rfl, hk0, hj0, hc1, hc2⟩ := hc
        have hl : 4 = len := eq_of_beq hl
        subst hl
        have hN2 : zN (zrR (znews (j0.toNatClampNeg + 1) σ) (zN σ) (fun j => if j < j0.toNatClampNeg then some (zN σ + 1 + j) else none)) = zN σ + (j0.toNatClampNeg + 1) := zN_news _ _
        have hS2 := zSl_rows (K := k0.toNatClampNeg) (by rw [hc1]) hc2
        rw [hN2] at hN hr1 hr2 k
        rw [hS2] at hr2 k
        have e1 : zN σ + (j0.toNatClampNeg + 1) - zN σ = 1 + j0.toNatClampNeg := by omega
        have e2 : zSl (zN σ) + (j0.toNatClampNeg + j0.toNatClampNeg * k0.toNatClampNeg) - zSl (zN σ) = j0.toNatClampNeg + j0.toNatClampNeg * k0.toNatClampNeg := by omega
        rw [e1] at hr1 k
        rw [e2] at hr2 k
        rw [← Nat.add_assoc, ← Nat.add_assoc] at k
        have hs1 : j0.toNatClampNeg ≤ 100000 := by
          have := zLY_small (zN σ)
          rw [hc1] at this
          have this : j0.toNatClampNeg ≤ 11740 := this
          omega
        have hs2 : j0.toNatClampNeg = 0 ∨ k0.toNatClampNeg ≤ 100000 := by
          rcases Nat.eq_zero_or_pos j0.toNatClampNeg with h0 | h0
          · exact Or.inl h0
          · have := zLY_small (zN σ + 1 + 0)
            rw [hc2 0 h0] at this
            have this : k0.toNatClampNeg ≤ 11740 := this
            exact Or.inr (by omega)
        rcases hs2 with h0 | hs2
        · exfalso
          have key : ∀ o, o < 181 → ¬ zLY o = (18, 0) := by decide +kernel
          rw [h0] at hc1
          by_cases ho : zN σ < 181
          · exact key _ ho hc1
          · have h7 : zLY (zN σ) = (13, 8) := by
              unfold zLY
              rw [List.getElem?_eq_none (by have : zLYl.length = 181 := by decide +kernel
                                            omega)]
              rfl
            rw [h7] at hc1
            exact absurd hc1 (by decide)
        · exact zmna_ok hx hb hown hts hG hBs hd hk hk0 hj0 rfl rfl hc1 hc2 hP hS (by omega) hs1 hs2 hr1 hr2 hsz k
      · cases h
    · cases h
  · cases h
end ZMA
end
section
/-! THE STRING: length() and charAt(int) of the one string, and the JDK's methods behind them. -/
set_option maxRecDepth 100000 in
theorem zj_1 : ∀ w ∈ ([Cond.code ⟨"java/lang/Object", "<init>", "()V"⟩ object_method_1_code 1 (Option.none : Option FieldType), Cond.code ⟨"java/lang/String", "length", "()I"⟩ prog_20_method_54_code 1 (Option.some FieldType.int), Cond.code ⟨"java/lang/String", "coder", "()B"⟩ prog_20_method_152_code 1 (Option.some FieldType.byte), Cond.code ⟨"java/lang/String", "charAt", "(I)C"⟩ prog_20_method_56_code 2 (Option.some FieldType.char), Cond.code ⟨"java/lang/String", "isLatin1", "()Z"⟩ prog_20_method_154_code 1 (Option.some FieldType.boolean), Cond.code ⟨"java/lang/StringLatin1", "charAt", "([BI)C"⟩ prog_21_method_2_code 2 (Option.some FieldType.char), Cond.code ⟨"java/lang/String", "checkIndex", "(II)V"⟩ prog_20_method_155_code 2 (Option.none : Option FieldType)] : List Cond), w ∈ zWS := by
  have e : tables_1_1.filter k2_isCode = [zwc 124, Cond.code ⟨"java/lang/Object", "<init>", "()V"⟩ object_method_1_code 1 (Option.none : Option FieldType), zwc 0, zwc 103, zwc 55, zwc 95, zwc 45, zwc 90, Cond.code ⟨"java/lang/String", "length", "()I"⟩ prog_20_method_54_code 1 (Option.some FieldType.int), Cond.code ⟨"java/lang/String", "coder", "()B"⟩ prog_20_method_152_code 1 (Option.some FieldType.byte), Cond.code ⟨"java/lang/String", "charAt", "(I)C"⟩ prog_20_method_56_code 2 (Option.some FieldType.char), Cond.code ⟨"java/lang/String", "isLatin1", "()Z"⟩ prog_20_method_154_code 1 (Option.some FieldType.boolean), Cond.code ⟨"java/lang/StringLatin1", "charAt", "([BI)C"⟩ prog_21_method_2_code 2 (Option.some FieldType.char), Cond.code ⟨"java/lang/String", "checkIndex", "(II)V"⟩ prog_20_method_155_code 2 (Option.none : Option FieldType)] := rfl
  intro w hw
  have h : w ∈ tables_1_1.filter k2_isCode ∧ goodWord w = true := by
    rw [e]
    simp only [List.mem_cons, List.not_mem_nil, or_false] at hw
    rcases hw with rfl | rfl | rfl | rfl | rfl | rfl | rfl <;> exact ⟨by simp only [List.mem_cons, true_or, or_true], rfl⟩
  refine zWS_of (List.mem_append_right _ ?_) h.2
  unfold tables_1
  simp only [List.mem_append]
  exact Or.inl (List.mem_filter.mp h.1).1
set_option maxRecDepth 100000 in
theorem zj_2 : ∀ w ∈ ([Cond.code ⟨"jdk/internal/util/Preconditions", "checkIndex", "(IILjava/util/function/BiFunction;)I"⟩ prog_25_method_11_code 3 (Option.some FieldType.int), Cond.code ⟨"java/lang/StringUTF16", "charAt", "([BI)C"⟩ prog_22_method_83_code 2 (Option.some FieldType.char), Cond.code ⟨"java/lang/StringUTF16", "checkIndex", "(I[B)V"⟩ prog_22_method_91_code 2 (Option.none : Option FieldType), Cond.code ⟨"java/lang/StringUTF16", "length", "([B)I"⟩ prog_22_method_6_code 1 (Option.some FieldType.int), Cond.code ⟨"java/lang/StringUTF16", "getChar", "([BI)C"⟩ prog_22_method_5_code 2 (Option.some FieldType.char)] : List Cond), w ∈ zWS := by
  have e : tables_1_2.filter k2_isCode = [Cond.code ⟨"jdk/internal/util/Preconditions", "checkIndex", "(IILjava/util/function/BiFunction;)I"⟩ prog_25_method_11_code 3 (Option.some FieldType.int), Cond.code ⟨"java/lang/StringUTF16", "charAt", "([BI)C"⟩ prog_22_method_83_code 2 (Option.some FieldType.char), Cond.code ⟨"java/lang/StringUTF16", "checkIndex", "(I[B)V"⟩ prog_22_method_91_code 2 (Option.none : Option FieldType), Cond.code ⟨"java/lang/StringUTF16", "length", "([B)I"⟩ prog_22_method_6_code 1 (Option.some FieldType.int), Cond.code ⟨"java/lang/StringUTF16", "getChar", "([BI)C"⟩ prog_22_method_5_code 2 (Option.some FieldType.char), zwc 115, zwc 64, zwc 65, zwc 317, zwc 85, zwc 26, zwc 117, zwc 125, zwc 104, zwc 105, zwc 126, zwc 127, zwc 1, zwc 56] := rfl
  intro w hw
  have h : w ∈ tables_1_2.filter k2_isCode ∧ goodWord w = true := by
    rw [e]
    simp only [List.mem_cons, List.not_mem_nil, or_false] at hw
    rcases hw with rfl | rfl | rfl | rfl | rfl <;> exact ⟨by simp only [List.mem_cons, true_or, or_true], rfl⟩
  refine zWS_of (List.mem_append_right _ ?_) h.2
  unfold tables_1
  simp only [List.mem_append]
  exact Or.inr (Or.inl (List.mem_filter.mp h.1).1)
def zyLen : MethodName := ⟨"java/lang/String", "length", "()I"⟩
def zyCod : MethodName := ⟨"java/lang/String", "coder", "()B"⟩
def zyChr : MethodName := ⟨"java/lang/String", "charAt", "(I)C"⟩
def zyLat : MethodName := ⟨"java/lang/String", "isLatin1", "()Z"⟩
def zyLch : MethodName := ⟨"java/lang/StringLatin1", "charAt", "([BI)C"⟩
def zyChk : MethodName := ⟨"java/lang/String", "checkIndex", "(II)V"⟩
def zyPre : MethodName := ⟨"jdk/internal/util/Preconditions", "checkIndex", "(IILjava/util/function/BiFunction;)I"⟩
theorem zcLen_in : Cond.code zyLen prog_20_method_54_code 1 (some .int) ∈ zWS := zj_1 _ (by unfold zyLen; simp only [List.mem_cons, true_or, or_true])
theorem zcCod_in : Cond.code zyCod prog_20_method_152_code 1 (some .byte) ∈ zWS := zj_1 _ (by unfold zyCod; simp only [List.mem_cons, true_or, or_true])
theorem zcChr_in : Cond.code zyChr prog_20_method_56_code 2 (some .char) ∈ zWS := zj_1 _ (by unfold zyChr; simp only [List.mem_cons, true_or, or_true])
theorem zcLat_in : Cond.code zyLat prog_20_method_154_code 1 (some .boolean) ∈ zWS := zj_1 _ (by unfold zyLat; simp only [List.mem_cons, true_or, or_true])
theorem zcLch_in : Cond.code zyLch prog_21_method_2_code 2 (some .char) ∈ zWS := zj_1 _ (by unfold zyLch; simp only [List.mem_cons, true_or, or_true])
theorem zcChk_in : Cond.code zyChk prog_20_method_155_code 2 none ∈ zWS := zj_1 _ (by unfold zyChk; simp only [List.mem_cons, true_or, or_true])
theorem zcPre_in : Cond.code zyPre prog_25_method_11_code 3 (some .int) ∈ zWS := zj_2 _ (by unfold zyPre; simp only [List.mem_cons, true_or, or_true])
theorem zObj_in : Cond.code Lib.objectInit ⟨#[0xb1]⟩ 1 none ∈ zWS := zj_1 _ (List.mem_cons.mpr (Or.inl rfl))
/-- further words of the tables -/
def zswL : List Cond := [.methodLink "java/lang/String" 335 zyCod, .instanceMethod zyCod, .selects "java/lang/String" zyCod zyCod, .fieldLink "java/lang/String" 9 "java/lang/String" "value" "[B", .fieldLink "java/lang/String" 15 "java/lang/String" "coder" "B", .fieldLink "java/lang/String" 38 "java/lang/String" "COMPACT_STRINGS" "Z", .methodLink "java/lang/String" 492 zyLat, .instanceMethod zyLat, .selects "java/lang/String" zyLat zyLat, .methodLink "java/lang/String" 495 zyLch, .static zyLch, .methodLink "java/lang/StringLatin1" 9 zyChk, .static zyChk, .fieldLink "java/lang/String" 1053 "jdk/internal/util/Preconditions" "SIOOBE_FORMATTER" "Ljava/util/function/BiFunction;", .methodLink "java/lang/String" 1059 zyPre, .static zyPre, .initialized "java/lang/String", .initialized "java/lang/StringLatin1", .initialized "jdk/internal/util/Preconditions"]
theorem zsw_all : zswL.all (fun w => zsub [w] lw_tbl) = true := by decide +kernel
theorem zsw (k : Nat) {w : Cond} (h : zswL[k]? = some w) (g : goodWord w = true) : w ∈ zWS := zWS_of (zsub_in _ _ (List.all_eq_true.mp zsw_all w (List.mem_of_getElem? h)) _ List.mem_cons_self) g
/-- the string's bytes, if they are an argument -/
def zPv (B : Nat) (b : Option Nat) (U : State) : Prop := ∀ ad : Nat, b = some ad → va_T .byte ad 87 (fun j => .int (zTX.getD j 0)) (fun q => B ≤ q) U U.heap
theorem zPv.go {B : Nat} {b : Option Nat} {s t : State} (hW : s.WarmedH t.vm) (hk : ∀ a : Nat, a < s.heap.size → ¬ B ≤ a → t.heap[a]? = s.heap[a]?) (h : zPv B b s) : zPv B b t := fun ad e => (va_T.moved hW.alike (h ad e)).kept hk
/-- a contract of a method of the JDK's that changes nothing -/
def zSM (l : Launch) (D : va_G) (cy : Nat → ClassId) (B sc tx : Nat) (b : Option Nat) (σ : zSt) (y : MethodName) (cc : ByteArray) (mx : Nat) (ret : Option FieldType) (fr lo : Nat) (av : List Value) (v : Option Value) : Prop :=
  Met l y (Cond.code y cc mx ret :: zWS) { frames := fr, cells := 0, slots := 0, locals := lo } (va_Pc av (fun U => zWd D cy B sc tx σ U ∧ zPv B b U)) (fun _ st oc t => (oc = .returned v ∧ zWd D cy B sc tx σ t) ∧ va_F (fun q => B ≤ q) st t) 0 0 (fun q => B ≤ q)
theorem zSM_blind {D : va_G} {cy : Nat → ClassId} {B sc tx : Nat} {b : Option Nat} {σ : zSt} {av : List Value} : FrameBlind (va_Pc av (fun U => zWd D cy B sc tx σ U ∧ zPv B b U)) := by
  intro a U g mk h
  obtain ⟨h0, ⟨h1, h2, h3, h4, h5, h6⟩, h7⟩ := h
  have hW : U.WarmedH (U.calling g mk a).vm := State.WarmedH.refl U
  exact ⟨h0, ⟨h1, h2, h3.go hW, h4.go hW (fun _ _ _ => rfl), va_X.moved (Vm.Alike.refl U.vm) h5, h6⟩, h7.go hW (fun _ _ _ => rfl)⟩
theorem zlg_len : ∀ vs : List Value, (lg_sl vs).length = (vs.map (fun v => v.category)).sum
  | [] => rfl
  | v :: vs => by
    have h := zlg_len vs
    unfold lg_sl at h ⊢
    rw [List.flatMap_cons, List.length_append, h, List.map_cons, List.sum_cons]
    congr 1
    cases v <;> rfl
section ZST
variable {p : Program} {l : Launch} {e : Env} {R : Room} {s : State} {m : MethodId} {args : Array Value} {below : List Frame} {meth : Method} {c : Code} {H : Heap} {locs : List Loc} {cells slots : Nat} {Q : State → Prop}
variable {pc : Nat} {lsA : Array Slot} {D : va_G} {cy : Nat → ClassId} {B sc tx n : Nat} {σ : zSt} {b : Option Nat}
/-- how it stands within such a method -/
def zSH (D : va_G) (cy : Nat → ClassId) (B sc tx : Nat) (σ : zSt) (s : State) (H : Heap) (locs : List Loc) : Prop := H.size = B + zN σ ∧ va_P D vwCl (zW (zad B sc tx) cy σ) H ∧ va_S (fun q => B ≤ q) s.heap H locs
theorem zSM_of {y : MethodName} {cc : ByteArray} {mx fr lo : Nat} {ret : Option FieldType} {av : List Value} {v : Option Value} (hy : plainFor y = true) (hlen : (av.map (fun v => v.category)).sum ≤ mx)
    (body : ∀ (p : Program) (e : Env) (s : State) (m : MethodId) (args : Array Value) (below : List Frame) (meth : Method) (c : Code) (lsA : Array Slot), CallFix p m c cc mx s args zWS y.cls → meth.sig.returnType = ret → meth.locks = false → zWd D cy B sc tx σ s → zPv B b s → zSH D cy B sc tx σ s s.heap [] → lv_has lsA mx (lv_args 0 av) →
      W p l e { frames := fr, cells := 0, slots := 0, locals := lo } s m args below meth c s.heap [] 0 0 (MQ below (fun _ st oc t => (oc = .returned v ∧ zWd D cy B sc tx σ t) ∧ va_F (fun q => B ≤ q) st t) args s 0 0 (fun q => B ≤ q)) (F0 m 0 lsA [])) : zSM l D cy B sc tx b σ y cc mx ret fr lo av v := by
  unfold zSM
  refine va_MetF (cc := cc) (maxL := mx) (ret := ret) hy rfl ?_
  intro p e s m args below meth c s₁ Bd hml hv
  obtain ⟨rfl, hWd, hPv⟩ := hv
  have hts0 := atoms_spec (ws := Cond.code y cc mx ret :: zWS) Bd.pre
  have hl := lv_entry av (n := mx) (by rw [zlg_len]; exact hlen)
  rw [lg_entry_eq]
  exact body p e s m av.toArray below meth c _ ⟨Bd.exec, Bd.bytes, hml, findClass_of_methodNamed Bd.named, fun w h => hts0 w (List.mem_cons_of_mem _ h)⟩ Bd.returns Bd.notSynchronized hWd hPv ⟨hWd.1, hWd.2.1, va_S.rf⟩ hl
theorem zSH.end' {v : Option Value} (hWd : zWd D cy B sc tx σ s) (h : zSH D cy B sc tx σ s H locs) : ∀ t : State, t.heap = H → s.WarmedH t.vm → ((Outcome.returned v = .returned v ∧ zWd D cy B sc tx σ t) ∧ va_F (fun q => B ≤ q) s t) := fun t ht hW => ⟨⟨rfl, hWd.go hW ht h.1 h.2.1 h.2.2 ⟨rfl, rfl⟩⟩, h.2.2.F ht⟩
theorem zSMpc {y : MethodName} (hWd : zWd D cy B sc tx σ s) (hPv : zPv B b s) (h : zSH D cy B sc tx σ s H locs) (av : List Value) : ∀ U : State, U.heap = H → s.WarmedH U.vm → va_Pc av (fun U => zWd D cy B sc tx σ U ∧ zPv B b U) av.toArray U := fun U hU hW => ⟨rfl, hWd.go hW hU h.1 h.2.1 h.2.2 ⟨rfl, rfl⟩, hPv.go hW (by rw [hU]; exact h.2.2.2.1)⟩
theorem zGoodS {w : Cond} (h : w ∈ zWS) : GoodIn zWS (w :: zWS) := fun x hx => by
  have h : x ∈ zWS := by
    rcases List.mem_cons.mp hx with rfl | h
    · exact h
    · exact h
  exact ⟨h, good_of_word (List.mem_filter.mp h).2⟩
/-- a static call -/
theorem zSMs {y : MethodName} {cc2 cc own : _} {mx2 nL fr lo t : Nat} {ret : Option FieldType} {av rest : List Value} {v : Option Value} (hM : zSM l D cy B sc tx b σ y cc2 mx2 ret fr lo av v) (hfix : CallFix p m c cc nL s args zWS own) (hcode : Cond.code y cc2 mx2 ret ∈ zWS) (hini : Cond.initialized y.cls ∈ zWS) (hlink : Cond.methodLink own t y ∈ zWS) (hstat : Cond.static y ∈ zWS) (hd : y.cls ≠ "java/lang/invoke/MethodHandle" ∧ y.cls ≠ "java/lang/invoke/VarHandle" ∧ (parseMethodDescriptor y.desc).map (fun d => d.parameters.length) = some av.length) (hR : fr + 1 ≤ R.frames ∧ 8 + (mx2 + 11) + lo ≤ R.locals) (hls : lsA.size = nL) (hsum : (rest.map fun v => v.category).sum ≤ 8) (hdg : decode cc pc = .ok (.invokestatic t, 3)) (hWd : zWd D cy B sc tx σ s) (hPv : zPv B b s) (h : zSH D cy B sc tx σ s H locs) (hfit : cells ≤ R.cells ∧ slots ≤ R.slots)
    (kk : ∀ H1 locs1, zSH D cy B sc tx σ s H1 locs1 → W p l e R s m args below meth c H1 locs1 cells slots Q (F0 m (pc + 3) lsA (v.toList ++ rest))) : W p l e R s m args below meth c H locs cells slots Q (F0 m pc lsA (av.reverse ++ rest)) := by
  have hts := hfix.2.2.2.2
  have hrun := va_runS (e := e) (meth := meth) (below := below) (g := F0 m pc lsA (av.reverse ++ rest)) (locs := locs) (cells := cells) (slots := slots) (As := av) hfix hM ⟨callB_of av.length hts (zGoodS hcode) rfl rfl rfl (hts _ hini) (hts _ hlink) hd hR, hts _ hstat⟩ ⟨zSM_blind, zSMpc (y := y) hWd hPv h av⟩ rfl rfl hls rfl (lv_room hsum) hdg ⟨hfit.1, hfit.2⟩
  exact zcall_ok (P := fun H1 => H1.size = B + zN σ ∧ va_P D vwCl (zW (zad B sc tx) cy σ) H1) hrun (fun st o t h => ⟨⟨h.1.1, h.1.2.1, h.1.2.2.1⟩, h.2⟩) h.2.2 (fun q h => h) fun H1 locs1 hP1 hS1 => kk H1 locs1 ⟨hP1.1, hP1.2, hS1⟩
/-- a call on the string -/
theorem zSMv {y : MethodName} {cc2 cc own : _} {mx2 nL fr lo t : Nat} {ret : Option FieldType} {As rest : List Value} {v : Option Value} (hM : zSM l D cy B sc tx b σ y cc2 mx2 ret fr lo (.ref tx :: As) v) (hfix : CallFix p m c cc nL s args zWS own) (hcode : Cond.code y cc2 mx2 ret ∈ zWS) (hini : Cond.initialized y.cls ∈ zWS) (hlink : Cond.methodLink own t y ∈ zWS) (hinst : Cond.instanceMethod y ∈ zWS) (hsel : Cond.selects "java/lang/String" y y ∈ zWS) (hd : y.cls ≠ "java/lang/invoke/MethodHandle" ∧ y.cls ≠ "java/lang/invoke/VarHandle" ∧ (parseMethodDescriptor y.desc).map (fun d => d.parameters.length) = some As.length) (hR : fr + 1 ≤ R.frames ∧ 8 + (mx2 + 11) + lo ≤ R.locals) (hls : lsA.size = nL) (hsum : (rest.map fun v => v.category).sum ≤ 8) (hdg : decode cc pc = .ok (.invokevirtual t, 3)) (hWd : zWd D cy B sc tx σ s) (hPv : zPv B b s) (h : zSH D cy B sc tx σ s H locs) (hfit : cells ≤ R.cells ∧ slots ≤ R.slots)
    (kk : ∀ H1 locs1, zSH D cy B sc tx σ s H1 locs1 → W p l e R s m args below meth c H1 locs1 cells slots Q (F0 m (pc + 3) lsA (v.toList ++ rest))) : W p l e R s m args below meth c H locs cells slots Q (F0 m pc lsA (As.reverse ++ .ref tx :: rest)) := by
  have hts := hfix.2.2.2.2
  obtain ⟨ad1, hE⟩ := hWd.2.2.2.1.2.1
  have hrec := vk_recv hE (i := 0) (by omega) h.2.2
  have hrun := va_runV (e := e) (meth := meth) (below := below) (g := F0 m pc lsA (As.reverse ++ .ref tx :: rest)) (locs := locs) (cells := cells) (slots := slots) (b := tx) (As := As) (C := "java/lang/String") hfix hM ⟨callB_of As.length hts (zGoodS hcode) rfl rfl rfl (hts _ hini) (hts _ hlink) hd hR, hts _ hinst, hts _ hsel⟩ ⟨zSM_blind, hrec, zSMpc (y := y) hWd hPv h (.ref tx :: As)⟩ rfl rfl hls rfl (lv_room hsum) hdg ⟨hfit.1, hfit.2⟩
  exact zcall_ok (P := fun H1 => H1.size = B + zN σ ∧ va_P D vwCl (zW (zad B sc tx) cy σ) H1) hrun (fun st o t h => ⟨⟨h.1.1, h.1.2.1, h.1.2.2.1⟩, h.2⟩) h.2.2 (fun q h => h) fun H1 locs1 hP1 hS1 => kk H1 locs1 ⟨hP1.1, hP1.2, hS1⟩
end ZST
section ZSB
variable {l : Launch} {D : va_G} {cy : Nat → ClassId} {B sc tx : Nat} {σ : zSt}
theorem zSM_coder {b : Option Nat} : zSM l D cy B sc tx b σ zyCod prog_20_method_152_code 1 (some .byte) 0 0 [.ref tx] (some (.int 0)) := by
  refine zSM_of (by decide +kernel) (Nat.le_of_ble_eq_true rfl) ?_
  intro p e s m args below meth c lsA hfix hr hlocks hWd hPv h hl
  obtain ⟨hx, hb, hml, hown, hts⟩ := id hfix
  obtain ⟨ad1, hE⟩ := hWd.2.2.2.1.2.1
  refine va_gets hx hb hWd.2.2.2.1.2.2.1 h.2.2 hown (hts _ (zsw 5 rfl rfl)) (fun x q => q) (by decide +kernel) ?_
  refine lv_if_eq hx hb (off := 10) (tgt := 13) (by decide +kernel) (by decide) (fun q => absurd q (by decide)) fun _ => ?_
  refine lv_aload_n hx hb (k := 0) (i := 0) (by decide +kernel) rfl (lv_at hl 0 rfl) ?_
  refine vk_getf hx hb (hE.1 0 (by omega)).2.1 h.2.2 hown (hts _ (zsw 4 rfl rfl)) (fun x q => q) (by decide +kernel) ?_
  refine lv_goto hx hb (off := 4) (tgt := 14) (by decide +kernel) (by decide) ?_
  exact W.zret (ty := .byte) hx hb hr (by decide) (zSH.end' hWd h) h.2.2.2.2 (by decide +kernel)
theorem zSM_lat {b : Option Nat} : zSM l D cy B sc tx b σ zyLat prog_20_method_154_code 1 (some .boolean) 0 0 [.ref tx] (some (.int 1)) := by
  refine zSM_of (by decide +kernel) (Nat.le_of_ble_eq_true rfl) ?_
  intro p e s m args below meth c lsA hfix hr hlocks hWd hPv h hl
  obtain ⟨hx, hb, hml, hown, hts⟩ := id hfix
  obtain ⟨ad1, hE⟩ := hWd.2.2.2.1.2.1
  refine va_gets hx hb hWd.2.2.2.1.2.2.1 h.2.2 hown (hts _ (zsw 5 rfl rfl)) (fun x q => q) (by decide +kernel) ?_
  refine lv_if_eq hx hb (off := 14) (tgt := 17) (by decide +kernel) (by decide) (fun q => absurd q (by decide)) fun _ => ?_
  refine lv_aload_n hx hb (k := 0) (i := 0) (by decide +kernel) rfl (lv_at hl 0 rfl) ?_
  refine vk_getf hx hb (hE.1 0 (by omega)).2.1 h.2.2 hown (hts _ (zsw 4 rfl rfl)) (fun x q => q) (by decide +kernel) ?_
  refine lv_if_ne hx hb (off := 7) (tgt := 17) (by decide +kernel) (by decide) (fun q => absurd rfl q) fun _ => ?_
  refine lv_iconst hx hb (n := 1) (by decide +kernel) rfl ?_
  refine lv_goto hx hb (off := 4) (tgt := 18) (by decide +kernel) (by decide) ?_
  exact W.zret (ty := .boolean) hx hb hr (by decide) (zSH.end' hWd h) h.2.2.2.2 (by decide +kernel)
theorem zSM_len : zSM l D cy B sc tx none σ zyLen prog_20_method_54_code 1 (some .int) 5 100 [.ref tx] (some (.int 87)) := by
  refine zSM_of (by decide +kernel) (Nat.le_of_ble_eq_true rfl) ?_
  intro p e s m args below meth c lsA hfix hr hlocks hWd hPv h hl
  obtain ⟨hx, hb, hml, hown, hts⟩ := id hfix
  obtain ⟨ad1, hE⟩ := hWd.2.2.2.1.2.1
  refine lv_aload_n hx hb (k := 0) (i := 0) (by decide +kernel) rfl (lv_at hl 0 rfl) ?_
  refine vk_getf hx hb (hE.1 0 (by omega)).2.2.1 h.2.2 hown (hts _ (zsw 3 rfl rfl)) (fun x q => q) (by decide +kernel) ?_
  refine va_tlen hx hb (hE.1 0 (by omega)).2.2.2 h.2.2 (v := 87) rfl (by decide +kernel) ?_
  refine lv_aload_n hx hb (k := 0) (i := 0) (by decide +kernel) rfl (lv_at hl 0 rfl) ?_
  refine zSMv (As := []) (rest := [.int 87]) (b := none) zSM_coder hfix zcCod_in (zsw 16 rfl rfl) (zsw 0 rfl rfl) (zsw 1 rfl rfl) (zsw 2 rfl rfl) (by decide +kernel) ⟨by decide, by decide⟩ hl.1 (by decide) (by decide +kernel) hWd hPv h ⟨by decide, by decide⟩ fun H1 locs1 h1 => ?_
  refine lv_ishr hx hb (x := 87) (y := 0) (by decide +kernel) ?_
  exact W.iret hx hb hr (zSH.end' hWd h1) h1.2.2.2.2 (by decide +kernel)
theorem zSM_pre {b : Option Nat} {k n : Int32} {v : Value} (hk : ¬ k < 0) (hn : k < n) (hv : v.category = 1) : zSM l D cy B sc tx b σ zyPre prog_25_method_11_code 3 (some .int) 0 0 [.int k, .int n, v] (some (.int k)) := by
  refine zSM_of (by decide +kernel) (by show 1 + (1 + (v.category + 0)) ≤ 3; omega) ?_
  intro p e s m args below meth c lsA hfix hr hlocks hWd hPv h hl
  obtain ⟨hx, hb, hml, hown, hts⟩ := id hfix
  refine lv_iload_n hx hb (k := 0) (i := 0) (by decide +kernel) rfl (lv_at hl 0 rfl) ?_
  refine lv_if_lt hx hb (off := 8) (tgt := 9) (by decide +kernel) (by decide) (fun q => absurd q hk) fun _ => ?_
  refine lv_iload_n hx hb (k := 0) (i := 0) (by decide +kernel) rfl (lv_at hl 0 rfl) ?_
  refine lv_iload_n hx hb (k := 1) (i := 1) (by decide +kernel) rfl (lv_at hl 1 rfl) ?_
  refine lv_icmp_lt hx hb (off := 10) (tgt := 16) (by decide +kernel) (by decide) (fun _ => ?_) (fun q => absurd hn q)
  refine lv_iload_n hx hb (k := 0) (i := 0) (by decide +kernel) rfl (lv_at hl 0 rfl) ?_
  exact W.iret hx hb hr (zSH.end' hWd h) h.2.2.2.2 (by decide +kernel)
theorem zSM_chk {b : Option Nat} {k n : Int32} (hk : ¬ k < 0) (hn : k < n) : zSM l D cy B sc tx b σ zyChk prog_20_method_155_code 2 none 1 22 [.int k, .int n] none := by
  refine zSM_of (by decide +kernel) (Nat.le_of_ble_eq_true rfl) ?_
  intro p e s m args below meth c lsA hfix hr hlocks hWd hPv h hl
  obtain ⟨hx, hb, hml, hown, hts⟩ := id hfix
  refine lv_iload_n hx hb (k := 0) (i := 0) (by decide +kernel) rfl (lv_at hl 0 rfl) ?_
  refine lv_iload_n hx hb (k := 1) (i := 1) (by decide +kernel) rfl (lv_at hl 1 rfl) ?_
  obtain ⟨v, hv, hZ⟩ : ∃ v : Value, v.category = 1 ∧ va_Z "jdk/internal/util/Preconditions" "SIOOBE_FORMATTER" "Ljava/util/function/BiFunction;" v (fun q => B ≤ q) s s.heap := by
    rcases hWd.2.2.2.1.2.2.2 with q | ⟨t, q⟩
    · exact ⟨.null, rfl, q⟩
    · exact ⟨.ref t, rfl, q⟩
  refine va_gets hx hb hZ h.2.2 hown (hts _ (zsw 13 rfl rfl)) (fun x q => q) (by decide +kernel) ?_
  refine zSMs (av := [.int k, .int n, v]) (rest := []) (b := b) (zSM_pre hk hn hv) hfix zcPre_in (zsw 18 rfl rfl) (zsw 14 rfl rfl) (zsw 15 rfl rfl) ⟨by decide +kernel, by decide +kernel, by show _ = some 3; decide +kernel⟩ ⟨by decide, by decide⟩ hl.1 (by decide) (by decide +kernel) hWd hPv h ⟨by decide, by decide⟩ fun H1 locs1 h1 => ?_
  refine lv_pop hx hb (va := .int k) (by decide +kernel) rfl ?_
  exact W.vret hx hb hr (zSH.end' hWd h1) h1.2.2.2.2 (by decide +kernel)
theorem zchar_all : ∀ j : Nat, j < 87 → ((zTX.getD j 0 &&& 255).toUInt32 % 65536).toInt32 = zTX.getD j 0 ∧ narrow .char (.int (zTX.getD j 0)) = .int (zTX.getD j 0) := by decide +kernel
theorem zSM_lch {ad : Nat} {k : Int32} (hk : zin k 87) : zSM l D cy B sc tx (some ad) σ zyLch prog_21_method_2_code 2 (some .char) 2 43 [.ref ad, .int k] (some (.int (zTX.getD k.toNatClampNeg 0))) := by
  refine zSM_of (by decide +kernel) (Nat.le_of_ble_eq_true rfl) ?_
  intro p e s m args below meth c lsA hfix hr hlocks hWd hPv h hl
  obtain ⟨hx, hb, hml, hown, hts⟩ := id hfix
  have hT := hPv ad rfl
  have hk0 : ¬ k < 0 := fun q => hk (Or.inl q)
  have hk1 : k.toNatClampNeg < 87 := Nat.not_le.mp fun q => hk (Or.inr q)
  have hk2 : k < 87 := by
    rw [Int32.lt_iff_toInt_lt]
    have h0 : k.toInt.toNat < 87 := hk1
    show k.toInt < 87
    omega
  obtain ⟨c1, c2⟩ := zchar_all _ hk1
  refine lv_iload_n hx hb (k := 1) (i := 1) (by decide +kernel) rfl (lv_at hl 1 rfl) ?_
  refine lv_aload_n hx hb (k := 0) (i := 0) (by decide +kernel) rfl (lv_at hl 0 rfl) ?_
  refine va_tlen hx hb hT h.2.2 (v := 87) rfl (by decide +kernel) ?_
  refine zSMs (av := [.int k, .int 87]) (rest := []) (b := some ad) (zSM_chk hk0 hk2) hfix zcChk_in (zsw 16 rfl rfl) (zsw 11 rfl rfl) (zsw 12 rfl rfl) ⟨by decide +kernel, by decide +kernel, by show _ = some 2; decide +kernel⟩ ⟨by decide, by decide⟩ hl.1 (by decide) (by decide +kernel) hWd hPv h ⟨by decide, by decide⟩ fun H1 locs1 h1 => ?_
  refine lv_aload_n hx hb (k := 0) (i := 0) (rest := []) (by decide +kernel) rfl (lv_at hl 0 rfl) ?_
  refine lv_iload_n hx hb (k := 1) (i := 1) (by decide +kernel) rfl (lv_at hl 1 rfl) ?_
  refine va_tb hx hb hT h1.2.2 hk rfl (by decide +kernel) ?_
  refine lv_sipush hx hb (n := 255) (by decide +kernel) rfl ?_
  refine lv_iand hx hb (by decide +kernel) ?_
  refine lv_i2c hx hb (by decide +kernel) c1 ?_
  exact W.zret (ty := .char) hx hb hr c2 (zSH.end' hWd h1) h1.2.2.2.2 (by decide +kernel)
theorem zSM_chr {k : Int32} (hk : zin k 87) : zSM l D cy B sc tx none σ zyChr prog_20_method_56_code 2 (some .char) 5 100 [.ref tx, .int k] (some (.int (zTX.getD k.toNatClampNeg 0))) := by
  refine zSM_of (by decide +kernel) (Nat.le_of_ble_eq_true rfl) ?_
  intro p e s m args below meth c lsA hfix hr hlocks hWd hPv h hl
  obtain ⟨hx, hb, hml, hown, hts⟩ := id hfix
  obtain ⟨ad1, hE⟩ := hWd.2.2.2.1.2.1
  have hT := (hE.1 0 (by omega)).2.2.2
  refine lv_aload_n hx hb (k := 0) (i := 0) (by decide +kernel) rfl (lv_at hl 0 rfl) ?_
  refine zSMv (As := []) (rest := []) (b := none) zSM_lat hfix zcLat_in (zsw 16 rfl rfl) (zsw 6 rfl rfl) (zsw 7 rfl rfl) (zsw 8 rfl rfl) (by decide +kernel) ⟨by decide, by decide⟩ hl.1 (by decide) (by decide +kernel) hWd hPv h ⟨by decide, by decide⟩ fun H1 locs1 h1 => ?_
  refine lv_if_eq hx hb (off := 12) (tgt := 16) (x := 1) (rest := []) (by decide +kernel) (by decide) (fun q => absurd q (by decide)) fun _ => ?_
  refine lv_aload_n hx hb (k := 0) (i := 0) (by decide +kernel) rfl (lv_at hl 0 rfl) ?_
  refine vk_getf hx hb (hE.1 0 (by omega)).2.2.1 h1.2.2 hown (hts _ (zsw 3 rfl rfl)) (fun x q => q) (by decide +kernel) ?_
  refine lv_iload_n hx hb (k := 1) (i := 1) (by decide +kernel) rfl (lv_at hl 1 rfl) ?_
  have hPv2 : zPv B (some ad1) s := fun ad q => by cases q; exact hT
  refine zSMs (av := [.ref ad1, .int k]) (rest := []) (b := some ad1) (zSM_lch hk) hfix zcLch_in (zsw 17 rfl rfl) (zsw 9 rfl rfl) (zsw 10 rfl rfl) ⟨by decide +kernel, by decide +kernel, by show _ = some 2; decide +kernel⟩ ⟨by decide, by decide⟩ hl.1 (by decide) (by decide +kernel) hWd hPv2 h1 ⟨by decide, by decide⟩ fun H2 locs2 h2 => ?_
  exact W.zret (ty := .char) hx hb hr (zchar_all _ (Nat.not_le.mp fun q => hk (Or.inr q))).2 (zSH.end' hWd h2) h2.2.2.2.2 (by decide +kernel)
end ZSB
end
section
/-! THE CONTRACT OF EVERY METHOD: what the small machine answers, the claim's machine answers -/
/-- a method's contract, out of a run -/
def zCt (l : Launch) (D : va_G) (cy : Nat → ClassId) (B sc tx y : Nat) (a : List Value) (σ σ' : zSt) (r : Option Value) : Prop :=
  Met l (zMI y).1 (zwc y :: zWS) { frames := (zMI y).2.2.2.2.2.1, cells := zN σ' - zN σ, slots := zSl (zN σ') - zSl (zN σ), locals := (zMI y).2.2.2.2.2.2 } (va_Pc (a.map (zv (zad B sc tx))) (zWd D cy B sc tx σ)) (fun _ st oc t => (oc = .returned (r.map (zv (zad B sc tx))) ∧ zWd D cy B sc tx σ' t) ∧ va_F (fun q => B ≤ q) st t) (zN σ' - zN σ) (zSl (zN σ') - zSl (zN σ)) (fun q => B ≤ q)
theorem zWd_blind {D : va_G} {cy : Nat → ClassId} {B sc tx : Nat} {σ : zSt} {av : List Value} : FrameBlind (va_Pc av (zWd D cy B sc tx σ)) := by
  intro a U g mk h
  obtain ⟨h0, h1, h2, h3, h4, h5, h6⟩ := h
  have hW : U.WarmedH (U.calling g mk a).vm := State.WarmedH.refl U
  exact ⟨h0, h1, h2, h3.go hW, h4.go hW (fun _ _ _ => rfl), va_X.moved (Vm.Alike.refl U.vm) h5, h6⟩
theorem zLM_ok : ∀ q ∈ zLM, q.2.2 < 319 ∨ (900 ≤ q.2.2 ∧ q.2.2 ≤ 907) := by decide +kernel
theorem zLN_ok : ∀ q ∈ zLN, q.2.2 < 319 := by decide +kernel
theorem zoT_ok : ∀ y ∈ zoT, y < 319 ∨ (900 ≤ y ∧ y ≤ 904) := by decide +kernel
theorem zoS_ok : ∀ y ∈ zoS, y < 319 ∨ y = 905 ∨ y = 906 := by decide +kernel
theorem zoN_ok : ∀ y, 900 ≤ y → y ≤ 904 → y ∈ zoN ∧ y ∈ zoT := by
  intro y h1 h2
  rcases (show y = 900 ∨ y = 901 ∨ y = 902 ∨ y = 903 ∨ y = 904 by omega) with rfl | rfl | rfl | rfl | rfl <;> exact ⟨by decide +kernel, by decide +kernel⟩
/-- what the check of a method says -/
theorem zmth_inv {n : Nat} (h : n < 320) : (zMI n).2.2.1 = zML n ∧ (parseMethodDescriptor (zMI n).1.desc).map (fun d => d.parameters.length) = some (if n ∈ zoT ∨ n = 319 then zNA n else zNA n - 1) ∧ (1 ≤ zNA n ∨ n ∈ zoT) ∧ plainFor (zMI n).1 = true ∧ (zMI n).1.cls ∈ zoIn ∧ (zMI n).1.cls = zOw (zMI n).2.2.2.2.1 ∧ (n ∈ zoT ∨ n = 319 ∨ (vwCl[zCI n]?).map (fun q => q.1) = some (zMI n).1.cls) := by
  have h1 := List.all_eq_true.mp zmth2_all n (List.mem_range.mpr h)
  unfold zmth2 at h1
  simp only [Bool.and_eq_true, Bool.or_eq_true, decide_eq_true_eq] at h1
  obtain ⟨h2, h3, h4, h5, h6, h7, h8⟩ := h1
  exact ⟨h2, h3, h4, h5, h6, h7, by rcases h8 with (h | h) | h <;> simp [h]⟩
theorem zins_inv {n pc : Nat} {i : Instr} {len t : Nat} (h : n < 320) (hq : (zcode n)[pc]? = some (some (i, len, t))) : decode (zMI n).2.1 pc = .ok (zreal i t, len) ∧ zlenOK i len = true ∧ (∀ o ∈ zoffs i, 0 ≤ (pc : Int) + o) ∧ zlocs i ≤ (zMI n).2.2.1 ∧ zlnk n i t = true ∧ zrmk n i = true := by
  have h2 := zPl_320 n h pc _ hq
  unfold zins at h2
  simp only [Bool.and_eq_true, decide_eq_true_eq, List.all_eq_true] at h2
  obtain ⟨a, b, c, d, e, f⟩ := h2
  exact ⟨a, b, c, d, e, f⟩
theorem zreal_pst {i : Instr} {t : Nat} {st st' : List Value} (h : zpst i st = some st') : zreal i t = i := by
  cases i <;> first | rfl | (cases h)
theorem zreal_br {i : Instr} {t : Nat} {st : List Value} {q : Bool × Int × List Value} (h : zbr i st = some q) : zreal i t = i := by
  cases i <;> first | rfl | (cases h)
theorem zreal_loc {i : Instr} {t : Nat} {st : List Value} {ls : zLv} {q : zLv × List Value} (h : zloc i ls st = some q) : zreal i t = i := by
  cases i <;> first | rfl | (cases h)
/-- what holds in a method's body -/
def zCtx (p : Program) (s : State) (m : MethodId) (args : Array Value) (meth : Method) (c : Code) (D : va_G) (cy : Nat → ClassId) (B sc tx n : Nat) (σ0 : zSt) : Prop :=
  p.tables.exec = Jvm.exec ∧ c.code = (zMI n).2.1 ∧ c.maxLocals = (zMI n).2.2.1 ∧ s.vm.findClass (zOw (zMI n).2.2.2.2.1) = some m.cls ∧ (∀ w ∈ zWS, w.before args s = true) ∧ ((zMI n).1.name = "<init>" → meth.name = "<init>") ∧ zWd D cy B sc tx σ0 s
theorem zinit_ret : ∀ y, y < 320 → (zMI y).1.name = "<init>" → (zMI y).2.2.2.1 = none := by
  have key : (List.range 320).all (fun y => !decide ((zMI y).1.name = "<init>") || decide ((zMI y).2.2.2.1 = none)) = true := by decide +kernel
  intro y hy h
  have h1 := List.all_eq_true.mp key y (List.mem_range.mpr hy)
  simp only [Bool.or_eq_true, Bool.not_eq_true', decide_eq_false_iff_not, decide_eq_true_eq] at h1
  exact h1.resolve_left (fun q => q h)
theorem zmem_N {i : Instr} {st st' : List Value} {σ σ' : zSt} (h : zmem i st σ = some (st', σ')) : zN σ' = zN σ := by
  unfold zmem at h
  split at h
  all_goals (repeat' (first | (cases h; done) | split at h))
  all_goals (cases h; rfl)
section ZNT
variable {p : Program} {l : Launch} {e : Env} {R : Room} {s : State} {m : MethodId} {args : Array Value} {below : List Frame} {meth : Method} {c : Code} {H : Heap} {locs : List Loc} {cells slots : Nat} {Q : State → Prop}
variable {pc : Nat} {lsA : Array Slot} {D : va_G} {cy : Nat → ClassId} {B sc tx n : Nat} {σ σ' σ0 : zSt}
theorem zsum_map (ad : Nat → Nat) (r : List Value) : ((r.map (zv ad)).map (fun v => v.category)).sum = (r.map (fun v => v.category)).sum := by
  rw [List.map_map]
  congr 1
  apply List.map_congr_left
  intro v _
  exact zv_cat ad v
set_option maxHeartbeats 4000000 in
theorem znat_ok (C0 : zCtx p s m args meth c D cy B sc tx n σ0) (hN : zN σ ≤ 900000) (hf : 1 ≤ R.frames) (hlo : 40 ≤ R.locals) {y t : Nat} {a r : List Value} {v : Option Value} (hd : decode (zMI n).2.1 pc = .ok (.invokestatic t, 3)) (hk : ((zMI n).2.2.2.2.1, t, y) ∈ zLM) (hy1 : 900 ≤ y) (hy2 : y ≤ 904) (h : znat y a σ = some (σ', v)) (hP : va_P D vwCl (zW (zad B sc tx) cy σ) H) (hS : va_S (fun q => B ≤ q) s.heap H locs) (hsum : (r.map (fun v => v.category)).sum ≤ 8) (hsz : lsA.size = (zMI n).2.2.1)
    (k : ∀ H1 locs1, va_P D vwCl (zW (zad B sc tx) cy σ') H1 → va_S (fun q => B ≤ q) s.heap H1 locs1 → W p l e R s m args below meth c H1 locs1 cells slots Q (F0 m (pc + 3) lsA ((v.toList ++ r).map (zv (zad B sc tx))))) : W p l e R s m args below meth c H locs cells slots Q (F0 m pc lsA ((a.reverse ++ r).map (zv (zad B sc tx)))) := by
  obtain ⟨hx, hb, hml, hown, hts, -, -, -, hG, -⟩ := C0
  have hlink := hts _ (zwM_in hk)
  simp only [zwM] at hlink
  have hnat := hts _ (zwNa_in (zoN_ok y hy1 hy2).1)
  have hstat := hts _ (zwT_in (zoN_ok y hy1 hy2).2)
  have hsum2 := hsum
  rw [← zsum_map (zad B sc tx)] at hsum2
  have hml2 : c.maxLocals = lsA.size := hml.trans hsz.symm
  rcases (show y = 900 ∨ y = 901 ∨ y = 902 ∨ y = 903 ∨ y = 904 by omega) with rfl | rfl | rfl | rfl | rfl
  · have hini := hts _ (zwIn_in (c := "java/lang/System") (by decide +kernel))
    have e : (zMI 900).1 = arraycopyName := by decide +kernel
    rw [e] at hlink hnat hstat
    unfold znat at h
    simp only at h
    split at h
    · rename_i x i y j k0
      split at h
      · rename_i hc
        obtain ⟨h1, h2, h3, h4, h5, h6, h7, h8⟩ := hc
        split at h
        · rename_i hkd
          cases h
          refine va_copyi (tys := zty cy) (ws := zW (zad B sc tx) cy σ) hx hb hml2 hown hlink hnat hstat hini hG.1 hP (zW_D (by omega)) hS x y 1 1 (by rw [zW_at _ _ _ h1, zel_i hkd (by omega)]) (by rw [zW_at _ _ _ h2, zel_i (h8.symm.trans hkd) (by omega)]) rfl rfl rfl h3 h4 h5 h6 h7 (fun _ _ => rfl) hf (Nat.le_trans (Nat.add_le_add_right hsum2 18) (by omega)) hd fun H1 locs1 hP1 _ hS1 => ?_
          rw [zW_set' (σ := σ) (σ' := zrI σ y (va_cpy (zI σ x) (zI σ y) i.toNatClampNeg j.toNatClampNeg k0.toNatClampNeg)) (x := .inl (cy 12, (zLY y).2, .inl (va_cpy (zI σ x) (zI σ y) i.toNatClampNeg j.toNatClampNeg k0.toNatClampNeg))) (by rw [zel_i (h8.symm.trans hkd) (by omega), zI_r]) rfl zel_rI] at hP1
          exact k H1 locs1 hP1 hS1
        · split at h
          · rename_i _ hkd
            cases h
            refine va_copyl (tys := zty cy) (ws := zW (zad B sc tx) cy σ) hx hb hml2 hown hlink hnat hstat hini hG.1 hP (zW_D (by omega)) hS x y 2 2 (by rw [zW_at _ _ _ h1, zel_l hkd]) (by rw [zW_at _ _ _ h2, zel_l (h8.symm.trans hkd)]) rfl rfl rfl h3 h4 h5 h6 h7 (fun _ _ => rfl) hf (Nat.le_trans (Nat.add_le_add_right hsum2 18) (by omega)) hd fun H1 locs1 hP1 _ hS1 => ?_
            rw [zW_set' (σ := σ) (σ' := zrL σ y (va_cpy (zL σ x) (zL σ y) i.toNatClampNeg j.toNatClampNeg k0.toNatClampNeg)) (x := .inl (cy 13, (zLY y).2, .inr (.inl (va_cpy (zL σ x) (zL σ y) i.toNatClampNeg j.toNatClampNeg k0.toNatClampNeg)))) (by rw [zel_l (h8.symm.trans hkd), zL_r]) rfl zel_rL] at hP1
            exact k H1 locs1 hP1 hS1
          · cases h
      · cases h
    · cases h
  · have hini := hts _ (zwIn_in (c := "java/lang/Double") (by decide +kernel))
    have e : (zMI 901).1 = ⟨"java/lang/Double", "doubleToRawLongBits", "(D)J"⟩ := by decide +kernel
    rw [e] at hlink hnat hstat
    unfold znat at h
    simp only at h
    split at h
    · cases h
      exact vn_d2l hx hb hml2 hown hlink hnat hstat hini hf (Nat.le_trans (Nat.add_le_add_right hsum2 15) (by omega)) hd (k H locs hP hS)
    · cases h
  · have hini := hts _ (zwIn_in (c := "java/lang/Double") (by decide +kernel))
    have e : (zMI 902).1 = ⟨"java/lang/Double", "longBitsToDouble", "(J)D"⟩ := by decide +kernel
    rw [e] at hlink hnat hstat
    unfold znat at h
    simp only at h
    split at h
    · split at h
      · rename_i hv
        cases h
        exact vn_l2d hx hb hml2 hown hlink hnat hstat hini hv hf (Nat.le_trans (Nat.add_le_add_right hsum2 15) (by omega)) hd (k H locs hP hS)
      · cases h
    · cases h
  · have hini := hts _ (zwIn_in (c := "java/lang/Float") (by decide +kernel))
    have e : (zMI 903).1 = ⟨"java/lang/Float", "floatToRawIntBits", "(F)I"⟩ := by decide +kernel
    rw [e] at hlink hnat hstat
    unfold znat at h
    simp only at h
    split at h
    · cases h
      exact vn_f2i hx hb hml2 hown hlink hnat hstat hini hf (Nat.le_trans (Nat.add_le_add_right hsum2 15) (by omega)) hd (k H locs hP hS)
    · cases h
  · have hini := hts _ (zwIn_in (c := "java/lang/Float") (by decide +kernel))
    have e : (zMI 904).1 = ⟨"java/lang/Float", "intBitsToFloat", "(I)F"⟩ := by decide +kernel
    rw [e] at hlink hnat hstat
    unfold znat at h
    simp only at h
    split at h
    · split at h
      · rename_i hv
        cases h
        exact vn_i2f hx hb hml2 hown hlink hnat hstat hini hv hf (Nat.le_trans (Nat.add_le_add_right hsum2 15) (by omega)) hd (k H locs hP hS)
      · cases h
    · cases h
end ZNT
end
section
/-! THE WALK: a run of the small machine is a run of the claim's machine -/
theorem zroom_inv {n y : Nat} (h : zroom n y = true) (hy : y < 900) : (zMI y).2.2.2.2.2.1 + 1 ≤ (zMI n).2.2.2.2.2.1 ∧ 8 + ((zMI y).2.2.1 + 11) + (zMI y).2.2.2.2.2.2 ≤ (zMI n).2.2.2.2.2.2 := by
  unfold zroom at h
  rw [if_pos hy, Bool.and_eq_true, decide_eq_true_eq, decide_eq_true_eq] at h
  exact h
theorem zroom_invS {n y : Nat} (h : zroom n y = true) (hy : y = 905 ∨ y = 906) : 6 ≤ (zMI n).2.2.2.2.2.1 ∧ 140 ≤ (zMI n).2.2.2.2.2.2 := by
  unfold zroom at h
  rw [if_neg (by omega), if_pos hy, Bool.and_eq_true, decide_eq_true_eq, decide_eq_true_eq] at h
  exact h
theorem zroom_invN {n y : Nat} (h : zroom n y = true) (hy : 900 ≤ y) : 1 ≤ (zMI n).2.2.2.2.2.1 ∧ 40 ≤ (zMI n).2.2.2.2.2.2 := by
  unfold zroom at h
  rw [if_neg (by omega)] at h
  split at h <;> rw [Bool.and_eq_true, decide_eq_true_eq, decide_eq_true_eq] at h <;> omega
theorem zGood {y : Nat} (hy : y < 319) : GoodIn zWS (zwc y :: zWS) := fun w hw => by
  have h : w ∈ zWS := by
    rcases List.mem_cons.mp hw with rfl | h
    · exact zwc_in hy
    · exact h
  exact ⟨h, good_of_word (List.mem_filter.mp h).2⟩
theorem zoIn_ne : ∀ c ∈ zoIn, c ≠ "java/lang/invoke/MethodHandle" ∧ c ≠ "java/lang/invoke/VarHandle" := by decide +kernel
theorem zoI_T : ∀ y ∈ zoI, y ∉ zoT ∧ y ≠ 319 := by decide +kernel
theorem zrcv_inv {y : Nat} {a : List Value} {σ : zSt} (h : zrcv y a σ = true) : ∃ (o : Nat) (As : List Value), a = .ref o :: As ∧ o < zN σ ∧ (zLY o).1 = zCI y := by
  unfold zrcv at h
  split at h
  · rename_i o As
    simp only [Bool.and_eq_true, decide_eq_true_eq, beq_iff_eq] at h
    exact ⟨o, As, rfl, h.1, h.2⟩
  · cases h
theorem zto (ad : Nat → Nat) (v : Option Value) (r : List Value) : (v.map (zv ad)).toList ++ r.map (zv ad) = (v.toList ++ r).map (zv ad) := by cases v <;> rfl
section ZWK
variable {p : Program} {l : Launch} {e : Env} {R : Room} {s : State} {m : MethodId} {args : Array Value} {below : List Frame} {meth : Method} {c : Code} {H : Heap} {locs : List Loc} {cells slots : Nat} {Q : State → Prop}
variable {pc : Nat} {lsA : Array Slot} {D : va_G} {cy : Nat → ClassId} {B sc tx n : Nat} {σ σ' σ0 σ1 : zSt}
/-- the heap's size, out of what is made -/
theorem zszH {g : JFrame} {sl : Nat} (hs0 : s.heap.size = B + zN σ0) (hk : zKp σ0 σ) (hN : zN σ ≤ 900000) (hP : va_P D vwCl (zW (zad B sc tx) cy σ) H) (hS : va_S (fun q => B ≤ q) s.heap H locs)
    (kk : H.size = B + zN σ → W p l e R s m args below meth c H locs (zN σ - zN σ0) sl Q g) : W p l e R s m args below meth c H locs (zN σ - zN σ0) sl Q g := by
  have h1 := hk.1
  refine zW_sz (k := B + zN σ) (by omega) fun hz => kk ?_
  have h2 := hS.1
  rcases Nat.lt_or_ge (zN σ0) (zN σ) with h3 | h3
  · have h4 := (hP (zN σ - 1) _ (zW_at _ _ _ (by omega))).lt
    rw [zad_lt (by omega)] at h4
    omega
  · omega
/-- what stands at the end of a method -/
def zEnd (p : Program) (l : Launch) (e : Env) (R : Room) (s : State) (m : MethodId) (args : Array Value) (below : List Frame) (meth : Method) (c : Code) (D : va_G) (cy : Nat → ClassId) (B sc tx n : Nat) (σ0 σ' : zSt) (r : Option Value) (Q : State → Prop) : Prop :=
  ∀ (pc : Nat) (lsA : Array Slot) (st : List Value) (i : Instr) (t len : Nat) (H : Heap) (locs : List Loc), decode (zMI n).2.1 pc = .ok (zreal i t, len) → zlenOK i len = true → zlnk n i t = true → zret i t st = some r → va_P D vwCl (zW (zad B sc tx) cy σ') H → va_S (fun q => B ≤ q) s.heap H locs → H.size = B + zN σ' → zKp σ0 σ' →
    W p l e R s m args below meth c H locs (zN σ' - zN σ0) (zSl (zN σ') - zSl (zN σ0)) Q (F0 m pc lsA (st.map (zv (zad B sc tx))))
def zWalkP (l : Launch) (D : va_G) (cy : Nat → ClassId) (B sc tx k : Nat) : Prop :=
  ∀ (p : Program) (e : Env) (R : Room) (s : State) (m : MethodId) (args : Array Value) (below : List Frame) (meth : Method) (c : Code) (Q : State → Prop) (n : Nat) (σ0 σ' : zSt) (r : Option Value) (pc : Nat) (ls : zLv) (st : List Value) (σ : zSt) (lsA : Array Slot) (H : Heap) (locs : List Loc),
    zCtx p s m args meth c D cy B sc tx n σ0 → n < 320 → (zMI n).2.2.2.2.2.1 ≤ R.frames → (zMI n).2.2.2.2.2.2 ≤ R.locals → zN σ' ≤ 900000 → zN σ' - zN σ0 ≤ R.cells → zSl (zN σ') - zSl (zN σ0) ≤ R.slots →
    zEnd p l e R s m args below meth c D cy B sc tx n σ0 σ' r Q → zrun k (zcode n) pc ls st σ = some (σ', r) → zKp σ0 σ → lv_has lsA (zMI n).2.2.1 (ls.map (zq (zad B sc tx))) → va_P D vwCl (zW (zad B sc tx) cy σ) H → va_S (fun q => B ≤ q) s.heap H locs →
    W p l e R s m args below meth c H locs (zN σ - zN σ0) (zSl (zN σ) - zSl (zN σ0)) Q (F0 m pc lsA (st.map (zv (zad B sc tx))))
/-- out of a walk, a contract -/
theorem zmeth_of {k : Nat} (ih : zWalkP l D cy B sc tx k) {y : Nat} (hy : y < 319) {a : List Value} {v : Option Value} (hrun : zrun k (zcode y) 0 (lv_args 0 a) [] σ = some (σ1, v)) (hN : zN σ1 ≤ 900000) (hsum : (a.map (fun v => v.category)).sum ≤ zML y) : zCt l D cy B sc tx y a σ σ1 v := by
  obtain ⟨h1, h2, h3, h4, h5, h6, h7⟩ := zmth_inv (show y < 320 by omega)
  unfold zCt
  refine va_MetF (cc := (zMI y).2.1) (maxL := (zMI y).2.2.1) (ret := (zMI y).2.2.2.1) h4 rfl ?_
  intro p e s m args below meth c s₁ Bd hml hv
  obtain ⟨rfl, hWd⟩ := hv
  have hts0 := atoms_spec (ws := zwc y :: zWS) Bd.pre
  have hts : ∀ w ∈ zWS, w.before (a.map (zv (zad B sc tx))).toArray s = true := fun w h => hts0 w (List.mem_cons_of_mem _ h)
  have hl := lv_entry (a.map (zv (zad B sc tx))) (n := (zMI y).2.2.1) (by rw [zlg_len, zsum_map, h1]; exact hsum)
  rw [lg_entry_eq]
  rw [lv_args_map] at hl
  have C0 : zCtx p s m (a.map (zv (zad B sc tx))).toArray meth c D cy B sc tx y σ := ⟨Bd.exec, Bd.bytes, hml, by rw [← h6]; exact findClass_of_methodNamed Bd.named, hts, fun h => (name_of_methodNamed Bd.named Bd.method).1.trans h, hWd⟩
  have key := ih p e (headSpec (zwc y :: zWS) { frames := (zMI y).2.2.2.2.2.1, cells := zN σ1 - zN σ, slots := zSl (zN σ1) - zSl (zN σ), locals := (zMI y).2.2.2.2.2.2 }).room s m (a.map (zv (zad B sc tx))).toArray below meth c
    (MQ below (fun _ st oc t => (oc = .returned (v.map (zv (zad B sc tx))) ∧ zWd D cy B sc tx σ1 t) ∧ va_F (fun q => B ≤ q) st t) (a.map (zv (zad B sc tx))).toArray s (zN σ1 - zN σ) (zSl (zN σ1) - zSl (zN σ)) (fun q => B ≤ q))
    y σ σ1 v 0 (lv_args 0 a) [] σ _ s.heap [] C0 (by omega) (Nat.le_refl _) (Nat.le_refl _) hN (Nat.le_refl _) (Nat.le_refl _) ?_ hrun zKp.rfl' hl hWd.2.1 va_S.rf
  · rw [Nat.sub_self, Nat.sub_self] at key
    exact key
  · intro pc lsA st i t len H locs hd hlen hlk hret hP hS hz hk
    exact zret_ok Bd.exec Bd.bytes _ Bd.returns Bd.notSynchronized hd hlen hlk hret (fun t ht hW => ⟨⟨rfl, hWd.go hW ht hz hP hS (hk.2 hN)⟩, hS.F ht⟩) hS.2.2
/-- behind a call -/
theorem zfin {Qa : State → Outcome → State → Prop} {mc ms : Nat} {st0 rest : List Value} {v : Option Value} (hr : va_Run p l e R s m args below meth c H locs (zN σ - zN σ0) (zSl (zN σ) - zSl (zN σ0)) mc ms (F0 m pc lsA st0) (rest.map (zv (zad B sc tx))) Qa (fun q => B ≤ q)) (hmc : mc = zN σ1 - zN σ) (hms : ms = zSl (zN σ1) - zSl (zN σ))
    (hQ : ∀ st o t, Qa st o t → (o = .returned (v.map (zv (zad B sc tx))) ∧ zWd D cy B sc tx σ1 t) ∧ va_F (fun q => B ≤ q) st t) (hS : va_S (fun q => B ≤ q) s.heap H locs) (h0 : zN σ0 ≤ zN σ) (h1 : zN σ ≤ zN σ1)
    (kk : ∀ H1 locs1, va_P D vwCl (zW (zad B sc tx) cy σ1) H1 → va_S (fun q => B ≤ q) s.heap H1 locs1 → W p l e R s m args below meth c H1 locs1 (zN σ1 - zN σ0) (zSl (zN σ1) - zSl (zN σ0)) Q (F0 m (pc + 3) lsA ((v.toList ++ rest).map (zv (zad B sc tx))))) : W p l e R s m args below meth c H locs (zN σ - zN σ0) (zSl (zN σ) - zSl (zN σ0)) Q (F0 m pc lsA st0) := by
  have m0 := zSl_mono h0
  have m1 := zSl_mono h1
  refine zcall_ok (v := v.map (zv (zad B sc tx))) (P := fun H1 => va_P D vwCl (zW (zad B sc tx) cy σ1) H1) hr (fun st o t h => ?_) hS (fun q h => h) (fun H1 locs1 hP1 hS1 => ?_)
  · obtain ⟨⟨a1, a2⟩, a3⟩ := hQ st o t h
    exact ⟨⟨a1, a2.2.1⟩, a3⟩
  · rw [zto]
    exact W.cs (by omega) (by omega) (kk H1 locs1 hP1 hS1)
set_option maxHeartbeats 4000000 in
/-- a call -/
theorem zcstep {k : Nat} (ih : zWalkP l D cy B sc tx k) (C0 : zCtx p s m args meth c D cy B sc tx n σ0) (hn : n < 320) (hRf : (zMI n).2.2.2.2.2.1 ≤ R.frames) (hRl : (zMI n).2.2.2.2.2.2 ≤ R.locals) (hRc : zN σ1 - zN σ0 ≤ R.cells) (hRs : zSl (zN σ1) - zSl (zN σ0) ≤ R.slots)
    {i : Instr} {len t y : Nat} {vt : Bool} {st a rest : List Value} {v : Option Value} (hd : decode (zMI n).2.1 pc = .ok (zreal i t, len)) (hlen : zlenOK i len = true) (hlk : zlnk n i t = true) (hrm : zrmk n i = true) (hz : zcal i = some (y, vt)) (hpop : zpop (zNA y) st = some (a, rest))
    (hc : (rest.map (fun v => v.category)).sum ≤ 8 ∧ (900 ≤ y ∨ ((a.map (fun v => v.category)).sum ≤ zML y ∧ (vt = true → zrcv y a σ = true)))) (hr : (if 900 ≤ y then znat y a σ else zrun k (zcode y) 0 (lv_args 0 a) [] σ) = some (σ1, v)) (hN : zN σ1 ≤ 900000) (h0 : zKp σ0 σ)
    (hP : va_P D vwCl (zW (zad B sc tx) cy σ) H) (hS : va_S (fun q => B ≤ q) s.heap H locs) (hls : lsA.size = (zMI n).2.2.1)
    (kk : ∀ H1 locs1, va_P D vwCl (zW (zad B sc tx) cy σ1) H1 → va_S (fun q => B ≤ q) s.heap H1 locs1 → W p l e R s m args below meth c H1 locs1 (zN σ1 - zN σ0) (zSl (zN σ1) - zSl (zN σ0)) Q (F0 m (pc + 3) lsA ((v.toList ++ rest).map (zv (zad B sc tx))))) : W p l e R s m args below meth c H locs (zN σ - zN σ0) (zSl (zN σ) - zSl (zN σ0)) Q (F0 m pc lsA (st.map (zv (zad B sc tx)))) := by
  obtain ⟨hst, hna⟩ := zpop_inv hpop
  have hk1 : zKp σ σ1 := by
    split at hr
    · exact znat_kp hr
    · exact zrun_kp _ _ _ _ _ _ _ hr
  have m0 := zSl_mono h0.1
  have m1 := zSl_mono hk1.1
  have q0 := h0.1
  have q1 := hk1.1
  have hfit : zN σ - zN σ0 + (zN σ1 - zN σ) ≤ R.cells ∧ zSl (zN σ) - zSl (zN σ0) + (zSl (zN σ1) - zSl (zN σ)) ≤ R.slots := ⟨by omega, by omega⟩
  obtain ⟨hx, hb, hml, hown, hts, hin, hWd⟩ := id C0
  have hsum : 2 * (F0 m pc lsA (st.map (zv (zad B sc tx)))).monitorRoom + ((rest.map (zv (zad B sc tx))).map fun v => v.category).sum ≤ 8 := by
    refine lv_room ?_
    rw [zsum_map]; exact hc.1
  refine zszH hWd.1 h0 (by omega) hP hS fun hHz => ?_
  have hU : ∀ U : State, U.heap = H → s.WarmedH U.vm → zWd D cy B sc tx σ U := fun U hU hW => hWd.go hW hU hHz hP hS (h0.2 (by omega))
  subst hst
  have hfix : CallFix p m c (zMI n).2.1 (zMI n).2.2.1 s args zWS (zOw (zMI n).2.2.2.2.1) := ⟨hx, hb, hml, hown, hts⟩
  -- what every called method of the listed code gives
  have hB : ∀ (tt : Nat) (hy : y < 319), zroom n y = true → ((zMI n).2.2.2.2.1, tt, y) ∈ zLM → ∀ (np : Nat), (if y ∈ zoT ∨ y = 319 then zNA y else zNA y - 1) = np → CallB R s args (zOw (zMI n).2.2.2.2.1) tt (zMI y).1 (zMI y).2.1 (zMI y).2.2.1 (zMI y).2.2.2.1 (zwc y :: zWS) { frames := (zMI y).2.2.2.2.2.1, cells := zN σ1 - zN σ, slots := zSl (zN σ1) - zSl (zN σ), locals := (zMI y).2.2.2.2.2.2 } (zN σ1 - zN σ) (zSl (zN σ1) - zSl (zN σ)) np := by
    intro tt hy hro hm np hnp
    obtain ⟨g1, g2, g3, g4, g5, g6, g7⟩ := zmth_inv (show y < 320 by omega)
    obtain ⟨r1, r2⟩ := zroom_inv hro (by omega)
    refine callB_of np hts (zGood hy) rfl rfl rfl (hts _ (zwIn_in g5)) (hts _ (zwM_in hm)) ⟨(zoIn_ne _ g5).1, (zoIn_ne _ g5).2, ?_⟩ ⟨Nat.le_trans r1 hRf, Nat.le_trans r2 hRl⟩
    rw [g2, hnp]
  cases i <;> first | (cases hz; done) | skip
  case invokevirtual y' =>
    cases hz
    have hlen : 3 = len := eq_of_beq hlen
    subst hlen
    simp only [zlnk, Bool.and_eq_true, decide_eq_true_eq] at hlk
    obtain ⟨⟨hm, hI⟩, hSs⟩ := hlk
    have hro : zroom n y = true := hrm
    rcases zoS_ok y hSs with hy | hy
    · obtain ⟨g1, g2, g3, g4, g5, g6, g7⟩ := zmth_inv (show y < 320 by omega)
      rw [if_neg (by omega)] at hr
      obtain ⟨hsm, hrc⟩ := hc.2.resolve_left (by omega)
      have hrc := hrc rfl
      have hM := zmeth_of ih hy hr hN hsm
      obtain ⟨o, As, rfl, ho, hoc⟩ := zrcv_inv hrc
      · have hnT := zoI_T y hI
        obtain ⟨q, hq, hqn⟩ : ∃ q, vwCl[zCI y]? = some q ∧ q.1 = (zMI y).1.cls := by
          rcases g7 with h | h | h
          · exact absurd h hnT.1
          · exact absurd h hnT.2
          · cases hv : vwCl[zCI y]? with
            | none => rw [hv] at h; cases h
            | some q => rw [hv] at h; exact ⟨q, rfl, Option.some.inj h⟩
        have hle : (zLY o).1 ≤ 10 := by rw [hoc]; exact zvw_lt hq
        have hrec := va_recv hWd.2.2.1.1 hP hq (by rw [zW_at _ _ _ ho, zel_o hle, hoc])
        rw [hqn] at hrec
        have hn2 : (As.map (zv (zad B sc tx))).length = zNA y - 1 := by
          rw [List.length_map]
          simp only [List.length_cons] at hna
          omega
        have hstk : (((Value.ref o :: As).reverse ++ rest).map (zv (zad B sc tx))) = (As.map (zv (zad B sc tx))).reverse ++ .ref (zad B sc tx o) :: rest.map (zv (zad B sc tx)) := by
          simp [zv]
        have hrun := va_runV (e := e) (meth := meth) (below := below) (g := F0 m pc lsA (((Value.ref o :: As).reverse ++ rest).map (zv (zad B sc tx)))) (locs := locs) (cells := zN σ - zN σ0) (slots := zSl (zN σ) - zSl (zN σ0)) (b := zad B sc tx o) (As := As.map (zv (zad B sc tx))) (C := (zMI y).1.cls) hfix hM ⟨hB t hy hro hm (zNA y - 1) (by rw [if_neg (by simp [hnT.1, hnT.2])]), hts _ (zwI_in hI), hts _ (zwS_in hSs)⟩ ⟨zWd_blind, hrec, fun U h1 h2 => ⟨rfl, hU U h1 h2⟩⟩ rfl hn2 hls hstk hsum hd hfit
        exact zfin hrun rfl rfl (fun st o t h => h) hS q0 q1 kk
    · rw [if_pos (by omega)] at hr
      obtain ⟨r1, r2⟩ := zroom_invS hro hy
      obtain ⟨ad1, hE⟩ := hWd.2.2.2.1.2.1
      have hrec := vk_recv hE (i := 0) (by omega) hS
      have hstr1 : zad B sc tx zSTR = tx := by unfold zad; rw [if_neg (by decide), if_pos rfl]
      have hPv : ∀ U : State, zPv B none U := fun U ad q => by cases q
      rcases hy with rfl | rfl
      · have eN : (zMI 905).1 = zyLen := by decide +kernel
        have hl1 := hts _ (zwM_in hm)
        have hl2 := hts _ (zwI_in hI)
        have hl3 := hts _ (zwS_in hSs)
        simp only [zwM] at hl1
        rw [eN] at hl1 hl2 hl3
        unfold znat at hr
        simp only at hr
        split at hr
        · split at hr
          · rename_i x hxe
            subst hxe
            cases hr
            have hstk : (([Value.ref zSTR].reverse ++ rest).map (zv (zad B sc tx))) = ([] : List Value).reverse ++ .ref tx :: rest.map (zv (zad B sc tx)) := by
              simp [zv, hstr1]
            have hrun := va_runV (e := e) (meth := meth) (below := below) (g := F0 m pc lsA (([Value.ref zSTR].reverse ++ rest).map (zv (zad B sc tx)))) (locs := locs) (cells := zN σ - zN σ0) (slots := zSl (zN σ) - zSl (zN σ0)) (b := tx) (As := []) (C := "java/lang/String") hfix (zSM_len (l := l) (D := D) (cy := cy) (B := B) (sc := sc) (tx := tx) (σ := σ)) ⟨callB_of 0 hts (zGoodS zcLen_in) rfl rfl rfl (hts _ (zsw 16 rfl rfl)) hl1 ⟨by decide +kernel, by decide +kernel, by decide +kernel⟩ ⟨Nat.le_trans (by decide) (Nat.le_trans r1 hRf), Nat.le_trans (by decide) (Nat.le_trans r2 hRl)⟩, hl2, hl3⟩ ⟨zSM_blind, hrec, fun U h1 h2 => ⟨rfl, hU U h1 h2, hPv U⟩⟩ rfl rfl hls hstk hsum hd ⟨by omega, by omega⟩
            exact zfin (v := some (.int 87)) hrun (Nat.sub_self _).symm (Nat.sub_self _).symm (fun st o t h => h) hS q0 q1 kk
          · cases hr
        · cases hr
      · have eN : (zMI 906).1 = zyChr := by decide +kernel
        have hl1 := hts _ (zwM_in hm)
        have hl2 := hts _ (zwI_in hI)
        have hl3 := hts _ (zwS_in hSs)
        simp only [zwM] at hl1
        rw [eN] at hl1 hl2 hl3
        unfold znat at hr
        simp only at hr
        split at hr
        · split at hr
          · rename_i x k0 hxe
            obtain ⟨hxe, hin⟩ := hxe
            subst hxe
            cases hr
            have hstk : (([Value.ref zSTR, .int k0].reverse ++ rest).map (zv (zad B sc tx))) = [Value.int k0].reverse ++ .ref tx :: rest.map (zv (zad B sc tx)) := by
              simp [zv, hstr1]
            have hrun := va_runV (e := e) (meth := meth) (below := below) (g := F0 m pc lsA (([Value.ref zSTR, .int k0].reverse ++ rest).map (zv (zad B sc tx)))) (locs := locs) (cells := zN σ - zN σ0) (slots := zSl (zN σ) - zSl (zN σ0)) (b := tx) (As := [.int k0]) (C := "java/lang/String") hfix (zSM_chr (l := l) (D := D) (cy := cy) (B := B) (sc := sc) (tx := tx) (σ := σ) hin) ⟨callB_of 1 hts (zGoodS zcChr_in) rfl rfl rfl (hts _ (zsw 16 rfl rfl)) hl1 ⟨by decide +kernel, by decide +kernel, by decide +kernel⟩ ⟨Nat.le_trans (by decide) (Nat.le_trans r1 hRf), Nat.le_trans (by decide) (Nat.le_trans r2 hRl)⟩, hl2, hl3⟩ ⟨zSM_blind, hrec, fun U h1 h2 => ⟨rfl, hU U h1 h2, hPv U⟩⟩ rfl rfl hls hstk hsum hd ⟨by omega, by omega⟩
            exact zfin (v := some (.int (zTX.getD k0.toNatClampNeg 0))) hrun (Nat.sub_self _).symm (Nat.sub_self _).symm (fun st o t h => h) hS q0 q1 kk
          · cases hr
        · cases hr
  case invokestatic y' =>
    cases hz
    have hlen : 3 = len := eq_of_beq hlen
    subst hlen
    simp only [zlnk, Bool.and_eq_true, decide_eq_true_eq] at hlk
    obtain ⟨hm, hT⟩ := hlk
    have hro : zroom n y = true := hrm
    rcases zoT_ok y hT with hy | hy
    · rw [if_neg (by omega)] at hr
      obtain ⟨hsm, -⟩ := hc.2.resolve_left (by omega)
      have hM := zmeth_of ih hy hr hN hsm
      have hstk : ((a.reverse ++ rest).map (zv (zad B sc tx))) = (a.map (zv (zad B sc tx))).reverse ++ rest.map (zv (zad B sc tx)) := by simp
      have hrun := va_runS (e := e) (meth := meth) (below := below) (g := F0 m pc lsA ((a.reverse ++ rest).map (zv (zad B sc tx)))) (locs := locs) (cells := zN σ - zN σ0) (slots := zSl (zN σ) - zSl (zN σ0)) (As := a.map (zv (zad B sc tx))) hfix hM ⟨hB t hy hro hm (zNA y) (by rw [if_pos (Or.inl hT)]), hts _ (zwT_in hT)⟩ ⟨zWd_blind, fun U h1 h2 => ⟨rfl, hU U h1 h2⟩⟩ rfl (by rw [List.length_map]; exact hna) hls hstk hsum hd hfit
      exact zfin hrun rfl rfl (fun st o t h => h) hS q0 q1 kk
    · rw [if_pos hy.1] at hr
      obtain ⟨r1, r2⟩ := zroom_invN hro hy.1
      have hNs : zN σ1 = zN σ := by
        unfold znat at hr
        split at hr
        all_goals (repeat' (first | (cases hr; done) | split at hr))
        all_goals (cases hr; rfl)
      refine znat_ok C0 (by omega) (by omega) (by omega) hd hm hy.1 hy.2 hr hP hS hc.1 hls fun H1 locs1 hP1 hS1 => ?_
      have := kk H1 locs1 hP1 hS1
      rw [hNs] at this
      exact this
  case invokespecial y' =>
    cases hz
    have hlen : 3 = len := eq_of_beq hlen
    subst hlen
    simp only [zlnk, Bool.and_eq_true, Bool.or_eq_true, decide_eq_true_eq, beq_iff_eq] at hlk
    obtain ⟨⟨⟨hm, hI⟩, hinit⟩, hy⟩ := hlk
    have hro : zroom n y = true := hrm
    have hnT := zoI_T y hI
    rcases hy with hy | hy
    · subst hy
      obtain ⟨r1, r2⟩ := zroom_invN hro (by omega)
      rw [if_pos (by omega)] at hr
      have hm : ((zMI n).2.2.2.2.1, t, 907) ∈ zLM := by
        rcases hm with h | h
        · exact h
        · exact absurd (show 907 < 319 from zLN_ok _ h) (by decide)
      unfold znat at hr
      simp only at hr
      split at hr
      · rename_i o
        cases hr
        have hstk : (([Value.ref o].reverse ++ rest).map (zv (zad B sc tx))) = .ref (zad B sc tx o) :: rest.map (zv (zad B sc tx)) := rfl
        rw [hstk] at hsum ⊢
        have eN : (zMI 907).1 = Lib.objectInit := by decide +kernel
        have hl1 := hts _ (zwM_in hm)
        have hl2 := hts _ (zwI_in hI)
        simp only [zwM] at hl1
        rw [eN] at hl1 hl2
        refine W.objInit hx hb hown (idx := t) hl1 hl2 (hts _ zObj_in) rfl (hls.trans hml.symm) rfl hd (by omega) (by omega) ?_
        exact kk H locs hP hS
      · cases hr
    · obtain ⟨g1, g2, g3, g4, g5, g6, g7⟩ := zmth_inv (show y < 320 by omega)
      rw [if_neg (by omega)] at hr
      obtain ⟨hsm, hrc⟩ := hc.2.resolve_left (by omega)
      have hrc := hrc rfl
      have hM := zmeth_of ih hy hr hN hsm
      obtain ⟨o, As, rfl, ho, hoc⟩ := zrcv_inv hrc
      · have hn2 : (As.map (zv (zad B sc tx))).length = zNA y - 1 := by
          rw [List.length_map]
          simp only [List.length_cons] at hna
          omega
        have hstk : (((Value.ref o :: As).reverse ++ rest).map (zv (zad B sc tx))) = (As.map (zv (zad B sc tx))).reverse ++ .ref (zad B sc tx o) :: rest.map (zv (zad B sc tx)) := by
          simp [zv]
        have hrt : (zMI y).2.2.2.1 = none := zinit_ret y (by omega) hinit
        rw [zCt] at hM
        rcases hm with hm | hm
        · have hB2 := hB t hy hro hm (zNA y - 1) (by rw [if_neg (by simp [hnT.1, hnT.2])])
          rw [hrt] at hB2
          have hrun := va_runI (e := e) (meth := meth) (below := below) (g := F0 m pc lsA (((Value.ref o :: As).reverse ++ rest).map (zv (zad B sc tx)))) (locs := locs) (cells := zN σ - zN σ0) (slots := zSl (zN σ) - zSl (zN σ0)) (b := zad B sc tx o) (As := As.map (zv (zad B sc tx))) hfix hM ⟨hB2, hinit, hts _ (zwI_in hI)⟩ ⟨zWd_blind, fun U h1 h2 => ⟨rfl, hU U h1 h2⟩⟩ rfl hn2 hls hstk hsum hd hfit
          exact zfin hrun rfl rfl (fun st o t h => h) hS q0 q1 kk
        · obtain ⟨r1, r2⟩ := zroom_inv hro (by omega)
          have hw := hWd.2.2.1.2.1 _ hm
          have hGd : GoodIn zWS (zwc y :: zWS) := zGood hy
          have hBN := va_cnB (R := R) (s := s) (args := args) (own := zOw (zMI n).2.2.2.2.1) (host := RX11) (index := t) (y := (zMI y).1) (bytes := (zMI y).2.1) (maxL := (zMI y).2.2.1) (ret := none) (mc := zN σ1 - zN σ) (ms := zSl (zN σ1) - zSl (zN σ)) (rm := { frames := (zMI y).2.2.2.2.2.1, cells := zN σ1 - zN σ, slots := zSl (zN σ1) - zSl (zN σ), locals := (zMI y).2.2.2.2.2.2 }) (zNA y - 1) hts hGd (by show zwc y :: zWS = _; unfold zwc; rw [hrt]) rfl rfl hw (hts _ (zwIn_in g5)) ⟨(zoIn_ne _ g5).1, (zoIn_ne _ g5).2, by rw [g2, if_neg (by simp [hnT.1, hnT.2])]⟩ ⟨Nat.le_trans r1 hRf, Nat.le_trans r2 hRl⟩
          have hrun := va_runIN (e := e) (meth := meth) (below := below) (g := F0 m pc lsA (((Value.ref o :: As).reverse ++ rest).map (zv (zad B sc tx)))) (locs := locs) (cells := zN σ - zN σ0) (slots := zSl (zN σ) - zSl (zN σ0)) (b := zad B sc tx o) (As := As.map (zv (zad B sc tx))) hfix hM ⟨hBN, hinit, hts _ (zwI_in hI)⟩ ⟨zWd_blind, fun U h1 h2 => ⟨rfl, hU U h1 h2⟩⟩ rfl hn2 hls hstk hsum hd hfit
          exact zfin hrun rfl rfl (fun st o t h => h) hS q0 q1 kk
set_option maxHeartbeats 4000000 in
theorem zwalk : ∀ k : Nat, zWalkP l D cy B sc tx k := by
  intro k
  induction k with
  | zero => intro p e R s m args below meth c Q n σ0 σ' r pc ls st σ lsA H locs _ _ _ _ _ _ _ _ h; cases h
  | succ k ih =>
    intro p e R s m args below meth c Q n σ0 σ' r pc ls st σ lsA H locs C0 hn hRf hRl hN hRc hRs hend hrun h0 hl hP hS
    have hke := (zrun_kp _ _ _ _ _ _ _ hrun)
    have hNs : zN σ ≤ 900000 := Nat.le_trans hke.1 hN
    obtain ⟨hx, hb, hml, hown, hts, hin, hWd⟩ := id C0
    have hBs : B ≤ s.heap.size := by have := hWd.1; omega
    rw [zrun] at hrun
    split at hrun
    · rename_i i len t hq
      obtain ⟨hd, hlen, hoff, hloc, hlk, hrm⟩ := zins_inv hn hq
      split at hrun
      · rename_i y vt hz
        split at hrun
        · rename_i a rest hpop
          split at hrun
          · rename_i hc
            split at hrun
            · rename_i σ1 v hr
              have hk1 : zKp σ σ1 := by
                split at hr
                · exact znat_kp hr
                · exact zrun_kp _ _ _ _ _ _ _ hr
              have hk2 := zrun_kp _ _ _ _ _ _ _ hrun
              have e1 := hk1.1
              have e2 := hk2.1
              have e0 := h0.1
              have e3 := zSl_mono e2
              refine zcstep ih C0 hn hRf hRl (by have : zN σ1 ≤ zN σ' := e2; omega) (by have : zSl (zN σ1) ≤ zSl (zN σ') := e3; omega) hd hlen hlk hrm hz hpop hc hr (by have : zN σ1 ≤ zN σ' := e2; omega) h0 hP hS hl.1 fun H1 locs1 hP1 hS1 => ?_
              exact ih p e R s m args below meth c Q n σ0 σ' r (pc + 3) ls _ σ1 lsA H1 locs1 C0 hn hRf hRl hN hRc hRs hend hrun (h0.trans hk1) hl hP1 hS1
            · cases hrun
          · cases hrun
        · cases hrun
      · split at hrun
        · rename_i pc' ls' st' σ1 hs
          have hk1 := zstp_kp hs
          have hk2 := zrun_kp _ _ _ _ _ _ _ hrun
          have e1 := hk1.1
          have e2 : zN σ1 ≤ zN σ' := hk2.1
          have e0 := h0.1
          have next : ∀ lsA' H1 locs1, lv_has lsA' (zMI n).2.2.1 (ls'.map (zq (zad B sc tx))) → va_P D vwCl (zW (zad B sc tx) cy σ1) H1 → va_S (fun q => B ≤ q) s.heap H1 locs1 → W p l e R s m args below meth c H1 locs1 (zN σ1 - zN σ0) (zSl (zN σ1) - zSl (zN σ0)) Q (F0 m pc' lsA' (st'.map (zv (zad B sc tx)))) := fun lsA' H1 locs1 hl1 hP1 hS1 => ih p e R s m args below meth c Q n σ0 σ' r pc' ls' st' σ1 lsA' H1 locs1 C0 hn hRf hRl hN hRc hRs hend hrun (h0.trans hk1) hl1 hP1 hS1
          unfold zstp zgo at hs
          split at hs
          · rename_i st2 hp
            cases hs
            rw [zreal_pst hp] at hd
            exact zpst_ok hx hb _ hd hlen hp (next lsA H locs hl hP hS)
          · split at hs
            · rename_i b off r2 hp
              cases hs
              rw [zreal_br hp] at hd
              exact zbr_ok hx hb _ hd hlen hoff hp (next lsA H locs hl hP hS)
            · split at hs
              · rename_i ls2 st2 hp
                cases hs
                rw [zreal_loc hp] at hd
                exact zloc_ok hx hb _ hd hlen hloc hl hp fun lsA' hl' => next lsA' H locs hl' hP hS
              · split at hs
                · rename_i st2 σ2 hp
                  cases hs
                  have hX := hWd.2.2.2.2.1
                  obtain ⟨s1, s2⟩ := h0.2 hNs
                  rw [← s1, ← s2] at hX
                  have hsame : zN σ1 = zN σ := zmem_N hp
                  refine zmem_ok hx hb hown hts hin hWd.2.2.1 hX hWd.2.2.2.2.2 hBs hd hlen hlk hp hP hS (by omega) fun H1 locs1 hP1 hS1 => ?_
                  have := next lsA H1 locs1 hl hP1 hS1
                  rw [hsame] at this
                  exact this
                · split at hs
                  · rename_i st2 σ2 hp
                    cases hs
                    have e3 := zSl_mono e1
                    have e4 := zSl_mono e0
                    have e5 := zSl_mono e2
                    have e6 := hWd.1
                    refine zmak_ok hx hb hown hts hWd.2.2.1 hBs hd hlen hlk hp hP hS (by omega) (by omega) (by omega) (by omega) fun H1 locs1 hP1 hS1 => ?_
                    exact W.cs (by omega) (by omega) (next lsA H1 locs1 hl hP1 hS1)
                  · split at hs
                    · rename_i st2 hp
                      cases hs
                      exact zcst_ok hx hb hown hts hWd.2.2.2.1 hd hlen hlk hp (next lsA H locs hl hP hS)
                    · split at hs <;> cases hs
        · rename_i q hs
          cases hrun
          unfold zstp zgo at hs
          split at hs
          · cases hs
          · split at hs
            · cases hs
            · split at hs
              · cases hs
              · split at hs
                · cases hs
                · split at hs
                  · cases hs
                  · split at hs
                    · cases hs
                    · split at hs
                      · rename_i r2 hret
                        cases hs
                        refine zszH hWd.1 h0 hNs hP hS fun hHz => ?_
                        exact hend pc lsA st i t len H locs hd hlen hlk hret hP hS hHz h0
                      · cases hs
        · cases hrun
    · cases hrun
end ZWK
end
section
/-! THE CLAIM OUT OF ONE WALK OF THE LAW'S BODY. Your part is whole_start (and what it stands on); all else here is the same for every law, but numbers. -/
def R_law : String := "RecordBridgeLaw"
def lw_P (b : Addr) (xs : List Int32) (args : Array Value) (s : State) : Prop := args = #[.ref b] ∧ s.IntsAt b xs ∧ xs.length ≤ 7 ∧ (Jvm.Cond.and given_1 narrow_1).before args s = true
/-- what a walk over the start with the record d0 says of its end, said of the start itself -/
theorem lw_closed {s t : State} {o : Outcome} {d0 : Drawn} {L : List Loc} {k n : Nat} (hd0 : s.drawn.sameBut d0 lw_cs) (hv : ∃ v, o = .returned v) (hW : (s.setDrawn d0).WarmedH t.vm) (hs : (s.setDrawn d0).sameButNew ({ t with vm := s.vm } : State) L k n) : State.butDraws s t lw_cs (fun t1 => Framed s o t1 L k n) := by
  have h2 : t.drawn = d0 := congrArg State.drawn hs.1
  refine ⟨⟨hv, hW, State.sameButNew.setDrawn hs s.drawn⟩, ?_, by decide⟩
  rw [h2]
  exact hd0
def lw_Q (_ : Array Value) (s : State) (o : Outcome) (t : State) : Prop := o = .returned (some (.int 1)) ∧ State.butDraws s t lw_cs (fun t1 => Framed s o t1 [] 600000 7302249)
def lw_Z (below : List Frame) (a : Array Value) (s : State) : State → Prop := fun t => ∃ o, t.status = .running ∧ Ended t below o ∧ lw_Q a s o t
/-- the law's own end, with 1 on the stack, nothing written that was there before, its room as the claim has it; d0: the record of draws at this point (at the entry s.drawn: begin with 'refine W.base ?_' and 'have hd0 := Drawn.sameBut.refl s.drawn lw_cs') -/
theorem lw_ret {p : Program} {l : Launch} {e : Env} {s : State} {m : MethodId} {below : List Frame} {meth : Method} {c : Code} {b : Nat} {d0 : Drawn} (hd0 : s.drawn.sameBut d0 lw_cs) (hx : p.tables.exec = Jvm.exec) (hb : c.code = code) (hr : meth.sig.returnType = ret) (hlocks : meth.locks = false) {pc : Nat} {H : Heap} {ls : Array Slot} (hdg : decode code pc = .ok (.ireturn, 1)) : W p l e room_1 (s.setDrawn d0) m #[Value.ref b] below meth c H [] 600000 7302249 (lw_Z below #[Value.ref b] s) (F0 m pc ls [.int 1]) := by
  intro T hT X
  obtain ⟨fs, hret, hrun, hended, hW, hframe⟩ := X.leave (v := some (.int 1)) (hlocks := hlocks) (fun h => by rw [hr] at h; cases h)
  have hmeth' : T.vm.method? m = some meth := X.method'
  refine ⟨T.setFrames fs, ?_, .returned (some (.int 1)), hrun, hended, rfl, lw_closed hd0 ⟨_, rfl⟩ hW hframe⟩
  jvm_step X.here [X.here.top, hx, hb, hdg, hmeth', hr, ret, narrow_b1]
  (try refine ⟨rfl, ?_⟩); (try refine ⟨rfl, ?_⟩)
  first | (intro acts; rw [hret _ acts rfl rfl rfl]) | rw [hret _ _ rfl rfl rfl]
  exact Steps.refl _
/-- what holds at the law's entry: the machine, the code, the tables' words (any of lw_tbl by 'hts w (by decide +kernel)'), the script of L ints xs at the cell b, what the Statement gives of the start (any of its parts by flat_of_before) -/
def lw_At (p : Program) (s : State) (m : MethodId) (meth : Method) (c : Code) (b L : Nat) (xs : Nat → Int32) : Prop :=
  p.tables.exec = Jvm.exec ∧ c.code = code ∧ meth.sig.returnType = ret ∧ c.maxLocals = 4 ∧ s.vm.findClass R_law = some m.cls ∧ (∀ w ∈ lw_tbl, w.before #[Value.ref b] s = true) ∧ va_X b L xs s s.heap ∧ b < s.heap.size ∧ meth.locks = false ∧ (Jvm.Cond.and given_1 narrow_1).before #[Value.ref b] s = true
end
section
/-! THE START: what is left is pure -/
def zst0 (L : Nat) (xs : Nat → Int32) : zSt := (fun o => if o = zSCR then xs else fun _ => 0, fun _ _ => 0, fun o k => if o = zSCR ∧ k = 0 then some L else none, 0)
/-- what is left to show -/
def zLawP : Prop := ∀ (L : Nat) (xs : Nat → Int32), L ≤ 7 → ∃ (f : Nat) (σ' : zSt), zrun f (zcode 319) 0 [(0, .ref zSCR)] [] (zst0 L xs) = some (σ', some (.int 1)) ∧ zN σ' ≤ 600000
theorem zSl_far : ∀ n, 181 ≤ n → zSl n ≤ 50000 + 8 * n := by
  intro n h
  induction h with
  | refl => decide +kernel
  | @step n h ih =>
    have h' : 181 ≤ n := h
    have h2 : zLY n = (13, 8) := by
      unfold zLY
      rw [List.getElem?_eq_none (by have : zLYl.length = 181 := by decide +kernel
                                    omega)]
      rfl
    show zSl n + (zLY n).2 ≤ _
    rw [h2]
    show zSl n + 8 ≤ _
    omega
theorem zSl_room {n : Nat} (h : n ≤ 600000) : zSl n ≤ 7302249 := by
  rcases Nat.lt_or_ge n 181 with h1 | h1
  · exact Nat.le_trans (zSl_mono (Nat.le_of_lt h1)) (Nat.le_trans (zSl_far 181 (Nat.le_refl _)) (by decide))
  · exact Nat.le_trans (zSl_far n h1) (by omega)
theorem zAC_of {s : State} {args : Array Value} {ty : FieldType} (h : (Cond.arrayClass ty).before args s = true) (hty : ∀ C, ty ≠ .object C) : ∃ cA : ClassId, ArrOfT s cA ty ∧ va_RA s cA ty := by
  obtain ⟨c, k, comp, h1, h2, h3⟩ := Cond.arrayClass_spec h
  refine ⟨c, fun n z => ⟨fun k h => (by cases h), k, h2, comp, h3⟩, ?_⟩
  cases ty with
  | object C => exact absurd rfl (hty C)
  | _ => exact h1
theorem zAO_of {s : State} {args : Array Value} {C : String} (h : (Cond.arrayOver (.object C)).before args s = true) : ∃ cA : ClassId, ArrOfT s cA (.object C) ∧ va_RA s cA (.object C) := by
  obtain ⟨comp, c, k, h1, h2, h3, h4, h5⟩ := Cond.arrayOver_spec h
  exact ⟨c, fun n z => ⟨fun k h => (by cases h), k, h3, comp, h4⟩, k, comp, h3, h4, h1, h5⟩
theorem zAA_of {s : State} {args : Array Value} (h : (Cond.arrayOver (.array .long)).before args s = true) : ∃ cA : ClassId, ArrOfT s cA (.array .long) ∧ va_RA s cA (.array .long) := by
  unfold Cond.before Cond.holds at h
  simp only [Cond.value, beq_iff_eq] at h
  cases hc : s.vm.findClass (FieldType.array .long).toString with
  | none => rw [hc] at h; cases h
  | some comp =>
    rw [hc, Option.bind_some] at h
    generalize Array.findIdx? _ s.vm.classes = r at h
    cases r with
    | none => cases h
    | some c =>
      rw [Option.bind_some] at h
      cases hk : s.vm.classes[c]? with
      | none => rw [hk] at h; cases h
      | some k =>
        rw [hk] at h
        simp only [Option.map_some, Option.some.injEq] at h
        cases hkind : k.kind with
        | array cp ty =>
          rw [hkind] at h
          simp only [Bool.and_eq_true, decide_eq_true_eq] at h
          obtain ⟨rfl, h2⟩ := h
          exact ⟨c, fun n z => ⟨fun k h => (by cases h), k, hk, cp, hkind⟩, h2⟩
        | _ => rw [hkind] at h; cases h
theorem zInst : ∀ r ∈ vwCl, (r.1, r.2.2) ∈ zoIs := by decide +kernel
set_option maxRecDepth 100000 in
theorem zstrE : ∀ j, j < 87 → Cond.eq (.elem (.field (.string "RecordBridge$BookReader" 60) "java/lang/String" "value" "[B") (.int (Int32.ofNat j))) (.int (zTX.getD j 0)) ∈ flatC (Jvm.Cond.and given_1 narrow_1) := by decide +kernel
set_option maxRecDepth 100000 in
theorem zground {s : State} {args : Array Value} (hts : ∀ w ∈ lw_tbl, w.before args s = true) (hgv : (Jvm.Cond.and given_1 narrow_1).before args s = true) : ∃ (D : va_G) (cy : Nat → ClassId) (tx : Nat), zGs D cy s ∧ zSg s.heap.size tx s := by
  have htz : ∀ w ∈ zWS, w.before args s = true := fun w h => hts w (List.mem_filter.mp h).1
  have hfl := flat_of_before _ hgv
  have hD : ∀ c : Nat, ∃ q : ClassId × (Nat → Nat), ∀ r : vw_C, vwCl[c]? = some r → u_Kn s r.1 r.2.1 r.2.2 q.1 q.2 := by
    intro c
    cases hc : vwCl[c]? with
    | none => exact ⟨(0, fun _ => 0), fun r h => by cases h⟩
    | some r =>
      obtain ⟨cC, iS, h⟩ := u_known (C := r.1) (T := r.2.1) (N := r.2.2) htz (zCl_all c r hc).1 (htz _ (zwIs_in (zInst r (List.mem_of_getElem? hc))))
      exact ⟨(cC, iS), fun r' h' => by cases h'; exact h⟩
  obtain ⟨fD, hD⟩ := Classical.axiomOfChoice hD
  obtain ⟨k11, h11⟩ := zAC_of (htz _ (zAr_in (a := .char) (by decide +kernel))) (fun C h => by cases h)
  obtain ⟨k12, h12⟩ := zAC_of (htz _ (zAr_in (a := .int) (by decide +kernel))) (fun C h => by cases h)
  obtain ⟨k13, h13⟩ := zAC_of (htz _ (zAr_in (a := .long) (by decide +kernel))) (fun C h => by cases h)
  obtain ⟨k14, h14⟩ := zAC_of (htz _ (zAr_in (a := .boolean) (by decide +kernel))) (fun C h => by cases h)
  have a15 := hts _ (zsub_in _ _ zAo_all (.arrayOver (.object "RecordBridge$Passage")) (by simp))
  have a16 := hts _ (zsub_in _ _ zAo_all (.arrayOver (.object "RecordBridge$Rule")) (by simp))
  have a17 := hts _ (zsub_in _ _ zAo_all (.arrayOver (.object "RecordBridge$Shape")) (by simp))
  have a18 := hts _ (zsub_in _ _ zAo_all (.arrayOver (.array .long)) (by simp))
  obtain ⟨k15, h15⟩ := zAO_of a15
  obtain ⟨k16, h16⟩ := zAO_of a16
  obtain ⟨k17, h17⟩ := zAO_of a17
  obtain ⟨k18, h18⟩ := zAA_of a18
  have hA : ∀ a : Nat, a < s.heap.size → ¬ s.heap.size ≤ a := fun a h => Nat.not_le.mpr h
  obtain ⟨adK, adV, hS, hev⟩ := vk_Sof (N := 1) (tm := fun _ => Term.string "RecordBridge$BookReader" 60) (len := [87]) (byt := [zTX]) (A := fun q => s.heap.size ≤ q) (s := s) (args := args)
    (fun i hi => by rw [show i = 0 by omega]; decide) (fun i hi => hfl _ (by decide +kernel)) (fun i hi => hfl _ (by decide +kernel)) (fun i hi => hfl _ (by decide +kernel)) (fun i hi => by rw [show i = 0 by omega]; exact hfl _ (by decide +kernel))
    (fun i hi j hj => by rw [show i = 0 by omega] at hj ⊢; exact hfl _ (zstrE j hj)) (fun i j hi hj hne => absurd (show i = j by omega) hne) hA
  refine ⟨(fun c => (fD c).1, fun c => (fD c).2), fun k => if k = 11 then k11 else if k = 12 then k12 else if k = 13 then k13 else if k = 14 then k14 else if k = 15 then k15 else if k = 16 then k16 else if k = 17 then k17 else k18, adK 0, ⟨⟨fun c r h => hD c r h, ?_⟩, ?_, ⟨a17, a15, a16, a18⟩⟩, ⟨vk_R.of (A := args) ?_ (hev 0 (by omega)), ⟨adV 0, ⟨fun i hi => by rw [show i = 0 by omega]; exact hS.1 0 (by omega), fun i j hi hj _ => by omega⟩⟩, ?_, ?_⟩⟩
  · intro k q hq
    match k, hq with
    | 0, hq => cases hq; exact h11
    | 1, hq => cases hq; exact h12
    | 2, hq => cases hq; exact h13
    | 3, hq => cases hq; exact h14
    | 4, hq => cases hq; exact h15
    | 5, hq => cases hq; exact h16
    | 6, hq => cases hq; exact h17
    | 7, hq => cases hq; exact h18
    | k + 8, hq => simp [zty] at hq
  · intro q hq
    exact va_Nw.of rfl (hts _ (zsub_in _ _ zN_all _ (List.mem_map.mpr ⟨q, hq, rfl⟩)))
  · exact hts _ (zsub_in _ _ (show zsub [Cond.stringRef "RecordBridge$BookReader" 60 zTXs] lw_tbl = true by decide +kernel) _ List.mem_cons_self)
  · exact va_Zof (hts _ (zsub_in _ _ (show zsub [Cond.laysStatic "java/lang/String" "COMPACT_STRINGS" "Z"] lw_tbl = true by decide +kernel) _ List.mem_cons_self)) (htz _ (zsw 16 rfl rfl)) (va_eqt (hfl (Cond.eq (.static "java/lang/String" "COMPACT_STRINGS" "Z") (.int 1)) (by decide +kernel))) hA
  · exact va_Zqof (hts _ (zsub_in _ _ (show zsub [Cond.laysStatic "jdk/internal/util/Preconditions" "SIOOBE_FORMATTER" "Ljava/util/function/BiFunction;"] lw_tbl = true by decide +kernel) _ List.mem_cons_self)) (htz _ (zsw 18 rfl rfl)) (hfl (Cond.isRef (.static "jdk/internal/util/Preconditions" "SIOOBE_FORMATTER" "Ljava/util/function/BiFunction;")) (by decide +kernel)) hA
set_option maxRecDepth 100000 in
theorem zstart (hlaw : zLawP) {p : Program} {e : Env} {s : State} {m : MethodId} {below : List Frame} {meth : Method} {c : Code} (l : Launch) {b L : Nat} {xs : Nat → Int32} (hL : L ≤ 7) (C0 : lw_At p s m meth c b L xs) : W p l e room_1 s m #[Value.ref b] below meth c s.heap [] 0 0 (lw_Z below #[Value.ref b] s) (entryFrame m ([Value.ref b] : List Value).toArray 4) := by
  obtain ⟨hx, hb, hr, hml, hown, hts, hX, hbl, hlocks, hgv⟩ := C0
  obtain ⟨f, σ', hrun, hN⟩ := hlaw L xs hL
  obtain ⟨D, cy, tx, hG, hSg⟩ := zground hts hgv
  have hd0 := Drawn.sameBut.refl s.drawn lw_cs
  have hcode : (zMI 319).2.1 = code := rfl
  have hmx : (zMI 319).2.2.1 = 4 := rfl
  have hl := lv_entry ([.ref b] : List Value) (n := 4) (Nat.le_of_ble_eq_true rfl)
  rw [lg_entry_eq]
  generalize ((lg_sl ([.ref b] : List Value)) ++ List.replicate (4 - (lg_sl ([.ref b] : List Value)).length) Slot.unset).toArray = lsA at hl ⊢
  have hP0 : va_P D vwCl (zW (zad s.heap.size b tx) cy (zst0 L xs)) s.heap := fun k q h => by cases h
  have hX0 : va_X b ((zR (zst0 L xs) zSCR 0).getD 0) (zI (zst0 L xs) zSCR) s s.heap := by
    have e1 : (zR (zst0 L xs) zSCR 0).getD 0 = L := rfl
    have e2 : zI (zst0 L xs) zSCR = xs := by
      funext j
      show (if zSCR = zSCR then xs else fun _ => 0) j = xs j
      rw [if_pos rfl]
    rw [e1, e2]; exact hX
  have hWd : zWd D cy s.heap.size b tx (zst0 L xs) s := ⟨rfl, hP0, hG, hSg, hX0, hbl⟩
  have C1 : zCtx p s m #[Value.ref b] meth c D cy s.heap.size b tx 319 (zst0 L xs) := ⟨hx, hb.trans hcode.symm, hml.trans hmx.symm, hown, fun w h => hts w (List.mem_filter.mp h).1, fun h => absurd h (by decide +kernel), hWd⟩
  have key := zwalk (l := l) (D := D) (cy := cy) (B := s.heap.size) (sc := b) (tx := tx) f p e room_1 s m #[Value.ref b] below meth c (lw_Z below #[Value.ref b] s) 319 (zst0 L xs) σ' (some (.int 1)) 0 [(0, .ref zSCR)] [] (zst0 L xs) lsA s.heap [] C1 (by decide) (by decide +kernel) (by decide +kernel) (by omega) (by show zN σ' - 0 ≤ 600000; omega) (by show zSl (zN σ') - 0 ≤ 7302249; have := zSl_room hN; omega) ?_ hrun zKp.rfl' ?_ hP0 va_S.rf
  · exact key
  · intro pc lsA st i t len H locs hd hlen hlk hret hP hS hz hk
    have hfin : zreal i t = .ireturn ∧ st = [.int 1] ∧ len = 1 := by
      unfold zret at hret
      split at hret
      · split at hret <;> cases hret
      · have hlen : 1 = len := eq_of_beq hlen
        split at hret
        · split at hret
          · cases hret; exact ⟨rfl, rfl, hlen.symm⟩
          · cases hret
        · cases hret
      all_goals first
        | (split at hret <;> cases hret; done)
        | (cases hret; done)
    obtain ⟨e1, rfl, rfl⟩ := hfin
    rw [e1, hcode] at hd
    refine va_forget (fun q hq => hS.2.2 q hq) ?_
    refine W.widen (k := 600000) (n := 7302249) (by show zN σ' - 0 ≤ 600000; omega) (by show zSl (zN σ') - 0 ≤ 7302249; have := zSl_room hN; omega) ?_
    exact lw_ret (d0 := s.drawn) hd0 hx hb hr hlocks hd
  · rw [hmx]; exact hl
end
section
/-! WHAT IT NEEDS to come from a place to the end: zP; one row an instruction. Locals are known in part: (slot, value). -/
def zref (ls ls' : zLv) : Prop := ∀ i v, zld ls i = some v → zld ls' i = some v
theorem zref.rfl' {ls : zLv} : zref ls ls := fun _ _ h => h
def zP (c : zCode) (pc : Nat) (ls : zLv) (st : List Value) (σ : zSt) (Q : zSt → Option Value → Prop) : Prop := ∀ ls', zref ls ls' → ∃ (f : Nat) (σ' : zSt) (r : Option Value), zrun f c pc ls' st σ = some (σ', r) ∧ Q σ' r
/-- a call of a listed method -/
def zCa (y : Nat) (a : List Value) (σ : zSt) (Q : zSt → Option Value → Prop) : Prop := zP (zcode y) 0 (lv_args 0 a) [] σ Q
def zat (c : zCode) (pc : Nat) (i : Instr) (len t pc' : Nat) : Prop := c[pc]? = some (some (i, len, t)) ∧ pc + len = pc'
theorem zrun_up : ∀ (f : Nat) (c : zCode) (pc : Nat) (ls : zLv) (st : List Value) (σ : zSt) (q : zSt × Option Value), zrun f c pc ls st σ = some q → zrun (f + 1) c pc ls st σ = some q
  | 0, c, pc, ls, st, σ, q, h => by cases h
  | f + 1, c, pc, ls, st, σ, q, h => by
    rw [zrun] at h ⊢
    rcases hq : c[pc]? with _ | (_ | ⟨i, len, t⟩)
    · rw [hq] at h; cases h
    · rw [hq] at h; cases h
    · rw [hq] at h
      dsimp only at h ⊢
      rcases hz : zcal i with _ | ⟨y, vt⟩
      · rw [hz] at h
        dsimp only at h ⊢
        rcases hs : zstp i len t pc ls st σ with _ | (⟨pc', ls', st', σ'⟩ | q')
        · rw [hs] at h; cases h
        · rw [hs] at h; exact zrun_up f _ _ _ _ _ _ h
        · rw [hs] at h; exact h
      · rw [hz] at h
        dsimp only at h ⊢
        rcases hp : zpop (zNA y) st with _ | ⟨a, r⟩
        · rw [hp] at h; cases h
        · rw [hp] at h
          dsimp only at h ⊢
          split at h
          · rename_i hc
            rw [if_pos hc]
            split at h
            · rename_i σ' v hr
              have hr2 : (if 900 ≤ y then znat y a σ else zrun (f + 1) (zcode y) 0 (lv_args 0 a) [] σ) = some (σ', v) := by
                split at hr
                · rename_i h9; rw [if_pos h9]; exact hr
                · rename_i h9; rw [if_neg h9]; exact zrun_up f _ _ _ _ _ _ hr
              rw [hr2]
              exact zrun_up f _ _ _ _ _ _ h
            · cases h
          · cases h
theorem zrun_le {f g : Nat} (hfg : f ≤ g) {c : zCode} {pc : Nat} {ls : zLv} {st : List Value} {σ : zSt} {q : zSt × Option Value} (h : zrun f c pc ls st σ = some q) : zrun g c pc ls st σ = some q := by
  induction hfg with
  | refl => exact h
  | step _ ih => exact zrun_up _ _ _ _ _ _ _ ih
section ZWP
variable {c : zCode} {pc pc' len t : Nat} {ls : zLv} {st r : List Value} {σ : zSt} {Q : zSt → Option Value → Prop} {i : Instr}
theorem w_step {pc1 : Nat} {ls2 : zLv} {st' : List Value} {σ' : zSt} (hk : zat c pc i len t pc') (hcal : zcal i = none) (h : ∀ ls', zref ls ls' → ∃ ls2', zstp i len t pc ls' st σ = some (.inl (pc1, ls2', st', σ')) ∧ zref ls2 ls2') (k : zP c pc1 ls2 st' σ' Q) : zP c pc ls st σ Q := by
  intro ls' hr
  obtain ⟨ls2', h1, h2⟩ := h ls' hr
  obtain ⟨f, σ1, v, h3, h4⟩ := k ls2' h2
  refine ⟨f + 1, σ1, v, ?_, h4⟩
  rw [zrun, hk.1]
  simp only [hcal, h1]
  exact h3
theorem w_end {v : Option Value} (hk : zat c pc i len t pc') (hcal : zcal i = none) (h : ∀ ls', zstp i len t pc ls' st σ = some (.inr (σ, v))) (k : Q σ v) : zP c pc ls st σ Q := by
  intro ls' hr
  refine ⟨1, σ, v, ?_, k⟩
  rw [zrun, hk.1]
  simp only [hcal, h ls']
theorem w_callG {y : Nat} {vt : Bool} {a : List Value} (hk : zat c pc i 3 t pc') (hcal : zcal i = some (y, vt)) (hp : zpop (zNA y) st = some (a, r)) (hc : (r.map (fun v => v.category)).sum ≤ 8 ∧ (900 ≤ y ∨ ((a.map (fun v => v.category)).sum ≤ zML y ∧ (vt = true → zrcv y a σ = true)))) (hy : y < 900) (k : zCa y a σ (fun σ' v => zP c pc' ls (v.toList ++ r) σ' Q)) : zP c pc ls st σ Q := by
  intro ls' hr
  obtain ⟨f1, σ1, v1, h1, h2⟩ := k _ zref.rfl'
  obtain ⟨f2, σ2, v2, h3, h4⟩ := h2 ls' hr
  refine ⟨max f1 f2 + 1, σ2, v2, ?_, h4⟩
  rw [zrun, hk.1]
  simp only [hcal, hp]
  rw [if_pos hc, if_neg (by omega)]
  have e1 := zrun_le (Nat.le_max_left f1 f2) h1
  rw [e1]
  show zrun (max f1 f2) c (pc + 3) ls' _ σ1 = _
  rw [hk.2]
  exact zrun_le (Nat.le_max_right f1 f2) h3
theorem w_natG {y : Nat} {vt : Bool} {a : List Value} {σ1 : zSt} {v1 : Option Value} (hk : zat c pc i 3 t pc') (hcal : zcal i = some (y, vt)) (hp : zpop (zNA y) st = some (a, r)) (hc : (r.map (fun v => v.category)).sum ≤ 8) (hy : 900 ≤ y) (hn : znat y a σ = some (σ1, v1)) (k : zP c pc' ls (v1.toList ++ r) σ1 Q) : zP c pc ls st σ Q := by
  intro ls' hr
  obtain ⟨f2, σ2, v2, h3, h4⟩ := k ls' hr
  refine ⟨f2 + 1, σ2, v2, ?_, h4⟩
  rw [zrun, hk.1]
  simp only [hcal, hp]
  rw [if_pos ⟨hc, Or.inl hy⟩, if_pos hy, hn]
  show zrun f2 c (pc + 3) ls' _ σ1 = _
  rw [hk.2]
  exact h3
/-- to a known place, by less of the locals -/
def zlok : zLv → zLv → Prop
  | [], _ => True
  | q :: l, ls => zld ls q.1 = some q.2 ∧ zlok l ls
theorem zlok_ref : ∀ {l ls : zLv}, zlok l ls → zref l ls
  | [], ls, _ => fun i v h => by cases h
  | q :: l, ls, h => fun i v hv => by
    unfold zld at hv
    rw [List.find?_cons] at hv
    split at hv
    · rename_i he
      have he : q.1 = i := by simpa using he
      cases hv
      rw [← he]; exact h.1
    · exact zlok_ref h.2 i v hv
theorem w_at {ls2 : zLv} (h : zlok ls2 ls) (k : zP c pc ls2 st σ Q) : zP c pc ls st σ Q := fun ls' hr => k ls' (fun i v hv => hr i v (zlok_ref h i v hv))
theorem w_Q {Q2 : zSt → Option Value → Prop} (h : zP c pc ls st σ Q2) (hq : ∀ σ' v, Q2 σ' v → Q σ' v) : zP c pc ls st σ Q := fun ls' hr => by
  obtain ⟨f, σ', v, h1, h2⟩ := h ls' hr
  exact ⟨f, σ', v, h1, hq _ _ h2⟩
theorem w_enter {y : Nat} {a : List Value} {ls2 : zLv} (h : zcode y = c) (hl : zlok ls2 (lv_args 0 a)) (k : zP c 0 ls2 [] σ Q) : zCa y a σ Q := by
  unfold zCa
  rw [h]
  exact w_at hl k
/-- stores of locals -/
def zok1 (ls : zLv) : Nat → Bool
  | 0 => true
  | k + 1 => match zld ls k with
    | some v => v.category != 2
    | none => true
theorem zld_cons (q : Nat × Value) (l : zLv) (i : Nat) : zld (q :: l) i = if q.1 = i then some q.2 else zld l i := by
  unfold zld
  rw [List.find?_cons]
  by_cases h : q.1 = i
  · have e : (q.1 == i) = true := by simpa using h
    rw [e, if_pos h]; rfl
  · have e : (q.1 == i) = false := by simpa using h
    rw [e, if_neg h]
theorem zld_filter {ls : zLv} {p : Nat × Value → Bool} {i : Nat} {v : Value} (h : zld ls i = some v) (hp : p (i, v) = true) : zld (ls.filter p) i = some v := by
  induction ls with
  | nil => cases h
  | cons q l ih =>
    rw [zld_cons] at h
    rw [List.filter_cons]
    by_cases hq : q.1 = i
    · rw [if_pos hq] at h
      cases h
      subst hq
      rw [if_pos hp, zld_cons, if_pos rfl]
    · rw [if_neg hq] at h
      split
      · rw [zld_cons, if_neg hq]; exact ih h
      · exact ih h
theorem zs1_ref {ls ls' : zLv} {k : Nat} {v : Value} (h : zref ls ls') (hk : zok1 ls k = true) : zref ((k, v) :: ls) (zs1 ls' k v) := by
  intro i x hx
  rw [zld_cons] at hx
  show zld ((k, v) :: _) i = some x
  rw [zld_cons]
  by_cases e : k = i
  · rw [if_pos e] at hx ⊢; exact hx
  · rw [if_neg e] at hx ⊢
    refine zld_filter (h i x hx) ?_
    have e1 : (i == k) = false := by simpa using fun q => e q.symm
    show (!(i == k) && !(i + 1 == k && x.category == 2)) = true
    rw [e1]
    cases k with
    | zero => simp
    | succ k =>
      by_cases e2 : i = k
      · subst e2
        have hk2 : (match zld ls i with
          | some v => v.category != 2
          | none => true) = true := hk
        rw [hx] at hk2
        have : x.category ≠ 2 := by simpa using hk2
        simp [this]
      · simp [e2]
theorem zs2_ref {ls ls' : zLv} {k : Nat} {v : Value} (h : zref ls ls') (hk : zok1 ls k = true) (h2 : zld ls (k + 1) = none) : zref ((k, v) :: ls) (zs2 ls' k v) := by
  intro i x hx
  rw [zld_cons] at hx
  show zld ((k, v) :: _) i = some x
  rw [zld_cons]
  by_cases e : k = i
  · rw [if_pos e] at hx ⊢; exact hx
  · rw [if_neg e] at hx ⊢
    have e3 : ¬ i = k + 1 := fun q => by rw [q, h2] at hx; cases hx
    refine zld_filter (h i x hx) ?_
    have e1 : (i == k) = false := by simpa using fun q => e q.symm
    show (!(i == k) && (!(i == k + 1) && !(i + 1 == k && x.category == 2))) = true
    rw [e1]
    cases k with
    | zero => simp [e3]
    | succ k =>
      by_cases e2 : i = k
      · subst e2
        have hk2 : (match zld ls i with
          | some v => v.category != 2
          | none => true) = true := hk
        rw [hx] at hk2
        have : x.category ≠ 2 := by simpa using hk2
        simp [this]; omega
      · simp [e2, e3]

theorem w_null (hk : zat c pc (.aconst_null) 1 t pc') (k : zP c pc' ls (.null :: st) σ Q) : zP c pc ls (st) σ Q := w_step hk rfl (fun ls' hr => ⟨ls', by simp only [zstp, zpst, zii, zi1, zll, zl1, zli, zdd, zd1, zgo, hk.2], hr⟩) k
theorem w_iconst {n : Int} (hk : zat c pc (.iconst n) 1 t pc') (k : zP c pc' ls (.int (Int32.ofInt n) :: st) σ Q) : zP c pc ls (st) σ Q := w_step hk rfl (fun ls' hr => ⟨ls', by simp only [zstp, zpst, zii, zi1, zll, zl1, zli, zdd, zd1, zgo, hk.2], hr⟩) k
theorem w_bipush {n : Int} (hk : zat c pc (.bipush n) 2 t pc') (k : zP c pc' ls (.int (Int8.ofInt n).toInt32 :: st) σ Q) : zP c pc ls (st) σ Q := w_step hk rfl (fun ls' hr => ⟨ls', by simp only [zstp, zpst, zii, zi1, zll, zl1, zli, zdd, zd1, zgo, hk.2], hr⟩) k
theorem w_sipush {n : Int} (hk : zat c pc (.sipush n) 3 t pc') (k : zP c pc' ls (.int (Int16.ofInt n).toInt32 :: st) σ Q) : zP c pc ls (st) σ Q := w_step hk rfl (fun ls' hr => ⟨ls', by simp only [zstp, zpst, zii, zi1, zll, zl1, zli, zdd, zd1, zgo, hk.2], hr⟩) k
theorem w_iadd {x y : Int32} (hk : zat c pc (.iadd) 1 t pc') (k : zP c pc' ls (.int (x + y) :: r) σ Q) : zP c pc ls (.int y :: .int x :: r) σ Q := w_step hk rfl (fun ls' hr => ⟨ls', by simp only [zstp, zpst, zii, zi1, zll, zl1, zli, zdd, zd1, zgo, hk.2], hr⟩) k
theorem w_isub {x y : Int32} (hk : zat c pc (.isub) 1 t pc') (k : zP c pc' ls (.int (x - y) :: r) σ Q) : zP c pc ls (.int y :: .int x :: r) σ Q := w_step hk rfl (fun ls' hr => ⟨ls', by simp only [zstp, zpst, zii, zi1, zll, zl1, zli, zdd, zd1, zgo, hk.2], hr⟩) k
theorem w_imul {x y : Int32} (hk : zat c pc (.imul) 1 t pc') (k : zP c pc' ls (.int (x * y) :: r) σ Q) : zP c pc ls (.int y :: .int x :: r) σ Q := w_step hk rfl (fun ls' hr => ⟨ls', by simp only [zstp, zpst, zii, zi1, zll, zl1, zli, zdd, zd1, zgo, hk.2], hr⟩) k
theorem w_iand {x y : Int32} (hk : zat c pc (.iand) 1 t pc') (k : zP c pc' ls (.int (x &&& y) :: r) σ Q) : zP c pc ls (.int y :: .int x :: r) σ Q := w_step hk rfl (fun ls' hr => ⟨ls', by simp only [zstp, zpst, zii, zi1, zll, zl1, zli, zdd, zd1, zgo, hk.2], hr⟩) k
theorem w_ior {x y : Int32} (hk : zat c pc (.ior) 1 t pc') (k : zP c pc' ls (.int (x ||| y) :: r) σ Q) : zP c pc ls (.int y :: .int x :: r) σ Q := w_step hk rfl (fun ls' hr => ⟨ls', by simp only [zstp, zpst, zii, zi1, zll, zl1, zli, zdd, zd1, zgo, hk.2], hr⟩) k
theorem w_ixor {x y : Int32} (hk : zat c pc (.ixor) 1 t pc') (k : zP c pc' ls (.int (x ^^^ y) :: r) σ Q) : zP c pc ls (.int y :: .int x :: r) σ Q := w_step hk rfl (fun ls' hr => ⟨ls', by simp only [zstp, zpst, zii, zi1, zll, zl1, zli, zdd, zd1, zgo, hk.2], hr⟩) k
theorem w_ishl {x y : Int32} (hk : zat c pc (.ishl) 1 t pc') (k : zP c pc' ls (.int (x <<< (y &&& 31)) :: r) σ Q) : zP c pc ls (.int y :: .int x :: r) σ Q := w_step hk rfl (fun ls' hr => ⟨ls', by simp only [zstp, zpst, zii, zi1, zll, zl1, zli, zdd, zd1, zgo, hk.2], hr⟩) k
theorem w_ishr {x y : Int32} (hk : zat c pc (.ishr) 1 t pc') (k : zP c pc' ls (.int (x >>> (y &&& 31)) :: r) σ Q) : zP c pc ls (.int y :: .int x :: r) σ Q := w_step hk rfl (fun ls' hr => ⟨ls', by simp only [zstp, zpst, zii, zi1, zll, zl1, zli, zdd, zd1, zgo, hk.2], hr⟩) k
theorem w_iushr {x y : Int32} (hk : zat c pc (.iushr) 1 t pc') (k : zP c pc' ls (.int ((x.toUInt32 >>> (y.toUInt32 &&& Int32.toUInt32 31)).toInt32) :: r) σ Q) : zP c pc ls (.int y :: .int x :: r) σ Q := w_step hk rfl (fun ls' hr => ⟨ls', by simp only [zstp, zpst, zii, zi1, zll, zl1, zli, zdd, zd1, zgo, hk.2], hr⟩) k
theorem w_idiv {x y : Int32} (hk : zat c pc (.idiv) 1 t pc') (hy : ¬ y = 0) (k : zP c pc' ls (.int (x / y) :: r) σ Q) : zP c pc ls (.int y :: .int x :: r) σ Q := w_step hk rfl (fun ls' hr => ⟨ls', by simp only [zstp, zpst, zii, zi1, zll, zl1, zli, zdd, zd1, zgo, hk.2, if_neg hy], hr⟩) k
theorem w_irem {x y : Int32} (hk : zat c pc (.irem) 1 t pc') (hy : ¬ y = 0) (k : zP c pc' ls (.int (x - x / y * y) :: r) σ Q) : zP c pc ls (.int y :: .int x :: r) σ Q := w_step hk rfl (fun ls' hr => ⟨ls', by simp only [zstp, zpst, zii, zi1, zll, zl1, zli, zdd, zd1, zgo, hk.2, if_neg hy], hr⟩) k
theorem w_ladd {x y : Int64} (hk : zat c pc (.ladd) 1 t pc') (k : zP c pc' ls (.long (x + y) :: r) σ Q) : zP c pc ls (.long y :: .long x :: r) σ Q := w_step hk rfl (fun ls' hr => ⟨ls', by simp only [zstp, zpst, zii, zi1, zll, zl1, zli, zdd, zd1, zgo, hk.2], hr⟩) k
theorem w_lsub {x y : Int64} (hk : zat c pc (.lsub) 1 t pc') (k : zP c pc' ls (.long (x - y) :: r) σ Q) : zP c pc ls (.long y :: .long x :: r) σ Q := w_step hk rfl (fun ls' hr => ⟨ls', by simp only [zstp, zpst, zii, zi1, zll, zl1, zli, zdd, zd1, zgo, hk.2], hr⟩) k
theorem w_lmul {x y : Int64} (hk : zat c pc (.lmul) 1 t pc') (k : zP c pc' ls (.long (x * y) :: r) σ Q) : zP c pc ls (.long y :: .long x :: r) σ Q := w_step hk rfl (fun ls' hr => ⟨ls', by simp only [zstp, zpst, zii, zi1, zll, zl1, zli, zdd, zd1, zgo, hk.2], hr⟩) k
theorem w_land {x y : Int64} (hk : zat c pc (.land) 1 t pc') (k : zP c pc' ls (.long (x &&& y) :: r) σ Q) : zP c pc ls (.long y :: .long x :: r) σ Q := w_step hk rfl (fun ls' hr => ⟨ls', by simp only [zstp, zpst, zii, zi1, zll, zl1, zli, zdd, zd1, zgo, hk.2], hr⟩) k
theorem w_lor {x y : Int64} (hk : zat c pc (.lor) 1 t pc') (k : zP c pc' ls (.long (x ||| y) :: r) σ Q) : zP c pc ls (.long y :: .long x :: r) σ Q := w_step hk rfl (fun ls' hr => ⟨ls', by simp only [zstp, zpst, zii, zi1, zll, zl1, zli, zdd, zd1, zgo, hk.2], hr⟩) k
theorem w_ldiv {x y : Int64} (hk : zat c pc (.ldiv) 1 t pc') (hy : ¬ y = 0) (k : zP c pc' ls (.long (x / y) :: r) σ Q) : zP c pc ls (.long y :: .long x :: r) σ Q := w_step hk rfl (fun ls' hr => ⟨ls', by simp only [zstp, zpst, zii, zi1, zll, zl1, zli, zdd, zd1, zgo, hk.2, if_neg hy], hr⟩) k
theorem w_lrem {x y : Int64} (hk : zat c pc (.lrem) 1 t pc') (hy : ¬ y = 0) (k : zP c pc' ls (.long (x - x / y * y) :: r) σ Q) : zP c pc ls (.long y :: .long x :: r) σ Q := w_step hk rfl (fun ls' hr => ⟨ls', by simp only [zstp, zpst, zii, zi1, zll, zl1, zli, zdd, zd1, zgo, hk.2, if_neg hy], hr⟩) k
theorem w_lcmp {x y : Int64} (hk : zat c pc (.lcmp) 1 t pc') (k : zP c pc' ls (.int (lg_cmp x y) :: r) σ Q) : zP c pc ls (.long y :: .long x :: r) σ Q := w_step hk rfl (fun ls' hr => ⟨ls', by simp only [zstp, zpst, zii, zi1, zll, zl1, zli, zdd, zd1, zgo, hk.2], hr⟩) k
theorem w_lshl {x : Int64} {y : Int32} (hk : zat c pc (.lshl) 1 t pc') (k : zP c pc' ls (.long (x <<< (y.toInt64 &&& 63)) :: r) σ Q) : zP c pc ls (.int y :: .long x :: r) σ Q := w_step hk rfl (fun ls' hr => ⟨ls', by simp only [zstp, zpst, zii, zi1, zll, zl1, zli, zdd, zd1, zgo, hk.2], hr⟩) k
theorem w_lshr {x : Int64} {y : Int32} (hk : zat c pc (.lshr) 1 t pc') (k : zP c pc' ls (.long (x >>> (y.toInt64 &&& 63)) :: r) σ Q) : zP c pc ls (.int y :: .long x :: r) σ Q := w_step hk rfl (fun ls' hr => ⟨ls', by simp only [zstp, zpst, zii, zi1, zll, zl1, zli, zdd, zd1, zgo, hk.2], hr⟩) k
theorem w_lushr {x : Int64} {y : Int32} (hk : zat c pc (.lushr) 1 t pc') (k : zP c pc' ls (.long ((x.toUInt64 >>> (y.toInt64.toUInt64 &&& Int64.toUInt64 63)).toInt64) :: r) σ Q) : zP c pc ls (.int y :: .long x :: r) σ Q := w_step hk rfl (fun ls' hr => ⟨ls', by simp only [zstp, zpst, zii, zi1, zll, zl1, zli, zdd, zd1, zgo, hk.2], hr⟩) k
theorem w_ineg {x : Int32} (hk : zat c pc (.ineg) 1 t pc') (k : zP c pc' ls (.int (-x) :: r) σ Q) : zP c pc ls (.int x :: r) σ Q := w_step hk rfl (fun ls' hr => ⟨ls', by simp only [zstp, zpst, zii, zi1, zll, zl1, zli, zdd, zd1, zgo, hk.2], hr⟩) k
theorem w_i2l {x : Int32} (hk : zat c pc (.i2l) 1 t pc') (k : zP c pc' ls (.long x.toInt64 :: r) σ Q) : zP c pc ls (.int x :: r) σ Q := w_step hk rfl (fun ls' hr => ⟨ls', by simp only [zstp, zpst, zii, zi1, zll, zl1, zli, zdd, zd1, zgo, hk.2], hr⟩) k
theorem w_i2b {x : Int32} (hk : zat c pc (.i2b) 1 t pc') (k : zP c pc' ls (.int x.toInt8.toInt32 :: r) σ Q) : zP c pc ls (.int x :: r) σ Q := w_step hk rfl (fun ls' hr => ⟨ls', by simp only [zstp, zpst, zii, zi1, zll, zl1, zli, zdd, zd1, zgo, hk.2], hr⟩) k
theorem w_i2s {x : Int32} (hk : zat c pc (.i2s) 1 t pc') (k : zP c pc' ls (.int x.toInt16.toInt32 :: r) σ Q) : zP c pc ls (.int x :: r) σ Q := w_step hk rfl (fun ls' hr => ⟨ls', by simp only [zstp, zpst, zii, zi1, zll, zl1, zli, zdd, zd1, zgo, hk.2], hr⟩) k
theorem w_i2c {x : Int32} (hk : zat c pc (.i2c) 1 t pc') (k : zP c pc' ls (.int (x.toUInt32 % 65536).toInt32 :: r) σ Q) : zP c pc ls (.int x :: r) σ Q := w_step hk rfl (fun ls' hr => ⟨ls', by simp only [zstp, zpst, zii, zi1, zll, zl1, zli, zdd, zd1, zgo, hk.2], hr⟩) k
theorem w_i2d {x : Int32} (hk : zat c pc (.i2d) 1 t pc') (k : zP c pc' ls (.double (FP.i2d x) :: r) σ Q) : zP c pc ls (.int x :: r) σ Q := w_step hk rfl (fun ls' hr => ⟨ls', by simp only [zstp, zpst, zii, zi1, zll, zl1, zli, zdd, zd1, zgo, hk.2], hr⟩) k
theorem w_lneg {x : Int64} (hk : zat c pc (.lneg) 1 t pc') (k : zP c pc' ls (.long (-x) :: r) σ Q) : zP c pc ls (.long x :: r) σ Q := w_step hk rfl (fun ls' hr => ⟨ls', by simp only [zstp, zpst, zii, zi1, zll, zl1, zli, zdd, zd1, zgo, hk.2], hr⟩) k
theorem w_l2i {x : Int64} (hk : zat c pc (.l2i) 1 t pc') (k : zP c pc' ls (.int x.toInt32 :: r) σ Q) : zP c pc ls (.long x :: r) σ Q := w_step hk rfl (fun ls' hr => ⟨ls', by simp only [zstp, zpst, zii, zi1, zll, zl1, zli, zdd, zd1, zgo, hk.2], hr⟩) k
theorem w_l2f {x : Int64} (hk : zat c pc (.l2f) 1 t pc') (k : zP c pc' ls (.float (FP.l2f x) :: r) σ Q) : zP c pc ls (.long x :: r) σ Q := w_step hk rfl (fun ls' hr => ⟨ls', by simp only [zstp, zpst, zii, zi1, zll, zl1, zli, zdd, zd1, zgo, hk.2], hr⟩) k
theorem w_l2d {x : Int64} (hk : zat c pc (.l2d) 1 t pc') (k : zP c pc' ls (.double (FP.l2d x) :: r) σ Q) : zP c pc ls (.long x :: r) σ Q := w_step hk rfl (fun ls' hr => ⟨ls', by simp only [zstp, zpst, zii, zi1, zll, zl1, zli, zdd, zd1, zgo, hk.2], hr⟩) k
theorem w_dneg {x : UInt64} (hk : zat c pc (.dneg) 1 t pc') (k : zP c pc' ls (.double (FP.dneg x) :: r) σ Q) : zP c pc ls (.double x :: r) σ Q := w_step hk rfl (fun ls' hr => ⟨ls', by simp only [zstp, zpst, zii, zi1, zll, zl1, zli, zdd, zd1, zgo, hk.2, Option.map_some], hr⟩) k
theorem w_d2i {x : UInt64} (hk : zat c pc (.d2i) 1 t pc') (k : zP c pc' ls (.int (FP.d2i x) :: r) σ Q) : zP c pc ls (.double x :: r) σ Q := w_step hk rfl (fun ls' hr => ⟨ls', by simp only [zstp, zpst, zii, zi1, zll, zl1, zli, zdd, zd1, zgo, hk.2, Option.map_some], hr⟩) k
theorem w_d2l {x : UInt64} (hk : zat c pc (.d2l) 1 t pc') (k : zP c pc' ls (.long (FP.d2l x) :: r) σ Q) : zP c pc ls (.double x :: r) σ Q := w_step hk rfl (fun ls' hr => ⟨ls', by simp only [zstp, zpst, zii, zi1, zll, zl1, zli, zdd, zd1, zgo, hk.2, Option.map_some], hr⟩) k
theorem w_d2f {x : UInt64} {v : Value} (hk : zat c pc (.d2f) 1 t pc') (hv : zF (FP.d2f x) = some v) (k : zP c pc' ls (v :: r) σ Q) : zP c pc ls (.double x :: r) σ Q := w_step hk rfl (fun ls' hr => ⟨ls', by simp only [zstp, zpst, zii, zi1, zll, zl1, zli, zdd, zd1, zgo, hk.2, hv, Option.map_some], hr⟩) k
theorem w_f2d {x : UInt32} {v : Value} (hk : zat c pc (.f2d) 1 t pc') (hv : zD (FP.f2d x) = some v) (k : zP c pc' ls (v :: r) σ Q) : zP c pc ls (.float x :: r) σ Q := w_step hk rfl (fun ls' hr => ⟨ls', by simp only [zstp, zpst, zii, zi1, zll, zl1, zli, zdd, zd1, zgo, hk.2, hv, Option.map_some], hr⟩) k
theorem w_dadd {x y : UInt64} {v : Value} (hk : zat c pc (.dadd) 1 t pc') (hv : zD (FP.dadd x y) = some v) (k : zP c pc' ls (v :: r) σ Q) : zP c pc ls (.double y :: .double x :: r) σ Q := w_step hk rfl (fun ls' hr => ⟨ls', by simp only [zstp, zpst, zii, zi1, zll, zl1, zli, zdd, zd1, zgo, hk.2, hv, Option.map_some], hr⟩) k
theorem w_dmul {x y : UInt64} {v : Value} (hk : zat c pc (.dmul) 1 t pc') (hv : zD (FP.dmul x y) = some v) (k : zP c pc' ls (v :: r) σ Q) : zP c pc ls (.double y :: .double x :: r) σ Q := w_step hk rfl (fun ls' hr => ⟨ls', by simp only [zstp, zpst, zii, zi1, zll, zl1, zli, zdd, zd1, zgo, hk.2, hv, Option.map_some], hr⟩) k
theorem w_ddiv {x y : UInt64} {v : Value} (hk : zat c pc (.ddiv) 1 t pc') (hv : zD (FP.ddiv x y) = some v) (k : zP c pc' ls (v :: r) σ Q) : zP c pc ls (.double y :: .double x :: r) σ Q := w_step hk rfl (fun ls' hr => ⟨ls', by simp only [zstp, zpst, zii, zi1, zll, zl1, zli, zdd, zd1, zgo, hk.2, hv, Option.map_some], hr⟩) k
theorem w_fdiv {x y : UInt32} {v : Value} (hk : zat c pc (.fdiv) 1 t pc') (hv : zF (FP.fdiv x y) = some v) (k : zP c pc' ls (v :: r) σ Q) : zP c pc ls (.float y :: .float x :: r) σ Q := w_step hk rfl (fun ls' hr => ⟨ls', by simp only [zstp, zpst, zii, zi1, zll, zl1, zli, zdd, zd1, zgo, hk.2, hv, Option.map_some], hr⟩) k
theorem w_dcmp {x y : UInt64} {op : _} (hk : zat c pc (.dcmp op) 1 t pc') (k : zP c pc' ls (.int (Op.cmpValue (FP.dcmp x y) op) :: r) σ Q) : zP c pc ls (.double y :: .double x :: r) σ Q := w_step hk rfl (fun ls' hr => ⟨ls', by simp only [zstp, zpst, zdd, zgo, hk.2, Option.map_some], hr⟩) k
theorem w_fcmp {x y : UInt32} {op : _} (hk : zat c pc (.fcmp op) 1 t pc') (k : zP c pc' ls (.int (Op.cmpValue (FP.fcmp x y) op) :: r) σ Q) : zP c pc ls (.float y :: .float x :: r) σ Q := w_step hk rfl (fun ls' hr => ⟨ls', by simp only [zstp, zpst, zgo, hk.2], hr⟩) k
theorem w_lconst {n : _} (hk : zat c pc (.lconst n) 1 t pc') (k : zP c pc' ls (.long (Int64.ofNat (n : Nat)) :: st) σ Q) : zP c pc ls st σ Q := w_step hk rfl (fun ls' hr => ⟨ls', by simp only [zstp, zpst, zgo, hk.2], hr⟩) k
theorem w_dconst0 (hk : zat c pc (.dconst 0) 1 t pc') (k : zP c pc' ls (.double 0 :: st) σ Q) : zP c pc ls st σ Q := w_step hk rfl (fun ls' hr => ⟨ls', by simp only [zstp, zpst, zgo, hk.2], hr⟩) k
theorem w_dconst1 (hk : zat c pc (.dconst 1) 1 t pc') (k : zP c pc' ls (.double 0x3ff0000000000000 :: st) σ Q) : zP c pc ls st σ Q := w_step hk rfl (fun ls' hr => ⟨ls', by simp only [zstp, zpst, zgo, hk.2], hr⟩) k
theorem w_dupI {x : Int32} (hk : zat c pc .dup 1 t pc') (k : zP c pc' ls (.int x :: .int x :: r) σ Q) : zP c pc ls (.int x :: r) σ Q := w_step hk rfl (fun ls' hr => ⟨ls', by simp only [zstp, zpst, zgo, hk.2], hr⟩) k
theorem w_popI {x : Int32} (hk : zat c pc .pop 1 t pc') (k : zP c pc' ls r σ Q) : zP c pc ls (.int x :: r) σ Q := w_step hk rfl (fun ls' hr => ⟨ls', by simp only [zstp, zpst, zgo, hk.2], hr⟩) k
theorem w_dupR {x : Nat} (hk : zat c pc .dup 1 t pc') (k : zP c pc' ls (.ref x :: .ref x :: r) σ Q) : zP c pc ls (.ref x :: r) σ Q := w_step hk rfl (fun ls' hr => ⟨ls', by simp only [zstp, zpst, zgo, hk.2], hr⟩) k
theorem w_popR {x : Nat} (hk : zat c pc .pop 1 t pc') (k : zP c pc' ls r σ Q) : zP c pc ls (.ref x :: r) σ Q := w_step hk rfl (fun ls' hr => ⟨ls', by simp only [zstp, zpst, zgo, hk.2], hr⟩) k
theorem w_dup2L {x : Int64} (hk : zat c pc .dup2 1 t pc') (k : zP c pc' ls (.long x :: .long x :: r) σ Q) : zP c pc ls (.long x :: r) σ Q := w_step hk rfl (fun ls' hr => ⟨ls', by simp only [zstp, zpst, zgo, hk.2], hr⟩) k
theorem w_dup2 {y : Int32} {x : Nat} (hk : zat c pc .dup2 1 t pc') (k : zP c pc' ls (.int y :: .ref x :: .int y :: .ref x :: r) σ Q) : zP c pc ls (.int y :: .ref x :: r) σ Q := w_step hk rfl (fun ls' hr => ⟨ls', by simp only [zstp, zpst, zgo, hk.2], hr⟩) k
theorem w_goto {off : Int} {pcT : Nat} (hk : zat c pc (.goto off) 3 t pc') (ht : zjp pc off = pcT) (k : zP c pcT ls st σ Q) : zP c pc ls st σ Q := w_step hk rfl (fun ls' hr => ⟨ls', by simp only [zstp, zpst, zbr, zgo, ht, if_true], hr⟩) k
theorem w_br {st' : List Value} {b : Bool} {off : Int} {pcT : Nat} (hk : zat c pc i len t pc') (hcal : zcal i = none) (hp : zpst i st = none) (hb : zbr i st = some (b, off, st')) (ht : zjp pc off = pcT) (k1 : b = true → zP c pcT ls st' σ Q) (k2 : b = false → zP c pc' ls st' σ Q) : zP c pc ls st σ Q := by
  cases b with
  | true => exact w_step hk hcal (fun ls' hr => ⟨ls', by simp only [zstp, hp, hb, zgo, ht, if_true], hr⟩) (k1 rfl)
  | false => exact w_step hk hcal (fun ls' hr => ⟨ls', by simp only [zstp, hp, hb, zgo, hk.2, Bool.false_eq_true, if_false], hr⟩) (k2 rfl)
end ZWP
/-- ints, longs by whole numbers -/
def iZ (z : Int) : Int32 := Int32.ofInt z
def lZ (z : Int) : Int64 := Int64.ofInt z
theorem iZ_to {a : Int} (h : -2147483648 ≤ a ∧ a ≤ 2147483647) : (iZ a).toInt = a := Int32.toInt_ofInt_of_le (by omega) (by omega)
theorem lZ_to {a : Int} (h : -9223372036854775808 ≤ a ∧ a ≤ 9223372036854775807) : (lZ a).toInt = a := Int64.toInt_ofInt_of_le (by omega) (by omega)
theorem iZ_of (x : Int32) : x = iZ x.toInt := (Int32.ofInt_toInt x).symm
theorem lZ_of (x : Int64) : x = lZ x.toInt := (Int64.ofInt_toInt x).symm
theorem iZ_rng (x : Int32) : -2147483648 ≤ x.toInt ∧ x.toInt ≤ 2147483647 := ⟨x.le_toInt, by have := x.toInt_lt; omega⟩
theorem iZ_inj {a b : Int} (ha : -2147483648 ≤ a ∧ a ≤ 2147483647) (hb : -2147483648 ≤ b ∧ b ≤ 2147483647) : iZ a = iZ b ↔ a = b := ⟨fun h => by rw [← iZ_to ha, h, iZ_to hb], fun h => by rw [h]⟩
theorem iZ_lt {a b : Int} (ha : -2147483648 ≤ a ∧ a ≤ 2147483647) (hb : -2147483648 ≤ b ∧ b ≤ 2147483647) : iZ a < iZ b ↔ a < b := by rw [Int32.lt_iff_toInt_lt, iZ_to ha, iZ_to hb]
theorem iZ_le {a b : Int} (ha : -2147483648 ≤ a ∧ a ≤ 2147483647) (hb : -2147483648 ≤ b ∧ b ≤ 2147483647) : iZ a ≤ iZ b ↔ a ≤ b := by rw [Int32.le_iff_toInt_le, iZ_to ha, iZ_to hb]
theorem lZ_inj {a b : Int} (ha : -9223372036854775808 ≤ a ∧ a ≤ 9223372036854775807) (hb : -9223372036854775808 ≤ b ∧ b ≤ 9223372036854775807) : lZ a = lZ b ↔ a = b := ⟨fun h => by rw [← lZ_to ha, h, lZ_to hb], fun h => by rw [h]⟩
theorem lZ_lt {a b : Int} (ha : -9223372036854775808 ≤ a ∧ a ≤ 9223372036854775807) (hb : -9223372036854775808 ≤ b ∧ b ≤ 9223372036854775807) : lZ a < lZ b ↔ a < b := by rw [Int64.lt_iff_toInt_lt, lZ_to ha, lZ_to hb]
theorem lZ_le {a b : Int} (ha : -9223372036854775808 ≤ a ∧ a ≤ 9223372036854775807) (hb : -9223372036854775808 ≤ b ∧ b ≤ 9223372036854775807) : lZ a ≤ lZ b ↔ a ≤ b := by rw [Int64.le_iff_toInt_le, lZ_to ha, lZ_to hb]
theorem iZ_add (a b : Int) : iZ a + iZ b = iZ (a + b) := (Int32.ofInt_add a b).symm
theorem iZ_sub (a b : Int) : iZ a - iZ b = iZ (a - b) := (Int32.ofInt_sub a b).symm
theorem iZ_mul (a b : Int) : iZ a * iZ b = iZ (a * b) := (Int32.ofInt_mul a b).symm
theorem lZ_add (a b : Int) : lZ a + lZ b = lZ (a + b) := (Int64.ofInt_add a b).symm
theorem lZ_sub (a b : Int) : lZ a - lZ b = lZ (a - b) := (Int64.ofInt_sub a b).symm
theorem lZ_mul (a b : Int) : lZ a * lZ b = lZ (a * b) := (Int64.ofInt_mul a b).symm
theorem iZ_clamp {j : Nat} (h : j ≤ 2147483647) : (iZ j).toNatClampNeg = j := by
  show (iZ j).toInt.toNat = j
  rw [iZ_to (by omega)]; rfl
theorem iZ_l {a : Int} (h : -2147483648 ≤ a ∧ a ≤ 2147483647) : (iZ a).toInt64 = lZ a := by
  apply Int64.toInt_inj.mp
  rw [Int32.toInt_toInt64, iZ_to h, lZ_to (by omega)]
theorem lZ_i (a : Int) : (lZ a).toInt32 = iZ a := Int64.toInt32_ofInt
theorem iZ_div {a b : Int} (ha : 0 ≤ a ∧ a ≤ 2147483647) (hb : 0 < b ∧ b ≤ 2147483647) : iZ a / iZ b = iZ (a / b) := by
  have h1 : a / b ≤ a := Int.ediv_le_self _ ha.1
  have h2 : 0 ≤ a / b := Int.ediv_nonneg ha.1 (by omega)
  apply Int32.toInt_inj.mp
  rw [Int32.toInt_div_of_ne_right _ _ (fun h => by have := congrArg Int32.toInt h; rw [iZ_to (by omega)] at this; have e : (-1 : Int32).toInt = -1 := rfl; rw [e] at this; omega), iZ_to (by omega), iZ_to (by omega), iZ_to (by omega), Int.tdiv_eq_ediv_of_nonneg ha.1]
theorem iZ_mod {a b : Int} (ha : 0 ≤ a ∧ a ≤ 2147483647) (hb : 0 < b ∧ b ≤ 2147483647) : iZ a - iZ a / iZ b * iZ b = iZ (a % b) := by
  rw [iZ_div ha hb, iZ_mul, iZ_sub, Int.emod_def, Int.mul_comm]
/-- yes or no -/
def iB (p : Prop) [Decidable p] : Int32 := if p then iZ 1 else iZ 0
section ZWP
variable {c : zCode} {pc pc' len t : Nat} {ls : zLv} {st r : List Value} {σ : zSt} {Q : zSt → Option Value → Prop} {i : Instr}
theorem w_ifI_eq {x : Int32} {off : Int} {pcT : Nat} (hk : zat c pc (.ifCond .eq off) 3 t pc') (ht : zjp pc off = pcT) (k1 : x = 0 → zP c pcT ls r σ Q) (k2 : ¬ (x = 0) → zP c pc' ls r σ Q) : zP c pc ls (.int x :: r) σ Q := w_br hk rfl rfl rfl ht (fun h => k1 (of_decide_eq_true h)) (fun h => k2 ((of_decide_eq_false h)))
theorem w_icI_eq {x y : Int32} {off : Int} {pcT : Nat} (hk : zat c pc (.if_icmp .eq off) 3 t pc') (ht : zjp pc off = pcT) (k1 : x = y → zP c pcT ls r σ Q) (k2 : ¬ (x = y) → zP c pc' ls r σ Q) : zP c pc ls (.int y :: .int x :: r) σ Q := w_br hk rfl rfl rfl ht (fun h => k1 (of_decide_eq_true h)) (fun h => k2 ((of_decide_eq_false h)))
theorem w_ic_eq {a b : Int} {off : Int} {pcT : Nat} (hk : zat c pc (.if_icmp .eq off) 3 t pc') (ht : zjp pc off = pcT) (ha : -2147483648 ≤ a ∧ a ≤ 2147483647) (hb : -2147483648 ≤ b ∧ b ≤ 2147483647) (k1 : a = b → zP c pcT ls r σ Q) (k2 : ¬ a = b → zP c pc' ls r σ Q) : zP c pc ls (.int (iZ b) :: .int (iZ a) :: r) σ Q := w_icI_eq hk ht (fun h => k1 ((iZ_inj ha hb).mp h)) (fun h => k2 ((show ¬ (a = b) → ¬ a = b from id) (fun q => h ((iZ_inj ha hb).mpr q))))
theorem w_if_eq {a : Int} {off : Int} {pcT : Nat} (hk : zat c pc (.ifCond .eq off) 3 t pc') (ht : zjp pc off = pcT) (ha : -2147483648 ≤ a ∧ a ≤ 2147483647) (k1 : a = 0 → zP c pcT ls r σ Q) (k2 : ¬ a = 0 → zP c pc' ls r σ Q) : zP c pc ls (.int (iZ a) :: r) σ Q := by
  have hb : -2147483648 ≤ (0 : Int) ∧ (0 : Int) ≤ 2147483647 := by decide
  exact w_ifI_eq hk ht (fun h => k1 ((show _ ↔ a = 0 from iZ_inj ha hb).mp h)) (fun h => k2 ((show ¬ (a = 0) → ¬ a = 0 from id) (fun q => h ((show _ ↔ a = 0 from iZ_inj ha hb).mpr q))))
theorem w_icT_eq {a b : Int} {off : Int} {pcT : Nat} (hk : zat c pc (.if_icmp .eq off) 3 t pc') (ht : zjp pc off = pcT) (hab : (-2147483648 ≤ a ∧ a ≤ 2147483647) ∧ (-2147483648 ≤ b ∧ b ≤ 2147483647) ∧ a = b) (k1 : zP c pcT ls r σ Q) : zP c pc ls (.int (iZ b) :: .int (iZ a) :: r) σ Q := w_ic_eq hk ht hab.1 hab.2.1 (fun _ => k1) (fun h => by have := hab.2.2; exact absurd this h)
theorem w_icF_eq {a b : Int} {off : Int} (hk : zat c pc (.if_icmp .eq off) 3 t pc') (hab : (-2147483648 ≤ a ∧ a ≤ 2147483647) ∧ (-2147483648 ≤ b ∧ b ≤ 2147483647) ∧ ¬ a = b) (k1 : zP c pc' ls r σ Q) : zP c pc ls (.int (iZ b) :: .int (iZ a) :: r) σ Q := w_ic_eq hk rfl hab.1 hab.2.1 (fun h => by have := hab.2.2; exact absurd h this) (fun _ => k1)
theorem w_ifT_eq {a : Int} {off : Int} {pcT : Nat} (hk : zat c pc (.ifCond .eq off) 3 t pc') (ht : zjp pc off = pcT) (hab : (-2147483648 ≤ a ∧ a ≤ 2147483647) ∧ a = 0) (k1 : zP c pcT ls r σ Q) : zP c pc ls (.int (iZ a) :: r) σ Q := w_if_eq hk ht hab.1 (fun _ => k1) (fun h => by have := hab.2; exact absurd this h)
theorem w_ifF_eq {a : Int} {off : Int} (hk : zat c pc (.ifCond .eq off) 3 t pc') (hab : (-2147483648 ≤ a ∧ a ≤ 2147483647) ∧ ¬ a = 0) (k1 : zP c pc' ls r σ Q) : zP c pc ls (.int (iZ a) :: r) σ Q := w_if_eq hk rfl hab.1 (fun h => by have := hab.2; exact absurd h this) (fun _ => k1)
theorem zc_eq (x y : Int64) : (lg_cmp x y = 0) ↔ x = y := by
  unfold lg_cmp
  simp only [gt_iff_lt, Int64.lt_iff_toInt_lt, Int64.le_iff_toInt_le, ← Int64.toInt_inj]
  repeat' split
  all_goals (constructor <;> intro hh <;> first | omega | decide | exact absurd hh (by decide))
theorem w_ifc_eq {x y : Int64} {off : Int} {pcT : Nat} (hk : zat c pc (.ifCond .eq off) 3 t pc') (ht : zjp pc off = pcT) (k1 : x = y → zP c pcT ls r σ Q) (k2 : ¬ x = y → zP c pc' ls r σ Q) : zP c pc ls (.int (lg_cmp x y) :: r) σ Q := w_ifI_eq hk ht (fun h => k1 ((zc_eq x y).mp h)) (fun h => k2 ((show ¬ (x = y) → ¬ x = y from id) (fun q => h ((zc_eq x y).mpr q))))
theorem w_ify_eq {a b : Int} {off : Int} {pcT : Nat} (hk : zat c pc (.ifCond .eq off) 3 t pc') (ht : zjp pc off = pcT) (ha : -9223372036854775808 ≤ a ∧ a ≤ 9223372036854775807) (hb : -9223372036854775808 ≤ b ∧ b ≤ 9223372036854775807) (k1 : a = b → zP c pcT ls r σ Q) (k2 : ¬ a = b → zP c pc' ls r σ Q) : zP c pc ls (.int (lg_cmp (lZ a) (lZ b)) :: r) σ Q := w_ifI_eq hk ht (fun h => k1 ((lZ_inj ha hb).mp ((zc_eq _ _).mp h))) (fun h => k2 ((show ¬ (a = b) → ¬ a = b from id) (fun q => h ((zc_eq _ _).mpr ((lZ_inj ha hb).mpr q)))))
theorem w_ifI_ne {x : Int32} {off : Int} {pcT : Nat} (hk : zat c pc (.ifCond .ne off) 3 t pc') (ht : zjp pc off = pcT) (k1 : ¬ x = 0 → zP c pcT ls r σ Q) (k2 : x = 0 → zP c pc' ls r σ Q) : zP c pc ls (.int x :: r) σ Q := w_br hk rfl rfl rfl ht (fun h => k1 (of_decide_eq_true h)) (fun h => k2 (Classical.not_not.mp (of_decide_eq_false h)))
theorem w_icI_ne {x y : Int32} {off : Int} {pcT : Nat} (hk : zat c pc (.if_icmp .ne off) 3 t pc') (ht : zjp pc off = pcT) (k1 : ¬ x = y → zP c pcT ls r σ Q) (k2 : x = y → zP c pc' ls r σ Q) : zP c pc ls (.int y :: .int x :: r) σ Q := w_br hk rfl rfl rfl ht (fun h => k1 (of_decide_eq_true h)) (fun h => k2 (Classical.not_not.mp (of_decide_eq_false h)))
theorem w_ic_ne {a b : Int} {off : Int} {pcT : Nat} (hk : zat c pc (.if_icmp .ne off) 3 t pc') (ht : zjp pc off = pcT) (ha : -2147483648 ≤ a ∧ a ≤ 2147483647) (hb : -2147483648 ≤ b ∧ b ≤ 2147483647) (k1 : ¬ a = b → zP c pcT ls r σ Q) (k2 : a = b → zP c pc' ls r σ Q) : zP c pc ls (.int (iZ b) :: .int (iZ a) :: r) σ Q := w_icI_ne hk ht (fun h => k1 ((not_congr (iZ_inj ha hb)).mp h)) (fun h => k2 ((iZ_inj ha hb).mp h))
theorem w_if_ne {a : Int} {off : Int} {pcT : Nat} (hk : zat c pc (.ifCond .ne off) 3 t pc') (ht : zjp pc off = pcT) (ha : -2147483648 ≤ a ∧ a ≤ 2147483647) (k1 : ¬ a = 0 → zP c pcT ls r σ Q) (k2 : a = 0 → zP c pc' ls r σ Q) : zP c pc ls (.int (iZ a) :: r) σ Q := by
  have hb : -2147483648 ≤ (0 : Int) ∧ (0 : Int) ≤ 2147483647 := by decide
  exact w_ifI_ne hk ht (fun h => k1 ((show _ ↔ ¬ a = 0 from not_congr (iZ_inj ha hb)).mp h)) (fun h => k2 ((show _ ↔ a = 0 from iZ_inj ha hb).mp h))
theorem w_icT_ne {a b : Int} {off : Int} {pcT : Nat} (hk : zat c pc (.if_icmp .ne off) 3 t pc') (ht : zjp pc off = pcT) (hab : (-2147483648 ≤ a ∧ a ≤ 2147483647) ∧ (-2147483648 ≤ b ∧ b ≤ 2147483647) ∧ ¬ a = b) (k1 : zP c pcT ls r σ Q) : zP c pc ls (.int (iZ b) :: .int (iZ a) :: r) σ Q := w_ic_ne hk ht hab.1 hab.2.1 (fun _ => k1) (fun h => by have := hab.2.2; exact absurd h this)
theorem w_icF_ne {a b : Int} {off : Int} (hk : zat c pc (.if_icmp .ne off) 3 t pc') (hab : (-2147483648 ≤ a ∧ a ≤ 2147483647) ∧ (-2147483648 ≤ b ∧ b ≤ 2147483647) ∧ a = b) (k1 : zP c pc' ls r σ Q) : zP c pc ls (.int (iZ b) :: .int (iZ a) :: r) σ Q := w_ic_ne hk rfl hab.1 hab.2.1 (fun h => by have := hab.2.2; exact absurd this h) (fun _ => k1)
theorem w_ifT_ne {a : Int} {off : Int} {pcT : Nat} (hk : zat c pc (.ifCond .ne off) 3 t pc') (ht : zjp pc off = pcT) (hab : (-2147483648 ≤ a ∧ a ≤ 2147483647) ∧ ¬ a = 0) (k1 : zP c pcT ls r σ Q) : zP c pc ls (.int (iZ a) :: r) σ Q := w_if_ne hk ht hab.1 (fun _ => k1) (fun h => by have := hab.2; exact absurd h this)
theorem w_ifF_ne {a : Int} {off : Int} (hk : zat c pc (.ifCond .ne off) 3 t pc') (hab : (-2147483648 ≤ a ∧ a ≤ 2147483647) ∧ a = 0) (k1 : zP c pc' ls r σ Q) : zP c pc ls (.int (iZ a) :: r) σ Q := w_if_ne hk rfl hab.1 (fun h => by have := hab.2; exact absurd this h) (fun _ => k1)
theorem zc_ne (x y : Int64) : (¬ lg_cmp x y = 0) ↔ ¬ x = y := by
  unfold lg_cmp
  simp only [gt_iff_lt, Int64.lt_iff_toInt_lt, Int64.le_iff_toInt_le, ← Int64.toInt_inj]
  repeat' split
  all_goals (constructor <;> intro hh <;> first | omega | decide | exact absurd hh (by decide))
theorem w_ifc_ne {x y : Int64} {off : Int} {pcT : Nat} (hk : zat c pc (.ifCond .ne off) 3 t pc') (ht : zjp pc off = pcT) (k1 : ¬ x = y → zP c pcT ls r σ Q) (k2 : x = y → zP c pc' ls r σ Q) : zP c pc ls (.int (lg_cmp x y) :: r) σ Q := w_ifI_ne hk ht (fun h => k1 ((zc_ne x y).mp h)) (fun h => k2 ((zc_eq x y).mp h))
theorem w_ify_ne {a b : Int} {off : Int} {pcT : Nat} (hk : zat c pc (.ifCond .ne off) 3 t pc') (ht : zjp pc off = pcT) (ha : -9223372036854775808 ≤ a ∧ a ≤ 9223372036854775807) (hb : -9223372036854775808 ≤ b ∧ b ≤ 9223372036854775807) (k1 : ¬ a = b → zP c pcT ls r σ Q) (k2 : a = b → zP c pc' ls r σ Q) : zP c pc ls (.int (lg_cmp (lZ a) (lZ b)) :: r) σ Q := w_ifI_ne hk ht (fun h => k1 ((not_congr (lZ_inj ha hb)).mp ((zc_ne _ _).mp h))) (fun h => k2 ((lZ_inj ha hb).mp ((zc_eq _ _).mp h)))
theorem w_ifI_lt {x : Int32} {off : Int} {pcT : Nat} (hk : zat c pc (.ifCond .lt off) 3 t pc') (ht : zjp pc off = pcT) (k1 : x < 0 → zP c pcT ls r σ Q) (k2 : ¬ (x < 0) → zP c pc' ls r σ Q) : zP c pc ls (.int x :: r) σ Q := w_br hk rfl rfl rfl ht (fun h => k1 (of_decide_eq_true h)) (fun h => k2 ((of_decide_eq_false h)))
theorem w_icI_lt {x y : Int32} {off : Int} {pcT : Nat} (hk : zat c pc (.if_icmp .lt off) 3 t pc') (ht : zjp pc off = pcT) (k1 : x < y → zP c pcT ls r σ Q) (k2 : ¬ (x < y) → zP c pc' ls r σ Q) : zP c pc ls (.int y :: .int x :: r) σ Q := w_br hk rfl rfl rfl ht (fun h => k1 (of_decide_eq_true h)) (fun h => k2 ((of_decide_eq_false h)))
theorem w_ic_lt {a b : Int} {off : Int} {pcT : Nat} (hk : zat c pc (.if_icmp .lt off) 3 t pc') (ht : zjp pc off = pcT) (ha : -2147483648 ≤ a ∧ a ≤ 2147483647) (hb : -2147483648 ≤ b ∧ b ≤ 2147483647) (k1 : a < b → zP c pcT ls r σ Q) (k2 : b ≤ a → zP c pc' ls r σ Q) : zP c pc ls (.int (iZ b) :: .int (iZ a) :: r) σ Q := w_icI_lt hk ht (fun h => k1 ((iZ_lt ha hb).mp h)) (fun h => k2 ((show ¬ (a < b) → b ≤ a from fun q => by omega) (fun q => h ((iZ_lt ha hb).mpr q))))
theorem w_if_lt {a : Int} {off : Int} {pcT : Nat} (hk : zat c pc (.ifCond .lt off) 3 t pc') (ht : zjp pc off = pcT) (ha : -2147483648 ≤ a ∧ a ≤ 2147483647) (k1 : a < 0 → zP c pcT ls r σ Q) (k2 : 0 ≤ a → zP c pc' ls r σ Q) : zP c pc ls (.int (iZ a) :: r) σ Q := by
  have hb : -2147483648 ≤ (0 : Int) ∧ (0 : Int) ≤ 2147483647 := by decide
  exact w_ifI_lt hk ht (fun h => k1 ((show _ ↔ a < 0 from iZ_lt ha hb).mp h)) (fun h => k2 ((show ¬ (a < 0) → 0 ≤ a from fun q => by omega) (fun q => h ((show _ ↔ a < 0 from iZ_lt ha hb).mpr q))))
theorem w_icT_lt {a b : Int} {off : Int} {pcT : Nat} (hk : zat c pc (.if_icmp .lt off) 3 t pc') (ht : zjp pc off = pcT) (hab : (-2147483648 ≤ a ∧ a ≤ 2147483647) ∧ (-2147483648 ≤ b ∧ b ≤ 2147483647) ∧ a < b) (k1 : zP c pcT ls r σ Q) : zP c pc ls (.int (iZ b) :: .int (iZ a) :: r) σ Q := w_ic_lt hk ht hab.1 hab.2.1 (fun _ => k1) (fun h => by have := hab.2.2; omega)
theorem w_icF_lt {a b : Int} {off : Int} (hk : zat c pc (.if_icmp .lt off) 3 t pc') (hab : (-2147483648 ≤ a ∧ a ≤ 2147483647) ∧ (-2147483648 ≤ b ∧ b ≤ 2147483647) ∧ b ≤ a) (k1 : zP c pc' ls r σ Q) : zP c pc ls (.int (iZ b) :: .int (iZ a) :: r) σ Q := w_ic_lt hk rfl hab.1 hab.2.1 (fun h => by have := hab.2.2; omega) (fun _ => k1)
theorem w_ifT_lt {a : Int} {off : Int} {pcT : Nat} (hk : zat c pc (.ifCond .lt off) 3 t pc') (ht : zjp pc off = pcT) (hab : (-2147483648 ≤ a ∧ a ≤ 2147483647) ∧ a < 0) (k1 : zP c pcT ls r σ Q) : zP c pc ls (.int (iZ a) :: r) σ Q := w_if_lt hk ht hab.1 (fun _ => k1) (fun h => by have := hab.2; omega)
theorem w_ifF_lt {a : Int} {off : Int} (hk : zat c pc (.ifCond .lt off) 3 t pc') (hab : (-2147483648 ≤ a ∧ a ≤ 2147483647) ∧ 0 ≤ a) (k1 : zP c pc' ls r σ Q) : zP c pc ls (.int (iZ a) :: r) σ Q := w_if_lt hk rfl hab.1 (fun h => by have := hab.2; omega) (fun _ => k1)
theorem zc_lt (x y : Int64) : (lg_cmp x y < 0) ↔ x < y := by
  unfold lg_cmp
  simp only [gt_iff_lt, Int64.lt_iff_toInt_lt, Int64.le_iff_toInt_le, ← Int64.toInt_inj]
  repeat' split
  all_goals (constructor <;> intro hh <;> first | omega | decide | exact absurd hh (by decide))
theorem w_ifc_lt {x y : Int64} {off : Int} {pcT : Nat} (hk : zat c pc (.ifCond .lt off) 3 t pc') (ht : zjp pc off = pcT) (k1 : x < y → zP c pcT ls r σ Q) (k2 : y ≤ x → zP c pc' ls r σ Q) : zP c pc ls (.int (lg_cmp x y) :: r) σ Q := w_ifI_lt hk ht (fun h => k1 ((zc_lt x y).mp h)) (fun h => k2 ((show ¬ (x < y) → y ≤ x from (fun q => Int64.not_lt.mp q)) (fun q => h ((zc_lt x y).mpr q))))
theorem w_ify_lt {a b : Int} {off : Int} {pcT : Nat} (hk : zat c pc (.ifCond .lt off) 3 t pc') (ht : zjp pc off = pcT) (ha : -9223372036854775808 ≤ a ∧ a ≤ 9223372036854775807) (hb : -9223372036854775808 ≤ b ∧ b ≤ 9223372036854775807) (k1 : a < b → zP c pcT ls r σ Q) (k2 : b ≤ a → zP c pc' ls r σ Q) : zP c pc ls (.int (lg_cmp (lZ a) (lZ b)) :: r) σ Q := w_ifI_lt hk ht (fun h => k1 ((lZ_lt ha hb).mp ((zc_lt _ _).mp h))) (fun h => k2 ((show ¬ (a < b) → b ≤ a from fun q => by omega) (fun q => h ((zc_lt _ _).mpr ((lZ_lt ha hb).mpr q)))))
theorem w_ifI_ge {x : Int32} {off : Int} {pcT : Nat} (hk : zat c pc (.ifCond .ge off) 3 t pc') (ht : zjp pc off = pcT) (k1 : 0 ≤ x → zP c pcT ls r σ Q) (k2 : ¬ (0 ≤ x) → zP c pc' ls r σ Q) : zP c pc ls (.int x :: r) σ Q := w_br hk rfl rfl rfl ht (fun h => k1 (of_decide_eq_true h)) (fun h => k2 ((of_decide_eq_false h)))
theorem w_icI_ge {x y : Int32} {off : Int} {pcT : Nat} (hk : zat c pc (.if_icmp .ge off) 3 t pc') (ht : zjp pc off = pcT) (k1 : y ≤ x → zP c pcT ls r σ Q) (k2 : ¬ (y ≤ x) → zP c pc' ls r σ Q) : zP c pc ls (.int y :: .int x :: r) σ Q := w_br hk rfl rfl rfl ht (fun h => k1 (of_decide_eq_true h)) (fun h => k2 ((of_decide_eq_false h)))
theorem w_ic_ge {a b : Int} {off : Int} {pcT : Nat} (hk : zat c pc (.if_icmp .ge off) 3 t pc') (ht : zjp pc off = pcT) (ha : -2147483648 ≤ a ∧ a ≤ 2147483647) (hb : -2147483648 ≤ b ∧ b ≤ 2147483647) (k1 : b ≤ a → zP c pcT ls r σ Q) (k2 : a < b → zP c pc' ls r σ Q) : zP c pc ls (.int (iZ b) :: .int (iZ a) :: r) σ Q := w_icI_ge hk ht (fun h => k1 ((iZ_le hb ha).mp h)) (fun h => k2 ((show ¬ (b ≤ a) → a < b from fun q => by omega) (fun q => h ((iZ_le hb ha).mpr q))))
theorem w_if_ge {a : Int} {off : Int} {pcT : Nat} (hk : zat c pc (.ifCond .ge off) 3 t pc') (ht : zjp pc off = pcT) (ha : -2147483648 ≤ a ∧ a ≤ 2147483647) (k1 : 0 ≤ a → zP c pcT ls r σ Q) (k2 : a < 0 → zP c pc' ls r σ Q) : zP c pc ls (.int (iZ a) :: r) σ Q := by
  have hb : -2147483648 ≤ (0 : Int) ∧ (0 : Int) ≤ 2147483647 := by decide
  exact w_ifI_ge hk ht (fun h => k1 ((show _ ↔ 0 ≤ a from iZ_le hb ha).mp h)) (fun h => k2 ((show ¬ (0 ≤ a) → a < 0 from fun q => by omega) (fun q => h ((show _ ↔ 0 ≤ a from iZ_le hb ha).mpr q))))
theorem w_icT_ge {a b : Int} {off : Int} {pcT : Nat} (hk : zat c pc (.if_icmp .ge off) 3 t pc') (ht : zjp pc off = pcT) (hab : (-2147483648 ≤ a ∧ a ≤ 2147483647) ∧ (-2147483648 ≤ b ∧ b ≤ 2147483647) ∧ b ≤ a) (k1 : zP c pcT ls r σ Q) : zP c pc ls (.int (iZ b) :: .int (iZ a) :: r) σ Q := w_ic_ge hk ht hab.1 hab.2.1 (fun _ => k1) (fun h => by have := hab.2.2; omega)
theorem w_icF_ge {a b : Int} {off : Int} (hk : zat c pc (.if_icmp .ge off) 3 t pc') (hab : (-2147483648 ≤ a ∧ a ≤ 2147483647) ∧ (-2147483648 ≤ b ∧ b ≤ 2147483647) ∧ a < b) (k1 : zP c pc' ls r σ Q) : zP c pc ls (.int (iZ b) :: .int (iZ a) :: r) σ Q := w_ic_ge hk rfl hab.1 hab.2.1 (fun h => by have := hab.2.2; omega) (fun _ => k1)
theorem w_ifT_ge {a : Int} {off : Int} {pcT : Nat} (hk : zat c pc (.ifCond .ge off) 3 t pc') (ht : zjp pc off = pcT) (hab : (-2147483648 ≤ a ∧ a ≤ 2147483647) ∧ 0 ≤ a) (k1 : zP c pcT ls r σ Q) : zP c pc ls (.int (iZ a) :: r) σ Q := w_if_ge hk ht hab.1 (fun _ => k1) (fun h => by have := hab.2; omega)
theorem w_ifF_ge {a : Int} {off : Int} (hk : zat c pc (.ifCond .ge off) 3 t pc') (hab : (-2147483648 ≤ a ∧ a ≤ 2147483647) ∧ a < 0) (k1 : zP c pc' ls r σ Q) : zP c pc ls (.int (iZ a) :: r) σ Q := w_if_ge hk rfl hab.1 (fun h => by have := hab.2; omega) (fun _ => k1)
theorem zc_ge (x y : Int64) : (0 ≤ lg_cmp x y) ↔ y ≤ x := by
  unfold lg_cmp
  simp only [gt_iff_lt, Int64.lt_iff_toInt_lt, Int64.le_iff_toInt_le, ← Int64.toInt_inj]
  repeat' split
  all_goals (constructor <;> intro hh <;> first | omega | decide | exact absurd hh (by decide))
theorem w_ifc_ge {x y : Int64} {off : Int} {pcT : Nat} (hk : zat c pc (.ifCond .ge off) 3 t pc') (ht : zjp pc off = pcT) (k1 : y ≤ x → zP c pcT ls r σ Q) (k2 : x < y → zP c pc' ls r σ Q) : zP c pc ls (.int (lg_cmp x y) :: r) σ Q := w_ifI_ge hk ht (fun h => k1 ((zc_ge x y).mp h)) (fun h => k2 ((show ¬ (y ≤ x) → x < y from (fun q => Int64.not_le.mp q)) (fun q => h ((zc_ge x y).mpr q))))
theorem w_ify_ge {a b : Int} {off : Int} {pcT : Nat} (hk : zat c pc (.ifCond .ge off) 3 t pc') (ht : zjp pc off = pcT) (ha : -9223372036854775808 ≤ a ∧ a ≤ 9223372036854775807) (hb : -9223372036854775808 ≤ b ∧ b ≤ 9223372036854775807) (k1 : b ≤ a → zP c pcT ls r σ Q) (k2 : a < b → zP c pc' ls r σ Q) : zP c pc ls (.int (lg_cmp (lZ a) (lZ b)) :: r) σ Q := w_ifI_ge hk ht (fun h => k1 ((lZ_le hb ha).mp ((zc_ge _ _).mp h))) (fun h => k2 ((show ¬ (b ≤ a) → a < b from fun q => by omega) (fun q => h ((zc_ge _ _).mpr ((lZ_le hb ha).mpr q)))))
theorem w_ifI_gt {x : Int32} {off : Int} {pcT : Nat} (hk : zat c pc (.ifCond .gt off) 3 t pc') (ht : zjp pc off = pcT) (k1 : 0 < x → zP c pcT ls r σ Q) (k2 : ¬ (0 < x) → zP c pc' ls r σ Q) : zP c pc ls (.int x :: r) σ Q := w_br hk rfl rfl rfl ht (fun h => k1 (of_decide_eq_true h)) (fun h => k2 ((of_decide_eq_false h)))
theorem w_icI_gt {x y : Int32} {off : Int} {pcT : Nat} (hk : zat c pc (.if_icmp .gt off) 3 t pc') (ht : zjp pc off = pcT) (k1 : y < x → zP c pcT ls r σ Q) (k2 : ¬ (y < x) → zP c pc' ls r σ Q) : zP c pc ls (.int y :: .int x :: r) σ Q := w_br hk rfl rfl rfl ht (fun h => k1 (of_decide_eq_true h)) (fun h => k2 ((of_decide_eq_false h)))
theorem w_ic_gt {a b : Int} {off : Int} {pcT : Nat} (hk : zat c pc (.if_icmp .gt off) 3 t pc') (ht : zjp pc off = pcT) (ha : -2147483648 ≤ a ∧ a ≤ 2147483647) (hb : -2147483648 ≤ b ∧ b ≤ 2147483647) (k1 : b < a → zP c pcT ls r σ Q) (k2 : a ≤ b → zP c pc' ls r σ Q) : zP c pc ls (.int (iZ b) :: .int (iZ a) :: r) σ Q := w_icI_gt hk ht (fun h => k1 ((iZ_lt hb ha).mp h)) (fun h => k2 ((show ¬ (b < a) → a ≤ b from fun q => by omega) (fun q => h ((iZ_lt hb ha).mpr q))))
theorem w_if_gt {a : Int} {off : Int} {pcT : Nat} (hk : zat c pc (.ifCond .gt off) 3 t pc') (ht : zjp pc off = pcT) (ha : -2147483648 ≤ a ∧ a ≤ 2147483647) (k1 : 0 < a → zP c pcT ls r σ Q) (k2 : a ≤ 0 → zP c pc' ls r σ Q) : zP c pc ls (.int (iZ a) :: r) σ Q := by
  have hb : -2147483648 ≤ (0 : Int) ∧ (0 : Int) ≤ 2147483647 := by decide
  exact w_ifI_gt hk ht (fun h => k1 ((show _ ↔ 0 < a from iZ_lt hb ha).mp h)) (fun h => k2 ((show ¬ (0 < a) → a ≤ 0 from fun q => by omega) (fun q => h ((show _ ↔ 0 < a from iZ_lt hb ha).mpr q))))
theorem w_icT_gt {a b : Int} {off : Int} {pcT : Nat} (hk : zat c pc (.if_icmp .gt off) 3 t pc') (ht : zjp pc off = pcT) (hab : (-2147483648 ≤ a ∧ a ≤ 2147483647) ∧ (-2147483648 ≤ b ∧ b ≤ 2147483647) ∧ b < a) (k1 : zP c pcT ls r σ Q) : zP c pc ls (.int (iZ b) :: .int (iZ a) :: r) σ Q := w_ic_gt hk ht hab.1 hab.2.1 (fun _ => k1) (fun h => by have := hab.2.2; omega)
theorem w_icF_gt {a b : Int} {off : Int} (hk : zat c pc (.if_icmp .gt off) 3 t pc') (hab : (-2147483648 ≤ a ∧ a ≤ 2147483647) ∧ (-2147483648 ≤ b ∧ b ≤ 2147483647) ∧ a ≤ b) (k1 : zP c pc' ls r σ Q) : zP c pc ls (.int (iZ b) :: .int (iZ a) :: r) σ Q := w_ic_gt hk rfl hab.1 hab.2.1 (fun h => by have := hab.2.2; omega) (fun _ => k1)
theorem w_ifT_gt {a : Int} {off : Int} {pcT : Nat} (hk : zat c pc (.ifCond .gt off) 3 t pc') (ht : zjp pc off = pcT) (hab : (-2147483648 ≤ a ∧ a ≤ 2147483647) ∧ 0 < a) (k1 : zP c pcT ls r σ Q) : zP c pc ls (.int (iZ a) :: r) σ Q := w_if_gt hk ht hab.1 (fun _ => k1) (fun h => by have := hab.2; omega)
theorem w_ifF_gt {a : Int} {off : Int} (hk : zat c pc (.ifCond .gt off) 3 t pc') (hab : (-2147483648 ≤ a ∧ a ≤ 2147483647) ∧ a ≤ 0) (k1 : zP c pc' ls r σ Q) : zP c pc ls (.int (iZ a) :: r) σ Q := w_if_gt hk rfl hab.1 (fun h => by have := hab.2; omega) (fun _ => k1)
theorem zc_gt (x y : Int64) : (0 < lg_cmp x y) ↔ y < x := by
  unfold lg_cmp
  simp only [gt_iff_lt, Int64.lt_iff_toInt_lt, Int64.le_iff_toInt_le, ← Int64.toInt_inj]
  repeat' split
  all_goals (constructor <;> intro hh <;> first | omega | decide | exact absurd hh (by decide))
theorem w_ifc_gt {x y : Int64} {off : Int} {pcT : Nat} (hk : zat c pc (.ifCond .gt off) 3 t pc') (ht : zjp pc off = pcT) (k1 : y < x → zP c pcT ls r σ Q) (k2 : x ≤ y → zP c pc' ls r σ Q) : zP c pc ls (.int (lg_cmp x y) :: r) σ Q := w_ifI_gt hk ht (fun h => k1 ((zc_gt x y).mp h)) (fun h => k2 ((show ¬ (y < x) → x ≤ y from (fun q => Int64.not_lt.mp q)) (fun q => h ((zc_gt x y).mpr q))))
theorem w_ify_gt {a b : Int} {off : Int} {pcT : Nat} (hk : zat c pc (.ifCond .gt off) 3 t pc') (ht : zjp pc off = pcT) (ha : -9223372036854775808 ≤ a ∧ a ≤ 9223372036854775807) (hb : -9223372036854775808 ≤ b ∧ b ≤ 9223372036854775807) (k1 : b < a → zP c pcT ls r σ Q) (k2 : a ≤ b → zP c pc' ls r σ Q) : zP c pc ls (.int (lg_cmp (lZ a) (lZ b)) :: r) σ Q := w_ifI_gt hk ht (fun h => k1 ((lZ_lt hb ha).mp ((zc_gt _ _).mp h))) (fun h => k2 ((show ¬ (b < a) → a ≤ b from fun q => by omega) (fun q => h ((zc_gt _ _).mpr ((lZ_lt hb ha).mpr q)))))
theorem w_ifI_le {x : Int32} {off : Int} {pcT : Nat} (hk : zat c pc (.ifCond .le off) 3 t pc') (ht : zjp pc off = pcT) (k1 : x ≤ 0 → zP c pcT ls r σ Q) (k2 : ¬ (x ≤ 0) → zP c pc' ls r σ Q) : zP c pc ls (.int x :: r) σ Q := w_br hk rfl rfl rfl ht (fun h => k1 (of_decide_eq_true h)) (fun h => k2 ((of_decide_eq_false h)))
theorem w_icI_le {x y : Int32} {off : Int} {pcT : Nat} (hk : zat c pc (.if_icmp .le off) 3 t pc') (ht : zjp pc off = pcT) (k1 : x ≤ y → zP c pcT ls r σ Q) (k2 : ¬ (x ≤ y) → zP c pc' ls r σ Q) : zP c pc ls (.int y :: .int x :: r) σ Q := w_br hk rfl rfl rfl ht (fun h => k1 (of_decide_eq_true h)) (fun h => k2 ((of_decide_eq_false h)))
theorem w_ic_le {a b : Int} {off : Int} {pcT : Nat} (hk : zat c pc (.if_icmp .le off) 3 t pc') (ht : zjp pc off = pcT) (ha : -2147483648 ≤ a ∧ a ≤ 2147483647) (hb : -2147483648 ≤ b ∧ b ≤ 2147483647) (k1 : a ≤ b → zP c pcT ls r σ Q) (k2 : b < a → zP c pc' ls r σ Q) : zP c pc ls (.int (iZ b) :: .int (iZ a) :: r) σ Q := w_icI_le hk ht (fun h => k1 ((iZ_le ha hb).mp h)) (fun h => k2 ((show ¬ (a ≤ b) → b < a from fun q => by omega) (fun q => h ((iZ_le ha hb).mpr q))))
theorem w_if_le {a : Int} {off : Int} {pcT : Nat} (hk : zat c pc (.ifCond .le off) 3 t pc') (ht : zjp pc off = pcT) (ha : -2147483648 ≤ a ∧ a ≤ 2147483647) (k1 : a ≤ 0 → zP c pcT ls r σ Q) (k2 : 0 < a → zP c pc' ls r σ Q) : zP c pc ls (.int (iZ a) :: r) σ Q := by
  have hb : -2147483648 ≤ (0 : Int) ∧ (0 : Int) ≤ 2147483647 := by decide
  exact w_ifI_le hk ht (fun h => k1 ((show _ ↔ a ≤ 0 from iZ_le ha hb).mp h)) (fun h => k2 ((show ¬ (a ≤ 0) → 0 < a from fun q => by omega) (fun q => h ((show _ ↔ a ≤ 0 from iZ_le ha hb).mpr q))))
theorem w_icT_le {a b : Int} {off : Int} {pcT : Nat} (hk : zat c pc (.if_icmp .le off) 3 t pc') (ht : zjp pc off = pcT) (hab : (-2147483648 ≤ a ∧ a ≤ 2147483647) ∧ (-2147483648 ≤ b ∧ b ≤ 2147483647) ∧ a ≤ b) (k1 : zP c pcT ls r σ Q) : zP c pc ls (.int (iZ b) :: .int (iZ a) :: r) σ Q := w_ic_le hk ht hab.1 hab.2.1 (fun _ => k1) (fun h => by have := hab.2.2; omega)
theorem w_icF_le {a b : Int} {off : Int} (hk : zat c pc (.if_icmp .le off) 3 t pc') (hab : (-2147483648 ≤ a ∧ a ≤ 2147483647) ∧ (-2147483648 ≤ b ∧ b ≤ 2147483647) ∧ b < a) (k1 : zP c pc' ls r σ Q) : zP c pc ls (.int (iZ b) :: .int (iZ a) :: r) σ Q := w_ic_le hk rfl hab.1 hab.2.1 (fun h => by have := hab.2.2; omega) (fun _ => k1)
theorem w_ifT_le {a : Int} {off : Int} {pcT : Nat} (hk : zat c pc (.ifCond .le off) 3 t pc') (ht : zjp pc off = pcT) (hab : (-2147483648 ≤ a ∧ a ≤ 2147483647) ∧ a ≤ 0) (k1 : zP c pcT ls r σ Q) : zP c pc ls (.int (iZ a) :: r) σ Q := w_if_le hk ht hab.1 (fun _ => k1) (fun h => by have := hab.2; omega)
theorem w_ifF_le {a : Int} {off : Int} (hk : zat c pc (.ifCond .le off) 3 t pc') (hab : (-2147483648 ≤ a ∧ a ≤ 2147483647) ∧ 0 < a) (k1 : zP c pc' ls r σ Q) : zP c pc ls (.int (iZ a) :: r) σ Q := w_if_le hk rfl hab.1 (fun h => by have := hab.2; omega) (fun _ => k1)
theorem zc_le (x y : Int64) : (lg_cmp x y ≤ 0) ↔ x ≤ y := by
  unfold lg_cmp
  simp only [gt_iff_lt, Int64.lt_iff_toInt_lt, Int64.le_iff_toInt_le, ← Int64.toInt_inj]
  repeat' split
  all_goals (constructor <;> intro hh <;> first | omega | decide | exact absurd hh (by decide))
theorem w_ifc_le {x y : Int64} {off : Int} {pcT : Nat} (hk : zat c pc (.ifCond .le off) 3 t pc') (ht : zjp pc off = pcT) (k1 : x ≤ y → zP c pcT ls r σ Q) (k2 : y < x → zP c pc' ls r σ Q) : zP c pc ls (.int (lg_cmp x y) :: r) σ Q := w_ifI_le hk ht (fun h => k1 ((zc_le x y).mp h)) (fun h => k2 ((show ¬ (x ≤ y) → y < x from (fun q => Int64.not_le.mp q)) (fun q => h ((zc_le x y).mpr q))))
theorem w_ify_le {a b : Int} {off : Int} {pcT : Nat} (hk : zat c pc (.ifCond .le off) 3 t pc') (ht : zjp pc off = pcT) (ha : -9223372036854775808 ≤ a ∧ a ≤ 9223372036854775807) (hb : -9223372036854775808 ≤ b ∧ b ≤ 9223372036854775807) (k1 : a ≤ b → zP c pcT ls r σ Q) (k2 : b < a → zP c pc' ls r σ Q) : zP c pc ls (.int (lg_cmp (lZ a) (lZ b)) :: r) σ Q := w_ifI_le hk ht (fun h => k1 ((lZ_le ha hb).mp ((zc_le _ _).mp h))) (fun h => k2 ((show ¬ (a ≤ b) → b < a from fun q => by omega) (fun q => h ((zc_le _ _).mpr ((lZ_le ha hb).mpr q)))))
theorem w_ifB_eq {p : Prop} [Decidable p] {off : Int} {pcT : Nat} (hk : zat c pc (.ifCond .eq off) 3 t pc') (ht : zjp pc off = pcT) (k1 : ¬ p → zP c pcT ls r σ Q) (k2 : p → zP c pc' ls r σ Q) : zP c pc ls (.int (iB p) :: r) σ Q := w_ifI_eq hk ht (fun h => k1 (fun q => by unfold iB at h; rw [if_pos q] at h; exact absurd h (by decide))) (fun h => k2 (Classical.byContradiction fun q => h (by unfold iB; rw [if_neg q]; rfl)))
theorem w_ifB_ne {p : Prop} [Decidable p] {off : Int} {pcT : Nat} (hk : zat c pc (.ifCond .ne off) 3 t pc') (ht : zjp pc off = pcT) (k1 : p → zP c pcT ls r σ Q) (k2 : ¬ p → zP c pc' ls r σ Q) : zP c pc ls (.int (iB p) :: r) σ Q := w_ifI_ne hk ht (fun h => k1 (Classical.byContradiction fun q => h (by unfold iB; rw [if_neg q]; rfl))) (fun h => k2 (fun q => by unfold iB at h; rw [if_pos q] at h; exact absurd h (by decide)))
theorem w_topI {x y : Int32} (h : x = y) (k : zP c pc ls (.int y :: r) σ Q) : zP c pc ls (.int x :: r) σ Q := h ▸ k
theorem w_topL {x y : Int64} (h : x = y) (k : zP c pc ls (.long y :: r) σ Q) : zP c pc ls (.long x :: r) σ Q := h ▸ k
theorem w_sto {σ' : zSt} (h : σ = σ') (k : zP c pc ls st σ' Q) : zP c pc ls st σ Q := h ▸ k
theorem w_ifnullN {off : Int} {pcT : Nat} (hk : zat c pc (.ifnull off) 3 t pc') (ht : zjp pc off = pcT) (k : zP c pcT ls r σ Q) : zP c pc ls (.null :: r) σ Q := w_step hk rfl (fun ls' hr => ⟨ls', by simp only [zstp, zpst, zbr, zgo, ht, if_true], hr⟩) k
theorem w_ifnullR {x : Nat} {off : Int} {pcT : Nat} (hk : zat c pc (.ifnull off) 3 t pc') (ht : zjp pc off = pcT) (k : zP c pc' ls r σ Q) : zP c pc ls (.ref x :: r) σ Q := w_step hk rfl (fun ls' hr => ⟨ls', by simp only [zstp, zpst, zbr, zgo, hk.2, Bool.false_eq_true, if_false], hr⟩) k
theorem w_ifnonnullN {off : Int} {pcT : Nat} (hk : zat c pc (.ifnonnull off) 3 t pc') (ht : zjp pc off = pcT) (k : zP c pc' ls r σ Q) : zP c pc ls (.null :: r) σ Q := w_step hk rfl (fun ls' hr => ⟨ls', by simp only [zstp, zpst, zbr, zgo, hk.2, Bool.false_eq_true, if_false], hr⟩) k
theorem w_ifnonnullR {x : Nat} {off : Int} {pcT : Nat} (hk : zat c pc (.ifnonnull off) 3 t pc') (ht : zjp pc off = pcT) (k : zP c pcT ls r σ Q) : zP c pc ls (.ref x :: r) σ Q := w_step hk rfl (fun ls' hr => ⟨ls', by simp only [zstp, zpst, zbr, zgo, ht, if_true], hr⟩) k
theorem w_tsOut {x : Int32} {dflt lo hi : Int} {offs : Array Int} {pcT : Nat} (hk : zat c pc (.tableswitch dflt lo hi offs) len t pc') (ht : zjp pc dflt = pcT) (hx : x.toInt < lo ∨ hi < x.toInt) (k : zP c pcT ls r σ Q) : zP c pc ls (.int x :: r) σ Q := w_step hk rfl (fun ls' hr => ⟨ls', by simp only [zstp, zpst, zbr, zgo, ht, if_pos hx, if_true], hr⟩) k
theorem w_tsIn {x : Int32} {dflt lo hi off : Int} {offs : Array Int} {pcT : Nat} (j : Nat) (hk : zat c pc (.tableswitch dflt lo hi offs) len t pc') (hx : x.toInt = lo + j) (hj : lo + j ≤ hi) (ho : offs[j]? = some off) (ht : zjp pc off = pcT) (k : zP c pcT ls r σ Q) : zP c pc ls (.int x :: r) σ Q := w_step hk rfl (fun ls' hr => ⟨ls', by
  have h1 : ¬ (x.toInt < lo ∨ hi < x.toInt) := by omega
  have h2 : (x.toInt - lo).toNat = j := by omega
  simp only [zstp, zpst, zbr, zgo, if_neg h1, h2, ho, Option.map_some, ht, if_true], hr⟩) k
theorem w_iload {k : Nat} {x : Int32} (hk : zat c pc (.iload k) 2 t pc') (h : zld ls k = some (.int x)) (kk : zP c pc' ls (.int x :: st) σ Q) : zP c pc ls st σ Q := w_step hk rfl (fun ls' hr => ⟨ls', by simp only [zstp, zpst, zbr, zloc, hr _ _ h, zgo, hk.2], hr⟩) kk
theorem w_lload {k : Nat} {x : Int64} (hk : zat c pc (.lload k) 2 t pc') (h : zld ls k = some (.long x)) (kk : zP c pc' ls (.long x :: st) σ Q) : zP c pc ls st σ Q := w_step hk rfl (fun ls' hr => ⟨ls', by simp only [zstp, zpst, zbr, zloc, hr _ _ h, zgo, hk.2], hr⟩) kk
theorem w_dload {k : Nat} {x : UInt64} (hk : zat c pc (.dload k) 2 t pc') (h : zld ls k = some (.double x)) (kk : zP c pc' ls (.double x :: st) σ Q) : zP c pc ls st σ Q := w_step hk rfl (fun ls' hr => ⟨ls', by simp only [zstp, zpst, zbr, zloc, hr _ _ h, zgo, hk.2], hr⟩) kk
theorem w_aload {k : Nat} {x : Nat} (hk : zat c pc (.aload k) 2 t pc') (h : zld ls k = some (.ref x)) (kk : zP c pc' ls (.ref x :: st) σ Q) : zP c pc ls st σ Q := w_step hk rfl (fun ls' hr => ⟨ls', by simp only [zstp, zpst, zbr, zloc, hr _ _ h, zgo, hk.2], hr⟩) kk
theorem w_iload_n {k : Fin 4} {x : Int32} (hk : zat c pc (.iload_n k) 1 t pc') (h : zld ls k = some (.int x)) (kk : zP c pc' ls (.int x :: st) σ Q) : zP c pc ls st σ Q := w_step hk rfl (fun ls' hr => ⟨ls', by simp only [zstp, zpst, zbr, zloc, hr _ _ h, zgo, hk.2], hr⟩) kk
theorem w_lload_n {k : Fin 4} {x : Int64} (hk : zat c pc (.lload_n k) 1 t pc') (h : zld ls k = some (.long x)) (kk : zP c pc' ls (.long x :: st) σ Q) : zP c pc ls st σ Q := w_step hk rfl (fun ls' hr => ⟨ls', by simp only [zstp, zpst, zbr, zloc, hr _ _ h, zgo, hk.2], hr⟩) kk
theorem w_dload_n {k : Fin 4} {x : UInt64} (hk : zat c pc (.dload_n k) 1 t pc') (h : zld ls k = some (.double x)) (kk : zP c pc' ls (.double x :: st) σ Q) : zP c pc ls st σ Q := w_step hk rfl (fun ls' hr => ⟨ls', by simp only [zstp, zpst, zbr, zloc, hr _ _ h, zgo, hk.2], hr⟩) kk
theorem w_fload_n {k : Fin 4} {x : UInt32} (hk : zat c pc (.fload_n k) 1 t pc') (h : zld ls k = some (.float x)) (kk : zP c pc' ls (.float x :: st) σ Q) : zP c pc ls st σ Q := w_step hk rfl (fun ls' hr => ⟨ls', by simp only [zstp, zpst, zbr, zloc, hr _ _ h, zgo, hk.2], hr⟩) kk
theorem w_aload_n {k : Fin 4} {x : Nat} (hk : zat c pc (.aload_n k) 1 t pc') (h : zld ls k = some (.ref x)) (kk : zP c pc' ls (.ref x :: st) σ Q) : zP c pc ls st σ Q := w_step hk rfl (fun ls' hr => ⟨ls', by simp only [zstp, zpst, zbr, zloc, hr _ _ h, zgo, hk.2], hr⟩) kk
theorem w_aloadN {k : Nat} (hk : zat c pc (.aload k) 2 t pc') (h : zld ls k = some .null) (kk : zP c pc' ls (.null :: st) σ Q) : zP c pc ls st σ Q := w_step hk rfl (fun ls' hr => ⟨ls', by simp only [zstp, zpst, zbr, zloc, hr _ _ h, zgo, hk.2], hr⟩) kk
theorem w_aload_nN {k : Fin 4} (hk : zat c pc (.aload_n k) 1 t pc') (h : zld ls k = some .null) (kk : zP c pc' ls (.null :: st) σ Q) : zP c pc ls st σ Q := w_step hk rfl (fun ls' hr => ⟨ls', by simp only [zstp, zpst, zbr, zloc, hr _ _ h, zgo, hk.2], hr⟩) kk
theorem w_istore {k : Nat} {x : Int32} (hk : zat c pc (.istore k) 2 t pc') (h : zok1 ls k = true) (kk : zP c pc' (((k : Nat), .int x) :: ls) st σ Q) : zP c pc ls (.int x :: st) σ Q := w_step hk rfl (fun ls' hr => ⟨zs1 ls' k (.int x), by simp only [zstp, zpst, zbr, zloc, zgo, hk.2], zs1_ref hr h⟩) kk
theorem w_istore_n {k : Fin 4} {x : Int32} (hk : zat c pc (.istore_n k) 1 t pc') (h : zok1 ls k = true) (kk : zP c pc' (((k : Nat), .int x) :: ls) st σ Q) : zP c pc ls (.int x :: st) σ Q := w_step hk rfl (fun ls' hr => ⟨zs1 ls' k (.int x), by simp only [zstp, zpst, zbr, zloc, zgo, hk.2], zs1_ref hr h⟩) kk
theorem w_astore {k : Nat} {x : Nat} (hk : zat c pc (.astore k) 2 t pc') (h : zok1 ls k = true) (kk : zP c pc' (((k : Nat), .ref x) :: ls) st σ Q) : zP c pc ls (.ref x :: st) σ Q := w_step hk rfl (fun ls' hr => ⟨zs1 ls' k (.ref x), by simp only [zstp, zpst, zbr, zloc, zgo, hk.2], zs1_ref hr h⟩) kk
theorem w_astoreN {k : Nat} (hk : zat c pc (.astore k) 2 t pc') (h : zok1 ls k = true) (kk : zP c pc' (((k : Nat), .null) :: ls) st σ Q) : zP c pc ls (.null :: st) σ Q := w_step hk rfl (fun ls' hr => ⟨zs1 ls' k .null, by simp only [zstp, zpst, zbr, zloc, zgo, hk.2], zs1_ref hr h⟩) kk
theorem w_astore_n {k : Fin 4} {x : Nat} (hk : zat c pc (.astore_n k) 1 t pc') (h : zok1 ls k = true) (kk : zP c pc' (((k : Nat), .ref x) :: ls) st σ Q) : zP c pc ls (.ref x :: st) σ Q := w_step hk rfl (fun ls' hr => ⟨zs1 ls' k (.ref x), by simp only [zstp, zpst, zbr, zloc, zgo, hk.2], zs1_ref hr h⟩) kk
theorem w_astore_nN {k : Fin 4} (hk : zat c pc (.astore_n k) 1 t pc') (h : zok1 ls k = true) (kk : zP c pc' (((k : Nat), .null) :: ls) st σ Q) : zP c pc ls (.null :: st) σ Q := w_step hk rfl (fun ls' hr => ⟨zs1 ls' k .null, by simp only [zstp, zpst, zbr, zloc, zgo, hk.2], zs1_ref hr h⟩) kk
theorem w_lstore {k : Nat} {x : Int64} (hk : zat c pc (.lstore k) 2 t pc') (h : zok1 ls k = true) (h2 : zld ls ((k : Nat) + 1) = none) (kk : zP c pc' (((k : Nat), .long x) :: ls) st σ Q) : zP c pc ls (.long x :: st) σ Q := w_step hk rfl (fun ls' hr => ⟨zs2 ls' k (.long x), by simp only [zstp, zpst, zbr, zloc, zgo, hk.2], zs2_ref hr h h2⟩) kk
theorem w_lstore_n {k : Fin 4} {x : Int64} (hk : zat c pc (.lstore_n k) 1 t pc') (h : zok1 ls k = true) (h2 : zld ls ((k : Nat) + 1) = none) (kk : zP c pc' (((k : Nat), .long x) :: ls) st σ Q) : zP c pc ls (.long x :: st) σ Q := w_step hk rfl (fun ls' hr => ⟨zs2 ls' k (.long x), by simp only [zstp, zpst, zbr, zloc, zgo, hk.2], zs2_ref hr h h2⟩) kk
theorem w_dstore {k : Nat} {x : UInt64} (hk : zat c pc (.dstore k) 2 t pc') (h : zok1 ls k = true) (h2 : zld ls ((k : Nat) + 1) = none) (kk : zP c pc' (((k : Nat), .double x) :: ls) st σ Q) : zP c pc ls (.double x :: st) σ Q := w_step hk rfl (fun ls' hr => ⟨zs2 ls' k (.double x), by simp only [zstp, zpst, zbr, zloc, zgo, hk.2], zs2_ref hr h h2⟩) kk
theorem w_iinc {k : Nat} {n : Int} {x : Int32} (hk : zat c pc (.iinc k n) 3 t pc') (h : zld ls k = some (.int x)) (h1 : zok1 ls k = true) (kk : zP c pc' ((k, .int (x + Int32.ofInt n)) :: ls) st σ Q) : zP c pc ls st σ Q := w_step hk rfl (fun ls' hr => ⟨zs1 ls' k (.int (x + Int32.ofInt n)), by simp only [zstp, zpst, zbr, zloc, hr _ _ h, zgo, hk.2], zs1_ref hr h1⟩) kk
theorem w_ldc {j : Nat} {v : Value} (hk : zat c pc (.ldc j) 2 t pc') (h : zCT[j]? = some v) (kk : zP c pc' ls (v :: st) σ Q) : zP c pc ls st σ Q := w_step hk rfl (fun ls' hr => ⟨ls', by simp only [zstp, zpst, zbr, zloc, zmem, zmak, zcst, h, Option.map_some, zgo, hk.2], hr⟩) kk
theorem w_ldc_w {j : Nat} {v : Value} (hk : zat c pc (.ldc_w j) 3 t pc') (h : zCT[j]? = some v) (kk : zP c pc' ls (v :: st) σ Q) : zP c pc ls st σ Q := w_step hk rfl (fun ls' hr => ⟨ls', by simp only [zstp, zpst, zbr, zloc, zmem, zmak, zcst, h, Option.map_some, zgo, hk.2], hr⟩) kk
theorem w_ldc2_w {j : Nat} {v : Value} (hk : zat c pc (.ldc2_w j) 3 t pc') (h : zCT[j]? = some v) (kk : zP c pc' ls (v :: st) σ Q) : zP c pc ls st σ Q := w_step hk rfl (fun ls' hr => ⟨ls', by simp only [zstp, zpst, zbr, zloc, zmem, zmak, zcst, h, Option.map_some, zgo, hk.2], hr⟩) kk
/-- object o is there, of class cl; array a is there, of kind kd, of length n; index k is j, within -/
def zO (σ : zSt) (o cl : Nat) : Prop := o < zN σ ∧ (zLY o).1 = cl
def zA (σ : zSt) (a kd n : Nat) : Prop := a < zN σ ∧ zLY a = (kd, n) ∧ a < 1000000
def zix (k : Int32) (n j : Nat) : Prop := ¬ k < 0 ∧ k.toNatClampNeg = j ∧ j < n
theorem zix.zin {k : Int32} {n j : Nat} (h : zix k n j) : zin k n := by
  intro q
  rcases q with q | q
  · exact h.1 q
  · have := h.2.1; have := h.2.2; omega
theorem w_getI {v : Int32} {o cl q : Nat} {x : Nat} (hk : zat c pc (.getfield x) 3 t pc') (hx : x = 256 * cl + 4 * q + 0 ∧ q < 64) (ho : zO σ o cl) (hv : zI σ o q = v) (kk : zP c pc' ls (.int v :: r) (σ) Q) : zP c pc ls (.ref o :: r) σ Q := w_step hk rfl (fun ls' hr => ⟨ls', by
  obtain ⟨rfl, hq⟩ := hx
  have e1 : (256 * cl + 4 * q + 0) / 256 = cl := by omega
  have e2 : (256 * cl + 4 * q + 0) / 4 % 64 = q := by omega
  have e3 : (256 * cl + 4 * q + 0) % 4 = 0 := by omega
  have ho' : o < zN σ ∧ (zLY o).1 = (256 * cl + 4 * q + 0) / 256 := ⟨ho.1, ho.2.trans e1.symm⟩
  simp only [zstp, zpst, zbr, zloc, zmem]
  rw [if_pos ho']
  simp only [e2, e3, zget, zgo, hk.2, if_false, hv, show ¬ (0:Nat) = 1 by decide, show ¬ (0:Nat) = 2 by decide]
  try rfl, hr⟩) kk
theorem w_getZ {v : Int32} {o cl q : Nat} {x : Nat} (hk : zat c pc (.getfield x) 3 t pc') (hx : x = 256 * cl + 4 * q + 3 ∧ q < 64) (ho : zO σ o cl) (hv : zI σ o q = v) (kk : zP c pc' ls (.int v :: r) (σ) Q) : zP c pc ls (.ref o :: r) σ Q := w_step hk rfl (fun ls' hr => ⟨ls', by
  obtain ⟨rfl, hq⟩ := hx
  have e1 : (256 * cl + 4 * q + 3) / 256 = cl := by omega
  have e2 : (256 * cl + 4 * q + 3) / 4 % 64 = q := by omega
  have e3 : (256 * cl + 4 * q + 3) % 4 = 3 := by omega
  have ho' : o < zN σ ∧ (zLY o).1 = (256 * cl + 4 * q + 3) / 256 := ⟨ho.1, ho.2.trans e1.symm⟩
  simp only [zstp, zpst, zbr, zloc, zmem]
  rw [if_pos ho']
  simp only [e2, e3, zget, zgo, hk.2, if_false, hv, show ¬ (3:Nat) = 1 by decide, show ¬ (3:Nat) = 2 by decide]
  try rfl, hr⟩) kk
theorem w_getL {v : Int64} {o cl q : Nat} {x : Nat} (hk : zat c pc (.getfield x) 3 t pc') (hx : x = 256 * cl + 4 * q + 1 ∧ q < 64) (ho : zO σ o cl) (hv : zL σ o q = v) (kk : zP c pc' ls (.long v :: r) (σ) Q) : zP c pc ls (.ref o :: r) σ Q := w_step hk rfl (fun ls' hr => ⟨ls', by
  obtain ⟨rfl, hq⟩ := hx
  have e1 : (256 * cl + 4 * q + 1) / 256 = cl := by omega
  have e2 : (256 * cl + 4 * q + 1) / 4 % 64 = q := by omega
  have e3 : (256 * cl + 4 * q + 1) % 4 = 1 := by omega
  have ho' : o < zN σ ∧ (zLY o).1 = (256 * cl + 4 * q + 1) / 256 := ⟨ho.1, ho.2.trans e1.symm⟩
  simp only [zstp, zpst, zbr, zloc, zmem]
  rw [if_pos ho']
  simp only [e2, e3, zget, zgo, hk.2, if_true, hv]
  try rfl, hr⟩) kk
theorem w_getR {a : Nat} {o cl q : Nat} {x : Nat} (hk : zat c pc (.getfield x) 3 t pc') (hx : x = 256 * cl + 4 * q + 2 ∧ q < 64) (ho : zO σ o cl) (hr0 : zR σ o q = some a) (kk : zP c pc' ls (.ref a :: r) (σ) Q) : zP c pc ls (.ref o :: r) σ Q := w_step hk rfl (fun ls' hr => ⟨ls', by
  obtain ⟨rfl, hq⟩ := hx
  have e1 : (256 * cl + 4 * q + 2) / 256 = cl := by omega
  have e2 : (256 * cl + 4 * q + 2) / 4 % 64 = q := by omega
  have e3 : (256 * cl + 4 * q + 2) % 4 = 2 := by omega
  have ho' : o < zN σ ∧ (zLY o).1 = (256 * cl + 4 * q + 2) / 256 := ⟨ho.1, ho.2.trans e1.symm⟩
  simp only [zstp, zpst, zbr, zloc, zmem]
  rw [if_pos ho']
  simp only [e2, e3, zget, zgo, hk.2, if_false, if_true, show ¬ (2:Nat) = 1 by decide, hr0, va_rf]
  try rfl, hr⟩) kk
theorem w_getN {o cl q : Nat} {x : Nat} (hk : zat c pc (.getfield x) 3 t pc') (hx : x = 256 * cl + 4 * q + 2 ∧ q < 64) (ho : zO σ o cl) (hr0 : zR σ o q = none) (kk : zP c pc' ls (.null :: r) (σ) Q) : zP c pc ls (.ref o :: r) σ Q := w_step hk rfl (fun ls' hr => ⟨ls', by
  obtain ⟨rfl, hq⟩ := hx
  have e1 : (256 * cl + 4 * q + 2) / 256 = cl := by omega
  have e2 : (256 * cl + 4 * q + 2) / 4 % 64 = q := by omega
  have e3 : (256 * cl + 4 * q + 2) % 4 = 2 := by omega
  have ho' : o < zN σ ∧ (zLY o).1 = (256 * cl + 4 * q + 2) / 256 := ⟨ho.1, ho.2.trans e1.symm⟩
  simp only [zstp, zpst, zbr, zloc, zmem]
  rw [if_pos ho']
  simp only [e2, e3, zget, zgo, hk.2, if_false, if_true, show ¬ (2:Nat) = 1 by decide, hr0, va_rf]
  try rfl, hr⟩) kk
theorem w_putI {v : Int32} {o cl q : Nat} {x : Nat} (hk : zat c pc (.putfield x) 3 t pc') (hx : x = 256 * cl + 4 * q + 0 ∧ q < 64) (ho : zO σ o cl) (kk : zP c pc' ls (r) (zwI σ o q v) Q) : zP c pc ls (.int v :: .ref o :: r) σ Q := w_step hk rfl (fun ls' hr => ⟨ls', by
  obtain ⟨rfl, hq⟩ := hx
  have e1 : (256 * cl + 4 * q + 0) / 256 = cl := by omega
  have e2 : (256 * cl + 4 * q + 0) / 4 % 64 = q := by omega
  have e3 : (256 * cl + 4 * q + 0) % 4 = 0 := by omega
  have ho' : o < zN σ ∧ (zLY o).1 = (256 * cl + 4 * q + 0) / 256 := ⟨ho.1, ho.2.trans e1.symm⟩
  simp only [zstp, zpst, zbr, zloc, zmem]
  rw [if_pos ho']
  simp only [e2, e3, zget, zgo, hk.2, true_or, if_true]
  try rfl, hr⟩) kk
theorem w_putZ {v : Int32} {o cl q : Nat} {x : Nat} (hk : zat c pc (.putfield x) 3 t pc') (hx : x = 256 * cl + 4 * q + 3 ∧ q < 64) (ho : zO σ o cl) (hv : v = 0 ∨ v = 1) (kk : zP c pc' ls (r) (zwI σ o q v) Q) : zP c pc ls (.int v :: .ref o :: r) σ Q := w_step hk rfl (fun ls' hr => ⟨ls', by
  obtain ⟨rfl, hq⟩ := hx
  have e1 : (256 * cl + 4 * q + 3) / 256 = cl := by omega
  have e2 : (256 * cl + 4 * q + 3) / 4 % 64 = q := by omega
  have e3 : (256 * cl + 4 * q + 3) % 4 = 3 := by omega
  have ho' : o < zN σ ∧ (zLY o).1 = (256 * cl + 4 * q + 3) / 256 := ⟨ho.1, ho.2.trans e1.symm⟩
  simp only [zstp, zpst, zbr, zloc, zmem]
  rw [if_pos ho']
  simp only [e2, e3, zget, zgo, hk.2, hv, and_self, or_true, if_true]
  try rfl, hr⟩) kk
theorem w_putL {v : Int64} {o cl q : Nat} {x : Nat} (hk : zat c pc (.putfield x) 3 t pc') (hx : x = 256 * cl + 4 * q + 1 ∧ q < 64) (ho : zO σ o cl) (kk : zP c pc' ls (r) (zwL σ o q v) Q) : zP c pc ls (.long v :: .ref o :: r) σ Q := w_step hk rfl (fun ls' hr => ⟨ls', by
  obtain ⟨rfl, hq⟩ := hx
  have e1 : (256 * cl + 4 * q + 1) / 256 = cl := by omega
  have e2 : (256 * cl + 4 * q + 1) / 4 % 64 = q := by omega
  have e3 : (256 * cl + 4 * q + 1) % 4 = 1 := by omega
  have ho' : o < zN σ ∧ (zLY o).1 = (256 * cl + 4 * q + 1) / 256 := ⟨ho.1, ho.2.trans e1.symm⟩
  simp only [zstp, zpst, zbr, zloc, zmem]
  rw [if_pos ho']
  simp only [e2, e3, zget, zgo, hk.2, if_true]
  try rfl, hr⟩) kk
theorem w_putR {v : Nat} {o cl q : Nat} {x : Nat} (hk : zat c pc (.putfield x) 3 t pc') (hx : x = 256 * cl + 4 * q + 2 ∧ q < 64) (ho : zO σ o cl) (kk : zP c pc' ls (r) (zwR σ o q (some v)) Q) : zP c pc ls (.ref v :: .ref o :: r) σ Q := w_step hk rfl (fun ls' hr => ⟨ls', by
  obtain ⟨rfl, hq⟩ := hx
  have e1 : (256 * cl + 4 * q + 2) / 256 = cl := by omega
  have e2 : (256 * cl + 4 * q + 2) / 4 % 64 = q := by omega
  have e3 : (256 * cl + 4 * q + 2) % 4 = 2 := by omega
  have ho' : o < zN σ ∧ (zLY o).1 = (256 * cl + 4 * q + 2) / 256 := ⟨ho.1, ho.2.trans e1.symm⟩
  simp only [zstp, zpst, zbr, zloc, zmem]
  rw [if_pos ho']
  simp only [e2, e3, zget, zgo, hk.2, if_true]
  try rfl, hr⟩) kk
theorem w_putN {o cl q : Nat} {x : Nat} (hk : zat c pc (.putfield x) 3 t pc') (hx : x = 256 * cl + 4 * q + 2 ∧ q < 64) (ho : zO σ o cl) (kk : zP c pc' ls (r) (zwR σ o q none) Q) : zP c pc ls (.null :: .ref o :: r) σ Q := w_step hk rfl (fun ls' hr => ⟨ls', by
  obtain ⟨rfl, hq⟩ := hx
  have e1 : (256 * cl + 4 * q + 2) / 256 = cl := by omega
  have e2 : (256 * cl + 4 * q + 2) / 4 % 64 = q := by omega
  have e3 : (256 * cl + 4 * q + 2) % 4 = 2 := by omega
  have ho' : o < zN σ ∧ (zLY o).1 = (256 * cl + 4 * q + 2) / 256 := ⟨ho.1, ho.2.trans e1.symm⟩
  simp only [zstp, zpst, zbr, zloc, zmem]
  rw [if_pos ho']
  simp only [e2, e3, zget, zgo, hk.2, if_true]
  try rfl, hr⟩) kk
theorem w_iald {a n j : Nat} {k : Int32} {v : Int32} (hk : zat c pc .iaload 1 t pc') (ha : zA σ a 12 n) (hi : zix k n j) (hv : zI σ a j = v) (kk : zP c pc' ls (.int v :: r) σ Q) : zP c pc ls (.int k :: .ref a :: r) σ Q := w_step hk rfl (fun ls' hr => ⟨ls', by
  have hc : a < zN σ ∧ (zLY a).1 = 12 ∧ zin k (zLY a).2 := ⟨ha.1, by rw [ha.2.1], by rw [ha.2.1]; exact hi.zin⟩
  simp only [zstp, zpst, zbr, zloc, zmem]
  rw [if_neg (show ¬ a = zSCR by have := ha.2.2; unfold zSCR; omega)]
  rw [if_pos hc]
  simp only [zgo, hk.2, hi.2.1, hv], hr⟩) kk
theorem w_cald {a n j : Nat} {k : Int32} {v : Int32} (hk : zat c pc .caload 1 t pc') (ha : zA σ a 11 n) (hi : zix k n j) (hv : zI σ a j = v) (kk : zP c pc' ls (.int v :: r) σ Q) : zP c pc ls (.int k :: .ref a :: r) σ Q := w_step hk rfl (fun ls' hr => ⟨ls', by
  have hc : a < zN σ ∧ (zLY a).1 = 11 ∧ zin k (zLY a).2 := ⟨ha.1, by rw [ha.2.1], by rw [ha.2.1]; exact hi.zin⟩
  simp only [zstp, zpst, zbr, zloc, zmem]
  rw [if_pos hc]
  simp only [zgo, hk.2, hi.2.1, hv], hr⟩) kk
theorem w_bald {a n j : Nat} {k : Int32} {v : Int32} (hk : zat c pc .baload 1 t pc') (ha : zA σ a 14 n) (hi : zix k n j) (hv : zI σ a j = v) (kk : zP c pc' ls (.int v :: r) σ Q) : zP c pc ls (.int k :: .ref a :: r) σ Q := w_step hk rfl (fun ls' hr => ⟨ls', by
  have hc : a < zN σ ∧ (zLY a).1 = 14 ∧ zin k (zLY a).2 := ⟨ha.1, by rw [ha.2.1], by rw [ha.2.1]; exact hi.zin⟩
  simp only [zstp, zpst, zbr, zloc, zmem]
  rw [if_pos hc]
  simp only [zgo, hk.2, hi.2.1, hv], hr⟩) kk
theorem w_lald {a n j : Nat} {k : Int32} {v : Int64} (hk : zat c pc .laload 1 t pc') (ha : zA σ a 13 n) (hi : zix k n j) (hv : zL σ a j = v) (kk : zP c pc' ls (.long v :: r) σ Q) : zP c pc ls (.int k :: .ref a :: r) σ Q := w_step hk rfl (fun ls' hr => ⟨ls', by
  have hc : a < zN σ ∧ (zLY a).1 = 13 ∧ zin k (zLY a).2 := ⟨ha.1, by rw [ha.2.1], by rw [ha.2.1]; exact hi.zin⟩
  simp only [zstp, zpst, zbr, zloc, zmem]
  rw [if_pos hc]
  simp only [zgo, hk.2, hi.2.1, hv], hr⟩) kk
theorem w_sald {j L : Nat} {k : Int32} (hk : zat c pc .iaload 1 t pc') (hL : zR σ zSCR 0 = some L) (hi : zix k L j) (kk : zP c pc' ls (.int (zI σ zSCR j) :: r) σ Q) : zP c pc ls (.int k :: .ref zSCR :: r) σ Q := w_step hk rfl (fun ls' hr => ⟨ls', by
  simp only [zstp, zpst, zbr, zloc, zmem, if_true, hL, Option.getD_some]
  rw [if_pos hi.zin]
  simp only [zgo, hk.2, hi.2.1], hr⟩) kk
theorem w_slen {L : Nat} (hk : zat c pc .arraylength 1 t pc') (hL : zR σ zSCR 0 = some L) (kk : zP c pc' ls (.int (Int32.ofNat L) :: r) σ Q) : zP c pc ls (.ref zSCR :: r) σ Q := w_step hk rfl (fun ls' hr => ⟨ls', by
  simp only [zstp, zpst, zbr, zloc, zmem, if_true, hL, Option.getD_some, zgo, hk.2], hr⟩) kk
theorem w_alen {a kd n : Nat} (hk : zat c pc .arraylength 1 t pc') (ha : zA σ a kd n) (hkd : 11 ≤ kd ∧ kd ≤ 18) (kk : zP c pc' ls (.int (Int32.ofNat n) :: r) σ Q) : zP c pc ls (.ref a :: r) σ Q := w_step hk rfl (fun ls' hr => ⟨ls', by
  have hc : a < zN σ ∧ 11 ≤ (zLY a).1 ∧ (zLY a).1 ≤ 18 := ⟨ha.1, by rw [ha.2.1]; exact hkd.1, by rw [ha.2.1]; exact hkd.2⟩
  simp only [zstp, zpst, zbr, zloc, zmem]
  rw [if_neg (show ¬ a = zSCR by have := ha.2.2; unfold zSCR; omega), if_pos hc]
  simp only [zgo, hk.2, ha.2.1], hr⟩) kk
theorem w_aald {a b kd n j : Nat} {k : Int32} (hk : zat c pc .aaload 1 t pc') (ha : zA σ a kd n) (hkd : 15 ≤ kd ∧ kd ≤ 18) (hi : zix k n j) (hb : zR σ a j = some b) (kk : zP c pc' ls (.ref b :: r) σ Q) : zP c pc ls (.int k :: .ref a :: r) σ Q := w_step hk rfl (fun ls' hr => ⟨ls', by
  have hc : a < zN σ ∧ (15 ≤ (zLY a).1 ∧ (zLY a).1 ≤ 18) ∧ zin k (zLY a).2 := ⟨ha.1, ⟨by rw [ha.2.1]; exact hkd.1, by rw [ha.2.1]; exact hkd.2⟩, by rw [ha.2.1]; exact hi.zin⟩
  simp only [zstp, zpst, zbr, zloc, zmem]
  rw [if_pos hc]
  simp only [zgo, hk.2, hi.2.1, hb, va_rf], hr⟩) kk
theorem w_aast {a v kd cv n j : Nat} {k : Int32} (hk : zat c pc .aastore 1 t pc') (ha : zA σ a kd n) (hv : zO σ v cv) (hkd : (kd, cv) ∈ [(15, 2), (16, 5), (17, 6)]) (hi : zix k n j) (kk : zP c pc' ls r (zwR σ a j (some v)) Q) : zP c pc ls (.ref v :: .int k :: .ref a :: r) σ Q := w_step hk rfl (fun ls' hr => ⟨ls', by
  have hc : a < zN σ ∧ v < zN σ ∧ ((zLY a).1, (zLY v).1) ∈ [(15, 2), (16, 5), (17, 6)] ∧ zin k (zLY a).2 := ⟨ha.1, hv.1, by rw [ha.2.1, hv.2]; exact hkd, by rw [ha.2.1]; exact hi.zin⟩
  simp only [zstp, zpst, zbr, zloc, zmem]
  rw [if_pos hc]
  simp only [zgo, hk.2, hi.2.1], hr⟩) kk
theorem w_iast {a n j : Nat} {k : Int32} {v : Int32} (hk : zat c pc .iastore 1 t pc') (ha : zA σ a 12 n) (hi : zix k n j) (kk : zP c pc' ls r (zwI σ a j v) Q) : zP c pc ls (.int v :: .int k :: .ref a :: r) σ Q := w_step hk rfl (fun ls' hr => ⟨ls', by
  have hc : a < zN σ ∧ (zLY a).1 = 12 ∧ zin k (zLY a).2 := ⟨ha.1, by rw [ha.2.1], by rw [ha.2.1]; exact hi.zin⟩
  simp only [zstp, zpst, zbr, zloc, zmem]
  rw [if_pos hc]
  simp only [zgo, hk.2, hi.2.1], hr⟩) kk
theorem w_cast {a n j : Nat} {k : Int32} {v : Int32} (hk : zat c pc .castore 1 t pc') (ha : zA σ a 11 n) (hi : zix k n j) (kk : zP c pc' ls r (zwI σ a j (vp_nar .char v)) Q) : zP c pc ls (.int v :: .int k :: .ref a :: r) σ Q := w_step hk rfl (fun ls' hr => ⟨ls', by
  have hc : a < zN σ ∧ (zLY a).1 = 11 ∧ zin k (zLY a).2 := ⟨ha.1, by rw [ha.2.1], by rw [ha.2.1]; exact hi.zin⟩
  simp only [zstp, zpst, zbr, zloc, zmem]
  rw [if_pos hc]
  simp only [zgo, hk.2, hi.2.1], hr⟩) kk
theorem w_bast {a n j : Nat} {k : Int32} {v : Int32} (hk : zat c pc .bastore 1 t pc') (ha : zA σ a 14 n) (hi : zix k n j) (kk : zP c pc' ls r (zwI σ a j (vp_nar .boolean v)) Q) : zP c pc ls (.int v :: .int k :: .ref a :: r) σ Q := w_step hk rfl (fun ls' hr => ⟨ls', by
  have hc : a < zN σ ∧ (zLY a).1 = 14 ∧ zin k (zLY a).2 := ⟨ha.1, by rw [ha.2.1], by rw [ha.2.1]; exact hi.zin⟩
  simp only [zstp, zpst, zbr, zloc, zmem]
  rw [if_pos hc]
  simp only [zgo, hk.2, hi.2.1], hr⟩) kk
theorem w_last {a n j : Nat} {k : Int32} {v : Int64} (hk : zat c pc .lastore 1 t pc') (ha : zA σ a 13 n) (hi : zix k n j) (kk : zP c pc' ls r (zwL σ a j v) Q) : zP c pc ls (.long v :: .int k :: .ref a :: r) σ Q := w_step hk rfl (fun ls' hr => ⟨ls', by
  have hc : a < zN σ ∧ (zLY a).1 = 13 ∧ zin k (zLY a).2 := ⟨ha.1, by rw [ha.2.1], by rw [ha.2.1]; exact hi.zin⟩
  simp only [zstp, zpst, zbr, zloc, zmem]
  rw [if_pos hc]
  simp only [zgo, hk.2, hi.2.1], hr⟩) kk
theorem w_new {cl : Nat} (hk : zat c pc (.new cl) 3 t pc') (h : (zLY (zN σ)).1 = cl ∧ cl ≤ 10) (kk : zP c pc' ls (.ref (zN σ) :: st) (znew σ) Q) : zP c pc ls st σ Q := w_step hk rfl (fun ls' hr => ⟨ls', by
  simp only [zstp, zpst, zbr, zloc, zmem, zmak]
  rw [if_pos h]
  simp only [zgo, hk.2], hr⟩) kk
theorem w_newa {ty : ArrayType} {n : Nat} {k : Int32} (hk : zat c pc (.newarray ty) 2 t pc') (h : zaty ty ≤ 14 ∧ zLY (zN σ) = (zaty ty, n)) (hn : ¬ k < 0 ∧ k.toNatClampNeg = n) (kk : zP c pc' ls (.ref (zN σ) :: r) (znew σ) Q) : zP c pc ls (.int k :: r) σ Q := w_step hk rfl (fun ls' hr => ⟨ls', by
  have hc : zaty ty ≤ 14 ∧ ¬ k < 0 ∧ zLY (zN σ) = (zaty ty, k.toNatClampNeg) := ⟨h.1, hn.1, by rw [hn.2]; exact h.2⟩
  simp only [zstp, zpst, zbr, zloc, zmem, zmak]
  rw [if_pos hc]
  simp only [zgo, hk.2], hr⟩) kk
theorem w_newq {kd n : Nat} {k : Int32} (hk : zat c pc (.anewarray kd) 3 t pc') (h : (kd = 15 ∨ kd = 16 ∨ kd = 17) ∧ zLY (zN σ) = (kd, n)) (hn : ¬ k < 0 ∧ k.toNatClampNeg = n) (kk : zP c pc' ls (.ref (zN σ) :: r) (znew σ) Q) : zP c pc ls (.int k :: r) σ Q := w_step hk rfl (fun ls' hr => ⟨ls', by
  have hc : (kd = 15 ∨ kd = 16 ∨ kd = 17) ∧ ¬ k < 0 ∧ zLY (zN σ) = (kd, k.toNatClampNeg) := ⟨h.1, hn.1, by rw [hn.2]; exact h.2⟩
  simp only [zstp, zpst, zbr, zloc, zmem, zmak]
  rw [if_pos hc]
  simp only [zgo, hk.2], hr⟩) kk
theorem w_newm {k n : Int32} {N K : Nat} (hk : zat c pc (.multianewarray 18 2) 4 t pc') (hn : ¬ n < 0 ∧ n.toNatClampNeg = N) (hkk : ¬ k < 0 ∧ k.toNatClampNeg = K) (h : zLY (zN σ) = (18, N)) (h2 : ∀ j, j < N → zLY (zN σ + 1 + j) = (13, K)) (kk : zP c pc' ls (.ref (zN σ) :: r) (zrR (znews (N + 1) σ) (zN σ) (fun j => if j < N then some (zN σ + 1 + j) else none)) Q) : zP c pc ls (.int k :: .int n :: r) σ Q := w_step hk rfl (fun ls' hr => ⟨ls', by
  have hc : 18 = 18 ∧ 2 = 2 ∧ ¬ k < 0 ∧ ¬ n < 0 ∧ zLY (zN σ) = (18, n.toNatClampNeg) ∧ (∀ j, j < n.toNatClampNeg → zLY (zN σ + 1 + j) = (13, k.toNatClampNeg)) := ⟨rfl, rfl, hkk.1, hn.1, by rw [hn.2]; exact h, by rw [hn.2, hkk.2]; exact h2⟩
  have e : zmak (.multianewarray 18 2) (.int k :: .int n :: r) σ = some (.ref (zN σ) :: r, zrR (znews (n.toNatClampNeg + 1) σ) (zN σ) (fun j => if j < n.toNatClampNeg then some (zN σ + 1 + j) else none)) := if_pos hc
  simp only [zstp, zpst, zbr, zloc, zmem, e]
  simp only [zgo, hk.2, hn.2], hr⟩) kk
theorem w_return (hk : zat c pc .return_ 1 t pc') (kk : Q σ none) : zP c pc ls [] σ Q := w_end hk rfl (fun ls' => by simp only [zstp, zpst, zbr, zloc, zmem, zmak, zcst, zret]) kk
theorem w_ireturn {x : Int32} (hk : zat c pc .ireturn 1 t pc') (ht : t = 0 ∨ (t = 1 ∧ (x = 0 ∨ x = 1))) (kk : Q σ (some (.int x))) : zP c pc ls [.int x] σ Q := w_end hk rfl (fun ls' => by simp only [zstp, zpst, zbr, zloc, zmem, zmak, zcst, zret, if_pos ht]) kk
theorem w_lreturn {x : Int64} (hk : zat c pc .lreturn 1 t pc') (kk : Q σ (some (.long x))) : zP c pc ls [.long x] σ Q := w_end hk rfl (fun ls' => by simp only [zstp, zpst, zbr, zloc, zmem, zmak, zcst, zret]) kk
theorem w_dreturn {x : UInt64} (hk : zat c pc .dreturn 1 t pc') (kk : Q σ (some (.double x))) : zP c pc ls [.double x] σ Q := w_end hk rfl (fun ls' => by simp only [zstp, zpst, zbr, zloc, zmem, zmak, zcst, zret]) kk
theorem w_areturn {x : Nat} (hk : zat c pc .areturn 1 t pc') (kk : Q σ (some (.ref x))) : zP c pc ls [.ref x] σ Q := w_end hk rfl (fun ls' => by simp only [zstp, zpst, zbr, zloc, zmem, zmak, zcst, zret]) kk
theorem w_areturnN (hk : zat c pc .areturn 1 t pc') (kk : Q σ (some .null)) : zP c pc ls [.null] σ Q := w_end hk rfl (fun ls' => by simp only [zstp, zpst, zbr, zloc, zmem, zmak, zcst, zret]) kk
theorem w_cs0 {y : Nat} (hk : zat c pc (.invokestatic y) 3 t pc') (hy : y < 900 ∧ zNA y = 0) (hc : (r.map (fun v => v.category)).sum ≤ 8) (hm : (([] : List Value).map (fun v => v.category)).sum ≤ zML y) (k : zCa y [] σ (fun σ' v => zP c pc' ls (v.toList ++ r) σ' Q)) : zP c pc ls (r) σ Q := w_callG hk rfl (by rw [hy.2]; rfl) ⟨hc, Or.inr ⟨hm, fun h => by cases h⟩⟩ hy.1 k
theorem w_cs1 {a0 : Value} {y : Nat} (hk : zat c pc (.invokestatic y) 3 t pc') (hy : y < 900 ∧ zNA y = 1) (hc : (r.map (fun v => v.category)).sum ≤ 8) (hm : (([a0] : List Value).map (fun v => v.category)).sum ≤ zML y) (k : zCa y [a0] σ (fun σ' v => zP c pc' ls (v.toList ++ r) σ' Q)) : zP c pc ls (a0 :: r) σ Q := w_callG hk rfl (by rw [hy.2]; rfl) ⟨hc, Or.inr ⟨hm, fun h => by cases h⟩⟩ hy.1 k
theorem w_cv1 {y o : Nat} (hk : zat c pc (.invokevirtual y) 3 t pc') (hy : y < 900 ∧ zNA y = 1) (ho : zO σ o (zCI y)) (hc : (r.map (fun v => v.category)).sum ≤ 8) (hm : (([.ref o] : List Value).map (fun v => v.category)).sum ≤ zML y) (k : zCa y [.ref o] σ (fun σ' v => zP c pc' ls (v.toList ++ r) σ' Q)) : zP c pc ls (.ref o :: r) σ Q := w_callG hk rfl (by rw [hy.2]; rfl) ⟨hc, Or.inr ⟨hm, fun _ => by simp only [zrcv, Bool.and_eq_true, decide_eq_true_eq, beq_iff_eq]; exact ho⟩⟩ hy.1 k
theorem w_cp1 {y o : Nat} (hk : zat c pc (.invokespecial y) 3 t pc') (hy : y < 900 ∧ zNA y = 1) (ho : zO σ o (zCI y)) (hc : (r.map (fun v => v.category)).sum ≤ 8) (hm : (([.ref o] : List Value).map (fun v => v.category)).sum ≤ zML y) (k : zCa y [.ref o] σ (fun σ' v => zP c pc' ls (v.toList ++ r) σ' Q)) : zP c pc ls (.ref o :: r) σ Q := w_callG hk rfl (by rw [hy.2]; rfl) ⟨hc, Or.inr ⟨hm, fun _ => by simp only [zrcv, Bool.and_eq_true, decide_eq_true_eq, beq_iff_eq]; exact ho⟩⟩ hy.1 k
theorem w_cs2 {a0 a1 : Value} {y : Nat} (hk : zat c pc (.invokestatic y) 3 t pc') (hy : y < 900 ∧ zNA y = 2) (hc : (r.map (fun v => v.category)).sum ≤ 8) (hm : (([a0, a1] : List Value).map (fun v => v.category)).sum ≤ zML y) (k : zCa y [a0, a1] σ (fun σ' v => zP c pc' ls (v.toList ++ r) σ' Q)) : zP c pc ls (a1 :: a0 :: r) σ Q := w_callG hk rfl (by rw [hy.2]; rfl) ⟨hc, Or.inr ⟨hm, fun h => by cases h⟩⟩ hy.1 k
theorem w_cv2 {a1 : Value} {y o : Nat} (hk : zat c pc (.invokevirtual y) 3 t pc') (hy : y < 900 ∧ zNA y = 2) (ho : zO σ o (zCI y)) (hc : (r.map (fun v => v.category)).sum ≤ 8) (hm : (([.ref o, a1] : List Value).map (fun v => v.category)).sum ≤ zML y) (k : zCa y [.ref o, a1] σ (fun σ' v => zP c pc' ls (v.toList ++ r) σ' Q)) : zP c pc ls (a1 :: .ref o :: r) σ Q := w_callG hk rfl (by rw [hy.2]; rfl) ⟨hc, Or.inr ⟨hm, fun _ => by simp only [zrcv, Bool.and_eq_true, decide_eq_true_eq, beq_iff_eq]; exact ho⟩⟩ hy.1 k
theorem w_cp2 {a1 : Value} {y o : Nat} (hk : zat c pc (.invokespecial y) 3 t pc') (hy : y < 900 ∧ zNA y = 2) (ho : zO σ o (zCI y)) (hc : (r.map (fun v => v.category)).sum ≤ 8) (hm : (([.ref o, a1] : List Value).map (fun v => v.category)).sum ≤ zML y) (k : zCa y [.ref o, a1] σ (fun σ' v => zP c pc' ls (v.toList ++ r) σ' Q)) : zP c pc ls (a1 :: .ref o :: r) σ Q := w_callG hk rfl (by rw [hy.2]; rfl) ⟨hc, Or.inr ⟨hm, fun _ => by simp only [zrcv, Bool.and_eq_true, decide_eq_true_eq, beq_iff_eq]; exact ho⟩⟩ hy.1 k
theorem w_cs3 {a0 a1 a2 : Value} {y : Nat} (hk : zat c pc (.invokestatic y) 3 t pc') (hy : y < 900 ∧ zNA y = 3) (hc : (r.map (fun v => v.category)).sum ≤ 8) (hm : (([a0, a1, a2] : List Value).map (fun v => v.category)).sum ≤ zML y) (k : zCa y [a0, a1, a2] σ (fun σ' v => zP c pc' ls (v.toList ++ r) σ' Q)) : zP c pc ls (a2 :: a1 :: a0 :: r) σ Q := w_callG hk rfl (by rw [hy.2]; rfl) ⟨hc, Or.inr ⟨hm, fun h => by cases h⟩⟩ hy.1 k
theorem w_cv3 {a1 a2 : Value} {y o : Nat} (hk : zat c pc (.invokevirtual y) 3 t pc') (hy : y < 900 ∧ zNA y = 3) (ho : zO σ o (zCI y)) (hc : (r.map (fun v => v.category)).sum ≤ 8) (hm : (([.ref o, a1, a2] : List Value).map (fun v => v.category)).sum ≤ zML y) (k : zCa y [.ref o, a1, a2] σ (fun σ' v => zP c pc' ls (v.toList ++ r) σ' Q)) : zP c pc ls (a2 :: a1 :: .ref o :: r) σ Q := w_callG hk rfl (by rw [hy.2]; rfl) ⟨hc, Or.inr ⟨hm, fun _ => by simp only [zrcv, Bool.and_eq_true, decide_eq_true_eq, beq_iff_eq]; exact ho⟩⟩ hy.1 k
theorem w_cp3 {a1 a2 : Value} {y o : Nat} (hk : zat c pc (.invokespecial y) 3 t pc') (hy : y < 900 ∧ zNA y = 3) (ho : zO σ o (zCI y)) (hc : (r.map (fun v => v.category)).sum ≤ 8) (hm : (([.ref o, a1, a2] : List Value).map (fun v => v.category)).sum ≤ zML y) (k : zCa y [.ref o, a1, a2] σ (fun σ' v => zP c pc' ls (v.toList ++ r) σ' Q)) : zP c pc ls (a2 :: a1 :: .ref o :: r) σ Q := w_callG hk rfl (by rw [hy.2]; rfl) ⟨hc, Or.inr ⟨hm, fun _ => by simp only [zrcv, Bool.and_eq_true, decide_eq_true_eq, beq_iff_eq]; exact ho⟩⟩ hy.1 k
theorem w_cs4 {a0 a1 a2 a3 : Value} {y : Nat} (hk : zat c pc (.invokestatic y) 3 t pc') (hy : y < 900 ∧ zNA y = 4) (hc : (r.map (fun v => v.category)).sum ≤ 8) (hm : (([a0, a1, a2, a3] : List Value).map (fun v => v.category)).sum ≤ zML y) (k : zCa y [a0, a1, a2, a3] σ (fun σ' v => zP c pc' ls (v.toList ++ r) σ' Q)) : zP c pc ls (a3 :: a2 :: a1 :: a0 :: r) σ Q := w_callG hk rfl (by rw [hy.2]; rfl) ⟨hc, Or.inr ⟨hm, fun h => by cases h⟩⟩ hy.1 k
theorem w_cv4 {a1 a2 a3 : Value} {y o : Nat} (hk : zat c pc (.invokevirtual y) 3 t pc') (hy : y < 900 ∧ zNA y = 4) (ho : zO σ o (zCI y)) (hc : (r.map (fun v => v.category)).sum ≤ 8) (hm : (([.ref o, a1, a2, a3] : List Value).map (fun v => v.category)).sum ≤ zML y) (k : zCa y [.ref o, a1, a2, a3] σ (fun σ' v => zP c pc' ls (v.toList ++ r) σ' Q)) : zP c pc ls (a3 :: a2 :: a1 :: .ref o :: r) σ Q := w_callG hk rfl (by rw [hy.2]; rfl) ⟨hc, Or.inr ⟨hm, fun _ => by simp only [zrcv, Bool.and_eq_true, decide_eq_true_eq, beq_iff_eq]; exact ho⟩⟩ hy.1 k
theorem w_cp4 {a1 a2 a3 : Value} {y o : Nat} (hk : zat c pc (.invokespecial y) 3 t pc') (hy : y < 900 ∧ zNA y = 4) (ho : zO σ o (zCI y)) (hc : (r.map (fun v => v.category)).sum ≤ 8) (hm : (([.ref o, a1, a2, a3] : List Value).map (fun v => v.category)).sum ≤ zML y) (k : zCa y [.ref o, a1, a2, a3] σ (fun σ' v => zP c pc' ls (v.toList ++ r) σ' Q)) : zP c pc ls (a3 :: a2 :: a1 :: .ref o :: r) σ Q := w_callG hk rfl (by rw [hy.2]; rfl) ⟨hc, Or.inr ⟨hm, fun _ => by simp only [zrcv, Bool.and_eq_true, decide_eq_true_eq, beq_iff_eq]; exact ho⟩⟩ hy.1 k
theorem w_cs5 {a0 a1 a2 a3 a4 : Value} {y : Nat} (hk : zat c pc (.invokestatic y) 3 t pc') (hy : y < 900 ∧ zNA y = 5) (hc : (r.map (fun v => v.category)).sum ≤ 8) (hm : (([a0, a1, a2, a3, a4] : List Value).map (fun v => v.category)).sum ≤ zML y) (k : zCa y [a0, a1, a2, a3, a4] σ (fun σ' v => zP c pc' ls (v.toList ++ r) σ' Q)) : zP c pc ls (a4 :: a3 :: a2 :: a1 :: a0 :: r) σ Q := w_callG hk rfl (by rw [hy.2]; rfl) ⟨hc, Or.inr ⟨hm, fun h => by cases h⟩⟩ hy.1 k
theorem w_cv5 {a1 a2 a3 a4 : Value} {y o : Nat} (hk : zat c pc (.invokevirtual y) 3 t pc') (hy : y < 900 ∧ zNA y = 5) (ho : zO σ o (zCI y)) (hc : (r.map (fun v => v.category)).sum ≤ 8) (hm : (([.ref o, a1, a2, a3, a4] : List Value).map (fun v => v.category)).sum ≤ zML y) (k : zCa y [.ref o, a1, a2, a3, a4] σ (fun σ' v => zP c pc' ls (v.toList ++ r) σ' Q)) : zP c pc ls (a4 :: a3 :: a2 :: a1 :: .ref o :: r) σ Q := w_callG hk rfl (by rw [hy.2]; rfl) ⟨hc, Or.inr ⟨hm, fun _ => by simp only [zrcv, Bool.and_eq_true, decide_eq_true_eq, beq_iff_eq]; exact ho⟩⟩ hy.1 k
theorem w_cp5 {a1 a2 a3 a4 : Value} {y o : Nat} (hk : zat c pc (.invokespecial y) 3 t pc') (hy : y < 900 ∧ zNA y = 5) (ho : zO σ o (zCI y)) (hc : (r.map (fun v => v.category)).sum ≤ 8) (hm : (([.ref o, a1, a2, a3, a4] : List Value).map (fun v => v.category)).sum ≤ zML y) (k : zCa y [.ref o, a1, a2, a3, a4] σ (fun σ' v => zP c pc' ls (v.toList ++ r) σ' Q)) : zP c pc ls (a4 :: a3 :: a2 :: a1 :: .ref o :: r) σ Q := w_callG hk rfl (by rw [hy.2]; rfl) ⟨hc, Or.inr ⟨hm, fun _ => by simp only [zrcv, Bool.and_eq_true, decide_eq_true_eq, beq_iff_eq]; exact ho⟩⟩ hy.1 k
theorem w_cs6 {a0 a1 a2 a3 a4 a5 : Value} {y : Nat} (hk : zat c pc (.invokestatic y) 3 t pc') (hy : y < 900 ∧ zNA y = 6) (hc : (r.map (fun v => v.category)).sum ≤ 8) (hm : (([a0, a1, a2, a3, a4, a5] : List Value).map (fun v => v.category)).sum ≤ zML y) (k : zCa y [a0, a1, a2, a3, a4, a5] σ (fun σ' v => zP c pc' ls (v.toList ++ r) σ' Q)) : zP c pc ls (a5 :: a4 :: a3 :: a2 :: a1 :: a0 :: r) σ Q := w_callG hk rfl (by rw [hy.2]; rfl) ⟨hc, Or.inr ⟨hm, fun h => by cases h⟩⟩ hy.1 k
theorem w_cv6 {a1 a2 a3 a4 a5 : Value} {y o : Nat} (hk : zat c pc (.invokevirtual y) 3 t pc') (hy : y < 900 ∧ zNA y = 6) (ho : zO σ o (zCI y)) (hc : (r.map (fun v => v.category)).sum ≤ 8) (hm : (([.ref o, a1, a2, a3, a4, a5] : List Value).map (fun v => v.category)).sum ≤ zML y) (k : zCa y [.ref o, a1, a2, a3, a4, a5] σ (fun σ' v => zP c pc' ls (v.toList ++ r) σ' Q)) : zP c pc ls (a5 :: a4 :: a3 :: a2 :: a1 :: .ref o :: r) σ Q := w_callG hk rfl (by rw [hy.2]; rfl) ⟨hc, Or.inr ⟨hm, fun _ => by simp only [zrcv, Bool.and_eq_true, decide_eq_true_eq, beq_iff_eq]; exact ho⟩⟩ hy.1 k
theorem w_cp6 {a1 a2 a3 a4 a5 : Value} {y o : Nat} (hk : zat c pc (.invokespecial y) 3 t pc') (hy : y < 900 ∧ zNA y = 6) (ho : zO σ o (zCI y)) (hc : (r.map (fun v => v.category)).sum ≤ 8) (hm : (([.ref o, a1, a2, a3, a4, a5] : List Value).map (fun v => v.category)).sum ≤ zML y) (k : zCa y [.ref o, a1, a2, a3, a4, a5] σ (fun σ' v => zP c pc' ls (v.toList ++ r) σ' Q)) : zP c pc ls (a5 :: a4 :: a3 :: a2 :: a1 :: .ref o :: r) σ Q := w_callG hk rfl (by rw [hy.2]; rfl) ⟨hc, Or.inr ⟨hm, fun _ => by simp only [zrcv, Bool.and_eq_true, decide_eq_true_eq, beq_iff_eq]; exact ho⟩⟩ hy.1 k
theorem w_cs7 {a0 a1 a2 a3 a4 a5 a6 : Value} {y : Nat} (hk : zat c pc (.invokestatic y) 3 t pc') (hy : y < 900 ∧ zNA y = 7) (hc : (r.map (fun v => v.category)).sum ≤ 8) (hm : (([a0, a1, a2, a3, a4, a5, a6] : List Value).map (fun v => v.category)).sum ≤ zML y) (k : zCa y [a0, a1, a2, a3, a4, a5, a6] σ (fun σ' v => zP c pc' ls (v.toList ++ r) σ' Q)) : zP c pc ls (a6 :: a5 :: a4 :: a3 :: a2 :: a1 :: a0 :: r) σ Q := w_callG hk rfl (by rw [hy.2]; rfl) ⟨hc, Or.inr ⟨hm, fun h => by cases h⟩⟩ hy.1 k
theorem w_cv7 {a1 a2 a3 a4 a5 a6 : Value} {y o : Nat} (hk : zat c pc (.invokevirtual y) 3 t pc') (hy : y < 900 ∧ zNA y = 7) (ho : zO σ o (zCI y)) (hc : (r.map (fun v => v.category)).sum ≤ 8) (hm : (([.ref o, a1, a2, a3, a4, a5, a6] : List Value).map (fun v => v.category)).sum ≤ zML y) (k : zCa y [.ref o, a1, a2, a3, a4, a5, a6] σ (fun σ' v => zP c pc' ls (v.toList ++ r) σ' Q)) : zP c pc ls (a6 :: a5 :: a4 :: a3 :: a2 :: a1 :: .ref o :: r) σ Q := w_callG hk rfl (by rw [hy.2]; rfl) ⟨hc, Or.inr ⟨hm, fun _ => by simp only [zrcv, Bool.and_eq_true, decide_eq_true_eq, beq_iff_eq]; exact ho⟩⟩ hy.1 k
theorem w_cp7 {a1 a2 a3 a4 a5 a6 : Value} {y o : Nat} (hk : zat c pc (.invokespecial y) 3 t pc') (hy : y < 900 ∧ zNA y = 7) (ho : zO σ o (zCI y)) (hc : (r.map (fun v => v.category)).sum ≤ 8) (hm : (([.ref o, a1, a2, a3, a4, a5, a6] : List Value).map (fun v => v.category)).sum ≤ zML y) (k : zCa y [.ref o, a1, a2, a3, a4, a5, a6] σ (fun σ' v => zP c pc' ls (v.toList ++ r) σ' Q)) : zP c pc ls (a6 :: a5 :: a4 :: a3 :: a2 :: a1 :: .ref o :: r) σ Q := w_callG hk rfl (by rw [hy.2]; rfl) ⟨hc, Or.inr ⟨hm, fun _ => by simp only [zrcv, Bool.and_eq_true, decide_eq_true_eq, beq_iff_eq]; exact ho⟩⟩ hy.1 k
theorem w_cs8 {a0 a1 a2 a3 a4 a5 a6 a7 : Value} {y : Nat} (hk : zat c pc (.invokestatic y) 3 t pc') (hy : y < 900 ∧ zNA y = 8) (hc : (r.map (fun v => v.category)).sum ≤ 8) (hm : (([a0, a1, a2, a3, a4, a5, a6, a7] : List Value).map (fun v => v.category)).sum ≤ zML y) (k : zCa y [a0, a1, a2, a3, a4, a5, a6, a7] σ (fun σ' v => zP c pc' ls (v.toList ++ r) σ' Q)) : zP c pc ls (a7 :: a6 :: a5 :: a4 :: a3 :: a2 :: a1 :: a0 :: r) σ Q := w_callG hk rfl (by rw [hy.2]; rfl) ⟨hc, Or.inr ⟨hm, fun h => by cases h⟩⟩ hy.1 k
theorem w_cv8 {a1 a2 a3 a4 a5 a6 a7 : Value} {y o : Nat} (hk : zat c pc (.invokevirtual y) 3 t pc') (hy : y < 900 ∧ zNA y = 8) (ho : zO σ o (zCI y)) (hc : (r.map (fun v => v.category)).sum ≤ 8) (hm : (([.ref o, a1, a2, a3, a4, a5, a6, a7] : List Value).map (fun v => v.category)).sum ≤ zML y) (k : zCa y [.ref o, a1, a2, a3, a4, a5, a6, a7] σ (fun σ' v => zP c pc' ls (v.toList ++ r) σ' Q)) : zP c pc ls (a7 :: a6 :: a5 :: a4 :: a3 :: a2 :: a1 :: .ref o :: r) σ Q := w_callG hk rfl (by rw [hy.2]; rfl) ⟨hc, Or.inr ⟨hm, fun _ => by simp only [zrcv, Bool.and_eq_true, decide_eq_true_eq, beq_iff_eq]; exact ho⟩⟩ hy.1 k
theorem w_cp8 {a1 a2 a3 a4 a5 a6 a7 : Value} {y o : Nat} (hk : zat c pc (.invokespecial y) 3 t pc') (hy : y < 900 ∧ zNA y = 8) (ho : zO σ o (zCI y)) (hc : (r.map (fun v => v.category)).sum ≤ 8) (hm : (([.ref o, a1, a2, a3, a4, a5, a6, a7] : List Value).map (fun v => v.category)).sum ≤ zML y) (k : zCa y [.ref o, a1, a2, a3, a4, a5, a6, a7] σ (fun σ' v => zP c pc' ls (v.toList ++ r) σ' Q)) : zP c pc ls (a7 :: a6 :: a5 :: a4 :: a3 :: a2 :: a1 :: .ref o :: r) σ Q := w_callG hk rfl (by rw [hy.2]; rfl) ⟨hc, Or.inr ⟨hm, fun _ => by simp only [zrcv, Bool.and_eq_true, decide_eq_true_eq, beq_iff_eq]; exact ho⟩⟩ hy.1 k
theorem w_cs9 {a0 a1 a2 a3 a4 a5 a6 a7 a8 : Value} {y : Nat} (hk : zat c pc (.invokestatic y) 3 t pc') (hy : y < 900 ∧ zNA y = 9) (hc : (r.map (fun v => v.category)).sum ≤ 8) (hm : (([a0, a1, a2, a3, a4, a5, a6, a7, a8] : List Value).map (fun v => v.category)).sum ≤ zML y) (k : zCa y [a0, a1, a2, a3, a4, a5, a6, a7, a8] σ (fun σ' v => zP c pc' ls (v.toList ++ r) σ' Q)) : zP c pc ls (a8 :: a7 :: a6 :: a5 :: a4 :: a3 :: a2 :: a1 :: a0 :: r) σ Q := w_callG hk rfl (by rw [hy.2]; rfl) ⟨hc, Or.inr ⟨hm, fun h => by cases h⟩⟩ hy.1 k
theorem w_cv9 {a1 a2 a3 a4 a5 a6 a7 a8 : Value} {y o : Nat} (hk : zat c pc (.invokevirtual y) 3 t pc') (hy : y < 900 ∧ zNA y = 9) (ho : zO σ o (zCI y)) (hc : (r.map (fun v => v.category)).sum ≤ 8) (hm : (([.ref o, a1, a2, a3, a4, a5, a6, a7, a8] : List Value).map (fun v => v.category)).sum ≤ zML y) (k : zCa y [.ref o, a1, a2, a3, a4, a5, a6, a7, a8] σ (fun σ' v => zP c pc' ls (v.toList ++ r) σ' Q)) : zP c pc ls (a8 :: a7 :: a6 :: a5 :: a4 :: a3 :: a2 :: a1 :: .ref o :: r) σ Q := w_callG hk rfl (by rw [hy.2]; rfl) ⟨hc, Or.inr ⟨hm, fun _ => by simp only [zrcv, Bool.and_eq_true, decide_eq_true_eq, beq_iff_eq]; exact ho⟩⟩ hy.1 k
theorem w_cp9 {a1 a2 a3 a4 a5 a6 a7 a8 : Value} {y o : Nat} (hk : zat c pc (.invokespecial y) 3 t pc') (hy : y < 900 ∧ zNA y = 9) (ho : zO σ o (zCI y)) (hc : (r.map (fun v => v.category)).sum ≤ 8) (hm : (([.ref o, a1, a2, a3, a4, a5, a6, a7, a8] : List Value).map (fun v => v.category)).sum ≤ zML y) (k : zCa y [.ref o, a1, a2, a3, a4, a5, a6, a7, a8] σ (fun σ' v => zP c pc' ls (v.toList ++ r) σ' Q)) : zP c pc ls (a8 :: a7 :: a6 :: a5 :: a4 :: a3 :: a2 :: a1 :: .ref o :: r) σ Q := w_callG hk rfl (by rw [hy.2]; rfl) ⟨hc, Or.inr ⟨hm, fun _ => by simp only [zrcv, Bool.and_eq_true, decide_eq_true_eq, beq_iff_eq]; exact ho⟩⟩ hy.1 k
theorem w_obj {o : Nat} (hk : zat c pc (.invokespecial 907) 3 t pc') (hc : (r.map (fun v => v.category)).sum ≤ 8) (k : zP c pc' ls r σ Q) : zP c pc ls (.ref o :: r) σ Q := w_natG (a := [.ref o]) (v1 := none) hk rfl rfl hc (by decide) rfl k
theorem zixZ {n j : Nat} (h : j < n ∧ n ≤ 2147483647) : zix (iZ j) n j := ⟨fun q => by have := (iZ_lt (a := j) (b := 0) (by omega) (by omega)).mp q; omega, iZ_clamp (by omega), h.1⟩
theorem zixA {a : Int} {n j : Nat} (h : a = j ∧ j < n ∧ n ≤ 2147483647) : zix (iZ a) n j := by
  obtain ⟨rfl, h⟩ := h
  exact zixZ h
theorem w_ic {n : Int} (hk : zat c pc (.iconst n) 1 t pc') (k : zP c pc' ls (.int (iZ n) :: st) σ Q) : zP c pc ls st σ Q := w_iconst hk k
theorem w_bi {n : Int} (hk : zat c pc (.bipush n) 2 t pc') (h : (Int8.ofInt n).toInt32 = iZ n) (k : zP c pc' ls (.int (iZ n) :: st) σ Q) : zP c pc ls st σ Q := w_bipush hk (h ▸ k)
theorem w_si {n : Int} (hk : zat c pc (.sipush n) 3 t pc') (h : (Int16.ofInt n).toInt32 = iZ n) (k : zP c pc' ls (.int (iZ n) :: st) σ Q) : zP c pc ls st σ Q := w_sipush hk (h ▸ k)
theorem w_iaddZ {a b : Int} (hk : zat c pc .iadd 1 t pc') (k : zP c pc' ls (.int (iZ (a + b)) :: r) σ Q) : zP c pc ls (.int (iZ b) :: .int (iZ a) :: r) σ Q := w_iadd hk (iZ_add a b ▸ k)
theorem w_isubZ {a b : Int} (hk : zat c pc .isub 1 t pc') (k : zP c pc' ls (.int (iZ (a - b)) :: r) σ Q) : zP c pc ls (.int (iZ b) :: .int (iZ a) :: r) σ Q := w_isub hk (iZ_sub a b ▸ k)
theorem w_imulZ {a b : Int} (hk : zat c pc .imul 1 t pc') (k : zP c pc' ls (.int (iZ (a * b)) :: r) σ Q) : zP c pc ls (.int (iZ b) :: .int (iZ a) :: r) σ Q := w_imul hk (iZ_mul a b ▸ k)
theorem w_idivZ {a b : Int} (hk : zat c pc .idiv 1 t pc') (h : (0 ≤ a ∧ a ≤ 2147483647) ∧ 0 < b ∧ b ≤ 2147483647) (k : zP c pc' ls (.int (iZ (a / b)) :: r) σ Q) : zP c pc ls (.int (iZ b) :: .int (iZ a) :: r) σ Q := w_idiv hk (fun q => by have := (iZ_inj (b := 0) (by omega) (by omega)).mp q; omega) (iZ_div h.1 h.2 ▸ k)
theorem w_iremZ {a b : Int} (hk : zat c pc .irem 1 t pc') (h : (0 ≤ a ∧ a ≤ 2147483647) ∧ 0 < b ∧ b ≤ 2147483647) (k : zP c pc' ls (.int (iZ (a % b)) :: r) σ Q) : zP c pc ls (.int (iZ b) :: .int (iZ a) :: r) σ Q := w_irem hk (fun q => by have := (iZ_inj (b := 0) (by omega) (by omega)).mp q; omega) (iZ_mod h.1 h.2 ▸ k)
theorem w_inegZ {a : Int} (hk : zat c pc .ineg 1 t pc') (k : zP c pc' ls (.int (iZ (-a)) :: r) σ Q) : zP c pc ls (.int (iZ a) :: r) σ Q := w_ineg hk (by rw [show -iZ a = iZ (-a) from (Int32.ofInt_neg a).symm]; exact k)
theorem w_laddY {a b : Int} (hk : zat c pc .ladd 1 t pc') (k : zP c pc' ls (.long (lZ (a + b)) :: r) σ Q) : zP c pc ls (.long (lZ b) :: .long (lZ a) :: r) σ Q := w_ladd hk (lZ_add a b ▸ k)
theorem w_lsubY {a b : Int} (hk : zat c pc .lsub 1 t pc') (k : zP c pc' ls (.long (lZ (a - b)) :: r) σ Q) : zP c pc ls (.long (lZ b) :: .long (lZ a) :: r) σ Q := w_lsub hk (lZ_sub a b ▸ k)
theorem w_lmulY {a b : Int} (hk : zat c pc .lmul 1 t pc') (k : zP c pc' ls (.long (lZ (a * b)) :: r) σ Q) : zP c pc ls (.long (lZ b) :: .long (lZ a) :: r) σ Q := w_lmul hk (lZ_mul a b ▸ k)
theorem w_i2lZ {a : Int} (hk : zat c pc .i2l 1 t pc') (h : -2147483648 ≤ a ∧ a ≤ 2147483647) (k : zP c pc' ls (.long (lZ a) :: r) σ Q) : zP c pc ls (.int (iZ a) :: r) σ Q := w_i2l hk (iZ_l h ▸ k)
theorem w_l2iY {a : Int} (hk : zat c pc .l2i 1 t pc') (k : zP c pc' ls (.int (iZ a) :: r) σ Q) : zP c pc ls (.long (lZ a) :: r) σ Q := w_l2i hk (lZ_i a ▸ k)
theorem w_iincZ {k : Nat} {n a : Int} (hk : zat c pc (.iinc k n) 3 t pc') (h : zld ls k = some (.int (iZ a))) (h1 : zok1 ls k = true) (kk : zP c pc' ((k, .int (iZ (a + n))) :: ls) st σ Q) : zP c pc ls st σ Q := w_iinc hk h h1 (by rw [show Int32.ofInt n = iZ n from rfl, iZ_add]; exact kk)
theorem w_ldcZ {j : Nat} {z : Int} (hk : zat c pc (.ldc j) 2 t pc') (h : zCT[j]? = some (.int (iZ z))) (kk : zP c pc' ls (.int (iZ z) :: st) σ Q) : zP c pc ls st σ Q := w_ldc hk h kk
theorem w_ldc2Y {j : Nat} {z : Int} (hk : zat c pc (.ldc2_w j) 3 t pc') (h : zCT[j]? = some (.long (lZ z))) (kk : zP c pc' ls (.long (lZ z) :: st) σ Q) : zP c pc ls st σ Q := w_ldc2_w hk h kk
theorem w_lc {n : Fin 2} {z : Int} (hk : zat c pc (.lconst n) 1 t pc') (h : Int64.ofNat (n : Nat) = lZ z) (k : zP c pc' ls (.long (lZ z) :: st) σ Q) : zP c pc ls st σ Q := w_lconst hk (h ▸ k)
theorem w_tsInZ {a dflt lo hi off : Int} {offs : Array Int} {pcT : Nat} (j : Nat) (hk : zat c pc (.tableswitch dflt lo hi offs) len t pc') (hx : a = lo + j ∧ -2147483648 ≤ a ∧ a ≤ 2147483647) (hj : lo + j ≤ hi) (ho : offs[j]? = some off) (ht : zjp pc off = pcT) (k : zP c pcT ls r σ Q) : zP c pc ls (.int (iZ a) :: r) σ Q := w_tsIn j hk (by rw [iZ_to hx.2]; exact hx.1) hj ho ht k
theorem w_tsOutZ {a dflt lo hi : Int} {offs : Array Int} {pcT : Nat} (hk : zat c pc (.tableswitch dflt lo hi offs) len t pc') (ht : zjp pc dflt = pcT) (hx : (a < lo ∨ hi < a) ∧ -2147483648 ≤ a ∧ a ≤ 2147483647) (k : zP c pcT ls r σ Q) : zP c pc ls (.int (iZ a) :: r) σ Q := w_tsOut hk ht (by rw [iZ_to hx.2]; exact hx.1) k
end ZWP
end
section
/-! FIXED POINTERS, FRAMES: what a part of a state hangs on. -/
def zfxl : List (List (Nat × Nat)) := [[(0, 3), (1, 1), (2, 79), (3, 102), (4, 104), (5, 109), (6, 110), (7, 111), (8, 112), (9, 113)], [(0, 2), (1, 3)], [], [(0, 4)], [], [(0, 6), (1, 7)], [(0, 8), (1, 13), (2, 18)], [(0, 23), (1, 31), (2, 39), (3, 47)], [(0, 9), (1, 10), (2, 11), (3, 12)], [], [], [], [], [(0, 14), (1, 15), (2, 16), (3, 17)], [], [], [], [], [(0, 19), (1, 20), (2, 21), (3, 22)], [], [], [], [], [(0, 24)], [(0, 25), (1, 26), (2, 27), (3, 28), (4, 29), (5, 30)], [], [], [], [], [], [], [(0, 32)], [(0, 33), (1, 34), (2, 35), (3, 36), (4, 37), (5, 38)], [], [], [], [], [], [], [(0, 40)], [(0, 41), (1, 42), (2, 43), (3, 44), (4, 45), (5, 46)], [], [], [], [], [], [], [(0, 48)], [(0, 49), (1, 50), (2, 51), (3, 52), (4, 53), (5, 54)], [], [], [], [], [], [], [(0, 56), (1, 57), (2, 58), (3, 59)], [], [], [], [], [(0, 61)], [(0, 62), (1, 63), (2, 64), (3, 65), (4, 66), (5, 67)], [], [], [], [], [], [], [(0, 69), (1, 70), (2, 71), (3, 72)], [], [], [], [], [(0, 74), (1, 75), (2, 76), (3, 77)], [], [], [], [], [], [(0, 80), (1, 81)], [], [(0, 82), (1, 83), (2, 84), (3, 85), (4, 86), (5, 87), (6, 88), (7, 89), (8, 90), (9, 91), (10, 92), (11, 93), (12, 94), (13, 95), (14, 96), (15, 97), (16, 98), (17, 99), (18, 100), (19, 101)], [], [], [], [], [], [], [], [], [], [], [], [], [], [], [], [], [], [], [], [], [(0, 103)], [], [(0, 105), (1, 106), (2, 107), (3, 108)], [], [], [], [], [], [], [], [], [], [(0, 115), (1, 116)], [(0, 117), (1, 122), (2, 127)], [(0, 132), (1, 140), (2, 148), (3, 156)], [(0, 118), (1, 119), (2, 120), (3, 121)], [], [], [], [], [(0, 123), (1, 124), (2, 125), (3, 126)], [], [], [], [], [(0, 128), (1, 129), (2, 130), (3, 131)], [], [], [], [], [(0, 133)], [(0, 134), (1, 135), (2, 136), (3, 137), (4, 138), (5, 139)], [], [], [], [], [], [], [(0, 141)], [(0, 142), (1, 143), (2, 144), (3, 145), (4, 146), (5, 147)], [], [], [], [], [], [], [(0, 149)], [(0, 150), (1, 151), (2, 152), (3, 153), (4, 154), (5, 155)], [], [], [], [], [], [], [(0, 157)], [(0, 158), (1, 159), (2, 160), (3, 161), (4, 162), (5, 163)], [], [], [], [], [], [], [(0, 165), (9, 166), (10, 167), (12, 168), (13, 169), (16, 170), (17, 171), (20, 172), (21, 173), (22, 174), (23, 175), (24, 176), (26, 177), (27, 178), (28, 179), (29, 180)], [], [], [], [], [], [], [], [], [], [], [], [], [], [], [], []]
def zfx (o k : Nat) : Option Nat := (((zfxl[o]?).getD []).find? (fun q => q.1 == k)).map (fun q => q.2)
/-- all objects are there, what points always points -/
def zFx (σ : zSt) : Prop := 181 ≤ zN σ ∧ ∀ o k a, zfx o k = some a → zR σ o k = some a
theorem zOl {σ : zSt} {o cl : Nat} (h : zFx σ) (e : (Nat.ble (o + 1) 181, (zLY o).1) = (true, cl)) : zO σ o cl := by
  have e1 := congrArg Prod.fst e
  exact ⟨Nat.lt_of_lt_of_le (Nat.le_of_ble_eq_true e1) h.1, congrArg Prod.snd e⟩
theorem zAl {σ : zSt} {a kd n : Nat} (h : zFx σ) (e : (Nat.ble (a + 1) 181, zLY a) = (true, kd, n)) : zA σ a kd n := by
  have e1 := Nat.le_of_ble_eq_true (congrArg Prod.fst e)
  exact ⟨Nat.lt_of_lt_of_le e1 h.1, congrArg Prod.snd e, by omega⟩
/-- ints, longs alone have changed, and these in the objects of w at the most -/
def zFm (w : List Nat) (σ σ' : zSt) : Prop := zN σ' = zN σ ∧ (∀ o k, zR σ' o k = zR σ o k) ∧ ∀ o, o ∉ w → (∀ k, zI σ' o k = zI σ o k) ∧ ∀ k, zL σ' o k = zL σ o k
theorem zFm.refl {w : List Nat} {σ : zSt} : zFm w σ σ := ⟨rfl, fun _ _ => rfl, fun _ _ => ⟨fun _ => rfl, fun _ => rfl⟩⟩
theorem zFm.trans {w : List Nat} {σ σ1 σ2 : zSt} (a : zFm w σ σ1) (b : zFm w σ1 σ2) : zFm w σ σ2 := ⟨b.1.trans a.1, fun o k => (b.2.1 o k).trans (a.2.1 o k), fun o h => ⟨fun k => ((b.2.2 o h).1 k).trans ((a.2.2 o h).1 k), fun k => ((b.2.2 o h).2 k).trans ((a.2.2 o h).2 k)⟩⟩
theorem zFm.mono {w v : List Nat} {σ σ1 : zSt} (a : zFm w σ σ1) (h : ∀ o, o ∈ w → o ∈ v) : zFm v σ σ1 := ⟨a.1, a.2.1, fun o ho => a.2.2 o (fun q => ho (h o q))⟩
theorem zFm.fx {w : List Nat} {σ σ' : zSt} (h : zFm w σ σ') (f : zFx σ) : zFx σ' := ⟨by rw [h.1]; exact f.1, fun o k a e => by rw [h.2.1]; exact f.2 o k a e⟩
theorem zI_wI {σ : zSt} {o k : Nat} {v : Int32} {o' k' : Nat} : zI (zwI σ o k v) o' k' = if o' = o ∧ k' = k then v else zI σ o' k' := by
  show va_up σ.1 o (va_up (σ.1 o) k v) o' k' = _
  unfold va_up
  by_cases h : o' = o
  · subst h
    by_cases h2 : k' = k
    · simp [h2]
    · simp [h2, zI]
  · simp [h, zI]
theorem zL_wL {σ : zSt} {o k : Nat} {v : Int64} {o' k' : Nat} : zL (zwL σ o k v) o' k' = if o' = o ∧ k' = k then v else zL σ o' k' := by
  show va_up σ.2.1 o (va_up (σ.2.1 o) k v) o' k' = _
  unfold va_up
  by_cases h : o' = o
  · subst h
    by_cases h2 : k' = k
    · simp [h2]
    · simp [h2, zL]
  · simp [h, zL]
theorem zR_wR {σ : zSt} {o k : Nat} {v : Option Nat} {o' k' : Nat} : zR (zwR σ o k v) o' k' = if o' = o ∧ k' = k then v else zR σ o' k' := by
  show va_up σ.2.2.1 o (va_up (σ.2.2.1 o) k v) o' k' = _
  unfold va_up
  by_cases h : o' = o
  · subst h
    by_cases h2 : k' = k
    · simp [h2]
    · simp [h2, zR]
  · simp [h, zR]
theorem zI_rI {σ : zSt} {o : Nat} {f : Nat → Int32} {o' k' : Nat} : zI (zrI σ o f) o' k' = if o' = o then f k' else zI σ o' k' := by
  show va_up σ.1 o f o' k' = _
  unfold va_up
  by_cases h : o' = o <;> simp [h, zI]
theorem zL_rL {σ : zSt} {o : Nat} {f : Nat → Int64} {o' k' : Nat} : zL (zrL σ o f) o' k' = if o' = o then f k' else zL σ o' k' := by
  show va_up σ.2.1 o f o' k' = _
  unfold va_up
  by_cases h : o' = o <;> simp [h, zL]
theorem zI_wI_s {σ : zSt} {o k : Nat} {v : Int32} : zI (zwI σ o k v) o k = v := by rw [zI_wI, if_pos ⟨rfl, rfl⟩]
theorem zL_wL_s {σ : zSt} {o k : Nat} {v : Int64} : zL (zwL σ o k v) o k = v := by rw [zL_wL, if_pos ⟨rfl, rfl⟩]
theorem zI_wI_n {σ : zSt} {o k : Nat} {v : Int32} {o' k' : Nat} (h : o' ≠ o ∨ k' ≠ k) : zI (zwI σ o k v) o' k' = zI σ o' k' := by rw [zI_wI, if_neg (by omega)]
theorem zL_wL_n {σ : zSt} {o k : Nat} {v : Int64} {o' k' : Nat} (h : o' ≠ o ∨ k' ≠ k) : zL (zwL σ o k v) o' k' = zL σ o' k' := by rw [zL_wL, if_neg (by omega)]
theorem zFm.wI {w : List Nat} {σ : zSt} {o k : Nat} {v : Int32} (h : o ∈ w) : zFm w σ (zwI σ o k v) := ⟨rfl, fun _ _ => rfl, fun o' ho => ⟨fun k' => zI_wI_n (Or.inl (fun e => ho (e ▸ h))), fun _ => rfl⟩⟩
theorem zFm.wL {w : List Nat} {σ : zSt} {o k : Nat} {v : Int64} (h : o ∈ w) : zFm w σ (zwL σ o k v) := ⟨rfl, fun _ _ => rfl, fun o' ho => ⟨fun _ => rfl, fun k' => zL_wL_n (Or.inl (fun e => ho (e ▸ h)))⟩⟩
theorem zFm.rI {w : List Nat} {σ : zSt} {o : Nat} {f : Nat → Int32} (h : o ∈ w) : zFm w σ (zrI σ o f) := ⟨rfl, fun _ _ => rfl, fun o' ho => ⟨fun k' => by rw [zI_rI, if_neg (fun e : o' = o => ho (e ▸ h))], fun _ => rfl⟩⟩
theorem zFm.rL {w : List Nat} {σ : zSt} {o : Nat} {f : Nat → Int64} (h : o ∈ w) : zFm w σ (zrL σ o f) := ⟨rfl, fun _ _ => rfl, fun o' ho => ⟨fun _ => rfl, fun k' => by rw [zL_rL, if_neg (fun e : o' = o => ho (e ▸ h))]⟩⟩
/-! THE TAPE: n bytes; b their numbers -/
def zTp (σ : zSt) (n : Nat) (b : Nat → Int) : Prop := zI σ 3 1 = iZ n ∧ n ≤ 1600 ∧ ∀ i, i < n → zI σ 4 i = iZ (b i) ∧ 0 ≤ b i ∧ b i ≤ 255
theorem zTp.fr {w : List Nat} {σ σ' : zSt} {n : Nat} {b : Nat → Int} (h : zTp σ n b) (f : zFm w σ σ') (h3 : 3 ∉ w) (h4 : 4 ∉ w) : zTp σ' n b := ⟨((f.2.2 3 h3).1 1).trans h.1, h.2.1, fun i hi => ⟨((f.2.2 4 h4).1 i).trans (h.2.2 i hi).1, (h.2.2 i hi).2⟩⟩
/-- the byte at a place; -1 where there is none -/
def zby (n : Nat) (b : Nat → Int) (z : Int) : Int := if 0 ≤ z ∧ z < n then b z.toNat else -1
theorem zby_rng {σ : zSt} {n : Nat} {b : Nat → Int} (h : zTp σ n b) (z : Int) : -1 ≤ zby n b z ∧ zby n b z ≤ 255 := by
  unfold zby
  split
  · have := (h.2.2 z.toNat (by omega)).2; omega
  · omega
theorem zby_in {n : Nat} {b : Nat → Int} {i : Nat} (h : i < n) : zby n b i = b i := by
  unfold zby
  rw [if_pos (by omega)]; rfl
theorem zby_out {n : Nat} {b : Nat → Int} {z : Int} (h : z < 0 ∨ n ≤ z) : zby n b z = -1 := by
  unfold zby
  rw [if_neg (by omega)]
abbrev zlt (n : Nat) (b : Nat → Int) (z : Int) : Prop := 97 ≤ zby n b z ∧ zby n b z ≤ 122
abbrev zdg (n : Nat) (b : Nat → Int) (z : Int) : Prop := 48 ≤ zby n b z ∧ zby n b z ≤ 57
abbrev zbl (n : Nat) (b : Nat → Int) (z : Int) : Prop := zby n b z = 10 ∨ zby n b z = 32
theorem zlt_in {n : Nat} {b : Nat → Int} {z : Int} (h : zlt n b z) : 0 ≤ z ∧ z < n := by
  unfold zlt zby at h
  split at h
  · assumption
  · omega
theorem zdg_in {n : Nat} {b : Nat → Int} {z : Int} (h : zdg n b z) : 0 ≤ z ∧ z < n := by
  unfold zdg zby at h
  split at h
  · assumption
  · omega
theorem zbl_in {n : Nat} {b : Nat → Int} {z : Int} (h : zbl n b z) : 0 ≤ z ∧ z < n := by
  unfold zbl zby at h
  split at h
  · assumption
  · omega
/-- how many places from z on are so, f at the most -/
def zcnt (p : Int → Prop) [DecidablePred p] : Nat → Int → Nat
  | 0, _ => 0
  | f + 1, z => if p z then zcnt p f (z + 1) + 1 else 0
theorem zcnt_t {p : Int → Prop} [DecidablePred p] {f : Nat} {z : Int} (h : p z) (hf : 0 < f) : zcnt p f z = zcnt p (f - 1) (z + 1) + 1 := by
  cases f with
  | zero => omega
  | succ f => rw [zcnt, if_pos h]; rfl
theorem zcnt_f {p : Int → Prop} [DecidablePred p] {f : Nat} {z : Int} (h : ¬ p z ∨ f = 0) : zcnt p f z = 0 := by
  cases f with
  | zero => rfl
  | succ f => rw [zcnt, if_neg (h.resolve_right (Nat.succ_ne_zero f))]
theorem zQi {Q : zSt → Option Value → Prop} {σ : zSt} {a b : Int} (h : Q σ (some (.int (iZ a)))) (e : b = a) : Q σ (some (.int (iZ b))) := e ▸ h
/-! A BOOK as the row that the reference keeps of it: t. Schemes, their fields; crossings, their rules. -/
abbrev zBk : Type := Nat → Int
def zNM (t : zBk) (s : Nat) : Int := t (2 + 20 * s)
def zNF (t : zBk) (s : Nat) : Int := t (3 + 20 * s)
def zFN (t : zBk) (s f : Nat) : Int := t (4 + 20 * s + 3 * f)
def zKD (t : zBk) (s f : Nat) : Int := t (5 + 20 * s + 3 * f)
def zCE (t : zBk) (s f : Nat) : Int := t (6 + 20 * s + 3 * f)
def zFO (t : zBk) (c : Nat) : Int := t (62 + 27 * c)
def zTO (t : zBk) (c : Nat) : Int := t (63 + 27 * c)
def zNU (t : zBk) (c : Nat) : Int := t (64 + 27 * c)
def zRT (t : zBk) (c r : Nat) : Int := t (65 + 27 * c + 4 * r)
def zRS (t : zBk) (c r : Nat) : Int := t (66 + 27 * c + 4 * r)
def zR1 (t : zBk) (c r : Nat) : Int := t (67 + 27 * c + 4 * r)
def zR2 (t : zBk) (c r : Nat) : Int := t (68 + 27 * c + 4 * r)
/-- where a field's cells begin in a record -/
def zst (t : zBk) (s : Nat) : Nat → Int
  | 0 => 0
  | f + 1 => zst t s f + zCE t s f
/-- a scheme that can be -/
def zVs (t : zBk) (s : Nat) : Prop := (0 ≤ zNF t s ∧ zNF t s ≤ 6) ∧ ∀ f : Nat, f < zNF t s → (0 ≤ zKD t s f ∧ zKD t s f ≤ 8) ∧ 1 ≤ zCE t s f ∧ zCE t s f ≤ 4
theorem zst_rng {t : zBk} {s : Nat} (h : zVs t s) : ∀ f : Nat, f ≤ zNF t s → f ≤ zst t s f ∧ zst t s f ≤ 4 * f
  | 0, _ => by unfold zst; omega
  | f + 1, hf => by
    have := zst_rng h f (by omega)
    have := (h.2 f (by omega)).2
    unfold zst
    omega
theorem zst_mono {t : zBk} {s : Nat} (h : zVs t s) {f : Nat} : ∀ g : Nat, f < g → g ≤ zNF t s → zst t s f + zCE t s f ≤ zst t s g
  | 0, hg, _ => by omega
  | g + 1, hg, hn => by
    show _ ≤ zst t s g + zCE t s g
    rcases Nat.lt_or_ge f g with h1 | h1
    · have := zst_mono h g h1 (by omega)
      have := (h.2 g (by omega)).2
      omega
    · rw [show f = g by omega]; omega
theorem zst_24 {t : zBk} {s f : Nat} (h : zVs t s) (hf : (f : Int) < zNF t s) : (0 ≤ zst t s f ∧ zst t s f + zCE t s f ≤ 24) ∧ 1 ≤ zCE t s f ∧ zCE t s f ≤ 4 := by
  have h1 := zst_rng h f (by omega)
  have h2 := (h.2 f hf).2
  have h3 := zst_mono h (zNF t s).toNat (f := f) (by omega) (by omega)
  have h4 := zst_rng h (zNF t s).toNat (by omega)
  have := h.1
  omega
/-- the place of a record's cell among the class's, the reference's cells -/
def zpq (t : zBk) (s f r i : Nat) : Nat := 11 + (s * 8 + r) * 24 + (zst t s f).toNat + i
def zpr (t : zBk) (s f r i : Nat) : Nat := 11 + 32 * (6 * s + f) + (zCE t s f).toNat * r + i
theorem zdivm {a b : Int} {r i : Nat} (h : a = r * b + i) (hi : (i : Int) < b) : a / b = r ∧ a % b = i := by
  subst h
  have e1 : ((r : Int) * b + i) = i + b * r := by rw [Int.mul_comm]; omega
  rw [e1]
  refine ⟨?_, ?_⟩
  · rw [Int.add_mul_ediv_left _ _ (by omega), Int.ediv_eq_zero_of_lt (by omega) hi]; omega
  · rw [Int.add_mul_emod_self_left, Int.emod_eq_of_lt (by omega) hi]
/-- a rule, a crossing, a book that can be -/
def zVr (t : zBk) (c r : Nat) : Prop := (0 ≤ zRT t c r ∧ zRT t c r < zNF t (zTO t c).toNat) ∧ (0 ≤ zRS t c r ∧ zRS t c r ≤ 4) ∧ (zRS t c r ≠ 4 → (0 ≤ zR1 t c r ∧ zR1 t c r < zNF t (zFO t c).toNat)) ∧ (zRS t c r = 4 → zR1 t c r = -1 ∧ zKD t (zTO t c).toNat (zRT t c r).toNat ≠ 0) ∧ (zRS t c r = 3 → (0 ≤ zR2 t c r ∧ zR2 t c r < zNF t (zFO t c).toNat) ∧ 1 ≤ zKD t (zFO t c).toNat (zR2 t c r).toNat ∧ zKD t (zFO t c).toNat (zR2 t c r).toNat ≤ 7) ∧ (zRS t c r = 1 ∨ zRS t c r = 2 → 1 ≤ zR2 t c r) ∧ (0 ≤ zR2 t c r ∧ zR2 t c r ≤ 999) ∧ (zRS t c r = 0 → zR2 t c r = 0) ∧ (zRS t c r ≠ 0 ∧ zRS t c r ≠ 4 → 1 ≤ zKD t (zFO t c).toNat (zR1 t c r).toNat ∧ zKD t (zFO t c).toNat (zR1 t c r).toNat ≤ 7)
def zVc (t : zBk) (c : Nat) : Prop := (0 ≤ zFO t c ∧ zFO t c < t 0) ∧ (0 ≤ zTO t c ∧ zTO t c < t 0) ∧ zFO t c ≠ zTO t c ∧ (1 ≤ zNU t c ∧ zNU t c ≤ 6) ∧ (∀ r : Nat, r < zNU t c → zVr t c r) ∧ ∀ r q : Nat, r < zNU t c → q < zNU t c → zRT t c r = zRT t c q → r = q
def zVt (t : zBk) : Prop := (0 ≤ t 0 ∧ t 0 ≤ 3) ∧ (0 ≤ t 1 ∧ t 1 ≤ 4) ∧ (∀ s : Nat, s < t 0 → zVs t s ∧ 1 ≤ zNF t s) ∧ ∀ c : Nat, c < t 1 → zVc t c
/-- the reference's row of a book -/
def zTr (σ : zSt) (t : zBk) : Prop := (∀ i, i < 170 → zI σ 169 i = iZ (t i)) ∧ zI σ 164 14 = iZ (if t 0 = 0 then 0 else 1)
/-- how many records, for the reference -/
def zCm (σ : zSt) (c : Nat → Int) : Prop := ∀ s, s < 3 → zL σ 170 s = lZ (c s) ∧ 0 ≤ c s ∧ c s ≤ 8
/-- what widens to what -/
abbrev zgi (a b : Int) : Prop := a = b ∨ (b ≤ 7 ∧ ((a = 1 ∧ 3 ≤ b) ∨ ((a = 2 ∨ a = 3) ∧ 4 ≤ b) ∨ ((a = 4 ∨ a = 5 ∨ a = 6) ∧ a < b)))
def zWid (σ : zSt) : Prop := ∀ a b : Nat, a ≤ 8 → b ≤ 8 → zI σ 171 (9 * a + b) = iZ (if zgi a b then 1 else 0)
/-- what a rule makes, through how many cells it goes -/
def zMK (t : zBk) (c r : Nat) : Int := if zRS t c r = 4 then 4 else if zRS t c r = 0 then zKD t (zFO t c).toNat (zR1 t c r).toNat else if zRS t c r = 3 ∧ 5 < zKD t (zFO t c).toNat (zR2 t c r).toNat then 7 else if 5 < zKD t (zFO t c).toNat (zR1 t c r).toNat then 7 else 5
def zTK (t : zBk) (c r : Nat) : Int := zKD t (zTO t c).toNat (zRT t c r).toNat
def zLR (t : zBk) (c r : Nat) : Int := if zRS t c r = 4 then zCE t (zTO t c).toNat (zRT t c r).toNat else if zRS t c r = 3 then min (min (zCE t (zTO t c).toNat (zRT t c r).toNat) (zCE t (zFO t c).toNat (zR1 t c r).toNat)) (zCE t (zFO t c).toNat (zR2 t c r).toNat) else min (zCE t (zTO t c).toNat (zRT t c r).toNat) (zCE t (zFO t c).toNat (zR1 t c r).toNat)
/-- the class's scheme object o holds scheme s of t -/
def zSh (σ : zSt) (o : Nat) (t : zBk) (s : Nat) : Prop := zI σ o 5 = iZ (zNF t s) ∧ zI σ o 6 = iZ (zst t s (zNF t s).toNat) ∧ ∀ f : Nat, f < zNF t s → zI σ (o + 2) f = iZ (zKD t s f) ∧ zI σ (o + 3) f = iZ (zCE t s f) ∧ zI σ (o + 4) f = iZ (zst t s f)
def zIsS (o : Nat) : Prop := o = 8 ∨ o = 13 ∨ o = 18 ∨ o = 117 ∨ o = 122 ∨ o = 127
def zIsG (o : Nat) : Prop := o = 23 ∨ o = 31 ∨ o = 39 ∨ o = 47 ∨ o = 132 ∨ o = 140 ∨ o = 148 ∨ o = 156
theorem zIsS.o {σ : zSt} {o : Nat} (h : zIsS o) (hF : zFx σ) : zO σ o 6 := by rcases h with rfl | rfl | rfl | rfl | rfl | rfl <;> exact zOl hF rfl
theorem zIsS.p {σ : zSt} {o : Nat} (h : zIsS o) (hF : zFx σ) : zR σ o 0 = some (o + 1) ∧ zR σ o 1 = some (o + 2) ∧ zR σ o 2 = some (o + 3) ∧ zR σ o 3 = some (o + 4) := by rcases h with rfl | rfl | rfl | rfl | rfl | rfl <;> exact ⟨hF.2 _ _ _ rfl, hF.2 _ _ _ rfl, hF.2 _ _ _ rfl, hF.2 _ _ _ rfl⟩
theorem zIsS.a {σ : zSt} {o : Nat} (h : zIsS o) (hF : zFx σ) : zA σ (o + 1) 12 6 ∧ zA σ (o + 2) 12 6 ∧ zA σ (o + 3) 12 6 ∧ zA σ (o + 4) 12 6 := by rcases h with rfl | rfl | rfl | rfl | rfl | rfl <;> exact ⟨zAl hF rfl, zAl hF rfl, zAl hF rfl, zAl hF rfl⟩
theorem zIsG.o {σ : zSt} {o : Nat} (h : zIsG o) (hF : zFx σ) : zO σ o 2 := by rcases h with rfl | rfl | rfl | rfl | rfl | rfl | rfl | rfl <;> exact zOl hF rfl
theorem zIsG.p {σ : zSt} {o : Nat} (h : zIsG o) (hF : zFx σ) : zR σ o 0 = some (o + 1) := by rcases h with rfl | rfl | rfl | rfl | rfl | rfl | rfl | rfl <;> exact hF.2 _ _ _ rfl
theorem zIsG.a {σ : zSt} {o : Nat} (h : zIsG o) (hF : zFx σ) : zA σ (o + 1) 16 6 := by rcases h with rfl | rfl | rfl | rfl | rfl | rfl | rfl | rfl <;> exact zAl hF rfl
theorem zr6 {r : Nat} (h : r < 6) : r = 0 ∨ r = 1 ∨ r = 2 ∨ r = 3 ∨ r = 4 ∨ r = 5 := by omega
theorem zIsG.r {σ : zSt} {o : Nat} (h : zIsG o) (hF : zFx σ) {r : Nat} (hr : r < 6) : zR σ (o + 1) r = some (o + 2 + r) ∧ zO σ (o + 2 + r) 5 := by
  rcases h with rfl | rfl | rfl | rfl | rfl | rfl | rfl | rfl <;> rcases zr6 hr with rfl | rfl | rfl | rfl | rfl | rfl <;> exact ⟨hF.2 _ _ _ rfl, zOl hF rfl⟩
def zIsB (p : Nat) : Prop := p = 5 ∨ p = 114
theorem zIsB.o {σ : zSt} {p : Nat} (h : zIsB p) (hF : zFx σ) : zO σ p 3 ∧ zR σ p 0 = some (p + 1) ∧ zR σ p 1 = some (p + 2) ∧ zA σ (p + 1) 17 3 ∧ zA σ (p + 2) 15 4 := by rcases h with rfl | rfl <;> exact ⟨zOl hF rfl, hF.2 _ _ _ rfl, hF.2 _ _ _ rfl, zAl hF rfl, zAl hF rfl⟩
theorem zIsB.s {σ : zSt} {p : Nat} (h : zIsB p) (hF : zFx σ) {s : Nat} (hs : s < 3) : zR σ (p + 1) s = some (p + 3 + 5 * s) ∧ zIsS (p + 3 + 5 * s) := by
  rcases h with rfl | rfl <;> rcases (show s = 0 ∨ s = 1 ∨ s = 2 by omega) with rfl | rfl | rfl <;> exact ⟨hF.2 _ _ _ rfl, by unfold zIsS; omega⟩
theorem zIsB.g {σ : zSt} {p : Nat} (h : zIsB p) (hF : zFx σ) {c : Nat} (hc : c < 4) : zR σ (p + 2) c = some (p + 18 + 8 * c) ∧ zIsG (p + 18 + 8 * c) := by
  rcases h with rfl | rfl <;> rcases (show c = 0 ∨ c = 1 ∨ c = 2 ∨ c = 3 by omega) with rfl | rfl | rfl | rfl <;> exact ⟨hF.2 _ _ _ rfl, by unfold zIsG; omega⟩
/-- a value as it is read: nothing is an empty word -/
def zvl (kd : Int) (x : Int64) : Int64 := if kd = 8 ∧ x = lZ (-1) then lZ 0 else x
/-- how many records of each scheme there are -/
def zCn (σ : zSt) (c : Nat → Int) : Prop := ∀ s, s < 3 → zL σ 80 s = lZ (c s) ∧ 0 ≤ c s ∧ c s ≤ 8
end
