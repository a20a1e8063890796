section
-- ===== PART A: goes FIRST, ahead of the names: the tables' words, and 'selects' of the private methods out of them =====
/-- a private method of a class that the tables say can be made, by its rows of tables_1 -/
def lw_okq (q : MethodName × Nat) : Prop := (q.1.cls ≠ "java/lang/invoke/MethodHandle" ∧ q.1.cls ≠ "java/lang/invoke/VarHandle") ∧ Cond.instantiable q.1.cls q.2 ∈ tables_1 ∧ Cond.privateMethod q.1 ∈ tables_1 ∧ Cond.instanceMethod q.1 ∈ tables_1
theorem lw_p0 : lw_okq (⟨"RecordBridge$BookReader", "lookAtNext", "()V"⟩, 20) := ⟨⟨by decide +kernel, by decide +kernel⟩, List.mem_of_getElem? (i := 34) (by decide +kernel), List.mem_of_getElem? (i := 479) (by decide +kernel), List.mem_of_getElem? (i := 480) (by decide +kernel)⟩
theorem lw_p1 : lw_okq (⟨"RecordBridge$BookReader", "takeInScheme", "()Z"⟩, 20) := ⟨⟨by decide +kernel, by decide +kernel⟩, List.mem_of_getElem? (i := 34) (by decide +kernel), List.mem_of_getElem? (i := 519) (by decide +kernel), List.mem_of_getElem? (i := 520) (by decide +kernel)⟩
theorem lw_p2 : lw_okq (⟨"RecordBridge$BookReader", "takeStatement", "()Z"⟩, 20) := ⟨⟨by decide +kernel, by decide +kernel⟩, List.mem_of_getElem? (i := 34) (by decide +kernel), List.mem_of_getElem? (i := 523) (by decide +kernel), List.mem_of_getElem? (i := 524) (by decide +kernel)⟩
theorem lw_p3 : lw_okq (⟨"RecordBridge$BookReader", "refuse", "(II)Z"⟩, 20) := ⟨⟨by decide +kernel, by decide +kernel⟩, List.mem_of_getElem? (i := 34) (by decide +kernel), List.mem_of_getElem? (i := 527) (by decide +kernel), List.mem_of_getElem? (i := 528) (by decide +kernel)⟩
theorem lw_p4 : lw_okq (⟨"RecordBridge$BookReader", "goOn", "(I)Z"⟩, 20) := ⟨⟨by decide +kernel, by decide +kernel⟩, List.mem_of_getElem? (i := 34) (by decide +kernel), List.mem_of_getElem? (i := 531) (by decide +kernel), List.mem_of_getElem? (i := 532) (by decide +kernel)⟩
theorem lw_p5 : lw_okq (⟨"RecordBridge$BookReader", "takeSchemeName", "()Z"⟩, 20) := ⟨⟨by decide +kernel, by decide +kernel⟩, List.mem_of_getElem? (i := 34) (by decide +kernel), List.mem_of_getElem? (i := 538) (by decide +kernel), List.mem_of_getElem? (i := 539) (by decide +kernel)⟩
theorem lw_p6 : lw_okq (⟨"RecordBridge$BookReader", "nameStands", "()Z"⟩, 20) := ⟨⟨by decide +kernel, by decide +kernel⟩, List.mem_of_getElem? (i := 34) (by decide +kernel), List.mem_of_getElem? (i := 542) (by decide +kernel), List.mem_of_getElem? (i := 543) (by decide +kernel)⟩
theorem lw_p7 : lw_okq (⟨"RecordBridge$BookReader", "takeKind", "()Z"⟩, 20) := ⟨⟨by decide +kernel, by decide +kernel⟩, List.mem_of_getElem? (i := 34) (by decide +kernel), List.mem_of_getElem? (i := 562) (by decide +kernel), List.mem_of_getElem? (i := 563) (by decide +kernel)⟩
theorem lw_p8 : lw_okq (⟨"RecordBridge$BookReader", "refuseOneMore", "()Z"⟩, 20) := ⟨⟨by decide +kernel, by decide +kernel⟩, List.mem_of_getElem? (i := 34) (by decide +kernel), List.mem_of_getElem? (i := 566) (by decide +kernel), List.mem_of_getElem? (i := 567) (by decide +kernel)⟩
theorem lw_p9 : lw_okq (⟨"RecordBridge$BookReader", "takeFieldName", "()Z"⟩, 20) := ⟨⟨by decide +kernel, by decide +kernel⟩, List.mem_of_getElem? (i := 34) (by decide +kernel), List.mem_of_getElem? (i := 570) (by decide +kernel), List.mem_of_getElem? (i := 571) (by decide +kernel)⟩
theorem lw_p10 : lw_okq (⟨"RecordBridge$BookReader", "takeSign", "(I)Z"⟩, 20) := ⟨⟨by decide +kernel, by decide +kernel⟩, List.mem_of_getElem? (i := 34) (by decide +kernel), List.mem_of_getElem? (i := 582) (by decide +kernel), List.mem_of_getElem? (i := 583) (by decide +kernel)⟩
theorem lw_p11 : lw_okq (⟨"RecordBridge$BookReader", "takeTimesNumber", "()Z"⟩, 20) := ⟨⟨by decide +kernel, by decide +kernel⟩, List.mem_of_getElem? (i := 34) (by decide +kernel), List.mem_of_getElem? (i := 587) (by decide +kernel), List.mem_of_getElem? (i := 588) (by decide +kernel)⟩
theorem lw_p12 : lw_okq (⟨"RecordBridge$BookReader", "numberStands", "(II)Z"⟩, 20) := ⟨⟨by decide +kernel, by decide +kernel⟩, List.mem_of_getElem? (i := 34) (by decide +kernel), List.mem_of_getElem? (i := 591) (by decide +kernel), List.mem_of_getElem? (i := 592) (by decide +kernel)⟩
theorem lw_p13 : lw_okq (⟨"RecordBridge$BookReader", "takeInCross", "()Z"⟩, 20) := ⟨⟨by decide +kernel, by decide +kernel⟩, List.mem_of_getElem? (i := 34) (by decide +kernel), List.mem_of_getElem? (i := 604) (by decide +kernel), List.mem_of_getElem? (i := 605) (by decide +kernel)⟩
theorem lw_p14 : lw_okq (⟨"RecordBridge$BookReader", "takeFirstScheme", "()Z"⟩, 20) := ⟨⟨by decide +kernel, by decide +kernel⟩, List.mem_of_getElem? (i := 34) (by decide +kernel), List.mem_of_getElem? (i := 608) (by decide +kernel), List.mem_of_getElem? (i := 609) (by decide +kernel)⟩
theorem lw_p15 : lw_okq (⟨"RecordBridge$BookReader", "takeSecondScheme", "()Z"⟩, 20) := ⟨⟨by decide +kernel, by decide +kernel⟩, List.mem_of_getElem? (i := 34) (by decide +kernel), List.mem_of_getElem? (i := 612) (by decide +kernel), List.mem_of_getElem? (i := 613) (by decide +kernel)⟩
def lw_privs_1 : List (MethodName × Nat) := [(⟨"RecordBridge$BookReader", "lookAtNext", "()V"⟩, 20), (⟨"RecordBridge$BookReader", "takeInScheme", "()Z"⟩, 20), (⟨"RecordBridge$BookReader", "takeStatement", "()Z"⟩, 20), (⟨"RecordBridge$BookReader", "refuse", "(II)Z"⟩, 20), (⟨"RecordBridge$BookReader", "goOn", "(I)Z"⟩, 20), (⟨"RecordBridge$BookReader", "takeSchemeName", "()Z"⟩, 20), (⟨"RecordBridge$BookReader", "nameStands", "()Z"⟩, 20), (⟨"RecordBridge$BookReader", "takeKind", "()Z"⟩, 20), (⟨"RecordBridge$BookReader", "refuseOneMore", "()Z"⟩, 20), (⟨"RecordBridge$BookReader", "takeFieldName", "()Z"⟩, 20), (⟨"RecordBridge$BookReader", "takeSign", "(I)Z"⟩, 20), (⟨"RecordBridge$BookReader", "takeTimesNumber", "()Z"⟩, 20), (⟨"RecordBridge$BookReader", "numberStands", "(II)Z"⟩, 20), (⟨"RecordBridge$BookReader", "takeInCross", "()Z"⟩, 20), (⟨"RecordBridge$BookReader", "takeFirstScheme", "()Z"⟩, 20), (⟨"RecordBridge$BookReader", "takeSecondScheme", "()Z"⟩, 20)]
theorem lw_r1 : ∀ q ∈ lw_privs_1, lw_okq q := List.forall_mem_cons.mpr ⟨lw_p0, List.forall_mem_cons.mpr ⟨lw_p1, List.forall_mem_cons.mpr ⟨lw_p2, List.forall_mem_cons.mpr ⟨lw_p3, List.forall_mem_cons.mpr ⟨lw_p4, List.forall_mem_cons.mpr ⟨lw_p5, List.forall_mem_cons.mpr ⟨lw_p6, List.forall_mem_cons.mpr ⟨lw_p7, List.forall_mem_cons.mpr ⟨lw_p8, List.forall_mem_cons.mpr ⟨lw_p9, List.forall_mem_cons.mpr ⟨lw_p10, List.forall_mem_cons.mpr ⟨lw_p11, List.forall_mem_cons.mpr ⟨lw_p12, List.forall_mem_cons.mpr ⟨lw_p13, List.forall_mem_cons.mpr ⟨lw_p14, List.forall_mem_cons.mpr ⟨lw_p15, fun _ h => absurd h List.not_mem_nil⟩⟩⟩⟩⟩⟩⟩⟩⟩⟩⟩⟩⟩⟩⟩⟩
theorem lw_p16 : lw_okq (⟨"RecordBridge$BookReader", "takeTarget", "()Z"⟩, 20) := ⟨⟨by decide +kernel, by decide +kernel⟩, List.mem_of_getElem? (i := 34) (by decide +kernel), List.mem_of_getElem? (i := 629) (by decide +kernel), List.mem_of_getElem? (i := 630) (by decide +kernel)⟩
theorem lw_p17 : lw_okq (⟨"RecordBridge$BookReader", "takeNumberSource", "()Z"⟩, 20) := ⟨⟨by decide +kernel, by decide +kernel⟩, List.mem_of_getElem? (i := 34) (by decide +kernel), List.mem_of_getElem? (i := 641) (by decide +kernel), List.mem_of_getElem? (i := 642) (by decide +kernel)⟩
theorem lw_p18 : lw_okq (⟨"RecordBridge$BookReader", "beginRule", "(IIII)Z"⟩, 20) := ⟨⟨by decide +kernel, by decide +kernel⟩, List.mem_of_getElem? (i := 34) (by decide +kernel), List.mem_of_getElem? (i := 649) (by decide +kernel), List.mem_of_getElem? (i := 650) (by decide +kernel)⟩
theorem lw_p19 : lw_okq (⟨"RecordBridge$BookReader", "takeFieldSource", "()Z"⟩, 20) := ⟨⟨by decide +kernel, by decide +kernel⟩, List.mem_of_getElem? (i := 34) (by decide +kernel), List.mem_of_getElem? (i := 661) (by decide +kernel), List.mem_of_getElem? (i := 662) (by decide +kernel)⟩
theorem lw_p20 : lw_okq (⟨"RecordBridge$BookReader", "takeSort", "()Z"⟩, 20) := ⟨⟨by decide +kernel, by decide +kernel⟩, List.mem_of_getElem? (i := 34) (by decide +kernel), List.mem_of_getElem? (i := 665) (by decide +kernel), List.mem_of_getElem? (i := 666) (by decide +kernel)⟩
theorem lw_p21 : lw_okq (⟨"RecordBridge$BookReader", "takeRuleSign", "()Z"⟩, 20) := ⟨⟨by decide +kernel, by decide +kernel⟩, List.mem_of_getElem? (i := 34) (by decide +kernel), List.mem_of_getElem? (i := 672) (by decide +kernel), List.mem_of_getElem? (i := 673) (by decide +kernel)⟩
theorem lw_p22 : lw_okq (⟨"RecordBridge$BookReader", "takeFactor", "()Z"⟩, 20) := ⟨⟨by decide +kernel, by decide +kernel⟩, List.mem_of_getElem? (i := 34) (by decide +kernel), List.mem_of_getElem? (i := 692) (by decide +kernel), List.mem_of_getElem? (i := 693) (by decide +kernel)⟩
theorem lw_p23 : lw_okq (⟨"RecordBridge$BookReader", "takeSecondField", "()Z"⟩, 20) := ⟨⟨by decide +kernel, by decide +kernel⟩, List.mem_of_getElem? (i := 34) (by decide +kernel), List.mem_of_getElem? (i := 696) (by decide +kernel), List.mem_of_getElem? (i := 697) (by decide +kernel)⟩
theorem lw_p24 : lw_okq (⟨"RecordBridge", "hasOfScheme", "(I)I"⟩, 14) := ⟨⟨by decide +kernel, by decide +kernel⟩, List.mem_of_getElem? (i := 26) (by decide +kernel), List.mem_of_getElem? (i := 713) (by decide +kernel), List.mem_of_getElem? (i := 714) (by decide +kernel)⟩
theorem lw_p25 : lw_okq (⟨"RecordBridge", "rowSort", "(II)I"⟩, 14) := ⟨⟨by decide +kernel, by decide +kernel⟩, List.mem_of_getElem? (i := 26) (by decide +kernel), List.mem_of_getElem? (i := 767) (by decide +kernel), List.mem_of_getElem? (i := 768) (by decide +kernel)⟩
theorem lw_p26 : lw_okq (⟨"RecordBridge", "placesOf", "(III)I"⟩, 14) := ⟨⟨by decide +kernel, by decide +kernel⟩, List.mem_of_getElem? (i := 26) (by decide +kernel), List.mem_of_getElem? (i := 771) (by decide +kernel), List.mem_of_getElem? (i := 772) (by decide +kernel)⟩
theorem lw_p27 : lw_okq (⟨"RecordBridge", "kindRefusal", "(IIII)I"⟩, 14) := ⟨⟨by decide +kernel, by decide +kernel⟩, List.mem_of_getElem? (i := 26) (by decide +kernel), List.mem_of_getElem? (i := 779) (by decide +kernel), List.mem_of_getElem? (i := 780) (by decide +kernel)⟩
theorem lw_p28 : lw_okq (⟨"RecordBridge$Rows", "rawAt", "(ILRecordBridge$Shape;II)J"⟩, 4) := ⟨⟨by decide +kernel, by decide +kernel⟩, List.mem_of_getElem? (i := 331) (by decide +kernel), List.mem_of_getElem? (i := 788) (by decide +kernel), List.mem_of_getElem? (i := 789) (by decide +kernel)⟩
theorem lw_p29 : lw_okq (⟨"RecordBridge", "thingRefusal", "(IIII)I"⟩, 14) := ⟨⟨by decide +kernel, by decide +kernel⟩, List.mem_of_getElem? (i := 26) (by decide +kernel), List.mem_of_getElem? (i := 881) (by decide +kernel), List.mem_of_getElem? (i := 882) (by decide +kernel)⟩
theorem lw_p30 : lw_okq (⟨"RecordBridge$Rows", "blank", "(II)V"⟩, 4) := ⟨⟨by decide +kernel, by decide +kernel⟩, List.mem_of_getElem? (i := 331) (by decide +kernel), List.mem_of_getElem? (i := 927) (by decide +kernel), List.mem_of_getElem? (i := 928) (by decide +kernel)⟩
theorem lw_p31 : lw_okq (⟨"RecordBridge$Rows", "move", "(III)V"⟩, 4) := ⟨⟨by decide +kernel, by decide +kernel⟩, List.mem_of_getElem? (i := 331) (by decide +kernel), List.mem_of_getElem? (i := 940) (by decide +kernel), List.mem_of_getElem? (i := 941) (by decide +kernel)⟩
def lw_privs_2 : List (MethodName × Nat) := [(⟨"RecordBridge$BookReader", "takeTarget", "()Z"⟩, 20), (⟨"RecordBridge$BookReader", "takeNumberSource", "()Z"⟩, 20), (⟨"RecordBridge$BookReader", "beginRule", "(IIII)Z"⟩, 20), (⟨"RecordBridge$BookReader", "takeFieldSource", "()Z"⟩, 20), (⟨"RecordBridge$BookReader", "takeSort", "()Z"⟩, 20), (⟨"RecordBridge$BookReader", "takeRuleSign", "()Z"⟩, 20), (⟨"RecordBridge$BookReader", "takeFactor", "()Z"⟩, 20), (⟨"RecordBridge$BookReader", "takeSecondField", "()Z"⟩, 20), (⟨"RecordBridge", "hasOfScheme", "(I)I"⟩, 14), (⟨"RecordBridge", "rowSort", "(II)I"⟩, 14), (⟨"RecordBridge", "placesOf", "(III)I"⟩, 14), (⟨"RecordBridge", "kindRefusal", "(IIII)I"⟩, 14), (⟨"RecordBridge$Rows", "rawAt", "(ILRecordBridge$Shape;II)J"⟩, 4), (⟨"RecordBridge", "thingRefusal", "(IIII)I"⟩, 14), (⟨"RecordBridge$Rows", "blank", "(II)V"⟩, 4), (⟨"RecordBridge$Rows", "move", "(III)V"⟩, 4)]
theorem lw_r2 : ∀ q ∈ lw_privs_2, lw_okq q := List.forall_mem_cons.mpr ⟨lw_p16, List.forall_mem_cons.mpr ⟨lw_p17, List.forall_mem_cons.mpr ⟨lw_p18, List.forall_mem_cons.mpr ⟨lw_p19, List.forall_mem_cons.mpr ⟨lw_p20, List.forall_mem_cons.mpr ⟨lw_p21, List.forall_mem_cons.mpr ⟨lw_p22, List.forall_mem_cons.mpr ⟨lw_p23, List.forall_mem_cons.mpr ⟨lw_p24, List.forall_mem_cons.mpr ⟨lw_p25, List.forall_mem_cons.mpr ⟨lw_p26, List.forall_mem_cons.mpr ⟨lw_p27, List.forall_mem_cons.mpr ⟨lw_p28, List.forall_mem_cons.mpr ⟨lw_p29, List.forall_mem_cons.mpr ⟨lw_p30, List.forall_mem_cons.mpr ⟨lw_p31, fun _ h => absurd h List.not_mem_nil⟩⟩⟩⟩⟩⟩⟩⟩⟩⟩⟩⟩⟩⟩⟩⟩
theorem lw_p32 : lw_okq (⟨"RecordBridge", "makeByChance", "()Z"⟩, 14) := ⟨⟨by decide +kernel, by decide +kernel⟩, List.mem_of_getElem? (i := 26) (by decide +kernel), List.mem_of_getElem? (i := 957) (by decide +kernel), List.mem_of_getElem? (i := 958) (by decide +kernel)⟩
theorem lw_p33 : lw_okq (⟨"RecordBridge", "draw", "(I)I"⟩, 14) := ⟨⟨by decide +kernel, by decide +kernel⟩, List.mem_of_getElem? (i := 26) (by decide +kernel), List.mem_of_getElem? (i := 961) (by decide +kernel), List.mem_of_getElem? (i := 962) (by decide +kernel)⟩
theorem lw_p34 : lw_okq (⟨"RecordBridge", "carryRecord", "(LRecordBridge$Passage;I)V"⟩, 14) := ⟨⟨by decide +kernel, by decide +kernel⟩, List.mem_of_getElem? (i := 26) (by decide +kernel), List.mem_of_getElem? (i := 972) (by decide +kernel), List.mem_of_getElem? (i := 973) (by decide +kernel)⟩
theorem lw_p35 : lw_okq (⟨"RecordBridge$Carrier", "carryByRule", "(LRecordBridge$Rule;LRecordBridge$Shape;LRecordBridge$Shape;[J[J)V"⟩, 1) := ⟨⟨by decide +kernel, by decide +kernel⟩, List.mem_of_getElem? (i := 367) (by decide +kernel), List.mem_of_getElem? (i := 986) (by decide +kernel), List.mem_of_getElem? (i := 987) (by decide +kernel)⟩
theorem lw_p36 : lw_okq (⟨"RecordBridge$Passage", "carriesAlone", "(II)Z"⟩, 4) := ⟨⟨by decide +kernel, by decide +kernel⟩, List.mem_of_getElem? (i := 111) (by decide +kernel), List.mem_of_getElem? (i := 1053) (by decide +kernel), List.mem_of_getElem? (i := 1054) (by decide +kernel)⟩
theorem lw_p37 : lw_okq (⟨"RecordBridge$Ways", "leads", "(LRecordBridge$Plan;IIII)Z"⟩, 6) := ⟨⟨by decide +kernel, by decide +kernel⟩, List.mem_of_getElem? (i := 379) (by decide +kernel), List.mem_of_getElem? (i := 1069) (by decide +kernel), List.mem_of_getElem? (i := 1070) (by decide +kernel)⟩
theorem lw_p38 : lw_okq (⟨"RecordBridge$Ways", "choose", "(I)V"⟩, 6) := ⟨⟨by decide +kernel, by decide +kernel⟩, List.mem_of_getElem? (i := 379) (by decide +kernel), List.mem_of_getElem? (i := 1074) (by decide +kernel), List.mem_of_getElem? (i := 1075) (by decide +kernel)⟩
theorem lw_p39 : lw_okq (⟨"RecordBridge$Ways", "lostBySteps", "(LRecordBridge$Plan;I[JLRecordBridge$Carrier;)I"⟩, 6) := ⟨⟨by decide +kernel, by decide +kernel⟩, List.mem_of_getElem? (i := 379) (by decide +kernel), List.mem_of_getElem? (i := 1091) (by decide +kernel), List.mem_of_getElem? (i := 1092) (by decide +kernel)⟩
theorem lw_p40 : lw_okq (⟨"RecordBridge$Rows", "areAlike", "(ILRecordBridge$Shape;III)Z"⟩, 4) := ⟨⟨by decide +kernel, by decide +kernel⟩, List.mem_of_getElem? (i := 331) (by decide +kernel), List.mem_of_getElem? (i := 1109) (by decide +kernel), List.mem_of_getElem? (i := 1110) (by decide +kernel)⟩
theorem lw_p41 : lw_okq (⟨"RecordBridgeModel", "refuses", "(I)I"⟩, 32) := ⟨⟨by decide +kernel, by decide +kernel⟩, List.mem_of_getElem? (i := 1137) (by decide +kernel), List.mem_of_getElem? (i := 1246) (by decide +kernel), List.mem_of_getElem? (i := 1247) (by decide +kernel)⟩
theorem lw_p42 : lw_okq (⟨"RecordBridgeModel", "isRefused", "(I)Z"⟩, 32) := ⟨⟨by decide +kernel, by decide +kernel⟩, List.mem_of_getElem? (i := 1137) (by decide +kernel), List.mem_of_getElem? (i := 1254) (by decide +kernel), List.mem_of_getElem? (i := 1255) (by decide +kernel)⟩
theorem lw_p43 : lw_okq (⟨"RecordBridgeModel", "look", "()I"⟩, 32) := ⟨⟨by decide +kernel, by decide +kernel⟩, List.mem_of_getElem? (i := 1137) (by decide +kernel), List.mem_of_getElem? (i := 1274) (by decide +kernel), List.mem_of_getElem? (i := 1275) (by decide +kernel)⟩
theorem lw_p44 : lw_okq (⟨"RecordBridgeModel", "fail", "(II)V"⟩, 32) := ⟨⟨by decide +kernel, by decide +kernel⟩, List.mem_of_getElem? (i := 1137) (by decide +kernel), List.mem_of_getElem? (i := 1278) (by decide +kernel), List.mem_of_getElem? (i := 1279) (by decide +kernel)⟩
theorem lw_p45 : lw_okq (⟨"RecordBridgeModel", "statementTold", "()V"⟩, 32) := ⟨⟨by decide +kernel, by decide +kernel⟩, List.mem_of_getElem? (i := 1137) (by decide +kernel), List.mem_of_getElem? (i := 1282) (by decide +kernel), List.mem_of_getElem? (i := 1283) (by decide +kernel)⟩
theorem lw_p46 : lw_okq (⟨"RecordBridgeModel", "takes", "(I)Z"⟩, 32) := ⟨⟨by decide +kernel, by decide +kernel⟩, List.mem_of_getElem? (i := 1137) (by decide +kernel), List.mem_of_getElem? (i := 1286) (by decide +kernel), List.mem_of_getElem? (i := 1287) (by decide +kernel)⟩
theorem lw_p47 : lw_okq (⟨"RecordBridgeModel", "ownHere", "()I"⟩, 32) := ⟨⟨by decide +kernel, by decide +kernel⟩, List.mem_of_getElem? (i := 1137) (by decide +kernel), List.mem_of_getElem? (i := 1290) (by decide +kernel), List.mem_of_getElem? (i := 1291) (by decide +kernel)⟩
def lw_privs_3 : List (MethodName × Nat) := [(⟨"RecordBridge", "makeByChance", "()Z"⟩, 14), (⟨"RecordBridge", "draw", "(I)I"⟩, 14), (⟨"RecordBridge", "carryRecord", "(LRecordBridge$Passage;I)V"⟩, 14), (⟨"RecordBridge$Carrier", "carryByRule", "(LRecordBridge$Rule;LRecordBridge$Shape;LRecordBridge$Shape;[J[J)V"⟩, 1), (⟨"RecordBridge$Passage", "carriesAlone", "(II)Z"⟩, 4), (⟨"RecordBridge$Ways", "leads", "(LRecordBridge$Plan;IIII)Z"⟩, 6), (⟨"RecordBridge$Ways", "choose", "(I)V"⟩, 6), (⟨"RecordBridge$Ways", "lostBySteps", "(LRecordBridge$Plan;I[JLRecordBridge$Carrier;)I"⟩, 6), (⟨"RecordBridge$Rows", "areAlike", "(ILRecordBridge$Shape;III)Z"⟩, 4), (⟨"RecordBridgeModel", "refuses", "(I)I"⟩, 32), (⟨"RecordBridgeModel", "isRefused", "(I)Z"⟩, 32), (⟨"RecordBridgeModel", "look", "()I"⟩, 32), (⟨"RecordBridgeModel", "fail", "(II)V"⟩, 32), (⟨"RecordBridgeModel", "statementTold", "()V"⟩, 32), (⟨"RecordBridgeModel", "takes", "(I)Z"⟩, 32), (⟨"RecordBridgeModel", "ownHere", "()I"⟩, 32)]
theorem lw_r3 : ∀ q ∈ lw_privs_3, lw_okq q := List.forall_mem_cons.mpr ⟨lw_p32, List.forall_mem_cons.mpr ⟨lw_p33, List.forall_mem_cons.mpr ⟨lw_p34, List.forall_mem_cons.mpr ⟨lw_p35, List.forall_mem_cons.mpr ⟨lw_p36, List.forall_mem_cons.mpr ⟨lw_p37, List.forall_mem_cons.mpr ⟨lw_p38, List.forall_mem_cons.mpr ⟨lw_p39, List.forall_mem_cons.mpr ⟨lw_p40, List.forall_mem_cons.mpr ⟨lw_p41, List.forall_mem_cons.mpr ⟨lw_p42, List.forall_mem_cons.mpr ⟨lw_p43, List.forall_mem_cons.mpr ⟨lw_p44, List.forall_mem_cons.mpr ⟨lw_p45, List.forall_mem_cons.mpr ⟨lw_p46, List.forall_mem_cons.mpr ⟨lw_p47, fun _ h => absurd h List.not_mem_nil⟩⟩⟩⟩⟩⟩⟩⟩⟩⟩⟩⟩⟩⟩⟩⟩
theorem lw_p48 : lw_okq (⟨"RecordBridgeModel", "isWordHere", "()Z"⟩, 32) := ⟨⟨by decide +kernel, by decide +kernel⟩, List.mem_of_getElem? (i := 1137) (by decide +kernel), List.mem_of_getElem? (i := 1294) (by decide +kernel), List.mem_of_getElem? (i := 1295) (by decide +kernel)⟩
theorem lw_p49 : lw_okq (⟨"RecordBridgeModel", "isLike", "(II)Z"⟩, 32) := ⟨⟨by decide +kernel, by decide +kernel⟩, List.mem_of_getElem? (i := 1137) (by decide +kernel), List.mem_of_getElem? (i := 1301) (by decide +kernel), List.mem_of_getElem? (i := 1302) (by decide +kernel)⟩
theorem lw_p50 : lw_okq (⟨"RecordBridgeModel", "passes", "()V"⟩, 32) := ⟨⟨by decide +kernel, by decide +kernel⟩, List.mem_of_getElem? (i := 1137) (by decide +kernel), List.mem_of_getElem? (i := 1305) (by decide +kernel), List.mem_of_getElem? (i := 1306) (by decide +kernel)⟩
theorem lw_p51 : lw_okq (⟨"RecordBridgeModel", "schemeTold", "(I)V"⟩, 32) := ⟨⟨by decide +kernel, by decide +kernel⟩, List.mem_of_getElem? (i := 1137) (by decide +kernel), List.mem_of_getElem? (i := 1309) (by decide +kernel), List.mem_of_getElem? (i := 1310) (by decide +kernel)⟩
theorem lw_p52 : lw_okq (⟨"RecordBridgeModel", "name", "()I"⟩, 32) := ⟨⟨by decide +kernel, by decide +kernel⟩, List.mem_of_getElem? (i := 1137) (by decide +kernel), List.mem_of_getElem? (i := 1313) (by decide +kernel), List.mem_of_getElem? (i := 1314) (by decide +kernel)⟩
theorem lw_p53 : lw_okq (⟨"RecordBridgeModel", "schemeNamed", "([II)I"⟩, 32) := ⟨⟨by decide +kernel, by decide +kernel⟩, List.mem_of_getElem? (i := 1137) (by decide +kernel), List.mem_of_getElem? (i := 1317) (by decide +kernel), List.mem_of_getElem? (i := 1318) (by decide +kernel)⟩
theorem lw_p54 : lw_okq (⟨"RecordBridgeModel", "fieldTold", "(I)V"⟩, 32) := ⟨⟨by decide +kernel, by decide +kernel⟩, List.mem_of_getElem? (i := 1137) (by decide +kernel), List.mem_of_getElem? (i := 1324) (by decide +kernel), List.mem_of_getElem? (i := 1325) (by decide +kernel)⟩
theorem lw_p55 : lw_okq (⟨"RecordBridgeModel", "fieldNamed", "([III)I"⟩, 32) := ⟨⟨by decide +kernel, by decide +kernel⟩, List.mem_of_getElem? (i := 1137) (by decide +kernel), List.mem_of_getElem? (i := 1329) (by decide +kernel), List.mem_of_getElem? (i := 1330) (by decide +kernel)⟩
theorem lw_p56 : lw_okq (⟨"RecordBridgeModel", "number", "(II)I"⟩, 32) := ⟨⟨by decide +kernel, by decide +kernel⟩, List.mem_of_getElem? (i := 1137) (by decide +kernel), List.mem_of_getElem? (i := 1336) (by decide +kernel), List.mem_of_getElem? (i := 1337) (by decide +kernel)⟩
theorem lw_p57 : lw_okq (⟨"RecordBridgeModel", "takesSign", "(I)Z"⟩, 32) := ⟨⟨by decide +kernel, by decide +kernel⟩, List.mem_of_getElem? (i := 1137) (by decide +kernel), List.mem_of_getElem? (i := 1343) (by decide +kernel), List.mem_of_getElem? (i := 1344) (by decide +kernel)⟩
theorem lw_p58 : lw_okq (⟨"RecordBridgeModel", "crossTold", "(I)V"⟩, 32) := ⟨⟨by decide +kernel, by decide +kernel⟩, List.mem_of_getElem? (i := 1137) (by decide +kernel), List.mem_of_getElem? (i := 1347) (by decide +kernel), List.mem_of_getElem? (i := 1348) (by decide +kernel)⟩
theorem lw_p59 : lw_okq (⟨"RecordBridgeModel", "schemeHere", "()I"⟩, 32) := ⟨⟨by decide +kernel, by decide +kernel⟩, List.mem_of_getElem? (i := 1137) (by decide +kernel), List.mem_of_getElem? (i := 1351) (by decide +kernel), List.mem_of_getElem? (i := 1352) (by decide +kernel)⟩
theorem lw_p60 : lw_okq (⟨"RecordBridgeModel", "asks", "(I)V"⟩, 32) := ⟨⟨by decide +kernel, by decide +kernel⟩, List.mem_of_getElem? (i := 1137) (by decide +kernel), List.mem_of_getElem? (i := 1355) (by decide +kernel), List.mem_of_getElem? (i := 1356) (by decide +kernel)⟩
theorem lw_p61 : lw_okq (⟨"RecordBridgeModel", "ruleTold", "(III)V"⟩, 32) := ⟨⟨by decide +kernel, by decide +kernel⟩, List.mem_of_getElem? (i := 1137) (by decide +kernel), List.mem_of_getElem? (i := 1362) (by decide +kernel), List.mem_of_getElem? (i := 1363) (by decide +kernel)⟩
theorem lw_p62 : lw_okq (⟨"RecordBridgeModel", "fieldHere", "(I)I"⟩, 32) := ⟨⟨by decide +kernel, by decide +kernel⟩, List.mem_of_getElem? (i := 1137) (by decide +kernel), List.mem_of_getElem? (i := 1366) (by decide +kernel), List.mem_of_getElem? (i := 1367) (by decide +kernel)⟩
theorem lw_p63 : lw_okq (⟨"RecordBridgeModel", "kindDrafted", "(II)I"⟩, 32) := ⟨⟨by decide +kernel, by decide +kernel⟩, List.mem_of_getElem? (i := 1137) (by decide +kernel), List.mem_of_getElem? (i := 1373) (by decide +kernel), List.mem_of_getElem? (i := 1374) (by decide +kernel)⟩
def lw_privs_4 : List (MethodName × Nat) := [(⟨"RecordBridgeModel", "isWordHere", "()Z"⟩, 32), (⟨"RecordBridgeModel", "isLike", "(II)Z"⟩, 32), (⟨"RecordBridgeModel", "passes", "()V"⟩, 32), (⟨"RecordBridgeModel", "schemeTold", "(I)V"⟩, 32), (⟨"RecordBridgeModel", "name", "()I"⟩, 32), (⟨"RecordBridgeModel", "schemeNamed", "([II)I"⟩, 32), (⟨"RecordBridgeModel", "fieldTold", "(I)V"⟩, 32), (⟨"RecordBridgeModel", "fieldNamed", "([III)I"⟩, 32), (⟨"RecordBridgeModel", "number", "(II)I"⟩, 32), (⟨"RecordBridgeModel", "takesSign", "(I)Z"⟩, 32), (⟨"RecordBridgeModel", "crossTold", "(I)V"⟩, 32), (⟨"RecordBridgeModel", "schemeHere", "()I"⟩, 32), (⟨"RecordBridgeModel", "asks", "(I)V"⟩, 32), (⟨"RecordBridgeModel", "ruleTold", "(III)V"⟩, 32), (⟨"RecordBridgeModel", "fieldHere", "(I)I"⟩, 32), (⟨"RecordBridgeModel", "kindDrafted", "(II)I"⟩, 32)]
theorem lw_r4 : ∀ q ∈ lw_privs_4, lw_okq q := List.forall_mem_cons.mpr ⟨lw_p48, List.forall_mem_cons.mpr ⟨lw_p49, List.forall_mem_cons.mpr ⟨lw_p50, List.forall_mem_cons.mpr ⟨lw_p51, List.forall_mem_cons.mpr ⟨lw_p52, List.forall_mem_cons.mpr ⟨lw_p53, List.forall_mem_cons.mpr ⟨lw_p54, List.forall_mem_cons.mpr ⟨lw_p55, List.forall_mem_cons.mpr ⟨lw_p56, List.forall_mem_cons.mpr ⟨lw_p57, List.forall_mem_cons.mpr ⟨lw_p58, List.forall_mem_cons.mpr ⟨lw_p59, List.forall_mem_cons.mpr ⟨lw_p60, List.forall_mem_cons.mpr ⟨lw_p61, List.forall_mem_cons.mpr ⟨lw_p62, List.forall_mem_cons.mpr ⟨lw_p63, fun _ h => absurd h List.not_mem_nil⟩⟩⟩⟩⟩⟩⟩⟩⟩⟩⟩⟩⟩⟩⟩⟩
theorem lw_p64 : lw_okq (⟨"RecordBridgeModel", "rule", "(IIIII)V"⟩, 32) := ⟨⟨by decide +kernel, by decide +kernel⟩, List.mem_of_getElem? (i := 1137) (by decide +kernel), List.mem_of_getElem? (i := 1377) (by decide +kernel), List.mem_of_getElem? (i := 1378) (by decide +kernel)⟩
theorem lw_p65 : lw_okq (⟨"RecordBridgeModel", "sourceTold", "(III)V"⟩, 32) := ⟨⟨by decide +kernel, by decide +kernel⟩, List.mem_of_getElem? (i := 1137) (by decide +kernel), List.mem_of_getElem? (i := 1381) (by decide +kernel), List.mem_of_getElem? (i := 1382) (by decide +kernel)⟩
theorem lw_p66 : lw_okq (⟨"RecordBridgeModel", "asksSign", "(I)V"⟩, 32) := ⟨⟨by decide +kernel, by decide +kernel⟩, List.mem_of_getElem? (i := 1137) (by decide +kernel), List.mem_of_getElem? (i := 1388) (by decide +kernel), List.mem_of_getElem? (i := 1389) (by decide +kernel)⟩
theorem lw_p67 : lw_okq (⟨"RecordBridgeModel", "begins", "()V"⟩, 32) := ⟨⟨by decide +kernel, by decide +kernel⟩, List.mem_of_getElem? (i := 1137) (by decide +kernel), List.mem_of_getElem? (i := 1392) (by decide +kernel), List.mem_of_getElem? (i := 1393) (by decide +kernel)⟩
theorem lw_p68 : lw_okq (⟨"RecordBridgeModel", "isScheme", "(I)Z"⟩, 32) := ⟨⟨by decide +kernel, by decide +kernel⟩, List.mem_of_getElem? (i := 1137) (by decide +kernel), List.mem_of_getElem? (i := 1405) (by decide +kernel), List.mem_of_getElem? (i := 1406) (by decide +kernel)⟩
theorem lw_p69 : lw_okq (⟨"RecordBridgeModel", "recordMany", "(I)I"⟩, 32) := ⟨⟨by decide +kernel, by decide +kernel⟩, List.mem_of_getElem? (i := 1137) (by decide +kernel), List.mem_of_getElem? (i := 1409) (by decide +kernel), List.mem_of_getElem? (i := 1410) (by decide +kernel)⟩
theorem lw_p70 : lw_okq (⟨"RecordBridgeModel", "fieldMany", "(I)I"⟩, 32) := ⟨⟨by decide +kernel, by decide +kernel⟩, List.mem_of_getElem? (i := 1137) (by decide +kernel), List.mem_of_getElem? (i := 1413) (by decide +kernel), List.mem_of_getElem? (i := 1414) (by decide +kernel)⟩
theorem lw_p71 : lw_okq (⟨"RecordBridgeModel", "isField", "(II)Z"⟩, 32) := ⟨⟨by decide +kernel, by decide +kernel⟩, List.mem_of_getElem? (i := 1137) (by decide +kernel), List.mem_of_getElem? (i := 1421) (by decide +kernel), List.mem_of_getElem? (i := 1422) (by decide +kernel)⟩
theorem lw_p72 : lw_okq (⟨"RecordBridgeModel", "kindOf", "(II)I"⟩, 32) := ⟨⟨by decide +kernel, by decide +kernel⟩, List.mem_of_getElem? (i := 1137) (by decide +kernel), List.mem_of_getElem? (i := 1433) (by decide +kernel), List.mem_of_getElem? (i := 1434) (by decide +kernel)⟩
theorem lw_p73 : lw_okq (⟨"RecordBridgeModel", "cellsOf", "(II)I"⟩, 32) := ⟨⟨by decide +kernel, by decide +kernel⟩, List.mem_of_getElem? (i := 1137) (by decide +kernel), List.mem_of_getElem? (i := 1437) (by decide +kernel), List.mem_of_getElem? (i := 1438) (by decide +kernel)⟩
theorem lw_p74 : lw_okq (⟨"RecordBridgeModel", "isCrossing", "(I)Z"⟩, 32) := ⟨⟨by decide +kernel, by decide +kernel⟩, List.mem_of_getElem? (i := 1137) (by decide +kernel), List.mem_of_getElem? (i := 1445) (by decide +kernel), List.mem_of_getElem? (i := 1446) (by decide +kernel)⟩
theorem lw_p75 : lw_okq (⟨"RecordBridgeModel", "fromOf", "(I)I"⟩, 32) := ⟨⟨by decide +kernel, by decide +kernel⟩, List.mem_of_getElem? (i := 1137) (by decide +kernel), List.mem_of_getElem? (i := 1449) (by decide +kernel), List.mem_of_getElem? (i := 1450) (by decide +kernel)⟩
theorem lw_p76 : lw_okq (⟨"RecordBridgeModel", "toOf", "(I)I"⟩, 32) := ⟨⟨by decide +kernel, by decide +kernel⟩, List.mem_of_getElem? (i := 1137) (by decide +kernel), List.mem_of_getElem? (i := 1453) (by decide +kernel), List.mem_of_getElem? (i := 1454) (by decide +kernel)⟩
theorem lw_p77 : lw_okq (⟨"RecordBridgeModel", "ruleMany", "(I)I"⟩, 32) := ⟨⟨by decide +kernel, by decide +kernel⟩, List.mem_of_getElem? (i := 1137) (by decide +kernel), List.mem_of_getElem? (i := 1457) (by decide +kernel), List.mem_of_getElem? (i := 1458) (by decide +kernel)⟩
theorem lw_p78 : lw_okq (⟨"RecordBridgeModel", "readBits", "(I)I"⟩, 32) := ⟨⟨by decide +kernel, by decide +kernel⟩, List.mem_of_getElem? (i := 1137) (by decide +kernel), List.mem_of_getElem? (i := 1461) (by decide +kernel), List.mem_of_getElem? (i := 1462) (by decide +kernel)⟩
theorem lw_p79 : lw_okq (⟨"RecordBridgeModel", "ruleHas", "(III)I"⟩, 32) := ⟨⟨by decide +kernel, by decide +kernel⟩, List.mem_of_getElem? (i := 1137) (by decide +kernel), List.mem_of_getElem? (i := 1465) (by decide +kernel), List.mem_of_getElem? (i := 1466) (by decide +kernel)⟩
def lw_privs_5 : List (MethodName × Nat) := [(⟨"RecordBridgeModel", "rule", "(IIIII)V"⟩, 32), (⟨"RecordBridgeModel", "sourceTold", "(III)V"⟩, 32), (⟨"RecordBridgeModel", "asksSign", "(I)V"⟩, 32), (⟨"RecordBridgeModel", "begins", "()V"⟩, 32), (⟨"RecordBridgeModel", "isScheme", "(I)Z"⟩, 32), (⟨"RecordBridgeModel", "recordMany", "(I)I"⟩, 32), (⟨"RecordBridgeModel", "fieldMany", "(I)I"⟩, 32), (⟨"RecordBridgeModel", "isField", "(II)Z"⟩, 32), (⟨"RecordBridgeModel", "kindOf", "(II)I"⟩, 32), (⟨"RecordBridgeModel", "cellsOf", "(II)I"⟩, 32), (⟨"RecordBridgeModel", "isCrossing", "(I)Z"⟩, 32), (⟨"RecordBridgeModel", "fromOf", "(I)I"⟩, 32), (⟨"RecordBridgeModel", "toOf", "(I)I"⟩, 32), (⟨"RecordBridgeModel", "ruleMany", "(I)I"⟩, 32), (⟨"RecordBridgeModel", "readBits", "(I)I"⟩, 32), (⟨"RecordBridgeModel", "ruleHas", "(III)I"⟩, 32)]
theorem lw_r5 : ∀ q ∈ lw_privs_5, lw_okq q := List.forall_mem_cons.mpr ⟨lw_p64, List.forall_mem_cons.mpr ⟨lw_p65, List.forall_mem_cons.mpr ⟨lw_p66, List.forall_mem_cons.mpr ⟨lw_p67, List.forall_mem_cons.mpr ⟨lw_p68, List.forall_mem_cons.mpr ⟨lw_p69, List.forall_mem_cons.mpr ⟨lw_p70, List.forall_mem_cons.mpr ⟨lw_p71, List.forall_mem_cons.mpr ⟨lw_p72, List.forall_mem_cons.mpr ⟨lw_p73, List.forall_mem_cons.mpr ⟨lw_p74, List.forall_mem_cons.mpr ⟨lw_p75, List.forall_mem_cons.mpr ⟨lw_p76, List.forall_mem_cons.mpr ⟨lw_p77, List.forall_mem_cons.mpr ⟨lw_p78, List.forall_mem_cons.mpr ⟨lw_p79, fun _ h => absurd h List.not_mem_nil⟩⟩⟩⟩⟩⟩⟩⟩⟩⟩⟩⟩⟩⟩⟩⟩
theorem lw_p80 : lw_okq (⟨"RecordBridgeModel", "filledBits", "(I)I"⟩, 32) := ⟨⟨by decide +kernel, by decide +kernel⟩, List.mem_of_getElem? (i := 1137) (by decide +kernel), List.mem_of_getElem? (i := 1469) (by decide +kernel), List.mem_of_getElem? (i := 1470) (by decide +kernel)⟩
theorem lw_p81 : lw_okq (⟨"RecordBridgeModel", "madeKind", "(II)I"⟩, 32) := ⟨⟨by decide +kernel, by decide +kernel⟩, List.mem_of_getElem? (i := 1137) (by decide +kernel), List.mem_of_getElem? (i := 1477) (by decide +kernel), List.mem_of_getElem? (i := 1478) (by decide +kernel)⟩
theorem lw_p82 : lw_okq (⟨"RecordBridgeModel", "targetKind", "(II)I"⟩, 32) := ⟨⟨by decide +kernel, by decide +kernel⟩, List.mem_of_getElem? (i := 1137) (by decide +kernel), List.mem_of_getElem? (i := 1481) (by decide +kernel), List.mem_of_getElem? (i := 1482) (by decide +kernel)⟩
theorem lw_p83 : lw_okq (⟨"RecordBridgeModel", "doesWiden", "(II)Z"⟩, 32) := ⟨⟨by decide +kernel, by decide +kernel⟩, List.mem_of_getElem? (i := 1137) (by decide +kernel), List.mem_of_getElem? (i := 1485) (by decide +kernel), List.mem_of_getElem? (i := 1486) (by decide +kernel)⟩
theorem lw_p84 : lw_okq (⟨"RecordBridgeModel", "rowKind", "(II)I"⟩, 32) := ⟨⟨by decide +kernel, by decide +kernel⟩, List.mem_of_getElem? (i := 1137) (by decide +kernel), List.mem_of_getElem? (i := 1500) (by decide +kernel), List.mem_of_getElem? (i := 1501) (by decide +kernel)⟩
theorem lw_p85 : lw_okq (⟨"RecordBridgeModel", "longOf", "(II)I"⟩, 32) := ⟨⟨by decide +kernel, by decide +kernel⟩, List.mem_of_getElem? (i := 1137) (by decide +kernel), List.mem_of_getElem? (i := 1504) (by decide +kernel), List.mem_of_getElem? (i := 1505) (by decide +kernel)⟩
theorem lw_p86 : lw_okq (⟨"RecordBridgeModel", "reasonOf", "(IIIIZ)I"⟩, 32) := ⟨⟨by decide +kernel, by decide +kernel⟩, List.mem_of_getElem? (i := 1137) (by decide +kernel), List.mem_of_getElem? (i := 1512) (by decide +kernel), List.mem_of_getElem? (i := 1513) (by decide +kernel)⟩
theorem lw_p87 : lw_okq (⟨"RecordBridgeModel", "isRefusedBy", "(I)Z"⟩, 32) := ⟨⟨by decide +kernel, by decide +kernel⟩, List.mem_of_getElem? (i := 1137) (by decide +kernel), List.mem_of_getElem? (i := 1516) (by decide +kernel), List.mem_of_getElem? (i := 1517) (by decide +kernel)⟩
theorem lw_p88 : lw_okq (⟨"RecordBridgeModel", "widened", "(JII)J"⟩, 32) := ⟨⟨by decide +kernel, by decide +kernel⟩, List.mem_of_getElem? (i := 1137) (by decide +kernel), List.mem_of_getElem? (i := 1524) (by decide +kernel), List.mem_of_getElem? (i := 1525) (by decide +kernel)⟩
theorem lw_p89 : lw_okq (⟨"RecordBridgeModel", "keeps", "()V"⟩, 32) := ⟨⟨by decide +kernel, by decide +kernel⟩, List.mem_of_getElem? (i := 1137) (by decide +kernel), List.mem_of_getElem? (i := 1581) (by decide +kernel), List.mem_of_getElem? (i := 1582) (by decide +kernel)⟩
theorem lw_p90 : lw_okq (⟨"RecordBridgeModel", "reasonPut", "(IIII)I"⟩, 32) := ⟨⟨by decide +kernel, by decide +kernel⟩, List.mem_of_getElem? (i := 1137) (by decide +kernel), List.mem_of_getElem? (i := 1600) (by decide +kernel), List.mem_of_getElem? (i := 1601) (by decide +kernel)⟩
theorem lw_p91 : lw_okq (⟨"RecordBridgeModel", "isRecord", "(II)Z"⟩, 32) := ⟨⟨by decide +kernel, by decide +kernel⟩, List.mem_of_getElem? (i := 1137) (by decide +kernel), List.mem_of_getElem? (i := 1612) (by decide +kernel), List.mem_of_getElem? (i := 1613) (by decide +kernel)⟩
theorem lw_p92 : lw_okq (⟨"RecordBridgeModel", "valueAt", "(IIII)J"⟩, 32) := ⟨⟨by decide +kernel, by decide +kernel⟩, List.mem_of_getElem? (i := 1137) (by decide +kernel), List.mem_of_getElem? (i := 1616) (by decide +kernel), List.mem_of_getElem? (i := 1617) (by decide +kernel)⟩
theorem lw_p93 : lw_okq (⟨"RecordBridgeModel", "cellAt", "(IIII)J"⟩, 32) := ⟨⟨by decide +kernel, by decide +kernel⟩, List.mem_of_getElem? (i := 1137) (by decide +kernel), List.mem_of_getElem? (i := 1620) (by decide +kernel), List.mem_of_getElem? (i := 1621) (by decide +kernel)⟩
theorem lw_p94 : lw_okq (⟨"RecordBridgeModel", "makes", "(I)I"⟩, 32) := ⟨⟨by decide +kernel, by decide +kernel⟩, List.mem_of_getElem? (i := 1137) (by decide +kernel), List.mem_of_getElem? (i := 1632) (by decide +kernel), List.mem_of_getElem? (i := 1633) (by decide +kernel)⟩
theorem lw_p95 : lw_okq (⟨"RecordBridgeModel", "laysRecord", "(II)V"⟩, 32) := ⟨⟨by decide +kernel, by decide +kernel⟩, List.mem_of_getElem? (i := 1137) (by decide +kernel), List.mem_of_getElem? (i := 1636) (by decide +kernel), List.mem_of_getElem? (i := 1637) (by decide +kernel)⟩
def lw_privs_6 : List (MethodName × Nat) := [(⟨"RecordBridgeModel", "filledBits", "(I)I"⟩, 32), (⟨"RecordBridgeModel", "madeKind", "(II)I"⟩, 32), (⟨"RecordBridgeModel", "targetKind", "(II)I"⟩, 32), (⟨"RecordBridgeModel", "doesWiden", "(II)Z"⟩, 32), (⟨"RecordBridgeModel", "rowKind", "(II)I"⟩, 32), (⟨"RecordBridgeModel", "longOf", "(II)I"⟩, 32), (⟨"RecordBridgeModel", "reasonOf", "(IIIIZ)I"⟩, 32), (⟨"RecordBridgeModel", "isRefusedBy", "(I)Z"⟩, 32), (⟨"RecordBridgeModel", "widened", "(JII)J"⟩, 32), (⟨"RecordBridgeModel", "keeps", "()V"⟩, 32), (⟨"RecordBridgeModel", "reasonPut", "(IIII)I"⟩, 32), (⟨"RecordBridgeModel", "isRecord", "(II)Z"⟩, 32), (⟨"RecordBridgeModel", "valueAt", "(IIII)J"⟩, 32), (⟨"RecordBridgeModel", "cellAt", "(IIII)J"⟩, 32), (⟨"RecordBridgeModel", "makes", "(I)I"⟩, 32), (⟨"RecordBridgeModel", "laysRecord", "(II)V"⟩, 32)]
theorem lw_r6 : ∀ q ∈ lw_privs_6, lw_okq q := List.forall_mem_cons.mpr ⟨lw_p80, List.forall_mem_cons.mpr ⟨lw_p81, List.forall_mem_cons.mpr ⟨lw_p82, List.forall_mem_cons.mpr ⟨lw_p83, List.forall_mem_cons.mpr ⟨lw_p84, List.forall_mem_cons.mpr ⟨lw_p85, List.forall_mem_cons.mpr ⟨lw_p86, List.forall_mem_cons.mpr ⟨lw_p87, List.forall_mem_cons.mpr ⟨lw_p88, List.forall_mem_cons.mpr ⟨lw_p89, List.forall_mem_cons.mpr ⟨lw_p90, List.forall_mem_cons.mpr ⟨lw_p91, List.forall_mem_cons.mpr ⟨lw_p92, List.forall_mem_cons.mpr ⟨lw_p93, List.forall_mem_cons.mpr ⟨lw_p94, List.forall_mem_cons.mpr ⟨lw_p95, fun _ h => absurd h List.not_mem_nil⟩⟩⟩⟩⟩⟩⟩⟩⟩⟩⟩⟩⟩⟩⟩⟩
theorem lw_p96 : lw_okq (⟨"RecordBridgeModel", "copiesRecord", "(III)V"⟩, 32) := ⟨⟨by decide +kernel, by decide +kernel⟩, List.mem_of_getElem? (i := 1137) (by decide +kernel), List.mem_of_getElem? (i := 1644) (by decide +kernel), List.mem_of_getElem? (i := 1645) (by decide +kernel)⟩
theorem lw_p97 : lw_okq (⟨"RecordBridgeModel", "drawOf", "(I)I"⟩, 32) := ⟨⟨by decide +kernel, by decide +kernel⟩, List.mem_of_getElem? (i := 1137) (by decide +kernel), List.mem_of_getElem? (i := 1661) (by decide +kernel), List.mem_of_getElem? (i := 1662) (by decide +kernel)⟩
theorem lw_p98 : lw_okq (⟨"RecordBridgeModel", "takesRecord", "(II)V"⟩, 32) := ⟨⟨by decide +kernel, by decide +kernel⟩, List.mem_of_getElem? (i := 1137) (by decide +kernel), List.mem_of_getElem? (i := 1673) (by decide +kernel), List.mem_of_getElem? (i := 1674) (by decide +kernel)⟩
theorem lw_p99 : lw_okq (⟨"RecordBridgeModel", "carries", "(I)V"⟩, 32) := ⟨⟨by decide +kernel, by decide +kernel⟩, List.mem_of_getElem? (i := 1137) (by decide +kernel), List.mem_of_getElem? (i := 1677) (by decide +kernel), List.mem_of_getElem? (i := 1678) (by decide +kernel)⟩
theorem lw_p100 : lw_okq (⟨"RecordBridgeModel", "longRule", "(II)I"⟩, 32) := ⟨⟨by decide +kernel, by decide +kernel⟩, List.mem_of_getElem? (i := 1137) (by decide +kernel), List.mem_of_getElem? (i := 1681) (by decide +kernel), List.mem_of_getElem? (i := 1682) (by decide +kernel)⟩
theorem lw_p101 : lw_okq (⟨"RecordBridgeModel", "made", "(III)J"⟩, 32) := ⟨⟨by decide +kernel, by decide +kernel⟩, List.mem_of_getElem? (i := 1137) (by decide +kernel), List.mem_of_getElem? (i := 1688) (by decide +kernel), List.mem_of_getElem? (i := 1689) (by decide +kernel)⟩
theorem lw_p102 : lw_okq (⟨"RecordBridgeModel", "carried", "(JII)J"⟩, 32) := ⟨⟨by decide +kernel, by decide +kernel⟩, List.mem_of_getElem? (i := 1137) (by decide +kernel), List.mem_of_getElem? (i := 1697) (by decide +kernel), List.mem_of_getElem? (i := 1698) (by decide +kernel)⟩
theorem lw_p103 : lw_okq (⟨"RecordBridgeModel", "narrowed", "(JII)J"⟩, 32) := ⟨⟨by decide +kernel, by decide +kernel⟩, List.mem_of_getElem? (i := 1137) (by decide +kernel), List.mem_of_getElem? (i := 1701) (by decide +kernel), List.mem_of_getElem? (i := 1702) (by decide +kernel)⟩
theorem lw_p104 : lw_okq (⟨"RecordBridgeModel", "tallies", "(JIJI)V"⟩, 32) := ⟨⟨by decide +kernel, by decide +kernel⟩, List.mem_of_getElem? (i := 1137) (by decide +kernel), List.mem_of_getElem? (i := 1715) (by decide +kernel), List.mem_of_getElem? (i := 1716) (by decide +kernel)⟩
theorem lw_p105 : lw_okq (⟨"RecordBridgeModel", "marks", "(III)V"⟩, 32) := ⟨⟨by decide +kernel, by decide +kernel⟩, List.mem_of_getElem? (i := 1137) (by decide +kernel), List.mem_of_getElem? (i := 1719) (by decide +kernel), List.mem_of_getElem? (i := 1720) (by decide +kernel)⟩
theorem lw_p106 : lw_okq (⟨"RecordBridgeModel", "missing", "(I[Z)I"⟩, 32) := ⟨⟨by decide +kernel, by decide +kernel⟩, List.mem_of_getElem? (i := 1137) (by decide +kernel), List.mem_of_getElem? (i := 1723) (by decide +kernel), List.mem_of_getElem? (i := 1724) (by decide +kernel)⟩
theorem lw_p107 : lw_okq (⟨"RecordBridgeModel", "canCross", "(II)Z"⟩, 32) := ⟨⟨by decide +kernel, by decide +kernel⟩, List.mem_of_getElem? (i := 1137) (by decide +kernel), List.mem_of_getElem? (i := 1735) (by decide +kernel), List.mem_of_getElem? (i := 1736) (by decide +kernel)⟩
theorem lw_p108 : lw_okq (⟨"RecordBridgeModel", "doesLeadBack", "(II)Z"⟩, 32) := ⟨⟨by decide +kernel, by decide +kernel⟩, List.mem_of_getElem? (i := 1137) (by decide +kernel), List.mem_of_getElem? (i := 1743) (by decide +kernel), List.mem_of_getElem? (i := 1744) (by decide +kernel)⟩
theorem lw_p109 : lw_okq (⟨"RecordBridgeModel", "targetIsSource", "()V"⟩, 32) := ⟨⟨by decide +kernel, by decide +kernel⟩, List.mem_of_getElem? (i := 1137) (by decide +kernel), List.mem_of_getElem? (i := 1747) (by decide +kernel), List.mem_of_getElem? (i := 1748) (by decide +kernel)⟩
theorem lw_p110 : lw_okq (⟨"RecordBridgeModel", "unlikeTarget", "(II)J"⟩, 32) := ⟨⟨by decide +kernel, by decide +kernel⟩, List.mem_of_getElem? (i := 1137) (by decide +kernel), List.mem_of_getElem? (i := 1751) (by decide +kernel), List.mem_of_getElem? (i := 1752) (by decide +kernel)⟩
theorem lw_p111 : lw_okq (⟨"RecordBridgeModel", "isProved", "(IIII)Z"⟩, 32) := ⟨⟨by decide +kernel, by decide +kernel⟩, List.mem_of_getElem? (i := 1137) (by decide +kernel), List.mem_of_getElem? (i := 1759) (by decide +kernel), List.mem_of_getElem? (i := 1760) (by decide +kernel)⟩
def lw_privs_7 : List (MethodName × Nat) := [(⟨"RecordBridgeModel", "copiesRecord", "(III)V"⟩, 32), (⟨"RecordBridgeModel", "drawOf", "(I)I"⟩, 32), (⟨"RecordBridgeModel", "takesRecord", "(II)V"⟩, 32), (⟨"RecordBridgeModel", "carries", "(I)V"⟩, 32), (⟨"RecordBridgeModel", "longRule", "(II)I"⟩, 32), (⟨"RecordBridgeModel", "made", "(III)J"⟩, 32), (⟨"RecordBridgeModel", "carried", "(JII)J"⟩, 32), (⟨"RecordBridgeModel", "narrowed", "(JII)J"⟩, 32), (⟨"RecordBridgeModel", "tallies", "(JIJI)V"⟩, 32), (⟨"RecordBridgeModel", "marks", "(III)V"⟩, 32), (⟨"RecordBridgeModel", "missing", "(I[Z)I"⟩, 32), (⟨"RecordBridgeModel", "canCross", "(II)Z"⟩, 32), (⟨"RecordBridgeModel", "doesLeadBack", "(II)Z"⟩, 32), (⟨"RecordBridgeModel", "targetIsSource", "()V"⟩, 32), (⟨"RecordBridgeModel", "unlikeTarget", "(II)J"⟩, 32), (⟨"RecordBridgeModel", "isProved", "(IIII)Z"⟩, 32)]
theorem lw_r7 : ∀ q ∈ lw_privs_7, lw_okq q := List.forall_mem_cons.mpr ⟨lw_p96, List.forall_mem_cons.mpr ⟨lw_p97, List.forall_mem_cons.mpr ⟨lw_p98, List.forall_mem_cons.mpr ⟨lw_p99, List.forall_mem_cons.mpr ⟨lw_p100, List.forall_mem_cons.mpr ⟨lw_p101, List.forall_mem_cons.mpr ⟨lw_p102, List.forall_mem_cons.mpr ⟨lw_p103, List.forall_mem_cons.mpr ⟨lw_p104, List.forall_mem_cons.mpr ⟨lw_p105, List.forall_mem_cons.mpr ⟨lw_p106, List.forall_mem_cons.mpr ⟨lw_p107, List.forall_mem_cons.mpr ⟨lw_p108, List.forall_mem_cons.mpr ⟨lw_p109, List.forall_mem_cons.mpr ⟨lw_p110, List.forall_mem_cons.mpr ⟨lw_p111, fun _ h => absurd h List.not_mem_nil⟩⟩⟩⟩⟩⟩⟩⟩⟩⟩⟩⟩⟩⟩⟩⟩
theorem lw_p112 : lw_okq (⟨"RecordBridgeModel", "isAlone", "(III)Z"⟩, 32) := ⟨⟨by decide +kernel, by decide +kernel⟩, List.mem_of_getElem? (i := 1137) (by decide +kernel), List.mem_of_getElem? (i := 1763) (by decide +kernel), List.mem_of_getElem? (i := 1764) (by decide +kernel)⟩
theorem lw_p113 : lw_okq (⟨"RecordBridgeModel", "rowsOf", "(I)I"⟩, 32) := ⟨⟨by decide +kernel, by decide +kernel⟩, List.mem_of_getElem? (i := 1137) (by decide +kernel), List.mem_of_getElem? (i := 1774) (by decide +kernel), List.mem_of_getElem? (i := 1775) (by decide +kernel)⟩
theorem lw_p114 : lw_okq (⟨"RecordBridgeModel", "isWay", "(IIII)Z"⟩, 32) := ⟨⟨by decide +kernel, by decide +kernel⟩, List.mem_of_getElem? (i := 1137) (by decide +kernel), List.mem_of_getElem? (i := 1778) (by decide +kernel), List.mem_of_getElem? (i := 1779) (by decide +kernel)⟩
theorem lw_p115 : lw_okq (⟨"RecordBridgeModel", "losses", "(III)I"⟩, 32) := ⟨⟨by decide +kernel, by decide +kernel⟩, List.mem_of_getElem? (i := 1137) (by decide +kernel), List.mem_of_getElem? (i := 1786) (by decide +kernel), List.mem_of_getElem? (i := 1787) (by decide +kernel)⟩
theorem lw_p116 : lw_okq (⟨"RecordBridgeModel", "mostAlike", "(II)I"⟩, 32) := ⟨⟨by decide +kernel, by decide +kernel⟩, List.mem_of_getElem? (i := 1137) (by decide +kernel), List.mem_of_getElem? (i := 1798) (by decide +kernel), List.mem_of_getElem? (i := 1799) (by decide +kernel)⟩
theorem lw_p117 : lw_okq (⟨"RecordBridgeModel", "areLike", "(IIII)Z"⟩, 32) := ⟨⟨by decide +kernel, by decide +kernel⟩, List.mem_of_getElem? (i := 1137) (by decide +kernel), List.mem_of_getElem? (i := 1802) (by decide +kernel), List.mem_of_getElem? (i := 1803) (by decide +kernel)⟩
def lw_privs_8 : List (MethodName × Nat) := [(⟨"RecordBridgeModel", "isAlone", "(III)Z"⟩, 32), (⟨"RecordBridgeModel", "rowsOf", "(I)I"⟩, 32), (⟨"RecordBridgeModel", "isWay", "(IIII)Z"⟩, 32), (⟨"RecordBridgeModel", "losses", "(III)I"⟩, 32), (⟨"RecordBridgeModel", "mostAlike", "(II)I"⟩, 32), (⟨"RecordBridgeModel", "areLike", "(IIII)Z"⟩, 32)]
theorem lw_r8 : ∀ q ∈ lw_privs_8, lw_okq q := List.forall_mem_cons.mpr ⟨lw_p112, List.forall_mem_cons.mpr ⟨lw_p113, List.forall_mem_cons.mpr ⟨lw_p114, List.forall_mem_cons.mpr ⟨lw_p115, List.forall_mem_cons.mpr ⟨lw_p116, List.forall_mem_cons.mpr ⟨lw_p117, fun _ h => absurd h List.not_mem_nil⟩⟩⟩⟩⟩⟩
def lw_privs : List (MethodName × Nat) := lw_privs_1 ++ (lw_privs_2 ++ (lw_privs_3 ++ (lw_privs_4 ++ (lw_privs_5 ++ (lw_privs_6 ++ (lw_privs_7 ++ (lw_privs_8)))))))
def lw_tbl : List Cond := k2_sels lw_privs ++ tables_1
theorem lw_privs_ok : ∀ q ∈ lw_privs, lw_okq q := by
  show ∀ q ∈ lw_privs_1 ++ (lw_privs_2 ++ (lw_privs_3 ++ (lw_privs_4 ++ (lw_privs_5 ++ (lw_privs_6 ++ (lw_privs_7 ++ (lw_privs_8))))))), lw_okq q
  exact List.forall_mem_append.mpr ⟨lw_r1, List.forall_mem_append.mpr ⟨lw_r2, List.forall_mem_append.mpr ⟨lw_r3, List.forall_mem_append.mpr ⟨lw_r4, List.forall_mem_append.mpr ⟨lw_r5, List.forall_mem_append.mpr ⟨lw_r6, List.forall_mem_append.mpr ⟨lw_r7, lw_r8⟩⟩⟩⟩⟩⟩⟩
/-- the streams that the claim lets the run draw from -/
abbrev lw_cs : List Choice := [Jvm.Choice.named "NaN.bits", Jvm.Choice.named "NaN.copy"]
theorem lw_bits : nanBits ∈ lw_cs := by first | decide | exact List.mem_cons_self | simp [lw_cs, nanBits]
-- ===== end of PART A; then your names; then what follows =====
end
section
/-! ===== BEGIN words of one list among another's, by their places ===== -/
theorem goodIn_r {big : List Cond} (ws : List Cond) (ps : List Nat) (hp : ws = ps.filterMap (fun i => big[i]?)) (h : ws.all goodWord = true) : GoodIn big ws := by
  intro w hw
  have h1 := List.all_eq_true.mp h w hw
  rw [hp] at hw
  obtain ⟨i, -, hi⟩ := List.mem_filterMap.mp hw
  have hm : w ∈ big := by first | exact List.mem_of_getElem? hi | exact List.getElem?_mem hi
  exact ⟨hm, good_of_word h1⟩
theorem goodIn_app {big a b : List Cond} (ha : GoodIn big a) (hb : GoodIn big b) : GoodIn big (a ++ b) := fun w h => (List.mem_append.mp h).elim (ha w) (hb w)
theorem goodIn_ca {big a b : List Cond} {c : Cond} (ha : GoodIn big (c :: a)) (hb : GoodIn big b) : GoodIn big (c :: (a ++ b)) := fun w h => (List.mem_cons.mp h).elim (fun e => ha w (List.mem_cons.mpr (Or.inl e))) (fun h => (List.mem_append.mp h).elim (fun h => ha w (List.mem_cons.mpr (Or.inr h))) (hb w))
theorem goodIn_sub {big ws : List Cond} (hm : ∀ w ∈ ws, w ∈ big) (h : ws.all goodWord = true) : GoodIn big ws := fun w hw => ⟨hm w hw, good_of_word (List.all_eq_true.mp h w hw)⟩
/-! ===== END ===== -/

/-! ===== BEGIN new T[n][m]: the outer array a place, the inner ones among the pooled ===== -/
/-- f, but v at every address of l -/
def vr_up {α : Type} (f : Nat → α) (l : List Nat) (v : α) : Nat → α := fun a => if a ∈ l then v else f a
theorem vr_up_in {α : Type} {f : Nat → α} {l : List Nat} {v : α} {a : Nat} (h : a ∈ l) : vr_up f l v a = v := if_pos h
theorem vr_up_ne {α : Type} {f : Nat → α} {l : List Nat} {v : α} {a : Nat} (h : a ∉ l) : vr_up f l v a = f a := if_neg h
theorem vr_rows {L l : List Nat} {f : Nat → va_E} {e : va_E} (h : ∀ a, a ∈ l → a ∉ L) : va_pl L f ++ l.map (fun a => (a, e)) = va_pl (L ++ l) (vr_up f l e) := by
  unfold va_pl
  rw [List.map_append]
  congr 1
  · apply List.map_congr_left
    intro a ha
    rw [vr_up_ne (fun q => h a q ha)]
  · apply List.map_congr_left
    intro a ha
    rw [vr_up_in ha]
theorem vr_lay {X rows : va_W} {x : Nat × va_E} {pl : va_W} {D : va_G} {cl : List vw_C} {H : Heap} (hP : va_P D cl (((X ++ pl) ++ [x]) ++ rows) H) : va_P D cl ((X ++ [x]) ++ (pl ++ rows)) H := by
  rw [List.append_assoc (X ++ pl)] at hP
  have h := va_P.swap hP
  rw [← List.append_assoc X] at h
  have h2 := va_P.swap h
  rw [List.append_assoc (X ++ [x])] at h2
  exact h2
theorem vr_layD {X rows : va_W} {x : Nat × va_E} {pl : va_W} {A : Nat → Prop} (hD : va_D A (((X ++ pl) ++ [x]) ++ rows)) : va_D A ((X ++ [x]) ++ (pl ++ rows)) := by
  rw [List.append_assoc (X ++ pl)] at hD
  have h := va_D.swap hD
  rw [← List.append_assoc X] at h
  have h2 := va_D.swap h
  rw [List.append_assoc (X ++ [x])] at h2
  exact h2
theorem vr_outer (c : ClassId) (N h0 : Nat) : ∀ i : Nat, Jvm.Free.Multi.outerC c N h0 i = arrV c N (fun j => va_rf (if j < i then some (h0 + 1 + j) else none))
  | 0 => by
    show ({ cls := c, slots := Array.replicate N .null, vm := .none } : Cell) = _
    rw [arrV_new]
    refine congrArg (arrV c N) (funext fun j => ?_)
    simp [va_rf]
  | i + 1 => by
    show (Jvm.Free.Multi.outerC c N h0 i).setSlot i (.ref (h0 + 1 + i)) = _
    rw [vr_outer c N h0 i, arrV_store]
    refine congrArg (arrV c N) (funext fun j => ?_)
    by_cases e : j = i
    · subst e
      simp [updV, va_rf]
    · by_cases h : j < i
      · simp [updV, e, h, Nat.lt_succ_of_lt h]
      · simp [updV, e, h, show ¬ j < i + 1 by omega]

/-! ===== END ===== -/

/-! ===== BEGIN printed: names, fields, word lists, decode rows ===== -/
def RX0 : String := "RecordBridge$BookReader"
def TX0 : u_T := fun k => match k with
  | 0 => ("RecordBridge$BookReader", "ownWords", "[I", true)
  | 1 => ("RecordBridge$BookReader", "tape", "LRecordBridge$Tape;", true)
  | 2 => ("RecordBridge$BookReader", "plan", "LRecordBridge$Plan;", false)
  | 3 => ("RecordBridge$BookReader", "state", "I", false)
  | 4 => ("RecordBridge$BookReader", "at", "I", false)
  | 5 => ("RecordBridge$BookReader", "letters", "I", false)
  | 6 => ("RecordBridge$BookReader", "word", "I", false)
  | 7 => ("RecordBridge$BookReader", "ownWord", "I", false)
  | 8 => ("RecordBridge$BookReader", "digits", "I", false)
  | 9 => ("RecordBridge$BookReader", "number", "I", false)
  | 10 => ("RecordBridge$BookReader", "shape", "LRecordBridge$Shape;", false)
  | 11 => ("RecordBridge$BookReader", "kind", "I", false)
  | 12 => ("RecordBridge$BookReader", "passage", "LRecordBridge$Passage;", false)
  | 13 => ("RecordBridge$BookReader", "from", "I", false)
  | 14 => ("RecordBridge$BookReader", "first", "LRecordBridge$Shape;", false)
  | 15 => ("RecordBridge$BookReader", "second", "LRecordBridge$Shape;", false)
  | 16 => ("RecordBridge$BookReader", "rule", "LRecordBridge$Rule;", false)
  | 17 => ("RecordBridge$BookReader", "target", "I", false)
  | 18 => ("RecordBridge$BookReader", "faultSort", "I", false)
  | _ => ("RecordBridge$BookReader", "faultPlace", "I", false)
def tyX0 : Nat → FieldType := fun k => match k with
  | 0 => .array .int
  | 1 => .object "RecordBridge$Tape"
  | 2 => .object "RecordBridge$Plan"
  | 3 => .int
  | 4 => .int
  | 5 => .int
  | 6 => .int
  | 7 => .int
  | 8 => .int
  | 9 => .int
  | 10 => .object "RecordBridge$Shape"
  | 11 => .int
  | 12 => .object "RecordBridge$Passage"
  | 13 => .int
  | 14 => .object "RecordBridge$Shape"
  | 15 => .object "RecordBridge$Shape"
  | 16 => .object "RecordBridge$Rule"
  | 17 => .int
  | 18 => .int
  | _ => .int
abbrev wsX00 : List Cond := u_ws RX0 TX0 20
theorem nmX0 : ∀ a, a < 20 → ∀ b, b < 20 → a ≠ b → (TX0 a).2.1 ≠ (TX0 b).2.1 := by decide +kernel
theorem tyX0_ok : ∀ k, k < 20 → parseFieldDescriptor (TX0 k).2.2.1 = some (tyX0 k) := by decide +kernel
abbrev cX0_init : ByteArray := prog_2_method_1_code
def yX0_init : MethodName := ⟨RX0, "<init>", "()V"⟩
abbrev cX0_readBook : ByteArray := prog_2_method_2_code
def yX0_readBook : MethodName := ⟨RX0, "readBook", "()Z"⟩
abbrev cX0_lookAtNext : ByteArray := prog_2_method_3_code
def yX0_lookAtNext : MethodName := ⟨RX0, "lookAtNext", "()V"⟩
abbrev cX0_takeInScheme : ByteArray := prog_2_method_4_code
def yX0_takeInScheme : MethodName := ⟨RX0, "takeInScheme", "()Z"⟩
abbrev cX0_takeInCross : ByteArray := prog_2_method_5_code
def yX0_takeInCross : MethodName := ⟨RX0, "takeInCross", "()Z"⟩
abbrev cX0_refuse : ByteArray := prog_2_method_6_code
def yX0_refuse : MethodName := ⟨RX0, "refuse", "(II)Z"⟩
abbrev cX0_goOn : ByteArray := prog_2_method_7_code
def yX0_goOn : MethodName := ⟨RX0, "goOn", "(I)Z"⟩
abbrev cX0_nameStands : ByteArray := prog_2_method_8_code
def yX0_nameStands : MethodName := ⟨RX0, "nameStands", "()Z"⟩
abbrev cX0_numberStands : ByteArray := prog_2_method_9_code
def yX0_numberStands : MethodName := ⟨RX0, "numberStands", "(II)Z"⟩
abbrev cX0_refuseOneMore : ByteArray := prog_2_method_10_code
def yX0_refuseOneMore : MethodName := ⟨RX0, "refuseOneMore", "()Z"⟩
abbrev cX0_takeSign : ByteArray := prog_2_method_11_code
def yX0_takeSign : MethodName := ⟨RX0, "takeSign", "(I)Z"⟩
abbrev cX0_takeStatement : ByteArray := prog_2_method_12_code
def yX0_takeStatement : MethodName := ⟨RX0, "takeStatement", "()Z"⟩
abbrev cX0_takeSchemeName : ByteArray := prog_2_method_13_code
def yX0_takeSchemeName : MethodName := ⟨RX0, "takeSchemeName", "()Z"⟩
abbrev cX0_takeKind : ByteArray := prog_2_method_14_code
def yX0_takeKind : MethodName := ⟨RX0, "takeKind", "()Z"⟩
abbrev cX0_takeFieldName : ByteArray := prog_2_method_15_code
def yX0_takeFieldName : MethodName := ⟨RX0, "takeFieldName", "()Z"⟩
abbrev cX0_takeTimesNumber : ByteArray := prog_2_method_16_code
def yX0_takeTimesNumber : MethodName := ⟨RX0, "takeTimesNumber", "()Z"⟩
abbrev cX0_takeFirstScheme : ByteArray := prog_2_method_17_code
def yX0_takeFirstScheme : MethodName := ⟨RX0, "takeFirstScheme", "()Z"⟩
abbrev cX0_takeSecondScheme : ByteArray := prog_2_method_18_code
def yX0_takeSecondScheme : MethodName := ⟨RX0, "takeSecondScheme", "()Z"⟩
abbrev cX0_takeTarget : ByteArray := prog_2_method_19_code
def yX0_takeTarget : MethodName := ⟨RX0, "takeTarget", "()Z"⟩
abbrev cX0_takeNumberSource : ByteArray := prog_2_method_20_code
def yX0_takeNumberSource : MethodName := ⟨RX0, "takeNumberSource", "()Z"⟩
abbrev cX0_takeFieldSource : ByteArray := prog_2_method_21_code
def yX0_takeFieldSource : MethodName := ⟨RX0, "takeFieldSource", "()Z"⟩
abbrev cX0_beginRule : ByteArray := prog_2_method_22_code
def yX0_beginRule : MethodName := ⟨RX0, "beginRule", "(IIII)Z"⟩
abbrev cX0_takeSort : ByteArray := prog_2_method_23_code
def yX0_takeSort : MethodName := ⟨RX0, "takeSort", "()Z"⟩
abbrev cX0_takeFactor : ByteArray := prog_2_method_24_code
def yX0_takeFactor : MethodName := ⟨RX0, "takeFactor", "()Z"⟩
abbrev cX0_takeSecondField : ByteArray := prog_2_method_25_code
def yX0_takeSecondField : MethodName := ⟨RX0, "takeSecondField", "()Z"⟩
abbrev cX0_takeRuleSign : ByteArray := prog_2_method_26_code
def yX0_takeRuleSign : MethodName := ⟨RX0, "takeRuleSign", "()Z"⟩
def RX1 : String := "RecordBridge$Carrier"
def TX1 : u_T := fun k => match k with
  | _ => ("RecordBridge$Carrier", "account", "[I", true)
def tyX1 : Nat → FieldType := fun k => match k with
  | _ => .array .int
abbrev wsX10 : List Cond := u_ws RX1 TX1 1
theorem nmX1 : ∀ a, a < 1 → ∀ b, b < 1 → a ≠ b → (TX1 a).2.1 ≠ (TX1 b).2.1 := by decide +kernel
theorem tyX1_ok : ∀ k, k < 1 → parseFieldDescriptor (TX1 k).2.2.1 = some (tyX1 k) := by decide +kernel
abbrev cX1_init : ByteArray := prog_3_method_1_code
def yX1_init : MethodName := ⟨RX1, "<init>", "()V"⟩
abbrev cX1_carry : ByteArray := prog_3_method_2_code
def yX1_carry : MethodName := ⟨RX1, "carry", "(LRecordBridge$Plan;LRecordBridge$Passage;[J[J)V"⟩
abbrev cX1_carryByRule : ByteArray := prog_3_method_3_code
def yX1_carryByRule : MethodName := ⟨RX1, "carryByRule", "(LRecordBridge$Rule;LRecordBridge$Shape;LRecordBridge$Shape;[J[J)V"⟩
abbrev cX1_valueMade : ByteArray := prog_3_method_4_code
def yX1_valueMade : MethodName := ⟨RX1, "valueMade", "(LRecordBridge$Rule;LRecordBridge$Shape;[JI)J"⟩
abbrev cX1_valueOf : ByteArray := prog_3_method_5_code
def yX1_valueOf : MethodName := ⟨RX1, "valueOf", "(LRecordBridge$Shape;I[JI)J"⟩
abbrev cX1_wholeMade : ByteArray := prog_3_method_6_code
def yX1_wholeMade : MethodName := ⟨RX1, "wholeMade", "(IJJ)J"⟩
abbrev cX1_realMade : ByteArray := prog_3_method_7_code
def yX1_realMade : MethodName := ⟨RX1, "realMade", "(IDD)D"⟩
def RX2 : String := "RecordBridge$Kinds"
def TX2 : u_T := fun k => match k with
  | _ => ("", "", "", false)
def tyX2 : Nat → FieldType := fun k => match k with
  | _ => .int
abbrev wsX20 : List Cond := u_ws RX2 TX2 0
theorem nmX2 : ∀ a, a < 0 → ∀ b, b < 0 → a ≠ b → (TX2 a).2.1 ≠ (TX2 b).2.1 := by decide +kernel
theorem tyX2_ok : ∀ k, k < 0 → parseFieldDescriptor (TX2 k).2.2.1 = some (tyX2 k) := by decide +kernel
abbrev cX2_isNumber : ByteArray := prog_4_method_2_code
def yX2_isNumber : MethodName := ⟨RX2, "isNumber", "(I)Z"⟩
abbrev cX2_isReal : ByteArray := prog_4_method_3_code
def yX2_isReal : MethodName := ⟨RX2, "isReal", "(I)Z"⟩
abbrev cX2_goesInto : ByteArray := prog_4_method_4_code
def yX2_goesInto : MethodName := ⟨RX2, "goesInto", "(II)Z"⟩
abbrev cX2_goesWholeInto : ByteArray := prog_4_method_5_code
def yX2_goesWholeInto : MethodName := ⟨RX2, "goesWholeInto", "(II)Z"⟩
abbrev cX2_told : ByteArray := prog_4_method_6_code
def yX2_told : MethodName := ⟨RX2, "told", "(IJ)J"⟩
abbrev cX2_toldWord : ByteArray := prog_4_method_7_code
def yX2_toldWord : MethodName := ⟨RX2, "toldWord", "(J)J"⟩
abbrev cX2_changed : ByteArray := prog_4_method_8_code
def yX2_changed : MethodName := ⟨RX2, "changed", "(IJI)J"⟩
abbrev cX2_realOf : ByteArray := prog_4_method_9_code
def yX2_realOf : MethodName := ⟨RX2, "realOf", "(IJ)D"⟩
abbrev cX2_wholeOfWord : ByteArray := prog_4_method_10_code
def yX2_wholeOfWord : MethodName := ⟨RX2, "wholeOfWord", "(J)J"⟩
abbrev cX2_digitsWord : ByteArray := prog_4_method_11_code
def yX2_digitsWord : MethodName := ⟨RX2, "digitsWord", "(J)J"⟩
abbrev cX2_ofWhole : ByteArray := prog_4_method_12_code
def yX2_ofWhole : MethodName := ⟨RX2, "ofWhole", "(JI)J"⟩
abbrev cX2_ofReal : ByteArray := prog_4_method_13_code
def yX2_ofReal : MethodName := ⟨RX2, "ofReal", "(DI)J"⟩
def RX3 : String := "RecordBridge$Passage"
def TX3 : u_T := fun k => match k with
  | 0 => ("RecordBridge$Passage", "rules", "[LRecordBridge$Rule;", true)
  | 1 => ("RecordBridge$Passage", "from", "I", false)
  | 2 => ("RecordBridge$Passage", "to", "I", false)
  | _ => ("RecordBridge$Passage", "ruleCount", "I", false)
def tyX3 : Nat → FieldType := fun k => match k with
  | 0 => .array (.object "RecordBridge$Rule")
  | 1 => .int
  | 2 => .int
  | _ => .int
abbrev wsX30 : List Cond := u_ws RX3 TX3 4
theorem nmX3 : ∀ a, a < 4 → ∀ b, b < 4 → a ≠ b → (TX3 a).2.1 ≠ (TX3 b).2.1 := by decide +kernel
theorem tyX3_ok : ∀ k, k < 4 → parseFieldDescriptor (TX3 k).2.2.1 = some (tyX3 k) := by decide +kernel
abbrev cX3_init : ByteArray := prog_5_method_1_code
def yX3_init : MethodName := ⟨RX3, "<init>", "()V"⟩
abbrev cX3_begin : ByteArray := prog_5_method_2_code
def yX3_begin : MethodName := ⟨RX3, "begin", "(II)V"⟩
abbrev cX3_ruleAt : ByteArray := prog_5_method_3_code
def yX3_ruleAt : MethodName := ⟨RX3, "ruleAt", "(I)LRecordBridge$Rule;"⟩
abbrev cX3_addRule : ByteArray := prog_5_method_4_code
def yX3_addRule : MethodName := ⟨RX3, "addRule", "()LRecordBridge$Rule;"⟩
abbrev cX3_fieldsRead : ByteArray := prog_5_method_5_code
def yX3_fieldsRead : MethodName := ⟨RX3, "fieldsRead", "()I"⟩
abbrev cX3_fieldsFilled : ByteArray := prog_5_method_6_code
def yX3_fieldsFilled : MethodName := ⟨RX3, "fieldsFilled", "()I"⟩
abbrev cX3_leadsBack : ByteArray := prog_5_method_7_code
def yX3_leadsBack : MethodName := ⟨RX3, "leadsBack", "(LRecordBridge$Passage;)Z"⟩
abbrev cX3_fieldsKeptWhole : ByteArray := prog_5_method_8_code
def yX3_fieldsKeptWhole : MethodName := ⟨RX3, "fieldsKeptWhole", "(LRecordBridge$Passage;LRecordBridge$Shape;LRecordBridge$Shape;)I"⟩
abbrev cX3_keepsWhole : ByteArray := prog_5_method_9_code
def yX3_keepsWhole : MethodName := ⟨RX3, "keepsWhole", "(LRecordBridge$Rule;LRecordBridge$Shape;LRecordBridge$Shape;)Z"⟩
abbrev cX3_carriesAlone : ByteArray := prog_5_method_10_code
def yX3_carriesAlone : MethodName := ⟨RX3, "carriesAlone", "(II)Z"⟩
def RX4 : String := "RecordBridge$Plan"
def TX4 : u_T := fun k => match k with
  | 0 => ("RecordBridge$Plan", "shapes", "[LRecordBridge$Shape;", true)
  | 1 => ("RecordBridge$Plan", "passages", "[LRecordBridge$Passage;", true)
  | 2 => ("RecordBridge$Plan", "shapeCount", "I", false)
  | _ => ("RecordBridge$Plan", "passageCount", "I", false)
def tyX4 : Nat → FieldType := fun k => match k with
  | 0 => .array (.object "RecordBridge$Shape")
  | 1 => .array (.object "RecordBridge$Passage")
  | 2 => .int
  | _ => .int
abbrev wsX40 : List Cond := u_ws RX4 TX4 4
theorem nmX4 : ∀ a, a < 4 → ∀ b, b < 4 → a ≠ b → (TX4 a).2.1 ≠ (TX4 b).2.1 := by decide +kernel
theorem tyX4_ok : ∀ k, k < 4 → parseFieldDescriptor (TX4 k).2.2.1 = some (tyX4 k) := by decide +kernel
abbrev cX4_init : ByteArray := prog_6_method_1_code
def yX4_init : MethodName := ⟨RX4, "<init>", "()V"⟩
abbrev cX4_clear : ByteArray := prog_6_method_2_code
def yX4_clear : MethodName := ⟨RX4, "clear", "()V"⟩
abbrev cX4_shape : ByteArray := prog_6_method_3_code
def yX4_shape : MethodName := ⟨RX4, "shape", "(I)LRecordBridge$Shape;"⟩
abbrev cX4_passage : ByteArray := prog_6_method_4_code
def yX4_passage : MethodName := ⟨RX4, "passage", "(I)LRecordBridge$Passage;"⟩
abbrev cX4_addShape : ByteArray := prog_6_method_5_code
def yX4_addShape : MethodName := ⟨RX4, "addShape", "(I)LRecordBridge$Shape;"⟩
abbrev cX4_addPassage : ByteArray := prog_6_method_6_code
def yX4_addPassage : MethodName := ⟨RX4, "addPassage", "(II)LRecordBridge$Passage;"⟩
abbrev cX4_shapeOfName : ByteArray := prog_6_method_7_code
def yX4_shapeOfName : MethodName := ⟨RX4, "shapeOfName", "(I)I"⟩
def RX5 : String := "RecordBridge$Reals"
def TX5 : u_T := fun k => match k with
  | _ => ("", "", "", false)
def tyX5 : Nat → FieldType := fun k => match k with
  | _ => .int
abbrev wsX50 : List Cond := u_ws RX5 TX5 0
theorem nmX5 : ∀ a, a < 0 → ∀ b, b < 0 → a ≠ b → (TX5 a).2.1 ≠ (TX5 b).2.1 := by decide +kernel
theorem tyX5_ok : ∀ k, k < 0 → parseFieldDescriptor (TX5 k).2.2.1 = some (tyX5 k) := by decide +kernel
abbrev cX5_toBits : ByteArray := prog_7_method_2_code
def yX5_toBits : MethodName := ⟨RX5, "toBits", "(DI)J"⟩
abbrev cX5_fromBits : ByteArray := prog_7_method_3_code
def yX5_fromBits : MethodName := ⟨RX5, "fromBits", "(JI)D"⟩
def RX6 : String := "RecordBridge$Rows"
def TX6 : u_T := fun k => match k with
  | 0 => ("RecordBridge$Rows", "now", "[J", true)
  | 1 => ("RecordBridge$Rows", "past", "[[J", true)
  | 2 => ("RecordBridge$Rows", "next", "I", false)
  | _ => ("RecordBridge$Rows", "kept", "I", false)
def tyX6 : Nat → FieldType := fun k => match k with
  | 0 => .array .long
  | 1 => .array (.array .long)
  | 2 => .int
  | _ => .int
abbrev wsX60 : List Cond := u_ws RX6 TX6 4
theorem nmX6 : ∀ a, a < 4 → ∀ b, b < 4 → a ≠ b → (TX6 a).2.1 ≠ (TX6 b).2.1 := by decide +kernel
theorem tyX6_ok : ∀ k, k < 4 → parseFieldDescriptor (TX6 k).2.2.1 = some (tyX6 k) := by decide +kernel
abbrev cX6_init : ByteArray := prog_8_method_1_code
def yX6_init : MethodName := ⟨RX6, "<init>", "()V"⟩
abbrev cX6_clear : ByteArray := prog_8_method_2_code
def yX6_clear : MethodName := ⟨RX6, "clear", "()V"⟩
abbrev cX6_keepPast : ByteArray := prog_8_method_3_code
def yX6_keepPast : MethodName := ⟨RX6, "keepPast", "()V"⟩
abbrev cX6_goBack : ByteArray := prog_8_method_4_code
def yX6_goBack : MethodName := ⟨RX6, "goBack", "()Z"⟩
abbrev cX6_countOf : ByteArray := prog_8_method_5_code
def yX6_countOf : MethodName := ⟨RX6, "countOf", "(I)I"⟩
abbrev cX6_hasRecord : ByteArray := prog_8_method_6_code
def yX6_hasRecord : MethodName := ⟨RX6, "hasRecord", "(II)Z"⟩
abbrev cX6_hasRoom : ByteArray := prog_8_method_7_code
def yX6_hasRoom : MethodName := ⟨RX6, "hasRoom", "(I)Z"⟩
abbrev cX6_recordStart : ByteArray := prog_8_method_8_code
def yX6_recordStart : MethodName := ⟨RX6, "recordStart", "(II)I"⟩
abbrev cX6_isRecordPlace : ByteArray := prog_8_method_9_code
def yX6_isRecordPlace : MethodName := ⟨RX6, "isRecordPlace", "(II)Z"⟩
abbrev cX6_blank : ByteArray := prog_8_method_10_code
def yX6_blank : MethodName := ⟨RX6, "blank", "(II)V"⟩
abbrev cX6_move : ByteArray := prog_8_method_11_code
def yX6_move : MethodName := ⟨RX6, "move", "(III)V"⟩
abbrev cX6_addBlank : ByteArray := prog_8_method_12_code
def yX6_addBlank : MethodName := ⟨RX6, "addBlank", "(I)I"⟩
abbrev cX6_addLike : ByteArray := prog_8_method_13_code
def yX6_addLike : MethodName := ⟨RX6, "addLike", "(II)I"⟩
abbrev cX6_remove : ByteArray := prog_8_method_14_code
def yX6_remove : MethodName := ⟨RX6, "remove", "(II)V"⟩
abbrev cX6_indexOf : ByteArray := prog_8_method_15_code
def yX6_indexOf : MethodName := ⟨RX6, "indexOf", "(ILRecordBridge$Shape;II)I"⟩
abbrev cX6_rawAt : ByteArray := prog_8_method_16_code
def yX6_rawAt : MethodName := ⟨RX6, "rawAt", "(ILRecordBridge$Shape;II)J"⟩
abbrev cX6_isEmptyAt : ByteArray := prog_8_method_17_code
def yX6_isEmptyAt : MethodName := ⟨RX6, "isEmptyAt", "(ILRecordBridge$Shape;II)Z"⟩
abbrev cX6_valueAt : ByteArray := prog_8_method_18_code
def yX6_valueAt : MethodName := ⟨RX6, "valueAt", "(ILRecordBridge$Shape;II)J"⟩
abbrev cX6_setAt : ByteArray := prog_8_method_19_code
def yX6_setAt : MethodName := ⟨RX6, "setAt", "(ILRecordBridge$Shape;IIJ)V"⟩
abbrev cX6_thingKind : ByteArray := prog_8_method_20_code
def yX6_thingKind : MethodName := ⟨RX6, "thingKind", "(I)I"⟩
abbrev cX6_thingValue : ByteArray := prog_8_method_21_code
def yX6_thingValue : MethodName := ⟨RX6, "thingValue", "(I)J"⟩
abbrev cX6_setThing : ByteArray := prog_8_method_22_code
def yX6_setThing : MethodName := ⟨RX6, "setThing", "(IIJ)V"⟩
abbrev cX6_takeValues : ByteArray := prog_8_method_23_code
def yX6_takeValues : MethodName := ⟨RX6, "takeValues", "(ILRecordBridge$Shape;I[J)V"⟩
abbrev cX6_setValues : ByteArray := prog_8_method_24_code
def yX6_setValues : MethodName := ⟨RX6, "setValues", "(II[J)V"⟩
abbrev cX6_mostAlike : ByteArray := prog_8_method_25_code
def yX6_mostAlike : MethodName := ⟨RX6, "mostAlike", "(ILRecordBridge$Shape;I)I"⟩
abbrev cX6_areAlike : ByteArray := prog_8_method_26_code
def yX6_areAlike : MethodName := ⟨RX6, "areAlike", "(ILRecordBridge$Shape;III)Z"⟩
def RX7 : String := "RecordBridge$Rule"
def TX7 : u_T := fun k => match k with
  | 0 => ("RecordBridge$Rule", "target", "I", false)
  | 1 => ("RecordBridge$Rule", "sort", "I", false)
  | 2 => ("RecordBridge$Rule", "first", "I", false)
  | 3 => ("RecordBridge$Rule", "other", "I", false)
  | 4 => ("RecordBridge$Rule", "made", "I", false)
  | 5 => ("RecordBridge$Rule", "cells", "I", false)
  | 6 => ("RecordBridge$Rule", "cellsRead", "I", false)
  | _ => ("RecordBridge$Rule", "fits", "Z", false)
def tyX7 : Nat → FieldType := fun k => match k with
  | 0 => .int
  | 1 => .int
  | 2 => .int
  | 3 => .int
  | 4 => .int
  | 5 => .int
  | 6 => .int
  | _ => .boolean
abbrev wsX70 : List Cond := u_ws RX7 TX7 8
theorem nmX7 : ∀ a, a < 8 → ∀ b, b < 8 → a ≠ b → (TX7 a).2.1 ≠ (TX7 b).2.1 := by decide +kernel
theorem tyX7_ok : ∀ k, k < 8 → parseFieldDescriptor (TX7 k).2.2.1 = some (tyX7 k) := by decide +kernel
abbrev cX7_init : ByteArray := prog_9_method_1_code
def yX7_init : MethodName := ⟨RX7, "<init>", "()V"⟩
abbrev cX7_set : ByteArray := prog_9_method_2_code
def yX7_set : MethodName := ⟨RX7, "set", "(IIII)V"⟩
abbrev cX7_settle : ByteArray := prog_9_method_3_code
def yX7_settle : MethodName := ⟨RX7, "settle", "(LRecordBridge$Shape;LRecordBridge$Shape;)V"⟩
abbrev cX7_fieldsRead : ByteArray := prog_9_method_4_code
def yX7_fieldsRead : MethodName := ⟨RX7, "fieldsRead", "()I"⟩
abbrev cX7_isAlone : ByteArray := prog_9_method_5_code
def yX7_isAlone : MethodName := ⟨RX7, "isAlone", "(II)Z"⟩
def RX8 : String := "RecordBridge$Shape"
def TX8 : u_T := fun k => match k with
  | 0 => ("RecordBridge$Shape", "names", "[I", true)
  | 1 => ("RecordBridge$Shape", "kinds", "[I", true)
  | 2 => ("RecordBridge$Shape", "cells", "[I", true)
  | 3 => ("RecordBridge$Shape", "starts", "[I", true)
  | 4 => ("RecordBridge$Shape", "name", "I", false)
  | 5 => ("RecordBridge$Shape", "fieldCount", "I", false)
  | _ => ("RecordBridge$Shape", "cellCount", "I", false)
def tyX8 : Nat → FieldType := fun k => match k with
  | 0 => .array .int
  | 1 => .array .int
  | 2 => .array .int
  | 3 => .array .int
  | 4 => .int
  | 5 => .int
  | _ => .int
abbrev wsX80 : List Cond := u_ws RX8 TX8 7
theorem nmX8 : ∀ a, a < 7 → ∀ b, b < 7 → a ≠ b → (TX8 a).2.1 ≠ (TX8 b).2.1 := by decide +kernel
theorem tyX8_ok : ∀ k, k < 7 → parseFieldDescriptor (TX8 k).2.2.1 = some (tyX8 k) := by decide +kernel
abbrev cX8_init : ByteArray := prog_10_method_1_code
def yX8_init : MethodName := ⟨RX8, "<init>", "()V"⟩
abbrev cX8_begin : ByteArray := prog_10_method_2_code
def yX8_begin : MethodName := ⟨RX8, "begin", "(I)V"⟩
abbrev cX8_addField : ByteArray := prog_10_method_3_code
def yX8_addField : MethodName := ⟨RX8, "addField", "(II)V"⟩
abbrev cX8_repeatLast : ByteArray := prog_10_method_4_code
def yX8_repeatLast : MethodName := ⟨RX8, "repeatLast", "(I)V"⟩
abbrev cX8_hasField : ByteArray := prog_10_method_5_code
def yX8_hasField : MethodName := ⟨RX8, "hasField", "(I)Z"⟩
abbrev cX8_kindOf : ByteArray := prog_10_method_6_code
def yX8_kindOf : MethodName := ⟨RX8, "kindOf", "(I)I"⟩
abbrev cX8_hasWords : ByteArray := prog_10_method_7_code
def yX8_hasWords : MethodName := ⟨RX8, "hasWords", "(I)Z"⟩
abbrev cX8_fieldOfName : ByteArray := prog_10_method_8_code
def yX8_fieldOfName : MethodName := ⟨RX8, "fieldOfName", "(I)I"⟩
def RX9 : String := "RecordBridge$Tape"
def TX9 : u_T := fun k => match k with
  | 0 => ("RecordBridge$Tape", "bytes", "[I", true)
  | _ => ("RecordBridge$Tape", "count", "I", false)
def tyX9 : Nat → FieldType := fun k => match k with
  | 0 => .array .int
  | _ => .int
abbrev wsX90 : List Cond := u_ws RX9 TX9 2
theorem nmX9 : ∀ a, a < 2 → ∀ b, b < 2 → a ≠ b → (TX9 a).2.1 ≠ (TX9 b).2.1 := by decide +kernel
theorem tyX9_ok : ∀ k, k < 2 → parseFieldDescriptor (TX9 k).2.2.1 = some (tyX9 k) := by decide +kernel
abbrev cX9_init : ByteArray := prog_11_method_1_code
def yX9_init : MethodName := ⟨RX9, "<init>", "()V"⟩
abbrev cX9_takes : ByteArray := prog_11_method_2_code
def yX9_takes : MethodName := ⟨RX9, "takes", "(I)Z"⟩
abbrev cX9_addNumber : ByteArray := prog_11_method_3_code
def yX9_addNumber : MethodName := ⟨RX9, "addNumber", "(I)V"⟩
abbrev cX9_byteAt : ByteArray := prog_11_method_4_code
def yX9_byteAt : MethodName := ⟨RX9, "byteAt", "(I)I"⟩
abbrev cX9_isLetter : ByteArray := prog_11_method_5_code
def yX9_isLetter : MethodName := ⟨RX9, "isLetter", "(I)Z"⟩
abbrev cX9_isDigit : ByteArray := prog_11_method_6_code
def yX9_isDigit : MethodName := ⟨RX9, "isDigit", "(I)Z"⟩
abbrev cX9_isBlank : ByteArray := prog_11_method_7_code
def yX9_isBlank : MethodName := ⟨RX9, "isBlank", "(I)Z"⟩
abbrev cX9_lettersFrom : ByteArray := prog_11_method_8_code
def yX9_lettersFrom : MethodName := ⟨RX9, "lettersFrom", "(I)I"⟩
abbrev cX9_digitsFrom : ByteArray := prog_11_method_9_code
def yX9_digitsFrom : MethodName := ⟨RX9, "digitsFrom", "(I)I"⟩
abbrev cX9_numberFrom : ByteArray := prog_11_method_10_code
def yX9_numberFrom : MethodName := ⟨RX9, "numberFrom", "(II)I"⟩
abbrev cX9_nameFrom : ByteArray := prog_11_method_11_code
def yX9_nameFrom : MethodName := ⟨RX9, "nameFrom", "(I)I"⟩
abbrev cX9_wholeName : ByteArray := prog_11_method_12_code
def yX9_wholeName : MethodName := ⟨RX9, "wholeName", "()I"⟩
abbrev cX9_withLetter : ByteArray := prog_11_method_13_code
def yX9_withLetter : MethodName := ⟨RX9, "withLetter", "(III)I"⟩
abbrev cX9_letterOf : ByteArray := prog_11_method_14_code
def yX9_letterOf : MethodName := ⟨RX9, "letterOf", "(II)I"⟩
def RX10 : String := "RecordBridge$Ways"
def TX10 : u_T := fun k => match k with
  | 0 => ("RecordBridge$Ways", "steps", "[I", true)
  | 1 => ("RecordBridge$Ways", "bestSteps", "[I", true)
  | 2 => ("RecordBridge$Ways", "one", "[J", true)
  | 3 => ("RecordBridge$Ways", "other", "[J", true)
  | 4 => ("RecordBridge$Ways", "bestCount", "I", false)
  | _ => ("RecordBridge$Ways", "leastLost", "I", false)
def tyX10 : Nat → FieldType := fun k => match k with
  | 0 => .array .int
  | 1 => .array .int
  | 2 => .array .long
  | 3 => .array .long
  | 4 => .int
  | _ => .int
abbrev wsX100 : List Cond := u_ws RX10 TX10 6
theorem nmX10 : ∀ a, a < 6 → ∀ b, b < 6 → a ≠ b → (TX10 a).2.1 ≠ (TX10 b).2.1 := by decide +kernel
theorem tyX10_ok : ∀ k, k < 6 → parseFieldDescriptor (TX10 k).2.2.1 = some (tyX10 k) := by decide +kernel
abbrev cX10_init : ByteArray := prog_12_method_1_code
def yX10_init : MethodName := ⟨RX10, "<init>", "()V"⟩
abbrev cX10_stepAt : ByteArray := prog_12_method_2_code
def yX10_stepAt : MethodName := ⟨RX10, "stepAt", "(I)I"⟩
abbrev cX10_findShortest : ByteArray := prog_12_method_3_code
def yX10_findShortest : MethodName := ⟨RX10, "findShortest", "(LRecordBridge$Plan;II)Z"⟩
abbrev cX10_findLeast : ByteArray := prog_12_method_4_code
def yX10_findLeast : MethodName := ⟨RX10, "findLeast", "(LRecordBridge$Plan;II[JLRecordBridge$Carrier;)Z"⟩
abbrev cX10_choose : ByteArray := prog_12_method_5_code
def yX10_choose : MethodName := ⟨RX10, "choose", "(I)V"⟩
abbrev cX10_leads : ByteArray := prog_12_method_6_code
def yX10_leads : MethodName := ⟨RX10, "leads", "(LRecordBridge$Plan;IIII)Z"⟩
abbrev cX10_lostBySteps : ByteArray := prog_12_method_7_code
def yX10_lostBySteps : MethodName := ⟨RX10, "lostBySteps", "(LRecordBridge$Plan;I[JLRecordBridge$Carrier;)I"⟩
def RX11 : String := "RecordBridge"
def TX11 : u_T := fun k => match k with
  | 0 => ("RecordBridge", "tape", "LRecordBridge$Tape;", true)
  | 1 => ("RecordBridge", "reader", "LRecordBridge$BookReader;", true)
  | 2 => ("RecordBridge", "rows", "LRecordBridge$Rows;", true)
  | 3 => ("RecordBridge", "carrier", "LRecordBridge$Carrier;", true)
  | 4 => ("RecordBridge", "ways", "LRecordBridge$Ways;", true)
  | 5 => ("RecordBridge", "refusals", "[I", true)
  | 6 => ("RecordBridge", "lastAccount", "[I", true)
  | 7 => ("RecordBridge", "values", "[J", true)
  | 8 => ("RecordBridge", "carried", "[J", true)
  | 9 => ("RecordBridge", "compared", "[J", true)
  | 10 => ("RecordBridge", "plan", "LRecordBridge$Plan;", false)
  | 11 => ("RecordBridge", "accounted", "Z", false)
  | 12 => ("RecordBridge", "reason", "I", false)
  | _ => ("RecordBridge", "drawn", "I", false)
def tyX11 : Nat → FieldType := fun k => match k with
  | 0 => .object "RecordBridge$Tape"
  | 1 => .object "RecordBridge$BookReader"
  | 2 => .object "RecordBridge$Rows"
  | 3 => .object "RecordBridge$Carrier"
  | 4 => .object "RecordBridge$Ways"
  | 5 => .array .int
  | 6 => .array .int
  | 7 => .array .long
  | 8 => .array .long
  | 9 => .array .long
  | 10 => .object "RecordBridge$Plan"
  | 11 => .boolean
  | 12 => .int
  | _ => .int
abbrev wsX110 : List Cond := u_ws RX11 TX11 14
theorem nmX11 : ∀ a, a < 14 → ∀ b, b < 14 → a ≠ b → (TX11 a).2.1 ≠ (TX11 b).2.1 := by decide +kernel
theorem tyX11_ok : ∀ k, k < 14 → parseFieldDescriptor (TX11 k).2.2.1 = some (tyX11 k) := by decide +kernel
abbrev cX11_init : ByteArray := prog_1_method_1_code
def yX11_init : MethodName := ⟨RX11, "<init>", "()V"⟩
abbrev cX11_feed : ByteArray := prog_1_method_2_code
def yX11_feed : MethodName := ⟨RX11, "feed", "(IIIII)I"⟩
abbrev cX11_end : ByteArray := prog_1_method_3_code
def yX11_end : MethodName := ⟨RX11, "end", "(I)Z"⟩
abbrev cX11_book : ByteArray := prog_1_method_4_code
def yX11_book : MethodName := ⟨RX11, "book", "()I"⟩
abbrev cX11_fault : ByteArray := prog_1_method_5_code
def yX11_fault : MethodName := ⟨RX11, "fault", "(I)I"⟩
abbrev cX11_has : ByteArray := prog_1_method_6_code
def yX11_has : MethodName := ⟨RX11, "has", "(I)I"⟩
abbrev cX11_hasOfScheme : ByteArray := prog_1_method_7_code
def yX11_hasOfScheme : MethodName := ⟨RX11, "hasOfScheme", "(I)I"⟩
abbrev cX11_letter : ByteArray := prog_1_method_8_code
def yX11_letter : MethodName := ⟨RX11, "letter", "(III)I"⟩
abbrev cX11_named : ByteArray := prog_1_method_9_code
def yX11_named : MethodName := ⟨RX11, "named", "(I)I"⟩
abbrev cX11_field : ByteArray := prog_1_method_10_code
def yX11_field : MethodName := ⟨RX11, "field", "(III)I"⟩
abbrev cX11_crossing : ByteArray := prog_1_method_11_code
def yX11_crossing : MethodName := ⟨RX11, "crossing", "(II)I"⟩
abbrev cX11_rule : ByteArray := prog_1_method_12_code
def yX11_rule : MethodName := ⟨RX11, "rule", "(III)I"⟩
abbrev cX11_widens : ByteArray := prog_1_method_13_code
def yX11_widens : MethodName := ⟨RX11, "widens", "(II)I"⟩
abbrev cX11_length : ByteArray := prog_1_method_14_code
def yX11_length : MethodName := ⟨RX11, "length", "(II)I"⟩
abbrev cX11_read : ByteArray := prog_1_method_15_code
def yX11_read : MethodName := ⟨RX11, "read", "(IIII)J"⟩
abbrev cX11_get : ByteArray := prog_1_method_16_code
def yX11_get : MethodName := ⟨RX11, "get", "(IIII)J"⟩
abbrev cX11_write : ByteArray := prog_1_method_17_code
def yX11_write : MethodName := ⟨RX11, "write", "(IIIIJ)Z"⟩
abbrev cX11_put : ByteArray := prog_1_method_18_code
def yX11_put : MethodName := ⟨RX11, "put", "(IIIIJ)Z"⟩
abbrev cX11_why : ByteArray := prog_1_method_19_code
def yX11_why : MethodName := ⟨RX11, "why", "()I"⟩
abbrev cX11_cell : ByteArray := prog_1_method_20_code
def yX11_cell : MethodName := ⟨RX11, "cell", "(IIII)J"⟩
abbrev cX11_unlike : ByteArray := prog_1_method_21_code
def yX11_unlike : MethodName := ⟨RX11, "unlike", "(III)J"⟩
abbrev cX11_rowSort : ByteArray := prog_1_method_22_code
def yX11_rowSort : MethodName := ⟨RX11, "rowSort", "(II)I"⟩
abbrev cX11_placesOf : ByteArray := prog_1_method_23_code
def yX11_placesOf : MethodName := ⟨RX11, "placesOf", "(III)I"⟩
abbrev cX11_kindRefusal : ByteArray := prog_1_method_24_code
def yX11_kindRefusal : MethodName := ⟨RX11, "kindRefusal", "(IIII)I"⟩
abbrev cX11_thingRefusal : ByteArray := prog_1_method_25_code
def yX11_thingRefusal : MethodName := ⟨RX11, "thingRefusal", "(IIII)I"⟩
abbrev cX11_takesThing : ByteArray := prog_1_method_26_code
def yX11_takesThing : MethodName := ⟨RX11, "takesThing", "(II)Z"⟩
abbrev cX11_differing : ByteArray := prog_1_method_27_code
def yX11_differing : MethodName := ⟨RX11, "differing", "([J[J)J"⟩
abbrev cX11_make : ByteArray := prog_1_method_28_code
def yX11_make : MethodName := ⟨RX11, "make", "(I)I"⟩
abbrev cX11_copy : ByteArray := prog_1_method_29_code
def yX11_copy : MethodName := ⟨RX11, "copy", "(II)I"⟩
abbrev cX11_drop : ByteArray := prog_1_method_30_code
def yX11_drop : MethodName := ⟨RX11, "drop", "(II)Z"⟩
abbrev cX11_chance : ByteArray := prog_1_method_31_code
def yX11_chance : MethodName := ⟨RX11, "chance", "(I)I"⟩
abbrev cX11_makeByChance : ByteArray := prog_1_method_32_code
def yX11_makeByChance : MethodName := ⟨RX11, "makeByChance", "()Z"⟩
abbrev cX11_draw : ByteArray := prog_1_method_33_code
def yX11_draw : MethodName := ⟨RX11, "draw", "(I)I"⟩
abbrev cX11_cross : ByteArray := prog_1_method_34_code
def yX11_cross : MethodName := ⟨RX11, "cross", "(II)I"⟩
abbrev cX11_account : ByteArray := prog_1_method_35_code
def yX11_account : MethodName := ⟨RX11, "account", "(I)I"⟩
abbrev cX11_would : ByteArray := prog_1_method_36_code
def yX11_would : MethodName := ⟨RX11, "would", "(III)I"⟩
abbrev cX11_round : ByteArray := prog_1_method_37_code
def yX11_round : MethodName := ⟨RX11, "round", "(III)J"⟩
abbrev cX11_proved : ByteArray := prog_1_method_38_code
def yX11_proved : MethodName := ⟨RX11, "proved", "(II)I"⟩
abbrev cX11_way : ByteArray := prog_1_method_39_code
def yX11_way : MethodName := ⟨RX11, "way", "(III)I"⟩
abbrev cX11_least : ByteArray := prog_1_method_40_code
def yX11_least : MethodName := ⟨RX11, "least", "(IIII)I"⟩
abbrev cX11_origins : ByteArray := prog_1_method_41_code
def yX11_origins : MethodName := ⟨RX11, "origins", "(II)I"⟩
abbrev cX11_tells : ByteArray := prog_1_method_42_code
def yX11_tells : MethodName := ⟨RX11, "tells", "(II)I"⟩
abbrev cX11_idle : ByteArray := prog_1_method_43_code
def yX11_idle : MethodName := ⟨RX11, "idle", "(II)I"⟩
abbrev cX11_carryRecord : ByteArray := prog_1_method_44_code
def yX11_carryRecord : MethodName := ⟨RX11, "carryRecord", "(LRecordBridge$Passage;I)V"⟩
abbrev cX11_undo : ByteArray := prog_1_method_45_code
def yX11_undo : MethodName := ⟨RX11, "undo", "()Z"⟩
abbrev cX11_seed : ByteArray := prog_1_method_46_code
def yX11_seed : MethodName := ⟨RX11, "seed", "(I)Z"⟩
abbrev cX11_status : ByteArray := prog_1_method_47_code
def yX11_status : MethodName := ⟨RX11, "status", "(I)I"⟩
def RX12 : String := "RecordBridgeModel"
def TX12 : u_T := fun k => match k with
  | 0 => ("RecordBridgeModel", "tape", "[I", true)
  | 1 => ("RecordBridgeModel", "taped", "I", false)
  | 2 => ("RecordBridgeModel", "at", "I", false)
  | 3 => ("RecordBridgeModel", "end", "I", false)
  | 4 => ("RecordBridgeModel", "ended", "I", false)
  | 5 => ("RecordBridgeModel", "bad", "I", false)
  | 6 => ("RecordBridgeModel", "badPlace", "I", false)
  | 7 => ("RecordBridgeModel", "fault", "I", false)
  | 8 => ("RecordBridgeModel", "faultPlace", "I", false)
  | 9 => ("RecordBridgeModel", "refused", "[I", true)
  | 10 => ("RecordBridgeModel", "own", "[C", true)
  | 11 => ("RecordBridgeModel", "namePlace", "I", false)
  | 12 => ("RecordBridgeModel", "draft", "[I", true)
  | 13 => ("RecordBridgeModel", "told", "[I", true)
  | 14 => ("RecordBridgeModel", "isTold", "Z", false)
  | 15 => ("RecordBridgeModel", "statements", "I", false)
  | 16 => ("RecordBridgeModel", "now", "[J", true)
  | 17 => ("RecordBridgeModel", "widening", "[I", true)
  | 18 => ("RecordBridgeModel", "why", "I", false)
  | 19 => ("RecordBridgeModel", "seeded", "J", false)
  | 20 => ("RecordBridgeModel", "source", "[J", true)
  | 21 => ("RecordBridgeModel", "target", "[J", true)
  | 22 => ("RecordBridgeModel", "tally", "[I", true)
  | 23 => ("RecordBridgeModel", "isRead", "[Z", true)
  | 24 => ("RecordBridgeModel", "isFilled", "[Z", true)
  | 25 => ("RecordBridgeModel", "hasAccount", "Z", false)
  | 26 => ("RecordBridgeModel", "account", "[I", true)
  | 27 => ("RecordBridgeModel", "path", "[I", true)
  | 28 => ("RecordBridgeModel", "found", "[I", true)
  | 29 => ("RecordBridgeModel", "acts", "[J", true)
  | 30 => ("RecordBridgeModel", "undoable", "I", false)
  | _ => ("RecordBridgeModel", "newest", "I", false)
def tyX12 : Nat → FieldType := fun k => match k with
  | 0 => .array .int
  | 1 => .int
  | 2 => .int
  | 3 => .int
  | 4 => .int
  | 5 => .int
  | 6 => .int
  | 7 => .int
  | 8 => .int
  | 9 => .array .int
  | 10 => .array .char
  | 11 => .int
  | 12 => .array .int
  | 13 => .array .int
  | 14 => .boolean
  | 15 => .int
  | 16 => .array .long
  | 17 => .array .int
  | 18 => .int
  | 19 => .long
  | 20 => .array .long
  | 21 => .array .long
  | 22 => .array .int
  | 23 => .array .boolean
  | 24 => .array .boolean
  | 25 => .boolean
  | 26 => .array .int
  | 27 => .array .int
  | 28 => .array .int
  | 29 => .array .long
  | 30 => .int
  | _ => .int
abbrev wsX120 : List Cond := u_ws RX12 TX12 32
theorem nmX12 : ∀ a, a < 32 → ∀ b, b < 32 → a ≠ b → (TX12 a).2.1 ≠ (TX12 b).2.1 := by decide +kernel
theorem tyX12_ok : ∀ k, k < 32 → parseFieldDescriptor (TX12 k).2.2.1 = some (tyX12 k) := by decide +kernel
abbrev cX12_init : ByteArray := prog_14_method_1_code
def yX12_init : MethodName := ⟨RX12, "<init>", "()V"⟩
abbrev cX12_isIn : ByteArray := prog_14_method_2_code
def yX12_isIn : MethodName := ⟨RX12, "isIn", "(JJJ)Z"⟩
abbrev cX12_lessOf : ByteArray := prog_14_method_3_code
def yX12_lessOf : MethodName := ⟨RX12, "lessOf", "(II)I"⟩
abbrev cX12_flag : ByteArray := prog_14_method_4_code
def yX12_flag : MethodName := ⟨RX12, "flag", "(Z)I"⟩
abbrev cX12_refuses : ByteArray := prog_14_method_5_code
def yX12_refuses : MethodName := ⟨RX12, "refuses", "(I)I"⟩
abbrev cX12_isRefused : ByteArray := prog_14_method_6_code
def yX12_isRefused : MethodName := ⟨RX12, "isRefused", "(I)Z"⟩
abbrev cX12_feed : ByteArray := prog_14_method_7_code
def yX12_feed : MethodName := ⟨RX12, "feed", "(IIIII)I"⟩
abbrev cX12_end : ByteArray := prog_14_method_8_code
def yX12_end : MethodName := ⟨RX12, "end", "(I)Z"⟩
abbrev cX12_status : ByteArray := prog_14_method_9_code
def yX12_status : MethodName := ⟨RX12, "status", "(I)I"⟩
abbrev cX12_fault : ByteArray := prog_14_method_10_code
def yX12_fault : MethodName := ⟨RX12, "fault", "(I)I"⟩
abbrev cX12_fail : ByteArray := prog_14_method_11_code
def yX12_fail : MethodName := ⟨RX12, "fail", "(II)V"⟩
abbrev cX12_isLetter : ByteArray := prog_14_method_12_code
def yX12_isLetter : MethodName := ⟨RX12, "isLetter", "(I)Z"⟩
abbrev cX12_isDigit : ByteArray := prog_14_method_13_code
def yX12_isDigit : MethodName := ⟨RX12, "isDigit", "(I)Z"⟩
abbrev cX12_look : ByteArray := prog_14_method_14_code
def yX12_look : MethodName := ⟨RX12, "look", "()I"⟩
abbrev cX12_isWordHere : ByteArray := prog_14_method_15_code
def yX12_isWordHere : MethodName := ⟨RX12, "isWordHere", "()Z"⟩
abbrev cX12_takesSign : ByteArray := prog_14_method_16_code
def yX12_takesSign : MethodName := ⟨RX12, "takesSign", "(I)Z"⟩
abbrev cX12_asksSign : ByteArray := prog_14_method_17_code
def yX12_asksSign : MethodName := ⟨RX12, "asksSign", "(I)V"⟩
abbrev cX12_number : ByteArray := prog_14_method_18_code
def yX12_number : MethodName := ⟨RX12, "number", "(II)I"⟩
abbrev cX12_ownHere : ByteArray := prog_14_method_19_code
def yX12_ownHere : MethodName := ⟨RX12, "ownHere", "()I"⟩
abbrev cX12_isLike : ByteArray := prog_14_method_20_code
def yX12_isLike : MethodName := ⟨RX12, "isLike", "(II)Z"⟩
abbrev cX12_passes : ByteArray := prog_14_method_21_code
def yX12_passes : MethodName := ⟨RX12, "passes", "()V"⟩
abbrev cX12_takes : ByteArray := prog_14_method_22_code
def yX12_takes : MethodName := ⟨RX12, "takes", "(I)Z"⟩
abbrev cX12_asks : ByteArray := prog_14_method_23_code
def yX12_asks : MethodName := ⟨RX12, "asks", "(I)V"⟩
abbrev cX12_name : ByteArray := prog_14_method_24_code
def yX12_name : MethodName := ⟨RX12, "name", "()I"⟩
abbrev cX12_schemeAt : ByteArray := prog_14_method_25_code
def yX12_schemeAt : MethodName := ⟨RX12, "schemeAt", "(II)I"⟩
abbrev cX12_fieldAt : ByteArray := prog_14_method_26_code
def yX12_fieldAt : MethodName := ⟨RX12, "fieldAt", "(III)I"⟩
abbrev cX12_crossingAt : ByteArray := prog_14_method_27_code
def yX12_crossingAt : MethodName := ⟨RX12, "crossingAt", "(II)I"⟩
abbrev cX12_ruleAt : ByteArray := prog_14_method_28_code
def yX12_ruleAt : MethodName := ⟨RX12, "ruleAt", "(III)I"⟩
abbrev cX12_schemeNamed : ByteArray := prog_14_method_29_code
def yX12_schemeNamed : MethodName := ⟨RX12, "schemeNamed", "([II)I"⟩
abbrev cX12_fieldNamed : ByteArray := prog_14_method_30_code
def yX12_fieldNamed : MethodName := ⟨RX12, "fieldNamed", "([III)I"⟩
abbrev cX12_fieldTold : ByteArray := prog_14_method_31_code
def yX12_fieldTold : MethodName := ⟨RX12, "fieldTold", "(I)V"⟩
abbrev cX12_schemeTold : ByteArray := prog_14_method_32_code
def yX12_schemeTold : MethodName := ⟨RX12, "schemeTold", "(I)V"⟩
abbrev cX12_schemeHere : ByteArray := prog_14_method_33_code
def yX12_schemeHere : MethodName := ⟨RX12, "schemeHere", "()I"⟩
abbrev cX12_fieldHere : ByteArray := prog_14_method_34_code
def yX12_fieldHere : MethodName := ⟨RX12, "fieldHere", "(I)I"⟩
abbrev cX12_isNumber : ByteArray := prog_14_method_35_code
def yX12_isNumber : MethodName := ⟨RX12, "isNumber", "(I)Z"⟩
abbrev cX12_kindDrafted : ByteArray := prog_14_method_36_code
def yX12_kindDrafted : MethodName := ⟨RX12, "kindDrafted", "(II)I"⟩
abbrev cX12_ruleTold : ByteArray := prog_14_method_37_code
def yX12_ruleTold : MethodName := ⟨RX12, "ruleTold", "(III)V"⟩
abbrev cX12_rule : ByteArray := prog_14_method_38_code
def yX12_rule : MethodName := ⟨RX12, "rule", "(IIIII)V"⟩
abbrev cX12_sourceTold : ByteArray := prog_14_method_39_code
def yX12_sourceTold : MethodName := ⟨RX12, "sourceTold", "(III)V"⟩
abbrev cX12_crossTold : ByteArray := prog_14_method_40_code
def yX12_crossTold : MethodName := ⟨RX12, "crossTold", "(I)V"⟩
abbrev cX12_statementTold : ByteArray := prog_14_method_41_code
def yX12_statementTold : MethodName := ⟨RX12, "statementTold", "()V"⟩
abbrev cX12_book : ByteArray := prog_14_method_42_code
def yX12_book : MethodName := ⟨RX12, "book", "()I"⟩
abbrev cX12_isScheme : ByteArray := prog_14_method_43_code
def yX12_isScheme : MethodName := ⟨RX12, "isScheme", "(I)Z"⟩
abbrev cX12_fieldMany : ByteArray := prog_14_method_44_code
def yX12_fieldMany : MethodName := ⟨RX12, "fieldMany", "(I)I"⟩
abbrev cX12_isField : ByteArray := prog_14_method_45_code
def yX12_isField : MethodName := ⟨RX12, "isField", "(II)Z"⟩
abbrev cX12_kindOf : ByteArray := prog_14_method_46_code
def yX12_kindOf : MethodName := ⟨RX12, "kindOf", "(II)I"⟩
abbrev cX12_cellsOf : ByteArray := prog_14_method_47_code
def yX12_cellsOf : MethodName := ⟨RX12, "cellsOf", "(II)I"⟩
abbrev cX12_isCrossing : ByteArray := prog_14_method_48_code
def yX12_isCrossing : MethodName := ⟨RX12, "isCrossing", "(I)Z"⟩
abbrev cX12_fromOf : ByteArray := prog_14_method_49_code
def yX12_fromOf : MethodName := ⟨RX12, "fromOf", "(I)I"⟩
abbrev cX12_toOf : ByteArray := prog_14_method_50_code
def yX12_toOf : MethodName := ⟨RX12, "toOf", "(I)I"⟩
abbrev cX12_ruleMany : ByteArray := prog_14_method_51_code
def yX12_ruleMany : MethodName := ⟨RX12, "ruleMany", "(I)I"⟩
abbrev cX12_ruleHas : ByteArray := prog_14_method_52_code
def yX12_ruleHas : MethodName := ⟨RX12, "ruleHas", "(III)I"⟩
abbrev cX12_placeAt : ByteArray := prog_14_method_53_code
def yX12_placeAt : MethodName := ⟨RX12, "placeAt", "(III)I"⟩
abbrev cX12_recordMany : ByteArray := prog_14_method_54_code
def yX12_recordMany : MethodName := ⟨RX12, "recordMany", "(I)I"⟩
abbrev cX12_isRecord : ByteArray := prog_14_method_55_code
def yX12_isRecord : MethodName := ⟨RX12, "isRecord", "(II)Z"⟩
abbrev cX12_begins : ByteArray := prog_14_method_56_code
def yX12_begins : MethodName := ⟨RX12, "begins", "()V"⟩
abbrev cX12_word : ByteArray := prog_14_method_57_code
def yX12_word : MethodName := ⟨RX12, "word", "(J)J"⟩
abbrev cX12_float0 : ByteArray := prog_14_method_58_code
def yX12_float0 : MethodName := ⟨RX12, "float0", "(F)J"⟩
abbrev cX12_double0 : ByteArray := prog_14_method_59_code
def yX12_double0 : MethodName := ⟨RX12, "double0", "(D)J"⟩
abbrev cX12_cast : ByteArray := prog_14_method_60_code
def yX12_cast : MethodName := ⟨RX12, "cast", "(JI)J"⟩
abbrev cX12_toldAs : ByteArray := prog_14_method_61_code
def yX12_toldAs : MethodName := ⟨RX12, "toldAs", "(JI)J"⟩
abbrev cX12_doesWiden : ByteArray := prog_14_method_62_code
def yX12_doesWiden : MethodName := ⟨RX12, "doesWiden", "(II)Z"⟩
abbrev cX12_real : ByteArray := prog_14_method_63_code
def yX12_real : MethodName := ⟨RX12, "real", "(JI)D"⟩
abbrev cX12_castFrom : ByteArray := prog_14_method_64_code
def yX12_castFrom : MethodName := ⟨RX12, "castFrom", "(JII)J"⟩
abbrev cX12_widened : ByteArray := prog_14_method_65_code
def yX12_widened : MethodName := ⟨RX12, "widened", "(JII)J"⟩
abbrev cX12_spelled : ByteArray := prog_14_method_66_code
def yX12_spelled : MethodName := ⟨RX12, "spelled", "(J)J"⟩
abbrev cX12_lettersOf : ByteArray := prog_14_method_67_code
def yX12_lettersOf : MethodName := ⟨RX12, "lettersOf", "(J)I"⟩
abbrev cX12_read : ByteArray := prog_14_method_68_code
def yX12_read : MethodName := ⟨RX12, "read", "(J)J"⟩
abbrev cX12_wordOf : ByteArray := prog_14_method_69_code
def yX12_wordOf : MethodName := ⟨RX12, "wordOf", "(J)J"⟩
abbrev cX12_narrowed : ByteArray := prog_14_method_70_code
def yX12_narrowed : MethodName := ⟨RX12, "narrowed", "(JII)J"⟩
abbrev cX12_carried : ByteArray := prog_14_method_71_code
def yX12_carried : MethodName := ⟨RX12, "carried", "(JII)J"⟩
abbrev cX12_has : ByteArray := prog_14_method_72_code
def yX12_has : MethodName := ⟨RX12, "has", "(I)I"⟩
abbrev cX12_letter : ByteArray := prog_14_method_73_code
def yX12_letter : MethodName := ⟨RX12, "letter", "(III)I"⟩
abbrev cX12_named : ByteArray := prog_14_method_74_code
def yX12_named : MethodName := ⟨RX12, "named", "(I)I"⟩
abbrev cX12_field : ByteArray := prog_14_method_75_code
def yX12_field : MethodName := ⟨RX12, "field", "(III)I"⟩
abbrev cX12_readBits : ByteArray := prog_14_method_76_code
def yX12_readBits : MethodName := ⟨RX12, "readBits", "(I)I"⟩
abbrev cX12_filledBits : ByteArray := prog_14_method_77_code
def yX12_filledBits : MethodName := ⟨RX12, "filledBits", "(I)I"⟩
abbrev cX12_crossing : ByteArray := prog_14_method_78_code
def yX12_crossing : MethodName := ⟨RX12, "crossing", "(II)I"⟩
abbrev cX12_madeKind : ByteArray := prog_14_method_79_code
def yX12_madeKind : MethodName := ⟨RX12, "madeKind", "(II)I"⟩
abbrev cX12_targetKind : ByteArray := prog_14_method_80_code
def yX12_targetKind : MethodName := ⟨RX12, "targetKind", "(II)I"⟩
abbrev cX12_rule_ : ByteArray := prog_14_method_81_code
def yX12_rule_ : MethodName := ⟨RX12, "rule", "(III)I"⟩
abbrev cX12_widens : ByteArray := prog_14_method_82_code
def yX12_widens : MethodName := ⟨RX12, "widens", "(II)I"⟩
abbrev cX12_rowKind : ByteArray := prog_14_method_83_code
def yX12_rowKind : MethodName := ⟨RX12, "rowKind", "(II)I"⟩
abbrev cX12_longOf : ByteArray := prog_14_method_84_code
def yX12_longOf : MethodName := ⟨RX12, "longOf", "(II)I"⟩
abbrev cX12_length : ByteArray := prog_14_method_85_code
def yX12_length : MethodName := ⟨RX12, "length", "(II)I"⟩
abbrev cX12_isRefusedBy : ByteArray := prog_14_method_86_code
def yX12_isRefusedBy : MethodName := ⟨RX12, "isRefusedBy", "(I)Z"⟩
abbrev cX12_reasonOf : ByteArray := prog_14_method_87_code
def yX12_reasonOf : MethodName := ⟨RX12, "reasonOf", "(IIIIZ)I"⟩
abbrev cX12_read_ : ByteArray := prog_14_method_88_code
def yX12_read_ : MethodName := ⟨RX12, "read", "(IIII)J"⟩
abbrev cX12_get : ByteArray := prog_14_method_89_code
def yX12_get : MethodName := ⟨RX12, "get", "(IIII)J"⟩
abbrev cX12_write : ByteArray := prog_14_method_90_code
def yX12_write : MethodName := ⟨RX12, "write", "(IIIIJ)Z"⟩
abbrev cX12_reasonPut : ByteArray := prog_14_method_91_code
def yX12_reasonPut : MethodName := ⟨RX12, "reasonPut", "(IIII)I"⟩
abbrev cX12_put : ByteArray := prog_14_method_92_code
def yX12_put : MethodName := ⟨RX12, "put", "(IIIIJ)Z"⟩
abbrev cX12_why : ByteArray := prog_14_method_93_code
def yX12_why : MethodName := ⟨RX12, "why", "()I"⟩
abbrev cX12_cellAt : ByteArray := prog_14_method_94_code
def yX12_cellAt : MethodName := ⟨RX12, "cellAt", "(IIII)J"⟩
abbrev cX12_valueAt : ByteArray := prog_14_method_95_code
def yX12_valueAt : MethodName := ⟨RX12, "valueAt", "(IIII)J"⟩
abbrev cX12_cell : ByteArray := prog_14_method_96_code
def yX12_cell : MethodName := ⟨RX12, "cell", "(IIII)J"⟩
abbrev cX12_unlike : ByteArray := prog_14_method_97_code
def yX12_unlike : MethodName := ⟨RX12, "unlike", "(III)J"⟩
abbrev cX12_laysRecord : ByteArray := prog_14_method_98_code
def yX12_laysRecord : MethodName := ⟨RX12, "laysRecord", "(II)V"⟩
abbrev cX12_copiesRecord : ByteArray := prog_14_method_99_code
def yX12_copiesRecord : MethodName := ⟨RX12, "copiesRecord", "(III)V"⟩
abbrev cX12_make : ByteArray := prog_14_method_100_code
def yX12_make : MethodName := ⟨RX12, "make", "(I)I"⟩
abbrev cX12_makes : ByteArray := prog_14_method_101_code
def yX12_makes : MethodName := ⟨RX12, "makes", "(I)I"⟩
abbrev cX12_copy : ByteArray := prog_14_method_102_code
def yX12_copy : MethodName := ⟨RX12, "copy", "(II)I"⟩
abbrev cX12_drop : ByteArray := prog_14_method_103_code
def yX12_drop : MethodName := ⟨RX12, "drop", "(II)Z"⟩
abbrev cX12_seed : ByteArray := prog_14_method_104_code
def yX12_seed : MethodName := ⟨RX12, "seed", "(I)Z"⟩
abbrev cX12_drawOf : ByteArray := prog_14_method_105_code
def yX12_drawOf : MethodName := ⟨RX12, "drawOf", "(I)I"⟩
abbrev cX12_chance : ByteArray := prog_14_method_106_code
def yX12_chance : MethodName := ⟨RX12, "chance", "(I)I"⟩
abbrev cX12_takesRecord : ByteArray := prog_14_method_107_code
def yX12_takesRecord : MethodName := ⟨RX12, "takesRecord", "(II)V"⟩
abbrev cX12_held : ByteArray := prog_14_method_108_code
def yX12_held : MethodName := ⟨RX12, "held", "(D)D"⟩
abbrev cX12_made : ByteArray := prog_14_method_109_code
def yX12_made : MethodName := ⟨RX12, "made", "(III)J"⟩
abbrev cX12_longRule : ByteArray := prog_14_method_110_code
def yX12_longRule : MethodName := ⟨RX12, "longRule", "(II)I"⟩
abbrev cX12_tallies : ByteArray := prog_14_method_111_code
def yX12_tallies : MethodName := ⟨RX12, "tallies", "(JIJI)V"⟩
abbrev cX12_marks : ByteArray := prog_14_method_112_code
def yX12_marks : MethodName := ⟨RX12, "marks", "(III)V"⟩
abbrev cX12_missing : ByteArray := prog_14_method_113_code
def yX12_missing : MethodName := ⟨RX12, "missing", "(I[Z)I"⟩
abbrev cX12_carries : ByteArray := prog_14_method_114_code
def yX12_carries : MethodName := ⟨RX12, "carries", "(I)V"⟩
abbrev cX12_targetIsSource : ByteArray := prog_14_method_115_code
def yX12_targetIsSource : MethodName := ⟨RX12, "targetIsSource", "()V"⟩
abbrev cX12_cross : ByteArray := prog_14_method_116_code
def yX12_cross : MethodName := ⟨RX12, "cross", "(II)I"⟩
abbrev cX12_account : ByteArray := prog_14_method_117_code
def yX12_account : MethodName := ⟨RX12, "account", "(I)I"⟩
abbrev cX12_canCross : ByteArray := prog_14_method_118_code
def yX12_canCross : MethodName := ⟨RX12, "canCross", "(II)Z"⟩
abbrev cX12_would : ByteArray := prog_14_method_119_code
def yX12_would : MethodName := ⟨RX12, "would", "(III)I"⟩
abbrev cX12_doesLeadBack : ByteArray := prog_14_method_120_code
def yX12_doesLeadBack : MethodName := ⟨RX12, "doesLeadBack", "(II)Z"⟩
abbrev cX12_unlikeTarget : ByteArray := prog_14_method_121_code
def yX12_unlikeTarget : MethodName := ⟨RX12, "unlikeTarget", "(II)J"⟩
abbrev cX12_round : ByteArray := prog_14_method_122_code
def yX12_round : MethodName := ⟨RX12, "round", "(III)J"⟩
abbrev cX12_isAside : ByteArray := prog_14_method_123_code
def yX12_isAside : MethodName := ⟨RX12, "isAside", "(II)Z"⟩
abbrev cX12_isAlone : ByteArray := prog_14_method_124_code
def yX12_isAlone : MethodName := ⟨RX12, "isAlone", "(III)Z"⟩
abbrev cX12_isProved : ByteArray := prog_14_method_125_code
def yX12_isProved : MethodName := ⟨RX12, "isProved", "(IIII)Z"⟩
abbrev cX12_proved : ByteArray := prog_14_method_126_code
def yX12_proved : MethodName := ⟨RX12, "proved", "(II)I"⟩
abbrev cX12_isWay : ByteArray := prog_14_method_127_code
def yX12_isWay : MethodName := ⟨RX12, "isWay", "(IIII)Z"⟩
abbrev cX12_rowsOf : ByteArray := prog_14_method_128_code
def yX12_rowsOf : MethodName := ⟨RX12, "rowsOf", "(I)I"⟩
abbrev cX12_way : ByteArray := prog_14_method_129_code
def yX12_way : MethodName := ⟨RX12, "way", "(III)I"⟩
abbrev cX12_losses : ByteArray := prog_14_method_130_code
def yX12_losses : MethodName := ⟨RX12, "losses", "(III)I"⟩
abbrev cX12_least : ByteArray := prog_14_method_131_code
def yX12_least : MethodName := ⟨RX12, "least", "(IIII)I"⟩
abbrev cX12_origins : ByteArray := prog_14_method_132_code
def yX12_origins : MethodName := ⟨RX12, "origins", "(II)I"⟩
abbrev cX12_areLike : ByteArray := prog_14_method_133_code
def yX12_areLike : MethodName := ⟨RX12, "areLike", "(IIII)Z"⟩
abbrev cX12_mostAlike : ByteArray := prog_14_method_134_code
def yX12_mostAlike : MethodName := ⟨RX12, "mostAlike", "(II)I"⟩
abbrev cX12_tells : ByteArray := prog_14_method_135_code
def yX12_tells : MethodName := ⟨RX12, "tells", "(II)I"⟩
abbrev cX12_idle : ByteArray := prog_14_method_136_code
def yX12_idle : MethodName := ⟨RX12, "idle", "(II)I"⟩
abbrev cX12_keeps : ByteArray := prog_14_method_137_code
def yX12_keeps : MethodName := ⟨RX12, "keeps", "()V"⟩
abbrev cX12_undo : ByteArray := prog_14_method_138_code
def yX12_undo : MethodName := ⟨RX12, "undo", "()Z"⟩
def RJx145de : String := "java/io/Serializable"
def TJx145de : u_T := fun k => match k with
  | _ => ("", "", "", false)
def tyJx145de : Nat → FieldType := fun k => match k with
  | _ => .int
abbrev wsJx145de0 : List Cond := u_ws RJx145de TJx145de 0
theorem nmJx145de : ∀ a, a < 0 → ∀ b, b < 0 → a ≠ b → (TJx145de a).2.1 ≠ (TJx145de b).2.1 := by decide +kernel
theorem tyJx145de_ok : ∀ k, k < 0 → parseFieldDescriptor (TJx145de k).2.2.1 = some (tyJx145de k) := by decide +kernel
def RJx9f9b0 : String := "java/lang/CharSequence"
def TJx9f9b0 : u_T := fun k => match k with
  | _ => ("", "", "", false)
def tyJx9f9b0 : Nat → FieldType := fun k => match k with
  | _ => .int
abbrev wsJx9f9b00 : List Cond := u_ws RJx9f9b0 TJx9f9b0 0
theorem nmJx9f9b0 : ∀ a, a < 0 → ∀ b, b < 0 → a ≠ b → (TJx9f9b0 a).2.1 ≠ (TJx9f9b0 b).2.1 := by decide +kernel
theorem tyJx9f9b0_ok : ∀ k, k < 0 → parseFieldDescriptor (TJx9f9b0 k).2.2.1 = some (tyJx9f9b0 k) := by decide +kernel
def RJxb160c : String := "java/lang/Comparable"
def TJxb160c : u_T := fun k => match k with
  | _ => ("", "", "", false)
def tyJxb160c : Nat → FieldType := fun k => match k with
  | _ => .int
abbrev wsJxb160c0 : List Cond := u_ws RJxb160c TJxb160c 0
theorem nmJxb160c : ∀ a, a < 0 → ∀ b, b < 0 → a ≠ b → (TJxb160c a).2.1 ≠ (TJxb160c b).2.1 := by decide +kernel
theorem tyJxb160c_ok : ∀ k, k < 0 → parseFieldDescriptor (TJxb160c k).2.2.1 = some (tyJxb160c k) := by decide +kernel
def RJxe99ae : String := "java/lang/Double"
def TJxe99ae : u_T := fun k => match k with
  | _ => ("", "", "", false)
def tyJxe99ae : Nat → FieldType := fun k => match k with
  | _ => .int
abbrev wsJxe99ae0 : List Cond := u_ws RJxe99ae TJxe99ae 0
theorem nmJxe99ae : ∀ a, a < 0 → ∀ b, b < 0 → a ≠ b → (TJxe99ae a).2.1 ≠ (TJxe99ae b).2.1 := by decide +kernel
theorem tyJxe99ae_ok : ∀ k, k < 0 → parseFieldDescriptor (TJxe99ae k).2.2.1 = some (tyJxe99ae k) := by decide +kernel
abbrev cJxe99ae_isNaN_b9ae7 : ByteArray := prog_15_method_6_code
def yJxe99ae_isNaN_b9ae7 : MethodName := ⟨RJxe99ae, "isNaN", "(D)Z"⟩
abbrev cJxe99ae_doubleToLongBits_ccdee : ByteArray := prog_15_method_23_code
def yJxe99ae_doubleToLongBits_ccdee : MethodName := ⟨RJxe99ae, "doubleToLongBits", "(D)J"⟩
def RJxf58ca : String := "java/lang/Float"
def TJxf58ca : u_T := fun k => match k with
  | _ => ("", "", "", false)
def tyJxf58ca : Nat → FieldType := fun k => match k with
  | _ => .int
abbrev wsJxf58ca0 : List Cond := u_ws RJxf58ca TJxf58ca 0
theorem nmJxf58ca : ∀ a, a < 0 → ∀ b, b < 0 → a ≠ b → (TJxf58ca a).2.1 ≠ (TJxf58ca b).2.1 := by decide +kernel
theorem tyJxf58ca_ok : ∀ k, k < 0 → parseFieldDescriptor (TJxf58ca k).2.2.1 = some (tyJxf58ca k) := by decide +kernel
abbrev cJxf58ca_isNaN_12338 : ByteArray := prog_16_method_6_code
def yJxf58ca_isNaN_12338 : MethodName := ⟨RJxf58ca, "isNaN", "(F)Z"⟩
abbrev cJxf58ca_floatToIntBits_5c35a : ByteArray := prog_16_method_24_code
def yJxf58ca_floatToIntBits_5c35a : MethodName := ⟨RJxf58ca, "floatToIntBits", "(F)I"⟩
def RJ6 : String := "java/lang/Integer"
def TJ6 : u_T := fun k => match k with
  | _ => ("", "", "", false)
def tyJ6 : Nat → FieldType := fun k => match k with
  | _ => .int
abbrev wsJ60 : List Cond := u_ws RJ6 TJ6 0
theorem nmJ6 : ∀ a, a < 0 → ∀ b, b < 0 → a ≠ b → (TJ6 a).2.1 ≠ (TJ6 b).2.1 := by decide +kernel
theorem tyJ6_ok : ∀ k, k < 0 → parseFieldDescriptor (TJ6 k).2.2.1 = some (tyJ6 k) := by decide +kernel
abbrev cJ6_bitCount_0f7a4 : ByteArray := prog_17_method_49_code
def yJ6_bitCount_0f7a4 : MethodName := ⟨RJ6, "bitCount", "(I)I"⟩
def RJ9 : String := "java/lang/Math"
def TJ9 : u_T := fun k => match k with
  | _ => ("", "", "", false)
def tyJ9 : Nat → FieldType := fun k => match k with
  | _ => .int
abbrev wsJ90 : List Cond := u_ws RJ9 TJ9 0
theorem nmJ9 : ∀ a, a < 0 → ∀ b, b < 0 → a ≠ b → (TJ9 a).2.1 ≠ (TJ9 b).2.1 := by decide +kernel
theorem tyJ9_ok : ∀ k, k < 0 → parseFieldDescriptor (TJ9 k).2.2.1 = some (tyJ9 k) := by decide +kernel
abbrev cJ9_floorMod_7cf53 : ByteArray := prog_18_method_50_code
def yJ9_floorMod_7cf53 : MethodName := ⟨RJ9, "floorMod", "(II)I"⟩
abbrev cJ9_max_7cf53 : ByteArray := prog_18_method_65_code
def yJ9_max_7cf53 : MethodName := ⟨RJ9, "max", "(II)I"⟩
abbrev cJ9_min_7cf53 : ByteArray := prog_18_method_69_code
def yJ9_min_7cf53 : MethodName := ⟨RJ9, "min", "(II)I"⟩
def RJxd2413 : String := "java/lang/Number"
def TJxd2413 : u_T := fun k => match k with
  | _ => ("", "", "", false)
def tyJxd2413 : Nat → FieldType := fun k => match k with
  | _ => .int
abbrev wsJxd24130 : List Cond := u_ws RJxd2413 TJxd2413 0
theorem nmJxd2413 : ∀ a, a < 0 → ∀ b, b < 0 → a ≠ b → (TJxd2413 a).2.1 ≠ (TJxd2413 b).2.1 := by decide +kernel
theorem tyJxd2413_ok : ∀ k, k < 0 → parseFieldDescriptor (TJxd2413 k).2.2.1 = some (tyJxd2413 k) := by decide +kernel
def RJ0 : String := "java/lang/String"
def TJ0 : u_T := fun k => match k with
  | _ => ("", "", "", false)
def tyJ0 : Nat → FieldType := fun k => match k with
  | _ => .int
abbrev wsJ00 : List Cond := u_ws RJ0 TJ0 0
theorem nmJ0 : ∀ a, a < 0 → ∀ b, b < 0 → a ≠ b → (TJ0 a).2.1 ≠ (TJ0 b).2.1 := by decide +kernel
theorem tyJ0_ok : ∀ k, k < 0 → parseFieldDescriptor (TJ0 k).2.2.1 = some (tyJ0 k) := by decide +kernel
abbrev cJ0_length_8abf5 : ByteArray := prog_20_method_54_code
def yJ0_length_8abf5 : MethodName := ⟨RJ0, "length", "()I"⟩
abbrev cJ0_charAt_5068e : ByteArray := prog_20_method_56_code
def yJ0_charAt_5068e : MethodName := ⟨RJ0, "charAt", "(I)C"⟩
abbrev cJ0_coder_7d493 : ByteArray := prog_20_method_152_code
def yJ0_coder_7d493 : MethodName := ⟨RJ0, "coder", "()B"⟩
abbrev cJ0_isLatin1_aae02 : ByteArray := prog_20_method_154_code
def yJ0_isLatin1_aae02 : MethodName := ⟨RJ0, "isLatin1", "()Z"⟩
abbrev cJ0_checkIndex_df160 : ByteArray := prog_20_method_155_code
def yJ0_checkIndex_df160 : MethodName := ⟨RJ0, "checkIndex", "(II)V"⟩
def RJ1 : String := "java/lang/StringLatin1"
def TJ1 : u_T := fun k => match k with
  | _ => ("", "", "", false)
def tyJ1 : Nat → FieldType := fun k => match k with
  | _ => .int
abbrev wsJ10 : List Cond := u_ws RJ1 TJ1 0
theorem nmJ1 : ∀ a, a < 0 → ∀ b, b < 0 → a ≠ b → (TJ1 a).2.1 ≠ (TJ1 b).2.1 := by decide +kernel
theorem tyJ1_ok : ∀ k, k < 0 → parseFieldDescriptor (TJ1 k).2.2.1 = some (tyJ1 k) := by decide +kernel
abbrev cJ1_charAt_3b067 : ByteArray := prog_21_method_2_code
def yJ1_charAt_3b067 : MethodName := ⟨RJ1, "charAt", "([BI)C"⟩
def RJ2 : String := "java/lang/StringUTF16"
def TJ2 : u_T := fun k => match k with
  | _ => ("", "", "", false)
def tyJ2 : Nat → FieldType := fun k => match k with
  | _ => .int
abbrev wsJ20 : List Cond := u_ws RJ2 TJ2 0
theorem nmJ2 : ∀ a, a < 0 → ∀ b, b < 0 → a ≠ b → (TJ2 a).2.1 ≠ (TJ2 b).2.1 := by decide +kernel
theorem tyJ2_ok : ∀ k, k < 0 → parseFieldDescriptor (TJ2 k).2.2.1 = some (tyJ2 k) := by decide +kernel
abbrev cJ2_getChar_3b067 : ByteArray := prog_22_method_5_code
def yJ2_getChar_3b067 : MethodName := ⟨RJ2, "getChar", "([BI)C"⟩
abbrev cJ2_length_9d52b : ByteArray := prog_22_method_6_code
def yJ2_length_9d52b : MethodName := ⟨RJ2, "length", "([B)I"⟩
abbrev cJ2_charAt_3b067 : ByteArray := prog_22_method_83_code
def yJ2_charAt_3b067 : MethodName := ⟨RJ2, "charAt", "([BI)C"⟩
abbrev cJ2_checkIndex_2214a : ByteArray := prog_22_method_91_code
def yJ2_checkIndex_2214a : MethodName := ⟨RJ2, "checkIndex", "(I[B)V"⟩
def RJ10 : String := "java/lang/System"
def TJ10 : u_T := fun k => match k with
  | _ => ("", "", "", false)
def tyJ10 : Nat → FieldType := fun k => match k with
  | _ => .int
abbrev wsJ100 : List Cond := u_ws RJ10 TJ10 0
theorem nmJ10 : ∀ a, a < 0 → ∀ b, b < 0 → a ≠ b → (TJ10 a).2.1 ≠ (TJ10 b).2.1 := by decide +kernel
theorem tyJ10_ok : ∀ k, k < 0 → parseFieldDescriptor (TJ10 k).2.2.1 = some (tyJ10 k) := by decide +kernel
def RJxfd54e : String := "java/lang/constant/Constable"
def TJxfd54e : u_T := fun k => match k with
  | _ => ("", "", "", false)
def tyJxfd54e : Nat → FieldType := fun k => match k with
  | _ => .int
abbrev wsJxfd54e0 : List Cond := u_ws RJxfd54e TJxfd54e 0
theorem nmJxfd54e : ∀ a, a < 0 → ∀ b, b < 0 → a ≠ b → (TJxfd54e a).2.1 ≠ (TJxfd54e b).2.1 := by decide +kernel
theorem tyJxfd54e_ok : ∀ k, k < 0 → parseFieldDescriptor (TJxfd54e k).2.2.1 = some (tyJxfd54e k) := by decide +kernel
def RJx3cf43 : String := "java/lang/constant/ConstantDesc"
def TJx3cf43 : u_T := fun k => match k with
  | _ => ("", "", "", false)
def tyJx3cf43 : Nat → FieldType := fun k => match k with
  | _ => .int
abbrev wsJx3cf430 : List Cond := u_ws RJx3cf43 TJx3cf43 0
theorem nmJx3cf43 : ∀ a, a < 0 → ∀ b, b < 0 → a ≠ b → (TJx3cf43 a).2.1 ≠ (TJx3cf43 b).2.1 := by decide +kernel
theorem tyJx3cf43_ok : ∀ k, k < 0 → parseFieldDescriptor (TJx3cf43 k).2.2.1 = some (tyJx3cf43 k) := by decide +kernel
def RJ7 : String := "java/util/Arrays"
def TJ7 : u_T := fun k => match k with
  | _ => ("", "", "", false)
def tyJ7 : Nat → FieldType := fun k => match k with
  | _ => .int
abbrev wsJ70 : List Cond := u_ws RJ7 TJ7 0
theorem nmJ7 : ∀ a, a < 0 → ∀ b, b < 0 → a ≠ b → (TJ7 a).2.1 ≠ (TJ7 b).2.1 := by decide +kernel
theorem tyJ7_ok : ∀ k, k < 0 → parseFieldDescriptor (TJ7 k).2.2.1 = some (tyJ7 k) := by decide +kernel
abbrev cJ7_fill_d0a16 : ByteArray := prog_24_method_101_code
def yJ7_fill_d0a16 : MethodName := ⟨RJ7, "fill", "([JJ)V"⟩
abbrev cJ7_fill_53178 : ByteArray := prog_24_method_103_code
def yJ7_fill_53178 : MethodName := ⟨RJ7, "fill", "([II)V"⟩
def RJ3 : String := "jdk/internal/util/Preconditions"
def TJ3 : u_T := fun k => match k with
  | _ => ("", "", "", false)
def tyJ3 : Nat → FieldType := fun k => match k with
  | _ => .int
abbrev wsJ30 : List Cond := u_ws RJ3 TJ3 0
theorem nmJ3 : ∀ a, a < 0 → ∀ b, b < 0 → a ≠ b → (TJ3 a).2.1 ≠ (TJ3 b).2.1 := by decide +kernel
theorem tyJ3_ok : ∀ k, k < 0 → parseFieldDescriptor (TJ3 k).2.2.1 = some (tyJ3 k) := by decide +kernel
abbrev cJ3_checkIndex_8e157 : ByteArray := prog_25_method_11_code
def yJ3_checkIndex_8e157 : MethodName := ⟨RJ3, "checkIndex", "(IILjava/util/function/BiFunction;)I"⟩
def RL : String := "RecordBridgeLaw"
abbrev cL_law : ByteArray := code
def yL_law : MethodName := ⟨RL, "law", "([I)Z"⟩
def wsL_law_r1 : List Cond := [Cond.classLink RL 7 RX11, Cond.instantiable RX11 14, Cond.initialized RX11, Cond.classLink RL 10 RX12, Cond.instantiable RX12 32, Cond.initialized RX12, Cond.constantLong RL 76 (4294967295), Cond.methodLink RL 9 yX11_init, Cond.instanceMethod yX11_init, Cond.code yX11_init cX11_init 1 none, Cond.methodLink RX11 1 objectInit, Cond.instanceMethod objectInit, Cond.code objectInit ⟨#[0xb1]⟩ 1 none, Cond.classLink RX11 7 RX0, Cond.instantiable RX0 20, Cond.initialized RX0, Cond.fieldLink RX11 10 "RecordBridge" "reader" "LRecordBridge$BookReader;", Cond.fieldLink RX11 16 "RecordBridge$BookReader" "tape" "LRecordBridge$Tape;", Cond.fieldLink RX11 20 "RecordBridge" "tape" "LRecordBridge$Tape;", Cond.classLink RX11 21 RX6, Cond.instantiable RX6 4, Cond.initialized RX6, Cond.fieldLink RX11 24 "RecordBridge" "rows" "LRecordBridge$Rows;", Cond.classLink RX11 28 RX1]
def wsL_law_r2 : List Cond := [Cond.instantiable RX1 1, Cond.initialized RX1, Cond.fieldLink RX11 31 "RecordBridge" "carrier" "LRecordBridge$Carrier;", Cond.classLink RX11 35 RX10, Cond.instantiable RX10 6, Cond.initialized RX10, Cond.fieldLink RX11 38 "RecordBridge" "ways" "LRecordBridge$Ways;", Cond.arrayClass .int, Cond.fieldLink RX11 42 "RecordBridge" "refusals" "[I", Cond.fieldLink RX11 46 "RecordBridge" "lastAccount" "[I", Cond.arrayClass .long, Cond.fieldLink RX11 49 "RecordBridge" "values" "[J", Cond.fieldLink RX11 53 "RecordBridge" "carried" "[J", Cond.fieldLink RX11 56 "RecordBridge" "compared" "[J", Cond.classLink RX11 59 RX4, Cond.instantiable RX4 4, Cond.initialized RX4, Cond.fieldLink RX11 62 "RecordBridge" "plan" "LRecordBridge$Plan;", Cond.fieldLink RX11 66 "RecordBridge" "drawn" "I", Cond.methodLink RX11 9 yX0_init, Cond.instanceMethod yX0_init, Cond.code yX0_init cX0_init 5 none, Cond.methodLink RX0 3 objectInit, Cond.fieldLink RX0 11 "RecordBridge$BookReader" "ownWords" "[I"]
def wsL_law_r3 : List Cond := [Cond.classLink RX0 15 RX9, Cond.instantiable RX9 2, Cond.initialized RX9, Cond.fieldLink RX0 18 "RecordBridge$BookReader" "tape" "LRecordBridge$Tape;", Cond.classLink RX0 22 RX4, Cond.fieldLink RX0 25 "RecordBridge$BookReader" "plan" "LRecordBridge$Plan;", Cond.classLink RX0 29 RX8, Cond.instantiable RX8 7, Cond.initialized RX8, Cond.fieldLink RX0 32 "RecordBridge$BookReader" "shape" "LRecordBridge$Shape;", Cond.classLink RX0 36 RX3, Cond.instantiable RX3 4, Cond.initialized RX3, Cond.fieldLink RX0 39 "RecordBridge$BookReader" "passage" "LRecordBridge$Passage;", Cond.fieldLink RX0 43 "RecordBridge$BookReader" "first" "LRecordBridge$Shape;", Cond.fieldLink RX0 46 "RecordBridge$BookReader" "second" "LRecordBridge$Shape;", Cond.classLink RX0 49 RX7, Cond.instantiable RX7 8, Cond.initialized RX7, Cond.fieldLink RX0 52 "RecordBridge$BookReader" "rule" "LRecordBridge$Rule;", Cond.fieldLink RX0 56 "RecordBridge$BookReader" "faultPlace" "I", Cond.instanceMethod yX9_init, Cond.code yX9_init cX9_init 1 none, Cond.methodLink RX9 1 objectInit]
def wsL_law_r4 : List Cond := [Cond.fieldLink RX9 9 "RecordBridge$Tape" "bytes" "[I", Cond.methodLink RX0 24 yX4_init, Cond.instanceMethod yX4_init, Cond.code yX4_init cX4_init 2 none, Cond.methodLink RX4 3 objectInit, Cond.classLink RX4 11 RX8, Cond.fieldLink RX4 13 "RecordBridge$Plan" "shapes" "[LRecordBridge$Shape;", Cond.classLink RX4 17 RX3, Cond.fieldLink RX4 19 "RecordBridge$Plan" "passages" "[LRecordBridge$Passage;", Cond.instanceMethod yX8_init, Cond.code yX8_init cX8_init 1 none, Cond.methodLink RX8 3 objectInit, Cond.fieldLink RX8 11 "RecordBridge$Shape" "names" "[I", Cond.fieldLink RX8 15 "RecordBridge$Shape" "kinds" "[I", Cond.fieldLink RX8 18 "RecordBridge$Shape" "cells" "[I", Cond.fieldLink RX8 21 "RecordBridge$Shape" "starts" "[I", Cond.methodLink RX4 24 yX3_init, Cond.instanceMethod yX3_init, Cond.code yX3_init cX3_init 2 none, Cond.methodLink RX3 1 objectInit, Cond.classLink RX3 9 RX7, Cond.fieldLink RX3 11 "RecordBridge$Passage" "rules" "[LRecordBridge$Rule;", Cond.instanceMethod yX7_init, Cond.code yX7_init cX7_init 1 none]
def wsL_law_r5 : List Cond := [Cond.methodLink RX7 1 objectInit, Cond.methodLink RX0 38 yX3_init, Cond.methodLink RX0 62 yJ0_length_8abf5, Cond.instanceMethod yJ0_length_8abf5, Cond.selects RJ0 yJ0_length_8abf5 yJ0_length_8abf5, Cond.initialized RJ0, Cond.code yJ0_length_8abf5 cJ0_length_8abf5 1 (some .int), Cond.fieldLink RJ0 9 "java/lang/String" "value" "[B", Cond.methodLink RJ0 335 yJ0_coder_7d493, Cond.instanceMethod yJ0_coder_7d493, Cond.selects RJ0 yJ0_coder_7d493 yJ0_coder_7d493, Cond.code yJ0_coder_7d493 cJ0_coder_7d493 1 (some .byte), Cond.fieldLink RJ0 38 "java/lang/String" "COMPACT_STRINGS" "Z", Cond.fieldLink RJ0 15 "java/lang/String" "coder" "B", Cond.methodLink RX0 68 yJ0_charAt_5068e, Cond.instanceMethod yJ0_charAt_5068e, Cond.selects RJ0 yJ0_charAt_5068e yJ0_charAt_5068e, Cond.code yJ0_charAt_5068e cJ0_charAt_5068e 2 (some .char), Cond.methodLink RJ0 492 yJ0_isLatin1_aae02, Cond.instanceMethod yJ0_isLatin1_aae02, Cond.selects RJ0 yJ0_isLatin1_aae02 yJ0_isLatin1_aae02, Cond.code yJ0_isLatin1_aae02 cJ0_isLatin1_aae02 1 (some .boolean), Cond.methodLink RJ0 495 yJ1_charAt_3b067, Cond.static yJ1_charAt_3b067]
def wsL_law_r6 : List Cond := [Cond.initialized RJ1, Cond.code yJ1_charAt_3b067 cJ1_charAt_3b067 2 (some .char), Cond.methodLink RJ1 9 yJ0_checkIndex_df160, Cond.static yJ0_checkIndex_df160, Cond.code yJ0_checkIndex_df160 cJ0_checkIndex_df160 2 none, Cond.fieldLink RJ0 1053 "jdk/internal/util/Preconditions" "SIOOBE_FORMATTER" "Ljava/util/function/BiFunction;", Cond.methodLink RJ0 1059 yJ3_checkIndex_8e157, Cond.static yJ3_checkIndex_8e157, Cond.initialized RJ3, Cond.code yJ3_checkIndex_8e157 cJ3_checkIndex_8e157 3 (some .int), Cond.methodLink RJ0 498 yJ2_charAt_3b067, Cond.static yJ2_charAt_3b067, Cond.initialized RJ2, Cond.code yJ2_charAt_3b067 cJ2_charAt_3b067 2 (some .char), Cond.methodLink RJ2 67 yJ2_checkIndex_2214a, Cond.static yJ2_checkIndex_2214a, Cond.code yJ2_checkIndex_2214a cJ2_checkIndex_2214a 2 none, Cond.methodLink RJ2 48 yJ2_length_9d52b, Cond.static yJ2_length_9d52b, Cond.code yJ2_length_9d52b cJ2_length_9d52b 1 (some .int), Cond.methodLink RJ2 414 yJ0_checkIndex_df160, Cond.methodLink RJ2 71 yJ2_getChar_3b067, Cond.static yJ2_getChar_3b067, Cond.code yJ2_getChar_3b067 cJ2_getChar_3b067 2 (some .char)]
def wsL_law_r7 : List Cond := [Cond.fieldLink RJ2 44 "java/lang/StringUTF16" "$assertionsDisabled" "Z", Cond.fieldLink RJ2 59 "java/lang/StringUTF16" "HI_BYTE_SHIFT" "I", Cond.fieldLink RJ2 63 "java/lang/StringUTF16" "LO_BYTE_SHIFT" "I", Cond.methodLink RX0 72 yX9_withLetter, Cond.static yX9_withLetter, Cond.code yX9_withLetter cX9_withLetter 3 (some .int), Cond.methodLink RX11 23 yX6_init, Cond.instanceMethod yX6_init, Cond.code yX6_init cX6_init 1 none, Cond.methodLink RX6 7 objectInit, Cond.fieldLink RX6 13 "RecordBridge$Rows" "now" "[J", Cond.classLink RX6 17 "[[J", Cond.fieldLink RX6 19 "RecordBridge$Rows" "past" "[[J", Cond.methodLink RX6 22 yX6_clear, Cond.instanceMethod yX6_clear, Cond.selects RX6 yX6_clear yX6_clear, Cond.code yX6_clear cX6_clear 1 none, Cond.constantLong RX6 33 (7), Cond.constantLong RX6 39 (34), Cond.fieldLink RX6 41 "RecordBridge$Rows" "next" "I", Cond.fieldLink RX6 45 "RecordBridge$Rows" "kept" "I", Cond.methodLink RX6 25 yJ7_fill_d0a16, Cond.static yJ7_fill_d0a16, Cond.initialized RJ7]
def wsL_law_r8 : List Cond := [Cond.code yJ7_fill_d0a16 cJ7_fill_d0a16 5 none, Cond.methodLink RX6 35 yX6_setThing, Cond.instanceMethod yX6_setThing, Cond.selects RX6 yX6_setThing yX6_setThing, Cond.code yX6_setThing cX6_setThing 5 none, Cond.instanceMethod yX1_init, Cond.code yX1_init cX1_init 1 none, Cond.methodLink RX1 3 objectInit, Cond.fieldLink RX1 11 "RecordBridge$Carrier" "account" "[I", Cond.instanceMethod yX10_init, Cond.code yX10_init cX10_init 1 none, Cond.methodLink RX10 3 objectInit, Cond.fieldLink RX10 11 "RecordBridge$Ways" "steps" "[I", Cond.fieldLink RX10 15 "RecordBridge$Ways" "bestSteps" "[I", Cond.fieldLink RX10 20 "RecordBridge$Ways" "one" "[J", Cond.fieldLink RX10 24 "RecordBridge$Ways" "other" "[J", Cond.methodLink RX11 61 yX4_init, Cond.methodLink RL 12 yX12_init, Cond.instanceMethod yX12_init, Cond.code yX12_init cX12_init 1 none, Cond.methodLink RX12 1 objectInit, Cond.fieldLink RX12 7 "RecordBridgeModel" "tape" "[I", Cond.fieldLink RX12 13 "RecordBridgeModel" "faultPlace" "I", Cond.fieldLink RX12 17 "RecordBridgeModel" "refused" "[I"]
def wsL_law_r9 : List Cond := [Cond.arrayClass .char, Cond.fieldLink RX12 20 "RecordBridgeModel" "own" "[C", Cond.fieldLink RX12 24 "RecordBridgeModel" "draft" "[I", Cond.fieldLink RX12 27 "RecordBridgeModel" "told" "[I", Cond.fieldLink RX12 30 "RecordBridgeModel" "now" "[J", Cond.fieldLink RX12 34 "RecordBridgeModel" "widening" "[I", Cond.fieldLink RX12 37 "RecordBridgeModel" "seeded" "J", Cond.fieldLink RX12 41 "RecordBridgeModel" "source" "[J", Cond.fieldLink RX12 44 "RecordBridgeModel" "target" "[J", Cond.fieldLink RX12 47 "RecordBridgeModel" "tally" "[I", Cond.arrayClass .boolean, Cond.fieldLink RX12 50 "RecordBridgeModel" "isRead" "[Z", Cond.fieldLink RX12 54 "RecordBridgeModel" "isFilled" "[Z", Cond.fieldLink RX12 57 "RecordBridgeModel" "account" "[I", Cond.fieldLink RX12 60 "RecordBridgeModel" "path" "[I", Cond.fieldLink RX12 63 "RecordBridgeModel" "found" "[I", Cond.fieldLink RX12 66 "RecordBridgeModel" "acts" "[J", Cond.methodLink RL 13 yX11_feed, Cond.instanceMethod yX11_feed, Cond.selects RX11 yX11_feed yX11_feed, Cond.code yX11_feed cX11_feed 6 (some .int), Cond.fieldLink RX11 80 "RecordBridge$Tape" "count" "I", Cond.methodLink RX11 70 yX9_takes, Cond.instanceMethod yX9_takes]
def wsL_law_r10 : List Cond := [Cond.selects RX9 yX9_takes yX9_takes, Cond.code yX9_takes cX9_takes 2 (some .boolean), Cond.fieldLink RX9 13 "RecordBridge$Tape" "count" "I", Cond.methodLink RX11 76 yX9_addNumber, Cond.instanceMethod yX9_addNumber, Cond.selects RX9 yX9_addNumber yX9_addNumber, Cond.code yX9_addNumber cX9_addNumber 3 none, Cond.methodLink RL 17 yX12_feed, Cond.instanceMethod yX12_feed, Cond.selects RX12 yX12_feed yX12_feed, Cond.code yX12_feed cX12_feed 8 (some .int), Cond.fieldLink RX12 69 "RecordBridgeModel" "taped" "I", Cond.methodLink RX12 72 yX12_refuses, Cond.instanceMethod yX12_refuses, Cond.selects RX12 yX12_refuses yX12_refuses, Cond.code yX12_refuses cX12_refuses 2 (some .int), Cond.methodLink RL 18 yX11_end, Cond.instanceMethod yX11_end, Cond.selects RX11 yX11_end yX11_end, Cond.code yX11_end cX11_end 2 (some .boolean), Cond.methodLink RL 22 yX12_end, Cond.instanceMethod yX12_end, Cond.selects RX12 yX12_end yX12_end, Cond.code yX12_end cX12_end 2 (some .boolean)]
def wsL_law_r11 : List Cond := [Cond.methodLink RX12 76 yX12_isRefused, Cond.instanceMethod yX12_isRefused, Cond.selects RX12 yX12_isRefused yX12_isRefused, Cond.code yX12_isRefused cX12_isRefused 2 (some .boolean), Cond.methodLink RL 23 yX11_book, Cond.instanceMethod yX11_book, Cond.selects RX11 yX11_book yX11_book, Cond.code yX11_book cX11_book 3 (some .int), Cond.fieldLink RX11 87 "RecordBridge$BookReader" "plan" "LRecordBridge$Plan;", Cond.fieldLink RX11 91 "RecordBridge" "accounted" "Z", Cond.fieldLink RX11 95 "RecordBridge$Plan" "shapeCount" "I", Cond.fieldLink RX11 98 "RecordBridge$Plan" "passageCount" "I", Cond.methodLink RX11 83 yX0_readBook, Cond.instanceMethod yX0_readBook, Cond.selects RX0 yX0_readBook yX0_readBook, Cond.code yX0_readBook cX0_readBook 3 (some .boolean), Cond.fieldLink RX0 79 "RecordBridge$BookReader" "state" "I", Cond.fieldLink RX0 82 "RecordBridge$BookReader" "at" "I", Cond.fieldLink RX0 85 "RecordBridge$BookReader" "faultSort" "I", Cond.fieldLink RX0 91 "RecordBridge$Tape" "count" "I", Cond.fieldLink RX0 94 "RecordBridge$Plan" "shapeCount" "I", Cond.methodLink RX0 76 yX4_clear, Cond.instanceMethod yX4_clear, Cond.selects RX4 yX4_clear yX4_clear]
def wsL_law_r12 : List Cond := [Cond.code yX4_clear cX4_clear 1 none, Cond.fieldLink RX4 25 "RecordBridge$Plan" "shapeCount" "I", Cond.fieldLink RX4 29 "RecordBridge$Plan" "passageCount" "I", Cond.methodLink RX0 88 yX0_lookAtNext, Cond.instanceMethod yX0_lookAtNext, Cond.selects RX0 yX0_lookAtNext yX0_lookAtNext, Cond.code yX0_lookAtNext cX0_lookAtNext 2 none, Cond.fieldLink RX0 116 "RecordBridge$BookReader" "letters" "I", Cond.fieldLink RX0 122 "RecordBridge$BookReader" "digits" "I", Cond.methodLink RX0 125 Lib.Math.min.name, Cond.static Lib.Math.min.name, Cond.initialized "java/lang/Math", Cond.code Lib.Math.min.name Lib.Math.min.code 2 (some .int), Cond.fieldLink RX0 134 "RecordBridge$BookReader" "number" "I", Cond.fieldLink RX0 140 "RecordBridge$BookReader" "word" "I", Cond.fieldLink RX0 143 "RecordBridge$BookReader" "ownWord" "I", Cond.methodLink RX0 108 yX9_isBlank, Cond.instanceMethod yX9_isBlank, Cond.selects RX9 yX9_isBlank yX9_isBlank, Cond.code yX9_isBlank cX9_isBlank 3 (some .boolean), Cond.methodLink RX9 17 yX9_byteAt, Cond.instanceMethod yX9_byteAt, Cond.selects RX9 yX9_byteAt yX9_byteAt, Cond.code yX9_byteAt cX9_byteAt 2 (some .int)]
def wsL_law_r13 : List Cond := [Cond.methodLink RX0 112 yX9_lettersFrom, Cond.instanceMethod yX9_lettersFrom, Cond.selects RX9 yX9_lettersFrom yX9_lettersFrom, Cond.code yX9_lettersFrom cX9_lettersFrom 3 (some .int), Cond.methodLink RX9 21 yX9_isLetter, Cond.instanceMethod yX9_isLetter, Cond.selects RX9 yX9_isLetter yX9_isLetter, Cond.code yX9_isLetter cX9_isLetter 3 (some .boolean), Cond.methodLink RX0 119 yX9_digitsFrom, Cond.instanceMethod yX9_digitsFrom, Cond.selects RX9 yX9_digitsFrom yX9_digitsFrom, Cond.code yX9_digitsFrom cX9_digitsFrom 3 (some .int), Cond.methodLink RX9 25 yX9_isDigit, Cond.instanceMethod yX9_isDigit, Cond.selects RX9 yX9_isDigit yX9_isDigit, Cond.code yX9_isDigit cX9_isDigit 3 (some .boolean), Cond.methodLink RX0 131 yX9_numberFrom, Cond.instanceMethod yX9_numberFrom, Cond.selects RX9 yX9_numberFrom yX9_numberFrom, Cond.code yX9_numberFrom cX9_numberFrom 5 (some .int), Cond.methodLink RX0 137 yX9_nameFrom, Cond.instanceMethod yX9_nameFrom, Cond.selects RX9 yX9_nameFrom yX9_nameFrom, Cond.code yX9_nameFrom cX9_nameFrom 4 (some .int)]
def wsL_law_r14 : List Cond := [Cond.methodLink RX9 28 yX9_withLetter, Cond.methodLink RX0 97 yX0_takeInScheme, Cond.instanceMethod yX0_takeInScheme, Cond.selects RX0 yX0_takeInScheme yX0_takeInScheme, Cond.code yX0_takeInScheme cX0_takeInScheme 1 (some .boolean), Cond.methodLink RX0 146 yX0_takeStatement, Cond.instanceMethod yX0_takeStatement, Cond.selects RX0 yX0_takeStatement yX0_takeStatement, Cond.code yX0_takeStatement cX0_takeStatement 2 (some .boolean), Cond.fieldLink RX0 203 "RecordBridge$Plan" "passageCount" "I", Cond.methodLink RX0 104 yX0_refuse, Cond.instanceMethod yX0_refuse, Cond.selects RX0 yX0_refuse yX0_refuse, Cond.code yX0_refuse cX0_refuse 3 (some .boolean), Cond.methodLink RX0 158 yX0_goOn, Cond.instanceMethod yX0_goOn, Cond.selects RX0 yX0_goOn yX0_goOn, Cond.code yX0_goOn cX0_goOn 2 (some .boolean), Cond.methodLink RX0 194 Lib.Math.max.name, Cond.static Lib.Math.max.name, Cond.code Lib.Math.max.name Lib.Math.max.code 2 (some .int), Cond.methodLink RX0 149 yX0_takeSchemeName, Cond.instanceMethod yX0_takeSchemeName, Cond.selects RX0 yX0_takeSchemeName yX0_takeSchemeName]
def wsL_law_r15 : List Cond := [Cond.code yX0_takeSchemeName cX0_takeSchemeName 2 (some .boolean), Cond.methodLink RX0 206 yX0_nameStands, Cond.instanceMethod yX0_nameStands, Cond.selects RX0 yX0_nameStands yX0_nameStands, Cond.code yX0_nameStands cX0_nameStands 1 (some .boolean), Cond.methodLink RX0 209 yX4_shapeOfName, Cond.instanceMethod yX4_shapeOfName, Cond.selects RX4 yX4_shapeOfName yX4_shapeOfName, Cond.code yX4_shapeOfName cX4_shapeOfName 4 (some .int), Cond.fieldLink RX4 47 "RecordBridge$Shape" "name" "I", Cond.methodLink RX4 32 yX4_shape, Cond.instanceMethod yX4_shape, Cond.selects RX4 yX4_shape yX4_shape, Cond.code yX4_shape cX4_shape 2 (some (.object "RecordBridge$Shape")), Cond.methodLink RX0 212 yX4_addShape, Cond.instanceMethod yX4_addShape, Cond.selects RX4 yX4_addShape yX4_addShape, Cond.code yX4_addShape cX4_addShape 3 (some (.object "RecordBridge$Shape")), Cond.methodLink RX4 36 yX8_begin, Cond.instanceMethod yX8_begin, Cond.selects RX8 yX8_begin yX8_begin, Cond.code yX8_begin cX8_begin 2 none, Cond.fieldLink RX8 24 "RecordBridge$Shape" "name" "I", Cond.fieldLink RX8 28 "RecordBridge$Shape" "fieldCount" "I"]
def wsL_law_r16 : List Cond := [Cond.fieldLink RX8 31 "RecordBridge$Shape" "cellCount" "I", Cond.methodLink RX0 152 yX0_takeKind, Cond.instanceMethod yX0_takeKind, Cond.selects RX0 yX0_takeKind yX0_takeKind, Cond.code yX0_takeKind cX0_takeKind 1 (some .boolean), Cond.fieldLink RX0 216 "RecordBridge$Shape" "fieldCount" "I", Cond.fieldLink RX0 224 "RecordBridge$BookReader" "kind" "I", Cond.methodLink RX0 219 yX0_refuseOneMore, Cond.instanceMethod yX0_refuseOneMore, Cond.selects RX0 yX0_refuseOneMore yX0_refuseOneMore, Cond.code yX0_refuseOneMore cX0_refuseOneMore 1 (some .boolean), Cond.methodLink RX0 155 yX0_takeFieldName, Cond.instanceMethod yX0_takeFieldName, Cond.selects RX0 yX0_takeFieldName yX0_takeFieldName, Cond.code yX0_takeFieldName cX0_takeFieldName 1 (some .boolean), Cond.methodLink RX0 227 yX8_fieldOfName, Cond.instanceMethod yX8_fieldOfName, Cond.selects RX8 yX8_fieldOfName yX8_fieldOfName, Cond.code yX8_fieldOfName cX8_fieldOfName 3 (some .int), Cond.methodLink RX0 230 yX8_addField, Cond.instanceMethod yX8_addField, Cond.selects RX8 yX8_addField yX8_addField, Cond.code yX8_addField cX8_addField 3 none, Cond.methodLink RX0 161 yX0_takeSign]
def wsL_law_r17 : List Cond := [Cond.instanceMethod yX0_takeSign, Cond.selects RX0 yX0_takeSign yX0_takeSign, Cond.code yX0_takeSign cX0_takeSign 3 (some .boolean), Cond.methodLink RX0 200 yX9_byteAt, Cond.methodLink RX0 164 yX0_takeTimesNumber, Cond.instanceMethod yX0_takeTimesNumber, Cond.selects RX0 yX0_takeTimesNumber yX0_takeTimesNumber, Cond.code yX0_takeTimesNumber cX0_takeTimesNumber 1 (some .boolean), Cond.methodLink RX0 234 yX0_numberStands, Cond.instanceMethod yX0_numberStands, Cond.selects RX0 yX0_numberStands yX0_numberStands, Cond.code yX0_numberStands cX0_numberStands 3 (some .boolean), Cond.methodLink RX0 197 yX9_isLetter, Cond.methodLink RX0 237 yX8_repeatLast, Cond.instanceMethod yX8_repeatLast, Cond.selects RX8 yX8_repeatLast yX8_repeatLast, Cond.code yX8_repeatLast cX8_repeatLast 2 none, Cond.methodLink RX8 34 yX8_hasField, Cond.instanceMethod yX8_hasField, Cond.selects RX8 yX8_hasField yX8_hasField, Cond.code yX8_hasField cX8_hasField 2 (some .boolean), Cond.methodLink RX0 101 yX0_takeInCross, Cond.instanceMethod yX0_takeInCross, Cond.selects RX0 yX0_takeInCross yX0_takeInCross]
def wsL_law_r18 : List Cond := [Cond.code yX0_takeInCross cX0_takeInCross 1 (some .boolean), Cond.methodLink RX0 167 yX0_takeFirstScheme, Cond.instanceMethod yX0_takeFirstScheme, Cond.selects RX0 yX0_takeFirstScheme yX0_takeFirstScheme, Cond.code yX0_takeFirstScheme cX0_takeFirstScheme 1 (some .boolean), Cond.fieldLink RX0 241 "RecordBridge$BookReader" "from" "I", Cond.methodLink RX0 170 yX0_takeSecondScheme, Cond.instanceMethod yX0_takeSecondScheme, Cond.selects RX0 yX0_takeSecondScheme yX0_takeSecondScheme, Cond.code yX0_takeSecondScheme cX0_takeSecondScheme 5 (some .boolean), Cond.methodLink RX0 244 yX4_shape, Cond.methodLink RX0 246 yX4_addPassage, Cond.instanceMethod yX4_addPassage, Cond.selects RX4 yX4_addPassage yX4_addPassage, Cond.code yX4_addPassage cX4_addPassage 4 (some (.object "RecordBridge$Passage")), Cond.methodLink RX4 40 yX4_passage, Cond.instanceMethod yX4_passage, Cond.selects RX4 yX4_passage yX4_passage, Cond.code yX4_passage cX4_passage 3 (some (.object "RecordBridge$Passage")), Cond.methodLink RX4 44 yX3_begin, Cond.instanceMethod yX3_begin, Cond.selects RX3 yX3_begin yX3_begin, Cond.code yX3_begin cX3_begin 3 none, Cond.fieldLink RX3 16 "RecordBridge$Passage" "from" "I"]
def wsL_law_r19 : List Cond := [Cond.fieldLink RX3 20 "RecordBridge$Passage" "to" "I", Cond.fieldLink RX3 23 "RecordBridge$Passage" "ruleCount" "I", Cond.methodLink RX0 173 yX0_takeTarget, Cond.instanceMethod yX0_takeTarget, Cond.selects RX0 yX0_takeTarget yX0_takeTarget, Cond.code yX0_takeTarget cX0_takeTarget 1 (some .boolean), Cond.fieldLink RX0 250 "RecordBridge$Passage" "ruleCount" "I", Cond.fieldLink RX0 253 "RecordBridge$BookReader" "target" "I", Cond.methodLink RX0 256 yX3_fieldsFilled, Cond.instanceMethod yX3_fieldsFilled, Cond.selects RX3 yX3_fieldsFilled yX3_fieldsFilled, Cond.code yX3_fieldsFilled cX3_fieldsFilled 4 (some .int), Cond.fieldLink RX3 34 "RecordBridge$Rule" "target" "I", Cond.methodLink RX3 26 yX3_ruleAt, Cond.instanceMethod yX3_ruleAt, Cond.selects RX3 yX3_ruleAt yX3_ruleAt, Cond.code yX3_ruleAt cX3_ruleAt 2 (some (.object "RecordBridge$Rule")), Cond.methodLink RX0 176 yX0_takeNumberSource, Cond.instanceMethod yX0_takeNumberSource, Cond.selects RX0 yX0_takeNumberSource yX0_takeNumberSource, Cond.code yX0_takeNumberSource cX0_takeNumberSource 1 (some .boolean), Cond.methodLink RX0 259 yX8_kindOf, Cond.instanceMethod yX8_kindOf, Cond.selects RX8 yX8_kindOf yX8_kindOf]
def wsL_law_r20 : List Cond := [Cond.code yX8_kindOf cX8_kindOf 2 (some .int), Cond.methodLink RX0 262 yX0_beginRule, Cond.instanceMethod yX0_beginRule, Cond.selects RX0 yX0_beginRule yX0_beginRule, Cond.code yX0_beginRule cX0_beginRule 6 (some .boolean), Cond.methodLink RX0 266 yX3_addRule, Cond.instanceMethod yX3_addRule, Cond.selects RX3 yX3_addRule yX3_addRule, Cond.code yX3_addRule cX3_addRule 1 (some (.object "RecordBridge$Rule")), Cond.methodLink RX0 270 yX7_set, Cond.instanceMethod yX7_set, Cond.selects RX7 yX7_set yX7_set, Cond.code yX7_set cX7_set 5 none, Cond.fieldLink RX7 7 "RecordBridge$Rule" "target" "I", Cond.fieldLink RX7 13 "RecordBridge$Rule" "sort" "I", Cond.fieldLink RX7 16 "RecordBridge$Rule" "first" "I", Cond.fieldLink RX7 19 "RecordBridge$Rule" "other" "I", Cond.methodLink RX0 179 yX0_takeFieldSource, Cond.instanceMethod yX0_takeFieldSource, Cond.selects RX0 yX0_takeFieldSource yX0_takeFieldSource, Cond.code yX0_takeFieldSource cX0_takeFieldSource 2 (some .boolean), Cond.methodLink RX0 182 yX0_takeSort, Cond.instanceMethod yX0_takeSort, Cond.selects RX0 yX0_takeSort yX0_takeSort]
def wsL_law_r21 : List Cond := [Cond.code yX0_takeSort cX0_takeSort 1 (some .boolean), Cond.fieldLink RX0 274 "RecordBridge$Rule" "first" "I", Cond.fieldLink RX0 279 "RecordBridge$Rule" "sort" "I", Cond.methodLink RX0 276 yX2_isNumber, Cond.static yX2_isNumber, Cond.initialized RX2, Cond.code yX2_isNumber cX2_isNumber 1 (some .boolean), Cond.methodLink RX0 185 yX0_takeRuleSign, Cond.instanceMethod yX0_takeRuleSign, Cond.selects RX0 yX0_takeRuleSign yX0_takeRuleSign, Cond.code yX0_takeRuleSign cX0_takeRuleSign 1 (some .boolean), Cond.methodLink RX0 285 yX7_settle, Cond.instanceMethod yX7_settle, Cond.selects RX7 yX7_settle yX7_settle, Cond.code yX7_settle cX7_settle 5 none, Cond.fieldLink RX7 32 "RecordBridge$Shape" "cells" "[I", Cond.fieldLink RX7 36 "RecordBridge$Rule" "cells" "I", Cond.fieldLink RX7 40 "RecordBridge$Rule" "made" "I", Cond.fieldLink RX7 43 "RecordBridge$Shape" "fieldCount" "I", Cond.methodLink RX7 46 Lib.Math.min.name, Cond.fieldLink RX7 52 "RecordBridge$Shape" "kinds" "[I", Cond.fieldLink RX7 62 "RecordBridge$Rule" "fits" "Z", Cond.fieldLink RX7 66 "RecordBridge$Rule" "cellsRead" "I", Cond.fieldLink RX7 69 "RecordBridge$Shape" "starts" "[I"]
def wsL_law_r22 : List Cond := [Cond.methodLink RX7 22 yX7_fieldsRead, Cond.instanceMethod yX7_fieldsRead, Cond.selects RX7 yX7_fieldsRead yX7_fieldsRead, Cond.code yX7_fieldsRead cX7_fieldsRead 1 (some .int), Cond.methodLink RX7 26 yX8_hasField, Cond.methodLink RX7 55 yX2_isReal, Cond.static yX2_isReal, Cond.code yX2_isReal cX2_isReal 1 (some .boolean), Cond.methodLink RX7 58 yX2_goesInto, Cond.static yX2_goesInto, Cond.code yX2_goesInto cX2_goesInto 2 (some .boolean), Cond.methodLink RX0 188 yX0_takeFactor, Cond.instanceMethod yX0_takeFactor, Cond.selects RX0 yX0_takeFactor yX0_takeFactor, Cond.code yX0_takeFactor cX0_takeFactor 1 (some .boolean), Cond.fieldLink RX0 282 "RecordBridge$Rule" "other" "I", Cond.methodLink RX0 191 yX0_takeSecondField, Cond.instanceMethod yX0_takeSecondField, Cond.selects RX0 yX0_takeSecondField yX0_takeSecondField, Cond.code yX0_takeSecondField cX0_takeSecondField 2 (some .boolean), Cond.methodLink RX11 88 yX6_clear, Cond.methodLink RL 27 yX12_book, Cond.instanceMethod yX12_book, Cond.selects RX12 yX12_book yX12_book]
def wsL_law_r23 : List Cond := [Cond.code yX12_book cX12_book 2 (some .int), Cond.fieldLink RX12 98 "RecordBridgeModel" "end" "I", Cond.fieldLink RX12 95 "RecordBridgeModel" "at" "I", Cond.fieldLink RX12 108 "RecordBridgeModel" "ended" "I", Cond.fieldLink RX12 89 "RecordBridgeModel" "bad" "I", Cond.fieldLink RX12 92 "RecordBridgeModel" "badPlace" "I", Cond.fieldLink RX12 210 "RecordBridgeModel" "statements" "I", Cond.fieldLink RX12 86 "RecordBridgeModel" "fault" "I", Cond.fieldLink RX12 216 "RecordBridgeModel" "isTold" "Z", Cond.methodLink RX12 101 yX12_look, Cond.instanceMethod yX12_look, Cond.selects RX12 yX12_look yX12_look, Cond.code yX12_look cX12_look 1 (some .int), Cond.methodLink RX12 114 yX12_fail, Cond.instanceMethod yX12_fail, Cond.selects RX12 yX12_fail yX12_fail, Cond.code yX12_fail cX12_fail 3 none, Cond.methodLink RX12 213 yX12_statementTold, Cond.instanceMethod yX12_statementTold, Cond.selects RX12 yX12_statementTold yX12_statementTold, Cond.code yX12_statementTold cX12_statementTold 2 none, Cond.methodLink RX12 135 yX12_takes, Cond.instanceMethod yX12_takes, Cond.selects RX12 yX12_takes yX12_takes]
def wsL_law_r24 : List Cond := [Cond.code yX12_takes cX12_takes 2 (some .boolean), Cond.methodLink RX12 129 yX12_ownHere, Cond.instanceMethod yX12_ownHere, Cond.selects RX12 yX12_ownHere yX12_ownHere, Cond.code yX12_ownHere cX12_ownHere 5 (some .int), Cond.methodLink RX12 121 yX12_isWordHere, Cond.instanceMethod yX12_isWordHere, Cond.selects RX12 yX12_isWordHere yX12_isWordHere, Cond.code yX12_isWordHere cX12_isWordHere 1 (some .boolean), Cond.methodLink RX12 105 yX12_isLetter, Cond.static yX12_isLetter, Cond.code yX12_isLetter cX12_isLetter 1 (some .boolean), Cond.methodLink RX12 125 yX12_isLike, Cond.instanceMethod yX12_isLike, Cond.selects RX12 yX12_isLike yX12_isLike, Cond.code yX12_isLike cX12_isLike 4 (some .boolean), Cond.methodLink RX12 132 yX12_passes, Cond.instanceMethod yX12_passes, Cond.selects RX12 yX12_passes yX12_passes, Cond.code yX12_passes cX12_passes 1 none, Cond.methodLink RX12 201 yX12_schemeTold, Cond.instanceMethod yX12_schemeTold, Cond.selects RX12 yX12_schemeTold yX12_schemeTold, Cond.code yX12_schemeTold cX12_schemeTold 5 none]
def wsL_law_r25 : List Cond := [Cond.fieldLink RX12 138 "RecordBridgeModel" "namePlace" "I", Cond.methodLink RX12 154 yX12_name, Cond.instanceMethod yX12_name, Cond.selects RX12 yX12_name yX12_name, Cond.code yX12_name cX12_name 2 (some .int), Cond.methodLink RX12 164 yX12_schemeNamed, Cond.instanceMethod yX12_schemeNamed, Cond.selects RX12 yX12_schemeNamed yX12_schemeNamed, Cond.code yX12_schemeNamed cX12_schemeNamed 4 (some .int), Cond.methodLink RX12 141 yX12_schemeAt, Cond.static yX12_schemeAt, Cond.code yX12_schemeAt cX12_schemeAt 2 (some .int), Cond.methodLink RX12 168 yX12_fieldTold, Cond.instanceMethod yX12_fieldTold, Cond.selects RX12 yX12_fieldTold yX12_fieldTold, Cond.code yX12_fieldTold cX12_fieldTold 6 none, Cond.constantLong RX12 152 (8), Cond.methodLink RX12 82 yX12_isIn, Cond.static yX12_isIn, Cond.code yX12_isIn cX12_isIn 6 (some .boolean), Cond.methodLink RX12 157 yX12_fieldNamed, Cond.instanceMethod yX12_fieldNamed, Cond.selects RX12 yX12_fieldNamed yX12_fieldNamed, Cond.code yX12_fieldNamed cX12_fieldNamed 5 (some .int)]
def wsL_law_r26 : List Cond := [Cond.methodLink RX12 148 yX12_fieldAt, Cond.static yX12_fieldAt, Cond.code yX12_fieldAt cX12_fieldAt 3 (some .int), Cond.methodLink RX12 161 yX12_number, Cond.instanceMethod yX12_number, Cond.selects RX12 yX12_number yX12_number, Cond.code yX12_number cX12_number 5 (some .int), Cond.methodLink RX12 118 yX12_isDigit, Cond.static yX12_isDigit, Cond.code yX12_isDigit cX12_isDigit 1 (some .boolean), Cond.methodLink RX12 111 yX12_takesSign, Cond.instanceMethod yX12_takesSign, Cond.selects RX12 yX12_takesSign yX12_takesSign, Cond.code yX12_takesSign cX12_takesSign 2 (some .boolean), Cond.methodLink RX12 204 yX12_crossTold, Cond.instanceMethod yX12_crossTold, Cond.selects RX12 yX12_crossTold yX12_crossTold, Cond.code yX12_crossTold cX12_crossTold 6 none, Cond.methodLink RX12 195 yX12_schemeHere, Cond.instanceMethod yX12_schemeHere, Cond.selects RX12 yX12_schemeHere yX12_schemeHere, Cond.code yX12_schemeHere cX12_schemeHere 3 (some .int), Cond.methodLink RX12 178 yX12_asks, Cond.instanceMethod yX12_asks]
def wsL_law_r27 : List Cond := [Cond.selects RX12 yX12_asks yX12_asks, Cond.code yX12_asks cX12_asks 2 none, Cond.methodLink RX12 145 yX12_crossingAt, Cond.static yX12_crossingAt, Cond.code yX12_crossingAt cX12_crossingAt 2 (some .int), Cond.methodLink RX12 198 yX12_ruleTold, Cond.instanceMethod yX12_ruleTold, Cond.selects RX12 yX12_ruleTold yX12_ruleTold, Cond.code yX12_ruleTold cX12_ruleTold 8 none, Cond.methodLink RX12 172 yX12_fieldHere, Cond.instanceMethod yX12_fieldHere, Cond.selects RX12 yX12_fieldHere yX12_fieldHere, Cond.code yX12_fieldHere cX12_fieldHere 4 (some .int), Cond.methodLink RX12 175 yX12_ruleAt, Cond.static yX12_ruleAt, Cond.code yX12_ruleAt cX12_ruleAt 3 (some .int), Cond.methodLink RX12 181 yX12_kindDrafted, Cond.instanceMethod yX12_kindDrafted, Cond.selects RX12 yX12_kindDrafted yX12_kindDrafted, Cond.code yX12_kindDrafted cX12_kindDrafted 3 (some .int), Cond.methodLink RX12 184 yX12_rule, Cond.instanceMethod yX12_rule, Cond.selects RX12 yX12_rule yX12_rule, Cond.code yX12_rule cX12_rule 6 none]
def wsL_law_r28 : List Cond := [Cond.methodLink RX12 188 yX12_sourceTold, Cond.instanceMethod yX12_sourceTold, Cond.selects RX12 yX12_sourceTold yX12_sourceTold, Cond.code yX12_sourceTold cX12_sourceTold 8 none, Cond.methodLink RX12 192 yX12_isNumber, Cond.static yX12_isNumber, Cond.code yX12_isNumber cX12_isNumber 1 (some .boolean), Cond.methodLink RX12 207 yX12_asksSign, Cond.instanceMethod yX12_asksSign, Cond.selects RX12 yX12_asksSign yX12_asksSign, Cond.code yX12_asksSign cX12_asksSign 2 none, Cond.methodLink RX12 220 yX12_begins, Cond.instanceMethod yX12_begins, Cond.selects RX12 yX12_begins yX12_begins, Cond.code yX12_begins cX12_begins 3 none, Cond.constantLong RX12 232 (4), Cond.constantLong RX12 234 (7), Cond.constantLong RX12 236 (34), Cond.constantLong RX12 238 (10), Cond.fieldLink RX12 240 "RecordBridgeModel" "hasAccount" "Z", Cond.fieldLink RX12 243 "RecordBridgeModel" "undoable" "I", Cond.methodLink RL 28 yX11_fault, Cond.instanceMethod yX11_fault, Cond.selects RX11 yX11_fault yX11_fault]
def wsL_law_r29 : List Cond := [Cond.code yX11_fault cX11_fault 2 (some .int), Cond.fieldLink RX11 101 "RecordBridge$BookReader" "faultSort" "I", Cond.fieldLink RX11 104 "RecordBridge$BookReader" "faultPlace" "I", Cond.methodLink RL 32 yX12_fault, Cond.instanceMethod yX12_fault, Cond.selects RX12 yX12_fault yX12_fault, Cond.code yX12_fault cX12_fault 2 (some .int), Cond.methodLink RL 33 yX11_has, Cond.instanceMethod yX11_has, Cond.selects RX11 yX11_has yX11_has, Cond.code yX11_has cX11_has 2 (some .int), Cond.fieldLink RX11 111 "RecordBridge$Rows" "kept" "I", Cond.methodLink RX11 107 yX6_countOf, Cond.instanceMethod yX6_countOf, Cond.selects RX6 yX6_countOf yX6_countOf, Cond.code yX6_countOf cX6_countOf 2 (some .int), Cond.methodLink RX11 114 yX11_hasOfScheme, Cond.instanceMethod yX11_hasOfScheme, Cond.selects RX11 yX11_hasOfScheme yX11_hasOfScheme, Cond.code yX11_hasOfScheme cX11_hasOfScheme 4 (some .int), Cond.fieldLink RX11 121 "RecordBridge$Shape" "fieldCount" "I", Cond.methodLink RX11 117 yX4_shape, Cond.methodLink RL 36 yX12_has, Cond.instanceMethod yX12_has]
def wsL_law_r30 : List Cond := [Cond.selects RX12 yX12_has yX12_has, Cond.code yX12_has cX12_has 2 (some .int), Cond.constantLong RX12 328 (9), Cond.methodLink RX12 223 yX12_isScheme, Cond.instanceMethod yX12_isScheme, Cond.selects RX12 yX12_isScheme yX12_isScheme, Cond.code yX12_isScheme cX12_isScheme 2 (some .boolean), Cond.methodLink RX12 229 yX12_recordMany, Cond.instanceMethod yX12_recordMany, Cond.selects RX12 yX12_recordMany yX12_recordMany, Cond.code yX12_recordMany cX12_recordMany 2 (some .int), Cond.methodLink RX12 226 yX12_fieldMany, Cond.instanceMethod yX12_fieldMany, Cond.selects RX12 yX12_fieldMany yX12_fieldMany, Cond.code yX12_fieldMany cX12_fieldMany 2 (some .int), Cond.methodLink RL 37 yX11_letter, Cond.instanceMethod yX11_letter, Cond.selects RX11 yX11_letter yX11_letter, Cond.code yX11_letter cX11_letter 5 (some .int), Cond.fieldLink RX11 126 "RecordBridge$Shape" "name" "I", Cond.fieldLink RX11 136 "RecordBridge$Shape" "names" "[I", Cond.methodLink RX11 129 yX9_letterOf, Cond.static yX9_letterOf, Cond.code yX9_letterOf cX9_letterOf 2 (some .int)]
def wsL_law_r31 : List Cond := [Cond.methodLink RX11 133 yX8_hasField, Cond.methodLink RL 41 yX12_letter, Cond.instanceMethod yX12_letter, Cond.selects RX12 yX12_letter yX12_letter, Cond.code yX12_letter cX12_letter 7 (some .int), Cond.constantLong RX12 80 (5), Cond.methodLink RX12 330 yX12_isField, Cond.instanceMethod yX12_isField, Cond.selects RX12 yX12_isField yX12_isField, Cond.code yX12_isField cX12_isField 3 (some .boolean), Cond.methodLink RL 42 yX11_named, Cond.instanceMethod yX11_named, Cond.selects RX11 yX11_named yX11_named, Cond.code yX11_named cX11_named 4 (some .int), Cond.methodLink RX11 139 yX9_wholeName, Cond.instanceMethod yX9_wholeName, Cond.selects RX9 yX9_wholeName yX9_wholeName, Cond.code yX9_wholeName cX9_wholeName 1 (some .int), Cond.methodLink RX9 32 yX9_lettersFrom, Cond.methodLink RX9 35 yX9_nameFrom, Cond.methodLink RX11 143 yX4_shapeOfName, Cond.methodLink RX11 146 yX8_fieldOfName, Cond.methodLink RL 45 yX12_named, Cond.instanceMethod yX12_named]
def wsL_law_r32 : List Cond := [Cond.selects RX12 yX12_named yX12_named, Cond.code yX12_named cX12_named 5 (some .int), Cond.methodLink RL 46 yX11_field, Cond.instanceMethod yX11_field, Cond.selects RX11 yX11_field yX11_field, Cond.code yX11_field cX11_field 5 (some .int), Cond.fieldLink RX11 149 "RecordBridge$Shape" "kinds" "[I", Cond.fieldLink RX11 152 "RecordBridge$Shape" "cells" "[I", Cond.methodLink RL 49 yX12_field, Cond.instanceMethod yX12_field, Cond.selects RX12 yX12_field yX12_field, Cond.code yX12_field cX12_field 4 (some .int), Cond.methodLink RX12 333 yX12_kindOf, Cond.instanceMethod yX12_kindOf, Cond.selects RX12 yX12_kindOf yX12_kindOf, Cond.code yX12_kindOf cX12_kindOf 3 (some .int), Cond.methodLink RX12 336 yX12_cellsOf, Cond.instanceMethod yX12_cellsOf, Cond.selects RX12 yX12_cellsOf yX12_cellsOf, Cond.code yX12_cellsOf cX12_cellsOf 3 (some .int), Cond.methodLink RL 50 yX11_crossing, Cond.instanceMethod yX11_crossing, Cond.selects RX11 yX11_crossing yX11_crossing, Cond.code yX11_crossing cX11_crossing 4 (some .int)]
def wsL_law_r33 : List Cond := [Cond.fieldLink RX11 159 "RecordBridge$Passage" "from" "I", Cond.fieldLink RX11 164 "RecordBridge$Passage" "to" "I", Cond.fieldLink RX11 167 "RecordBridge$Passage" "ruleCount" "I", Cond.methodLink RX11 155 yX4_passage, Cond.methodLink RX11 170 yX3_fieldsRead, Cond.instanceMethod yX3_fieldsRead, Cond.selects RX3 yX3_fieldsRead yX3_fieldsRead, Cond.code yX3_fieldsRead cX3_fieldsRead 4 (some .int), Cond.methodLink RX3 30 yX7_fieldsRead, Cond.methodLink RX11 173 yX3_fieldsFilled, Cond.methodLink RL 54 yX12_crossing, Cond.instanceMethod yX12_crossing, Cond.selects RX12 yX12_crossing yX12_crossing, Cond.code yX12_crossing cX12_crossing 3 (some .int), Cond.methodLink RX12 345 yX12_isCrossing, Cond.instanceMethod yX12_isCrossing, Cond.selects RX12 yX12_isCrossing yX12_isCrossing, Cond.code yX12_isCrossing cX12_isCrossing 2 (some .boolean), Cond.methodLink RX12 348 yX12_fromOf, Cond.instanceMethod yX12_fromOf, Cond.selects RX12 yX12_fromOf yX12_fromOf, Cond.code yX12_fromOf cX12_fromOf 2 (some .int), Cond.methodLink RX12 351 yX12_toOf, Cond.instanceMethod yX12_toOf]
def wsL_law_r34 : List Cond := [Cond.selects RX12 yX12_toOf yX12_toOf, Cond.code yX12_toOf cX12_toOf 2 (some .int), Cond.methodLink RX12 339 yX12_ruleMany, Cond.instanceMethod yX12_ruleMany, Cond.selects RX12 yX12_ruleMany yX12_ruleMany, Cond.code yX12_ruleMany cX12_ruleMany 2 (some .int), Cond.methodLink RX12 354 yX12_readBits, Cond.instanceMethod yX12_readBits, Cond.selects RX12 yX12_readBits yX12_readBits, Cond.code yX12_readBits cX12_readBits 4 (some .int), Cond.methodLink RX12 342 yX12_ruleHas, Cond.instanceMethod yX12_ruleHas, Cond.selects RX12 yX12_ruleHas yX12_ruleHas, Cond.code yX12_ruleHas cX12_ruleHas 4 (some .int), Cond.methodLink RX12 357 yX12_filledBits, Cond.instanceMethod yX12_filledBits, Cond.selects RX12 yX12_filledBits yX12_filledBits, Cond.code yX12_filledBits cX12_filledBits 4 (some .int), Cond.methodLink RL 55 yX11_rule, Cond.instanceMethod yX11_rule, Cond.selects RX11 yX11_rule yX11_rule, Cond.code yX11_rule cX11_rule 6 (some .int), Cond.fieldLink RX11 180 "RecordBridge$Rule" "target" "I", Cond.fieldLink RX11 185 "RecordBridge$Rule" "sort" "I"]
def wsL_law_r35 : List Cond := [Cond.fieldLink RX11 188 "RecordBridge$Rule" "first" "I", Cond.fieldLink RX11 191 "RecordBridge$Rule" "other" "I", Cond.fieldLink RX11 194 "RecordBridge$Rule" "fits" "Z", Cond.methodLink RX11 176 yX3_ruleAt, Cond.methodLink RL 58 yX12_rule_, Cond.instanceMethod yX12_rule_, Cond.selects RX12 yX12_rule_ yX12_rule_, Cond.code yX12_rule_ cX12_rule_ 4 (some .int), Cond.methodLink RX12 360 yX12_madeKind, Cond.instanceMethod yX12_madeKind, Cond.selects RX12 yX12_madeKind yX12_madeKind, Cond.code yX12_madeKind cX12_madeKind 5 (some .int), Cond.methodLink RX12 363 yX12_targetKind, Cond.instanceMethod yX12_targetKind, Cond.selects RX12 yX12_targetKind yX12_targetKind, Cond.code yX12_targetKind cX12_targetKind 3 (some .int), Cond.methodLink RX12 319 yX12_doesWiden, Cond.instanceMethod yX12_doesWiden, Cond.selects RX12 yX12_doesWiden yX12_doesWiden, Cond.code yX12_doesWiden cX12_doesWiden 3 (some .boolean), Cond.methodLink RX12 271 yX12_flag, Cond.static yX12_flag, Cond.code yX12_flag cX12_flag 1 (some .int), Cond.methodLink RL 59 yX11_widens]
def wsL_law_r36 : List Cond := [Cond.instanceMethod yX11_widens, Cond.selects RX11 yX11_widens yX11_widens, Cond.code yX11_widens cX11_widens 3 (some .int), Cond.methodLink RX11 199 yX2_goesInto, Cond.methodLink RL 62 yX12_widens, Cond.instanceMethod yX12_widens, Cond.selects RX12 yX12_widens yX12_widens, Cond.code yX12_widens cX12_widens 3 (some .int), Cond.methodLink RL 63 yX11_length, Cond.instanceMethod yX11_length, Cond.selects RX11 yX11_length yX11_length, Cond.code yX11_length cX11_length 4 (some .int), Cond.fieldLink RX11 206 "RecordBridge" "reason" "I", Cond.methodLink RX11 203 yX11_rowSort, Cond.instanceMethod yX11_rowSort, Cond.selects RX11 yX11_rowSort yX11_rowSort, Cond.code yX11_rowSort cX11_rowSort 4 (some .int), Cond.methodLink RX11 209 yX11_placesOf, Cond.instanceMethod yX11_placesOf, Cond.selects RX11 yX11_placesOf yX11_placesOf, Cond.code yX11_placesOf cX11_placesOf 5 (some .int), Cond.methodLink RL 66 yX12_length, Cond.instanceMethod yX12_length, Cond.selects RX12 yX12_length yX12_length]
def wsL_law_r37 : List Cond := [Cond.code yX12_length cX12_length 4 (some .int), Cond.fieldLink RX12 369 "RecordBridgeModel" "why" "I", Cond.methodLink RX12 366 yX12_rowKind, Cond.instanceMethod yX12_rowKind, Cond.selects RX12 yX12_rowKind yX12_rowKind, Cond.code yX12_rowKind cX12_rowKind 3 (some .int), Cond.methodLink RX12 372 yX12_longOf, Cond.instanceMethod yX12_longOf, Cond.selects RX12 yX12_longOf yX12_longOf, Cond.code yX12_longOf cX12_longOf 3 (some .int), Cond.methodLink RL 67 yX11_read, Cond.instanceMethod yX11_read, Cond.selects RX11 yX11_read yX11_read, Cond.code yX11_read cX11_read 7 (some .long), Cond.constantLong RX11 217 (-4611686018427387904), Cond.methodLink RX11 213 yX11_kindRefusal, Cond.instanceMethod yX11_kindRefusal, Cond.selects RX11 yX11_kindRefusal yX11_kindRefusal, Cond.code yX11_kindRefusal cX11_kindRefusal 6 (some .int), Cond.methodLink RX11 219 yX6_valueAt, Cond.instanceMethod yX6_valueAt, Cond.selects RX6 yX6_valueAt yX6_valueAt, Cond.code yX6_valueAt cX6_valueAt 7 (some .long), Cond.constantLong RX6 112 (-1)]
def wsL_law_r38 : List Cond := [Cond.methodLink RX6 108 yX6_rawAt, Cond.instanceMethod yX6_rawAt, Cond.selects RX6 yX6_rawAt yX6_rawAt, Cond.code yX6_rawAt cX6_rawAt 6 (some .long), Cond.methodLink RX6 101 yX6_indexOf, Cond.static yX6_indexOf, Cond.code yX6_indexOf cX6_indexOf 5 (some .int), Cond.fieldLink RX6 94 "RecordBridge$Shape" "cells" "[I", Cond.fieldLink RX6 98 "RecordBridge$Shape" "starts" "[I", Cond.methodLink RX6 88 yX8_hasField, Cond.methodLink RX6 67 yX6_isRecordPlace, Cond.static yX6_isRecordPlace, Cond.code yX6_isRecordPlace cX6_isRecordPlace 2 (some .boolean), Cond.methodLink RX6 71 yX6_recordStart, Cond.static yX6_recordStart, Cond.code yX6_recordStart cX6_recordStart 2 (some .int), Cond.methodLink RX6 105 yX8_hasWords, Cond.instanceMethod yX8_hasWords, Cond.selects RX8 yX8_hasWords yX8_hasWords, Cond.code yX8_hasWords cX8_hasWords 2 (some .boolean), Cond.methodLink RX8 38 yX8_kindOf, Cond.methodLink RX11 223 yX2_changed, Cond.static yX2_changed, Cond.code yX2_changed cX2_changed 4 (some .long)]
def wsL_law_r39 : List Cond := [Cond.methodLink RX2 34 yX2_isReal, Cond.methodLink RX2 38 yX5_fromBits, Cond.static yX5_fromBits, Cond.initialized RX5, Cond.code yX5_fromBits cX5_fromBits 14 (some .double), Cond.constantDouble RX5 11 (4611686018427387904), Cond.methodLink RX2 42 yX2_ofReal, Cond.static yX2_ofReal, Cond.code yX2_ofReal cX2_ofReal 3 (some .long), Cond.methodLink RX2 14 yX5_toBits, Cond.static yX5_toBits, Cond.code yX5_toBits cX5_toBits 12 (some .long), Cond.constantLong RX5 13 (-2147483648), Cond.constantLong RX5 15 (-9223372036854775808), Cond.methodLink RX2 50 yX2_digitsWord, Cond.static yX2_digitsWord, Cond.code yX2_digitsWord cX2_digitsWord 9 (some .long), Cond.constantLong RX2 48 (10), Cond.constantLong RX2 32 (26), Cond.methodLink RX2 26 yX2_ofWhole, Cond.static yX2_ofWhole, Cond.code yX2_ofWhole cX2_ofWhole 3 (some .long), Cond.methodLink RX2 45 yX2_wholeOfWord, Cond.static yX2_wholeOfWord]
def wsL_law_r40 : List Cond := [Cond.code yX2_wholeOfWord cX2_wholeOfWord 9 (some .long), Cond.constantLong RX2 30 (31), Cond.methodLink RL 71 yX12_read_, Cond.instanceMethod yX12_read_, Cond.selects RX12 yX12_read_ yX12_read_, Cond.code yX12_read_ cX12_read_ 5 (some .long), Cond.constantLong RX12 382 (-4611686018427387904), Cond.methodLink RX12 375 yX12_reasonOf, Cond.instanceMethod yX12_reasonOf, Cond.selects RX12 yX12_reasonOf yX12_reasonOf, Cond.code yX12_reasonOf cX12_reasonOf 7 (some .int), Cond.methodLink RX12 379 yX12_isRefusedBy, Cond.instanceMethod yX12_isRefusedBy, Cond.selects RX12 yX12_isRefusedBy yX12_isRefusedBy, Cond.code yX12_isRefusedBy cX12_isRefusedBy 2 (some .boolean), Cond.methodLink RX12 384 yX12_placeAt, Cond.static yX12_placeAt, Cond.code yX12_placeAt cX12_placeAt 3 (some .int), Cond.methodLink RX12 322 yX12_widened, Cond.instanceMethod yX12_widened, Cond.selects RX12 yX12_widened yX12_widened, Cond.code yX12_widened cX12_widened 5 (some .long), Cond.methodLink RX12 298 yX12_castFrom, Cond.static yX12_castFrom]
def wsL_law_r41 : List Cond := [Cond.code yX12_castFrom cX12_castFrom 6 (some .long), Cond.methodLink RX12 282 yX12_cast, Cond.static yX12_cast, Cond.code yX12_cast cX12_cast 3 (some .long), Cond.methodLink RX12 264 yX12_float0, Cond.static yX12_float0, Cond.code yX12_float0 cX12_float0 1 (some .long), Cond.methodLink RX12 252 yJxf58ca_floatToIntBits_5c35a, Cond.static yJxf58ca_floatToIntBits_5c35a, Cond.initialized RJxf58ca, Cond.code yJxf58ca_floatToIntBits_5c35a cJxf58ca_floatToIntBits_5c35a 1 (some .int), Cond.methodLink RJxf58ca 74 ⟨"java/lang/Float", "floatToRawIntBits", "(F)I"⟩, Cond.native ⟨"java/lang/Float", "floatToRawIntBits", "(F)I"⟩, Cond.static ⟨"java/lang/Float", "floatToRawIntBits", "(F)I"⟩, Cond.initialized "java/lang/Float", Cond.constant RJxf58ca 77 (2143289344), Cond.methodLink RJxf58ca 59 yJxf58ca_isNaN_12338, Cond.static yJxf58ca_isNaN_12338, Cond.code yJxf58ca_isNaN_12338 cJxf58ca_isNaN_12338 1 (some .boolean), Cond.methodLink RX12 268 yX12_double0, Cond.static yX12_double0, Cond.code yX12_double0 cX12_double0 2 (some .long), Cond.methodLink RX12 258 yJxe99ae_doubleToLongBits_ccdee, Cond.static yJxe99ae_doubleToLongBits_ccdee]
def wsL_law_r42 : List Cond := [Cond.initialized RJxe99ae, Cond.code yJxe99ae_doubleToLongBits_ccdee cJxe99ae_doubleToLongBits_ccdee 2 (some .long), Cond.methodLink RJxe99ae 134 ⟨"java/lang/Double", "doubleToRawLongBits", "(D)J"⟩, Cond.native ⟨"java/lang/Double", "doubleToRawLongBits", "(D)J"⟩, Cond.static ⟨"java/lang/Double", "doubleToRawLongBits", "(D)J"⟩, Cond.initialized "java/lang/Double", Cond.constantLong RJxe99ae 137 (9221120237041090560), Cond.methodLink RJxe99ae 122 yJxe99ae_isNaN_b9ae7, Cond.static yJxe99ae_isNaN_b9ae7, Cond.code yJxe99ae_isNaN_b9ae7 cJxe99ae_isNaN_b9ae7 2 (some .boolean), Cond.methodLink RX12 294 yX12_real, Cond.static yX12_real, Cond.code yX12_real cX12_real 3 (some .double), Cond.methodLink RX12 286 ⟨"java/lang/Float", "intBitsToFloat", "(I)F"⟩, Cond.native ⟨"java/lang/Float", "intBitsToFloat", "(I)F"⟩, Cond.static ⟨"java/lang/Float", "intBitsToFloat", "(I)F"⟩, Cond.methodLink RX12 290 ⟨"java/lang/Double", "longBitsToDouble", "(J)D"⟩, Cond.native ⟨"java/lang/Double", "longBitsToDouble", "(J)D"⟩, Cond.static ⟨"java/lang/Double", "longBitsToDouble", "(J)D"⟩, Cond.methodLink RL 72 yX11_get, Cond.instanceMethod yX11_get, Cond.selects RX11 yX11_get yX11_get, Cond.code yX11_get cX11_get 8 (some .long), Cond.constantLong RX11 238 (10)]
def wsL_law_r43 : List Cond := [Cond.methodLink RX11 227 yX6_thingKind, Cond.instanceMethod yX6_thingKind, Cond.selects RX6 yX6_thingKind yX6_thingKind, Cond.code yX6_thingKind cX6_thingKind 2 (some .int), Cond.methodLink RX11 230 yX6_thingValue, Cond.instanceMethod yX6_thingValue, Cond.selects RX6 yX6_thingValue yX6_thingValue, Cond.code yX6_thingValue cX6_thingValue 2 (some .long), Cond.methodLink RX11 234 yX6_isEmptyAt, Cond.instanceMethod yX6_isEmptyAt, Cond.selects RX6 yX6_isEmptyAt yX6_isEmptyAt, Cond.code yX6_isEmptyAt cX6_isEmptyAt 5 (some .boolean), Cond.methodLink RL 75 yX12_get, Cond.instanceMethod yX12_get, Cond.selects RX12 yX12_get yX12_get, Cond.code yX12_get cX12_get 9 (some .long), Cond.constantLong RX12 306 (-1), Cond.methodLink RX12 308 yX12_wordOf, Cond.static yX12_wordOf, Cond.code yX12_wordOf cX12_wordOf 2 (some .long), Cond.methodLink RL 78 yX11_write, Cond.instanceMethod yX11_write, Cond.selects RX11 yX11_write yX11_write, Cond.code yX11_write cX11_write 9 (some .boolean)]
def wsL_law_r44 : List Cond := [Cond.methodLink RX11 240 yX6_keepPast, Cond.instanceMethod yX6_keepPast, Cond.selects RX6 yX6_keepPast yX6_keepPast, Cond.code yX6_keepPast cX6_keepPast 1 none, Cond.methodLink RX6 48 arraycopyName, Cond.native arraycopyName, Cond.static arraycopyName, Cond.initialized "java/lang/System", Cond.methodLink RX6 54 Lib.Math.min.name, Cond.methodLink RX11 243 yX2_told, Cond.static yX2_told, Cond.code yX2_told cX2_told 3 (some .long), Cond.constantFloat RX2 13 (1098907648), Cond.constantDouble RX2 20 (4625196817309499392), Cond.methodLink RX2 22 yX2_toldWord, Cond.static yX2_toldWord, Cond.code yX2_toldWord cX2_toldWord 7 (some .long), Cond.methodLink RX11 247 yX6_setAt, Cond.instanceMethod yX6_setAt, Cond.selects RX6 yX6_setAt yX6_setAt, Cond.code yX6_setAt cX6_setAt 8 none, Cond.methodLink RL 82 yX12_write, Cond.instanceMethod yX12_write, Cond.selects RX12 yX12_write yX12_write]
def wsL_law_r45 : List Cond := [Cond.code yX12_write cX12_write 7 (some .boolean), Cond.methodLink RX12 387 yX12_keeps, Cond.instanceMethod yX12_keeps, Cond.selects RX12 yX12_keeps yX12_keeps, Cond.code yX12_keeps cX12_keeps 2 none, Cond.fieldLink RX12 506 "RecordBridgeModel" "newest" "I", Cond.methodLink RX12 390 yX12_toldAs, Cond.static yX12_toldAs, Cond.code yX12_toldAs cX12_toldAs 3 (some .long), Cond.constantFloat RX12 275 (1098907648), Cond.constantDouble RX12 276 (4625196817309499392), Cond.methodLink RX12 278 yX12_word, Cond.static yX12_word, Cond.code yX12_word cX12_word 7 (some .long), Cond.constantLong RX12 246 (31), Cond.constantLong RX12 248 (26), Cond.constantLong RX12 250 (32), Cond.methodLink RL 83 yX11_put, Cond.instanceMethod yX11_put, Cond.selects RX11 yX11_put yX11_put, Cond.code yX11_put cX11_put 9 (some .boolean), Cond.constantLong RX11 258 (-1), Cond.methodLink RX11 251 yX11_thingRefusal, Cond.instanceMethod yX11_thingRefusal]
def wsL_law_r46 : List Cond := [Cond.selects RX11 yX11_thingRefusal yX11_thingRefusal, Cond.code yX11_thingRefusal cX11_thingRefusal 6 (some .int), Cond.methodLink RX11 271 yX11_takesThing, Cond.static yX11_takesThing, Cond.code yX11_takesThing cX11_takesThing 2 (some .boolean), Cond.methodLink RX11 254 yX6_setThing, Cond.methodLink RL 86 yX12_put, Cond.instanceMethod yX12_put, Cond.selects RX12 yX12_put yX12_put, Cond.code yX12_put cX12_put 9 (some .boolean), Cond.methodLink RX12 393 yX12_reasonPut, Cond.instanceMethod yX12_reasonPut, Cond.selects RX12 yX12_reasonPut yX12_reasonPut, Cond.code yX12_reasonPut cX12_reasonPut 6 (some .int), Cond.methodLink RL 87 yX11_why, Cond.instanceMethod yX11_why, Cond.selects RX11 yX11_why yX11_why, Cond.code yX11_why cX11_why 1 (some .int), Cond.methodLink RL 90 yX12_why, Cond.instanceMethod yX12_why, Cond.selects RX12 yX12_why yX12_why, Cond.code yX12_why cX12_why 1 (some .int), Cond.methodLink RL 91 yX11_cell, Cond.instanceMethod yX11_cell]
def wsL_law_r47 : List Cond := [Cond.selects RX11 yX11_cell yX11_cell, Cond.code yX11_cell cX11_cell 6 (some .long), Cond.methodLink RX11 260 yX6_hasRecord, Cond.instanceMethod yX6_hasRecord, Cond.selects RX6 yX6_hasRecord yX6_hasRecord, Cond.code yX6_hasRecord cX6_hasRecord 3 (some .boolean), Cond.methodLink RX6 63 yX6_countOf, Cond.methodLink RL 94 yX12_cell, Cond.instanceMethod yX12_cell, Cond.selects RX12 yX12_cell yX12_cell, Cond.code yX12_cell cX12_cell 5 (some .long), Cond.methodLink RX12 401 yX12_isRecord, Cond.instanceMethod yX12_isRecord, Cond.selects RX12 yX12_isRecord yX12_isRecord, Cond.code yX12_isRecord cX12_isRecord 3 (some .boolean), Cond.methodLink RX12 404 yX12_valueAt, Cond.instanceMethod yX12_valueAt, Cond.selects RX12 yX12_valueAt yX12_valueAt, Cond.code yX12_valueAt cX12_valueAt 7 (some .long), Cond.methodLink RX12 397 yX12_cellAt, Cond.instanceMethod yX12_cellAt, Cond.selects RX12 yX12_cellAt yX12_cellAt, Cond.code yX12_cellAt cX12_cellAt 5 (some .long), Cond.methodLink RL 95 yX11_unlike]
def wsL_law_r48 : List Cond := [Cond.instanceMethod yX11_unlike, Cond.selects RX11 yX11_unlike yX11_unlike, Cond.code yX11_unlike cX11_unlike 5 (some .long), Cond.methodLink RX11 263 yX6_takeValues, Cond.instanceMethod yX6_takeValues, Cond.selects RX6 yX6_takeValues yX6_takeValues, Cond.code yX6_takeValues cX6_takeValues 9 none, Cond.fieldLink RX6 114 "RecordBridge$Shape" "fieldCount" "I", Cond.methodLink RX6 117 yX6_valueAt, Cond.methodLink RX11 267 yX11_differing, Cond.static yX11_differing, Cond.code yX11_differing cX11_differing 5 (some .long), Cond.methodLink RL 99 yX12_unlike, Cond.instanceMethod yX12_unlike, Cond.selects RX12 yX12_unlike yX12_unlike, Cond.code yX12_unlike cX12_unlike 9 (some .long), Cond.methodLink RL 100 yX11_make, Cond.instanceMethod yX11_make, Cond.selects RX11 yX11_make yX11_make, Cond.code yX11_make cX11_make 2 (some .int), Cond.methodLink RX11 274 yX6_hasRoom, Cond.instanceMethod yX6_hasRoom, Cond.selects RX6 yX6_hasRoom yX6_hasRoom, Cond.code yX6_hasRoom cX6_hasRoom 2 (some .boolean)]
def wsL_law_r49 : List Cond := [Cond.methodLink RX11 277 yX6_addBlank, Cond.instanceMethod yX6_addBlank, Cond.selects RX6 yX6_addBlank yX6_addBlank, Cond.code yX6_addBlank cX6_addBlank 3 (some .int), Cond.methodLink RX6 74 yX6_blank, Cond.instanceMethod yX6_blank, Cond.selects RX6 yX6_blank yX6_blank, Cond.code yX6_blank cX6_blank 5 none, Cond.methodLink RL 103 yX12_make, Cond.instanceMethod yX12_make, Cond.selects RX12 yX12_make yX12_make, Cond.code yX12_make cX12_make 2 (some .int), Cond.methodLink RX12 407 yX12_makes, Cond.instanceMethod yX12_makes, Cond.selects RX12 yX12_makes yX12_makes, Cond.code yX12_makes cX12_makes 3 (some .int), Cond.methodLink RX12 410 yX12_laysRecord, Cond.instanceMethod yX12_laysRecord, Cond.selects RX12 yX12_laysRecord yX12_laysRecord, Cond.code yX12_laysRecord cX12_laysRecord 5 none, Cond.methodLink RL 104 yX11_copy, Cond.instanceMethod yX11_copy, Cond.selects RX11 yX11_copy yX11_copy, Cond.code yX11_copy cX11_copy 3 (some .int)]
def wsL_law_r50 : List Cond := [Cond.methodLink RX11 280 yX6_addLike, Cond.instanceMethod yX6_addLike, Cond.selects RX6 yX6_addLike yX6_addLike, Cond.code yX6_addLike cX6_addLike 4 (some .int), Cond.methodLink RX6 78 yX6_addBlank, Cond.methodLink RX6 81 yX6_move, Cond.instanceMethod yX6_move, Cond.selects RX6 yX6_move yX6_move, Cond.code yX6_move cX6_move 4 none, Cond.methodLink RL 107 yX12_copy, Cond.instanceMethod yX12_copy, Cond.selects RX12 yX12_copy yX12_copy, Cond.code yX12_copy cX12_copy 3 (some .int), Cond.methodLink RX12 413 yX12_copiesRecord, Cond.instanceMethod yX12_copiesRecord, Cond.selects RX12 yX12_copiesRecord yX12_copiesRecord, Cond.code yX12_copiesRecord cX12_copiesRecord 6 none, Cond.methodLink RL 108 yX11_drop, Cond.instanceMethod yX11_drop, Cond.selects RX11 yX11_drop yX11_drop, Cond.code yX11_drop cX11_drop 3 (some .boolean), Cond.methodLink RX11 283 yX6_remove, Cond.instanceMethod yX6_remove, Cond.selects RX6 yX6_remove yX6_remove]
def wsL_law_r51 : List Cond := [Cond.code yX6_remove cX6_remove 5 none, Cond.methodLink RX6 85 yX6_hasRecord, Cond.methodLink RL 112 yX12_drop, Cond.instanceMethod yX12_drop, Cond.selects RX12 yX12_drop yX12_drop, Cond.code yX12_drop cX12_drop 4 (some .boolean), Cond.methodLink RL 113 yX11_chance, Cond.instanceMethod yX11_chance, Cond.selects RX11 yX11_chance yX11_chance, Cond.code yX11_chance cX11_chance 4 (some .int), Cond.methodLink RX11 287 yX11_makeByChance, Cond.instanceMethod yX11_makeByChance, Cond.selects RX11 yX11_makeByChance yX11_makeByChance, Cond.code yX11_makeByChance cX11_makeByChance 10 (some .boolean), Cond.methodLink RX11 290 yX11_draw, Cond.instanceMethod yX11_draw, Cond.selects RX11 yX11_draw yX11_draw, Cond.code yX11_draw cX11_draw 2 (some .int), Cond.constantLong RX11 293 (1103515245), Cond.constantLong RX11 295 (12345), Cond.constantLong RX11 297 (2147483647), Cond.methodLink RL 116 yX12_chance, Cond.instanceMethod yX12_chance, Cond.selects RX12 yX12_chance yX12_chance]
def wsL_law_r52 : List Cond := [Cond.code yX12_chance cX12_chance 8 (some .int), Cond.constantLong RX12 424 (20), Cond.methodLink RX12 426 yX12_drawOf, Cond.instanceMethod yX12_drawOf, Cond.selects RX12 yX12_drawOf yX12_drawOf, Cond.code yX12_drawOf cX12_drawOf 2 (some .int), Cond.constantLong RX12 416 (1103515245), Cond.constantLong RX12 418 (12345), Cond.constantLong RX12 420 (2147483648), Cond.constantLong RX12 422 (64), Cond.methodLink RL 117 yX11_cross, Cond.instanceMethod yX11_cross, Cond.selects RX11 yX11_cross yX11_cross, Cond.code yX11_cross cX11_cross 5 (some .int), Cond.fieldLink RX11 307 "RecordBridge$Carrier" "account" "[I", Cond.methodLink RX11 310 arraycopyName, Cond.methodLink RX11 299 yX11_carryRecord, Cond.instanceMethod yX11_carryRecord, Cond.selects RX11 yX11_carryRecord yX11_carryRecord, Cond.code yX11_carryRecord cX11_carryRecord 4 none, Cond.methodLink RX11 320 yX1_carry, Cond.instanceMethod yX1_carry, Cond.selects RX1 yX1_carry yX1_carry, Cond.code yX1_carry cX1_carry 10 none]
def wsL_law_r53 : List Cond := [Cond.fieldLink RX1 24 "RecordBridge$Passage" "from" "I", Cond.fieldLink RX1 36 "RecordBridge$Passage" "to" "I", Cond.fieldLink RX1 39 "RecordBridge$Passage" "ruleCount" "I", Cond.fieldLink RX1 50 "RecordBridge$Rule" "cellsRead" "I", Cond.fieldLink RX1 55 "RecordBridge$Shape" "cellCount" "I", Cond.methodLink RX1 15 yJ7_fill_53178, Cond.static yJ7_fill_53178, Cond.code yJ7_fill_53178 cJ7_fill_53178 4 none, Cond.methodLink RX1 21 yJ7_fill_d0a16, Cond.methodLink RX1 30 yX4_shape, Cond.methodLink RX1 42 yX3_ruleAt, Cond.methodLink RX1 46 yX1_carryByRule, Cond.instanceMethod yX1_carryByRule, Cond.selects RX1 yX1_carryByRule yX1_carryByRule, Cond.code yX1_carryByRule cX1_carryByRule 13 none, Cond.fieldLink RX1 66 "RecordBridge$Rule" "target" "I", Cond.fieldLink RX1 73 "RecordBridge$Shape" "kinds" "[I", Cond.fieldLink RX1 76 "RecordBridge$Rule" "cells" "I", Cond.fieldLink RX1 79 "RecordBridge$Shape" "starts" "[I", Cond.fieldLink RX1 86 "RecordBridge$Rule" "made" "I", Cond.fieldLink RX1 95 "RecordBridge$Rule" "fits" "Z", Cond.methodLink RX1 69 yX8_hasField, Cond.methodLink RX1 82 yX1_valueMade, Cond.static yX1_valueMade]
def wsL_law_r54 : List Cond := [Cond.code yX1_valueMade cX1_valueMade 13 (some .long), Cond.fieldLink RX1 99 "RecordBridge$Rule" "sort" "I", Cond.fieldLink RX1 102 "RecordBridge$Rule" "other" "I", Cond.fieldLink RX1 105 "RecordBridge$Rule" "first" "I", Cond.methodLink RX1 108 yX1_valueOf, Cond.static yX1_valueOf, Cond.code yX1_valueOf cX1_valueOf 5 (some .long), Cond.methodLink RX1 112 yX1_wholeMade, Cond.static yX1_wholeMade, Cond.code yX1_wholeMade cX1_wholeMade 5 (some .long), Cond.methodLink RX1 116 yX8_kindOf, Cond.methodLink RX1 119 yX2_realOf, Cond.static yX2_realOf, Cond.code yX2_realOf cX2_realOf 3 (some .double), Cond.methodLink RX1 123 yX1_realMade, Cond.static yX1_realMade, Cond.code yX1_realMade cX1_realMade 9 (some .double), Cond.constantDouble RX1 133 (4831355200913801216), Cond.methodLink RX1 127 yX5_toBits, Cond.methodLink RX1 89 yX2_changed, Cond.methodLink RX1 60 yJ6_bitCount_0f7a4, Cond.static yJ6_bitCount_0f7a4, Cond.initialized RJ6, Cond.code yJ6_bitCount_0f7a4 cJ6_bitCount_0f7a4 1 (some .int)]
def wsL_law_r55 : List Cond := [Cond.constant RJ6 265 (1431655765), Cond.constant RJ6 266 (858993459), Cond.constant RJ6 267 (252645135), Cond.methodLink RX11 303 yX6_setValues, Cond.instanceMethod yX6_setValues, Cond.selects RX6 yX6_setValues yX6_setValues, Cond.code yX6_setValues cX6_setValues 4 none, Cond.methodLink RL 120 yX12_cross, Cond.instanceMethod yX12_cross, Cond.selects RX12 yX12_cross yX12_cross, Cond.code yX12_cross cX12_cross 7 (some .int), Cond.methodLink RX12 461 yX12_takesRecord, Cond.instanceMethod yX12_takesRecord, Cond.selects RX12 yX12_takesRecord yX12_takesRecord, Cond.code yX12_takesRecord cX12_takesRecord 5 none, Cond.methodLink RX12 464 yX12_carries, Cond.instanceMethod yX12_carries, Cond.selects RX12 yX12_carries yX12_carries, Cond.code yX12_carries cX12_carries 10 none, Cond.methodLink RX12 443 yX12_longRule, Cond.instanceMethod yX12_longRule, Cond.selects RX12 yX12_longRule yX12_longRule, Cond.code yX12_longRule cX12_longRule 5 (some .int), Cond.methodLink RX12 437 yX12_lessOf]
def wsL_law_r56 : List Cond := [Cond.static yX12_lessOf, Cond.code yX12_lessOf cX12_lessOf 2 (some .int), Cond.methodLink RX12 446 yX12_made, Cond.instanceMethod yX12_made, Cond.selects RX12 yX12_made yX12_made, Cond.code yX12_made cX12_made 12 (some .long), Cond.methodLink RX12 433 yX12_held, Cond.static yX12_held, Cond.code yX12_held cX12_held 2 (some .double), Cond.constantDouble RX12 429 (4831355200913801216), Cond.constantDouble RX12 431 (14054727237768577024), Cond.methodLink RX12 440 yX12_carried, Cond.instanceMethod yX12_carried, Cond.selects RX12 yX12_carried yX12_carried, Cond.code yX12_carried cX12_carried 5 (some .long), Cond.methodLink RX12 325 yX12_narrowed, Cond.instanceMethod yX12_narrowed, Cond.selects RX12 yX12_narrowed yX12_narrowed, Cond.code yX12_narrowed cX12_narrowed 5 (some .long), Cond.constantLong RX12 311 (2), Cond.methodLink RX12 313 yX12_spelled, Cond.static yX12_spelled, Cond.code yX12_spelled cX12_spelled 9 (some .long), Cond.methodLink RX12 316 yX12_read]
def wsL_law_r57 : List Cond := [Cond.static yX12_read, Cond.code yX12_read cX12_read 7 (some .long), Cond.methodLink RX12 302 yX12_lettersOf, Cond.static yX12_lettersOf, Cond.code yX12_lettersOf cX12_lettersOf 5 (some .int), Cond.methodLink RX12 450 yX12_tallies, Cond.instanceMethod yX12_tallies, Cond.selects RX12 yX12_tallies yX12_tallies, Cond.code yX12_tallies cX12_tallies 7 none, Cond.methodLink RX12 454 yX12_marks, Cond.instanceMethod yX12_marks, Cond.selects RX12 yX12_marks yX12_marks, Cond.code yX12_marks cX12_marks 5 none, Cond.methodLink RX12 457 yX12_missing, Cond.instanceMethod yX12_missing, Cond.selects RX12 yX12_missing yX12_missing, Cond.code yX12_missing cX12_missing 6 (some .int), Cond.methodLink RL 121 yX11_account, Cond.instanceMethod yX11_account, Cond.selects RX11 yX11_account yX11_account, Cond.code yX11_account cX11_account 2 (some .int), Cond.methodLink RL 124 yX12_account, Cond.instanceMethod yX12_account, Cond.selects RX12 yX12_account yX12_account]
def wsL_law_r58 : List Cond := [Cond.code yX12_account cX12_account 2 (some .int), Cond.methodLink RL 125 yX11_would, Cond.instanceMethod yX11_would, Cond.selects RX11 yX11_would yX11_would, Cond.code yX11_would cX11_would 5 (some .int), Cond.methodLink RL 128 yX12_would, Cond.instanceMethod yX12_would, Cond.selects RX12 yX12_would yX12_would, Cond.code yX12_would cX12_would 4 (some .int), Cond.methodLink RX12 467 yX12_canCross, Cond.instanceMethod yX12_canCross, Cond.selects RX12 yX12_canCross yX12_canCross, Cond.code yX12_canCross cX12_canCross 3 (some .boolean), Cond.methodLink RL 129 yX11_round, Cond.instanceMethod yX11_round, Cond.selects RX11 yX11_round yX11_round, Cond.code yX11_round cX11_round 6 (some .long), Cond.methodLink RX11 316 yX3_leadsBack, Cond.instanceMethod yX3_leadsBack, Cond.selects RX3 yX3_leadsBack yX3_leadsBack, Cond.code yX3_leadsBack cX3_leadsBack 2 (some .boolean), Cond.methodLink RL 132 yX12_round, Cond.instanceMethod yX12_round, Cond.selects RX12 yX12_round yX12_round]
def wsL_law_r59 : List Cond := [Cond.code yX12_round cX12_round 4 (some .long), Cond.methodLink RX12 470 yX12_doesLeadBack, Cond.instanceMethod yX12_doesLeadBack, Cond.selects RX12 yX12_doesLeadBack yX12_doesLeadBack, Cond.code yX12_doesLeadBack cX12_doesLeadBack 3 (some .boolean), Cond.methodLink RX12 473 yX12_targetIsSource, Cond.instanceMethod yX12_targetIsSource, Cond.selects RX12 yX12_targetIsSource yX12_targetIsSource, Cond.code yX12_targetIsSource cX12_targetIsSource 2 none, Cond.methodLink RX12 476 yX12_unlikeTarget, Cond.instanceMethod yX12_unlikeTarget, Cond.selects RX12 yX12_unlikeTarget yX12_unlikeTarget, Cond.code yX12_unlikeTarget cX12_unlikeTarget 8 (some .long), Cond.methodLink RL 133 yX11_proved, Cond.instanceMethod yX11_proved, Cond.selects RX11 yX11_proved yX11_proved, Cond.code yX11_proved cX11_proved 7 (some .int), Cond.methodLink RX11 324 yX3_fieldsKeptWhole, Cond.instanceMethod yX3_fieldsKeptWhole, Cond.selects RX3 yX3_fieldsKeptWhole yX3_fieldsKeptWhole, Cond.code yX3_fieldsKeptWhole cX3_fieldsKeptWhole 7 (some .int), Cond.fieldLink RX3 37 "RecordBridge$Rule" "sort" "I", Cond.fieldLink RX3 44 "RecordBridge$Rule" "first" "I", Cond.methodLink RX3 40 yX3_keepsWhole]
def wsL_law_r60 : List Cond := [Cond.static yX3_keepsWhole, Cond.code yX3_keepsWhole cX3_keepsWhole 3 (some .boolean), Cond.fieldLink RX3 57 "RecordBridge$Shape" "kinds" "[I", Cond.fieldLink RX3 66 "RecordBridge$Shape" "cells" "[I", Cond.methodLink RX3 51 yX8_hasField, Cond.methodLink RX3 61 yX2_goesWholeInto, Cond.static yX2_goesWholeInto, Cond.code yX2_goesWholeInto cX2_goesWholeInto 2 (some .boolean), Cond.methodLink RX2 9 yX2_goesInto, Cond.methodLink RX3 47 yX3_carriesAlone, Cond.instanceMethod yX3_carriesAlone, Cond.selects RX3 yX3_carriesAlone yX3_carriesAlone, Cond.code yX3_carriesAlone cX3_carriesAlone 5 (some .boolean), Cond.methodLink RX3 69 yX7_isAlone, Cond.instanceMethod yX7_isAlone, Cond.selects RX7 yX7_isAlone yX7_isAlone, Cond.code yX7_isAlone cX7_isAlone 3 (some .boolean), Cond.methodLink RL 136 yX12_proved, Cond.instanceMethod yX12_proved, Cond.selects RX12 yX12_proved yX12_proved, Cond.code yX12_proved cX12_proved 6 (some .int), Cond.methodLink RX12 487 yX12_isProved, Cond.instanceMethod yX12_isProved, Cond.selects RX12 yX12_isProved yX12_isProved]
def wsL_law_r61 : List Cond := [Cond.code yX12_isProved cX12_isProved 7 (some .boolean), Cond.methodLink RX12 480 yX12_isAlone, Cond.instanceMethod yX12_isAlone, Cond.selects RX12 yX12_isAlone yX12_isAlone, Cond.code yX12_isAlone cX12_isAlone 5 (some .boolean), Cond.methodLink RX12 484 yX12_isAside, Cond.static yX12_isAside, Cond.code yX12_isAside cX12_isAside 2 (some .boolean), Cond.methodLink RL 137 yX11_way, Cond.instanceMethod yX11_way, Cond.selects RX11 yX11_way yX11_way, Cond.code yX11_way cX11_way 4 (some .int), Cond.fieldLink RX11 332 "RecordBridge$Ways" "bestCount" "I", Cond.methodLink RX11 328 yX10_findShortest, Cond.instanceMethod yX10_findShortest, Cond.selects RX10 yX10_findShortest yX10_findShortest, Cond.code yX10_findShortest cX10_findShortest 6 (some .boolean), Cond.fieldLink RX10 27 "RecordBridge$Ways" "bestCount" "I", Cond.methodLink RX10 31 yX10_leads, Cond.instanceMethod yX10_leads, Cond.selects RX10 yX10_leads yX10_leads, Cond.code yX10_leads cX10_leads 11 (some .boolean), Cond.fieldLink RX10 58 "RecordBridge$Passage" "from" "I", Cond.fieldLink RX10 63 "RecordBridge$Passage" "to" "I"]
def wsL_law_r62 : List Cond := [Cond.methodLink RX10 52 yX4_passage, Cond.methodLink RX10 35 yX10_choose, Cond.instanceMethod yX10_choose, Cond.selects RX10 yX10_choose yX10_choose, Cond.code yX10_choose cX10_choose 2 none, Cond.methodLink RX10 46 arraycopyName, Cond.methodLink RX11 335 yX10_stepAt, Cond.instanceMethod yX10_stepAt, Cond.selects RX10 yX10_stepAt yX10_stepAt, Cond.code yX10_stepAt cX10_stepAt 2 (some .int), Cond.methodLink RL 140 yX12_way, Cond.instanceMethod yX12_way, Cond.selects RX12 yX12_way yX12_way, Cond.code yX12_way cX12_way 6 (some .int), Cond.methodLink RX12 491 yX12_rowsOf, Cond.instanceMethod yX12_rowsOf, Cond.selects RX12 yX12_rowsOf yX12_rowsOf, Cond.code yX12_rowsOf cX12_rowsOf 4 (some .int), Cond.methodLink RX12 494 yX12_isWay, Cond.instanceMethod yX12_isWay, Cond.selects RX12 yX12_isWay yX12_isWay, Cond.code yX12_isWay cX12_isWay 9 (some .boolean), Cond.methodLink RL 141 yX11_least, Cond.instanceMethod yX11_least]
def wsL_law_r63 : List Cond := [Cond.selects RX11 yX11_least yX11_least, Cond.code yX11_least cX11_least 6 (some .int), Cond.fieldLink RX11 342 "RecordBridge$Ways" "leastLost" "I", Cond.methodLink RX11 338 yX10_findLeast, Cond.instanceMethod yX10_findLeast, Cond.selects RX10 yX10_findLeast yX10_findLeast, Cond.code yX10_findLeast cX10_findLeast 9 (some .boolean), Cond.fieldLink RX10 43 "RecordBridge$Ways" "leastLost" "I", Cond.methodLink RX10 39 yX10_lostBySteps, Cond.instanceMethod yX10_lostBySteps, Cond.selects RX10 yX10_lostBySteps yX10_lostBySteps, Cond.code yX10_lostBySteps cX10_lostBySteps 11 (some .int), Cond.methodLink RX10 66 Lib.Math.min.name, Cond.fieldLink RX10 78 "RecordBridge$Carrier" "account" "[I", Cond.methodLink RX10 72 yX1_carry, Cond.methodLink RL 145 yX12_least, Cond.instanceMethod yX12_least, Cond.selects RX12 yX12_least yX12_least, Cond.code yX12_least cX12_least 11 (some .int), Cond.methodLink RX12 497 yX12_losses, Cond.instanceMethod yX12_losses, Cond.selects RX12 yX12_losses yX12_losses, Cond.code yX12_losses cX12_losses 6 (some .int), Cond.methodLink RL 146 yX11_origins]
def wsL_law_r64 : List Cond := [Cond.instanceMethod yX11_origins, Cond.selects RX11 yX11_origins yX11_origins, Cond.code yX11_origins cX11_origins 7 (some .int), Cond.methodLink RL 149 yX12_origins, Cond.instanceMethod yX12_origins, Cond.selects RX12 yX12_origins yX12_origins, Cond.code yX12_origins cX12_origins 5 (some .int), Cond.methodLink RL 150 yX11_tells, Cond.instanceMethod yX11_tells, Cond.selects RX11 yX11_tells yX11_tells, Cond.code yX11_tells cX11_tells 8 (some .int), Cond.methodLink RX11 345 yX6_mostAlike, Cond.instanceMethod yX6_mostAlike, Cond.selects RX6 yX6_mostAlike yX6_mostAlike, Cond.code yX6_mostAlike cX6_mostAlike 8 (some .int), Cond.methodLink RX6 124 Lib.Math.max.name, Cond.methodLink RX6 120 yX6_areAlike, Cond.instanceMethod yX6_areAlike, Cond.selects RX6 yX6_areAlike yX6_areAlike, Cond.code yX6_areAlike cX6_areAlike 10 (some .boolean), Cond.methodLink RL 153 yX12_tells, Cond.instanceMethod yX12_tells, Cond.selects RX12 yX12_tells yX12_tells, Cond.code yX12_tells cX12_tells 5 (some .int)]
def wsL_law_r65 : List Cond := [Cond.methodLink RX12 503 yX12_mostAlike, Cond.instanceMethod yX12_mostAlike, Cond.selects RX12 yX12_mostAlike yX12_mostAlike, Cond.code yX12_mostAlike cX12_mostAlike 7 (some .int), Cond.methodLink RX12 500 yX12_areLike, Cond.instanceMethod yX12_areLike, Cond.selects RX12 yX12_areLike yX12_areLike, Cond.code yX12_areLike cX12_areLike 6 (some .boolean), Cond.methodLink RL 154 yX11_idle, Cond.instanceMethod yX11_idle, Cond.selects RX11 yX11_idle yX11_idle, Cond.code yX11_idle cX11_idle 7 (some .int), Cond.methodLink RL 157 yX12_idle, Cond.instanceMethod yX12_idle, Cond.selects RX12 yX12_idle yX12_idle, Cond.code yX12_idle cX12_idle 5 (some .int), Cond.methodLink RL 158 yX11_undo, Cond.instanceMethod yX11_undo, Cond.selects RX11 yX11_undo yX11_undo, Cond.code yX11_undo cX11_undo 1 (some .boolean), Cond.methodLink RX11 349 yX6_goBack, Cond.instanceMethod yX6_goBack, Cond.selects RX6 yX6_goBack yX6_goBack, Cond.code yX6_goBack cX6_goBack 1 (some .boolean)]
def wsL_law_r66 : List Cond := [Cond.methodLink RX6 60 yJ9_floorMod_7cf53, Cond.static yJ9_floorMod_7cf53, Cond.initialized RJ9, Cond.code yJ9_floorMod_7cf53 cJ9_floorMod_7cf53 3 (some .int), Cond.methodLink RL 162 yX12_undo, Cond.instanceMethod yX12_undo, Cond.selects RX12 yX12_undo yX12_undo, Cond.code yX12_undo cX12_undo 2 (some .boolean), Cond.methodLink RL 163 yX11_seed, Cond.instanceMethod yX11_seed, Cond.selects RX11 yX11_seed yX11_seed, Cond.code yX11_seed cX11_seed 2 (some .boolean), Cond.methodLink RL 166 yX12_seed, Cond.instanceMethod yX12_seed, Cond.selects RX12 yX12_seed yX12_seed, Cond.code yX12_seed cX12_seed 2 (some .boolean), Cond.methodLink RL 167 yX11_status, Cond.instanceMethod yX11_status, Cond.selects RX11 yX11_status yX11_status, Cond.code yX11_status cX11_status 2 (some .int), Cond.methodLink RL 170 yX12_status, Cond.instanceMethod yX12_status, Cond.selects RX12 yX12_status yX12_status, Cond.code yX12_status cX12_status 2 (some .int)]
def wsL_law : List Cond := (wsL_law_r1 ++ (wsL_law_r2 ++ (wsL_law_r3 ++ (wsL_law_r4 ++ (wsL_law_r5 ++ (wsL_law_r6 ++ (wsL_law_r7 ++ (wsL_law_r8 ++ (wsL_law_r9 ++ (wsL_law_r10 ++ (wsL_law_r11 ++ (wsL_law_r12 ++ (wsL_law_r13 ++ (wsL_law_r14 ++ (wsL_law_r15 ++ (wsL_law_r16 ++ (wsL_law_r17 ++ (wsL_law_r18 ++ (wsL_law_r19 ++ (wsL_law_r20 ++ (wsL_law_r21 ++ (wsL_law_r22 ++ (wsL_law_r23 ++ (wsL_law_r24 ++ (wsL_law_r25 ++ (wsL_law_r26 ++ (wsL_law_r27 ++ (wsL_law_r28 ++ (wsL_law_r29 ++ (wsL_law_r30 ++ (wsL_law_r31 ++ (wsL_law_r32 ++ (wsL_law_r33 ++ (wsL_law_r34 ++ (wsL_law_r35 ++ (wsL_law_r36 ++ (wsL_law_r37 ++ (wsL_law_r38 ++ (wsL_law_r39 ++ (wsL_law_r40 ++ (wsL_law_r41 ++ (wsL_law_r42 ++ (wsL_law_r43 ++ (wsL_law_r44 ++ (wsL_law_r45 ++ (wsL_law_r46 ++ (wsL_law_r47 ++ (wsL_law_r48 ++ (wsL_law_r49 ++ (wsL_law_r50 ++ (wsL_law_r51 ++ (wsL_law_r52 ++ (wsL_law_r53 ++ (wsL_law_r54 ++ (wsL_law_r55 ++ (wsL_law_r56 ++ (wsL_law_r57 ++ (wsL_law_r58 ++ (wsL_law_r59 ++ (wsL_law_r60 ++ (wsL_law_r61 ++ (wsL_law_r62 ++ (wsL_law_r63 ++ (wsL_law_r64 ++ (wsL_law_r65 ++ wsL_law_r66))))))))))))))))))))))))))))))))))))))))))))))))))))))))))))))))) ++ wsX110 ++ wsX120 ++ wsX00 ++ wsX60 ++ wsX10 ++ wsX100 ++ wsX40 ++ wsX90 ++ wsX80 ++ wsX30 ++ wsX70 ++ ([] : List Cond)
set_option maxRecDepth 20000 in
theorem wsL_law_in : ∀ w ∈ wsL_law, w ∈ lw_tbl := fun w h => (goodIn_p wsL_law [147, 150, 155, 161, 177, 186, 232, 239, 334, 338, 344, 348, 351, 354, 359, 362, 365, 368, 372, 381, 452, 459, 462, 467, 488, 500, 1258, 571, 575, 579, 1362, 1366, 583, 1370, 1374, 587, 591, 595, 599, 626, 603, 607, 611, 615, 619, 623, 630, 634, 639, 643, 647, 651, 654, 658, 662, 666, 670, 674, 678, 682, 686, 690, 694, 698, 702, 707, 711, 716, 720, 724, 728, 732, 737, 741, 745, 749, 753, 757, 761, 765, 769, 773, 777, 781, 785, 788, 792, 796, 800, 805, 808, 812, 816, 1390, 1394, 1398, 1402, 1406, 1410, 1414, 1417, 1421, 1425, 1429, 1433, 1437, 1440, 1444, 1382, 1449, 1452, 1456, 1459, 1463, 1467, 1471, 1475, 1478, 1482, 1486, 1489, 1493, 1497, 1501, 1504, 1508, 1512, 821, 1386, 825, 829, 833, 1520, 1525, 1529, 1533, 838, 841, 1537, 1541, 846, 850, 1545, 858, 1549, 1553, 1557, 862, 867, 1561, 1565, 1569, 1573, 1577, 1581, 1585, 1589, 873, 1593, 1597, 1601, 1605, 1608, 878, 1612, 883, 887, 891, 1616, 1620, 1624, 895, 899, 904, 908, 911, 915, 918, 923, 927, 931, 935, 938, 943, 948, 951, 1628, 1632, 1636, 1640, 1644, 1647, 1650, 1653, 1656, 1659, 1666, 1669, 1672, 1679, 956, 960, 964, 968, 1689, 1693, 973, 977, 984, 989, 993, 1697, 1701, 1704, 1709, 997, 1001, 1004, 1716, 1720, 1010, 1724, 1014, 1018, 1728, 1732, 1736, 1740, 1023, 1027, 1031, 1744, 1035, 1039, 1043, 1047, 1748, 1752, 1756, 1051, 1055, 1060, 1760, 1764, 1064, 1068, 1768, 1073, 1077, 1081, 1776, 1781, 1088, 1092, 1096, 1099, 1106, 1110, 1113, 1116, 1120, 1123, 1129, 1136, 1789, 1793, 1797, 1801, 1804, 1808, 1811, 1817, 1821, 1825, 1828, 1831, 1835, 1839, 1843, 1141, 1847, 1145, 1851, 1855, 1149, 1153, 1859, 1863, 1867, 1871, 1157, 1161, 1164, 1168, 1173, 1177, 1875, 1879, 1883, 1886, 1181, 1185, 1189, 1194, 1199, 1890, 1894, 1898, 1203, 1207, 1211, 1902, 1906, 1217, 1910, 1221, 1225, 1229, 1914, 1918, 1922, 1234, 1926, 1238, 1242, 1245, 1930, 1249, 1772, 1253, 1378] (by decide +kernel) (by decide +kernel) w h).1
theorem inlX0 : ∀ w ∈ wsX00, w ∈ wsL_law := fun _ h => List.mem_append_left _ (List.mem_append_left _ (List.mem_append_left _ (List.mem_append_left _ (List.mem_append_left _ (List.mem_append_left _ (List.mem_append_left _ (List.mem_append_left _ (List.mem_append_left _ (List.mem_append_right _ h)))))))))
theorem inX0 : ∀ w ∈ wsX00, w ∈ lw_tbl := fun w h => wsL_law_in w (inlX0 w h)
theorem inlX1 : ∀ w ∈ wsX10, w ∈ wsL_law := fun _ h => List.mem_append_left _ (List.mem_append_left _ (List.mem_append_left _ (List.mem_append_left _ (List.mem_append_left _ (List.mem_append_left _ (List.mem_append_left _ (List.mem_append_right _ h)))))))
theorem inX1 : ∀ w ∈ wsX10, w ∈ lw_tbl := fun w h => wsL_law_in w (inlX1 w h)
theorem inX2 : ∀ w ∈ wsX20, w ∈ lw_tbl := by decide +kernel
theorem inlX3 : ∀ w ∈ wsX30, w ∈ wsL_law := fun _ h => List.mem_append_left _ (List.mem_append_left _ (List.mem_append_right _ h))
theorem inX3 : ∀ w ∈ wsX30, w ∈ lw_tbl := fun w h => wsL_law_in w (inlX3 w h)
theorem inlX4 : ∀ w ∈ wsX40, w ∈ wsL_law := fun _ h => List.mem_append_left _ (List.mem_append_left _ (List.mem_append_left _ (List.mem_append_left _ (List.mem_append_left _ (List.mem_append_right _ h)))))
theorem inX4 : ∀ w ∈ wsX40, w ∈ lw_tbl := fun w h => wsL_law_in w (inlX4 w h)
theorem inX5 : ∀ w ∈ wsX50, w ∈ lw_tbl := by decide +kernel
theorem inlX6 : ∀ w ∈ wsX60, w ∈ wsL_law := fun _ h => List.mem_append_left _ (List.mem_append_left _ (List.mem_append_left _ (List.mem_append_left _ (List.mem_append_left _ (List.mem_append_left _ (List.mem_append_left _ (List.mem_append_left _ (List.mem_append_right _ h))))))))
theorem inX6 : ∀ w ∈ wsX60, w ∈ lw_tbl := fun w h => wsL_law_in w (inlX6 w h)
theorem inlX7 : ∀ w ∈ wsX70, w ∈ wsL_law := fun _ h => List.mem_append_left _ (List.mem_append_right _ h)
theorem inX7 : ∀ w ∈ wsX70, w ∈ lw_tbl := fun w h => wsL_law_in w (inlX7 w h)
theorem inlX8 : ∀ w ∈ wsX80, w ∈ wsL_law := fun _ h => List.mem_append_left _ (List.mem_append_left _ (List.mem_append_left _ (List.mem_append_right _ h)))
theorem inX8 : ∀ w ∈ wsX80, w ∈ lw_tbl := fun w h => wsL_law_in w (inlX8 w h)
theorem inlX9 : ∀ w ∈ wsX90, w ∈ wsL_law := fun _ h => List.mem_append_left _ (List.mem_append_left _ (List.mem_append_left _ (List.mem_append_left _ (List.mem_append_right _ h))))
theorem inX9 : ∀ w ∈ wsX90, w ∈ lw_tbl := fun w h => wsL_law_in w (inlX9 w h)
theorem inlX10 : ∀ w ∈ wsX100, w ∈ wsL_law := fun _ h => List.mem_append_left _ (List.mem_append_left _ (List.mem_append_left _ (List.mem_append_left _ (List.mem_append_left _ (List.mem_append_left _ (List.mem_append_right _ h))))))
theorem inX10 : ∀ w ∈ wsX100, w ∈ lw_tbl := fun w h => wsL_law_in w (inlX10 w h)
theorem inlX11 : ∀ w ∈ wsX110, w ∈ wsL_law := fun _ h => List.mem_append_left _ (List.mem_append_left _ (List.mem_append_left _ (List.mem_append_left _ (List.mem_append_left _ (List.mem_append_left _ (List.mem_append_left _ (List.mem_append_left _ (List.mem_append_left _ (List.mem_append_left _ (List.mem_append_left _ (List.mem_append_right _ h)))))))))))
theorem inX11 : ∀ w ∈ wsX110, w ∈ lw_tbl := fun w h => wsL_law_in w (inlX11 w h)
theorem inlX12 : ∀ w ∈ wsX120, w ∈ wsL_law := fun _ h => List.mem_append_left _ (List.mem_append_left _ (List.mem_append_left _ (List.mem_append_left _ (List.mem_append_left _ (List.mem_append_left _ (List.mem_append_left _ (List.mem_append_left _ (List.mem_append_left _ (List.mem_append_left _ (List.mem_append_right _ h))))))))))
theorem inX12 : ∀ w ∈ wsX120, w ∈ lw_tbl := fun w h => wsL_law_in w (inlX12 w h)
theorem inJx145de : ∀ w ∈ wsJx145de0, w ∈ lw_tbl := by decide +kernel
theorem inJx9f9b0 : ∀ w ∈ wsJx9f9b00, w ∈ lw_tbl := by decide +kernel
theorem inJxb160c : ∀ w ∈ wsJxb160c0, w ∈ lw_tbl := by decide +kernel
theorem inJxe99ae : ∀ w ∈ wsJxe99ae0, w ∈ lw_tbl := by decide +kernel
theorem inJxf58ca : ∀ w ∈ wsJxf58ca0, w ∈ lw_tbl := by decide +kernel
theorem inJ6 : ∀ w ∈ wsJ60, w ∈ lw_tbl := by decide +kernel
theorem inJ9 : ∀ w ∈ wsJ90, w ∈ lw_tbl := by decide +kernel
theorem inJxd2413 : ∀ w ∈ wsJxd24130, w ∈ lw_tbl := by decide +kernel
theorem inJ0 : ∀ w ∈ wsJ00, w ∈ lw_tbl := by decide +kernel
theorem inJ1 : ∀ w ∈ wsJ10, w ∈ lw_tbl := by decide +kernel
theorem inJ2 : ∀ w ∈ wsJ20, w ∈ lw_tbl := by decide +kernel
theorem inJ10 : ∀ w ∈ wsJ100, w ∈ lw_tbl := by decide +kernel
theorem inJxfd54e : ∀ w ∈ wsJxfd54e0, w ∈ lw_tbl := by decide +kernel
theorem inJx3cf43 : ∀ w ∈ wsJx3cf430, w ∈ lw_tbl := by decide +kernel
theorem inJ7 : ∀ w ∈ wsJ70, w ∈ lw_tbl := by decide +kernel
theorem inJ3 : ∀ w ∈ wsJ30, w ∈ lw_tbl := by decide +kernel
abbrev vwCl : List vw_C := [(RX0, TX0, 20), (RX1, TX1, 1), (RX3, TX3, 4), (RX4, TX4, 4), (RX6, TX6, 4), (RX7, TX7, 8), (RX8, TX8, 7), (RX9, TX9, 2), (RX10, TX10, 6), (RX11, TX11, 14), (RX12, TX12, 32)]
/-! ===== END printed: names ===== -/
end
