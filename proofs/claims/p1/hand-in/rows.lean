section
-- ===== PART A: goes FIRST, ahead of the names: the tables' words, and 'selects' of the private methods out of them =====
/-- a private method of a class that the tables say can be made, by its rows of tables_1 -/
def lw_okq (q : MethodName × Nat) : Prop := (q.1.cls ≠ "java/lang/invoke/MethodHandle" ∧ q.1.cls ≠ "java/lang/invoke/VarHandle") ∧ Cond.instantiable q.1.cls q.2 ∈ tables_1 ∧ Cond.privateMethod q.1 ∈ tables_1 ∧ Cond.instanceMethod q.1 ∈ tables_1
theorem lw_p0 : lw_okq (⟨"java/lang/Throwable", "fillInStackTrace", "(I)Ljava/lang/Throwable;"⟩, 6) := ⟨⟨by decide +kernel, by decide +kernel⟩, List.mem_of_getElem? (i := 199) (by decide +kernel), List.mem_of_getElem? (i := 197) (by decide +kernel), List.mem_of_getElem? (i := 198) (by decide +kernel)⟩
theorem lw_p1 : lw_okq (⟨"java/util/ArrayList", "add", "(Ljava/lang/Object;[Ljava/lang/Object;I)V"⟩, 3) := ⟨⟨by decide +kernel, by decide +kernel⟩, List.mem_of_getElem? (i := 45) (by decide +kernel), List.mem_of_getElem? (i := 283) (by decide +kernel), List.mem_of_getElem? (i := 284) (by decide +kernel)⟩
theorem lw_p2 : lw_okq (⟨"java/util/ArrayList", "grow", "()[Ljava/lang/Object;"⟩, 3) := ⟨⟨by decide +kernel, by decide +kernel⟩, List.mem_of_getElem? (i := 45) (by decide +kernel), List.mem_of_getElem? (i := 287) (by decide +kernel), List.mem_of_getElem? (i := 288) (by decide +kernel)⟩
theorem lw_p3 : lw_okq (⟨"java/util/ArrayList", "grow", "(I)[Ljava/lang/Object;"⟩, 3) := ⟨⟨by decide +kernel, by decide +kernel⟩, List.mem_of_getElem? (i := 45) (by decide +kernel), List.mem_of_getElem? (i := 291) (by decide +kernel), List.mem_of_getElem? (i := 292) (by decide +kernel)⟩
theorem lw_p4 : lw_okq (⟨"FormRiver", "formAt", "(I)LFormRiver$Form;"⟩, 8) := ⟨⟨by decide +kernel, by decide +kernel⟩, List.mem_of_getElem? (i := 37) (by decide +kernel), List.mem_of_getElem? (i := 394) (by decide +kernel), List.mem_of_getElem? (i := 395) (by decide +kernel)⟩
theorem lw_p5 : lw_okq (⟨"FormRiver", "hasForeignMeaning", "(LFormRiver$Version;I)Z"⟩, 8) := ⟨⟨by decide +kernel, by decide +kernel⟩, List.mem_of_getElem? (i := 37) (by decide +kernel), List.mem_of_getElem? (i := 685) (by decide +kernel), List.mem_of_getElem? (i := 686) (by decide +kernel)⟩
theorem lw_p6 : lw_okq (⟨"FormRiver$Sheet", "isOpen", "(LFormRiver$Question;)Z"⟩, 2) := ⟨⟨by decide +kernel, by decide +kernel⟩, List.mem_of_getElem? (i := 698) (by decide +kernel), List.mem_of_getElem? (i := 772) (by decide +kernel), List.mem_of_getElem? (i := 773) (by decide +kernel)⟩
theorem lw_p7 : lw_okq (⟨"FormRiver$Sheet", "compute", "(LFormRiver$Slot;)V"⟩, 2) := ⟨⟨by decide +kernel, by decide +kernel⟩, List.mem_of_getElem? (i := 698) (by decide +kernel), List.mem_of_getElem? (i := 781) (by decide +kernel), List.mem_of_getElem? (i := 782) (by decide +kernel)⟩
theorem lw_p8 : lw_okq (⟨"FormRiver", "ownMeanings", "(LFormRiver$Version;I)V"⟩, 8) := ⟨⟨by decide +kernel, by decide +kernel⟩, List.mem_of_getElem? (i := 37) (by decide +kernel), List.mem_of_getElem? (i := 818) (by decide +kernel), List.mem_of_getElem? (i := 819) (by decide +kernel)⟩
theorem lw_p9 : lw_okq (⟨"FormRiver$Records", "keepValues", "(LFormRiver$Submission;LFormRiver$Sheet;)V"⟩, 6) := ⟨⟨by decide +kernel, by decide +kernel⟩, List.mem_of_getElem? (i := 83) (by decide +kernel), List.mem_of_getElem? (i := 855) (by decide +kernel), List.mem_of_getElem? (i := 856) (by decide +kernel)⟩
theorem lw_p10 : lw_okq (⟨"FormRiver$Records", "chooseSource", "(IILjava/util/ArrayList;)V"⟩, 6) := ⟨⟨by decide +kernel, by decide +kernel⟩, List.mem_of_getElem? (i := 83) (by decide +kernel), List.mem_of_getElem? (i := 862) (by decide +kernel), List.mem_of_getElem? (i := 863) (by decide +kernel)⟩
theorem lw_p11 : lw_okq (⟨"FormRiver", "submissionAt", "(I)LFormRiver$Submission;"⟩, 8) := ⟨⟨by decide +kernel, by decide +kernel⟩, List.mem_of_getElem? (i := 37) (by decide +kernel), List.mem_of_getElem? (i := 1034) (by decide +kernel), List.mem_of_getElem? (i := 1035) (by decide +kernel)⟩
theorem lw_p12 : lw_okq (⟨"FormRiver", "isBeingAmended", "(I)Z"⟩, 8) := ⟨⟨by decide +kernel, by decide +kernel⟩, List.mem_of_getElem? (i := 37) (by decide +kernel), List.mem_of_getElem? (i := 1039) (by decide +kernel), List.mem_of_getElem? (i := 1040) (by decide +kernel)⟩
theorem lw_p13 : lw_okq (⟨"FormRiver", "moveOn", "(LFormRiver$Submission;I)V"⟩, 8) := ⟨⟨by decide +kernel, by decide +kernel⟩, List.mem_of_getElem? (i := 37) (by decide +kernel), List.mem_of_getElem? (i := 1114) (by decide +kernel), List.mem_of_getElem? (i := 1115) (by decide +kernel)⟩
theorem lw_p14 : lw_okq (⟨"FormRiver$Submission", "comes", "(LFormRiver$Visit;)Z"⟩, 15) := ⟨⟨by decide +kernel, by decide +kernel⟩, List.mem_of_getElem? (i := 927) (by decide +kernel), List.mem_of_getElem? (i := 1122) (by decide +kernel), List.mem_of_getElem? (i := 1123) (by decide +kernel)⟩
theorem lw_p15 : lw_okq (⟨"FormRiver$Submission", "valueBehind", "(LFormRiver$Leg;)I"⟩, 15) := ⟨⟨by decide +kernel, by decide +kernel⟩, List.mem_of_getElem? (i := 927) (by decide +kernel), List.mem_of_getElem? (i := 1130) (by decide +kernel), List.mem_of_getElem? (i := 1131) (by decide +kernel)⟩
def lw_privs_1 : List (MethodName × Nat) := [(⟨"java/lang/Throwable", "fillInStackTrace", "(I)Ljava/lang/Throwable;"⟩, 6), (⟨"java/util/ArrayList", "add", "(Ljava/lang/Object;[Ljava/lang/Object;I)V"⟩, 3), (⟨"java/util/ArrayList", "grow", "()[Ljava/lang/Object;"⟩, 3), (⟨"java/util/ArrayList", "grow", "(I)[Ljava/lang/Object;"⟩, 3), (⟨"FormRiver", "formAt", "(I)LFormRiver$Form;"⟩, 8), (⟨"FormRiver", "hasForeignMeaning", "(LFormRiver$Version;I)Z"⟩, 8), (⟨"FormRiver$Sheet", "isOpen", "(LFormRiver$Question;)Z"⟩, 2), (⟨"FormRiver$Sheet", "compute", "(LFormRiver$Slot;)V"⟩, 2), (⟨"FormRiver", "ownMeanings", "(LFormRiver$Version;I)V"⟩, 8), (⟨"FormRiver$Records", "keepValues", "(LFormRiver$Submission;LFormRiver$Sheet;)V"⟩, 6), (⟨"FormRiver$Records", "chooseSource", "(IILjava/util/ArrayList;)V"⟩, 6), (⟨"FormRiver", "submissionAt", "(I)LFormRiver$Submission;"⟩, 8), (⟨"FormRiver", "isBeingAmended", "(I)Z"⟩, 8), (⟨"FormRiver", "moveOn", "(LFormRiver$Submission;I)V"⟩, 8), (⟨"FormRiver$Submission", "comes", "(LFormRiver$Visit;)Z"⟩, 15), (⟨"FormRiver$Submission", "valueBehind", "(LFormRiver$Leg;)I"⟩, 15)]
theorem lw_r1 : ∀ q ∈ lw_privs_1, lw_okq q := List.forall_mem_cons.mpr ⟨lw_p0, List.forall_mem_cons.mpr ⟨lw_p1, List.forall_mem_cons.mpr ⟨lw_p2, List.forall_mem_cons.mpr ⟨lw_p3, List.forall_mem_cons.mpr ⟨lw_p4, List.forall_mem_cons.mpr ⟨lw_p5, List.forall_mem_cons.mpr ⟨lw_p6, List.forall_mem_cons.mpr ⟨lw_p7, List.forall_mem_cons.mpr ⟨lw_p8, List.forall_mem_cons.mpr ⟨lw_p9, List.forall_mem_cons.mpr ⟨lw_p10, List.forall_mem_cons.mpr ⟨lw_p11, List.forall_mem_cons.mpr ⟨lw_p12, List.forall_mem_cons.mpr ⟨lw_p13, List.forall_mem_cons.mpr ⟨lw_p14, List.forall_mem_cons.mpr ⟨lw_p15, fun _ h => absurd h List.not_mem_nil⟩⟩⟩⟩⟩⟩⟩⟩⟩⟩⟩⟩⟩⟩⟩⟩
theorem lw_p16 : lw_okq (⟨"FormRiver$Submission", "approveLeg", "(LFormRiver$Visit;)V"⟩, 15) := ⟨⟨by decide +kernel, by decide +kernel⟩, List.mem_of_getElem? (i := 927) (by decide +kernel), List.mem_of_getElem? (i := 1170) (by decide +kernel), List.mem_of_getElem? (i := 1171) (by decide +kernel)⟩
theorem lw_p17 : lw_okq (⟨"FormRiver", "waitingAhead", "(LFormRiver$Submission;I)I"⟩, 8) := ⟨⟨by decide +kernel, by decide +kernel⟩, List.mem_of_getElem? (i := 37) (by decide +kernel), List.mem_of_getElem? (i := 1264) (by decide +kernel), List.mem_of_getElem? (i := 1265) (by decide +kernel)⟩
theorem lw_p18 : lw_okq (⟨"FormRiver", "slotCarried", "(II)LFormRiver$Slot;"⟩, 8) := ⟨⟨by decide +kernel, by decide +kernel⟩, List.mem_of_getElem? (i := 37) (by decide +kernel), List.mem_of_getElem? (i := 1280) (by decide +kernel), List.mem_of_getElem? (i := 1281) (by decide +kernel)⟩
theorem lw_p19 : lw_okq (⟨"FormRiver", "slotWithoutValue", "(II)LFormRiver$Slot;"⟩, 8) := ⟨⟨by decide +kernel, by decide +kernel⟩, List.mem_of_getElem? (i := 37) (by decide +kernel), List.mem_of_getElem? (i := 1291) (by decide +kernel), List.mem_of_getElem? (i := 1292) (by decide +kernel)⟩
theorem lw_p20 : lw_okq (⟨"FormRiver", "needRecord", "(II)V"⟩, 8) := ⟨⟨by decide +kernel, by decide +kernel⟩, List.mem_of_getElem? (i := 37) (by decide +kernel), List.mem_of_getElem? (i := 1324) (by decide +kernel), List.mem_of_getElem? (i := 1325) (by decide +kernel)⟩
theorem lw_p21 : lw_okq (⟨"FormRiver", "sourceAnew", "(II)I"⟩, 8) := ⟨⟨by decide +kernel, by decide +kernel⟩, List.mem_of_getElem? (i := 37) (by decide +kernel), List.mem_of_getElem? (i := 1336) (by decide +kernel), List.mem_of_getElem? (i := 1337) (by decide +kernel)⟩
theorem lw_p22 : lw_okq (⟨"FormRiver", "tellsAnew", "(LFormRiver$Submission;I)Z"⟩, 8) := ⟨⟨by decide +kernel, by decide +kernel⟩, List.mem_of_getElem? (i := 37) (by decide +kernel), List.mem_of_getElem? (i := 1340) (by decide +kernel), List.mem_of_getElem? (i := 1341) (by decide +kernel)⟩
theorem lw_p23 : lw_okq (⟨"FormRiver", "letGo", "()I"⟩, 8) := ⟨⟨by decide +kernel, by decide +kernel⟩, List.mem_of_getElem? (i := 37) (by decide +kernel), List.mem_of_getElem? (i := 1410) (by decide +kernel), List.mem_of_getElem? (i := 1411) (by decide +kernel)⟩
theorem lw_p24 : lw_okq (⟨"FormRiver", "isSoundRecord", "(III)Z"⟩, 8) := ⟨⟨by decide +kernel, by decide +kernel⟩, List.mem_of_getElem? (i := 37) (by decide +kernel), List.mem_of_getElem? (i := 1457) (by decide +kernel), List.mem_of_getElem? (i := 1458) (by decide +kernel)⟩
theorem lw_p25 : lw_okq (⟨"FormRiverModel", "fails", "(I)I"⟩, 13) := ⟨⟨by decide +kernel, by decide +kernel⟩, List.mem_of_getElem? (i := 1465) (by decide +kernel), List.mem_of_getElem? (i := 1520) (by decide +kernel), List.mem_of_getElem? (i := 1521) (by decide +kernel)⟩
theorem lw_p26 : lw_okq (⟨"FormRiverModel", "isForm", "(I)Z"⟩, 13) := ⟨⟨by decide +kernel, by decide +kernel⟩, List.mem_of_getElem? (i := 1465) (by decide +kernel), List.mem_of_getElem? (i := 1641) (by decide +kernel), List.mem_of_getElem? (i := 1642) (by decide +kernel)⟩
theorem lw_p27 : lw_okq (⟨"FormRiverModel", "draft", "(I)LFormRiverModel$Version;"⟩, 13) := ⟨⟨by decide +kernel, by decide +kernel⟩, List.mem_of_getElem? (i := 1465) (by decide +kernel), List.mem_of_getElem? (i := 1648) (by decide +kernel), List.mem_of_getElem? (i := 1649) (by decide +kernel)⟩
theorem lw_p28 : lw_okq (⟨"FormRiverModel", "adds", "(LFormRiverModel$Version;CI)I"⟩, 13) := ⟨⟨by decide +kernel, by decide +kernel⟩, List.mem_of_getElem? (i := 1465) (by decide +kernel), List.mem_of_getElem? (i := 1656) (by decide +kernel), List.mem_of_getElem? (i := 1657) (by decide +kernel)⟩
theorem lw_p29 : lw_okq (⟨"FormRiverModel$Version", "isPlain", "(I)Z"⟩, 24) := ⟨⟨by decide +kernel, by decide +kernel⟩, List.mem_of_getElem? (i := 1524) (by decide +kernel), List.mem_of_getElem? (i := 1668) (by decide +kernel), List.mem_of_getElem? (i := 1669) (by decide +kernel)⟩
theorem lw_p30 : lw_okq (⟨"FormRiverModel$Version", "questionOf", "(I)I"⟩, 24) := ⟨⟨by decide +kernel, by decide +kernel⟩, List.mem_of_getElem? (i := 1524) (by decide +kernel), List.mem_of_getElem? (i := 1691) (by decide +kernel), List.mem_of_getElem? (i := 1692) (by decide +kernel)⟩
theorem lw_p31 : lw_okq (⟨"FormRiverModel", "records", "()[[I"⟩, 13) := ⟨⟨by decide +kernel, by decide +kernel⟩, List.mem_of_getElem? (i := 1465) (by decide +kernel), List.mem_of_getElem? (i := 1695) (by decide +kernel), List.mem_of_getElem? (i := 1696) (by decide +kernel)⟩
def lw_privs_2 : List (MethodName × Nat) := [(⟨"FormRiver$Submission", "approveLeg", "(LFormRiver$Visit;)V"⟩, 15), (⟨"FormRiver", "waitingAhead", "(LFormRiver$Submission;I)I"⟩, 8), (⟨"FormRiver", "slotCarried", "(II)LFormRiver$Slot;"⟩, 8), (⟨"FormRiver", "slotWithoutValue", "(II)LFormRiver$Slot;"⟩, 8), (⟨"FormRiver", "needRecord", "(II)V"⟩, 8), (⟨"FormRiver", "sourceAnew", "(II)I"⟩, 8), (⟨"FormRiver", "tellsAnew", "(LFormRiver$Submission;I)Z"⟩, 8), (⟨"FormRiver", "letGo", "()I"⟩, 8), (⟨"FormRiver", "isSoundRecord", "(III)Z"⟩, 8), (⟨"FormRiverModel", "fails", "(I)I"⟩, 13), (⟨"FormRiverModel", "isForm", "(I)Z"⟩, 13), (⟨"FormRiverModel", "draft", "(I)LFormRiverModel$Version;"⟩, 13), (⟨"FormRiverModel", "adds", "(LFormRiverModel$Version;CI)I"⟩, 13), (⟨"FormRiverModel$Version", "isPlain", "(I)Z"⟩, 24), (⟨"FormRiverModel$Version", "questionOf", "(I)I"⟩, 24), (⟨"FormRiverModel", "records", "()[[I"⟩, 13)]
theorem lw_r2 : ∀ q ∈ lw_privs_2, lw_okq q := List.forall_mem_cons.mpr ⟨lw_p16, List.forall_mem_cons.mpr ⟨lw_p17, List.forall_mem_cons.mpr ⟨lw_p18, List.forall_mem_cons.mpr ⟨lw_p19, List.forall_mem_cons.mpr ⟨lw_p20, List.forall_mem_cons.mpr ⟨lw_p21, List.forall_mem_cons.mpr ⟨lw_p22, List.forall_mem_cons.mpr ⟨lw_p23, List.forall_mem_cons.mpr ⟨lw_p24, List.forall_mem_cons.mpr ⟨lw_p25, List.forall_mem_cons.mpr ⟨lw_p26, List.forall_mem_cons.mpr ⟨lw_p27, List.forall_mem_cons.mpr ⟨lw_p28, List.forall_mem_cons.mpr ⟨lw_p29, List.forall_mem_cons.mpr ⟨lw_p30, List.forall_mem_cons.mpr ⟨lw_p31, fun _ h => absurd h List.not_mem_nil⟩⟩⟩⟩⟩⟩⟩⟩⟩⟩⟩⟩⟩⟩⟩⟩
theorem lw_p32 : lw_okq (⟨"FormRiverModel", "sourceOf", "(II)I"⟩, 13) := ⟨⟨by decide +kernel, by decide +kernel⟩, List.mem_of_getElem? (i := 1465) (by decide +kernel), List.mem_of_getElem? (i := 1700) (by decide +kernel), List.mem_of_getElem? (i := 1701) (by decide +kernel)⟩
theorem lw_p33 : lw_okq (⟨"FormRiverModel", "hasValueFor", "(LFormRiverModel$Submission;I)Z"⟩, 13) := ⟨⟨by decide +kernel, by decide +kernel⟩, List.mem_of_getElem? (i := 1465) (by decide +kernel), List.mem_of_getElem? (i := 1704) (by decide +kernel), List.mem_of_getElem? (i := 1705) (by decide +kernel)⟩
theorem lw_p34 : lw_okq (⟨"FormRiverModel", "carried", "(LFormRiverModel$Submission;)LFormRiverModel$Sheet;"⟩, 13) := ⟨⟨by decide +kernel, by decide +kernel⟩, List.mem_of_getElem? (i := 1465) (by decide +kernel), List.mem_of_getElem? (i := 1708) (by decide +kernel), List.mem_of_getElem? (i := 1709) (by decide +kernel)⟩
theorem lw_p35 : lw_okq (⟨"FormRiverModel", "own", "(LFormRiverModel$Submission;)LFormRiverModel$Sheet;"⟩, 13) := ⟨⟨by decide +kernel, by decide +kernel⟩, List.mem_of_getElem? (i := 1465) (by decide +kernel), List.mem_of_getElem? (i := 1712) (by decide +kernel), List.mem_of_getElem? (i := 1713) (by decide +kernel)⟩
theorem lw_p36 : lw_okq (⟨"FormRiverModel$Sheet", "carries", "(I)C"⟩, 6) := ⟨⟨by decide +kernel, by decide +kernel⟩, List.mem_of_getElem? (i := 1716) (by decide +kernel), List.mem_of_getElem? (i := 1748) (by decide +kernel), List.mem_of_getElem? (i := 1749) (by decide +kernel)⟩
theorem lw_p37 : lw_okq (⟨"FormRiverModel$Sheet", "hasValue", "(I)Z"⟩, 6) := ⟨⟨by decide +kernel, by decide +kernel⟩, List.mem_of_getElem? (i := 1716) (by decide +kernel), List.mem_of_getElem? (i := 1752) (by decide +kernel), List.mem_of_getElem? (i := 1753) (by decide +kernel)⟩
theorem lw_p38 : lw_okq (⟨"FormRiverModel$Sheet", "isAsked", "(I)Z"⟩, 6) := ⟨⟨by decide +kernel, by decide +kernel⟩, List.mem_of_getElem? (i := 1716) (by decide +kernel), List.mem_of_getElem? (i := 1757) (by decide +kernel), List.mem_of_getElem? (i := 1758) (by decide +kernel)⟩
theorem lw_p39 : lw_okq (⟨"FormRiverModel$Sheet", "value", "(I)I"⟩, 6) := ⟨⟨by decide +kernel, by decide +kernel⟩, List.mem_of_getElem? (i := 1716) (by decide +kernel), List.mem_of_getElem? (i := 1761) (by decide +kernel), List.mem_of_getElem? (i := 1762) (by decide +kernel)⟩
theorem lw_p40 : lw_okq (⟨"FormRiverModel", "valueFor", "(LFormRiverModel$Submission;I)I"⟩, 13) := ⟨⟨by decide +kernel, by decide +kernel⟩, List.mem_of_getElem? (i := 1465) (by decide +kernel), List.mem_of_getElem? (i := 1773) (by decide +kernel), List.mem_of_getElem? (i := 1774) (by decide +kernel)⟩
theorem lw_p41 : lw_okq (⟨"FormRiverModel", "starts", "(II)LFormRiverModel$Submission;"⟩, 13) := ⟨⟨by decide +kernel, by decide +kernel⟩, List.mem_of_getElem? (i := 1465) (by decide +kernel), List.mem_of_getElem? (i := 1800) (by decide +kernel), List.mem_of_getElem? (i := 1801) (by decide +kernel)⟩
theorem lw_p42 : lw_okq (⟨"FormRiverModel", "isSubmission", "(I)Z"⟩, 13) := ⟨⟨by decide +kernel, by decide +kernel⟩, List.mem_of_getElem? (i := 1465) (by decide +kernel), List.mem_of_getElem? (i := 1875) (by decide +kernel), List.mem_of_getElem? (i := 1876) (by decide +kernel)⟩
theorem lw_p43 : lw_okq (⟨"FormRiverModel$Submission", "isOpen", "()Z"⟩, 17) := ⟨⟨by decide +kernel, by decide +kernel⟩, List.mem_of_getElem? (i := 1803) (by decide +kernel), List.mem_of_getElem? (i := 1879) (by decide +kernel), List.mem_of_getElem? (i := 1880) (by decide +kernel)⟩
theorem lw_p44 : lw_okq (⟨"FormRiverModel", "isThere", "(II)Z"⟩, 13) := ⟨⟨by decide +kernel, by decide +kernel⟩, List.mem_of_getElem? (i := 1465) (by decide +kernel), List.mem_of_getElem? (i := 1887) (by decide +kernel), List.mem_of_getElem? (i := 1888) (by decide +kernel)⟩
theorem lw_p45 : lw_okq (⟨"FormRiverModel", "versionOf", "(LFormRiverModel$Submission;)LFormRiverModel$Version;"⟩, 13) := ⟨⟨by decide +kernel, by decide +kernel⟩, List.mem_of_getElem? (i := 1465) (by decide +kernel), List.mem_of_getElem? (i := 1891) (by decide +kernel), List.mem_of_getElem? (i := 1892) (by decide +kernel)⟩
theorem lw_p46 : lw_okq (⟨"FormRiverModel", "canChange", "(LFormRiverModel$Submission;I)Z"⟩, 13) := ⟨⟨by decide +kernel, by decide +kernel⟩, List.mem_of_getElem? (i := 1465) (by decide +kernel), List.mem_of_getElem? (i := 1895) (by decide +kernel), List.mem_of_getElem? (i := 1896) (by decide +kernel)⟩
theorem lw_p47 : lw_okq (⟨"FormRiverModel", "begins", "(LFormRiverModel$Submission;)V"⟩, 13) := ⟨⟨by decide +kernel, by decide +kernel⟩, List.mem_of_getElem? (i := 1465) (by decide +kernel), List.mem_of_getElem? (i := 1912) (by decide +kernel), List.mem_of_getElem? (i := 1913) (by decide +kernel)⟩
def lw_privs_3 : List (MethodName × Nat) := [(⟨"FormRiverModel", "sourceOf", "(II)I"⟩, 13), (⟨"FormRiverModel", "hasValueFor", "(LFormRiverModel$Submission;I)Z"⟩, 13), (⟨"FormRiverModel", "carried", "(LFormRiverModel$Submission;)LFormRiverModel$Sheet;"⟩, 13), (⟨"FormRiverModel", "own", "(LFormRiverModel$Submission;)LFormRiverModel$Sheet;"⟩, 13), (⟨"FormRiverModel$Sheet", "carries", "(I)C"⟩, 6), (⟨"FormRiverModel$Sheet", "hasValue", "(I)Z"⟩, 6), (⟨"FormRiverModel$Sheet", "isAsked", "(I)Z"⟩, 6), (⟨"FormRiverModel$Sheet", "value", "(I)I"⟩, 6), (⟨"FormRiverModel", "valueFor", "(LFormRiverModel$Submission;I)I"⟩, 13), (⟨"FormRiverModel", "starts", "(II)LFormRiverModel$Submission;"⟩, 13), (⟨"FormRiverModel", "isSubmission", "(I)Z"⟩, 13), (⟨"FormRiverModel$Submission", "isOpen", "()Z"⟩, 17), (⟨"FormRiverModel", "isThere", "(II)Z"⟩, 13), (⟨"FormRiverModel", "versionOf", "(LFormRiverModel$Submission;)LFormRiverModel$Version;"⟩, 13), (⟨"FormRiverModel", "canChange", "(LFormRiverModel$Submission;I)Z"⟩, 13), (⟨"FormRiverModel", "begins", "(LFormRiverModel$Submission;)V"⟩, 13)]
theorem lw_r3 : ∀ q ∈ lw_privs_3, lw_okq q := List.forall_mem_cons.mpr ⟨lw_p32, List.forall_mem_cons.mpr ⟨lw_p33, List.forall_mem_cons.mpr ⟨lw_p34, List.forall_mem_cons.mpr ⟨lw_p35, List.forall_mem_cons.mpr ⟨lw_p36, List.forall_mem_cons.mpr ⟨lw_p37, List.forall_mem_cons.mpr ⟨lw_p38, List.forall_mem_cons.mpr ⟨lw_p39, List.forall_mem_cons.mpr ⟨lw_p40, List.forall_mem_cons.mpr ⟨lw_p41, List.forall_mem_cons.mpr ⟨lw_p42, List.forall_mem_cons.mpr ⟨lw_p43, List.forall_mem_cons.mpr ⟨lw_p44, List.forall_mem_cons.mpr ⟨lw_p45, List.forall_mem_cons.mpr ⟨lw_p46, List.forall_mem_cons.mpr ⟨lw_p47, fun _ h => absurd h List.not_mem_nil⟩⟩⟩⟩⟩⟩⟩⟩⟩⟩⟩⟩⟩⟩⟩⟩
theorem lw_p48 : lw_okq (⟨"FormRiverModel", "lastSubstitute", "(I)I"⟩, 13) := ⟨⟨by decide +kernel, by decide +kernel⟩, List.mem_of_getElem? (i := 1465) (by decide +kernel), List.mem_of_getElem? (i := 1916) (by decide +kernel), List.mem_of_getElem? (i := 1917) (by decide +kernel)⟩
theorem lw_p49 : lw_okq (⟨"FormRiverModel", "goesOn", "(LFormRiverModel$Submission;)V"⟩, 13) := ⟨⟨by decide +kernel, by decide +kernel⟩, List.mem_of_getElem? (i := 1465) (by decide +kernel), List.mem_of_getElem? (i := 1920) (by decide +kernel), List.mem_of_getElem? (i := 1921) (by decide +kernel)⟩
theorem lw_p50 : lw_okq (⟨"FormRiverModel", "waiting", "(LFormRiverModel$Submission;)I"⟩, 13) := ⟨⟨by decide +kernel, by decide +kernel⟩, List.mem_of_getElem? (i := 1465) (by decide +kernel), List.mem_of_getElem? (i := 1924) (by decide +kernel), List.mem_of_getElem? (i := 1925) (by decide +kernel)⟩
theorem lw_p51 : lw_okq (⟨"FormRiverModel", "accepts", "(LFormRiverModel$Submission;)V"⟩, 13) := ⟨⟨by decide +kernel, by decide +kernel⟩, List.mem_of_getElem? (i := 1465) (by decide +kernel), List.mem_of_getElem? (i := 1928) (by decide +kernel), List.mem_of_getElem? (i := 1929) (by decide +kernel)⟩
theorem lw_p52 : lw_okq (⟨"FormRiverModel", "waitsAt", "(LFormRiverModel$Submission;I)Z"⟩, 13) := ⟨⟨by decide +kernel, by decide +kernel⟩, List.mem_of_getElem? (i := 1465) (by decide +kernel), List.mem_of_getElem? (i := 1936) (by decide +kernel), List.mem_of_getElem? (i := 1937) (by decide +kernel)⟩
theorem lw_p53 : lw_okq (⟨"FormRiverModel", "approves", "(LFormRiverModel$Submission;I)V"⟩, 13) := ⟨⟨by decide +kernel, by decide +kernel⟩, List.mem_of_getElem? (i := 1465) (by decide +kernel), List.mem_of_getElem? (i := 1940) (by decide +kernel), List.mem_of_getElem? (i := 1941) (by decide +kernel)⟩
theorem lw_p54 : lw_okq (⟨"FormRiverModel", "isMissing", "(II)Z"⟩, 13) := ⟨⟨by decide +kernel, by decide +kernel⟩, List.mem_of_getElem? (i := 1465) (by decide +kernel), List.mem_of_getElem? (i := 1964) (by decide +kernel), List.mem_of_getElem? (i := 1965) (by decide +kernel)⟩
theorem lw_p55 : lw_okq (⟨"FormRiverModel", "isNotCarried", "(II)Z"⟩, 13) := ⟨⟨by decide +kernel, by decide +kernel⟩, List.mem_of_getElem? (i := 1465) (by decide +kernel), List.mem_of_getElem? (i := 1992) (by decide +kernel), List.mem_of_getElem? (i := 1993) (by decide +kernel)⟩
theorem lw_p56 : lw_okq (⟨"FormRiverModel", "lacking", "(II)LFormRiverModel$Sheet;"⟩, 13) := ⟨⟨by decide +kernel, by decide +kernel⟩, List.mem_of_getElem? (i := 1465) (by decide +kernel), List.mem_of_getElem? (i := 2000) (by decide +kernel), List.mem_of_getElem? (i := 2001) (by decide +kernel)⟩
theorem lw_p57 : lw_okq (⟨"FormRiverModel$Sheet", "reason", "(I)C"⟩, 6) := ⟨⟨by decide +kernel, by decide +kernel⟩, List.mem_of_getElem? (i := 1716) (by decide +kernel), List.mem_of_getElem? (i := 2004) (by decide +kernel), List.mem_of_getElem? (i := 2005) (by decide +kernel)⟩
theorem lw_p58 : lw_okq (⟨"FormRiverModel", "rootOf", "(III)I"⟩, 13) := ⟨⟨by decide +kernel, by decide +kernel⟩, List.mem_of_getElem? (i := 1465) (by decide +kernel), List.mem_of_getElem? (i := 2012) (by decide +kernel), List.mem_of_getElem? (i := 2013) (by decide +kernel)⟩
theorem lw_p59 : lw_okq (⟨"FormRiverModel$Sheet", "hasCause", "(I)Z"⟩, 6) := ⟨⟨by decide +kernel, by decide +kernel⟩, List.mem_of_getElem? (i := 1716) (by decide +kernel), List.mem_of_getElem? (i := 2016) (by decide +kernel), List.mem_of_getElem? (i := 2017) (by decide +kernel)⟩
theorem lw_p60 : lw_okq (⟨"FormRiverModel$Sheet", "causeOf", "(I)I"⟩, 6) := ⟨⟨by decide +kernel, by decide +kernel⟩, List.mem_of_getElem? (i := 1716) (by decide +kernel), List.mem_of_getElem? (i := 2021) (by decide +kernel), List.mem_of_getElem? (i := 2022) (by decide +kernel)⟩
theorem lw_p61 : lw_okq (⟨"FormRiverModel", "runsOut", "(LFormRiverModel$Submission;)V"⟩, 13) := ⟨⟨by decide +kernel, by decide +kernel⟩, List.mem_of_getElem? (i := 1465) (by decide +kernel), List.mem_of_getElem? (i := 2072) (by decide +kernel), List.mem_of_getElem? (i := 2073) (by decide +kernel)⟩
theorem lw_p62 : lw_okq (⟨"FormRiverModel", "goes", "(LFormRiverModel$Submission;)V"⟩, 13) := ⟨⟨by decide +kernel, by decide +kernel⟩, List.mem_of_getElem? (i := 1465) (by decide +kernel), List.mem_of_getElem? (i := 2076) (by decide +kernel), List.mem_of_getElem? (i := 2077) (by decide +kernel)⟩
def lw_privs_4 : List (MethodName × Nat) := [(⟨"FormRiverModel", "lastSubstitute", "(I)I"⟩, 13), (⟨"FormRiverModel", "goesOn", "(LFormRiverModel$Submission;)V"⟩, 13), (⟨"FormRiverModel", "waiting", "(LFormRiverModel$Submission;)I"⟩, 13), (⟨"FormRiverModel", "accepts", "(LFormRiverModel$Submission;)V"⟩, 13), (⟨"FormRiverModel", "waitsAt", "(LFormRiverModel$Submission;I)Z"⟩, 13), (⟨"FormRiverModel", "approves", "(LFormRiverModel$Submission;I)V"⟩, 13), (⟨"FormRiverModel", "isMissing", "(II)Z"⟩, 13), (⟨"FormRiverModel", "isNotCarried", "(II)Z"⟩, 13), (⟨"FormRiverModel", "lacking", "(II)LFormRiverModel$Sheet;"⟩, 13), (⟨"FormRiverModel$Sheet", "reason", "(I)C"⟩, 6), (⟨"FormRiverModel", "rootOf", "(III)I"⟩, 13), (⟨"FormRiverModel$Sheet", "hasCause", "(I)Z"⟩, 6), (⟨"FormRiverModel$Sheet", "causeOf", "(I)I"⟩, 6), (⟨"FormRiverModel", "runsOut", "(LFormRiverModel$Submission;)V"⟩, 13), (⟨"FormRiverModel", "goes", "(LFormRiverModel$Submission;)V"⟩, 13)]
theorem lw_r4 : ∀ q ∈ lw_privs_4, lw_okq q := List.forall_mem_cons.mpr ⟨lw_p48, List.forall_mem_cons.mpr ⟨lw_p49, List.forall_mem_cons.mpr ⟨lw_p50, List.forall_mem_cons.mpr ⟨lw_p51, List.forall_mem_cons.mpr ⟨lw_p52, List.forall_mem_cons.mpr ⟨lw_p53, List.forall_mem_cons.mpr ⟨lw_p54, List.forall_mem_cons.mpr ⟨lw_p55, List.forall_mem_cons.mpr ⟨lw_p56, List.forall_mem_cons.mpr ⟨lw_p57, List.forall_mem_cons.mpr ⟨lw_p58, List.forall_mem_cons.mpr ⟨lw_p59, List.forall_mem_cons.mpr ⟨lw_p60, List.forall_mem_cons.mpr ⟨lw_p61, List.forall_mem_cons.mpr ⟨lw_p62, fun _ h => absurd h List.not_mem_nil⟩⟩⟩⟩⟩⟩⟩⟩⟩⟩⟩⟩⟩⟩⟩
def lw_privs : List (MethodName × Nat) := lw_privs_1 ++ (lw_privs_2 ++ (lw_privs_3 ++ (lw_privs_4)))
def lw_tbl : List Cond := k2_sels lw_privs ++ tables_1
theorem lw_privs_ok : ∀ q ∈ lw_privs, lw_okq q := by
  show ∀ q ∈ lw_privs_1 ++ (lw_privs_2 ++ (lw_privs_3 ++ (lw_privs_4))), lw_okq q
  exact List.forall_mem_append.mpr ⟨lw_r1, List.forall_mem_append.mpr ⟨lw_r2, List.forall_mem_append.mpr ⟨lw_r3, lw_r4⟩⟩⟩
/-- the streams that the claim lets the run draw from -/
abbrev lw_cs : List Choice := [Jvm.Choice.named "NaN.bits"]
theorem lw_bits : nanBits ∈ lw_cs := by first | decide | exact List.mem_cons_self | simp [lw_cs, nanBits]
-- ===== end of PART A; then your names; then what follows =====
end
section
/-! own rows: what the tables say of an array of arrays (the printed names use it) -/
def va_AOA (t : FieldType) (U : State) : Prop := (Cond.arrayOver (.array t)).before #[] U = true
theorem va_AOA.of {t : FieldType} {A : Array Value} {U : State} (h : (Cond.arrayOver (.array t)).before A U = true) : va_AOA t U := h
theorem va_AOA.use {t : FieldType} {A : Array Value} {U : State} (h : va_AOA t U) : (Cond.arrayOver (.array t)).before A U = true := h
/-! ===== BEGIN words of one list among another's, by their places ===== -/
theorem goodIn_r {big : List Cond} (ws : List Cond) (ps : List Nat) (hp : ws = ps.filterMap (fun i => big[i]?)) (h : ws.all goodWord = true) : GoodIn big ws := by
  intro w hw
  have h1 := List.all_eq_true.mp h w hw
  rw [hp] at hw
  obtain ⟨i, -, hi⟩ := List.mem_filterMap.mp hw
  have hm : w ∈ big := by first | exact List.mem_of_getElem? hi | exact List.getElem?_mem hi
  exact ⟨hm, good_of_word h1⟩
theorem goodIn_app {big a b : List Cond} (ha : GoodIn big a) (hb : GoodIn big b) : GoodIn big (a ++ b) := fun w h => (List.mem_append.mp h).elim (ha w) (hb w)
theorem goodIn_ca {big a b : List Cond} {c : Cond} (ha : GoodIn big (c :: a)) (hb : GoodIn big b) : GoodIn big (c :: (a ++ b)) := fun w h => (List.mem_cons.mp h).elim (fun e => ha w (List.mem_cons.mpr (Or.inl e))) (fun h => (List.mem_append.mp h).elim (fun h => ha w (List.mem_cons.mpr (Or.inr h))) (hb w))
theorem goodIn_sub {big ws : List Cond} (hm : ∀ w ∈ ws, w ∈ big) (h : ws.all goodWord = true) : GoodIn big ws := fun w hw => ⟨hm w hw, good_of_word (List.all_eq_true.mp h w hw)⟩
/-! ===== END ===== -/

/-! ===== BEGIN new T[n][m]: the outer array a place, the inner ones among the pooled ===== -/
/-- f, but v at every address of l -/
def vr_up {α : Type} (f : Nat → α) (l : List Nat) (v : α) : Nat → α := fun a => if a ∈ l then v else f a
theorem vr_up_in {α : Type} {f : Nat → α} {l : List Nat} {v : α} {a : Nat} (h : a ∈ l) : vr_up f l v a = v := if_pos h
theorem vr_up_ne {α : Type} {f : Nat → α} {l : List Nat} {v : α} {a : Nat} (h : a ∉ l) : vr_up f l v a = f a := if_neg h
theorem vr_rows {L l : List Nat} {f : Nat → va_E} {e : va_E} (h : ∀ a, a ∈ l → a ∉ L) : va_pl L f ++ l.map (fun a => (a, e)) = va_pl (L ++ l) (vr_up f l e) := by
  unfold va_pl
  rw [List.map_append]
  congr 1
  · apply List.map_congr_left
    intro a ha
    rw [vr_up_ne (fun q => h a q ha)]
  · apply List.map_congr_left
    intro a ha
    rw [vr_up_in ha]
theorem vr_lay {X rows : va_W} {x : Nat × va_E} {pl : va_W} {D : va_G} {cl : List vw_C} {H : Heap} (hP : va_P D cl (((X ++ pl) ++ [x]) ++ rows) H) : va_P D cl ((X ++ [x]) ++ (pl ++ rows)) H := by
  rw [List.append_assoc (X ++ pl)] at hP
  have h := va_P.swap hP
  rw [← List.append_assoc X] at h
  have h2 := va_P.swap h
  rw [List.append_assoc (X ++ [x])] at h2
  exact h2
theorem vr_layD {X rows : va_W} {x : Nat × va_E} {pl : va_W} {A : Nat → Prop} (hD : va_D A (((X ++ pl) ++ [x]) ++ rows)) : va_D A ((X ++ [x]) ++ (pl ++ rows)) := by
  rw [List.append_assoc (X ++ pl)] at hD
  have h := va_D.swap hD
  rw [← List.append_assoc X] at h
  have h2 := va_D.swap h
  rw [List.append_assoc (X ++ [x])] at h2
  exact h2
theorem vr_outer (c : ClassId) (N h0 : Nat) : ∀ i : Nat, Jvm.Free.Multi.outerC c N h0 i = arrV c N (fun j => va_rf (if j < i then some (h0 + 1 + j) else none))
  | 0 => by
    show ({ cls := c, slots := Array.replicate N .null, vm := .none } : Cell) = _
    rw [arrV_new]
    refine congrArg (arrV c N) (funext fun j => ?_)
    simp [va_rf]
  | i + 1 => by
    show (Jvm.Free.Multi.outerC c N h0 i).setSlot i (.ref (h0 + 1 + i)) = _
    rw [vr_outer c N h0 i, arrV_store]
    refine congrArg (arrV c N) (funext fun j => ?_)
    by_cases e : j = i
    · subst e
      simp [updV, va_rf]
    · by_cases h : j < i
      · simp [updV, e, h, Nat.lt_succ_of_lt h]
      · simp [updV, e, h, show ¬ j < i + 1 by omega]
section VGM
variable {p : Program} {l : Launch} {e : Env} {R : Room} {s : State} {m : MethodId} {args : Array Value} {below : List Frame} {meth : Method} {c : Code} {H : Heap} {locs : List Loc} {cells slots : Nat} {Q : State → Prop}
variable {cc : ByteArray} {pc : Nat} {ls : Array Slot} {rest : List Value} {D : va_G} {cl : List vw_C} {A : Nat → Prop} {a : Nat} {tys : List (ClassId × FieldType)} {ws : va_W} {H0 : Heap}
theorem va_mna {X : va_W} {L : List Nat} {f : Nat → va_E} {cc : ByteArray} (hexec : p.tables.exec = Jvm.exec) (hb : c.code = cc) {own : String} {index : Nat} {ty : FieldType} {cy : ClassId} (hown : s.vm.findClass own = some m.cls) (hclink : (Cond.classLink own index ("[" ++ (FieldType.array ty).toString)).before args s = true) (hover : va_AOA ty s) (harr : (Cond.arrayClass ty).before args s = true) (hcy : s.vm.findClass (FieldType.array ty).toString = some cy)
    (hK : va_K D cl tys s) (hP : va_P D cl (X ++ va_pl L f) H) (hD : va_D A (X ++ va_pl L f)) (hS : va_S A H0 H locs) (hA : ∀ q, H0.size ≤ q → A q) {n k : Int32} {N' K' : Nat} {z : vp_A} (hn : ¬ n < 0) (hk : ¬ k < 0) (hN : n.toNatClampNeg = N') (hM : k.toNatClampNeg = K')
    (hb1 : N' * 4 ≤ 536870912) (hb2 : K' * componentBytes ty ≤ 536870912) (hb3 : K' ≤ 536870912) (hdf : fits ty (defaultValue ty) = true) (hdd : (defaultValue ty).isDefault = true) (hcells : cells + (1 + N') ≤ R.cells) (hslots : slots + (N' + N' * K') ≤ R.slots) (hz : ∀ c : ClassId, Jvm.Free.Multi.innerC c K' (defaultValue ty) = vp_cell c z) (hdg : decode cc pc = .ok (.multianewarray index 2, 4))
    (kk : ∀ (q : Nat) (r : Nat → Nat) (cA : ClassId) (H1 : Heap), (∀ i j : Nat, i < N' → j < N' → r i = r j → i = j) → (∀ i : Nat, i < N' → r i ∉ L) → va_K D cl (tys ++ [(cA, .array ty)]) s →
      va_P D cl ((X ++ [(q, .inl (cA, N', .inr (.inr (.inr (.inr (fun i => if i < N' then some (r i) else none))))))]) ++ va_pl (L ++ (List.range N').map r) (vr_up f ((List.range N').map r) (.inl (cy, z)))) H1 → va_D A ((X ++ [(q, .inl (cA, N', .inr (.inr (.inr (.inr (fun i => if i < N' then some (r i) else none))))))]) ++ va_pl (L ++ (List.range N').map r) (vr_up f ((List.range N').map r) (.inl (cy, z)))) → va_S A H0 H1 locs →
      W p l e R s m args below meth c H1 locs (cells + 1 + N') (slots + N' + N' * K') Q (F0 m (pc + 4) ls (.ref q :: rest))) : W p l e R s m args below meth c H locs cells slots Q (F0 m pc ls (.int k :: .int n :: rest)) := by
  subst hN
  subst hM
  intro T hT Xs
  obtain ⟨vm₁, cA, comp, -, fA, fC, hO, -, X', step⟩ := Xs.multianewarray2F hexec hown hclink (va_AOA.use hover) harr (g := F0 m pc ls (.int k :: .int n :: rest)) rfl (by rw [hb]; exact hdg) rfl hn hk hb1 hb2 hb3 hdf hdd hcells hslots
  have ec : some cy = some comp := hcy.symm.trans fC
  cases ec
  generalize hF : Jvm.Free.Multi.fill (T.setVm vm₁) cA cy n.toNatClampNeg k.toNatClampNeg (defaultValue ty) n.toNatClampNeg = F at X' step
  have hTh : (T.setVm vm₁).heap = H := hT
  obtain ⟨f1, f2, -, -⟩ := Jvm.Free.Multi.fill_facts (T.setVm vm₁) cA cy n.toNatClampNeg k.toNatClampNeg (defaultValue ty) n.toNatClampNeg
  rw [hF, hTh] at f1 f2
  have hold : ∀ x : Nat, x < H.size → F.heap[x]? = H[x]? := fun x hx => by
    have := Jvm.Free.Multi.fill_old (T.setVm vm₁) cA cy n.toNatClampNeg k.toNatClampNeg (defaultValue ty) (a := x) (by rw [hTh]; exact hx) n.toNatClampNeg
    rw [hF, hTh] at this
    exact this
  have hrow : ∀ j : Nat, j < n.toNatClampNeg → F.heap[H.size + 1 + j]? = some (vp_cell cy z) := fun j hj => by
    have := Jvm.Free.Multi.fill_inner (T.setVm vm₁) cA cy n.toNatClampNeg k.toNatClampNeg (defaultValue ty) n.toNatClampNeg j hj
    rw [hF, hTh, hz] at this
    exact this
  have hout : Jvm.Free.Multi.outerC cA n.toNatClampNeg H.size n.toNatClampNeg = vp_cell cA (n.toNatClampNeg, .inr (.inr (.inr (.inr (fun i => if i < n.toNatClampNeg then some (H.size + 1 + i) else none))))) := by
    rw [vp_cell_q]
    exact vr_outer cA n.toNatClampNeg H.size n.toNatClampNeg
  rw [hout] at f2
  have hlt : ∀ a, a ∈ L → a < H.size := fun a ha => by
    obtain ⟨k9, hk9⟩ := va_pl_get (X := X) (f := f) ha
    exact (hP k9 _ hk9).lt
  have hnl : ∀ i : Nat, i < n.toNatClampNeg → H.size + 1 + i ∉ L := fun i _ h => by
    have := hlt _ h
    omega
  have hnm : ∀ a, a ∈ (List.range n.toNatClampNeg).map (fun i => H.size + 1 + i) → a ∉ L := fun a ha h => by
    obtain ⟨i, -, rfl⟩ := List.mem_map.mp ha
    have := hlt _ h
    omega
  have hP0 : va_P D cl (X ++ va_pl L f) F.heap := hP.kept (fun k9 x hx => hold x.1 ((hP k9 x hx).lt))
  have hP1 : va_P D cl ((X ++ va_pl L f) ++ [(H.size, .inl (cA, n.toNatClampNeg, .inr (.inr (.inr (.inr (fun i => if i < n.toNatClampNeg then some (H.size + 1 + i) else none))))))]) F.heap := hP0.app (fun k9 x hx => by
    have h0 : k9 < 1 := (List.getElem?_eq_some_iff.mp hx).1
    rw [show k9 = 0 by omega] at hx
    cases hx
    exact f2)
  have hP2 : va_P D cl (((X ++ va_pl L f) ++ [(H.size, .inl (cA, n.toNatClampNeg, .inr (.inr (.inr (.inr (fun i => if i < n.toNatClampNeg then some (H.size + 1 + i) else none))))))]) ++ ((List.range n.toNatClampNeg).map (fun i => H.size + 1 + i)).map (fun a => (a, .inl (cy, z)))) F.heap := hP1.app (fun k9 x hx => by
    obtain ⟨a, ha, rfl⟩ := List.mem_map.mp (List.mem_of_getElem? hx)
    obtain ⟨i, hi, rfl⟩ := List.mem_map.mp ha
    exact hrow i (List.mem_range.mp hi))
  have hD2 : va_D A (((X ++ va_pl L f) ++ [(H.size, .inl (cA, n.toNatClampNeg, .inr (.inr (.inr (.inr (fun i => if i < n.toNatClampNeg then some (H.size + 1 + i) else none))))))]) ++ ((List.range n.toNatClampNeg).map (fun i => H.size + 1 + i)).map (fun a => (a, .inl (cy, z)))) := by
    have hD1 := hD.push (e := .inl (cA, n.toNatClampNeg, .inr (.inr (.inr (.inr (fun i => if i < n.toNatClampNeg then some (H.size + 1 + i) else none)))))) hP rfl (hA _ hS.1)
    generalize hW1 : (X ++ va_pl L f) ++ [(H.size, .inl (cA, n.toNatClampNeg, .inr (.inr (.inr (.inr (fun i => if i < n.toNatClampNeg then some (H.size + 1 + i) else none))))))] = W1 at hD1 hP1 ⊢
    have hle : ∀ (k9 : Nat) (x : Nat × va_E), W1[k9]? = some x → x.1 ≤ H.size := fun k9 x hx => by
      rw [← hW1] at hx
      by_cases hl : k9 < (X ++ va_pl L f).length
      · rw [List.getElem?_append_left hl] at hx
        exact Nat.le_of_lt ((hP k9 x hx).lt)
      · rw [List.getElem?_append_right (by omega)] at hx
        have h0 : k9 - (X ++ va_pl L f).length < 1 := (List.getElem?_eq_some_iff.mp hx).1
        rw [show k9 - (X ++ va_pl L f).length = 0 by omega] at hx
        cases hx
        exact Nat.le_refl _
    have hr : ∀ (k9 : Nat) (x : Nat × va_E), (((List.range n.toNatClampNeg).map (fun i => H.size + 1 + i)).map (fun a => ((a, .inl (cy, z)) : Nat × va_E)))[k9]? = some x → x.1 = H.size + 1 + k9 := fun k9 x hx => by
      rw [List.getElem?_map, List.getElem?_map] at hx
      by_cases h9 : k9 < n.toNatClampNeg
      · rw [List.getElem?_range h9] at hx
        cases hx
        rfl
      · have hn0 : (List.range n.toNatClampNeg)[k9]? = none := List.getElem?_eq_none (by rw [List.length_range]; omega)
        rw [hn0] at hx
        cases hx
    refine ⟨fun i j x y hi hj hxy => ?_, fun k9 x hx => ?_⟩
    · by_cases h1 : i < W1.length <;> by_cases h2 : j < W1.length
      · rw [List.getElem?_append_left h1] at hi
        rw [List.getElem?_append_left h2] at hj
        exact hD1.1 i j x y hi hj hxy
      · rw [List.getElem?_append_left h1] at hi
        rw [List.getElem?_append_right (by omega)] at hj
        have := hle _ _ hi
        have := hr _ _ hj
        omega
      · rw [List.getElem?_append_right (by omega)] at hi
        rw [List.getElem?_append_left h2] at hj
        have := hle _ _ hj
        have := hr _ _ hi
        omega
      · rw [List.getElem?_append_right (by omega)] at hi hj
        have := hr _ _ hi
        have := hr _ _ hj
        omega
    · by_cases h1 : k9 < W1.length
      · rw [List.getElem?_append_left h1] at hx
        exact hD1.2 k9 x hx
      · rw [List.getElem?_append_right (by omega)] at hx
        have := hr _ _ hx
        exact hA _ (by have := hS.1; omega)
  have hAr : ArrOfT s cA (.array ty) := fun N9 z9 => by
    obtain ⟨-, k9, hk9, cm9, hkk9⟩ := (hO 0 0 0).1
    exact ⟨(fun q hq => by cases hq), k9, hk9, cm9, hkk9⟩
  have hK2 : va_K D cl (tys ++ [(cA, .array ty)]) s := ⟨hK.1, fun k9 x hx => by
    by_cases hl : k9 < tys.length
    · rw [List.getElem?_append_left hl] at hx
      exact hK.2 k9 x hx
    · rw [List.getElem?_append_right (by omega)] at hx
      have h0 : k9 - tys.length < 1 := (List.getElem?_eq_some_iff.mp hx).1
      rw [show k9 - tys.length = 0 by omega] at hx
      cases hx
      exact ⟨hAr, fA⟩⟩
  obtain ⟨t, a1, b1⟩ := kk H.size (fun i => H.size + 1 + i) cA F.heap (fun i j _ _ h => by have h9 : H.size + 1 + i = H.size + 1 + j := h; omega) hnl hK2 (by rw [← vr_rows hnm]; exact vr_lay hP2) (by rw [← vr_rows hnm]; exact vr_layD hD2) ⟨by rw [f1]; have := hS.1; omega, fun x h1 h2 => (hold x (Nat.lt_of_lt_of_le h1 hS.1)).trans (hS.2.1 x h1 h2), hS.2.2⟩ F rfl X'
  refine ⟨t, step t ?_, b1⟩
  have e : T.heap.size = H.size := by rw [hT]
  rw [e]
  exact a1
end VGM
/-! ===== END ===== -/

/-! ===== BEGIN exceptions that leave a method, and their catching by the caller (launches without stack traces) ===== -/
section VXA
/-! The laws vx_back, vx_callV, vx_callS, vx_callSW, vx_throw0, vx_throwS follow proofs of the library, with one case more: JvmDerived/Free/Laws.lean (Back.of_free), Shelf42/LK1.lean (callV, callS), Shelf/KitTraced.lean (throwNew0V, throwNewS). -/
/-- where a method has thrown q: the class by its name, the cell, what was written, the world -/
def vx_T (XC : String → State → State → Prop) (st : State) (q : Addr) (t : State) (mc ms : Nat) (free : Addr → Prop) : Prop :=
  ∃ (E : String) (ce : Cell) (L : List Loc), XC E st t ∧ t.heap[q]? = some ce ∧ ce.vm = .none ∧ st.vm.findClass E = some ce.cls ∧ st.WarmedH t.vm ∧ st.sameButNew ({ t with vm := st.vm } : State) L mc ms ∧ ∀ z ∈ L, free z.base
def vx_Q (Qc : Array Value → State → Outcome → State → Prop) (XC : String → State → State → Prop) (mc ms : Nat) (free : Addr → Prop) : Array Value → State → Outcome → State → Prop := fun a st o t =>
  (Qc a st o t ∧ ∃ L, FrameEnd st o t L mc ms ∧ ∀ q ∈ L, free q.base) ∨ ∃ q, o = .threw q ∧ vx_T XC st q t mc ms free
/-- a callee that returns or throws -/
def vx_Met (l : Launch) (y : MethodName) (ws : List Cond) (rm : Room) (Pc : Array Value → State → Prop) (Qc : Array Value → State → Outcome → State → Prop) (XC : String → State → State → Prop) (mc ms : Nat) (free : Addr → Prop) : Prop :=
  MetFree l y (headSpec ws rm) Pc (fun _ _ _ _ _ => True) (vx_Q Qc XC mc ms free)
def vx_Post (XC : String → State → State → Prop) (mc ms : Nat) (free : Addr → Prop) : Pt → Array Value → Addr → Pt → Prop := fun A a q B =>
  ∃ (g : JFrame) (mk : MethodId) (t : State) (L : List Loc) (E : String) (ce : Cell), B.U.heap = t.heap ∧ B.U.vm = t.vm ∧ XC E (A.U.calling g mk a) t ∧ t.heap[q]? = some ce ∧ ce.vm = .none ∧ A.U.vm.findClass E = some ce.cls ∧ B.locs = A.locs ++ L ∧ (∀ z ∈ L, free z.base) ∧ B.cells = A.cells + mc ∧ B.slots = A.slots + ms
def vx_Back (l : Launch) (R : Room) (p : Program) (e : Env) (below : List Frame) (s : State) (sargs : Array Value) (y : MethodName) (len W9 : Nat)
    (Pre : Pt → Array Value → Prop) (Post : Pt → Array Value → Option Value → Pt → Prop) (PostX : Pt → Array Value → Addr → Pt → Prop) : Prop :=
  ∀ (m : MethodId) (meth : Method) (c : Code) (A : Pt) (g : JFrame) (ig : Instr) (mk : MethodId) (a : Array Value),
    Stand p l e R s m sargs below meth c A.U A.locs A.cells A.slots → g.method = m → g.locals.size = c.maxLocals → decode c.code g.pc = .ok (ig, len) →
    2 * g.monitorRoom + (g.stack.map fun v => v.category).sum ≤ W9 → A.U.methodNamed? y = some mk → Pre A a →
    (∃ (v : Option Value) (B : Pt), Stand p l e R s m sargs below meth c B.U B.locs B.cells B.slots ∧ Post A a v B ∧
      Steps p.tables e below (doInvoke e (A.U.setTop g) [] mk a).1 (B.U.setTop { g with pc := g.pc + len, stack := v.toList ++ g.stack })) ∨
    (∃ (q : Addr) (B : Pt), Stand p l e R s m sargs below meth c B.U B.locs B.cells B.slots ∧ PostX A a q B ∧
      Steps p.tables e below (doInvoke e (A.U.setTop g) [] mk a).1 ((B.U.setTop g).pushFrame (.throwing q)))
section Payer
variable {l : Launch} {R : Room} {p : Program} {e : Env} {below : List Frame} {s : State} {sargs : Array Value} {y : MethodName} {len W9 : Nat}
theorem vx_back {ws : List Cond} {rm : Room} {Pc : Array Value → State → Prop} {Qc : Array Value → State → Outcome → State → Prop} {XC : String → State → State → Prop} {mc ms : Nat} {free : Addr → Prop} {bytes : ByteArray} {maxL : Nat} {ret : Option FieldType}
    (hM : vx_Met l y ws rm Pc Qc XC mc ms free) (hblind : FrameBlind Pc) (hrc : rm.cells = mc) (hrs : rm.slots = ms)
    (hframes : rm.frames + 1 ≤ R.frames) (hlocals : W9 + (maxL + 11) + rm.locals ≤ R.locals)
    (hws : ∀ w ∈ ws, ∀ a' U, s.WarmedH U.vm → w.before a' U = true) (hcode : Cond.code y bytes maxL ret ∈ ws) (hinit : ∀ a' U, s.WarmedH U.vm → (Cond.initialized y.cls).before a' U = true) :
    vx_Back l R p e below s sargs y len W9 (PreOf R mc ms Pc) (PostOf Qc mc ms free) (vx_Post XC mc ms free) := by
  intro m meth c A g ig mk a X hg hsize hdg hW hn hp
  have h1 : (headSpec ws rm).pre.before a A.U = true := atoms_intro fun w hw => hws w hw _ _ X.warmed
  have h2 : (Cond.code y bytes maxL ret).before a A.U = true := hws _ hcode _ _ X.warmed
  have h3 : (Cond.initialized y.cls).before a A.U = true := hinit _ _ X.warmed
  have h4 : A.cells + (headSpec ws rm).room.cells ≤ R.cells := by rw [show (headSpec ws rm).room.cells = mc from hrc]; exact hp.1
  have h5 : A.slots + (headSpec ws rm).room.slots ≤ R.slots := by rw [show (headSpec ws rm).room.slots = ms from hrs]; exact hp.2.1
  have hPc : Pc a (A.U.calling g mk a) := hblind _ _ _ _ hp.2.2
  obtain ⟨U, Ls, c0, s0⟩ := A
  dsimp only [Pt.U, Pt.locs, Pt.cells, Pt.slots] at h1 h2 h3 h4 h5 X hn hPc ⊢
  obtain ⟨methY, cY, hmY, hcY, -, hlY, -, -, -, -⟩ := Cond.code_spec hn h2
  obtain ⟨kY, hkY, -⟩ := className_of_methodNamed hn
  have hinitY : kY.init = .initialized := Cond.initialized_spec (findClass_of_methodNamed hn) hkY h3
  have h : At U g.method c below := by rw [hg]; exact X.here
  have hlocals9 : W9 + (maxL + 11) + (headSpec ws rm).room.locals ≤ R.locals := hlocals
  have happ : (headSpec ws rm).appliesLoose y e.platform (U.calling g mk a) = true :=
    Spec.appliesLoose_calling (g := g) h hdg hn hkY hinitY
      (X.room_calling (g := g) (R' := (headSpec ws rm).room) hsize hmY hcY hframes (by rw [hlY]; omega) h4 h5) h1
  obtain ⟨mid, hmid⟩ := h.above
  have hfr : (U.setTop g).frames = (.java g :: mid) ++ below := by rw [State.frames_setTop' g h.top, hmid]; rfl
  obtain ⟨o, s₂, hsteps, -, hend, hq⟩ := Steps.callFree hM p X.admits X.cas X.clock (acts := []) hfr happ hPc trivial
  have hq' : vx_Q Qc XC mc ms free a (U.calling g mk a) o s₂ := hq
  rw [State.frames_setTop' g h.top] at hend
  obtain ⟨g₀, hg0⟩ := Option.isSome_iff_exists.mp h.top
  obtain ⟨r, hr⟩ := State.topJava?_eq_some.mp hg0
  have hr' : (({ U with heap := s₂.heap, slotsUsed := s₂.slotsUsed } : State).setVm s₂.vm).frames = .java g₀ :: r := hr
  rcases hq' with ⟨hqc, L, hfe, hL⟩ | ⟨q, rfl, E, ce, L, hx, hce, hcv, hcl, hW₂, hsm, hL⟩
  · obtain ⟨⟨v, rfl⟩, hW₂, e2, q2, q3, q4, q5, q6⟩ := id hfe
    have e3 : s₂ = ({ (U.calling g mk a).setFrames s₂.frames with heap := s₂.heap, slotsUsed := s₂.slotsUsed } : State).setVm s₂.vm := by
      have : s₂ = ({ s₂ with vm := (U.calling g mk a).vm } : State).setVm s₂.vm := rfl
      rw [e2] at this
      exact this
    obtain ⟨c₂, i₂, len₂, hc₂, hd₂, hf₂⟩ := hend
    have hW' : U.WarmedH s₂.vm := hW₂
    have hcc : c₂ = c := by
      have h1 : s₂.code? g.method = U.code? g.method := by
        rw [State.code?_eq, State.code?_eq, hW'.alike.method?]
      exact Option.some.inj (hc₂.symm.trans (h1.trans h.code))
    subst hcc
    have hlen : len₂ = len := by rw [hdg] at hd₂; cases hd₂; rfl
    subst hlen
    have hs₂ : s₂ = (({ U with heap := s₂.heap, slotsUsed := s₂.slotsUsed } : State).setVm s₂.vm).setTop { g with pc := g.pc + len₂, stack := v.toList ++ g.stack } := by
      refine e3.trans ?_
      rw [hf₂, State.calling_eq h.top, State.setFrames_setFrames, State.setTop_of_frames _ hr', hr]
      rfl
    have hsame : U.sameButNew ({ U with heap := s₂.heap, slotsUsed := s₂.slotsUsed } : State) L mc ms := by
      refine ⟨?_, q2, q3, q4, q5, q6⟩
      obtain ⟨t, ht, -⟩ := State.frames_cons hr
      show ({ U with heap := s₂.heap, slotsUsed := s₂.slotsUsed } : State) = { U.setFrames U.frames with heap := s₂.heap, slotsUsed := s₂.slotsUsed }
      rw [State.setFrames_self ht]
    subst hg
    refine Or.inl ⟨v, ⟨(({ U with heap := s₂.heap, slotsUsed := s₂.slotsUsed } : State).setVm s₂.vm), Ls ++ L, c0 + mc, s0 + ms⟩,
      ⟨X.admits, X.cas, X.clock, X.frames, X.room, X.hears, X.method, X.code, (X.here.setHeapUsed s₂.heap s₂.slotsUsed).setVm hW'.alike, X.tail, State.WarmedH.trans X.warmed hW', X.limits, X.bytes, X.same.trans (hsame.setVm s.vm)⟩,
      ⟨g, mk, s₂, L, rfl, rfl, hqc, rfl, hL, rfl, rfl⟩, ?_⟩
    show Steps p.tables e below _ ((({ U with heap := s₂.heap, slotsUsed := s₂.slotsUsed } : State).setVm s₂.vm).setTop { g with pc := g.pc + len₂, stack := v.toList ++ g.stack })
    rw [← hs₂]
    exact hsteps
  · obtain ⟨e2, q2, q3, q4, q5, q6⟩ := id hsm
    have e3 : s₂ = ({ (U.calling g mk a).setFrames s₂.frames with heap := s₂.heap, slotsUsed := s₂.slotsUsed } : State).setVm s₂.vm := by
      have : s₂ = ({ s₂ with vm := (U.calling g mk a).vm } : State).setVm s₂.vm := rfl
      rw [e2] at this
      exact this
    have hf₂ : s₂.frames = .throwing q :: .java g :: U.frames.tail := hend
    have hW' : U.WarmedH s₂.vm := hW₂
    have hs₂ : s₂ = ((({ U with heap := s₂.heap, slotsUsed := s₂.slotsUsed } : State).setVm s₂.vm).setTop g).pushFrame (.throwing q) := by
      refine e3.trans ?_
      rw [hf₂, State.calling_eq h.top, State.setFrames_setFrames, State.pushFrame, State.frames_setTop _ hr', State.setTop_of_frames _ hr', State.setFrames_setFrames, hr]
      rfl
    have hsame : U.sameButNew ({ U with heap := s₂.heap, slotsUsed := s₂.slotsUsed } : State) L mc ms := by
      refine ⟨?_, q2, q3, q4, q5, q6⟩
      obtain ⟨t, ht, -⟩ := State.frames_cons hr
      show ({ U with heap := s₂.heap, slotsUsed := s₂.slotsUsed } : State) = { U.setFrames U.frames with heap := s₂.heap, slotsUsed := s₂.slotsUsed }
      rw [State.setFrames_self ht]
    subst hg
    refine Or.inr ⟨q, ⟨(({ U with heap := s₂.heap, slotsUsed := s₂.slotsUsed } : State).setVm s₂.vm), Ls ++ L, c0 + mc, s0 + ms⟩,
      ⟨X.admits, X.cas, X.clock, X.frames, X.room, X.hears, X.method, X.code, (X.here.setHeapUsed s₂.heap s₂.slotsUsed).setVm hW'.alike, X.tail, State.WarmedH.trans X.warmed hW', X.limits, X.bytes, X.same.trans (hsame.setVm s.vm)⟩,
      ⟨g, mk, s₂, L, E, ce, rfl, rfl, hx, hce, hcv, hcl, rfl, hL, rfl, rfl⟩, ?_⟩
    show Steps p.tables e below _ (((({ U with heap := s₂.heap, slotsUsed := s₂.slotsUsed } : State).setVm s₂.vm).setTop g).pushFrame (.throwing q))
    rw [← hs₂]
    exact hsteps
end Payer
section Calls
variable {p : Program} {l : Launch} {e : Env} {R : Room} {s : State} {m : MethodId} {args : Array Value} {below : List Frame} {meth : Method} {c : Code} {T : State} {locs : List Loc} {cells slots : Nat}
theorem vx_callV (X : Stand p l e R s m args below meth c T locs cells slots) (hexec : p.tables.exec = Jvm.exec) {own C : String} {index : Nat} {y : MethodName} {bytes : ByteArray} {maxL : Nat} {ret : Option FieldType}
    (hown : s.vm.findClass own = some m.cls) (hlink : (Cond.methodLink own index y).before args s = true) (hinst : (Cond.instanceMethod y).before args s = true) (hsel : (Cond.selects C y y).before args s = true)
    (hcode : (Cond.code y bytes maxL ret).before args s = true) (hy : y.cls ≠ "java/lang/invoke/MethodHandle" ∧ y.cls ≠ "java/lang/invoke/VarHandle")
    {W9 : Nat} {Pre : Pt → Array Value → Prop} {Post : Pt → Array Value → Option Value → Pt → Prop} {PostX : Pt → Array Value → Addr → Pt → Prop} (hK : vx_Back l R p e below s args y 3 W9 Pre Post PostX)
    {b : Addr} {cellB : Cell} (hcell : T.heap[b]? = some cellB) (hobj : cellB.vm.isStatics = false) (hcls : s.vm.findClass C = some cellB.cls)
    {g : JFrame} (hg : g.method = m) (hsize : g.locals.size = c.maxLocals) {argsL rest : List Value} (hlen : ∀ sig, parseMethodDescriptor y.desc = some sig → argsL.length = sig.parameters.length)
    (hstack : g.stack = argsL.reverse ++ .ref b :: rest) (hW : 2 * g.monitorRoom + (rest.map fun v => v.category).sum ≤ W9) (hdg : decode c.code g.pc = .ok (.invokevirtual index, 3))
    (hpre : ∀ vm₁, s.WarmedH vm₁ → Pre ⟨T.setVm vm₁, locs, cells, slots⟩ (Value.ref b :: argsL).toArray) :
    (∃ (v : Option Value) (vm₁ : Vm) (B : Pt), s.WarmedH vm₁ ∧ Stand p l e R s m args below meth c B.U B.locs B.cells B.slots ∧ Post ⟨T.setVm vm₁, locs, cells, slots⟩ (Value.ref b :: argsL).toArray v B ∧
      ∀ target, Steps p.tables e below (B.U.setTop { g with pc := g.pc + 3, stack := v.toList ++ rest }) target → Steps p.tables e below (T.setTop g) target) ∨
    (∃ (q : Addr) (vm₁ : Vm) (B : Pt), s.WarmedH vm₁ ∧ Stand p l e R s m args below meth c B.U B.locs B.cells B.slots ∧ PostX ⟨T.setVm vm₁, locs, cells, slots⟩ (Value.ref b :: argsL).toArray q B ∧
      Steps p.tables e below (T.setTop g) ((B.U.setTop { g with stack := rest }).pushFrame (.throwing q))) := by
  obtain ⟨mk, methM, hnamed, hmethM, hstM, habM⟩ := Cond.instanceMethod_spec hinst
  obtain ⟨methM', cM, hmethM', -, -, -, -, -, -, hsigM⟩ := Cond.code_spec hnamed hcode
  cases hmethM.symm.trans hmethM'
  obtain ⟨c2, r2, m2, q1, q2, q3, q4, kP, hkP, hkPi⟩ := Cond.selects_spec hsel
  cases hcls.symm.trans q1
  cases (State.methodFound?_of_named hnamed hy).symm.trans q2
  cases hnamed.symm.trans q3
  have hselP : selectMethod e.platform s.vm cellB.cls mk = .method mk := by rw [Launch.admits_selectMethod X.admits]; exact q4
  obtain ⟨vm₁, X₁, hstep₁⟩ := X.invokevirtual hexec hown hlink hnamed hmethM hstM hkP hkPi hy (a := b) (cell := cellB) hcell
    (fun z h => by rw [h] at hobj; cases hobj) hselP hmethM habM hkP hkPi (g := g) hg (argsL := argsL) (rest := rest) (hlen _ hsigM) hstack hdg
  rcases hK m meth c ⟨T.setVm vm₁, locs, cells, slots⟩ { g with stack := rest } (.invokevirtual index) mk (Value.ref b :: argsL).toArray X₁ hg hsize hdg hW (X₁.named hnamed) (hpre vm₁ X₁.warmed) with ⟨v, B, X', hpost, hsteps⟩ | ⟨q, B, X', hpost, hsteps⟩
  · exact Or.inl ⟨v, vm₁, B, X₁.warmed, X', hpost, fun target h => hstep₁ _ fun acts => by rw [doInvoke_state]; exact hsteps.trans h⟩
  · exact Or.inr ⟨q, vm₁, B, X₁.warmed, X', hpost, hstep₁ _ fun acts => by rw [doInvoke_state]; exact hsteps⟩
theorem vx_callS (X : Stand p l e R s m args below meth c T locs cells slots) (hexec : p.tables.exec = Jvm.exec) {own : String} {index : Nat} {y : MethodName} {bytes : ByteArray} {maxL : Nat} {ret : Option FieldType}
    (hown : s.vm.findClass own = some m.cls) (hlink : (Cond.methodLink own index y).before args s = true) (hstat : (Cond.static y).before args s = true) (hinit : (Cond.initialized y.cls).before args s = true)
    (hcode : (Cond.code y bytes maxL ret).before args s = true) (hy : y.cls ≠ "java/lang/invoke/MethodHandle" ∧ y.cls ≠ "java/lang/invoke/VarHandle")
    {W9 : Nat} {Pre : Pt → Array Value → Prop} {Post : Pt → Array Value → Option Value → Pt → Prop} {PostX : Pt → Array Value → Addr → Pt → Prop} (hK : vx_Back l R p e below s args y 3 W9 Pre Post PostX)
    {g : JFrame} (hg : g.method = m) (hsize : g.locals.size = c.maxLocals) {argsL rest : List Value} (hlen : ∀ sig, parseMethodDescriptor y.desc = some sig → argsL.length = sig.parameters.length)
    (hstack : g.stack = argsL.reverse ++ rest) (hW : 2 * g.monitorRoom + (rest.map fun v => v.category).sum ≤ W9) (hdg : decode c.code g.pc = .ok (.invokestatic index, 3))
    (hpre : ∀ vm₁, s.WarmedH vm₁ → Pre ⟨T.setVm vm₁, locs, cells, slots⟩ argsL.toArray) :
    (∃ (v : Option Value) (vm₁ : Vm) (B : Pt), s.WarmedH vm₁ ∧ Stand p l e R s m args below meth c B.U B.locs B.cells B.slots ∧ Post ⟨T.setVm vm₁, locs, cells, slots⟩ argsL.toArray v B ∧
      ∀ target, Steps p.tables e below (B.U.setTop { g with pc := g.pc + 3, stack := v.toList ++ rest }) target → Steps p.tables e below (T.setTop g) target) ∨
    (∃ (q : Addr) (vm₁ : Vm) (B : Pt), s.WarmedH vm₁ ∧ Stand p l e R s m args below meth c B.U B.locs B.cells B.slots ∧ PostX ⟨T.setVm vm₁, locs, cells, slots⟩ argsL.toArray q B ∧
      Steps p.tables e below (T.setTop g) ((B.U.setTop { g with stack := rest }).pushFrame (.throwing q))) := by
  obtain ⟨mk, hnamed⟩ := Cond.code_named hcode
  obtain ⟨methM, cM, hmethM, -, -, -, -, -, -, hsigM⟩ := Cond.code_spec hnamed hcode
  have hstatic : methM.isStatic = true := Cond.static_spec hnamed hmethM hstat
  obtain ⟨kP, hkP, -⟩ := className_of_methodNamed hnamed
  have hinitP : kP.init = .initialized := Cond.initialized_spec (findClass_of_methodNamed hnamed) hkP hinit
  obtain ⟨vm₁, X₁, hstep₁⟩ := X.invokestatic hexec hown hlink hnamed hmethM hstatic hkP hinitP hy (g := g) hg (argsL := argsL) (rest := rest) (hlen _ hsigM) hstack hdg
  rcases hK m meth c ⟨T.setVm vm₁, locs, cells, slots⟩ { g with stack := rest } (.invokestatic index) mk argsL.toArray X₁ hg hsize hdg hW (X₁.named hnamed) (hpre vm₁ X₁.warmed) with ⟨v, B, X', hpost, hsteps⟩ | ⟨q, B, X', hpost, hsteps⟩
  · exact Or.inl ⟨v, vm₁, B, X₁.warmed, X', hpost, fun target h => hstep₁ _ fun acts => by rw [doInvoke_state]; exact hsteps.trans h⟩
  · exact Or.inr ⟨q, vm₁, B, X₁.warmed, X', hpost, hstep₁ _ fun acts => by rw [doInvoke_state]; exact hsteps⟩
end Calls
theorem vx_cls {s : State} {T : State} {vm₁ : Vm} {E : String} {k : ClassId} (hW : s.WarmedH vm₁) (h : (T.setVm vm₁).vm.findClass E = some k) : s.vm.findClass E = some k := by
  have h1 : vm₁.findClass E = some k := h
  rw [hW.alike.findClass] at h1
  exact h1
/-- the method's frame g, with q thrown over it -/
def vx_W (p : Program) (l : Launch) (e : Env) (R : Room) (s : State) (m : MethodId) (args : Array Value) (below : List Frame) (meth : Method) (c : Code) (H : Heap) (locs : List Loc) (cells slots : Nat) (Q : State → Prop) (g : JFrame) (q : Addr) : Prop :=
  ∀ T : State, T.heap = H → Stand p l e R s m args below meth c T locs cells slots → ∃ t, Steps p.tables e below ((T.setTop g).pushFrame (.throwing q)) t ∧ Q t
def vx_Run (p : Program) (l : Launch) (e : Env) (R : Room) (s : State) (m : MethodId) (args : Array Value) (below : List Frame) (meth : Method) (c : Code) (H : Heap) (locs : List Loc) (cells slots mc ms : Nat) (g : JFrame) (rest : List Value) (Qa : State → Outcome → State → Prop) (XC : String → State → State → Prop) (free : Addr → Prop) : Prop :=
  ∀ T : State, T.heap = H → Stand p l e R s m args below meth c T locs cells slots →
    (∃ (v : Option Value) (st₀ t T' : State) (L : List Loc), st₀.heap = H ∧ Stand p l e R s m args below meth c T' (locs ++ L) (cells + mc) (slots + ms) ∧ (∀ q ∈ L, free q.base) ∧ T'.heap = t.heap ∧ T'.vm = t.vm ∧ Qa st₀ (.returned v) t ∧
      Goes p e below T g T' { g with pc := g.pc + 3, stack := v.toList ++ rest }) ∨
    (∃ (q : Addr) (st₀ t T' : State) (L : List Loc) (E : String) (ce : Cell), st₀.heap = H ∧ Stand p l e R s m args below meth c T' (locs ++ L) (cells + mc) (slots + ms) ∧ (∀ z ∈ L, free z.base) ∧ T'.heap = t.heap ∧ T'.vm = t.vm ∧ XC E st₀ t ∧ t.heap[q]? = some ce ∧ ce.vm = .none ∧ s.vm.findClass E = some ce.cls ∧
      Steps p.tables e below (T.setTop g) ((T'.setTop { g with stack := rest }).pushFrame (.throwing q)))
def vx_X {S : Type} (px : S → Prop) (B : String → S → State → Prop) (A : Nat → Prop) : String → State → State → Prop := fun E st t => ∃ u : S, px u ∧ B E u t ∧ va_F A st t
section Runs
variable {p : Program} {l : Launch} {e : Env} {R : Room} {s : State} {m : MethodId} {args : Array Value} {below : List Frame} {meth : Method} {c : Code} {H : Heap} {locs : List Loc} {cells slots : Nat}
variable {y : MethodName} {bytes cc : ByteArray} {maxL nL mc ms n index : Nat} {ret : Option FieldType} {ws : List Cond} {rm : Room} {Pc : Array Value → State → Prop} {Qc : Array Value → State → Outcome → State → Prop} {XC : String → State → State → Prop} {free : Addr → Prop} {Ts : List Cond} {own C : String} {b : Addr} {As rest : List Value} {g : JFrame}
theorem vx_callBack (cb : CallB R s args own index y bytes maxL ret ws rm mc ms n) (hM : vx_Met l y ws rm Pc Qc XC mc ms free) (hbl : FrameBlind Pc) : vx_Back l R p e below s args y 3 8 (PreOf R mc ms Pc) (PostOf Qc mc ms free) (vx_Post XC mc ms free) := by
  obtain ⟨hrc, hrs, hfr, hlo, hws, hcw, -, hini, -⟩ := cb
  exact vx_back (bytes := bytes) (maxL := maxL) (ret := ret) hM hbl hrc hrs hfr hlo hws hcw (fun a' U hW => word_at hW (Or.inl (by first | rfl | simp [Cond.onTables, Cond.keeps, Cond.steady])) hini)
theorem vx_runV (S : CallFix p m c cc nL s args Ts own) (hM : vx_Met l y ws rm Pc Qc XC mc ms free) (cw : CallW R s args own C index y bytes maxL ret ws rm mc ms n) (hp : PreV s H C b Pc As)
    (hg : g.method = m) (hn : As.length = n) (hsize : g.locals.size = nL) (hstack : g.stack = As.reverse ++ .ref b :: rest) (hW : 2 * g.monitorRoom + (rest.map fun v => v.category).sum ≤ 8) (hdg : decode cc g.pc = .ok (.invokevirtual index, 3)) (hf : cells + mc ≤ R.cells ∧ slots + ms ≤ R.slots) :
    vx_Run p l e R s m args below meth c H locs cells slots mc ms g rest (Qc (Value.ref b :: As).toArray) XC free := by
  have hK : vx_Back l R p e below s args y 3 8 (PreOf R mc ms Pc) (PostOf Qc mc ms free) (vx_Post XC mc ms free) := vx_callBack cw.1 hM hp.1
  obtain ⟨⟨-, -, -, -, -, -, hcode, -, hy, hlen, hl⟩, hin, hse⟩ := cw
  obtain ⟨hx, hb, hml, ho, -⟩ := S
  obtain ⟨-, ⟨cellB, hcB, hoB, hclB⟩, hPc⟩ := hp
  intro T hT X
  rcases vx_callV X hx (C := C) (bytes := bytes) (maxL := maxL) (ret := ret) ho hl hin hse hcode hy hK (by rw [hT]; exact hcB) hoB hclB hg (hsize.trans hml.symm) (argsL := As) (rest := rest) (fun sig h => hn.trans (hlen sig h)) hstack hW (by rw [hb]; exact hdg)
    (fun vm₁ hW₁ => ⟨hf.1, hf.2, hPc (T.setVm vm₁) hT hW₁⟩) with ⟨v, vm₁, ⟨U', l2, c2, s2⟩, hW₁, X', ⟨g', mk, t, L, e1, e2, hq, h1, hL, h2, h3⟩, st⟩ | ⟨q, vm₁, ⟨U', l2, c2, s2⟩, hW₁, X', ⟨g', mk, t, L, E, ce, e1, e2, hq, hce, hcv, hcl, h1, hL, h2, h3⟩, st⟩
  · dsimp only [Pt.U, Pt.locs, Pt.cells, Pt.slots] at X' e1 e2 h1 h2 h3 st
    subst h1; subst h2; subst h3
    exact Or.inl ⟨v, (T.setVm vm₁).calling g' mk (Value.ref b :: As).toArray, t, U', L, hT, X', hL, e1, e2, hq, st⟩
  · dsimp only [Pt.U, Pt.locs, Pt.cells, Pt.slots] at X' e1 e2 h1 h2 h3 st hcl
    subst h1; subst h2; subst h3
    exact Or.inr ⟨q, (T.setVm vm₁).calling g' mk (Value.ref b :: As).toArray, t, U', L, E, ce, hT, X', hL, e1, e2, hq, hce, hcv, vx_cls hW₁ hcl, st⟩
theorem vx_runS (S : CallFix p m c cc nL s args Ts own) (hM : vx_Met l y ws rm Pc Qc XC mc ms free) (cw : CallB R s args own index y bytes maxL ret ws rm mc ms n ∧ (Cond.static y).before args s = true) (hp : PreS s H Pc As)
    (hg : g.method = m) (hn : As.length = n) (hsize : g.locals.size = nL) (hstack : g.stack = As.reverse ++ rest) (hW : 2 * g.monitorRoom + (rest.map fun v => v.category).sum ≤ 8) (hdg : decode cc g.pc = .ok (.invokestatic index, 3)) (hf : cells + mc ≤ R.cells ∧ slots + ms ≤ R.slots) :
    vx_Run p l e R s m args below meth c H locs cells slots mc ms g rest (Qc As.toArray) XC free := by
  have hK : vx_Back l R p e below s args y 3 8 (PreOf R mc ms Pc) (PostOf Qc mc ms free) (vx_Post XC mc ms free) := vx_callBack cw.1 hM hp.1
  obtain ⟨⟨-, -, -, -, -, -, hcode, hini, hy, hlen, hl⟩, hstt⟩ := cw
  obtain ⟨hx, hb, hml, ho, -⟩ := S
  intro T hT X
  rcases vx_callS X hx (bytes := bytes) (maxL := maxL) (ret := ret) ho hl hstt hini hcode hy hK hg (hsize.trans hml.symm) (argsL := As) (rest := rest) (fun sig h => hn.trans (hlen sig h)) hstack hW (by rw [hb]; exact hdg)
    (fun vm₁ hW₁ => ⟨hf.1, hf.2, hp.2 (T.setVm vm₁) hT hW₁⟩) with ⟨v, vm₁, ⟨U', l2, c2, s2⟩, hW₁, X', ⟨g', mk, t, L, e1, e2, hq, h1, hL, h2, h3⟩, st⟩ | ⟨q, vm₁, ⟨U', l2, c2, s2⟩, hW₁, X', ⟨g', mk, t, L, E, ce, e1, e2, hq, hce, hcv, hcl, h1, hL, h2, h3⟩, st⟩
  · dsimp only [Pt.U, Pt.locs, Pt.cells, Pt.slots] at X' e1 e2 h1 h2 h3 st
    subst h1; subst h2; subst h3
    exact Or.inl ⟨v, (T.setVm vm₁).calling g' mk As.toArray, t, U', L, hT, X', hL, e1, e2, hq, st⟩
  · dsimp only [Pt.U, Pt.locs, Pt.cells, Pt.slots] at X' e1 e2 h1 h2 h3 st hcl
    subst h1; subst h2; subst h3
    exact Or.inr ⟨q, (T.setVm vm₁).calling g' mk As.toArray, t, U', L, E, ce, hT, X', hL, e1, e2, hq, hce, hcv, vx_cls hW₁ hcl, st⟩
end Runs
section Rows
variable {p : Program} {l : Launch} {e : Env} {R : Room} {s : State} {m : MethodId} {args : Array Value} {below : List Frame} {meth : Method} {c : Code} {H : Heap} {locs : List Loc} {cells slots : Nat} {Q : State → Prop}
variable {mc ms : Nat} {free : Addr → Prop} {A0 A1 : Nat → Prop} {H0 : Heap} {a : Array Value} {pc : Nat} {ls : Array Slot} {st0 rest : List Value}
theorem vx_keep {st₀ t T' : State} {L : List Loc} (h0 : st₀.heap = H) (e1 : T'.heap = t.heap) (hS : va_S A0 H0 H locs) (hA : ∀ q, q < H.size → A1 q → A0 q) (hf : ∀ q, free q → A0 q) (hL : ∀ q ∈ L, free q.base) (hF : va_F A1 st₀ t) :
    H.size ≤ T'.heap.size ∧ (∀ q : Nat, q < H.size → ¬ A1 q → T'.heap[q]? = H[q]?) ∧ va_S A0 H0 T'.heap (locs ++ L) := by
  obtain ⟨hz, hk⟩ := hF
  rw [h0] at hz hk
  exact ⟨by rw [e1]; exact hz, fun q h1 h2 => by rw [e1]; exact hk q h1 h2,
    ⟨Nat.le_trans hS.1 (by rw [e1]; exact hz), fun q h1 h2 => by rw [e1, hk q (Nat.lt_of_lt_of_le h1 hS.1) (fun z => h2 (hA q (Nat.lt_of_lt_of_le h1 hS.1) z))]; exact hS.2.1 q h1 h2, fun q hq => by
      rcases List.mem_append.mp hq with h | h
      · exact hS.2.2 q h
      · exact hf _ (hL q h)⟩⟩
theorem vx_calli {S SX : Type} {post : Int32 → S → Prop} {px : SX → Prop} {B : S → State → Prop} {BX : String → SX → State → Prop} {AX : Nat → Prop} (hr : vx_Run p l e R s m args below meth c H locs cells slots mc ms (F0 m pc ls st0) rest (va_Qi post B A1 a) (vx_X px BX AX) free) (hS : va_S A0 H0 H locs) (hA : ∀ q, q < H.size → A1 q → A0 q) (hf : ∀ q, free q → A0 q) (hAX : ∀ q, q < H.size → AX q → A0 q)
    (kx : ∀ (E : String) (ce : Cell) (q9 : Addr) (u : SX) (t : State) (H1 : Heap) (locs1 : List Loc), t.heap = H1 → s.vm.Alike t.vm → px u → BX E u t → H.size ≤ H1.size → (∀ q : Nat, q < H.size → ¬ AX q → H1[q]? = H[q]?) → va_S A0 H0 H1 locs1 → H1[q9]? = some ce → ce.vm = .none → s.vm.findClass E = some ce.cls → vx_W p l e R s m args below meth c H1 locs1 (cells + mc) (slots + ms) Q (F0 m pc ls rest) q9)
    (kk : ∀ (r : Int32) (u : S) (t : State) (H1 : Heap) (locs1 : List Loc), t.heap = H1 → s.vm.Alike t.vm → post r u → B u t → H.size ≤ H1.size → (∀ q : Nat, q < H.size → ¬ A1 q → H1[q]? = H[q]?) → va_S A0 H0 H1 locs1 → W p l e R s m args below meth c H1 locs1 (cells + mc) (slots + ms) Q (F0 m (pc + 3) ls (.int r :: rest))) : W p l e R s m args below meth c H locs cells slots Q (F0 m pc ls st0) := by
  intro T hT X
  rcases hr T hT X with ⟨v, st₀, t, T', L, h0, X', hL, e1, e2, ⟨⟨r, u, hv, hp, hb⟩, hF⟩, st⟩ | ⟨q, st₀, t, T', L, E, ce, h0, X', hL, e1, e2, ⟨u, hp, hb, hF⟩, hce, hcv, hcl, st⟩
  · cases hv
    obtain ⟨k1, k2, k3⟩ := vx_keep h0 e1 hS hA hf hL hF
    obtain ⟨t2, a1, b1⟩ := kk r u t T'.heap (locs ++ L) e1.symm (by rw [← e2]; exact X'.warmed.alike) hp hb k1 k2 k3 T' rfl X'
    exact ⟨t2, st t2 a1, b1⟩
  · obtain ⟨k1, k2, k3⟩ := vx_keep h0 e1 hS hAX hf hL hF
    obtain ⟨t2, a1, b1⟩ := kx E ce q u t T'.heap (locs ++ L) e1.symm (by rw [← e2]; exact X'.warmed.alike) hp hb k1 k2 k3 (by rw [e1]; exact hce) hcv hcl T' rfl X'
    exact ⟨t2, st.trans a1, b1⟩
theorem vx_calll {S SX : Type} {post : Int64 → S → Prop} {px : SX → Prop} {B : S → State → Prop} {BX : String → SX → State → Prop} {AX : Nat → Prop} (hr : vx_Run p l e R s m args below meth c H locs cells slots mc ms (F0 m pc ls st0) rest (va_Ql post B A1 a) (vx_X px BX AX) free) (hS : va_S A0 H0 H locs) (hA : ∀ q, q < H.size → A1 q → A0 q) (hf : ∀ q, free q → A0 q) (hAX : ∀ q, q < H.size → AX q → A0 q)
    (kx : ∀ (E : String) (ce : Cell) (q9 : Addr) (u : SX) (t : State) (H1 : Heap) (locs1 : List Loc), t.heap = H1 → s.vm.Alike t.vm → px u → BX E u t → H.size ≤ H1.size → (∀ q : Nat, q < H.size → ¬ AX q → H1[q]? = H[q]?) → va_S A0 H0 H1 locs1 → H1[q9]? = some ce → ce.vm = .none → s.vm.findClass E = some ce.cls → vx_W p l e R s m args below meth c H1 locs1 (cells + mc) (slots + ms) Q (F0 m pc ls rest) q9)
    (kk : ∀ (r : Int64) (u : S) (t : State) (H1 : Heap) (locs1 : List Loc), t.heap = H1 → s.vm.Alike t.vm → post r u → B u t → H.size ≤ H1.size → (∀ q : Nat, q < H.size → ¬ A1 q → H1[q]? = H[q]?) → va_S A0 H0 H1 locs1 → W p l e R s m args below meth c H1 locs1 (cells + mc) (slots + ms) Q (F0 m (pc + 3) ls (.long r :: rest))) : W p l e R s m args below meth c H locs cells slots Q (F0 m pc ls st0) := by
  intro T hT X
  rcases hr T hT X with ⟨v, st₀, t, T', L, h0, X', hL, e1, e2, ⟨⟨r, u, hv, hp, hb⟩, hF⟩, st⟩ | ⟨q, st₀, t, T', L, E, ce, h0, X', hL, e1, e2, ⟨u, hp, hb, hF⟩, hce, hcv, hcl, st⟩
  · cases hv
    obtain ⟨k1, k2, k3⟩ := vx_keep h0 e1 hS hA hf hL hF
    obtain ⟨t2, a1, b1⟩ := kk r u t T'.heap (locs ++ L) e1.symm (by rw [← e2]; exact X'.warmed.alike) hp hb k1 k2 k3 T' rfl X'
    exact ⟨t2, st t2 a1, b1⟩
  · obtain ⟨k1, k2, k3⟩ := vx_keep h0 e1 hS hAX hf hL hF
    obtain ⟨t2, a1, b1⟩ := kx E ce q u t T'.heap (locs ++ L) e1.symm (by rw [← e2]; exact X'.warmed.alike) hp hb k1 k2 k3 (by rw [e1]; exact hce) hcv hcl T' rfl X'
    exact ⟨t2, st.trans a1, b1⟩
theorem vx_callf {S SX : Type} {post : UInt32 → S → Prop} {px : SX → Prop} {B : S → State → Prop} {BX : String → SX → State → Prop} {AX : Nat → Prop} (hr : vx_Run p l e R s m args below meth c H locs cells slots mc ms (F0 m pc ls st0) rest (va_Qf post B A1 a) (vx_X px BX AX) free) (hS : va_S A0 H0 H locs) (hA : ∀ q, q < H.size → A1 q → A0 q) (hf : ∀ q, free q → A0 q) (hAX : ∀ q, q < H.size → AX q → A0 q)
    (kx : ∀ (E : String) (ce : Cell) (q9 : Addr) (u : SX) (t : State) (H1 : Heap) (locs1 : List Loc), t.heap = H1 → s.vm.Alike t.vm → px u → BX E u t → H.size ≤ H1.size → (∀ q : Nat, q < H.size → ¬ AX q → H1[q]? = H[q]?) → va_S A0 H0 H1 locs1 → H1[q9]? = some ce → ce.vm = .none → s.vm.findClass E = some ce.cls → vx_W p l e R s m args below meth c H1 locs1 (cells + mc) (slots + ms) Q (F0 m pc ls rest) q9)
    (kk : ∀ (r : UInt32) (u : S) (t : State) (H1 : Heap) (locs1 : List Loc), t.heap = H1 → s.vm.Alike t.vm → post r u → B u t → H.size ≤ H1.size → (∀ q : Nat, q < H.size → ¬ A1 q → H1[q]? = H[q]?) → va_S A0 H0 H1 locs1 → W p l e R s m args below meth c H1 locs1 (cells + mc) (slots + ms) Q (F0 m (pc + 3) ls (.float r :: rest))) : W p l e R s m args below meth c H locs cells slots Q (F0 m pc ls st0) := by
  intro T hT X
  rcases hr T hT X with ⟨v, st₀, t, T', L, h0, X', hL, e1, e2, ⟨⟨r, u, hv, hp, hb⟩, hF⟩, st⟩ | ⟨q, st₀, t, T', L, E, ce, h0, X', hL, e1, e2, ⟨u, hp, hb, hF⟩, hce, hcv, hcl, st⟩
  · cases hv
    obtain ⟨k1, k2, k3⟩ := vx_keep h0 e1 hS hA hf hL hF
    obtain ⟨t2, a1, b1⟩ := kk r u t T'.heap (locs ++ L) e1.symm (by rw [← e2]; exact X'.warmed.alike) hp hb k1 k2 k3 T' rfl X'
    exact ⟨t2, st t2 a1, b1⟩
  · obtain ⟨k1, k2, k3⟩ := vx_keep h0 e1 hS hAX hf hL hF
    obtain ⟨t2, a1, b1⟩ := kx E ce q u t T'.heap (locs ++ L) e1.symm (by rw [← e2]; exact X'.warmed.alike) hp hb k1 k2 k3 (by rw [e1]; exact hce) hcv hcl T' rfl X'
    exact ⟨t2, st.trans a1, b1⟩
theorem vx_calld {S SX : Type} {post : UInt64 → S → Prop} {px : SX → Prop} {B : S → State → Prop} {BX : String → SX → State → Prop} {AX : Nat → Prop} (hr : vx_Run p l e R s m args below meth c H locs cells slots mc ms (F0 m pc ls st0) rest (va_Qd post B A1 a) (vx_X px BX AX) free) (hS : va_S A0 H0 H locs) (hA : ∀ q, q < H.size → A1 q → A0 q) (hf : ∀ q, free q → A0 q) (hAX : ∀ q, q < H.size → AX q → A0 q)
    (kx : ∀ (E : String) (ce : Cell) (q9 : Addr) (u : SX) (t : State) (H1 : Heap) (locs1 : List Loc), t.heap = H1 → s.vm.Alike t.vm → px u → BX E u t → H.size ≤ H1.size → (∀ q : Nat, q < H.size → ¬ AX q → H1[q]? = H[q]?) → va_S A0 H0 H1 locs1 → H1[q9]? = some ce → ce.vm = .none → s.vm.findClass E = some ce.cls → vx_W p l e R s m args below meth c H1 locs1 (cells + mc) (slots + ms) Q (F0 m pc ls rest) q9)
    (kk : ∀ (r : UInt64) (u : S) (t : State) (H1 : Heap) (locs1 : List Loc), t.heap = H1 → s.vm.Alike t.vm → post r u → B u t → H.size ≤ H1.size → (∀ q : Nat, q < H.size → ¬ A1 q → H1[q]? = H[q]?) → va_S A0 H0 H1 locs1 → W p l e R s m args below meth c H1 locs1 (cells + mc) (slots + ms) Q (F0 m (pc + 3) ls (.double r :: rest))) : W p l e R s m args below meth c H locs cells slots Q (F0 m pc ls st0) := by
  intro T hT X
  rcases hr T hT X with ⟨v, st₀, t, T', L, h0, X', hL, e1, e2, ⟨⟨r, u, hv, hp, hb⟩, hF⟩, st⟩ | ⟨q, st₀, t, T', L, E, ce, h0, X', hL, e1, e2, ⟨u, hp, hb, hF⟩, hce, hcv, hcl, st⟩
  · cases hv
    obtain ⟨k1, k2, k3⟩ := vx_keep h0 e1 hS hA hf hL hF
    obtain ⟨t2, a1, b1⟩ := kk r u t T'.heap (locs ++ L) e1.symm (by rw [← e2]; exact X'.warmed.alike) hp hb k1 k2 k3 T' rfl X'
    exact ⟨t2, st t2 a1, b1⟩
  · obtain ⟨k1, k2, k3⟩ := vx_keep h0 e1 hS hAX hf hL hF
    obtain ⟨t2, a1, b1⟩ := kx E ce q u t T'.heap (locs ++ L) e1.symm (by rw [← e2]; exact X'.warmed.alike) hp hb k1 k2 k3 (by rw [e1]; exact hce) hcv hcl T' rfl X'
    exact ⟨t2, st.trans a1, b1⟩
theorem vx_callv {S SX : Type} {post : S → Prop} {px : SX → Prop} {B : S → State → Prop} {BX : String → SX → State → Prop} {AX : Nat → Prop} (hr : vx_Run p l e R s m args below meth c H locs cells slots mc ms (F0 m pc ls st0) rest (va_Qv post B A1 a) (vx_X px BX AX) free) (hS : va_S A0 H0 H locs) (hA : ∀ q, q < H.size → A1 q → A0 q) (hf : ∀ q, free q → A0 q) (hAX : ∀ q, q < H.size → AX q → A0 q)
    (kx : ∀ (E : String) (ce : Cell) (q9 : Addr) (u : SX) (t : State) (H1 : Heap) (locs1 : List Loc), t.heap = H1 → s.vm.Alike t.vm → px u → BX E u t → H.size ≤ H1.size → (∀ q : Nat, q < H.size → ¬ AX q → H1[q]? = H[q]?) → va_S A0 H0 H1 locs1 → H1[q9]? = some ce → ce.vm = .none → s.vm.findClass E = some ce.cls → vx_W p l e R s m args below meth c H1 locs1 (cells + mc) (slots + ms) Q (F0 m pc ls rest) q9)
    (kk : ∀ (u : S) (t : State) (H1 : Heap) (locs1 : List Loc), t.heap = H1 → s.vm.Alike t.vm → post u → B u t → H.size ≤ H1.size → (∀ q : Nat, q < H.size → ¬ A1 q → H1[q]? = H[q]?) → va_S A0 H0 H1 locs1 → W p l e R s m args below meth c H1 locs1 (cells + mc) (slots + ms) Q (F0 m (pc + 3) ls (rest))) : W p l e R s m args below meth c H locs cells slots Q (F0 m pc ls st0) := by
  intro T hT X
  rcases hr T hT X with ⟨v, st₀, t, T', L, h0, X', hL, e1, e2, ⟨⟨u, hv, hp, hb⟩, hF⟩, st⟩ | ⟨q, st₀, t, T', L, E, ce, h0, X', hL, e1, e2, ⟨u, hp, hb, hF⟩, hce, hcv, hcl, st⟩
  · cases hv
    obtain ⟨k1, k2, k3⟩ := vx_keep h0 e1 hS hA hf hL hF
    obtain ⟨t2, a1, b1⟩ := kk u t T'.heap (locs ++ L) e1.symm (by rw [← e2]; exact X'.warmed.alike) hp hb k1 k2 k3 T' rfl X'
    exact ⟨t2, st t2 a1, b1⟩
  · obtain ⟨k1, k2, k3⟩ := vx_keep h0 e1 hS hAX hf hL hF
    obtain ⟨t2, a1, b1⟩ := kx E ce q u t T'.heap (locs ++ L) e1.symm (by rw [← e2]; exact X'.warmed.alike) hp hb k1 k2 k3 (by rw [e1]; exact hce) hcv hcl T' rfl X'
    exact ⟨t2, st.trans a1, b1⟩
/-- caught by the row x of this method's table; the rows ahead don't take it -/
theorem vx_catch {own name : String} {E : String} {ce : Cell} {q : Addr} (hown : s.vm.findClass own = some m.cls) (pre : List ExceptionTableEntry) (x : ExceptionTableEntry) (suf : List ExceptionTableEntry) (hsplit : c.exceptionTable.toList = pre ++ x :: suf)
    (hpass : ∀ z ∈ pre, covers z pc = false ∨ (z.catchType ≠ 0 ∧ ∃ nm : String, (Cond.classLink own z.catchType nm).before args s = true ∧ va_Nc E nm s)) (hx : covers x pc = true) (h0 : x.catchType ≠ 0)
    (hlink : (Cond.classLink own x.catchType name).before args s = true) (hcast : (Cond.castable E name).before args s = true) (hcell : H[q]? = some ce) (hv : ce.vm = .none) (hcl : s.vm.findClass E = some ce.cls)
    (kk : W p l e R s m args below meth c H locs cells slots Q (F0 m x.handlerPc ls [.ref q])) : vx_W p l e R s m args below meth c H locs cells slots Q (F0 m pc ls rest) q := by
  intro T hT X
  have hpl : e.platform.magicAccessors = ({} : Platform).magicAccessors := by rw [X.admits.platform]
  obtain ⟨c3, c4, hc3, hc4, hasg⟩ := Cond.castable_spec hcast
  cases Option.some.inj (hc3.symm.trans hcl)
  obtain ⟨c5, hc5, hcl5⟩ := Cond.classLink_spec hown hlink e.platform hpl
  cases Option.some.inj (hc4.symm.trans hc5)
  obtain ⟨vm', X', st⟩ := X.thenCaughtThrough q (g := F0 m pc ls rest) rfl (Steps.refl _) (by rw [hT]; exact hcell) (by rw [hv]; rfl) (by obtain ⟨k9, h9, -⟩ := Vm.findClass_spec hcl; exact ⟨k9, h9⟩) pre x suf hsplit
    (fun z hz => by
      rcases hpass z hz with h | ⟨hz0, nm, hl1, hn1⟩
      · exact Or.inl h
      · obtain ⟨c6, hc6, hcl6⟩ := Cond.classLink_spec hown hl1 e.platform hpl
        obtain ⟨a8, b8, h1, h2, h3⟩ := hn1
        cases Option.some.inj (h1.symm.trans hcl)
        cases Option.some.inj (h2.symm.trans hc6)
        exact Or.inr ⟨hz0, _, hcl6, h3⟩) hx (Or.inr ⟨h0, c4, hcl5, hasg⟩)
  obtain ⟨t, a1, b1⟩ := kk (T.setVm vm') hT X'
  exact ⟨t, st.trans a1, b1⟩
end Rows
section Ends
variable {p : Program} {l : Launch} {e : Env} {R : Room} {s : State} {m : MethodId} {args : Array Value} {below : List Frame} {meth : Method} {c : Code} {H : Heap} {locs : List Loc} {cells slots : Nat} {Q : State → Prop}
variable {mc ms : Nat} {free : Addr → Prop} {A0 A1 : Nat → Prop} {H0 : Heap} {a : Array Value} {ls : Array Slot} {st0 rest : List Value}
variable {Qc : Array Value → State → Outcome → State → Prop} {XC : String → State → State → Prop}
/-- what a body that may throw owes at its end -/
def vx_MQ (below : List Frame) (Qc : Array Value → State → Outcome → State → Prop) (XC : String → State → State → Prop) (a : Array Value) (s : State) (mc ms : Nat) (free : Addr → Prop) : State → Prop := fun t =>
  ∃ o, t.status = .running ∧ Ended t below o ∧ vx_Q Qc XC mc ms free a s o t
theorem vx_ret {g : JFrame} {mc ms : Nat} (k : W p l e R s m args below meth c H locs cells slots (MQ below Qc args s mc ms free) g) : W p l e R s m args below meth c H locs cells slots (vx_MQ below Qc XC args s mc ms free) g := by
  intro T hT X
  obtain ⟨t, a1, o, b1, b2, b3, b4⟩ := k T hT X
  exact ⟨t, a1, o, b1, b2, Or.inl ⟨b3, b4⟩⟩
/-- not caught here: it goes on to the caller -/
theorem vx_widen {g : JFrame} {q : Addr} {k n : Nat} (h1 : cells ≤ k) (h2 : slots ≤ n) (kk : vx_W p l e R s m args below meth c H locs k n Q g q) : vx_W p l e R s m args below meth c H locs cells slots Q g q := fun T hT X => kk T hT (stand_widen X h1 h2)
theorem vx_out {pc : Nat} {E : String} {ce : Cell} {q : Addr} {mc ms : Nat} (hout : ∀ x ∈ c.exceptionTable.toList, covers x pc = false) (hlocks : meth.locks = false) (hcell : H[q]? = some ce) (hv : ce.vm = .none) (hcl : s.vm.findClass E = some ce.cls)
    (hx : ∀ t : State, t.heap = H → s.vm.Alike t.vm → XC E s t) (hf : ∀ z ∈ locs, free z.base) (hc : cells ≤ mc) (hs : slots ≤ ms) :
    vx_W p l e R s m args below meth c H locs cells slots (vx_MQ below Qc XC args s mc ms free) (F0 m pc ls rest) q := by
  intro T hT X
  obtain ⟨st1, hrun, hend, hW, hsm⟩ := X.leaveThrown q (g := F0 m pc ls rest) rfl rfl rfl hout hlocks
  have hcell9 : (T.setFrames (.throwing q :: below)).heap[q]? = some ce := by
    show T.heap[q]? = some ce
    rw [hT]; exact hcell
  exact ⟨_, st1, .threw q, hrun, hend, Or.inr ⟨q, rfl, E, ce, locs, hx _ hT hW.alike, hcell9, hv, hcl, hW, hsm.mono hc hs, hf⟩⟩
theorem vx_frame {U : State} {k n : Nat} (h : s.sameButNew ({ U with vm := s.vm } : State) locs k n) : s.heap.size ≤ U.heap.size ∧ ∀ q : Nat, q < s.heap.size → (∀ z ∈ locs, z.base ≠ q) → U.heap[q]? = s.heap[q]? := by
  obtain ⟨-, h2, -, -, -, h6⟩ := h
  refine ⟨h2, fun q hq hz => ?_⟩
  obtain ⟨c9, e1, e2, e3, e4⟩ := h6 q _ (Array.getElem?_eq_getElem hq)
  have hs : c9.slots = (s.heap[q]).slots := Array.ext_getElem? fun i => e4 i fun hm => hz _ hm rfl
  have h9 : c9 = s.heap[q] := by
    rw [hs] at e2
    exact e2
  have e5 : U.heap[q]? = some c9 := e1
  rw [e5, h9, Array.getElem?_eq_getElem hq]
/-- the words of a throw but the four that speak of the heap -/
def vx_no (w : Cond) : Bool := decide (w ≠ .isRef (.static Bundle.tN "UNASSIGNED_STACK" Bundle.steD)) && decide (w ≠ .isRef (.static Bundle.tN "SUPPRESSED_SENTINEL" Bundle.listD)) && decide (w ≠ .laysStatic Bundle.tN "UNASSIGNED_STACK" Bundle.steD) && decide (w ≠ .laysStatic Bundle.tN "SUPPRESSED_SENTINEL" Bundle.listD)
def vx_at0 (own : String) (ic : Nat) (X : String) (names : List String) : List Cond := (Bundle.ownAtoms0 own ic X names).filter vx_no
def vx_atS (own : String) (ic : Nat) (X : String) (names : List String) : List Cond := (Bundle.ownAtoms own ic X names).filter vx_no
/-- a word that the tables alone decide, or a good one -/
def vx_ot (w : Cond) : Bool := w.onTables || goodWord w
theorem vx_ot_at {args a' : Array Value} {s U : State} {w : Cond} (hW : s.WarmedH U.vm) (hvm : s.vm = U.vm) (hg : vx_ot w = true) (h : w.before args s = true) : w.before a' U = true := by
  simp only [vx_ot, Bool.or_eq_true] at hg
  rcases hg with hg | hg
  · exact va_tabs hg hvm h
  · exact word_at hW (good_of_word hg) h
/-- a list's words: the good ones out of the method's own list, the others by premises of their own -/
theorem vx_hat {args : Array Value} {s : State} {L B : List Cond} (h1 : ∀ w ∈ L.filter goodWord, w.before args s = true) (h2 : ∀ w ∈ L.filter (fun w => !goodWord w), w ∈ B) (h3 : ∀ w ∈ B, w.before args s = true) : ∀ w ∈ L, w.before args s = true := by
  intro w hw
  by_cases g : goodWord w = true
  · exact h1 w (List.mem_filter.mpr ⟨hw, g⟩)
  · refine h3 w (h2 w (List.mem_filter.mpr ⟨hw, ?_⟩))
    show (!goodWord w) = true
    cases hgw : goodWord w
    · rfl
    · exact absurd hgw g
theorem vx_c {args : Array Value} {s : State} {w : Cond} {B : List Cond} (h : w.before args s = true) (t : ∀ w ∈ B, w.before args s = true) : ∀ w' ∈ w :: B, w'.before args s = true := fun w' h' => (List.mem_cons.mp h').elim (fun e => by rw [e]; exact h) (t w')
theorem vx_n {args : Array Value} {s : State} : ∀ w ∈ ([] : List Cond), w.before args s = true := fun _ h => nomatch h
theorem vx_own {args : Array Value} {s : State} {L : List Cond} (h1 : ∀ w ∈ L.filter vx_no, w.before args s = true)
    (hU : (Cond.isRef (.static Bundle.tN "UNASSIGNED_STACK" Bundle.steD)).before args s = true) (hN : (Cond.isRef (.static Bundle.tN "SUPPRESSED_SENTINEL" Bundle.listD)).before args s = true)
    (lU : (Cond.laysStatic Bundle.tN "UNASSIGNED_STACK" Bundle.steD).before args s = true) (lN : (Cond.laysStatic Bundle.tN "SUPPRESSED_SENTINEL" Bundle.listD).before args s = true) : ∀ w ∈ L, w.before args s = true := by
  intro w hw
  by_cases e1 : w = .isRef (.static Bundle.tN "UNASSIGNED_STACK" Bundle.steD)
  · rw [e1]; exact hU
  · by_cases e2 : w = .isRef (.static Bundle.tN "SUPPRESSED_SENTINEL" Bundle.listD)
    · rw [e2]; exact hN
    · by_cases e3 : w = .laysStatic Bundle.tN "UNASSIGNED_STACK" Bundle.steD
      · rw [e3]; exact lU
      · by_cases e4 : w = .laysStatic Bundle.tN "SUPPRESSED_SENTINEL" Bundle.listD
        · rw [e4]; exact lN
        · exact h1 w (List.mem_filter.mpr ⟨hw, by unfold vx_no; rw [decide_eq_true e1, decide_eq_true e2, decide_eq_true e3, decide_eq_true e4]; rfl⟩)
/-- where a static field lies, its class's statics cell in H -/
def vx_L (C n d : String) (A : Nat → Prop) (U : State) (H : Heap) : Prop := ∃ (c : ClassId) (k : Class) (i : Nat) (f : Field) (a : Nat) (cell : Cell), U.vm.findClass C = some c ∧ U.fieldFound? C n d = some (c, k, i, f) ∧ f.isStatic = true ∧ k.statics = some a ∧ H[a]? = some cell ∧ cell.vm.isStatics = true ∧ cell.cls = c ∧ f.slot < cell.slots.size ∧ k.staticTypes[f.slot]? = some f.type ∧ ¬ A a
theorem vx_L.moved {C n d : String} {A : Nat → Prop} {u U : State} {H : Heap} (hvm : u.vm.Alike U.vm) (h : vx_L C n d A u H) : vx_L C n d A U H := by
  obtain ⟨c, k, i, f, a, cell, h1, h2, h3, h4, h5, h6, h7, h8, h9, h10⟩ := h
  obtain ⟨k', hi', he⟩ := State.fieldFound?_setVm hvm h2
  exact ⟨c, k', i, f, a, cell, by rw [hvm.findClass]; exact h1, hi', h3, by rw [he]; exact h4, h5, h6, h7, h8, by rw [he]; exact h9, h10⟩
theorem vx_L.kept {C n d : String} {A : Nat → Prop} {U : State} {H H1 : Heap} (h : vx_L C n d A U H) (hq : ∀ a : Nat, a < H.size → ¬ A a → H1[a]? = H[a]?) : vx_L C n d A U H1 := by
  obtain ⟨c, k, i, f, a, cell, h1, h2, h3, h4, h5, h6, h7, h8, h9, h10⟩ := h
  exact ⟨c, k, i, f, a, cell, h1, h2, h3, h4, by rw [hq a (Array.getElem?_eq_some_iff.mp h5).1 h10]; exact h5, h6, h7, h8, h9, h10⟩
theorem vx_L.narrow {C n d : String} {A B : Nat → Prop} {U : State} {H : Heap} (h : vx_L C n d A U H) (hAB : ∀ q, B q → A q) : vx_L C n d B U H := by
  obtain ⟨c, k, i, f, a, cell, h1, h2, h3, h4, h5, h6, h7, h8, h9, h10⟩ := h
  exact ⟨c, k, i, f, a, cell, h1, h2, h3, h4, h5, h6, h7, h8, h9, fun z => h10 (hAB _ z)⟩
theorem vx_L.word {C n d : String} {A : Nat → Prop} {s : State} {args : Array Value} (h : vx_L C n d A s s.heap) : (Cond.laysStatic C n d).before args s = true := by
  obtain ⟨c, k, i, f, a, cell, h1, h2, h3, h4, h5, h6, h7, h8, h9, -⟩ := h
  show (Cond.laysStatic C n d).holds args s none s [] = true
  exact Cond.laysStatic_of h1 h2 h3 h4 h5 h6 h7 h8 h9
/-- .. and what it holds: null or some reference -/
def vx_Zq (C n d : String) (A : Nat → Prop) (U : State) (H : Heap) : Prop := va_Zq C n d A U H ∧ vx_L C n d A U H
theorem vx_Zq.moved {C n d : String} {A : Nat → Prop} {u U : State} {H : Heap} (hvm : u.vm.Alike U.vm) (h : vx_Zq C n d A u H) : vx_Zq C n d A U H := ⟨va_Zq.moved hvm h.1, vx_L.moved hvm h.2⟩
theorem vx_Zq.kept {C n d : String} {A : Nat → Prop} {U : State} {H H1 : Heap} (h : vx_Zq C n d A U H) (hq : ∀ a : Nat, a < H.size → ¬ A a → H1[a]? = H[a]?) : vx_Zq C n d A U H1 := ⟨va_Zq.kept h.1 hq, vx_L.kept h.2 hq⟩
theorem vx_Zq.narrow {C n d : String} {A B : Nat → Prop} {U : State} {H : Heap} (h : vx_Zq C n d A U H) (hAB : ∀ q, B q → A q) : vx_Zq C n d B U H := ⟨va_Zq.narrow h.1 hAB, vx_L.narrow h.2 hAB⟩
theorem vx_Zqof {args : Array Value} {s : State} {C n d : String} {A : Nat → Prop} (hl : (Cond.laysStatic C n d).before args s = true) (hini : (Cond.initialized C).before args s = true) (h : (Cond.isRef (.static C n d)).before args s = true) (hA : ∀ a : Nat, a < s.heap.size → ¬ A a) : vx_Zq C n d A s s.heap := by
  refine ⟨va_Zqof hl hini h hA, ?_⟩
  obtain ⟨c, k, i, f, a, cell, h1, h2, h3, h4, h5, h6, h7, h8, h9⟩ := Cond.laysStatic_spec hl
  exact ⟨c, k, i, f, a, cell, h1, h2, h3, h4, h5, h6, h7, h8, h9, hA a (Array.getElem?_eq_some_iff.mp h5).1⟩
theorem vx_isRef {C n d : String} {v : Value} {A : Nat → Prop} {s : State} {args : Array Value} (h : va_Z C n d v A s s.heap) (hv : v.isRef = true) : (Cond.isRef (.static C n d)).before args s = true := by
  obtain ⟨cf, kf, fi, f, a, cell, h1, h2, h3, h4, h5, h6, h7, -⟩ := h
  have he : (Term.static C n d).eval args s none [] s = some v := by
    simp [Term.eval, State.fieldNamed?, h1, h2, h4, h5, h6, h7]
  simp only [Cond.before, Cond.holds, Cond.value, he]
  cases v <;> simp_all [Value.isRef]
theorem vx_isRefq {C n d : String} {A : Nat → Prop} {s : State} {args : Array Value} (h : va_Zq C n d A s s.heap) : (Cond.isRef (.static C n d)).before args s = true := by
  rcases h with h | ⟨t, h⟩
  · exact vx_isRef h rfl
  · exact vx_isRef h rfl
/-- the same frame, seen from here: as if the method were called anew in this heap -/
theorem vx_rebase {T : State} (X : Stand p l e R s m args below meth c T locs cells slots) {R' : Room} (hf : R'.frames ≤ R.frames) (hl : R'.locals ≤ R.locals) (hc : cells + R'.cells ≤ R.cells) (hs : slots + R'.slots ≤ R.slots) :
    Stand p l e R' ((T.setVm s.vm).setFrames (.invoking m args :: below)) m args below meth c T [] 0 0 := by
  have htop : (T.setVm s.vm).topJava?.isSome := X.here.top
  have hF : ((T.setVm s.vm).setFrames (.invoking m args :: below)).frames = .invoking m args :: below := State.frames_setFrames _ (State.cur_lt_of_top htop)
  obtain ⟨g₀, hg0⟩ := Option.isSome_iff_exists.mp htop
  obtain ⟨r, hr⟩ := State.topJava?_eq_some.mp hg0
  have hl9 : e.platform.stackLimits (T.setVm s.vm).me = e.platform.stackLimits s.me := X.limits
  have hb9 : (T.setVm s.vm).me.stackBytes = s.me.stackBytes := X.bytes
  refine ⟨X.admits, X.cas, X.clock, hF, ?_, X.hears, X.method, X.code, X.here, X.tail, X.warmed, ?_, ?_, ?_⟩
  · have h := X.room
    have hU : ((T.setVm s.vm).setFrames (.invoking m args :: below)).localsInUse = s.localsInUse := by
      rw [State.localsInUse_invoking hF (meth := meth) (c := c) X.method X.code, State.localsInUse_invoking X.frames X.method X.code]
    simp only [State.hasRoom, Bool.and_eq_true, decide_eq_true_eq] at h ⊢
    obtain ⟨⟨⟨⟨h1, h2, h3, h4, h5, h6⟩, h7⟩, h8⟩, h9⟩ := h
    rw [X.frames, List.length_cons] at h2 h3
    have q1 := X.heapSize
    have q2 := X.used
    simp only [hF, hU, List.length_cons, State.stackLimits_setFrames, State.stackBytes_setFrames, hl9, hb9]
    refine ⟨⟨⟨⟨by omega, by omega, by omega, by omega, by omega, h6⟩, ?_⟩, ?_⟩, X.book⟩
    · show T.heap.size + R'.cells ≤ e.platform.maxCells
      omega
    · show T.slotsUsed + R'.slots ≤ e.platform.maxSlots
      omega
  · rw [State.stackLimits_setFrames]; rfl
  · rw [State.stackBytes_setFrames]; rfl
  · refine ⟨?_, Nat.le_refl _, Nat.le_refl _, ?_, ?_, fun a c9 h9 => ⟨c9, h9, rfl, rfl, fun _ _ => rfl⟩⟩
    · obtain ⟨t, ht, -⟩ := State.frames_cons hr
      show T.setVm s.vm = { ((T.setVm s.vm).setFrames (.invoking m args :: below)).setFrames (T.setVm s.vm).frames with heap := T.heap, slotsUsed := T.slotsUsed }
      rw [State.setFrames_setFrames, State.setFrames_self ht]
      rfl
    · show T.slotsUsed = T.slotsUsed + ((T.heap.toList.drop T.heap.size).map (·.slots.size)).sum
      rw [List.drop_eq_nil_of_le (Nat.le_of_eq Array.length_toList)]
      rfl
    · show ((T.heap.toList.drop T.heap.size).map (·.slots.size)).sum ≤ 0
      rw [List.drop_eq_nil_of_le (Nat.le_of_eq Array.length_toList)]
      exact Nat.le_refl _
/-- 'throw new E()': new; dup; invokespecial; athrow -/
theorem vx_throw0 {cc : ByteArray} {pc : Nat} (hexec : p.tables.exec = Jvm.exec) (hb : c.code = cc) (hl : l.stackTraces = false) {own cls : String} {names : List String} {ik ic mc ms : Nat} {A : Nat → Prop}
    (hown : s.vm.findClass own = some m.cls) (hcls : Bundle.fit cls = true) (hnames : ∀ n ∈ names, Bundle.fit n = true)
    (hk : (Cond.classLink own ik cls).before args s = true) (hini : (Cond.initialized cls).before args s = true) (hat : ∀ w ∈ vx_at0 own ic cls names, w.before args s = true)
    (hgood : ∀ w ∈ Cond.classLink own ik cls :: Cond.initialized cls :: vx_at0 own ic cls names, vx_ot w = true)
    (hU : vx_Zq Bundle.tN "UNASSIGNED_STACK" Bundle.steD A s s.heap) (hN : vx_Zq Bundle.tN "SUPPRESSED_SENTINEL" Bundle.listD A s s.heap) (hS : va_S A s.heap H locs) (hsize : ls.size = c.maxLocals)
    (d0 : decode cc pc = .ok (.new ik, 3)) (d3 : decode cc (pc + 3) = .ok (.dup, 1)) (d4 : decode cc (pc + 4) = .ok (.invokespecial ic, 3)) (d7 : decode cc (pc + 7) = .ok (.athrow, 1))
    (hout : ∀ x ∈ c.exceptionTable.toList, covers x (pc + 7) = false)
    (hRframes : names.length + 3 < R.frames) (hRlocals : (rest.map fun v => v.category).sum + (13 * (names.length + 1) + 42) ≤ R.locals) (hRcells : cells + 1 ≤ R.cells) (hRslots : slots + 6 ≤ R.slots) (hlocks : meth.locks = false)
    (hx : ∀ t : State, s.vm.Alike t.vm → H.size ≤ t.heap.size → (∀ q : Nat, q < H.size → t.heap[q]? = H[q]?) → XC cls s t)
    (hf : ∀ z ∈ locs, free z.base) (hc : cells + 1 ≤ mc) (hs : slots + 6 ≤ ms) :
    W p l e R s m args below meth c H locs cells slots (vx_MQ below Qc XC args s mc ms free) (F0 m pc ls rest) := by
  intro T hT X
  have htr : e.platform.stackTraces = false := (show e.platform.stackTraces = l.stackTraces by rw [X.admits.platform]).trans hl
  have Y := vx_rebase X (R' := { frames := R.frames, locals := R.locals, cells := 1, slots := 6 }) (Nat.le_refl _) (Nat.le_refl _) hRcells hRslots
  obtain ⟨s', hA⟩ : ∃ z, z = (T.setVm s.vm).setFrames (.invoking m args :: below) := ⟨_, rfl⟩
  rw [← hA] at Y
  have hvm : s'.vm = s.vm := by rw [hA]; rfl
  have hhp : s'.heap = H := by rw [hA]; exact hT
  have hW0 : s.WarmedH s'.vm := by rw [hvm]; exact State.WarmedH.refl s
  have hat' : ∀ w ∈ vx_at0 own ic cls names, w.before args s' = true := fun w hw => vx_ot_at hW0 hvm.symm (hgood w (List.mem_cons_of_mem _ (List.mem_cons_of_mem _ hw))) (hat w hw)
  have hk' : (Cond.classLink own ik cls).before args s' = true := vx_ot_at hW0 hvm.symm (hgood _ List.mem_cons_self) hk
  have hini' : (Cond.initialized cls).before args s' = true := vx_ot_at hW0 hvm.symm (hgood _ (List.mem_cons_of_mem _ List.mem_cons_self)) hini
  have hU' : vx_Zq Bundle.tN "UNASSIGNED_STACK" Bundle.steD A s' s'.heap := by rw [hhp]; exact vx_Zq.moved hW0.alike (hU.kept hS.2.1)
  have hN' : vx_Zq Bundle.tN "SUPPRESSED_SENTINEL" Bundle.listD A s' s'.heap := by rw [hhp]; exact vx_Zq.moved hW0.alike (hN.kept hS.2.1)
  have h : ∀ w ∈ Bundle.ownAtoms0 own ic cls names, w.before args s' = true := vx_own hat' (vx_isRefq hU'.1) (vx_isRefq hN'.1) hU'.2.word hN'.2.word
  have hown' : s'.vm.findClass own = some m.cls := by rw [hvm]; exact hown
  have hins : (Cond.instantiable cls 6).before args s' = true := h _ (by simp [Bundle.ownAtoms0])
  obtain ⟨vm₁, cX, kX, hfX, hkX, -, -, X₁, st1⟩ := Y.newCold hexec (own := own) (C := cls) (index := ik) (n := 6) hown' hk' hins hini'
    (g := F0 m pc ls rest) rfl (by rw [hb]; exact d0) (Nat.le_refl _) (Nat.le_refl _)
  generalize hT1 : (T.setVm vm₁).pushCell { cls := cX, slots := kX.instanceTypes.map defaultValue, vm := .none } = T1 at X₁ st1
  have hcat : (Value.ref T.heap.size).category = 1 := rfl
  have hcellA : T1.heap[T.heap.size]? = some (freshCell cX kX) := by rw [← hT1]; exact State.heap_pushCell_size _ _
  have d3' : decode c.code (pc + 3) = .ok (.dup, 1) := by rw [hb]; exact d3
  obtain ⟨U, hsteps, hrun, hend, hW, hsame, ce, hce, hO⟩ := X₁.ctorThrow0 hexec htr (own := own) (cls := cls) (names := names) (ic := ic) hown' hcls hnames h (fun x hx => nomatch hx) hfX hkX hcellA (by rw [hhp, hT]; exact Nat.le_refl _)
    (g := { method := m, pc := pc + 4, locals := ls, stack := .ref T.heap.size :: .ref T.heap.size :: rest, locked := none }) rfl hsize rfl rfl (rest := rest) rfl
    (by rw [hb]; exact d4) (by rw [hb]; exact d7) hout hRframes (by simp only [List.map_cons, List.sum_cons, hcat]; omega) hlocks
  obtain ⟨f1, f2⟩ := vx_frame hsame
  rw [hhp] at f1 f2
  have hWs : s.WarmedH U.vm := State.WarmedH.trans hW0 hW
  have hcl : s.vm.findClass cls = some ce.cls := by
    have h9 := hO.cls
    rw [hvm] at h9
    exact h9
  have hall : s.sameButNew ({ U with vm := s.vm } : State) locs mc ms := by
    subst hA
    obtain ⟨e1, e2⟩ := hsame
    rw [State.setFrames_setFrames] at e1
    have h2 : (T.setVm s.vm).sameButNew ({ U with vm := s.vm } : State) [] (0 + 1) (0 + 6) := ⟨e1, e2⟩
    have h3 := X.same.trans h2
    rw [List.append_nil] at h3
    exact h3.mono hc hs
  refine ⟨U, ?_, .threw T.heap.size, hrun, hend, Or.inr ⟨T.heap.size, rfl, cls, ce, locs, hx U hWs.alike f1 (fun q hq => f2 q hq (fun z hz => nomatch hz)), hce, hO.vm, hcl, hWs, hall, hf⟩⟩
  refine st1 _ ?_
  show Steps p.tables e below (T1.setTop { method := m, pc := pc + 3, locals := ls, stack := .ref T.heap.size :: rest, locked := none }) _
  jvm_step X₁.here [X₁.here.top, hexec, d3', Value.category]
  exact hsteps
/-- 'throw new E("text")': new; dup; ldc; invokespecial; athrow -/
theorem vx_throwS {cc : ByteArray} {pc : Nat} (hexec : p.tables.exec = Jvm.exec) (hb : c.code = cc) (hl : l.stackTraces = false) {own cls text : String} {names : List String} {ik is ic mc ms sa : Nat} {A : Nat → Prop}
    (hown : s.vm.findClass own = some m.cls) (hcls : Bundle.fit cls = true) (hnames : ∀ n ∈ names, Bundle.fit n = true)
    (hk : (Cond.classLink own ik cls).before args s = true) (hini : (Cond.initialized cls).before args s = true) (hstr : vk_R own is text sa s) (hat : ∀ w ∈ vx_atS own ic cls names, w.before args s = true)
    (hgood : ∀ w ∈ Cond.classLink own ik cls :: Cond.initialized cls :: vx_atS own ic cls names, vx_ot w = true)
    (hU : vx_Zq Bundle.tN "UNASSIGNED_STACK" Bundle.steD A s s.heap) (hN : vx_Zq Bundle.tN "SUPPRESSED_SENTINEL" Bundle.listD A s s.heap) (hS : va_S A s.heap H locs) (hsize : ls.size = c.maxLocals)
    (d0 : decode cc pc = .ok (.new ik, 3)) (d3 : decode cc (pc + 3) = .ok (.dup, 1)) (d4 : decode cc (pc + 4) = .ok (.ldc is, 2)) (d6 : decode cc (pc + 6) = .ok (.invokespecial ic, 3)) (d9 : decode cc (pc + 9) = .ok (.athrow, 1))
    (hout : ∀ x ∈ c.exceptionTable.toList, covers x (pc + 9) = false)
    (hRframes : names.length + 3 < R.frames) (hRlocals : (rest.map fun v => v.category).sum + (13 * (names.length + 1) + 43) ≤ R.locals) (hRcells : cells + 1 ≤ R.cells) (hRslots : slots + 6 ≤ R.slots) (hlocks : meth.locks = false)
    (hx : ∀ t : State, s.vm.Alike t.vm → H.size ≤ t.heap.size → (∀ q : Nat, q < H.size → t.heap[q]? = H[q]?) → XC cls s t)
    (hf : ∀ z ∈ locs, free z.base) (hc : cells + 1 ≤ mc) (hs : slots + 6 ≤ ms) :
    W p l e R s m args below meth c H locs cells slots (vx_MQ below Qc XC args s mc ms free) (F0 m pc ls rest) := by
  intro T hT X
  have htr : e.platform.stackTraces = false := (show e.platform.stackTraces = l.stackTraces by rw [X.admits.platform]).trans hl
  have Y := vx_rebase X (R' := { frames := R.frames, locals := R.locals, cells := 1, slots := 6 }) (Nat.le_refl _) (Nat.le_refl _) hRcells hRslots
  obtain ⟨s', hA⟩ : ∃ z, z = (T.setVm s.vm).setFrames (.invoking m args :: below) := ⟨_, rfl⟩
  rw [← hA] at Y
  have hvm : s'.vm = s.vm := by rw [hA]; rfl
  have hhp : s'.heap = H := by rw [hA]; exact hT
  have hW0 : s.WarmedH s'.vm := by rw [hvm]; exact State.WarmedH.refl s
  have hat' : ∀ w ∈ vx_atS own ic cls names, w.before args s' = true := fun w hw => vx_ot_at hW0 hvm.symm (hgood w (List.mem_cons_of_mem _ (List.mem_cons_of_mem _ hw))) (hat w hw)
  have hk' : (Cond.classLink own ik cls).before args s' = true := vx_ot_at hW0 hvm.symm (hgood _ List.mem_cons_self) hk
  have hini' : (Cond.initialized cls).before args s' = true := vx_ot_at hW0 hvm.symm (hgood _ (List.mem_cons_of_mem _ List.mem_cons_self)) hini
  have hU' : vx_Zq Bundle.tN "UNASSIGNED_STACK" Bundle.steD A s' s'.heap := by rw [hhp]; exact vx_Zq.moved hW0.alike (hU.kept hS.2.1)
  have hN' : vx_Zq Bundle.tN "SUPPRESSED_SENTINEL" Bundle.listD A s' s'.heap := by rw [hhp]; exact vx_Zq.moved hW0.alike (hN.kept hS.2.1)
  have h : ∀ w ∈ Bundle.ownAtoms own ic cls names, w.before args s' = true := vx_own hat' (vx_isRefq hU'.1) (vx_isRefq hN'.1) hU'.2.word hN'.2.word
  have hown' : s'.vm.findClass own = some m.cls := by rw [hvm]; exact hown
  have hins : (Cond.instantiable cls 6).before args s' = true := h _ (by simp [Bundle.ownAtoms])
  obtain ⟨vm₁, cX, kX, hfX, hkX, -, -, X₁, st1⟩ := Y.newCold hexec (own := own) (C := cls) (index := ik) (n := 6) hown' hk' hins hini'
    (g := F0 m pc ls rest) rfl (by rw [hb]; exact d0) (Nat.le_refl _) (Nat.le_refl _)
  generalize hT1 : (T.setVm vm₁).pushCell { cls := cX, slots := kX.instanceTypes.map defaultValue, vm := .none } = T1 at X₁ st1
  have hcat : (Value.ref T.heap.size).category = 1 := rfl
  have hcellA : T1.heap[T.heap.size]? = some (freshCell cX kX) := by rw [← hT1]; exact State.heap_pushCell_size _ _
  have d3' : decode c.code (pc + 3) = .ok (.dup, 1) := by rw [hb]; exact d3
  have d4' : decode c.code (pc + 4) = .ok (.ldc is, 2) := by rw [hb]; exact d4
  have hstr' : vk_R own is text sa s' := vk_R.warm hW0 hstr
  obtain ⟨U, hsteps, hrun, hend, hW, hsame, ce, hce, hO⟩ := X₁.ctorThrowS hexec htr (own := own) (cls := cls) (names := names) (ic := ic) hown' hcls hnames h (fun x hx => nomatch hx) hfX hkX hcellA (by rw [hhp, hT]; exact Nat.le_refl _) (msg := .ref sa) rfl
    (g := { method := m, pc := pc + 6, locals := ls, stack := .ref sa :: .ref T.heap.size :: .ref T.heap.size :: rest, locked := none }) rfl hsize rfl rfl (rest := rest) rfl
    (by rw [hb]; exact d6) (by rw [hb]; exact d9) hout hRframes (by simp only [List.map_cons, List.sum_cons, hcat]; omega) hlocks
  obtain ⟨f1, f2⟩ := vx_frame hsame
  rw [hhp] at f1 f2
  have hWs : s.WarmedH U.vm := State.WarmedH.trans hW0 hW
  have hcl : s.vm.findClass cls = some ce.cls := by
    have h9 := hO.cls
    rw [hvm] at h9
    exact h9
  have hall : s.sameButNew ({ U with vm := s.vm } : State) locs mc ms := by
    subst hA
    obtain ⟨e1, e2⟩ := hsame
    rw [State.setFrames_setFrames] at e1
    have h2 : (T.setVm s.vm).sameButNew ({ U with vm := s.vm } : State) [] (0 + 1) (0 + 6) := ⟨e1, e2⟩
    have h3 := X.same.trans h2
    rw [List.append_nil] at h3
    exact h3.mono hc hs
  refine ⟨U, ?_, .threw T.heap.size, hrun, hend, Or.inr ⟨T.heap.size, rfl, cls, ce, locs, hx U hWs.alike f1 (fun q hq => f2 q hq (fun z hz => nomatch hz)), hce, hO.vm, hcl, hWs, hall, hf⟩⟩
  refine st1 _ ?_
  show Steps p.tables e below (T1.setTop { method := m, pc := pc + 3, locals := ls, stack := .ref T.heap.size :: rest, locked := none }) _
  jvm_step X₁.here [X₁.here.top, hexec, d3', Value.category]
  exact X₁.ldcString hexec (own := own) (text := text) (index := is) (a := sa) hown' hstr'.1 hstr'.2
    (g := { method := m, pc := pc + 4, locals := ls, stack := .ref T.heap.size :: .ref T.heap.size :: rest, locked := none }) rfl d4' _ hsteps
/-- 'throw new E("text")', the text by a wide index -/
theorem vx_throwSW {cc : ByteArray} {pc : Nat} (hexec : p.tables.exec = Jvm.exec) (hb : c.code = cc) (hl : l.stackTraces = false) {own cls text : String} {names : List String} {ik is ic mc ms sa : Nat} {A : Nat → Prop}
    (hown : s.vm.findClass own = some m.cls) (hcls : Bundle.fit cls = true) (hnames : ∀ n ∈ names, Bundle.fit n = true)
    (hk : (Cond.classLink own ik cls).before args s = true) (hini : (Cond.initialized cls).before args s = true) (hstr : vk_R own is text sa s) (hat : ∀ w ∈ vx_atS own ic cls names, w.before args s = true)
    (hgood : ∀ w ∈ Cond.classLink own ik cls :: Cond.initialized cls :: vx_atS own ic cls names, vx_ot w = true)
    (hU : vx_Zq Bundle.tN "UNASSIGNED_STACK" Bundle.steD A s s.heap) (hN : vx_Zq Bundle.tN "SUPPRESSED_SENTINEL" Bundle.listD A s s.heap) (hS : va_S A s.heap H locs) (hsize : ls.size = c.maxLocals)
    (d0 : decode cc pc = .ok (.new ik, 3)) (d3 : decode cc (pc + 3) = .ok (.dup, 1)) (d4 : decode cc (pc + 4) = .ok (.ldc_w is, 3)) (d7 : decode cc (pc + 7) = .ok (.invokespecial ic, 3)) (d10 : decode cc (pc + 10) = .ok (.athrow, 1))
    (hout : ∀ x ∈ c.exceptionTable.toList, covers x (pc + 10) = false)
    (hRframes : names.length + 3 < R.frames) (hRlocals : (rest.map fun v => v.category).sum + (13 * (names.length + 1) + 43) ≤ R.locals) (hRcells : cells + 1 ≤ R.cells) (hRslots : slots + 6 ≤ R.slots) (hlocks : meth.locks = false)
    (hx : ∀ t : State, s.vm.Alike t.vm → H.size ≤ t.heap.size → (∀ q : Nat, q < H.size → t.heap[q]? = H[q]?) → XC cls s t)
    (hf : ∀ z ∈ locs, free z.base) (hc : cells + 1 ≤ mc) (hs : slots + 6 ≤ ms) :
    W p l e R s m args below meth c H locs cells slots (vx_MQ below Qc XC args s mc ms free) (F0 m pc ls rest) := by
  intro T hT X
  have htr : e.platform.stackTraces = false := (show e.platform.stackTraces = l.stackTraces by rw [X.admits.platform]).trans hl
  have Y := vx_rebase X (R' := { frames := R.frames, locals := R.locals, cells := 1, slots := 6 }) (Nat.le_refl _) (Nat.le_refl _) hRcells hRslots
  obtain ⟨s', hA⟩ : ∃ z, z = (T.setVm s.vm).setFrames (.invoking m args :: below) := ⟨_, rfl⟩
  rw [← hA] at Y
  have hvm : s'.vm = s.vm := by rw [hA]; rfl
  have hhp : s'.heap = H := by rw [hA]; exact hT
  have hW0 : s.WarmedH s'.vm := by rw [hvm]; exact State.WarmedH.refl s
  have hat' : ∀ w ∈ vx_atS own ic cls names, w.before args s' = true := fun w hw => vx_ot_at hW0 hvm.symm (hgood w (List.mem_cons_of_mem _ (List.mem_cons_of_mem _ hw))) (hat w hw)
  have hk' : (Cond.classLink own ik cls).before args s' = true := vx_ot_at hW0 hvm.symm (hgood _ List.mem_cons_self) hk
  have hini' : (Cond.initialized cls).before args s' = true := vx_ot_at hW0 hvm.symm (hgood _ (List.mem_cons_of_mem _ List.mem_cons_self)) hini
  have hU' : vx_Zq Bundle.tN "UNASSIGNED_STACK" Bundle.steD A s' s'.heap := by rw [hhp]; exact vx_Zq.moved hW0.alike (hU.kept hS.2.1)
  have hN' : vx_Zq Bundle.tN "SUPPRESSED_SENTINEL" Bundle.listD A s' s'.heap := by rw [hhp]; exact vx_Zq.moved hW0.alike (hN.kept hS.2.1)
  have h : ∀ w ∈ Bundle.ownAtoms own ic cls names, w.before args s' = true := vx_own hat' (vx_isRefq hU'.1) (vx_isRefq hN'.1) hU'.2.word hN'.2.word
  have hown' : s'.vm.findClass own = some m.cls := by rw [hvm]; exact hown
  have hins : (Cond.instantiable cls 6).before args s' = true := h _ (by simp [Bundle.ownAtoms])
  obtain ⟨vm₁, cX, kX, hfX, hkX, -, -, X₁, st1⟩ := Y.newCold hexec (own := own) (C := cls) (index := ik) (n := 6) hown' hk' hins hini'
    (g := F0 m pc ls rest) rfl (by rw [hb]; exact d0) (Nat.le_refl _) (Nat.le_refl _)
  generalize hT1 : (T.setVm vm₁).pushCell { cls := cX, slots := kX.instanceTypes.map defaultValue, vm := .none } = T1 at X₁ st1
  have hcat : (Value.ref T.heap.size).category = 1 := rfl
  have hcellA : T1.heap[T.heap.size]? = some (freshCell cX kX) := by rw [← hT1]; exact State.heap_pushCell_size _ _
  have d3' : decode c.code (pc + 3) = .ok (.dup, 1) := by rw [hb]; exact d3
  have d4' : decode c.code (pc + 4) = .ok (.ldc_w is, 3) := by rw [hb]; exact d4
  have hstr' : vk_R own is text sa s' := vk_R.warm hW0 hstr
  obtain ⟨U, hsteps, hrun, hend, hW, hsame, ce, hce, hO⟩ := X₁.ctorThrowS hexec htr (own := own) (cls := cls) (names := names) (ic := ic) hown' hcls hnames h (fun x hx => nomatch hx) hfX hkX hcellA (by rw [hhp, hT]; exact Nat.le_refl _) (msg := .ref sa) rfl
    (g := { method := m, pc := pc + 7, locals := ls, stack := .ref sa :: .ref T.heap.size :: .ref T.heap.size :: rest, locked := none }) rfl hsize rfl rfl (rest := rest) rfl
    (by rw [hb]; exact d7) (by rw [hb]; exact d10) hout hRframes (by simp only [List.map_cons, List.sum_cons, hcat]; omega) hlocks
  obtain ⟨f1, f2⟩ := vx_frame hsame
  rw [hhp] at f1 f2
  have hWs : s.WarmedH U.vm := State.WarmedH.trans hW0 hW
  have hcl : s.vm.findClass cls = some ce.cls := by
    have h9 := hO.cls
    rw [hvm] at h9
    exact h9
  have hall : s.sameButNew ({ U with vm := s.vm } : State) locs mc ms := by
    subst hA
    obtain ⟨e1, e2⟩ := hsame
    rw [State.setFrames_setFrames] at e1
    have h2 : (T.setVm s.vm).sameButNew ({ U with vm := s.vm } : State) [] (0 + 1) (0 + 6) := ⟨e1, e2⟩
    have h3 := X.same.trans h2
    rw [List.append_nil] at h3
    exact h3.mono hc hs
  refine ⟨U, ?_, .threw T.heap.size, hrun, hend, Or.inr ⟨T.heap.size, rfl, cls, ce, locs, hx U hWs.alike f1 (fun q hq => f2 q hq (fun z hz => nomatch hz)), hce, hO.vm, hcl, hWs, hall, hf⟩⟩
  refine st1 _ ?_
  show Steps p.tables e below (T1.setTop { method := m, pc := pc + 3, locals := ls, stack := .ref T.heap.size :: rest, locked := none }) _
  jvm_step X₁.here [X₁.here.top, hexec, d3', Value.category]
  exact X₁.ldcStringW hexec (own := own) (text := text) (index := is) (a := sa) hown' hstr'.1 hstr'.2
    (g := { method := m, pc := pc + 4, locals := ls, stack := .ref T.heap.size :: .ref T.heap.size :: rest, locked := none }) rfl d4' _ hsteps
end Ends
section Bodies
variable {l : Launch}
theorem vx_ofW {y : MethodName} {ws ws' : List Cond} {rm : Room} {Pc : Array Value → State → Prop} {Qc : Array Value → State → Outcome → State → Prop} {XC : String → State → State → Prop} {mc ms : Nat} {free : Addr → Prop} {cc : ByteArray} {maxL : Nat} {ret : Option FieldType}
    (hy : plainName y.cls = true) (hw : ws = Cond.code y cc maxL ret :: ws')
    (body : ∀ p e s m args below meth c s₁, BodyLoose p l y (headSpec ws rm) cc maxL ret e s m args below meth c s₁ → c.maxLocals = maxL → (∀ x ∈ c.exceptionTable.toList, False) → Pc args s →
      W p l e (headSpec ws rm).room s m args below meth c s.heap [] 0 0 (vx_MQ below Qc XC args s mc ms free) (entryFrame m args maxL)) : vx_Met l y ws rm Pc Qc XC mc ms free := by
  refine MetFree.of_bodyS (code := cc) (maxLocals := maxL) (ret := ret) hy ?_ ?_
  · intro args s m h hn
    obtain ⟨meth, c, h1, h2, h3, h4, h5, h6, -, -⟩ := Cond.code_spec hn (atoms_spec (ws := ws) h _ (by rw [hw]; exact List.mem_cons_self))
    exact ⟨meth, c, h1, h2, h3, h4, h5, h6⟩
  · intro p e s m args below meth c s₁ B hml hP _
    have hh0 : s₁.heap = s.heap := by rw [B.state]; rfl
    have ht : ∀ x ∈ c.exceptionTable.toList, False := by
      obtain ⟨meth9, c9, h1, h2, -, -, -, -, h7, -⟩ := Cond.code_spec B.named (atoms_spec (ws := ws) B.pre _ (by rw [hw]; exact List.mem_cons_self))
      cases Option.some.inj (h1.symm.trans B.method)
      cases Option.some.inj (h2.symm.trans (Stand.of_body B).code)
      intro x hx
      rw [Array.isEmpty_iff.mp h7] at hx
      cases hx
    obtain ⟨t, a1, o, b1, b2, b3⟩ := body p e s m args below meth c s₁ B hml ht hP s₁ hh0 (Stand.of_body B)
    exact ⟨t, o, a1, b1, b2, b3⟩
/-- the table of a body with handlers -/
theorem vx_table {p : Program} {x y : MethodName} {S : Spec} {cc bytes : ByteArray} {maxL maxL' : Nat} {ret ret' : Option FieldType} {e : Env} {s s₁ : State} {m : MethodId} {args : Array Value} {below : List Frame} {meth : Method} {c : Code} {hh : List (Nat × Nat × Nat × Nat)}
    (B : BodyLoose p l y S cc maxL ret e s m args below meth c s₁) (h : (Cond.codeWith y bytes maxL' ret' hh).before args s = true) : c.exceptionTable.toList = tableOf hh := by
  obtain ⟨m9, meth9, c9, hn9, h1, h2, -, -, h6, -⟩ := Cond.codeWith_spec h
  cases Option.some.inj (hn9.symm.trans B.named)
  cases Option.some.inj (h1.symm.trans B.method)
  cases Option.some.inj (h2.symm.trans (Stand.of_body B).code)
  rw [← h6, table_eq]
end Bodies
end VXA
/-! ===== END ===== -/
/-! ===== BEGIN a static call of a method with an exception table ===== -/
section VXS
variable {p : Program} {l : Launch} {e : Env} {R : Room} {s : State} {m : MethodId} {args : Array Value} {below : List Frame} {meth : Method} {c : Code} {T : State} {H : Heap} {locs : List Loc} {cells slots : Nat}
abbrev vx_CSW (R : Room) (s : State) (args : Array Value) (own : String) (index : Nat) (y : MethodName) (bytes : ByteArray) (maxL : Nat) (ret : Option FieldType) (hh : List (Nat × Nat × Nat × Nat)) (ws : List Cond) (rm : Room) (mc ms n : Nat) : Prop :=
  (rm.cells = mc ∧ rm.slots = ms ∧ rm.frames + 1 ≤ R.frames ∧ 8 + (maxL + 11) + rm.locals ≤ R.locals ∧ (∀ w ∈ ws, ∀ (a' : Array Value) (U : State), s.WarmedH U.vm → w.before a' U = true) ∧ Cond.codeWith y bytes maxL ret hh ∈ ws) ∧
  (Cond.codeWith y bytes maxL ret hh).before args s = true ∧ (Cond.initialized y.cls).before args s = true ∧ (y.cls ≠ "java/lang/invoke/MethodHandle" ∧ y.cls ≠ "java/lang/invoke/VarHandle") ∧
  (∀ sig, parseMethodDescriptor y.desc = some sig → n = sig.parameters.length) ∧ (Cond.methodLink own index y).before args s = true ∧ (Cond.static y).before args s = true
theorem vx_cwSW {own : String} {index maxL mc ms : Nat} {y : MethodName} {bytes : ByteArray} {ret : Option FieldType} {hh : List (Nat × Nat × Nat × Nat)} {Ts ws ws' : List Cond} {rm : Room} (n : Nat) (ht : ∀ w ∈ Ts, w.before args s = true) (hT : GoodIn Ts (va_wsS own index y ws)) (hw : ws = Cond.codeWith y bytes maxL ret hh :: ws') (hrc : rm.cells = mc) (hrs : rm.slots = ms)
    (hd : y.cls ≠ "java/lang/invoke/MethodHandle" ∧ y.cls ≠ "java/lang/invoke/VarHandle" ∧ (parseMethodDescriptor y.desc).map (fun d => d.parameters.length) = some n) (hR : rm.frames + 1 ≤ R.frames ∧ 8 + (maxL + 11) + rm.locals ≤ R.locals) :
    vx_CSW R s args own index y bytes maxL ret hh ws rm mc ms n := by
  have ok : ∀ w ∈ va_wsS own index y ws, w.before args s = true := fun w h => ht w (hT w h).1
  have hG : GoodIn Ts ws := fun w h => hT w (by unfold va_wsS; exact List.mem_append_right _ h)
  have hc : Cond.codeWith y bytes maxL ret hh ∈ ws := by rw [hw]; exact List.mem_cons_self
  refine ⟨⟨hrc, hrs, hR.1, hR.2, pay_in ht hG, hc⟩, ht _ (hG _ hc).1, ok _ (by simp [va_wsS]), ⟨hd.1, hd.2.1⟩, fun sig h => ?_, ok _ (by simp [va_wsS]), ok _ (by simp [va_wsS])⟩
  have h2 := hd.2.2
  rw [h] at h2
  exact (Option.some.inj h2).symm
theorem vx_callSW (X : Stand p l e R s m args below meth c T locs cells slots) (hexec : p.tables.exec = Jvm.exec) {own : String} {index : Nat} {y : MethodName} {bytes : ByteArray} {maxL : Nat} {ret : Option FieldType} {hh : List (Nat × Nat × Nat × Nat)}
    (hown : s.vm.findClass own = some m.cls) (hlink : (Cond.methodLink own index y).before args s = true) (hstat : (Cond.static y).before args s = true) (hinit : (Cond.initialized y.cls).before args s = true)
    (hcode : (Cond.codeWith y bytes maxL ret hh).before args s = true) (hy : y.cls ≠ "java/lang/invoke/MethodHandle" ∧ y.cls ≠ "java/lang/invoke/VarHandle")
    {W9 : Nat} {Pre : Pt → Array Value → Prop} {Post : Pt → Array Value → Option Value → Pt → Prop} (hK : Back l R p e below s args y 3 W9 Pre Post)
    {g : JFrame} (hg : g.method = m) (hsize : g.locals.size = c.maxLocals) {argsL rest : List Value} (hlen : ∀ sig, parseMethodDescriptor y.desc = some sig → argsL.length = sig.parameters.length)
    (hstack : g.stack = argsL.reverse ++ rest) (hW : 2 * g.monitorRoom + (rest.map fun v => v.category).sum ≤ W9) (hdg : decode c.code g.pc = .ok (.invokestatic index, 3))
    (hpre : ∀ vm₁, s.WarmedH vm₁ → Pre ⟨T.setVm vm₁, locs, cells, slots⟩ argsL.toArray) :
    ∃ (v : Option Value) (vm₁ : Vm) (B : Pt), s.WarmedH vm₁ ∧ Stand p l e R s m args below meth c B.U B.locs B.cells B.slots ∧ Post ⟨T.setVm vm₁, locs, cells, slots⟩ argsL.toArray v B ∧
      ∀ target, Steps p.tables e below (B.U.setTop { g with pc := g.pc + 3, stack := v.toList ++ rest }) target → Steps p.tables e below (T.setTop g) target := by
  obtain ⟨mk, methM, cM, hnamed, hmethM, -, -, -, -, -, -, hsigM⟩ := Cond.codeWith_spec hcode
  have hstatic : methM.isStatic = true := Cond.static_spec hnamed hmethM hstat
  obtain ⟨kP, hkP, -⟩ := className_of_methodNamed hnamed
  have hinitP : kP.init = .initialized := Cond.initialized_spec (findClass_of_methodNamed hnamed) hkP hinit
  obtain ⟨vm₁, X₁, hstep₁⟩ := X.invokestatic hexec hown hlink hnamed hmethM hstatic hkP hinitP hy (g := g) hg (argsL := argsL) (rest := rest) (hlen _ hsigM) hstack hdg
  obtain ⟨v, B, X', hpost, hsteps⟩ := hK m meth c ⟨T.setVm vm₁, locs, cells, slots⟩ { g with stack := rest } (.invokestatic index) mk argsL.toArray X₁ hg hsize hdg hW (X₁.named hnamed) (hpre vm₁ X₁.warmed)
  exact ⟨v, vm₁, B, X₁.warmed, X', hpost, fun target h => hstep₁ _ fun acts => by rw [doInvoke_state]; exact hsteps.trans h⟩
theorem vx_runSW {y : MethodName} {bytes cc : ByteArray} {maxL nL mc ms n index : Nat} {ret : Option FieldType} {hh : List (Nat × Nat × Nat × Nat)} {ws : List Cond} {rm : Room} {Pc : Array Value → State → Prop} {Qc : Array Value → State → Outcome → State → Prop} {free : Addr → Prop} {Ts : List Cond} {own : String} {As rest : List Value} {g : JFrame}
    (S : CallFix p m c cc nL s args Ts own) (hM : Met l y ws rm Pc Qc mc ms free) (cw : vx_CSW R s args own index y bytes maxL ret hh ws rm mc ms n) (hp : PreS s H Pc As)
    (hg : g.method = m) (hn : As.length = n) (hsize : g.locals.size = nL) (hstack : g.stack = As.reverse ++ rest) (hW : 2 * g.monitorRoom + (rest.map fun v => v.category).sum ≤ 8) (hdg : decode cc g.pc = .ok (.invokestatic index, 3)) (hf : cells + mc ≤ R.cells ∧ slots + ms ≤ R.slots) :
    va_Run p l e R s m args below meth c H locs cells slots mc ms g rest (Qc As.toArray) (free) := by
  obtain ⟨⟨hrc, hrs, hfr, hlo, hws, hcw⟩, hcode, hini, hy, hlen, hl, hstt⟩ := cw
  have hK : Back l R p e below s args y 3 8 (PreOf R mc ms Pc) (PostOf Qc mc ms free) := va_backW (hh := hh) (bytes := bytes) (maxL := maxL) (ret := ret) hM hp.1 hrc hrs hfr hlo hws hcw (fun a' U hW => word_at hW (Or.inl (by first | rfl | simp [Cond.onTables, Cond.keeps, Cond.steady])) hini)
  obtain ⟨hx, hb, hml, ho, -⟩ := S
  intro T hT X
  obtain ⟨v, vm₁, ⟨U', l2, c2, s2⟩, hW₁, X', ⟨g', mk, t, L, e1, e2, hq, h1, hL, h2, h3⟩, st⟩ := vx_callSW X hx (hh := hh) (bytes := bytes) (maxL := maxL) (ret := ret) ho hl hstt hini hcode hy hK hg (hsize.trans hml.symm) (argsL := As) (rest := rest) (fun sig h => hn.trans (hlen sig h)) hstack hW (by rw [hb]; exact hdg)
    (fun vm₁ hW₁ => ⟨hf.1, hf.2, hp.2 (T.setVm vm₁) hT hW₁⟩)
  dsimp only [Pt.U, Pt.locs, Pt.cells, Pt.slots] at X' e1 e2 h1 h2 h3 st
  subst h1; subst h2; subst h3
  exact ⟨v, (T.setVm vm₁).calling g' mk As.toArray, t, U', L, hT, X', hL, e1, e2, hq, st⟩
/-- not caught here, past rows that name other classes: it goes on to the caller -/
theorem vx_outP {p : Program} {l : Launch} {e : Env} {R : Room} {s : State} {m : MethodId} {args : Array Value} {below : List Frame} {meth : Method} {c : Code} {H : Heap} {locs : List Loc} {cells slots : Nat} {free : Addr → Prop} {ls : Array Slot} {rest : List Value} {Qc : Array Value → State → Outcome → State → Prop} {XC : String → State → State → Prop}
    {pc : Nat} {own E : String} {ce : Cell} {q : Addr} {mc ms : Nat} (hown : s.vm.findClass own = some m.cls) (hlocks : meth.locks = false)
    (hpass : ∀ z ∈ c.exceptionTable.toList, covers z pc = false ∨ (z.catchType ≠ 0 ∧ ∃ nm : String, (Cond.classLink own z.catchType nm).before args s = true ∧ va_Nc E nm s)) (hcell : H[q]? = some ce) (hv : ce.vm = .none) (hcl : s.vm.findClass E = some ce.cls)
    (hx : ∀ t : State, t.heap = H → s.vm.Alike t.vm → XC E s t) (hf : ∀ z ∈ locs, free z.base) (hc : cells ≤ mc) (hs : slots ≤ ms) :
    vx_W p l e R s m args below meth c H locs cells slots (vx_MQ below Qc XC args s mc ms free) (F0 m pc ls rest) q := by
  intro T hT X
  have hpl : e.platform.magicAccessors = ({} : Platform).magicAccessors := by rw [X.admits.platform]
  obtain ⟨vm', hW', X', st⟩ := X.outThrough hlocks q (g := F0 m pc ls rest) rfl rfl rfl (cell := ce) (by rw [hT]; exact hcell) (by rw [hv]; rfl)
    (by obtain ⟨k9, h9, -⟩ := Vm.findClass_spec hcl; exact ⟨k9, h9⟩) (fun z hz => by
      rcases hpass z hz with h | ⟨hz0, nm, hl1, hn1⟩
      · exact Or.inl h
      · obtain ⟨c6, hc6, hcl6⟩ := Cond.classLink_spec hown hl1 e.platform hpl
        obtain ⟨a8, b8, h1, h2, h3⟩ := hn1
        cases Option.some.inj (h1.symm.trans hcl)
        cases Option.some.inj (h2.symm.trans hc6)
        exact Or.inr ⟨hz0, _, hcl6, h3⟩)
  obtain ⟨g₀, hfr⟩ := X'.frames_eq
  have hcell9 : ((T.setVm vm').setFrames (.throwing q :: below)).heap[q]? = some ce := by
    show T.heap[q]? = some ce
    rw [hT]; exact hcell
  have hend : Ended ((T.setVm vm').setFrames (.throwing q :: below)) below (.threw q) := State.frames_setFrames _ (State.cur_lt_of_frames hfr)
  refine ⟨(T.setVm vm').setFrames (.throwing q :: below), ?_, .threw q, X'.here.running, hend, Or.inr ⟨q, rfl, E, ce, locs, hx _ hT (X'.ends _).1.alike, hcell9, hv, hcl, (X'.ends _).1, (X'.ends _).2.mono hc hs, hf⟩⟩
  rw [X.pushThrowing_eq]
  exact st
/-- a thing of a world lies in the heap -/
theorem vx_lt {D : va_G} {cl : List vw_C} {ws : va_W} {H1 : Heap} (h : va_P D cl ws H1) {k : Nat} {q : Nat × va_E} (hk : ws[k]? = some q) : q.1 < H1.size := (h k q hk).lt
end VXS
/-! ===== END ===== -/
/-! ===== BEGIN a constructor that throws (launches without stack traces) ===== -/
section VXIA
variable {p : Program} {l : Launch} {e : Env} {R : Room} {s : State} {m : MethodId} {args : Array Value} {below : List Frame} {meth : Method} {c : Code} {T : State} {locs : List Loc} {cells slots : Nat}
theorem vx_callI (X : Stand p l e R s m args below meth c T locs cells slots) (hexec : p.tables.exec = Jvm.exec) {own : String} {index : Nat} {y : MethodName} {bytes : ByteArray} {maxL : Nat}
    (hown : s.vm.findClass own = some m.cls) (hy1 : y.name = "<init>") (hlink : (Cond.methodLink own index y).before args s = true) (hinst : (Cond.instanceMethod y).before args s = true)
    (hcode : (Cond.code y bytes maxL none).before args s = true) (hy : y.cls ≠ "java/lang/invoke/MethodHandle" ∧ y.cls ≠ "java/lang/invoke/VarHandle")
    {W9 : Nat} {Pre : Pt → Array Value → Prop} {Post : Pt → Array Value → Option Value → Pt → Prop} {PostX : Pt → Array Value → Addr → Pt → Prop} (hK : vx_Back l R p e below s args y 3 W9 Pre Post PostX)
    {g : JFrame} (hg : g.method = m) (hsize : g.locals.size = c.maxLocals) {a : Addr} {argsL rest : List Value} (hlen : ∀ sig, parseMethodDescriptor y.desc = some sig → argsL.length = sig.parameters.length)
    (hstack : g.stack = argsL.reverse ++ .ref a :: rest) (hW : 2 * g.monitorRoom + (rest.map fun v => v.category).sum ≤ W9) (hdg : decode c.code g.pc = .ok (.invokespecial index, 3))
    (hpre : ∀ vm₁, s.WarmedH vm₁ → Pre ⟨T.setVm vm₁, locs, cells, slots⟩ (Value.ref a :: argsL).toArray) :
    (∃ (v : Option Value) (vm₁ : Vm) (B : Pt), s.WarmedH vm₁ ∧ Stand p l e R s m args below meth c B.U B.locs B.cells B.slots ∧ Post ⟨T.setVm vm₁, locs, cells, slots⟩ (Value.ref a :: argsL).toArray v B ∧
      ∀ target, Steps p.tables e below (B.U.setTop { g with pc := g.pc + 3, stack := v.toList ++ rest }) target → Steps p.tables e below (T.setTop g) target) ∨
    (∃ (q : Addr) (vm₁ : Vm) (B : Pt), s.WarmedH vm₁ ∧ Stand p l e R s m args below meth c B.U B.locs B.cells B.slots ∧ PostX ⟨T.setVm vm₁, locs, cells, slots⟩ (Value.ref a :: argsL).toArray q B ∧
      Steps p.tables e below (T.setTop g) ((B.U.setTop { g with stack := rest }).pushFrame (.throwing q))) := by
  subst hg
  have hpl : e.platform.magicAccessors = ({} : Platform).magicAccessors := by rw [X.admits.platform]
  obtain ⟨mk, methM, cM, kP, vm₁, hnamed, hmethM, hcodeM, -, hlocalsM, -, hkP, -, hW₁, hstep₁⟩ := Steps.initColdArgs (e := e) X.here hexec X.warmed hpl hown hy1 hy hlink hinst hcode (f := g) rfl hlen hstack hdg
  have X₁ := X.noted hW₁
  rcases hK g.method meth c ⟨T.setVm vm₁, locs, cells, slots⟩ { g with stack := rest } (.invokespecial index) mk (Value.ref a :: argsL).toArray X₁ rfl hsize hdg hW (X₁.named hnamed) (hpre vm₁ X₁.warmed) with ⟨v, B, X', hpost, hsteps⟩ | ⟨q, B, X', hpost, hsteps⟩
  · exact Or.inl ⟨v, vm₁, B, X₁.warmed, X', hpost, fun target h => hstep₁ _ fun acts => by rw [doInvoke_state]; exact hsteps.trans h⟩
  · exact Or.inr ⟨q, vm₁, B, X₁.warmed, X', hpost, hstep₁ _ fun acts => by rw [doInvoke_state]; exact hsteps⟩
end VXIA
section VXIB
variable {p : Program} {l : Launch} {e : Env} {R : Room} {s : State} {m : MethodId} {args : Array Value} {below : List Frame} {meth : Method} {c : Code} {H : Heap} {locs : List Loc} {cells slots : Nat}
variable {y : MethodName} {bytes cc : ByteArray} {maxL nL mc ms n index : Nat} {ret : Option FieldType} {ws : List Cond} {rm : Room} {Pc : Array Value → State → Prop} {Qc : Array Value → State → Outcome → State → Prop} {XC : String → State → State → Prop} {free : Addr → Prop} {Ts : List Cond} {own C : String} {b : Addr} {As rest : List Value} {g : JFrame}
theorem vx_runI (S : CallFix p m c cc nL s args Ts own) (hM : vx_Met l y ws rm Pc Qc XC mc ms free) (cw : CallB R s args own index y bytes maxL none ws rm mc ms n ∧ y.name = "<init>" ∧ (Cond.instanceMethod y).before args s = true) (hp : PreS s H Pc (.ref b :: As))
    (hg : g.method = m) (hn : As.length = n) (hsize : g.locals.size = nL) (hstack : g.stack = As.reverse ++ .ref b :: rest) (hW : 2 * g.monitorRoom + (rest.map fun v => v.category).sum ≤ 8) (hdg : decode cc g.pc = .ok (.invokespecial index, 3)) (hf : cells + mc ≤ R.cells ∧ slots + ms ≤ R.slots) :
    vx_Run p l e R s m args below meth c H locs cells slots mc ms g rest (Qc (Value.ref b :: As).toArray) XC free := by
  have hK : vx_Back l R p e below s args y 3 8 (PreOf R mc ms Pc) (PostOf Qc mc ms free) (vx_Post XC mc ms free) := vx_callBack cw.1 hM hp.1
  obtain ⟨⟨-, -, -, -, -, -, hcode, -, hy, hlen, hl⟩, hy1, hin⟩ := cw
  obtain ⟨hx, hb, hml, ho, -⟩ := S
  have hPc := hp.2
  intro T hT X
  rcases vx_callI X hx (bytes := bytes) (maxL := maxL) ho hy1 hl hin hcode hy hK hg (hsize.trans hml.symm) (a := b) (argsL := As) (rest := rest) (fun sig h => hn.trans (hlen sig h)) hstack hW (by rw [hb]; exact hdg)
    (fun vm₁ hW₁ => ⟨hf.1, hf.2, hPc (T.setVm vm₁) hT hW₁⟩) with ⟨v, vm₁, ⟨U', l2, c2, s2⟩, hW₁, X', ⟨g', mk, t, L, e1, e2, hq, h1, hL, h2, h3⟩, st⟩ | ⟨q, vm₁, ⟨U', l2, c2, s2⟩, hW₁, X', ⟨g', mk, t, L, E, ce, e1, e2, hq, hce, hcv, hcl, h1, hL, h2, h3⟩, st⟩
  · dsimp only [Pt.U, Pt.locs, Pt.cells, Pt.slots] at X' e1 e2 h1 h2 h3 st
    subst h1; subst h2; subst h3
    exact Or.inl ⟨v, (T.setVm vm₁).calling g' mk (Value.ref b :: As).toArray, t, U', L, hT, X', hL, e1, e2, hq, st⟩
  · dsimp only [Pt.U, Pt.locs, Pt.cells, Pt.slots] at X' e1 e2 h1 h2 h3 st hcl
    subst h1; subst h2; subst h3
    exact Or.inr ⟨q, (T.setVm vm₁).calling g' mk (Value.ref b :: As).toArray, t, U', L, E, ce, hT, X', hL, e1, e2, hq, hce, hcv, vx_cls hW₁ hcl, st⟩
end VXIB
/-! ===== END ===== -/
/-! ===== BEGIN a private constructor of a nest mate that throws ===== -/
section VXIC
variable {p : Program} {l : Launch} {e : Env} {R : Room} {s : State} {m : MethodId} {args : Array Value} {below : List Frame} {meth : Method} {c : Code} {T : State} {locs : List Loc} {cells slots : Nat}
theorem vx_callIN (X : Stand p l e R s m args below meth c T locs cells slots) (hexec : p.tables.exec = Jvm.exec) {own : String} {index : Nat} {host : String} {y : MethodName} {bytes : ByteArray} {maxL : Nat}
    (hown : s.vm.findClass own = some m.cls) (hy1 : y.name = "<init>") (hlink : (Cond.methodLinkNest own index y host).before args s = true) (hinst : (Cond.instanceMethod y).before args s = true)
    (hcode : (Cond.code y bytes maxL none).before args s = true) (hy : y.cls ≠ "java/lang/invoke/MethodHandle" ∧ y.cls ≠ "java/lang/invoke/VarHandle")
    {W9 : Nat} {Pre : Pt → Array Value → Prop} {Post : Pt → Array Value → Option Value → Pt → Prop} {PostX : Pt → Array Value → Addr → Pt → Prop} (hK : vx_Back l R p e below s args y 3 W9 Pre Post PostX)
    {g : JFrame} (hg : g.method = m) (hsize : g.locals.size = c.maxLocals) {a : Addr} {argsL rest : List Value} (hlen : ∀ sig, parseMethodDescriptor y.desc = some sig → argsL.length = sig.parameters.length)
    (hstack : g.stack = argsL.reverse ++ .ref a :: rest) (hW : 2 * g.monitorRoom + (rest.map fun v => v.category).sum ≤ W9) (hdg : decode c.code g.pc = .ok (.invokespecial index, 3))
    (hpre : ∀ vm₁, s.WarmedH vm₁ → Pre ⟨T.setVm vm₁, locs, cells, slots⟩ (Value.ref a :: argsL).toArray) :
    (∃ (v : Option Value) (vm₁ : Vm) (B : Pt), s.WarmedH vm₁ ∧ Stand p l e R s m args below meth c B.U B.locs B.cells B.slots ∧ Post ⟨T.setVm vm₁, locs, cells, slots⟩ (Value.ref a :: argsL).toArray v B ∧
      ∀ target, Steps p.tables e below (B.U.setTop { g with pc := g.pc + 3, stack := v.toList ++ rest }) target → Steps p.tables e below (T.setTop g) target) ∨
    (∃ (q : Addr) (vm₁ : Vm) (B : Pt), s.WarmedH vm₁ ∧ Stand p l e R s m args below meth c B.U B.locs B.cells B.slots ∧ PostX ⟨T.setVm vm₁, locs, cells, slots⟩ (Value.ref a :: argsL).toArray q B ∧
      Steps p.tables e below (T.setTop g) ((B.U.setTop { g with stack := rest }).pushFrame (.throwing q))) := by
  subst hg
  have hpl : e.platform.magicAccessors = ({} : Platform).magicAccessors := by rw [X.admits.platform]
  obtain ⟨mk, methM, cM, kP, vm₁, hnamed, hmethM, hcodeM, -, hlocalsM, -, hkP, -, hW₁, hstep₁⟩ := Steps.initColdArgsNest (e := e) X.here hexec X.warmed hpl hown hy1 hy hlink hinst hcode (f := g) rfl hlen hstack hdg
  have X₁ := X.noted hW₁
  rcases hK g.method meth c ⟨T.setVm vm₁, locs, cells, slots⟩ { g with stack := rest } (.invokespecial index) mk (Value.ref a :: argsL).toArray X₁ rfl hsize hdg hW (X₁.named hnamed) (hpre vm₁ X₁.warmed) with ⟨v, B, X', hpost, hsteps⟩ | ⟨q, B, X', hpost, hsteps⟩
  · exact Or.inl ⟨v, vm₁, B, X₁.warmed, X', hpost, fun target h => hstep₁ _ fun acts => by rw [doInvoke_state]; exact hsteps.trans h⟩
  · exact Or.inr ⟨q, vm₁, B, X₁.warmed, X', hpost, hstep₁ _ fun acts => by rw [doInvoke_state]; exact hsteps⟩
end VXIC
section VXID
variable {p : Program} {l : Launch} {e : Env} {R : Room} {s : State} {m : MethodId} {args : Array Value} {below : List Frame} {meth : Method} {c : Code} {H : Heap} {locs : List Loc} {cells slots : Nat}
theorem vx_runIN {y : MethodName} {bytes cc : ByteArray} {maxL nL mc ms n index : Nat} {ws : List Cond} {rm : Room} {Pc : Array Value → State → Prop} {Qc : Array Value → State → Outcome → State → Prop} {XC : String → State → State → Prop} {free : Addr → Prop} {Ts : List Cond} {own host : String} {b : Addr} {As rest : List Value} {g : JFrame}
    (S : CallFix p m c cc nL s args Ts own) (hM : vx_Met l y ws rm Pc Qc XC mc ms free) (cw : va_CN R s args own index y host bytes maxL none ws rm mc ms n ∧ y.name = "<init>" ∧ (Cond.instanceMethod y).before args s = true) (hp : PreS s H Pc (.ref b :: As))
    (hg : g.method = m) (hn : As.length = n) (hsize : g.locals.size = nL) (hstack : g.stack = As.reverse ++ .ref b :: rest) (hW : 2 * g.monitorRoom + (rest.map fun v => v.category).sum ≤ 8) (hdg : decode cc g.pc = .ok (.invokespecial index, 3)) (hf : cells + mc ≤ R.cells ∧ slots + ms ≤ R.slots) :
    vx_Run p l e R s m args below meth c H locs cells slots mc ms g rest (Qc (Value.ref b :: As).toArray) XC free := by
  obtain ⟨⟨⟨hrc, hrs, hfr, hlo, hws, hcw⟩, hcode, hini, hy, hlen, hl⟩, hx1, hx2⟩ := cw
  have hK : vx_Back l R p e below s args y 3 8 (PreOf R mc ms Pc) (PostOf Qc mc ms free) (vx_Post XC mc ms free) := vx_back (bytes := bytes) (maxL := maxL) (ret := none) hM hp.1 hrc hrs hfr hlo hws hcw (fun a' U hW => word_at hW (Or.inl (by first | rfl | simp [Cond.onTables, Cond.keeps, Cond.steady])) hini)
  obtain ⟨hx, hb, hml, ho, -⟩ := S
  have hPc := hp.2
  intro T hT X
  rcases vx_callIN X hx (bytes := bytes) (maxL := maxL) ho hx1 hl hx2 hcode hy hK hg (hsize.trans hml.symm) (a := b) (argsL := As) (rest := rest) (fun sig h => hn.trans (hlen sig h)) hstack hW (by rw [hb]; exact hdg)
    (fun vm₁ hW₁ => ⟨hf.1, hf.2, hPc (T.setVm vm₁) hT hW₁⟩) with ⟨v, vm₁, ⟨U', l2, c2, s2⟩, hW₁, X', ⟨g', mk, t, L, e1, e2, hq, h1, hL, h2, h3⟩, st⟩ | ⟨q, vm₁, ⟨U', l2, c2, s2⟩, hW₁, X', ⟨g', mk, t, L, E, ce, e1, e2, hq, hce, hcv, hcl, h1, hL, h2, h3⟩, st⟩
  · dsimp only [Pt.U, Pt.locs, Pt.cells, Pt.slots] at X' e1 e2 h1 h2 h3 st
    subst h1; subst h2; subst h3
    exact Or.inl ⟨v, (T.setVm vm₁).calling g' mk (Value.ref b :: As).toArray, t, U', L, hT, X', hL, e1, e2, hq, st⟩
  · dsimp only [Pt.U, Pt.locs, Pt.cells, Pt.slots] at X' e1 e2 h1 h2 h3 st hcl
    subst h1; subst h2; subst h3
    exact Or.inr ⟨q, (T.setVm vm₁).calling g' mk (Value.ref b :: As).toArray, t, U', L, E, ce, hT, X', hL, e1, e2, hq, hce, hcv, vx_cls hW₁ hcl, st⟩
end VXID
/-! ===== END ===== -/
end
section
/-! ===== BEGIN printed: names, fields, word lists, decode rows ===== -/
def RX0 : String := "FormRiver$Desks"
def TX0 : u_T := fun k => match k with
  | _ => ("FormRiver$Desks", "substitutes", "[I", true)
def tyX0 : Nat → FieldType := fun k => match k with
  | _ => .array .int
abbrev wsX00 : List Cond := u_ws RX0 TX0 1
theorem nmX0 : ∀ a, a < 1 → ∀ b, b < 1 → a ≠ b → (TX0 a).2.1 ≠ (TX0 b).2.1 := by decide +kernel
theorem tyX0_ok : ∀ k, k < 1 → parseFieldDescriptor (TX0 k).2.2.1 = some (tyX0 k) := by decide +kernel
abbrev cX0_init : ByteArray := prog_2_method_1_code
def yX0_init : MethodName := ⟨RX0, "<init>", "()V"⟩
abbrev cX0_lastInRow : ByteArray := prog_2_method_2_code
def yX0_lastInRow : MethodName := ⟨RX0, "lastInRow", "(I)I"⟩
abbrev cX0_leadsTo : ByteArray := prog_2_method_3_code
def yX0_leadsTo : MethodName := ⟨RX0, "leadsTo", "(II)Z"⟩
def RX1 : String := "FormRiver$Form"
def TX1 : u_T := fun k => match k with
  | 0 => ("FormRiver$Form", "number", "I", true)
  | 1 => ("FormRiver$Form", "versions", "Ljava/util/ArrayList;", true)
  | _ => ("FormRiver$Form", "sheets", "Ljava/util/ArrayList;", true)
def tyX1 : Nat → FieldType := fun k => match k with
  | 0 => .int
  | 1 => .object "java/util/ArrayList"
  | _ => .object "java/util/ArrayList"
abbrev wsX10 : List Cond := u_ws RX1 TX1 3
theorem nmX1 : ∀ a, a < 3 → ∀ b, b < 3 → a ≠ b → (TX1 a).2.1 ≠ (TX1 b).2.1 := by decide +kernel
theorem tyX1_ok : ∀ k, k < 3 → parseFieldDescriptor (TX1 k).2.2.1 = some (tyX1 k) := by decide +kernel
abbrev cX1_init : ByteArray := prog_3_method_1_code
def yX1_init : MethodName := ⟨RX1, "<init>", "(I)V"⟩
abbrev cX1_hasDraft : ByteArray := prog_3_method_2_code
def yX1_hasDraft : MethodName := ⟨RX1, "hasDraft", "()Z"⟩
abbrev cX1_presentNumber : ByteArray := prog_3_method_3_code
def yX1_presentNumber : MethodName := ⟨RX1, "presentNumber", "()I"⟩
abbrev cX1_publishDraft : ByteArray := prog_3_method_4_code
def yX1_publishDraft : MethodName := ⟨RX1, "publishDraft", "()V"⟩
abbrev cX1_carry : ByteArray := prog_3_method_5_code
def yX1_carry : MethodName := ⟨RX1, "carry", "(LFormRiver$Sheet;)LFormRiver$Sheet;"⟩
def RX2 : String := "FormRiver$Leg"
def TX2 : u_T := fun k => match k with
  | 0 => ("FormRiver$Leg", "stage", "I", true)
  | 1 => ("FormRiver$Leg", "desk", "I", true)
  | 2 => ("FormRiver$Leg", "question", "I", true)
  | 3 => ("FormRiver$Leg", "bound", "I", true)
  | _ => ("FormRiver$Leg", "patience", "I", true)
def tyX2 : Nat → FieldType := fun k => match k with
  | 0 => .int
  | 1 => .int
  | 2 => .int
  | 3 => .int
  | _ => .int
abbrev wsX20 : List Cond := u_ws RX2 TX2 5
theorem nmX2 : ∀ a, a < 5 → ∀ b, b < 5 → a ≠ b → (TX2 a).2.1 ≠ (TX2 b).2.1 := by decide +kernel
theorem tyX2_ok : ∀ k, k < 5 → parseFieldDescriptor (TX2 k).2.2.1 = some (tyX2 k) := by decide +kernel
abbrev cX2_init : ByteArray := prog_4_method_1_code
def yX2_init : MethodName := ⟨RX2, "<init>", "(IIIII)V"⟩
def RX3 : String := "FormRiver$Question"
def TX3 : u_T := fun k => match k with
  | 0 => ("FormRiver$Question", "meaning", "I", true)
  | 1 => ("FormRiver$Question", "formula", "C", true)
  | 2 => ("FormRiver$Question", "least", "I", true)
  | 3 => ("FormRiver$Question", "greatest", "I", true)
  | 4 => ("FormRiver$Question", "most", "I", true)
  | 5 => ("FormRiver$Question", "first", "I", true)
  | 6 => ("FormRiver$Question", "second", "I", true)
  | 7 => ("FormRiver$Question", "conditionOn", "I", false)
  | 8 => ("FormRiver$Question", "conditionKind", "C", false)
  | 9 => ("FormRiver$Question", "conditionBound", "I", false)
  | 10 => ("FormRiver$Question", "mapFrom", "I", false)
  | 11 => ("FormRiver$Question", "mapKind", "C", false)
  | _ => ("FormRiver$Question", "mapNumber", "I", false)
def tyX3 : Nat → FieldType := fun k => match k with
  | 0 => .int
  | 1 => .char
  | 2 => .int
  | 3 => .int
  | 4 => .int
  | 5 => .int
  | 6 => .int
  | 7 => .int
  | 8 => .char
  | 9 => .int
  | 10 => .int
  | 11 => .char
  | _ => .int
abbrev wsX30 : List Cond := u_ws RX3 TX3 13
theorem nmX3 : ∀ a, a < 13 → ∀ b, b < 13 → a ≠ b → (TX3 a).2.1 ≠ (TX3 b).2.1 := by decide +kernel
theorem tyX3_ok : ∀ k, k < 13 → parseFieldDescriptor (TX3 k).2.2.1 = some (tyX3 k) := by decide +kernel
abbrev cX3_init : ByteArray := prog_5_method_1_code
def yX3_init : MethodName := ⟨RX3, "<init>", "(ICIIIII)V"⟩
abbrev cX3_isComputed : ByteArray := prog_5_method_2_code
def yX3_isComputed : MethodName := ⟨RX3, "isComputed", "()Z"⟩
abbrev cX3_allows : ByteArray := prog_5_method_3_code
def yX3_allows : MethodName := ⟨RX3, "allows", "(I)Z"⟩
abbrev cX3_compute : ByteArray := prog_5_method_4_code
def yX3_compute : MethodName := ⟨RX3, "compute", "(II)I"⟩
abbrev cX3_isFulfilledBy : ByteArray := prog_5_method_5_code
def yX3_isFulfilledBy : MethodName := ⟨RX3, "isFulfilledBy", "(I)Z"⟩
abbrev cX3_mapped : ByteArray := prog_5_method_6_code
def yX3_mapped : MethodName := ⟨RX3, "mapped", "(I)I"⟩
def RX4 : String := "FormRiver$Records"
def TX4 : u_T := fun k => match k with
  | 0 => ("FormRiver$Records", "values", "[[I", true)
  | 1 => ("FormRiver$Records", "sources", "[[I", true)
  | 2 => ("FormRiver$Records", "valuesBefore", "[[I", true)
  | 3 => ("FormRiver$Records", "sourcesBefore", "[[I", true)
  | 4 => ("FormRiver$Records", "totals", "[J", true)
  | _ => ("FormRiver$Records", "counts", "[I", true)
def tyX4 : Nat → FieldType := fun k => match k with
  | 0 => .array (.array .int)
  | 1 => .array (.array .int)
  | 2 => .array (.array .int)
  | 3 => .array (.array .int)
  | 4 => .array .long
  | _ => .array .int
abbrev wsX40 : List Cond := u_ws RX4 TX4 6
theorem nmX4 : ∀ a, a < 6 → ∀ b, b < 6 → a ≠ b → (TX4 a).2.1 ≠ (TX4 b).2.1 := by decide +kernel
theorem tyX4_ok : ∀ k, k < 6 → parseFieldDescriptor (TX4 k).2.2.1 = some (tyX4 k) := by decide +kernel
abbrev cX4_init : ByteArray := prog_6_method_1_code
def yX4_init : MethodName := ⟨RX4, "<init>", "()V"⟩
abbrev cX4_has : ByteArray := prog_6_method_2_code
def yX4_has : MethodName := ⟨RX4, "has", "(II)Z"⟩
abbrev cX4_update : ByteArray := prog_6_method_3_code
def yX4_update : MethodName := ⟨RX4, "update", "(LFormRiver$Submission;Ljava/util/ArrayList;)V"⟩
abbrev cX4_keepValues : ByteArray := prog_6_method_4_code
def yX4_keepValues : MethodName := ⟨RX4, "keepValues", "(LFormRiver$Submission;LFormRiver$Sheet;)V"⟩
abbrev cX4_chooseSource : ByteArray := prog_6_method_5_code
def yX4_chooseSource : MethodName := ⟨RX4, "chooseSource", "(IILjava/util/ArrayList;)V"⟩
abbrev cX4_remember : ByteArray := prog_6_method_6_code
def yX4_remember : MethodName := ⟨RX4, "remember", "()V"⟩
abbrev cX4_changes : ByteArray := prog_6_method_7_code
def yX4_changes : MethodName := ⟨RX4, "changes", "()I"⟩
def RX5 : String := "FormRiver$Sheet"
def TX5 : u_T := fun k => match k with
  | 0 => ("FormRiver$Sheet", "versionNumber", "I", true)
  | _ => ("FormRiver$Sheet", "slots", "Ljava/util/ArrayList;", true)
def tyX5 : Nat → FieldType := fun k => match k with
  | 0 => .int
  | _ => .object "java/util/ArrayList"
abbrev wsX50 : List Cond := u_ws RX5 TX5 2
theorem nmX5 : ∀ a, a < 2 → ∀ b, b < 2 → a ≠ b → (TX5 a).2.1 ≠ (TX5 b).2.1 := by decide +kernel
theorem tyX5_ok : ∀ k, k < 2 → parseFieldDescriptor (TX5 k).2.2.1 = some (tyX5 k) := by decide +kernel
abbrev cX5_init : ByteArray := prog_7_method_1_code
def yX5_init : MethodName := ⟨RX5, "<init>", "(LFormRiver$Version;)V"⟩
abbrev cX5_settle : ByteArray := prog_7_method_2_code
def yX5_settle : MethodName := ⟨RX5, "settle", "()V"⟩
abbrev cX5_carryFrom : ByteArray := prog_7_method_3_code
def yX5_carryFrom : MethodName := ⟨RX5, "carryFrom", "(LFormRiver$Sheet;)V"⟩
abbrev cX5_isOpen : ByteArray := prog_7_method_4_code
def yX5_isOpen : MethodName := ⟨RX5, "isOpen", "(LFormRiver$Question;)Z"⟩
abbrev cX5_compute : ByteArray := prog_7_method_5_code
def yX5_compute : MethodName := ⟨RX5, "compute", "(LFormRiver$Slot;)V"⟩
abbrev cX5_copyAnswers : ByteArray := prog_7_method_6_code
def yX5_copyAnswers : MethodName := ⟨RX5, "copyAnswers", "(LFormRiver$Sheet;)V"⟩
abbrev cX5_clearAnswers : ByteArray := prog_7_method_7_code
def yX5_clearAnswers : MethodName := ⟨RX5, "clearAnswers", "()V"⟩
abbrev cX5_isComplete : ByteArray := prog_7_method_8_code
def yX5_isComplete : MethodName := ⟨RX5, "isComplete", "()Z"⟩
abbrev cX5_reaches : ByteArray := prog_7_method_9_code
def yX5_reaches : MethodName := ⟨RX5, "reaches", "(II)Z"⟩
abbrev cX5_plainOnes : ByteArray := prog_7_method_10_code
def yX5_plainOnes : MethodName := ⟨RX5, "plainOnes", "()I"⟩
abbrev cX5_plainOnesWithoutAnswers : ByteArray := prog_7_method_11_code
def yX5_plainOnesWithoutAnswers : MethodName := ⟨RX5, "plainOnesWithoutAnswers", "()I"⟩
abbrev cX5_tells : ByteArray := prog_7_method_12_code
def yX5_tells : MethodName := ⟨RX5, "tells", "(I)Z"⟩
abbrev cX5_told : ByteArray := prog_7_method_13_code
def yX5_told : MethodName := ⟨RX5, "told", "(I)I"⟩
def RX6 : String := "FormRiver$Slot"
def TX6 : u_T := fun k => match k with
  | 0 => ("FormRiver$Slot", "question", "LFormRiver$Question;", true)
  | 1 => ("FormRiver$Slot", "given", "[I", true)
  | 2 => ("FormRiver$Slot", "count", "I", false)
  | 3 => ("FormRiver$Slot", "isOpen", "Z", false)
  | 4 => ("FormRiver$Slot", "hasValue", "Z", false)
  | 5 => ("FormRiver$Slot", "value", "I", false)
  | 6 => ("FormRiver$Slot", "lack", "C", false)
  | 7 => ("FormRiver$Slot", "rootLack", "C", false)
  | 8 => ("FormRiver$Slot", "rootIn", "I", false)
  | _ => ("FormRiver$Slot", "stepsToRoot", "I", false)
def tyX6 : Nat → FieldType := fun k => match k with
  | 0 => .object "FormRiver$Question"
  | 1 => .array .int
  | 2 => .int
  | 3 => .boolean
  | 4 => .boolean
  | 5 => .int
  | 6 => .char
  | 7 => .char
  | 8 => .int
  | _ => .int
abbrev wsX60 : List Cond := u_ws RX6 TX6 10
theorem nmX6 : ∀ a, a < 10 → ∀ b, b < 10 → a ≠ b → (TX6 a).2.1 ≠ (TX6 b).2.1 := by decide +kernel
theorem tyX6_ok : ∀ k, k < 10 → parseFieldDescriptor (TX6 k).2.2.1 = some (tyX6 k) := by decide +kernel
abbrev cX6_init : ByteArray := prog_8_method_1_code
def yX6_init : MethodName := ⟨RX6, "<init>", "(LFormRiver$Question;)V"⟩
abbrev cX6_put : ByteArray := prog_8_method_2_code
def yX6_put : MethodName := ⟨RX6, "put", "(I)V"⟩
abbrev cX6_isUnanswered : ByteArray := prog_8_method_3_code
def yX6_isUnanswered : MethodName := ⟨RX6, "isUnanswered", "()Z"⟩
abbrev cX6_valueIs : ByteArray := prog_8_method_4_code
def yX6_valueIs : MethodName := ⟨RX6, "valueIs", "(I)V"⟩
abbrev cX6_valueIsSum : ByteArray := prog_8_method_5_code
def yX6_valueIsSum : MethodName := ⟨RX6, "valueIsSum", "()V"⟩
abbrev cX6_lacks : ByteArray := prog_8_method_6_code
def yX6_lacks : MethodName := ⟨RX6, "lacks", "(CI)V"⟩
abbrev cX6_lacksBecauseOf : ByteArray := prog_8_method_7_code
def yX6_lacksBecauseOf : MethodName := ⟨RX6, "lacksBecauseOf", "(LFormRiver$Slot;C)V"⟩
abbrev cX6_takeFrom : ByteArray := prog_8_method_8_code
def yX6_takeFrom : MethodName := ⟨RX6, "takeFrom", "(LFormRiver$Slot;I)V"⟩
def RX7 : String := "FormRiver$Submission"
def TX7 : u_T := fun k => match k with
  | 0 => ("FormRiver$Submission", "number", "I", true)
  | 1 => ("FormRiver$Submission", "person", "I", true)
  | 2 => ("FormRiver$Submission", "form", "LFormRiver$Form;", true)
  | 3 => ("FormRiver$Submission", "version", "LFormRiver$Version;", true)
  | 4 => ("FormRiver$Submission", "amended", "I", true)
  | 5 => ("FormRiver$Submission", "sheet", "LFormRiver$Sheet;", true)
  | 6 => ("FormRiver$Submission", "visits", "Ljava/util/ArrayList;", true)
  | 7 => ("FormRiver$Submission", "isKept", "[Z", true)
  | 8 => ("FormRiver$Submission", "keptValues", "[I", true)
  | 9 => ("FormRiver$Submission", "status", "C", false)
  | 10 => ("FormRiver$Submission", "changeable", "I", false)
  | 11 => ("FormRiver$Submission", "stageNow", "I", false)
  | 12 => ("FormRiver$Submission", "stageDay", "I", false)
  | 13 => ("FormRiver$Submission", "acceptedRank", "I", false)
  | _ => ("FormRiver$Submission", "keptUntil", "I", false)
def tyX7 : Nat → FieldType := fun k => match k with
  | 0 => .int
  | 1 => .int
  | 2 => .object "FormRiver$Form"
  | 3 => .object "FormRiver$Version"
  | 4 => .int
  | 5 => .object "FormRiver$Sheet"
  | 6 => .object "java/util/ArrayList"
  | 7 => .array .boolean
  | 8 => .array .int
  | 9 => .char
  | 10 => .int
  | 11 => .int
  | 12 => .int
  | 13 => .int
  | _ => .int
abbrev wsX70 : List Cond := u_ws RX7 TX7 15
theorem nmX7 : ∀ a, a < 15 → ∀ b, b < 15 → a ≠ b → (TX7 a).2.1 ≠ (TX7 b).2.1 := by decide +kernel
theorem tyX7_ok : ∀ k, k < 15 → parseFieldDescriptor (TX7 k).2.2.1 = some (tyX7 k) := by decide +kernel
abbrev cX7_init : ByteArray := prog_9_method_1_code
def yX7_init : MethodName := ⟨RX7, "<init>", "(IILFormRiver$Form;I)V"⟩
abbrev cX7_isUnderWay : ByteArray := prog_9_method_2_code
def yX7_isUnderWay : MethodName := ⟨RX7, "isUnderWay", "()Z"⟩
abbrev cX7_canChange : ByteArray := prog_9_method_3_code
def yX7_canChange : MethodName := ⟨RX7, "canChange", "(I)Z"⟩
abbrev cX7_waitingLegs : ByteArray := prog_9_method_4_code
def yX7_waitingLegs : MethodName := ⟨RX7, "waitingLegs", "()I"⟩
abbrev cX7_isAtDesk : ByteArray := prog_9_method_5_code
def yX7_isAtDesk : MethodName := ⟨RX7, "isAtDesk", "(I)Z"⟩
abbrev cX7_cameBefore : ByteArray := prog_9_method_6_code
def yX7_cameBefore : MethodName := ⟨RX7, "cameBefore", "(LFormRiver$Submission;)Z"⟩
abbrev cX7_beginStage : ByteArray := prog_9_method_7_code
def yX7_beginStage : MethodName := ⟨RX7, "beginStage", "(IILFormRiver$Desks;)V"⟩
abbrev cX7_comes : ByteArray := prog_9_method_8_code
def yX7_comes : MethodName := ⟨RX7, "comes", "(LFormRiver$Visit;)Z"⟩
abbrev cX7_valueBehind : ByteArray := prog_9_method_9_code
def yX7_valueBehind : MethodName := ⟨RX7, "valueBehind", "(LFormRiver$Leg;)I"⟩
abbrev cX7_approveAt : ByteArray := prog_9_method_10_code
def yX7_approveAt : MethodName := ⟨RX7, "approveAt", "(I)V"⟩
abbrev cX7_approveOverdue : ByteArray := prog_9_method_11_code
def yX7_approveOverdue : MethodName := ⟨RX7, "approveOverdue", "(I)V"⟩
abbrev cX7_approveLeg : ByteArray := prog_9_method_12_code
def yX7_approveLeg : MethodName := ⟨RX7, "approveLeg", "(LFormRiver$Visit;)V"⟩
abbrev cX7_leaveDesks : ByteArray := prog_9_method_13_code
def yX7_leaveDesks : MethodName := ⟨RX7, "leaveDesks", "(C)V"⟩
abbrev cX7_becomeAccepted : ByteArray := prog_9_method_14_code
def yX7_becomeAccepted : MethodName := ⟨RX7, "becomeAccepted", "(II)V"⟩
def RX8 : String := "FormRiver$Version"
def TX8 : u_T := fun k => match k with
  | 0 => ("FormRiver$Version", "number", "I", true)
  | 1 => ("FormRiver$Version", "questions", "Ljava/util/ArrayList;", true)
  | 2 => ("FormRiver$Version", "legs", "Ljava/util/ArrayList;", true)
  | 3 => ("FormRiver$Version", "keepingDays", "I", false)
  | 4 => ("FormRiver$Version", "keepingQuestion", "I", false)
  | 5 => ("FormRiver$Version", "keepingBound", "I", false)
  | _ => ("FormRiver$Version", "keepingLonger", "I", false)
def tyX8 : Nat → FieldType := fun k => match k with
  | 0 => .int
  | 1 => .object "java/util/ArrayList"
  | 2 => .object "java/util/ArrayList"
  | 3 => .int
  | 4 => .int
  | 5 => .int
  | _ => .int
abbrev wsX80 : List Cond := u_ws RX8 TX8 7
theorem nmX8 : ∀ a, a < 7 → ∀ b, b < 7 → a ≠ b → (TX8 a).2.1 ≠ (TX8 b).2.1 := by decide +kernel
theorem tyX8_ok : ∀ k, k < 7 → parseFieldDescriptor (TX8 k).2.2.1 = some (tyX8 k) := by decide +kernel
abbrev cX8_init : ByteArray := prog_10_method_1_code
def yX8_init : MethodName := ⟨RX8, "<init>", "(I)V"⟩
abbrev cX8_hasQuestion : ByteArray := prog_10_method_2_code
def yX8_hasQuestion : MethodName := ⟨RX8, "hasQuestion", "(I)Z"⟩
abbrev cX8_hasLeg : ByteArray := prog_10_method_3_code
def yX8_hasLeg : MethodName := ⟨RX8, "hasLeg", "(II)Z"⟩
abbrev cX8_conditions : ByteArray := prog_10_method_4_code
def yX8_conditions : MethodName := ⟨RX8, "conditions", "()I"⟩
abbrev cX8_maps : ByteArray := prog_10_method_5_code
def yX8_maps : MethodName := ⟨RX8, "maps", "()I"⟩
abbrev cX8_hasMeaningTwice : ByteArray := prog_10_method_6_code
def yX8_hasMeaningTwice : MethodName := ⟨RX8, "hasMeaningTwice", "()Z"⟩
def RX9 : String := "FormRiver$Visit"
def TX9 : u_T := fun k => match k with
  | 0 => ("FormRiver$Visit", "leg", "LFormRiver$Leg;", true)
  | 1 => ("FormRiver$Visit", "desk", "I", false)
  | 2 => ("FormRiver$Visit", "isApproved", "Z", false)
  | _ => ("FormRiver$Visit", "approvedFor", "I", false)
def tyX9 : Nat → FieldType := fun k => match k with
  | 0 => .object "FormRiver$Leg"
  | 1 => .int
  | 2 => .boolean
  | _ => .int
abbrev wsX90 : List Cond := u_ws RX9 TX9 4
theorem nmX9 : ∀ a, a < 4 → ∀ b, b < 4 → a ≠ b → (TX9 a).2.1 ≠ (TX9 b).2.1 := by decide +kernel
theorem tyX9_ok : ∀ k, k < 4 → parseFieldDescriptor (TX9 k).2.2.1 = some (tyX9 k) := by decide +kernel
abbrev cX9_init : ByteArray := prog_11_method_1_code
def yX9_init : MethodName := ⟨RX9, "<init>", "(LFormRiver$Leg;)V"⟩
def RX10 : String := "FormRiver"
def TX10 : u_T := fun k => match k with
  | 0 => ("FormRiver", "forms", "Ljava/util/ArrayList;", true)
  | 1 => ("FormRiver", "submissions", "Ljava/util/ArrayList;", true)
  | 2 => ("FormRiver", "desks", "LFormRiver$Desks;", true)
  | 3 => ("FormRiver", "records", "LFormRiver$Records;", true)
  | 4 => ("FormRiver", "owners", "[I", true)
  | 5 => ("FormRiver", "heldPeople", "[Z", true)
  | 6 => ("FormRiver", "today", "I", false)
  | _ => ("FormRiver", "acceptances", "I", false)
def tyX10 : Nat → FieldType := fun k => match k with
  | 0 => .object "java/util/ArrayList"
  | 1 => .object "java/util/ArrayList"
  | 2 => .object "FormRiver$Desks"
  | 3 => .object "FormRiver$Records"
  | 4 => .array .int
  | 5 => .array .boolean
  | 6 => .int
  | _ => .int
abbrev wsX100 : List Cond := u_ws RX10 TX10 8
theorem nmX10 : ∀ a, a < 8 → ∀ b, b < 8 → a ≠ b → (TX10 a).2.1 ≠ (TX10 b).2.1 := by decide +kernel
theorem tyX10_ok : ∀ k, k < 8 → parseFieldDescriptor (TX10 k).2.2.1 = some (tyX10 k) := by decide +kernel
abbrev cX10_init : ByteArray := prog_1_method_1_code
def yX10_init : MethodName := ⟨RX10, "<init>", "()V"⟩
abbrev cX10_addForm : ByteArray := prog_1_method_2_code
def yX10_addForm : MethodName := ⟨RX10, "addForm", "()I"⟩
abbrev cX10_addVersion : ByteArray := prog_1_method_3_code
def yX10_addVersion : MethodName := ⟨RX10, "addVersion", "(I)I"⟩
abbrev cX10_addQuestion : ByteArray := prog_1_method_4_code
def yX10_addQuestion : MethodName := ⟨RX10, "addQuestion", "(IIIII)I"⟩
abbrev cX10_addComputed : ByteArray := prog_1_method_5_code
def yX10_addComputed : MethodName := ⟨RX10, "addComputed", "(IICII)I"⟩
abbrev cX10_setCondition : ByteArray := prog_1_method_6_code
def yX10_setCondition : MethodName := ⟨RX10, "setCondition", "(IIICI)I"⟩
abbrev cX10_setMap : ByteArray := prog_1_method_7_code
def yX10_setMap : MethodName := ⟨RX10, "setMap", "(IIICI)I"⟩
abbrev cX10_addLeg : ByteArray := prog_1_method_8_code
def yX10_addLeg : MethodName := ⟨RX10, "addLeg", "(IIIIII)I"⟩
abbrev cX10_setKeeping : ByteArray := prog_1_method_9_code
def yX10_setKeeping : MethodName := ⟨RX10, "setKeeping", "(IIIII)I"⟩
abbrev cX10_publish : ByteArray := prog_1_method_10_code
def yX10_publish : MethodName := ⟨RX10, "publish", "(I)I"⟩
abbrev cX10_present : ByteArray := prog_1_method_11_code
def yX10_present : MethodName := ⟨RX10, "present", "(I)I"⟩
abbrev cX10_owner : ByteArray := prog_1_method_12_code
def yX10_owner : MethodName := ⟨RX10, "owner", "(I)I"⟩
abbrev cX10_setSubstitute : ByteArray := prog_1_method_13_code
def yX10_setSubstitute : MethodName := ⟨RX10, "setSubstitute", "(II)I"⟩
abbrev cX10_start : ByteArray := prog_1_method_14_code
def yX10_start : MethodName := ⟨RX10, "start", "(II)I"⟩
abbrev cX10_amend : ByteArray := prog_1_method_15_code
def yX10_amend : MethodName := ⟨RX10, "amend", "(I)I"⟩
abbrev cX10_answer : ByteArray := prog_1_method_16_code
def yX10_answer : MethodName := ⟨RX10, "answer", "(III)I"⟩
abbrev cX10_takeBack : ByteArray := prog_1_method_17_code
def yX10_takeBack : MethodName := ⟨RX10, "takeBack", "(II)I"⟩
abbrev cX10_prefill : ByteArray := prog_1_method_18_code
def yX10_prefill : MethodName := ⟨RX10, "prefill", "(I)I"⟩
abbrev cX10_submit : ByteArray := prog_1_method_19_code
def yX10_submit : MethodName := ⟨RX10, "submit", "(I)I"⟩
abbrev cX10_approve : ByteArray := prog_1_method_20_code
def yX10_approve : MethodName := ⟨RX10, "approve", "(II)I"⟩
abbrev cX10_sendBack : ByteArray := prog_1_method_21_code
def yX10_sendBack : MethodName := ⟨RX10, "sendBack", "(III)I"⟩
abbrev cX10_reject : ByteArray := prog_1_method_22_code
def yX10_reject : MethodName := ⟨RX10, "reject", "(II)I"⟩
abbrev cX10_withdraw : ByteArray := prog_1_method_23_code
def yX10_withdraw : MethodName := ⟨RX10, "withdraw", "(I)C"⟩
abbrev cX10_state : ByteArray := prog_1_method_24_code
def yX10_state : MethodName := ⟨RX10, "state", "(I)C"⟩
abbrev cX10_isAsked : ByteArray := prog_1_method_25_code
def yX10_isAsked : MethodName := ⟨RX10, "isAsked", "(II)Z"⟩
abbrev cX10_value : ByteArray := prog_1_method_26_code
def yX10_value : MethodName := ⟨RX10, "value", "(II)I"⟩
abbrev cX10_answers : ByteArray := prog_1_method_27_code
def yX10_answers : MethodName := ⟨RX10, "answers", "(II)I"⟩
abbrev cX10_stage : ByteArray := prog_1_method_28_code
def yX10_stage : MethodName := ⟨RX10, "stage", "(I)I"⟩
abbrev cX10_waits : ByteArray := prog_1_method_29_code
def yX10_waits : MethodName := ⟨RX10, "waits", "(II)Z"⟩
abbrev cX10_waitingAt : ByteArray := prog_1_method_30_code
def yX10_waitingAt : MethodName := ⟨RX10, "waitingAt", "(II)I"⟩
abbrev cX10_carried : ByteArray := prog_1_method_31_code
def yX10_carried : MethodName := ⟨RX10, "carried", "(II)I"⟩
abbrev cX10_reason : ByteArray := prog_1_method_32_code
def yX10_reason : MethodName := ⟨RX10, "reason", "(II)C"⟩
abbrev cX10_root : ByteArray := prog_1_method_33_code
def yX10_root : MethodName := ⟨RX10, "root", "(II)C"⟩
abbrev cX10_rootVersion : ByteArray := prog_1_method_34_code
def yX10_rootVersion : MethodName := ⟨RX10, "rootVersion", "(II)I"⟩
abbrev cX10_causes : ByteArray := prog_1_method_35_code
def yX10_causes : MethodName := ⟨RX10, "causes", "(II)I"⟩
abbrev cX10_record : ByteArray := prog_1_method_36_code
def yX10_record : MethodName := ⟨RX10, "record", "(II)I"⟩
abbrev cX10_recordAnew : ByteArray := prog_1_method_37_code
def yX10_recordAnew : MethodName := ⟨RX10, "recordAnew", "(II)I"⟩
abbrev cX10_source : ByteArray := prog_1_method_38_code
def yX10_source : MethodName := ⟨RX10, "source", "(II)I"⟩
abbrev cX10_total : ByteArray := prog_1_method_39_code
def yX10_total : MethodName := ⟨RX10, "total", "(I)J"⟩
abbrev cX10_totalAnew : ByteArray := prog_1_method_40_code
def yX10_totalAnew : MethodName := ⟨RX10, "totalAnew", "(I)J"⟩
abbrev cX10_counted : ByteArray := prog_1_method_41_code
def yX10_counted : MethodName := ⟨RX10, "counted", "(I)I"⟩
abbrev cX10_hold : ByteArray := prog_1_method_42_code
def yX10_hold : MethodName := ⟨RX10, "hold", "(IZ)Z"⟩
abbrev cX10_lastDay : ByteArray := prog_1_method_43_code
def yX10_lastDay : MethodName := ⟨RX10, "lastDay", "(I)I"⟩
abbrev cX10_pass : ByteArray := prog_1_method_44_code
def yX10_pass : MethodName := ⟨RX10, "pass", "(I)I"⟩
abbrev cX10_day : ByteArray := prog_1_method_45_code
def yX10_day : MethodName := ⟨RX10, "day", "()I"⟩
abbrev cX10_meanValue : ByteArray := prog_1_method_46_code
def yX10_meanValue : MethodName := ⟨RX10, "meanValue", "(I)D"⟩
abbrev cX10_acceptedShare : ByteArray := prog_1_method_47_code
def yX10_acceptedShare : MethodName := ⟨RX10, "acceptedShare", "()F"⟩
abbrev cX10_isSound : ByteArray := prog_1_method_48_code
def yX10_isSound : MethodName := ⟨RX10, "isSound", "(I)Z"⟩
abbrev cX10_formAt : ByteArray := prog_1_method_49_code
def yX10_formAt : MethodName := ⟨RX10, "formAt", "(I)LFormRiver$Form;"⟩
abbrev cX10_submissionAt : ByteArray := prog_1_method_50_code
def yX10_submissionAt : MethodName := ⟨RX10, "submissionAt", "(I)LFormRiver$Submission;"⟩
abbrev cX10_slotAt : ByteArray := prog_1_method_51_code
def yX10_slotAt : MethodName := ⟨RX10, "slotAt", "(LFormRiver$Sheet;I)LFormRiver$Slot;"⟩
abbrev cX10_slotCarried : ByteArray := prog_1_method_52_code
def yX10_slotCarried : MethodName := ⟨RX10, "slotCarried", "(II)LFormRiver$Slot;"⟩
abbrev cX10_slotWithoutValue : ByteArray := prog_1_method_53_code
def yX10_slotWithoutValue : MethodName := ⟨RX10, "slotWithoutValue", "(II)LFormRiver$Slot;"⟩
abbrev cX10_valueOf : ByteArray := prog_1_method_54_code
def yX10_valueOf : MethodName := ⟨RX10, "valueOf", "(LFormRiver$Slot;)I"⟩
abbrev cX10_draftOf : ByteArray := prog_1_method_55_code
def yX10_draftOf : MethodName := ⟨RX10, "draftOf", "(LFormRiver$Form;)LFormRiver$Version;"⟩
abbrev cX10_draftWithPlace : ByteArray := prog_1_method_56_code
def yX10_draftWithPlace : MethodName := ⟨RX10, "draftWithPlace", "(LFormRiver$Form;)LFormRiver$Version;"⟩
abbrev cX10_needQuestionOrNone : ByteArray := prog_1_method_57_code
def yX10_needQuestionOrNone : MethodName := ⟨RX10, "needQuestionOrNone", "(LFormRiver$Version;I)V"⟩
abbrev cX10_needPublished : ByteArray := prog_1_method_58_code
def yX10_needPublished : MethodName := ⟨RX10, "needPublished", "(LFormRiver$Form;)V"⟩
abbrev cX10_needPerson : ByteArray := prog_1_method_59_code
def yX10_needPerson : MethodName := ⟨RX10, "needPerson", "(I)V"⟩
abbrev cX10_needDesk : ByteArray := prog_1_method_60_code
def yX10_needDesk : MethodName := ⟨RX10, "needDesk", "(I)V"⟩
abbrev cX10_needMeaning : ByteArray := prog_1_method_61_code
def yX10_needMeaning : MethodName := ⟨RX10, "needMeaning", "(I)V"⟩
abbrev cX10_needRecord : ByteArray := prog_1_method_62_code
def yX10_needRecord : MethodName := ⟨RX10, "needRecord", "(II)V"⟩
abbrev cX10_needFilling : ByteArray := prog_1_method_63_code
def yX10_needFilling : MethodName := ⟨RX10, "needFilling", "(LFormRiver$Submission;)V"⟩
abbrev cX10_needWaiting : ByteArray := prog_1_method_64_code
def yX10_needWaiting : MethodName := ⟨RX10, "needWaiting", "(LFormRiver$Submission;I)V"⟩
abbrev cX10_isOutside : ByteArray := prog_1_method_65_code
def yX10_isOutside : MethodName := ⟨RX10, "isOutside", "(III)Z"⟩
abbrev cX10_isComputedKind : ByteArray := prog_1_method_66_code
def yX10_isComputedKind : MethodName := ⟨RX10, "isComputedKind", "(C)Z"⟩
abbrev cX10_hasForeignMeaning : ByteArray := prog_1_method_67_code
def yX10_hasForeignMeaning : MethodName := ⟨RX10, "hasForeignMeaning", "(LFormRiver$Version;I)Z"⟩
abbrev cX10_ownMeanings : ByteArray := prog_1_method_68_code
def yX10_ownMeanings : MethodName := ⟨RX10, "ownMeanings", "(LFormRiver$Version;I)V"⟩
abbrev cX10_isBeingAmended : ByteArray := prog_1_method_69_code
def yX10_isBeingAmended : MethodName := ⟨RX10, "isBeingAmended", "(I)Z"⟩
abbrev cX10_moveOn : ByteArray := prog_1_method_70_code
def yX10_moveOn : MethodName := ⟨RX10, "moveOn", "(LFormRiver$Submission;I)V"⟩
abbrev cX10_letGo : ByteArray := prog_1_method_71_code
def yX10_letGo : MethodName := ⟨RX10, "letGo", "()I"⟩
abbrev cX10_waitingAhead : ByteArray := prog_1_method_72_code
def yX10_waitingAhead : MethodName := ⟨RX10, "waitingAhead", "(LFormRiver$Submission;I)I"⟩
abbrev cX10_tellsAnew : ByteArray := prog_1_method_73_code
def yX10_tellsAnew : MethodName := ⟨RX10, "tellsAnew", "(LFormRiver$Submission;I)Z"⟩
abbrev cX10_valueAnew : ByteArray := prog_1_method_74_code
def yX10_valueAnew : MethodName := ⟨RX10, "valueAnew", "(LFormRiver$Submission;I)I"⟩
abbrev cX10_sourceAnew : ByteArray := prog_1_method_75_code
def yX10_sourceAnew : MethodName := ⟨RX10, "sourceAnew", "(II)I"⟩
abbrev cX10_isSoundRecord : ByteArray := prog_1_method_76_code
def yX10_isSoundRecord : MethodName := ⟨RX10, "isSoundRecord", "(III)Z"⟩
def RX11 : String := "FormRiverModel$Sheet"
def TX11 : u_T := fun k => match k with
  | 0 => ("FormRiverModel$Sheet", "version", "LFormRiverModel$Version;", true)
  | 1 => ("FormRiverModel$Sheet", "number", "I", true)
  | 2 => ("FormRiverModel$Sheet", "before", "LFormRiverModel$Sheet;", true)
  | 3 => ("FormRiverModel$Sheet", "answers", "[[I", true)
  | 4 => ("FormRiverModel$Sheet", "counts", "[I", true)
  | _ => ("FormRiverModel$Sheet", "lacks", "[C", true)
def tyX11 : Nat → FieldType := fun k => match k with
  | 0 => .object "FormRiverModel$Version"
  | 1 => .int
  | 2 => .object "FormRiverModel$Sheet"
  | 3 => .array (.array .int)
  | 4 => .array .int
  | _ => .array .char
abbrev wsX110 : List Cond := u_ws RX11 TX11 6
theorem nmX11 : ∀ a, a < 6 → ∀ b, b < 6 → a ≠ b → (TX11 a).2.1 ≠ (TX11 b).2.1 := by decide +kernel
theorem tyX11_ok : ∀ k, k < 6 → parseFieldDescriptor (TX11 k).2.2.1 = some (tyX11 k) := by decide +kernel
abbrev cX11_init : ByteArray := prog_14_method_1_code
def yX11_init : MethodName := ⟨RX11, "<init>", "(LFormRiverModel$Version;ILFormRiverModel$Sheet;)V"⟩
abbrev cX11_isAsked : ByteArray := prog_14_method_2_code
def yX11_isAsked : MethodName := ⟨RX11, "isAsked", "(I)Z"⟩
abbrev cX11_hasValue : ByteArray := prog_14_method_3_code
def yX11_hasValue : MethodName := ⟨RX11, "hasValue", "(I)Z"⟩
abbrev cX11_value : ByteArray := prog_14_method_4_code
def yX11_value : MethodName := ⟨RX11, "value", "(I)I"⟩
abbrev cX11_mapped : ByteArray := prog_14_method_5_code
def yX11_mapped : MethodName := ⟨RX11, "mapped", "(ICI)I"⟩
abbrev cX11_carries : ByteArray := prog_14_method_6_code
def yX11_carries : MethodName := ⟨RX11, "carries", "(I)C"⟩
abbrev cX11_reason : ByteArray := prog_14_method_7_code
def yX11_reason : MethodName := ⟨RX11, "reason", "(I)C"⟩
abbrev cX11_hasCause : ByteArray := prog_14_method_8_code
def yX11_hasCause : MethodName := ⟨RX11, "hasCause", "(I)Z"⟩
abbrev cX11_causeOf : ByteArray := prog_14_method_9_code
def yX11_causeOf : MethodName := ⟨RX11, "causeOf", "(I)I"⟩
def RX12 : String := "FormRiverModel$Submission"
def TX12 : u_T := fun k => match k with
  | 0 => ("FormRiverModel$Submission", "person", "I", false)
  | 1 => ("FormRiverModel$Submission", "form", "I", false)
  | 2 => ("FormRiverModel$Submission", "version", "I", false)
  | 3 => ("FormRiverModel$Submission", "stage", "I", false)
  | 4 => ("FormRiverModel$Submission", "stageDay", "I", false)
  | 5 => ("FormRiverModel$Submission", "amends", "I", false)
  | 6 => ("FormRiverModel$Submission", "order", "I", false)
  | 7 => ("FormRiverModel$Submission", "acceptedOn", "I", false)
  | 8 => ("FormRiverModel$Submission", "lastDay", "I", false)
  | 9 => ("FormRiverModel$Submission", "changeable", "I", false)
  | 10 => ("FormRiverModel$Submission", "state", "C", false)
  | 11 => ("FormRiverModel$Submission", "answers", "[[I", true)
  | 12 => ("FormRiverModel$Submission", "counts", "[I", true)
  | 13 => ("FormRiverModel$Submission", "waits", "[I", true)
  | 14 => ("FormRiverModel$Submission", "came", "[I", true)
  | 15 => ("FormRiverModel$Submission", "values", "[I", true)
  | _ => ("FormRiverModel$Submission", "wasApproved", "[Z", true)
def tyX12 : Nat → FieldType := fun k => match k with
  | 0 => .int
  | 1 => .int
  | 2 => .int
  | 3 => .int
  | 4 => .int
  | 5 => .int
  | 6 => .int
  | 7 => .int
  | 8 => .int
  | 9 => .int
  | 10 => .char
  | 11 => .array (.array .int)
  | 12 => .array .int
  | 13 => .array .int
  | 14 => .array .int
  | 15 => .array .int
  | _ => .array .boolean
abbrev wsX120 : List Cond := u_ws RX12 TX12 17
theorem nmX12 : ∀ a, a < 17 → ∀ b, b < 17 → a ≠ b → (TX12 a).2.1 ≠ (TX12 b).2.1 := by decide +kernel
theorem tyX12_ok : ∀ k, k < 17 → parseFieldDescriptor (TX12 k).2.2.1 = some (tyX12 k) := by decide +kernel
abbrev cX12_init : ByteArray := prog_15_method_1_code
def yX12_init : MethodName := ⟨RX12, "<init>", "()V"⟩
abbrev cX12_isOpen : ByteArray := prog_15_method_2_code
def yX12_isOpen : MethodName := ⟨RX12, "isOpen", "()Z"⟩
def RX13 : String := "FormRiverModel$Version"
def TX13 : u_T := fun k => match k with
  | 0 => ("FormRiverModel$Version", "questions", "I", false)
  | 1 => ("FormRiverModel$Version", "legs", "I", false)
  | 2 => ("FormRiverModel$Version", "days", "I", false)
  | 3 => ("FormRiverModel$Version", "keepQuestion", "I", false)
  | 4 => ("FormRiverModel$Version", "keepBound", "I", false)
  | 5 => ("FormRiverModel$Version", "longer", "I", false)
  | 6 => ("FormRiverModel$Version", "kinds", "[C", true)
  | 7 => ("FormRiverModel$Version", "conditionKinds", "[C", true)
  | 8 => ("FormRiverModel$Version", "mapKinds", "[C", true)
  | 9 => ("FormRiverModel$Version", "meanings", "[I", true)
  | 10 => ("FormRiverModel$Version", "leasts", "[I", true)
  | 11 => ("FormRiverModel$Version", "greatests", "[I", true)
  | 12 => ("FormRiverModel$Version", "mosts", "[I", true)
  | 13 => ("FormRiverModel$Version", "firsts", "[I", true)
  | 14 => ("FormRiverModel$Version", "seconds", "[I", true)
  | 15 => ("FormRiverModel$Version", "conditions", "[I", true)
  | 16 => ("FormRiverModel$Version", "bounds", "[I", true)
  | 17 => ("FormRiverModel$Version", "maps", "[I", true)
  | 18 => ("FormRiverModel$Version", "mapNumbers", "[I", true)
  | 19 => ("FormRiverModel$Version", "stages", "[I", true)
  | 20 => ("FormRiverModel$Version", "desks", "[I", true)
  | 21 => ("FormRiverModel$Version", "legQuestions", "[I", true)
  | 22 => ("FormRiverModel$Version", "legBounds", "[I", true)
  | _ => ("FormRiverModel$Version", "patiences", "[I", true)
def tyX13 : Nat → FieldType := fun k => match k with
  | 0 => .int
  | 1 => .int
  | 2 => .int
  | 3 => .int
  | 4 => .int
  | 5 => .int
  | 6 => .array .char
  | 7 => .array .char
  | 8 => .array .char
  | 9 => .array .int
  | 10 => .array .int
  | 11 => .array .int
  | 12 => .array .int
  | 13 => .array .int
  | 14 => .array .int
  | 15 => .array .int
  | 16 => .array .int
  | 17 => .array .int
  | 18 => .array .int
  | 19 => .array .int
  | 20 => .array .int
  | 21 => .array .int
  | 22 => .array .int
  | _ => .array .int
abbrev wsX130 : List Cond := u_ws RX13 TX13 24
theorem nmX13 : ∀ a, a < 24 → ∀ b, b < 24 → a ≠ b → (TX13 a).2.1 ≠ (TX13 b).2.1 := by decide +kernel
theorem tyX13_ok : ∀ k, k < 24 → parseFieldDescriptor (TX13 k).2.2.1 = some (tyX13 k) := by decide +kernel
abbrev cX13_init : ByteArray := prog_16_method_1_code
def yX13_init : MethodName := ⟨RX13, "<init>", "()V"⟩
abbrev cX13_isPlain : ByteArray := prog_16_method_2_code
def yX13_isPlain : MethodName := ⟨RX13, "isPlain", "(I)Z"⟩
abbrev cX13_questionOf : ByteArray := prog_16_method_3_code
def yX13_questionOf : MethodName := ⟨RX13, "questionOf", "(I)I"⟩
def RX14 : String := "FormRiverModel"
def TX14 : u_T := fun k => match k with
  | 0 => ("FormRiverModel", "thrown", "I", false)
  | 1 => ("FormRiverModel", "versions", "[[LFormRiverModel$Version;", true)
  | 2 => ("FormRiverModel", "many", "[I", true)
  | 3 => ("FormRiverModel", "present", "[I", true)
  | 4 => ("FormRiverModel", "owners", "[I", true)
  | 5 => ("FormRiverModel", "substitutes", "[I", true)
  | 6 => ("FormRiverModel", "submissions", "[LFormRiverModel$Submission;", true)
  | 7 => ("FormRiverModel", "isHeld", "[Z", true)
  | 8 => ("FormRiverModel", "forms", "I", false)
  | 9 => ("FormRiverModel", "started", "I", false)
  | 10 => ("FormRiverModel", "accepted", "I", false)
  | 11 => ("FormRiverModel", "day", "I", false)
  | _ => ("FormRiverModel", "goneNow", "I", false)
def tyX14 : Nat → FieldType := fun k => match k with
  | 0 => .int
  | 1 => .array (.array (.object "FormRiverModel$Version"))
  | 2 => .array .int
  | 3 => .array .int
  | 4 => .array .int
  | 5 => .array .int
  | 6 => .array (.object "FormRiverModel$Submission")
  | 7 => .array .boolean
  | 8 => .int
  | 9 => .int
  | 10 => .int
  | 11 => .int
  | _ => .int
abbrev wsX140 : List Cond := u_ws RX14 TX14 13
theorem nmX14 : ∀ a, a < 13 → ∀ b, b < 13 → a ≠ b → (TX14 a).2.1 ≠ (TX14 b).2.1 := by decide +kernel
theorem tyX14_ok : ∀ k, k < 13 → parseFieldDescriptor (TX14 k).2.2.1 = some (tyX14 k) := by decide +kernel
abbrev cX14_thrown : ByteArray := prog_13_method_1_code
def yX14_thrown : MethodName := ⟨RX14, "thrown", "()I"⟩
abbrev cX14_fails : ByteArray := prog_13_method_2_code
def yX14_fails : MethodName := ⟨RX14, "fails", "(I)I"⟩
abbrev cX14_isBetween : ByteArray := prog_13_method_3_code
def yX14_isBetween : MethodName := ⟨RX14, "isBetween", "(III)Z"⟩
abbrev cX14_init : ByteArray := prog_13_method_4_code
def yX14_init : MethodName := ⟨RX14, "<init>", "()V"⟩
abbrev cX14_isForm : ByteArray := prog_13_method_5_code
def yX14_isForm : MethodName := ⟨RX14, "isForm", "(I)Z"⟩
abbrev cX14_draft : ByteArray := prog_13_method_6_code
def yX14_draft : MethodName := ⟨RX14, "draft", "(I)LFormRiverModel$Version;"⟩
abbrev cX14_addForm : ByteArray := prog_13_method_7_code
def yX14_addForm : MethodName := ⟨RX14, "addForm", "()I"⟩
abbrev cX14_addVersion : ByteArray := prog_13_method_8_code
def yX14_addVersion : MethodName := ⟨RX14, "addVersion", "(I)I"⟩
abbrev cX14_adds : ByteArray := prog_13_method_9_code
def yX14_adds : MethodName := ⟨RX14, "adds", "(LFormRiverModel$Version;CI)I"⟩
abbrev cX14_addQuestion : ByteArray := prog_13_method_10_code
def yX14_addQuestion : MethodName := ⟨RX14, "addQuestion", "(IIIII)I"⟩
abbrev cX14_addComputed : ByteArray := prog_13_method_11_code
def yX14_addComputed : MethodName := ⟨RX14, "addComputed", "(IICII)I"⟩
abbrev cX14_atLeastNone : ByteArray := prog_13_method_12_code
def yX14_atLeastNone : MethodName := ⟨RX14, "atLeastNone", "([II)I"⟩
abbrev cX14_setCondition : ByteArray := prog_13_method_13_code
def yX14_setCondition : MethodName := ⟨RX14, "setCondition", "(IIICI)I"⟩
abbrev cX14_setMap : ByteArray := prog_13_method_14_code
def yX14_setMap : MethodName := ⟨RX14, "setMap", "(IIICI)I"⟩
abbrev cX14_addLeg : ByteArray := prog_13_method_15_code
def yX14_addLeg : MethodName := ⟨RX14, "addLeg", "(IIIIII)I"⟩
abbrev cX14_setKeeping : ByteArray := prog_13_method_16_code
def yX14_setKeeping : MethodName := ⟨RX14, "setKeeping", "(IIIII)I"⟩
abbrev cX14_publish : ByteArray := prog_13_method_17_code
def yX14_publish : MethodName := ⟨RX14, "publish", "(I)I"⟩
abbrev cX14_records : ByteArray := prog_13_method_18_code
def yX14_records : MethodName := ⟨RX14, "records", "()[[I"⟩
abbrev cX14_present : ByteArray := prog_13_method_19_code
def yX14_present : MethodName := ⟨RX14, "present", "(I)I"⟩
abbrev cX14_owner : ByteArray := prog_13_method_20_code
def yX14_owner : MethodName := ⟨RX14, "owner", "(I)I"⟩
abbrev cX14_isDesk : ByteArray := prog_13_method_21_code
def yX14_isDesk : MethodName := ⟨RX14, "isDesk", "(I)Z"⟩
abbrev cX14_setSubstitute : ByteArray := prog_13_method_22_code
def yX14_setSubstitute : MethodName := ⟨RX14, "setSubstitute", "(II)I"⟩
abbrev cX14_own : ByteArray := prog_13_method_23_code
def yX14_own : MethodName := ⟨RX14, "own", "(LFormRiverModel$Submission;)LFormRiverModel$Sheet;"⟩
abbrev cX14_carried : ByteArray := prog_13_method_24_code
def yX14_carried : MethodName := ⟨RX14, "carried", "(LFormRiverModel$Submission;)LFormRiverModel$Sheet;"⟩
abbrev cX14_isSubmission : ByteArray := prog_13_method_25_code
def yX14_isSubmission : MethodName := ⟨RX14, "isSubmission", "(I)Z"⟩
abbrev cX14_isPerson : ByteArray := prog_13_method_26_code
def yX14_isPerson : MethodName := ⟨RX14, "isPerson", "(I)Z"⟩
abbrev cX14_starts : ByteArray := prog_13_method_27_code
def yX14_starts : MethodName := ⟨RX14, "starts", "(II)LFormRiverModel$Submission;"⟩
abbrev cX14_start : ByteArray := prog_13_method_28_code
def yX14_start : MethodName := ⟨RX14, "start", "(II)I"⟩
abbrev cX14_amend : ByteArray := prog_13_method_29_code
def yX14_amend : MethodName := ⟨RX14, "amend", "(I)I"⟩
abbrev cX14_versionOf : ByteArray := prog_13_method_30_code
def yX14_versionOf : MethodName := ⟨RX14, "versionOf", "(LFormRiverModel$Submission;)LFormRiverModel$Version;"⟩
abbrev cX14_isThere : ByteArray := prog_13_method_31_code
def yX14_isThere : MethodName := ⟨RX14, "isThere", "(II)Z"⟩
abbrev cX14_canChange : ByteArray := prog_13_method_32_code
def yX14_canChange : MethodName := ⟨RX14, "canChange", "(LFormRiverModel$Submission;I)Z"⟩
abbrev cX14_answer : ByteArray := prog_13_method_33_code
def yX14_answer : MethodName := ⟨RX14, "answer", "(III)I"⟩
abbrev cX14_takeBack : ByteArray := prog_13_method_34_code
def yX14_takeBack : MethodName := ⟨RX14, "takeBack", "(II)I"⟩
abbrev cX14_prefill : ByteArray := prog_13_method_35_code
def yX14_prefill : MethodName := ⟨RX14, "prefill", "(I)I"⟩
abbrev cX14_waiting : ByteArray := prog_13_method_36_code
def yX14_waiting : MethodName := ⟨RX14, "waiting", "(LFormRiverModel$Submission;)I"⟩
abbrev cX14_lastSubstitute : ByteArray := prog_13_method_37_code
def yX14_lastSubstitute : MethodName := ⟨RX14, "lastSubstitute", "(I)I"⟩
abbrev cX14_begins : ByteArray := prog_13_method_38_code
def yX14_begins : MethodName := ⟨RX14, "begins", "(LFormRiverModel$Submission;)V"⟩
abbrev cX14_goesOn : ByteArray := prog_13_method_39_code
def yX14_goesOn : MethodName := ⟨RX14, "goesOn", "(LFormRiverModel$Submission;)V"⟩
abbrev cX14_accepts : ByteArray := prog_13_method_40_code
def yX14_accepts : MethodName := ⟨RX14, "accepts", "(LFormRiverModel$Submission;)V"⟩
abbrev cX14_approves : ByteArray := prog_13_method_41_code
def yX14_approves : MethodName := ⟨RX14, "approves", "(LFormRiverModel$Submission;I)V"⟩
abbrev cX14_submit : ByteArray := prog_13_method_42_code
def yX14_submit : MethodName := ⟨RX14, "submit", "(I)I"⟩
abbrev cX14_waitsAt : ByteArray := prog_13_method_43_code
def yX14_waitsAt : MethodName := ⟨RX14, "waitsAt", "(LFormRiverModel$Submission;I)Z"⟩
abbrev cX14_approve : ByteArray := prog_13_method_44_code
def yX14_approve : MethodName := ⟨RX14, "approve", "(II)I"⟩
abbrev cX14_sendBack : ByteArray := prog_13_method_45_code
def yX14_sendBack : MethodName := ⟨RX14, "sendBack", "(III)I"⟩
abbrev cX14_reject : ByteArray := prog_13_method_46_code
def yX14_reject : MethodName := ⟨RX14, "reject", "(II)I"⟩
abbrev cX14_withdraw : ByteArray := prog_13_method_47_code
def yX14_withdraw : MethodName := ⟨RX14, "withdraw", "(I)C"⟩
abbrev cX14_state : ByteArray := prog_13_method_48_code
def yX14_state : MethodName := ⟨RX14, "state", "(I)C"⟩
abbrev cX14_isMissing : ByteArray := prog_13_method_49_code
def yX14_isMissing : MethodName := ⟨RX14, "isMissing", "(II)Z"⟩
abbrev cX14_isAsked : ByteArray := prog_13_method_50_code
def yX14_isAsked : MethodName := ⟨RX14, "isAsked", "(II)Z"⟩
abbrev cX14_value : ByteArray := prog_13_method_51_code
def yX14_value : MethodName := ⟨RX14, "value", "(II)I"⟩
abbrev cX14_answers : ByteArray := prog_13_method_52_code
def yX14_answers : MethodName := ⟨RX14, "answers", "(II)I"⟩
abbrev cX14_stage : ByteArray := prog_13_method_53_code
def yX14_stage : MethodName := ⟨RX14, "stage", "(I)I"⟩
abbrev cX14_waits : ByteArray := prog_13_method_54_code
def yX14_waits : MethodName := ⟨RX14, "waits", "(II)Z"⟩
abbrev cX14_waitingAt : ByteArray := prog_13_method_55_code
def yX14_waitingAt : MethodName := ⟨RX14, "waitingAt", "(II)I"⟩
abbrev cX14_isNotCarried : ByteArray := prog_13_method_56_code
def yX14_isNotCarried : MethodName := ⟨RX14, "isNotCarried", "(II)Z"⟩
abbrev cX14_carried_ : ByteArray := prog_13_method_57_code
def yX14_carried_ : MethodName := ⟨RX14, "carried", "(II)I"⟩
abbrev cX14_lacking : ByteArray := prog_13_method_58_code
def yX14_lacking : MethodName := ⟨RX14, "lacking", "(II)LFormRiverModel$Sheet;"⟩
abbrev cX14_reason : ByteArray := prog_13_method_59_code
def yX14_reason : MethodName := ⟨RX14, "reason", "(II)C"⟩
abbrev cX14_rootOf : ByteArray := prog_13_method_60_code
def yX14_rootOf : MethodName := ⟨RX14, "rootOf", "(III)I"⟩
abbrev cX14_root : ByteArray := prog_13_method_61_code
def yX14_root : MethodName := ⟨RX14, "root", "(II)C"⟩
abbrev cX14_rootVersion : ByteArray := prog_13_method_62_code
def yX14_rootVersion : MethodName := ⟨RX14, "rootVersion", "(II)I"⟩
abbrev cX14_causes : ByteArray := prog_13_method_63_code
def yX14_causes : MethodName := ⟨RX14, "causes", "(II)I"⟩
abbrev cX14_hasValueFor : ByteArray := prog_13_method_64_code
def yX14_hasValueFor : MethodName := ⟨RX14, "hasValueFor", "(LFormRiverModel$Submission;I)Z"⟩
abbrev cX14_valueFor : ByteArray := prog_13_method_65_code
def yX14_valueFor : MethodName := ⟨RX14, "valueFor", "(LFormRiverModel$Submission;I)I"⟩
abbrev cX14_sourceOf : ByteArray := prog_13_method_66_code
def yX14_sourceOf : MethodName := ⟨RX14, "sourceOf", "(II)I"⟩
abbrev cX14_source : ByteArray := prog_13_method_67_code
def yX14_source : MethodName := ⟨RX14, "source", "(II)I"⟩
abbrev cX14_record : ByteArray := prog_13_method_68_code
def yX14_record : MethodName := ⟨RX14, "record", "(II)I"⟩
abbrev cX14_recordAnew : ByteArray := prog_13_method_69_code
def yX14_recordAnew : MethodName := ⟨RX14, "recordAnew", "(II)I"⟩
abbrev cX14_total : ByteArray := prog_13_method_70_code
def yX14_total : MethodName := ⟨RX14, "total", "(I)J"⟩
abbrev cX14_totalAnew : ByteArray := prog_13_method_71_code
def yX14_totalAnew : MethodName := ⟨RX14, "totalAnew", "(I)J"⟩
abbrev cX14_counted : ByteArray := prog_13_method_72_code
def yX14_counted : MethodName := ⟨RX14, "counted", "(I)I"⟩
abbrev cX14_hold : ByteArray := prog_13_method_73_code
def yX14_hold : MethodName := ⟨RX14, "hold", "(IZ)Z"⟩
abbrev cX14_lastDay : ByteArray := prog_13_method_74_code
def yX14_lastDay : MethodName := ⟨RX14, "lastDay", "(I)I"⟩
abbrev cX14_runsOut : ByteArray := prog_13_method_75_code
def yX14_runsOut : MethodName := ⟨RX14, "runsOut", "(LFormRiverModel$Submission;)V"⟩
abbrev cX14_goes : ByteArray := prog_13_method_76_code
def yX14_goes : MethodName := ⟨RX14, "goes", "(LFormRiverModel$Submission;)V"⟩
abbrev cX14_pass : ByteArray := prog_13_method_77_code
def yX14_pass : MethodName := ⟨RX14, "pass", "(I)I"⟩
abbrev cX14_day : ByteArray := prog_13_method_78_code
def yX14_day : MethodName := ⟨RX14, "day", "()I"⟩
abbrev cX14_meanValue : ByteArray := prog_13_method_79_code
def yX14_meanValue : MethodName := ⟨RX14, "meanValue", "(I)D"⟩
abbrev cX14_acceptedShare : ByteArray := prog_13_method_80_code
def yX14_acceptedShare : MethodName := ⟨RX14, "acceptedShare", "()F"⟩
abbrev cX14_isSound : ByteArray := prog_13_method_81_code
def yX14_isSound : MethodName := ⟨RX14, "isSound", "(I)Z"⟩
def RJx145de : String := "java/io/Serializable"
def TJx145de : u_T := fun k => match k with
  | _ => ("", "", "", false)
def tyJx145de : Nat → FieldType := fun k => match k with
  | _ => .int
abbrev wsJx145de0 : List Cond := u_ws RJx145de TJx145de 0
theorem nmJx145de : ∀ a, a < 0 → ∀ b, b < 0 → a ≠ b → (TJx145de a).2.1 ≠ (TJx145de b).2.1 := by decide +kernel
theorem tyJx145de_ok : ∀ k, k < 0 → parseFieldDescriptor (TJx145de k).2.2.1 = some (tyJx145de k) := by decide +kernel
def RJx00060 : String := "java/lang/ArrayIndexOutOfBoundsException"
def TJx00060 : u_T := fun k => match k with
  | 0 => ("java/lang/Throwable", "backtrace", "Ljava/lang/Object;", false)
  | 1 => ("java/lang/Throwable", "detailMessage", "Ljava/lang/String;", false)
  | 2 => ("java/lang/Throwable", "cause", "Ljava/lang/Throwable;", false)
  | 3 => ("java/lang/Throwable", "stackTrace", "[Ljava/lang/StackTraceElement;", false)
  | 4 => ("java/lang/Throwable", "depth", "I", false)
  | _ => ("java/lang/Throwable", "suppressedExceptions", "Ljava/util/List;", false)
def tyJx00060 : Nat → FieldType := fun k => match k with
  | 0 => .object "java/lang/Object"
  | 1 => .object "java/lang/String"
  | 2 => .object "java/lang/Throwable"
  | 3 => .array (.object "java/lang/StackTraceElement")
  | 4 => .int
  | _ => .object "java/util/List"
abbrev wsJx000600 : List Cond := u_ws RJx00060 TJx00060 6
theorem nmJx00060 : ∀ a, a < 6 → ∀ b, b < 6 → a ≠ b → (TJx00060 a).2.1 ≠ (TJx00060 b).2.1 := by decide +kernel
theorem tyJx00060_ok : ∀ k, k < 6 → parseFieldDescriptor (TJx00060 k).2.2.1 = some (tyJx00060 k) := by decide +kernel
abbrev cJx00060_init_a7421 : ByteArray := prog_19_method_2_code
def yJx00060_init_a7421 : MethodName := ⟨RJx00060, "<init>", "(Ljava/lang/String;)V"⟩
def RJx8e188 : String := "java/lang/Cloneable"
def TJx8e188 : u_T := fun k => match k with
  | _ => ("", "", "", false)
def tyJx8e188 : Nat → FieldType := fun k => match k with
  | _ => .int
abbrev wsJx8e1880 : List Cond := u_ws RJx8e188 TJx8e188 0
theorem nmJx8e188 : ∀ a, a < 0 → ∀ b, b < 0 → a ≠ b → (TJx8e188 a).2.1 ≠ (TJx8e188 b).2.1 := by decide +kernel
theorem tyJx8e188_ok : ∀ k, k < 0 → parseFieldDescriptor (TJx8e188 k).2.2.1 = some (tyJx8e188 k) := by decide +kernel
def RJxab1ab : String := "java/lang/Iterable"
def TJxab1ab : u_T := fun k => match k with
  | _ => ("", "", "", false)
def tyJxab1ab : Nat → FieldType := fun k => match k with
  | _ => .int
abbrev wsJxab1ab0 : List Cond := u_ws RJxab1ab TJxab1ab 0
theorem nmJxab1ab : ∀ a, a < 0 → ∀ b, b < 0 → a ≠ b → (TJxab1ab a).2.1 ≠ (TJxab1ab b).2.1 := by decide +kernel
theorem tyJxab1ab_ok : ∀ k, k < 0 → parseFieldDescriptor (TJxab1ab k).2.2.1 = some (tyJxab1ab k) := by decide +kernel
def RJ9 : String := "java/lang/Math"
def TJ9 : u_T := fun k => match k with
  | _ => ("", "", "", false)
def tyJ9 : Nat → FieldType := fun k => match k with
  | _ => .int
abbrev wsJ90 : List Cond := u_ws RJ9 TJ9 0
theorem nmJ9 : ∀ a, a < 0 → ∀ b, b < 0 → a ≠ b → (TJ9 a).2.1 ≠ (TJ9 b).2.1 := by decide +kernel
theorem tyJ9_ok : ∀ k, k < 0 → parseFieldDescriptor (TJ9 k).2.2.1 = some (tyJ9 k) := by decide +kernel
abbrev cJ9_max_7cf53 : ByteArray := prog_26_method_65_code
def yJ9_max_7cf53 : MethodName := ⟨RJ9, "max", "(II)I"⟩
abbrev cJ9_min_7cf53 : ByteArray := prog_26_method_69_code
def yJ9_min_7cf53 : MethodName := ⟨RJ9, "min", "(II)I"⟩
def RJ0 : String := "java/lang/String"
def TJ0 : u_T := fun k => match k with
  | 0 => ("java/lang/String", "value", "[B", true)
  | _ => ("java/lang/String", "coder", "B", true)
def tyJ0 : Nat → FieldType := fun k => match k with
  | 0 => .array .byte
  | _ => .byte
abbrev wsJ00 : List Cond := u_ws RJ0 TJ0 2
theorem nmJ0 : ∀ a, a < 2 → ∀ b, b < 2 → a ≠ b → (TJ0 a).2.1 ≠ (TJ0 b).2.1 := by decide +kernel
theorem tyJ0_ok : ∀ k, k < 2 → parseFieldDescriptor (TJ0 k).2.2.1 = some (tyJ0 k) := by decide +kernel
def RJ10 : String := "java/lang/System"
def TJ10 : u_T := fun k => match k with
  | _ => ("", "", "", false)
def tyJ10 : Nat → FieldType := fun k => match k with
  | _ => .int
abbrev wsJ100 : List Cond := u_ws RJ10 TJ10 0
theorem nmJ10 : ∀ a, a < 0 → ∀ b, b < 0 → a ≠ b → (TJ10 a).2.1 ≠ (TJ10 b).2.1 := by decide +kernel
theorem tyJ10_ok : ∀ k, k < 0 → parseFieldDescriptor (TJ10 k).2.2.1 = some (tyJ10 k) := by decide +kernel
def RJxa1e45 : String := "java/util/AbstractCollection"
def TJxa1e45 : u_T := fun k => match k with
  | _ => ("", "", "", false)
def tyJxa1e45 : Nat → FieldType := fun k => match k with
  | _ => .int
abbrev wsJxa1e450 : List Cond := u_ws RJxa1e45 TJxa1e45 0
theorem nmJxa1e45 : ∀ a, a < 0 → ∀ b, b < 0 → a ≠ b → (TJxa1e45 a).2.1 ≠ (TJxa1e45 b).2.1 := by decide +kernel
theorem tyJxa1e45_ok : ∀ k, k < 0 → parseFieldDescriptor (TJxa1e45 k).2.2.1 = some (tyJxa1e45 k) := by decide +kernel
abbrev cJxa1e45_init_da8c8 : ByteArray := prog_32_method_1_code
def yJxa1e45_init_da8c8 : MethodName := ⟨RJxa1e45, "<init>", "()V"⟩
def RJxc12de : String := "java/util/AbstractList"
def TJxc12de : u_T := fun k => match k with
  | _ => ("", "", "", false)
def tyJxc12de : Nat → FieldType := fun k => match k with
  | _ => .int
abbrev wsJxc12de0 : List Cond := u_ws RJxc12de TJxc12de 0
theorem nmJxc12de : ∀ a, a < 0 → ∀ b, b < 0 → a ≠ b → (TJxc12de a).2.1 ≠ (TJxc12de b).2.1 := by decide +kernel
theorem tyJxc12de_ok : ∀ k, k < 0 → parseFieldDescriptor (TJxc12de k).2.2.1 = some (tyJxc12de k) := by decide +kernel
abbrev cJxc12de_init_da8c8 : ByteArray := prog_33_method_1_code
def yJxc12de_init_da8c8 : MethodName := ⟨RJxc12de, "<init>", "()V"⟩
def RJx4a65c : String := "java/util/ArrayList"
def TJx4a65c : u_T := fun k => match k with
  | 0 => ("java/util/AbstractList", "modCount", "I", false)
  | 1 => ("java/util/ArrayList", "elementData", "[Ljava/lang/Object;", false)
  | _ => ("java/util/ArrayList", "size", "I", false)
def tyJx4a65c : Nat → FieldType := fun k => match k with
  | 0 => .int
  | 1 => .array (.object "java/lang/Object")
  | _ => .int
abbrev wsJx4a65c0 : List Cond := u_ws RJx4a65c TJx4a65c 3
theorem nmJx4a65c : ∀ a, a < 3 → ∀ b, b < 3 → a ≠ b → (TJx4a65c a).2.1 ≠ (TJx4a65c b).2.1 := by decide +kernel
theorem tyJx4a65c_ok : ∀ k, k < 3 → parseFieldDescriptor (TJx4a65c k).2.2.1 = some (tyJx4a65c k) := by decide +kernel
abbrev cJx4a65c_init_da8c8 : ByteArray := prog_34_method_2_code
def yJx4a65c_init_da8c8 : MethodName := ⟨RJx4a65c, "<init>", "()V"⟩
abbrev cJx4a65c_grow_92f84 : ByteArray := prog_34_method_6_code
def yJx4a65c_grow_92f84 : MethodName := ⟨RJx4a65c, "grow", "(I)[Ljava/lang/Object;"⟩
abbrev cJx4a65c_grow_d5877 : ByteArray := prog_34_method_7_code
def yJx4a65c_grow_d5877 : MethodName := ⟨RJx4a65c, "grow", "()[Ljava/lang/Object;"⟩
abbrev cJx4a65c_size_8abf5 : ByteArray := prog_34_method_8_code
def yJx4a65c_size_8abf5 : MethodName := ⟨RJx4a65c, "size", "()I"⟩
abbrev cJx4a65c_isEmpty_aae02 : ByteArray := prog_34_method_9_code
def yJx4a65c_isEmpty_aae02 : MethodName := ⟨RJx4a65c, "isEmpty", "()Z"⟩
abbrev cJx4a65c_elementData_915e3 : ByteArray := prog_34_method_18_code
def yJx4a65c_elementData_915e3 : MethodName := ⟨RJx4a65c, "elementData", "(I)Ljava/lang/Object;"⟩
abbrev cJx4a65c_get_915e3 : ByteArray := prog_34_method_20_code
def yJx4a65c_get_915e3 : MethodName := ⟨RJx4a65c, "get", "(I)Ljava/lang/Object;"⟩
abbrev cJx4a65c_add_72be8 : ByteArray := prog_34_method_24_code
def yJx4a65c_add_72be8 : MethodName := ⟨RJx4a65c, "add", "(Ljava/lang/Object;[Ljava/lang/Object;I)V"⟩
abbrev cJx4a65c_add_9ea2d : ByteArray := prog_34_method_25_code
def yJx4a65c_add_9ea2d : MethodName := ⟨RJx4a65c, "add", "(Ljava/lang/Object;)Z"⟩
def RJ7 : String := "java/util/Arrays"
def TJ7 : u_T := fun k => match k with
  | _ => ("", "", "", false)
def tyJ7 : Nat → FieldType := fun k => match k with
  | _ => .int
abbrev wsJ70 : List Cond := u_ws RJ7 TJ7 0
theorem nmJ7 : ∀ a, a < 0 → ∀ b, b < 0 → a ≠ b → (TJ7 a).2.1 ≠ (TJ7 b).2.1 := by decide +kernel
theorem tyJ7_ok : ∀ k, k < 0 → parseFieldDescriptor (TJ7 k).2.2.1 = some (tyJ7 k) := by decide +kernel
abbrev cJ7_copyOf_1904c : ByteArray := prog_35_method_119_code
def yJ7_copyOf_1904c : MethodName := ⟨RJ7, "copyOf", "([Ljava/lang/Object;I)[Ljava/lang/Object;"⟩
abbrev cJ7_copyOf_6403c : ByteArray := prog_35_method_120_code
def yJ7_copyOf_6403c : MethodName := ⟨RJ7, "copyOf", "([Ljava/lang/Object;ILjava/lang/Class;)[Ljava/lang/Object;"⟩
def RJx5ef63 : String := "java/util/Collection"
def TJx5ef63 : u_T := fun k => match k with
  | _ => ("", "", "", false)
def tyJx5ef63 : Nat → FieldType := fun k => match k with
  | _ => .int
abbrev wsJx5ef630 : List Cond := u_ws RJx5ef63 TJx5ef63 0
theorem nmJx5ef63 : ∀ a, a < 0 → ∀ b, b < 0 → a ≠ b → (TJx5ef63 a).2.1 ≠ (TJx5ef63 b).2.1 := by decide +kernel
theorem tyJx5ef63_ok : ∀ k, k < 0 → parseFieldDescriptor (TJx5ef63 k).2.2.1 = some (tyJx5ef63 k) := by decide +kernel
def RJxbd725 : String := "java/util/List"
def TJxbd725 : u_T := fun k => match k with
  | _ => ("", "", "", false)
def tyJxbd725 : Nat → FieldType := fun k => match k with
  | _ => .int
abbrev wsJxbd7250 : List Cond := u_ws RJxbd725 TJxbd725 0
theorem nmJxbd725 : ∀ a, a < 0 → ∀ b, b < 0 → a ≠ b → (TJxbd725 a).2.1 ≠ (TJxbd725 b).2.1 := by decide +kernel
theorem tyJxbd725_ok : ∀ k, k < 0 → parseFieldDescriptor (TJxbd725 k).2.2.1 = some (tyJxbd725 k) := by decide +kernel
def RJ15 : String := "java/util/Objects"
def TJ15 : u_T := fun k => match k with
  | _ => ("", "", "", false)
def tyJ15 : Nat → FieldType := fun k => match k with
  | _ => .int
abbrev wsJ150 : List Cond := u_ws RJ15 TJ15 0
theorem nmJ15 : ∀ a, a < 0 → ∀ b, b < 0 → a ≠ b → (TJ15 a).2.1 ≠ (TJ15 b).2.1 := by decide +kernel
theorem tyJ15_ok : ∀ k, k < 0 → parseFieldDescriptor (TJ15 k).2.2.1 = some (tyJ15 k) := by decide +kernel
abbrev cJ15_checkIndex_7cf53 : ByteArray := prog_39_method_17_code
def yJ15_checkIndex_7cf53 : MethodName := ⟨RJ15, "checkIndex", "(II)I"⟩
def RJxf0a74 : String := "java/util/RandomAccess"
def TJxf0a74 : u_T := fun k => match k with
  | _ => ("", "", "", false)
def tyJxf0a74 : Nat → FieldType := fun k => match k with
  | _ => .int
abbrev wsJxf0a740 : List Cond := u_ws RJxf0a74 TJxf0a74 0
theorem nmJxf0a74 : ∀ a, a < 0 → ∀ b, b < 0 → a ≠ b → (TJxf0a74 a).2.1 ≠ (TJxf0a74 b).2.1 := by decide +kernel
theorem tyJxf0a74_ok : ∀ k, k < 0 → parseFieldDescriptor (TJxf0a74 k).2.2.1 = some (tyJxf0a74 k) := by decide +kernel
def RJxa66e6 : String := "java/util/SequencedCollection"
def TJxa66e6 : u_T := fun k => match k with
  | _ => ("", "", "", false)
def tyJxa66e6 : Nat → FieldType := fun k => match k with
  | _ => .int
abbrev wsJxa66e60 : List Cond := u_ws RJxa66e6 TJxa66e6 0
theorem nmJxa66e6 : ∀ a, a < 0 → ∀ b, b < 0 → a ≠ b → (TJxa66e6 a).2.1 ≠ (TJxa66e6 b).2.1 := by decide +kernel
theorem tyJxa66e6_ok : ∀ k, k < 0 → parseFieldDescriptor (TJxa66e6 k).2.2.1 = some (tyJxa66e6 k) := by decide +kernel
def RJ8 : String := "jdk/internal/util/ArraysSupport"
def TJ8 : u_T := fun k => match k with
  | _ => ("", "", "", false)
def tyJ8 : Nat → FieldType := fun k => match k with
  | _ => .int
abbrev wsJ80 : List Cond := u_ws RJ8 TJ8 0
theorem nmJ8 : ∀ a, a < 0 → ∀ b, b < 0 → a ≠ b → (TJ8 a).2.1 ≠ (TJ8 b).2.1 := by decide +kernel
theorem tyJ8_ok : ∀ k, k < 0 → parseFieldDescriptor (TJ8 k).2.2.1 = some (tyJ8 k) := by decide +kernel
abbrev cJ8_newLength_cabcc : ByteArray := prog_42_method_27_code
def yJ8_newLength_cabcc : MethodName := ⟨RJ8, "newLength", "(III)I"⟩
abbrev cJ8_hugeLength_7cf53 : ByteArray := prog_42_method_28_code
def yJ8_hugeLength_7cf53 : MethodName := ⟨RJ8, "hugeLength", "(II)I"⟩
def RJ3 : String := "jdk/internal/util/Preconditions"
def TJ3 : u_T := fun k => match k with
  | _ => ("", "", "", false)
def tyJ3 : Nat → FieldType := fun k => match k with
  | _ => .int
abbrev wsJ30 : List Cond := u_ws RJ3 TJ3 0
theorem nmJ3 : ∀ a, a < 0 → ∀ b, b < 0 → a ≠ b → (TJ3 a).2.1 ≠ (TJ3 b).2.1 := by decide +kernel
theorem tyJ3_ok : ∀ k, k < 0 → parseFieldDescriptor (TJ3 k).2.2.1 = some (tyJ3 k) := by decide +kernel
abbrev cJ3_checkIndex_8e157 : ByteArray := prog_43_method_11_code
def yJ3_checkIndex_8e157 : MethodName := ⟨RJ3, "checkIndex", "(IILjava/util/function/BiFunction;)I"⟩
def RL : String := "FormRiverLaw"
abbrev cL_addForm : ByteArray := method_3_code
def yL_addForm : MethodName := ⟨RL, "addForm", "(LFormRiver;[J)I"⟩
abbrev cL_addVersion : ByteArray := method_4_code
def yL_addVersion : MethodName := ⟨RL, "addVersion", "(LFormRiver;I[J)I"⟩
abbrev cL_addQuestion : ByteArray := method_5_code
def yL_addQuestion : MethodName := ⟨RL, "addQuestion", "(LFormRiver;IIIII[J)I"⟩
abbrev cL_addComputed : ByteArray := method_6_code
def yL_addComputed : MethodName := ⟨RL, "addComputed", "(LFormRiver;IICII[J)I"⟩
abbrev cL_setCondition : ByteArray := method_7_code
def yL_setCondition : MethodName := ⟨RL, "setCondition", "(LFormRiver;IIICI[J)I"⟩
abbrev cL_setMap : ByteArray := method_8_code
def yL_setMap : MethodName := ⟨RL, "setMap", "(LFormRiver;IIICI[J)I"⟩
abbrev cL_addLeg : ByteArray := method_9_code
def yL_addLeg : MethodName := ⟨RL, "addLeg", "(LFormRiver;IIIIII[J)I"⟩
abbrev cL_setKeeping : ByteArray := method_10_code
def yL_setKeeping : MethodName := ⟨RL, "setKeeping", "(LFormRiver;IIIII[J)I"⟩
abbrev cL_publish : ByteArray := method_11_code
def yL_publish : MethodName := ⟨RL, "publish", "(LFormRiver;I[J)I"⟩
abbrev cL_present : ByteArray := method_12_code
def yL_present : MethodName := ⟨RL, "present", "(LFormRiver;I[J)I"⟩
abbrev cL_owner : ByteArray := method_13_code
def yL_owner : MethodName := ⟨RL, "owner", "(LFormRiver;I[J)I"⟩
abbrev cL_setSubstitute : ByteArray := method_14_code
def yL_setSubstitute : MethodName := ⟨RL, "setSubstitute", "(LFormRiver;II[J)I"⟩
abbrev cL_start : ByteArray := method_15_code
def yL_start : MethodName := ⟨RL, "start", "(LFormRiver;II[J)I"⟩
abbrev cL_amend : ByteArray := method_16_code
def yL_amend : MethodName := ⟨RL, "amend", "(LFormRiver;I[J)I"⟩
abbrev cL_answer : ByteArray := method_17_code
def yL_answer : MethodName := ⟨RL, "answer", "(LFormRiver;III[J)I"⟩
abbrev cL_takeBack : ByteArray := method_18_code
def yL_takeBack : MethodName := ⟨RL, "takeBack", "(LFormRiver;II[J)I"⟩
abbrev cL_prefill : ByteArray := method_19_code
def yL_prefill : MethodName := ⟨RL, "prefill", "(LFormRiver;I[J)I"⟩
abbrev cL_submit : ByteArray := method_20_code
def yL_submit : MethodName := ⟨RL, "submit", "(LFormRiver;I[J)I"⟩
abbrev cL_approve : ByteArray := method_21_code
def yL_approve : MethodName := ⟨RL, "approve", "(LFormRiver;II[J)I"⟩
abbrev cL_sendBack : ByteArray := method_22_code
def yL_sendBack : MethodName := ⟨RL, "sendBack", "(LFormRiver;III[J)I"⟩
abbrev cL_reject : ByteArray := method_23_code
def yL_reject : MethodName := ⟨RL, "reject", "(LFormRiver;II[J)I"⟩
abbrev cL_withdraw : ByteArray := method_24_code
def yL_withdraw : MethodName := ⟨RL, "withdraw", "(LFormRiver;I[J)I"⟩
abbrev cL_state : ByteArray := method_25_code
def yL_state : MethodName := ⟨RL, "state", "(LFormRiver;I[J)I"⟩
abbrev cL_isAsked : ByteArray := method_26_code
def yL_isAsked : MethodName := ⟨RL, "isAsked", "(LFormRiver;II[J)I"⟩
abbrev cL_value : ByteArray := method_27_code
def yL_value : MethodName := ⟨RL, "value", "(LFormRiver;II[J)I"⟩
abbrev cL_answers : ByteArray := method_28_code
def yL_answers : MethodName := ⟨RL, "answers", "(LFormRiver;II[J)I"⟩
abbrev cL_stage : ByteArray := method_29_code
def yL_stage : MethodName := ⟨RL, "stage", "(LFormRiver;I[J)I"⟩
abbrev cL_waits : ByteArray := method_30_code
def yL_waits : MethodName := ⟨RL, "waits", "(LFormRiver;II[J)I"⟩
abbrev cL_waitingAt : ByteArray := method_31_code
def yL_waitingAt : MethodName := ⟨RL, "waitingAt", "(LFormRiver;II[J)I"⟩
abbrev cL_carried : ByteArray := method_32_code
def yL_carried : MethodName := ⟨RL, "carried", "(LFormRiver;II[J)I"⟩
abbrev cL_reason : ByteArray := method_33_code
def yL_reason : MethodName := ⟨RL, "reason", "(LFormRiver;II[J)I"⟩
abbrev cL_root : ByteArray := method_34_code
def yL_root : MethodName := ⟨RL, "root", "(LFormRiver;II[J)I"⟩
abbrev cL_rootVersion : ByteArray := method_35_code
def yL_rootVersion : MethodName := ⟨RL, "rootVersion", "(LFormRiver;II[J)I"⟩
abbrev cL_causes : ByteArray := method_36_code
def yL_causes : MethodName := ⟨RL, "causes", "(LFormRiver;II[J)I"⟩
abbrev cL_record : ByteArray := method_37_code
def yL_record : MethodName := ⟨RL, "record", "(LFormRiver;II[J)I"⟩
abbrev cL_recordAnew : ByteArray := method_38_code
def yL_recordAnew : MethodName := ⟨RL, "recordAnew", "(LFormRiver;II[J)I"⟩
abbrev cL_source : ByteArray := method_39_code
def yL_source : MethodName := ⟨RL, "source", "(LFormRiver;II[J)I"⟩
abbrev cL_total : ByteArray := method_40_code
def yL_total : MethodName := ⟨RL, "total", "(LFormRiver;I[J)I"⟩
abbrev cL_totalAnew : ByteArray := method_41_code
def yL_totalAnew : MethodName := ⟨RL, "totalAnew", "(LFormRiver;I[J)I"⟩
abbrev cL_counted : ByteArray := method_42_code
def yL_counted : MethodName := ⟨RL, "counted", "(LFormRiver;I[J)I"⟩
abbrev cL_hold : ByteArray := method_43_code
def yL_hold : MethodName := ⟨RL, "hold", "(LFormRiver;IZ[J)I"⟩
abbrev cL_lastDay : ByteArray := method_44_code
def yL_lastDay : MethodName := ⟨RL, "lastDay", "(LFormRiver;I[J)I"⟩
abbrev cL_pass : ByteArray := method_45_code
def yL_pass : MethodName := ⟨RL, "pass", "(LFormRiver;I[J)I"⟩
abbrev cL_meanValue : ByteArray := method_46_code
def yL_meanValue : MethodName := ⟨RL, "meanValue", "(LFormRiver;I[D)I"⟩
abbrev cL_acceptedShare : ByteArray := method_47_code
def yL_acceptedShare : MethodName := ⟨RL, "acceptedShare", "(LFormRiver;[D)I"⟩
abbrev cL_isSound : ByteArray := method_48_code
def yL_isSound : MethodName := ⟨RL, "isSound", "(LFormRiver;I[J)I"⟩
abbrev cL_law : ByteArray := code
def yL_law : MethodName := ⟨RL, "law", "([I)Z"⟩
abbrev vwCl : List vw_C := [(RJ0, TJ0, 2), (RJx00060, TJx00060, 6), (RJx4a65c, TJx4a65c, 3), (RX0, TX0, 1), (RX1, TX1, 3), (RX2, TX2, 5), (RX3, TX3, 13), (RX4, TX4, 6), (RX5, TX5, 2), (RX6, TX6, 10), (RX7, TX7, 15), (RX8, TX8, 7), (RX9, TX9, 4), (RX10, TX10, 8), (RX11, TX11, 6), (RX12, TX12, 17), (RX13, TX13, 24), (RX14, TX14, 13)]
end
section
/-! AN EXCEPTION THROWN WITH A TEXT, where the own constructor of its class hands the text on by an entry ix of its pool (the printed family knows the entry 7 alone; NoSuchElementException's is 13). The proof follows the library's own for the entry 7. -/
def zexRT : String := "java/lang/RuntimeException"
def zexEX : String := "java/lang/Exception"
def zexA (own : String) (ic : Nat) (cls : String) (ix : Nat) (b6 : ByteArray) : List Cond :=
  Bundle.throwableAtoms ++ (Bundle.throwableSAtoms ++ (Bundle.passSAtoms cls zexRT ix b6 ++ (Bundle.chainSAtoms zexRT [zexEX] ++
  [.methodLink own ic (Bundle.initS cls), .instantiable cls 6, .castable cls cls, .selects cls Bundle.tFill0 Bundle.tFill0, .selects cls Bundle.tFill Bundle.tFill,
   .lays cls Bundle.tN "cause" "Ljava/lang/Throwable;", .lays cls Bundle.tN "stackTrace" Bundle.steD, .lays cls Bundle.tN "suppressedExceptions" Bundle.listD, .lays cls Bundle.tN "detailMessage" "Ljava/lang/String;",
   .isRef (.static Bundle.tN "UNASSIGNED_STACK" Bundle.steD), .isRef (.static Bundle.tN "SUPPRESSED_SENTINEL" Bundle.listD),
   .fieldLink Bundle.tN 198 Bundle.tN "backtrace" "Ljava/lang/Object;", .lays Bundle.tN Bundle.tN "backtrace" "Ljava/lang/Object;", .lays cls Bundle.tN "backtrace" "Ljava/lang/Object;"])))
def zexF (own : String) (ic : Nat) (cls : String) (ix : Nat) (b6 : ByteArray) : List Cond := (zexA own ic cls ix b6).filter vx_no
def zexD (ix : Nat) (b6 : ByteArray) : Prop := decode b6 0 = .ok (.aload_n 0, 1) ∧ decode b6 1 = .ok (.aload_n 1, 1) ∧ decode b6 2 = .ok (.invokespecial ix, 3) ∧ decode b6 5 = .ok (.return_, 1)
set_option maxHeartbeats 1000000 in
theorem zx_ctor {p : Program} {l : Launch} {e : Env} {R : Room} {s : State} {m₀ : MethodId} {args : Array Value} {below : List Frame} {meth : Method} {c : Code} {W : State} {locs : List Loc} {cells slots : Nat}
    (X : Stand p l e R s m₀ args below meth c W locs cells slots) (hexec : p.tables.exec = Jvm.exec) (htr : e.platform.stackTraces = false) {own cls : String} {ic ix : Nat} {b6 : ByteArray} (hdx : zexD ix b6)
    (hown : s.vm.findClass own = some m₀.cls) (hcls : Bundle.fit cls = true) (h : ∀ a ∈ zexA own ic cls ix b6, a.before args s = true)
    (hlocs : ∀ x ∈ locs, ∀ cell, s.heap[x.base]? = some cell → cell.vm.isStatics = false)
    {a : Addr} {cX : ClassId} {kX : Class} (hfoundX : s.vm.findClass cls = some cX) (hkX : s.vm.classes[cX]? = some kX) (hcell : W.heap[a]? = some (freshCell cX kX)) (hnew : s.heap.size ≤ a)
    {msg : Value} (hmsg : msg.isRef = true) {g : JFrame} (hg : g.method = m₀) (hsize : g.locals.size = c.maxLocals) (hlocked : g.locked = none) (hentered : g.entered = []) {rest : List Value} (hstack : g.stack = msg :: .ref a :: .ref a :: rest)
    (hd6 : decode c.code g.pc = .ok (.invokespecial ic, 3)) (hd9 : decode c.code (g.pc + 3) = .ok (.athrow, 1)) (hout : ∀ x ∈ c.exceptionTable.toList, covers x (g.pc + 3) = false)
    (hRframes : 2 + 3 < R.frames) (hRlocals : 2 * g.monitorRoom + ((Value.ref a :: rest).map fun v => v.category).sum + (13 * (2 + 1) + 42) ≤ R.locals) (hlocks : meth.locks = false) :
    ∃ U : State, Steps p.tables e below (W.setTop g) U ∧ U.status = .running ∧ Ended U below (.threw a) ∧ s.WarmedH U.vm ∧ s.sameButNew ({ U with vm := s.vm } : State) locs cells slots ∧
      ∃ ce, U.heap[a]? = some ce ∧ s.vm.findClass cls = some ce.cls ∧ ce.vm = .none := by
  have howns : e.platform.frameOwnsMonitors = true := by rw [X.admits.platform]
  have hfin : e.platform.finalization = false := by rw [X.admits.platform]
  have hpl : e.platform.magicAccessors = ({} : Platform).magicAccessors := by rw [X.admits.platform]
  have a' : ∀ x, x ∈ zexA own ic cls ix b6 → x.holds args s none s [] = true := fun x hx => h x hx
  obtain ⟨T, Z0, L, -, Y⟩ := ThrowableC.of_atoms (args := args) howns hfin hpl (fun x hx => h x (by simp [zexA, hx]))
  obtain ⟨Z, M, LZ, LM, hnZ⟩ := Init0T.ofS_atoms (args := args) hpl L Y (fun x hx => h x (by simp [zexA, hx]))
  obtain ⟨P1, L1, hP1m, hs1⟩ := PassC.ofS_atoms (args := args) (s := s) hpl (X := cls) (Y := zexRT) (Bundle.fit_spec hcls).1 (by decide) hdx.1 hdx.2.1 hdx.2.2.1 hdx.2.2.2 (fun x hx => h x (by simp only [zexA, List.mem_append]; exact Or.inr (Or.inr (Or.inl hx))))
  obtain ⟨P', Ps, hlen, L', hL, hm', hsup, hpass⟩ := Bundle.chainS (args := args) hpl hnZ [zexEX] zexRT (by decide +kernel) (by decide +kernel) (fun x hx => h x (by simp only [zexA, List.mem_append]; exact Or.inr (Or.inr (Or.inr (Or.inl hx)))))
  have hfound : s.vm.findClass cls = some P1.m.cls := findClass_of_methodNamed hP1m
  cases Option.some.inj (hfoundX.symm.trans hfound)
  obtain ⟨c1, kX', hc1, hk, hord, -, -, hn6⟩ := Cond.instantiable_spec (a' (.instantiable cls 6) (by simp [zexA]))
  cases Option.some.inj (hc1.symm.trans hfound)
  cases Option.some.inj (hkX.symm.trans hk)
  have hsel0 : selectMethod e.platform s.vm P1.m.cls T.fill0 = .method T.fill0 := by
    obtain ⟨c2, r2, m2, q1, q2, q3, q4, -⟩ := Cond.selects_spec (a' (.selects cls Bundle.tFill0 Bundle.tFill0) (by simp [zexA]))
    cases Option.some.inj (q1.symm.trans hfound)
    cases Option.some.inj (q2.symm.trans (State.methodFound?_of_named Y.fill0 (by decide)))
    cases Option.some.inj (q3.symm.trans Y.fill0)
    rw [Launch.admits_selectMethod X.admits]; exact q4
  have hselF : selectMethod e.platform s.vm P1.m.cls T.fill = .method T.fill := by
    obtain ⟨c2, r2, m2, q1, q2, q3, q4, -⟩ := Cond.selects_spec (a' (.selects cls Bundle.tFill Bundle.tFill) (by simp [zexA]))
    cases Option.some.inj (q1.symm.trans hfound)
    cases Option.some.inj (q2.symm.trans (State.methodFound?_of_named Y.fill (by decide)))
    cases Option.some.inj (q3.symm.trans Y.fill)
    rw [Launch.admits_selectMethod X.admits]; exact q4
  obtain ⟨cellS0, hcS0, hiss⟩ := Y.statics
  obtain ⟨u0, hu0⟩ := Cond.staticRefV Y.unassigned L.unassignedStatic L.statics hcS0 hiss (a' (.isRef (.static Bundle.tN "UNASSIGNED_STACK" Bundle.steD)) (by simp [zexA]))
  obtain ⟨sen, hsen⟩ := Cond.staticRefV Y.sentinel L.sentinelStatic L.statics hcS0 hiss (a' (.isRef (.static Bundle.tN "SUPPRESSED_SENTINEL" Bundle.listD)) (by simp [zexA]))
  obtain ⟨ci198, i198, fB, hk198, hg198, ha198, hsB, -, hnB, htB, hffB⟩ := Cond.ownField (t := .object "java/lang/Object") Y.found L.cls (by decide +kernel) (a' (.fieldLink Bundle.tN 198 Bundle.tN "backtrace" "Ljava/lang/Object;") (by simp [zexA])) (a' (.lays Bundle.tN Bundle.tN "backtrace" "Ljava/lang/Object;") (by simp [zexA])) e.platform hpl
  obtain ⟨cellS, hcS', heS, -, hkeep⟩ := X.same.2.2.2.2.2 T.aS cellS0 hcS0
  have hcellS : W.heap[T.aS]? = some cellS := hcS'
  have hout' : ∀ i, (⟨T.aS, i⟩ : Loc) ∉ locs := fun i hmem => by
    have := hlocs _ hmem cellS0 hcS0
    rw [hiss] at this; cases this
  have hknownS : cellS.vm ≠ .unknown := by
    rw [heS]; intro hu
    rw [show cellS0.vm = .unknown from hu] at hiss
    cases hiss
  have hneS : T.aS ≠ a := Nat.ne_of_lt (Nat.lt_of_lt_of_le (Array.getElem?_eq_some_iff.mp hcS0).1 hnew)
  obtain ⟨iM, hffM⟩ := Y.msg
  obtain ⟨tyC, dC, hdC, hdnC⟩ := Cond.laysAt hfound hk Y.cause (a' (.lays cls Bundle.tN "cause" "Ljava/lang/Throwable;") (by simp [zexA]))
  obtain ⟨tyS, dS, hdS, hdnS⟩ := Cond.laysAt hfound hk Y.stack (a' (.lays cls Bundle.tN "stackTrace" Bundle.steD) (by simp [zexA]))
  obtain ⟨tyP, dP, hdP, hdnP⟩ := Cond.laysAt hfound hk Y.supp (a' (.lays cls Bundle.tN "suppressedExceptions" Bundle.listD) (by simp [zexA]))
  obtain ⟨tyM, dM, hdM, hdnM⟩ := Cond.laysAt hfound hk hffM (a' (.lays cls Bundle.tN "detailMessage" "Ljava/lang/String;") (by simp [zexA]))
  obtain ⟨tyB, dB, hdB, hdnB⟩ := Cond.laysAt hfound hk hffB (a' (.lays cls Bundle.tN "backtrace" "Ljava/lang/Object;") (by simp [zexA]))
  have bC := Cond.laysApart hdB hdC hdnB hdnC (by rw [hnB, Y.causeName]; decide)
  have bS := Cond.laysApart hdB hdS hdnB hdnS (by rw [hnB, Y.stackName]; decide)
  have bP := Cond.laysApart hdB hdP hdnB hdnP (by rw [hnB, Y.suppName]; decide)
  have hskip : SkipFacts T e.platform s (fun u => u) u0 ((preparedCellV T.toThrowableT (freshCell P1.m.cls kX) a u0 sen).withEntry W.cur) :=
    ⟨{ ci198 := ci198, i198 := i198, fBack := fB }, ⟨hk198, hg198, ha198, hsB⟩, by
      have := fresh_default (c := P1.m.cls) tyB
      rw [htB] at this
      simpa [preparedCellV, Cell.setSlot, Cell.withEntry, Array.getElem?_setIfInBounds, bC, bS, bP, bC.symm, bS.symm, bP.symm, defaultValue] using this, fun _ _ => rfl⟩
  obtain ⟨tm, methC, cdC, kC, vm₁, hnC, -, -, -, -, -, -, -, hW₁, st1⟩ := Steps.initColdS (tb := p.tables) (e := e) (below := below) (s := s) (U := W) X.here hexec X.warmed hpl hown (t := Bundle.initS cls) rfl rfl (Bundle.fit_spec hcls).2
    (a' (.methodLink own ic (Bundle.initS cls)) (by simp [zexA])) (h (.instanceMethod (Bundle.initS cls)) (by simp [zexA, Bundle.passSAtoms])) (bytes := b6) (maxL := 2) (h (.code (Bundle.initS cls) b6 2 none) (by simp [zexA, Bundle.passSAtoms]))
    (f := g) hg (a := a) (msg := msg) (rest := .ref a :: rest) hstack hd6
  cases Option.some.inj (hnC.symm.trans hP1m)
  have X₁ := X.noted hW₁
  obtain ⟨vm₂, X₂, st2⟩ := X₁.ctorMessageOffV hexec (g := { g with stack := .ref a :: rest }) hg hsize T L Z LZ M LM (P1 :: P' :: Ps)
    (fun P hP => by
      rcases List.mem_cons.mp hP with rfl | hP
      · exact L1
      rcases List.mem_cons.mp hP with rfl | hP
      · exact L'
      · exact hL P hP) ⟨Option.some.inj (hs1.symm.trans hm'), hsup, hpass⟩ (u0 := u0) (sen := sen) (self := a) hmsg (cell := freshCell P1.m.cls kX) (cellS := cellS)
    hcell (fun _ => by simp) (by simp) rfl rfl hsel0 hselF hcellS hneS hknownS (by rw [hkeep _ (hout' _)]; exact hu0) (by rw [hkeep _ (hout' _)]; exact hsen)
    (Takes.of_laid hk hord tyC (by rw [Y.causeType]; rfl)) (Takes.of_laid hk hord tyS (by rw [Y.stackType]; exact fits_refV_array _ u0)) (Takes.of_laid hk hord tyP (by rw [Y.suppType]; exact fits_refV_object _ sen))
    (Takes.of_laid hk hord tyM (by rw [Y.msgType]; exact fits_refV_object _ ⟨msg, hmsg⟩)) Y.objLocals hskip htr [] hd6
    (by simp only [List.length_cons, hlen, List.length_nil]; omega) (by simp only [List.length_cons, hlen, List.length_nil]; exact hRlocals)
  obtain ⟨hwalk, hrun, hended, hWU, hsame⟩ := X₂.athrowLeaves hexec (g := { g with stack := .ref a :: rest, pc := g.pc + 3 }) hg hlocked hentered hout (a := a) (rest := rest) rfl hd9
  have hlt : a < ((W.setVm vm₁).setVm vm₂).heap.size := (Array.getElem?_eq_some_iff.mp hcell).1
  have hU := heapAt_setCell_self (s := (W.setVm vm₁).setVm vm₂) (plainBareV T.toThrowableT (freshCell P1.m.cls kX) a u0 sen msg) hlt
  refine ⟨_, st1 _ (fun acts => ?_), hrun, hended, hWU, hsame.weaken (fun y hy hlt' => ?_) (Nat.le_refl _) (Nat.le_refl _), _, hU, hfound, rfl⟩
  · rw [doInvoke_state]
    exact st2 _ hwalk
  · rcases List.mem_append.mp hy with h1 | h1
    · exact h1
    · exfalso
      have hb : y.base = a := by
        simp only [List.mem_cons, List.not_mem_nil, or_false] at h1
        rcases h1 with rfl | rfl | rfl | rfl | rfl <;> rfl
      rw [hb] at hlt'
      exact absurd hlt' (Nat.not_lt.mpr hnew)
section ZXT
variable {p : Program} {l : Launch} {e : Env} {R : Room} {s : State} {m : MethodId} {args : Array Value} {below : List Frame} {meth : Method} {c : Code} {H : Heap} {locs : List Loc} {cells slots : Nat} {Q : State → Prop}
variable {mc ms : Nat} {free : Addr → Prop} {A0 A1 : Nat → Prop} {H0 : Heap} {a : Array Value} {ls : Array Slot} {st0 rest : List Value}
variable {Qc : Array Value → State → Outcome → State → Prop} {XC : String → State → State → Prop}
theorem zx_throwS {cc : ByteArray} {pc : Nat} (hexec : p.tables.exec = Jvm.exec) (hb : c.code = cc) (hl : l.stackTraces = false) {own cls text : String} {ik is ic ix mc ms sa : Nat} {b6 : ByteArray} {A : Nat → Prop}
    (hown : s.vm.findClass own = some m.cls) (hcls : Bundle.fit cls = true) (hdx : zexD ix b6)
    (hk : (Cond.classLink own ik cls).before args s = true) (hini : (Cond.initialized cls).before args s = true) (hstr : vk_R own is text sa s) (hat : ∀ w ∈ zexF own ic cls ix b6, w.before args s = true)
    (hgood : ∀ w ∈ Cond.classLink own ik cls :: Cond.initialized cls :: zexF own ic cls ix b6, vx_ot w = true)
    (hU : vx_Zq Bundle.tN "UNASSIGNED_STACK" Bundle.steD A s s.heap) (hN : vx_Zq Bundle.tN "SUPPRESSED_SENTINEL" Bundle.listD A s s.heap) (hS : va_S A s.heap H locs) (hsize : ls.size = c.maxLocals)
    (d0 : decode cc pc = .ok (.new ik, 3)) (d3 : decode cc (pc + 3) = .ok (.dup, 1)) (d4 : decode cc (pc + 4) = .ok (.ldc is, 2)) (d6 : decode cc (pc + 6) = .ok (.invokespecial ic, 3)) (d9 : decode cc (pc + 9) = .ok (.athrow, 1))
    (hout : ∀ x ∈ c.exceptionTable.toList, covers x (pc + 9) = false)
    (hRframes : 2 + 3 < R.frames) (hRlocals : (rest.map fun v => v.category).sum + (13 * (2 + 1) + 43) ≤ R.locals) (hRcells : cells + 1 ≤ R.cells) (hRslots : slots + 6 ≤ R.slots) (hlocks : meth.locks = false)
    (hx : ∀ t : State, s.vm.Alike t.vm → H.size ≤ t.heap.size → (∀ q : Nat, q < H.size → t.heap[q]? = H[q]?) → XC cls s t)
    (hf : ∀ z ∈ locs, free z.base) (hc : cells + 1 ≤ mc) (hs : slots + 6 ≤ ms) :
    W p l e R s m args below meth c H locs cells slots (vx_MQ below Qc XC args s mc ms free) (F0 m pc ls rest) := by
  intro T hT X
  have htr : e.platform.stackTraces = false := (show e.platform.stackTraces = l.stackTraces by rw [X.admits.platform]).trans hl
  have Y := vx_rebase X (R' := { frames := R.frames, locals := R.locals, cells := 1, slots := 6 }) (Nat.le_refl _) (Nat.le_refl _) hRcells hRslots
  obtain ⟨s', hA⟩ : ∃ z, z = (T.setVm s.vm).setFrames (.invoking m args :: below) := ⟨_, rfl⟩
  rw [← hA] at Y
  have hvm : s'.vm = s.vm := by rw [hA]; rfl
  have hhp : s'.heap = H := by rw [hA]; exact hT
  have hW0 : s.WarmedH s'.vm := by rw [hvm]; exact State.WarmedH.refl s
  have hat' : ∀ w ∈ zexF own ic cls ix b6, w.before args s' = true := fun w hw => vx_ot_at hW0 hvm.symm (hgood w (List.mem_cons_of_mem _ (List.mem_cons_of_mem _ hw))) (hat w hw)
  have hk' : (Cond.classLink own ik cls).before args s' = true := vx_ot_at hW0 hvm.symm (hgood _ List.mem_cons_self) hk
  have hini' : (Cond.initialized cls).before args s' = true := vx_ot_at hW0 hvm.symm (hgood _ (List.mem_cons_of_mem _ List.mem_cons_self)) hini
  have hU' : vx_Zq Bundle.tN "UNASSIGNED_STACK" Bundle.steD A s' s'.heap := by rw [hhp]; exact vx_Zq.moved hW0.alike (hU.kept hS.2.1)
  have hN' : vx_Zq Bundle.tN "SUPPRESSED_SENTINEL" Bundle.listD A s' s'.heap := by rw [hhp]; exact vx_Zq.moved hW0.alike (hN.kept hS.2.1)
  have h : ∀ w ∈ zexA own ic cls ix b6, w.before args s' = true := vx_own hat' (vx_isRefq hU'.1) (vx_isRefq hN'.1) hU'.2.word hN'.2.word
  have hown' : s'.vm.findClass own = some m.cls := by rw [hvm]; exact hown
  have hins : (Cond.instantiable cls 6).before args s' = true := h _ (by simp [zexA])
  obtain ⟨vm₁, cX, kX, hfX, hkX, -, -, X₁, st1⟩ := Y.newCold hexec (own := own) (C := cls) (index := ik) (n := 6) hown' hk' hins hini'
    (g := F0 m pc ls rest) rfl (by rw [hb]; exact d0) (Nat.le_refl _) (Nat.le_refl _)
  generalize hT1 : (T.setVm vm₁).pushCell { cls := cX, slots := kX.instanceTypes.map defaultValue, vm := .none } = T1 at X₁ st1
  have hcat : (Value.ref T.heap.size).category = 1 := rfl
  have hcellA : T1.heap[T.heap.size]? = some (freshCell cX kX) := by rw [← hT1]; exact State.heap_pushCell_size _ _
  have d3' : decode c.code (pc + 3) = .ok (.dup, 1) := by rw [hb]; exact d3
  have d4' : decode c.code (pc + 4) = .ok (.ldc is, 2) := by rw [hb]; exact d4
  have hstr' : vk_R own is text sa s' := vk_R.warm hW0 hstr
  obtain ⟨U, hsteps, hrun, hend, hW, hsame, ce, hce, hO⟩ := zx_ctor X₁ hexec htr (own := own) (cls := cls) (ic := ic) hdx hown' hcls h (fun x hx => nomatch hx) hfX hkX hcellA (by rw [hhp, hT]; exact Nat.le_refl _) (msg := .ref sa) rfl
    (g := { method := m, pc := pc + 6, locals := ls, stack := .ref sa :: .ref T.heap.size :: .ref T.heap.size :: rest, locked := none }) rfl hsize rfl rfl (rest := rest) rfl
    (by rw [hb]; exact d6) (by rw [hb]; exact d9) hout hRframes (by simp only [List.map_cons, List.sum_cons, hcat]; omega) hlocks
  obtain ⟨f1, f2⟩ := vx_frame hsame
  rw [hhp] at f1 f2
  have hWs : s.WarmedH U.vm := State.WarmedH.trans hW0 hW
  have hcl : s.vm.findClass cls = some ce.cls := by
    have h9 := hO.1
    rw [hvm] at h9
    exact h9
  have hall : s.sameButNew ({ U with vm := s.vm } : State) locs mc ms := by
    subst hA
    obtain ⟨e1, e2⟩ := hsame
    rw [State.setFrames_setFrames] at e1
    have h2 : (T.setVm s.vm).sameButNew ({ U with vm := s.vm } : State) [] (0 + 1) (0 + 6) := ⟨e1, e2⟩
    have h3 := X.same.trans h2
    rw [List.append_nil] at h3
    exact h3.mono hc hs
  refine ⟨U, ?_, .threw T.heap.size, hrun, hend, Or.inr ⟨T.heap.size, rfl, cls, ce, locs, hx U hWs.alike f1 (fun q hq => f2 q hq (fun z hz => nomatch hz)), hce, hO.2, hcl, hWs, hall, hf⟩⟩
  refine st1 _ ?_
  show Steps p.tables e below (T1.setTop { method := m, pc := pc + 3, locals := ls, stack := .ref T.heap.size :: rest, locked := none }) _
  jvm_step X₁.here [X₁.here.top, hexec, d3', Value.category]
  exact X₁.ldcString hexec (own := own) (text := text) (index := is) (a := sa) hown' hstr'.1 hstr'.2
    (g := { method := m, pc := pc + 4, locals := ls, stack := .ref T.heap.size :: .ref T.heap.size :: rest, locked := none }) rfl d4' _ hsteps
theorem zx_throwSW {cc : ByteArray} {pc : Nat} (hexec : p.tables.exec = Jvm.exec) (hb : c.code = cc) (hl : l.stackTraces = false) {own cls text : String} {ik is ic ix mc ms sa : Nat} {b6 : ByteArray} {A : Nat → Prop}
    (hown : s.vm.findClass own = some m.cls) (hcls : Bundle.fit cls = true) (hdx : zexD ix b6)
    (hk : (Cond.classLink own ik cls).before args s = true) (hini : (Cond.initialized cls).before args s = true) (hstr : vk_R own is text sa s) (hat : ∀ w ∈ zexF own ic cls ix b6, w.before args s = true)
    (hgood : ∀ w ∈ Cond.classLink own ik cls :: Cond.initialized cls :: zexF own ic cls ix b6, vx_ot w = true)
    (hU : vx_Zq Bundle.tN "UNASSIGNED_STACK" Bundle.steD A s s.heap) (hN : vx_Zq Bundle.tN "SUPPRESSED_SENTINEL" Bundle.listD A s s.heap) (hS : va_S A s.heap H locs) (hsize : ls.size = c.maxLocals)
    (d0 : decode cc pc = .ok (.new ik, 3)) (d3 : decode cc (pc + 3) = .ok (.dup, 1)) (d4 : decode cc (pc + 4) = .ok (.ldc_w is, 3)) (d7 : decode cc (pc + 7) = .ok (.invokespecial ic, 3)) (d10 : decode cc (pc + 10) = .ok (.athrow, 1))
    (hout : ∀ x ∈ c.exceptionTable.toList, covers x (pc + 10) = false)
    (hRframes : 2 + 3 < R.frames) (hRlocals : (rest.map fun v => v.category).sum + (13 * (2 + 1) + 43) ≤ R.locals) (hRcells : cells + 1 ≤ R.cells) (hRslots : slots + 6 ≤ R.slots) (hlocks : meth.locks = false)
    (hx : ∀ t : State, s.vm.Alike t.vm → H.size ≤ t.heap.size → (∀ q : Nat, q < H.size → t.heap[q]? = H[q]?) → XC cls s t)
    (hf : ∀ z ∈ locs, free z.base) (hc : cells + 1 ≤ mc) (hs : slots + 6 ≤ ms) :
    W p l e R s m args below meth c H locs cells slots (vx_MQ below Qc XC args s mc ms free) (F0 m pc ls rest) := by
  intro T hT X
  have htr : e.platform.stackTraces = false := (show e.platform.stackTraces = l.stackTraces by rw [X.admits.platform]).trans hl
  have Y := vx_rebase X (R' := { frames := R.frames, locals := R.locals, cells := 1, slots := 6 }) (Nat.le_refl _) (Nat.le_refl _) hRcells hRslots
  obtain ⟨s', hA⟩ : ∃ z, z = (T.setVm s.vm).setFrames (.invoking m args :: below) := ⟨_, rfl⟩
  rw [← hA] at Y
  have hvm : s'.vm = s.vm := by rw [hA]; rfl
  have hhp : s'.heap = H := by rw [hA]; exact hT
  have hW0 : s.WarmedH s'.vm := by rw [hvm]; exact State.WarmedH.refl s
  have hat' : ∀ w ∈ zexF own ic cls ix b6, w.before args s' = true := fun w hw => vx_ot_at hW0 hvm.symm (hgood w (List.mem_cons_of_mem _ (List.mem_cons_of_mem _ hw))) (hat w hw)
  have hk' : (Cond.classLink own ik cls).before args s' = true := vx_ot_at hW0 hvm.symm (hgood _ List.mem_cons_self) hk
  have hini' : (Cond.initialized cls).before args s' = true := vx_ot_at hW0 hvm.symm (hgood _ (List.mem_cons_of_mem _ List.mem_cons_self)) hini
  have hU' : vx_Zq Bundle.tN "UNASSIGNED_STACK" Bundle.steD A s' s'.heap := by rw [hhp]; exact vx_Zq.moved hW0.alike (hU.kept hS.2.1)
  have hN' : vx_Zq Bundle.tN "SUPPRESSED_SENTINEL" Bundle.listD A s' s'.heap := by rw [hhp]; exact vx_Zq.moved hW0.alike (hN.kept hS.2.1)
  have h : ∀ w ∈ zexA own ic cls ix b6, w.before args s' = true := vx_own hat' (vx_isRefq hU'.1) (vx_isRefq hN'.1) hU'.2.word hN'.2.word
  have hown' : s'.vm.findClass own = some m.cls := by rw [hvm]; exact hown
  have hins : (Cond.instantiable cls 6).before args s' = true := h _ (by simp [zexA])
  obtain ⟨vm₁, cX, kX, hfX, hkX, -, -, X₁, st1⟩ := Y.newCold hexec (own := own) (C := cls) (index := ik) (n := 6) hown' hk' hins hini'
    (g := F0 m pc ls rest) rfl (by rw [hb]; exact d0) (Nat.le_refl _) (Nat.le_refl _)
  generalize hT1 : (T.setVm vm₁).pushCell { cls := cX, slots := kX.instanceTypes.map defaultValue, vm := .none } = T1 at X₁ st1
  have hcat : (Value.ref T.heap.size).category = 1 := rfl
  have hcellA : T1.heap[T.heap.size]? = some (freshCell cX kX) := by rw [← hT1]; exact State.heap_pushCell_size _ _
  have d3' : decode c.code (pc + 3) = .ok (.dup, 1) := by rw [hb]; exact d3
  have d4' : decode c.code (pc + 4) = .ok (.ldc_w is, 3) := by rw [hb]; exact d4
  have hstr' : vk_R own is text sa s' := vk_R.warm hW0 hstr
  obtain ⟨U, hsteps, hrun, hend, hW, hsame, ce, hce, hO⟩ := zx_ctor X₁ hexec htr (own := own) (cls := cls) (ic := ic) hdx hown' hcls h (fun x hx => nomatch hx) hfX hkX hcellA (by rw [hhp, hT]; exact Nat.le_refl _) (msg := .ref sa) rfl
    (g := { method := m, pc := pc + 7, locals := ls, stack := .ref sa :: .ref T.heap.size :: .ref T.heap.size :: rest, locked := none }) rfl hsize rfl rfl (rest := rest) rfl
    (by rw [hb]; exact d7) (by rw [hb]; exact d10) hout hRframes (by simp only [List.map_cons, List.sum_cons, hcat]; omega) hlocks
  obtain ⟨f1, f2⟩ := vx_frame hsame
  rw [hhp] at f1 f2
  have hWs : s.WarmedH U.vm := State.WarmedH.trans hW0 hW
  have hcl : s.vm.findClass cls = some ce.cls := by
    have h9 := hO.1
    rw [hvm] at h9
    exact h9
  have hall : s.sameButNew ({ U with vm := s.vm } : State) locs mc ms := by
    subst hA
    obtain ⟨e1, e2⟩ := hsame
    rw [State.setFrames_setFrames] at e1
    have h2 : (T.setVm s.vm).sameButNew ({ U with vm := s.vm } : State) [] (0 + 1) (0 + 6) := ⟨e1, e2⟩
    have h3 := X.same.trans h2
    rw [List.append_nil] at h3
    exact h3.mono hc hs
  refine ⟨U, ?_, .threw T.heap.size, hrun, hend, Or.inr ⟨T.heap.size, rfl, cls, ce, locs, hx U hWs.alike f1 (fun q hq => f2 q hq (fun z hz => nomatch hz)), hce, hO.2, hcl, hWs, hall, hf⟩⟩
  refine st1 _ ?_
  show Steps p.tables e below (T1.setTop { method := m, pc := pc + 3, locals := ls, stack := .ref T.heap.size :: rest, locked := none }) _
  jvm_step X₁.here [X₁.here.top, hexec, d3', Value.category]
  exact X₁.ldcStringW hexec (own := own) (text := text) (index := is) (a := sa) hown' hstr'.1 hstr'.2
    (g := { method := m, pc := pc + 4, locals := ls, stack := .ref T.heap.size :: .ref T.heap.size :: rest, locked := none }) rfl d4' _ hsteps
end ZXT
end
section
/-! AN ABSTRACT MACHINE for runs whose heap is known: values (tag, number), a heap that is a list of cells (an object: 0, its class, its fields; an array of the type code t: t + 1, 0, its elements), a reference is a place of that list.
Tags: 0 an int by its 32 bits; 1 a cell of the script; 2 null; 3 a reference; 4 a long by its 64 bits; 5 the double of an int; 6 the double 0; 7 the float of an int; 8 the script; 9 a cell of the script as a char; 10 ArrayList's empty array. -/
abbrev zAV := Nat × Nat
abbrev zCell := Nat × Nat × List zAV
abbrev zH := List zCell
abbrev zL := List (Nat × zAV)
abbrev zSt := Nat × zL × List zAV × zH × Nat × Nat
abbrev zRes := Nat × Nat × zSt
abbrev zK := zSt → Option zRes
abbrev zEv := List (Nat × Nat) × Nat × Nat
abbrev zIns := Nat × Nat × List Nat
abbrev zMeth := MethodName × ByteArray × Nat × Option FieldType × Nat × List zIns × (Nat × Nat × Nat × Nat) × List (Nat × Nat × Nat × Nat × Nat)
def zm_y (M : zMeth) : MethodName := M.1
def zm_b (M : zMeth) : ByteArray := M.2.1
def zm_L (M : zMeth) : Nat := M.2.2.1
def zm_ret (M : zMeth) : Option FieldType := M.2.2.2.1
def zm_rt (M : zMeth) : Nat := M.2.2.2.2.1
def zm_code (M : zMeth) : List zIns := M.2.2.2.2.2.1
def zm_rm (M : zMeth) : Nat × Nat × Nat × Nat := M.2.2.2.2.2.2.1
def zm_hh (M : zMeth) : List (Nat × Nat × Nat × Nat × Nat) := M.2.2.2.2.2.2.2
def zroom (M : zMeth) : Room := { frames := (zm_rm M).1, cells := (zm_rm M).2.1, slots := (zm_rm M).2.2.1, locals := (zm_rm M).2.2.2 }
/-- go on with a number that is worked out -/
def zN {β : Type} (n : Nat) (k : Nat → β) : β := match n with
  | 0 => k 0
  | Nat.succ m => k (Nat.succ m)
theorem zN_eq {β : Type} (n : Nat) (k : Nat → β) : zN n k = k n := by cases n <;> rfl
def zat {α : Type} : List α → Nat → Option α
  | [], _ => none
  | a :: l, n => match n with
    | 0 => some a
    | Nat.succ m => zat l m
theorem zat_eq {α : Type} : ∀ (l : List α) (n : Nat), zat l n = l[n]?
  | [], n => by simp [zat]
  | a :: l, 0 => by simp [zat]
  | a :: l, n + 1 => by show zat l n = _; rw [zat_eq l n]; simp
def zset {α β : Type} : List α → Nat → α → (List α → β) → β
  | [], _, _, k => k []
  | a :: l, n, v, k => match n with
    | 0 => k (v :: l)
    | Nat.succ m => zset l m v (fun l' => k (a :: l'))
theorem zset_eq {α β : Type} : ∀ (l : List α) (n : Nat) (v : α) (k : List α → β), zset l n v k = k (l.set n v)
  | [], n, v, k => by simp [zset]
  | a :: l, 0, v, k => by simp [zset]
  | a :: l, n + 1, v, k => by show zset l n v _ = _; rw [zset_eq l n v]; simp
def zapp {α β : Type} : List α → List α → (List α → β) → β
  | [], m, k => k m
  | a :: l, m, k => zapp l m (fun l' => k (a :: l'))
theorem zapp_eq {α β : Type} : ∀ (l m : List α) (k : List α → β), zapp l m k = k (l ++ m)
  | [], m, k => by simp [zapp]
  | a :: l, m, k => by show zapp l m _ = _; rw [zapp_eq l m]; simp
def zlk (i : Nat) : zL → Option zAV
  | [] => none
  | q :: l => cond (Nat.beq q.1 i) (some q.2) (zlk i l)
theorem zlk_mem {i : Nat} {v : zAV} : ∀ {l : zL}, zlk i l = some v → (i, v) ∈ l
  | q :: l, h => by
    unfold zlk at h
    cases hb : Nat.beq q.1 i with
    | true =>
      rw [hb] at h
      have h1 : q.1 = i := Nat.eq_of_beq_eq_true hb
      have h2 : q.2 = v := by simpa using h
      subst h1; subst h2
      exact List.mem_cons_self
    | false =>
      rw [hb] at h
      exact List.mem_cons_of_mem _ (zlk_mem (by simpa using h))
  | [], h => by simp [zlk] at h
def zcat (v : zAV) : Nat := cond (Nat.beq v.1 4 || Nat.beq v.1 5 || Nat.beq v.1 6) 2 1
def zkeep1 (i : Nat) (q : Nat × zAV) : Bool := !(Nat.beq q.1 i) && !(Nat.beq (q.1 + 1) i && Nat.beq (zcat q.2) 2)
def zkeep2 (i : Nat) (q : Nat × zAV) : Bool := !(Nat.beq q.1 i) && (!(Nat.beq q.1 (i + 1)) && !(Nat.beq (q.1 + 1) i && Nat.beq (zcat q.2) 2))
def zfil {α β : Type} (f : α → Bool) : List α → (List α → β) → β
  | [], k => k []
  | a :: l, k => cond (f a) (zfil f l (fun l' => k (a :: l'))) (zfil f l k)
theorem zfil_eq {α β : Type} (f : α → Bool) : ∀ (l : List α) (k : List α → β), zfil f l k = k (l.filter f)
  | [], k => by simp [zfil]
  | a :: l, k => by
    unfold zfil
    cases h : f a <;> simp [h, zfil_eq f l]
theorem zc {α : Type} {c : Bool} {a : Option α} {r : α} (h : cond c a none = some r) : c = true ∧ a = some r := by
  cases c
  · simp at h
  · exact ⟨rfl, by simpa using h⟩
/-! what the values are -/
def zI (ρ : Nat → Int32) (v : zAV) : Int32 := match v.1 with
  | 0 => nI v.2
  | 1 => ρ v.2
  | 9 => ((ρ v.2).toUInt32 % 65536).toInt32
  | _ => 0
def zJ (v : zAV) : Int64 := match v.1 with
  | 4 => lN v.2
  | _ => 0
def zD (v : zAV) : UInt64 := match v.1 with
  | 5 => FP.i2d (nI v.2)
  | 6 => FP.dconst0
  | _ => 0
def zR (ad : Nat → Nat) (b td : Nat) (v : zAV) : Option Nat := match v.1 with
  | 3 => some (ad v.2)
  | 8 => some b
  | 10 => some td
  | _ => none
def zV (ρ : Nat → Int32) (ad : Nat → Nat) (b td : Nat) (v : zAV) : Value := match v.1 with
  | 0 => .int (zI ρ v)
  | 1 => .int (zI ρ v)
  | 9 => .int (zI ρ v)
  | 4 => .long (zJ v)
  | 5 => .double (zD v)
  | 6 => .double (zD v)
  | 7 => .float (FP.i2f (nI v.2))
  | _ => va_rf (zR ad b td v)
def zisI (v : zAV) : Bool := Nat.beq v.1 0 || (Nat.beq v.1 1 || Nat.beq v.1 9)
def zisJ (v : zAV) : Bool := Nat.beq v.1 4
def zisD (v : zAV) : Bool := Nat.beq v.1 5 || Nat.beq v.1 6
def zisF (v : zAV) : Bool := Nat.beq v.1 7
def zisR (v : zAV) : Bool := Nat.beq v.1 2 || (Nat.beq v.1 3 || (Nat.beq v.1 8 || Nat.beq v.1 10))
section ZV
variable {ρ : Nat → Int32} {ad : Nat → Nat} {b td : Nat} {v : zAV}
theorem zV_I (h : zisI v = true) : zV ρ ad b td v = .int (zI ρ v) := by
  obtain ⟨t, n⟩ := v
  simp only [zisI, Bool.or_eq_true] at h
  rcases h with h | h | h <;> (have h := Nat.eq_of_beq_eq_true h; (try dsimp only at h); subst h; rfl)
theorem zV_J (h : zisJ v = true) : zV ρ ad b td v = .long (zJ v) := by
  obtain ⟨t, n⟩ := v
  have h := Nat.eq_of_beq_eq_true h
  dsimp only at h; subst h; rfl
theorem zV_D (h : zisD v = true) : zV ρ ad b td v = .double (zD v) := by
  obtain ⟨t, n⟩ := v
  simp only [zisD, Bool.or_eq_true] at h
  rcases h with h | h <;> (have h := Nat.eq_of_beq_eq_true h; (try dsimp only at h); subst h; rfl)
theorem zV_F (h : zisF v = true) : zV ρ ad b td v = .float (FP.i2f (nI v.2)) := by
  obtain ⟨t, n⟩ := v
  have h := Nat.eq_of_beq_eq_true h
  dsimp only at h; subst h; rfl
theorem zV_R (h : zisR v = true) : zV ρ ad b td v = va_rf (zR ad b td v) := by
  obtain ⟨t, n⟩ := v
  simp only [zisR, Bool.or_eq_true] at h
  rcases h with h | h | h | h <;> (have h := Nat.eq_of_beq_eq_true h; (try dsimp only at h); subst h; rfl)
theorem zV_3 (h : Nat.beq v.1 3 = true) : zV ρ ad b td v = .ref (ad v.2) := by
  obtain ⟨t, n⟩ := v
  have h := Nat.eq_of_beq_eq_true h
  dsimp only at h; subst h; rfl
theorem zV_0 (h : Nat.beq v.1 0 = true) : zV ρ ad b td v = .int (nI v.2) := by
  obtain ⟨t, n⟩ := v
  have h := Nat.eq_of_beq_eq_true h
  dsimp only at h; subst h; rfl
theorem zV_2 (h : Nat.beq v.1 2 = true) : zV ρ ad b td v = .null := by
  obtain ⟨t, n⟩ := v
  have h := Nat.eq_of_beq_eq_true h
  dsimp only at h; subst h; rfl
theorem zV_4 (h : Nat.beq v.1 4 = true) : zV ρ ad b td v = .long (lN v.2) := by
  obtain ⟨t, n⟩ := v
  have h := Nat.eq_of_beq_eq_true h
  dsimp only at h; subst h; rfl
theorem zV_8 (h : Nat.beq v.1 8 = true) : zV ρ ad b td v = .ref b := by
  obtain ⟨t, n⟩ := v
  have h := Nat.eq_of_beq_eq_true h
  dsimp only at h; subst h; rfl
theorem zV_10 (h : Nat.beq v.1 10 = true) : zV ρ ad b td v = .ref td := by
  obtain ⟨t, n⟩ := v
  have h := Nat.eq_of_beq_eq_true h
  dsimp only at h; subst h; rfl
theorem zI_0 (h : Nat.beq v.1 0 = true) : zI ρ v = nI v.2 := by
  obtain ⟨t, n⟩ := v
  have h := Nat.eq_of_beq_eq_true h
  dsimp only at h; subst h; rfl
theorem zV_cat (v : zAV) : (zV ρ ad b td v).category = zcat v := by
  obtain ⟨t, n⟩ := v
  have hr : ∀ o : Option Nat, (va_rf o).category = 1 := fun o => by cases o <;> rfl
  match t with
  | 0 => rfl
  | 1 => rfl
  | 2 => rfl
  | 3 => rfl
  | 4 => rfl
  | 5 => rfl
  | 6 => rfl
  | 7 => rfl
  | 8 => rfl
  | 9 => rfl
  | 10 => rfl
  | t + 11 => rfl
end ZV
def zT (t : Nat) : FieldType := match t with
  | 0 => .int
  | 1 => .boolean
  | 2 => .long
  | 3 => .char
  | 4 => .double
  | 5 => .object "java/lang/Object"
  | 6 => .array .int
  | 7 => .array (.object "FormRiverModel$Version")
  | 8 => .object "FormRiverModel$Version"
  | _ => .object "FormRiverModel$Submission"
def zC (ρ : Nat → Int32) (ad : Nat → Nat) (b td : Nat) (t : Nat) (vs : List zAV) : vp_A := (vs.length, match t with
  | 0 => .inl (fun j => zI ρ (vs.getD j (0, 0)))
  | 1 => .inl (fun j => zI ρ (vs.getD j (0, 0)))
  | 3 => .inl (fun j => zI ρ (vs.getD j (0, 0)))
  | 2 => .inr (.inl (fun j => zJ (vs.getD j (4, 0))))
  | 4 => .inr (.inr (.inr (.inl (fun j => zD (vs.getD j (6, 0))))))
  | _ => .inr (.inr (.inr (.inr (fun j => zR ad b td (vs.getD j (2, 0)))))))
def zE (ρ : Nat → Int32) (ad : Nat → Nat) (ca : Nat → ClassId) (b td : Nat) (p : Nat) (c : zCell) : va_E := match c.1 with
  | 0 => .inr (c.2.1, c.2.2.map (zV ρ ad b td))
  | Nat.succ t => .inl (ca p, zC ρ ad b td t c.2.2)
def zW (ρ : Nat → Int32) (ad : Nat → Nat) (ca : Nat → ClassId) (b td : Nat) : Nat → zH → va_W
  | _, [] => []
  | p, c :: G => (ad p, zE ρ ad ca b td p c) :: zW ρ ad ca b td (p + 1) G
section ZW
variable {ρ : Nat → Int32} {ad : Nat → Nat} {ca : Nat → ClassId} {b td : Nat}
theorem zW_get : ∀ (G : zH) (p k : Nat) (c : zCell), G[k]? = some c → (zW ρ ad ca b td p G)[k]? = some (ad (p + k), zE ρ ad ca b td (p + k) c)
  | [], p, k, c, h => by simp at h
  | c0 :: G, p, 0, c, h => by
    have h : c0 = c := by simpa using h
    subst h
    simp [zW]
  | c0 :: G, p, k + 1, c, h => by
    have h : G[k]? = some c := by simpa using h
    have h2 := zW_get G (p + 1) k c h
    have e : p + (k + 1) = p + 1 + k := by omega
    rw [e]
    simpa [zW] using h2
theorem zW_none : ∀ (G : zH) (p k : Nat), G[k]? = none → (zW ρ ad ca b td p G)[k]? = none
  | [], p, k, h => by simp [zW]
  | c0 :: G, p, 0, h => by simp at h
  | c0 :: G, p, k + 1, h => by
    have h : G[k]? = none := by simpa using h
    have h2 := zW_none G (p + 1) k h
    simpa [zW] using h2
theorem zW_len : ∀ (G : zH) (p : Nat), (zW ρ ad ca b td p G).length = G.length
  | [], p => rfl
  | c :: G, p => by simp [zW, zW_len G (p + 1)]
theorem zW_set : ∀ (G : zH) (p k : Nat) (c : zCell), k < G.length → (zW ρ ad ca b td p G).set k (ad (p + k), zE ρ ad ca b td (p + k) c) = zW ρ ad ca b td p (G.set k c)
  | [], p, k, c, h => by simp at h
  | c0 :: G, p, 0, c, h => by simp [zW]
  | c0 :: G, p, k + 1, c, h => by
    have h2 := zW_set G (p + 1) k c (by simpa using h)
    have e : p + (k + 1) = p + 1 + k := by omega
    rw [e]
    simp [zW, h2]
theorem zW_app : ∀ (G G' : zH) (p : Nat), zW ρ ad ca b td p (G ++ G') = zW ρ ad ca b td p G ++ zW ρ ad ca b td (p + G.length) G'
  | [], G', p => by simp [zW]
  | c :: G, G', p => by
    have h := zW_app G G' (p + 1)
    have e : p + (c :: G).length = p + 1 + G.length := by simp; omega
    rw [e]
    simp [zW, h]
end ZW
def zok (n : Nat) (v : zAV) : Bool := !(Nat.beq v.1 3) || Nat.blt v.2 n
def zwf (n : Nat) (G : zH) : Prop := ∀ c ∈ G, ∀ v ∈ c.2.2, zok n v = true
theorem zok_lt {n : Nat} {v : zAV} (h : zok n v = true) (h3 : v.1 = 3) : v.2 < n := by
  obtain ⟨t, k⟩ := v
  dsimp only at h3; subst h3
  simpa [zok] using h
theorem zok_mono {n n' : Nat} {v : zAV} (hn : n ≤ n') (h : zok n v = true) : zok n' v = true := by
  by_cases h3 : v.1 = 3
  · have := zok_lt h h3
    obtain ⟨t, k⟩ := v
    dsimp only at h3 this; subst h3
    have : k < n' := by omega
    simp [zok, this]
  · obtain ⟨t, k⟩ := v
    have hb : Nat.beq t 3 = false := by
      cases hq : Nat.beq t 3 with
      | true => exact absurd (Nat.eq_of_beq_eq_true hq) h3
      | false => rfl
    simp [zok, hb]
theorem zwf_mono {n n' : Nat} {G : zH} (hn : n ≤ n') (h : zwf n G) : zwf n' G := fun c hc v hv => zok_mono hn (h c hc v hv)
theorem zR_congr {ad ad' : Nat → Nat} {b td n : Nat} {v : zAV} (h : zok n v = true) (ha : ∀ k, k < n → ad' k = ad k) : zR ad' b td v = zR ad b td v := by
  by_cases h3 : v.1 = 3
  · have := ha _ (zok_lt h h3)
    obtain ⟨t, k⟩ := v
    dsimp only at h3 this; subst h3
    show some (ad' k) = some (ad k)
    rw [this]
  · obtain ⟨t, k⟩ := v
    dsimp only at h3
    match t with
    | 0 => rfl
    | 1 => rfl
    | 2 => rfl
    | 3 => exact absurd rfl h3
    | 4 => rfl
    | 5 => rfl
    | 6 => rfl
    | 7 => rfl
    | 8 => rfl
    | 9 => rfl
    | 10 => rfl
    | t + 11 => rfl
theorem zV_congr {ρ : Nat → Int32} {ad ad' : Nat → Nat} {b td n : Nat} {v : zAV} (h : zok n v = true) (ha : ∀ k, k < n → ad' k = ad k) : zV ρ ad' b td v = zV ρ ad b td v := by
  have hr := zR_congr (b := b) (td := td) h ha
  unfold zV
  rw [hr]
theorem zE_congr {ρ : Nat → Int32} {ad ad' : Nat → Nat} {ca ca' : Nat → ClassId} {b td n p : Nat} {c : zCell} (h : ∀ v ∈ c.2.2, zok n v = true) (ha : ∀ k, k < n → ad' k = ad k) (hc : ca' p = ca p) : zE ρ ad' ca' b td p c = zE ρ ad ca b td p c := by
  obtain ⟨k, ci, vs⟩ := c
  have hm : vs.map (zV ρ ad' b td) = vs.map (zV ρ ad b td) := List.map_congr_left fun v hv => zV_congr (h v hv) ha
  have hg : (fun j => zR ad' b td (vs.getD j (2, 0))) = fun j => zR ad b td (vs.getD j (2, 0)) := by
    funext j
    refine zR_congr (n := n) ?_ ha
    rw [List.getD_eq_getElem?_getD]
    cases hj : vs[j]? with
    | none => rfl
    | some v => exact h v (List.mem_of_getElem? hj)
  cases k with
  | zero => show Sum.inr _ = Sum.inr _; rw [hm]
  | succ t =>
    show Sum.inl _ = Sum.inl _
    rw [hc]
    unfold zC
    rw [hg]
theorem zW_congr {ρ : Nat → Int32} {ad ad' : Nat → Nat} {ca ca' : Nat → ClassId} {b td n : Nat} (ha : ∀ k, k < n → ad' k = ad k) (hc : ∀ k, k < n → ca' k = ca k) : ∀ (G : zH) (p : Nat), p + G.length ≤ n → (∀ c ∈ G, ∀ v ∈ c.2.2, zok n v = true) → zW ρ ad' ca' b td p G = zW ρ ad ca b td p G
  | [], p, _, _ => rfl
  | c :: G, p, hp, hw => by
    have hp' : p + 1 + G.length ≤ n := by simp at hp; omega
    unfold zW
    rw [zE_congr (n := n) (hw c List.mem_cons_self) ha (hc p (by omega)), ha p (by omega), zW_congr ha hc G (p + 1) hp' fun c' h' => hw c' (List.mem_cons_of_mem _ h')]
end
section
/-! THE CONTEXT of a body, and when an instruction of the abstract machine is sound -/
/-! numbers -/
theorem nI_mod (n : Nat) : nI (n % 4294967296) = nI n := by
  apply Int32.toInt_inj.mp
  simp only [nI, Int32.toInt_ofNat', Int32.size, Int.bmod_def]
  omega
theorem nI_subm (a b : Nat) (hb : b < 4294967296) : nI a - nI b = nI ((a + (4294967296 - b)) % 4294967296) := by
  rw [nI_mod]
  apply Int32.toInt_inj.mp
  rw [Int32.toInt_sub]
  simp only [nI, Int32.toInt_ofNat', Int32.size, Int.bmod_def]
  omega
def zbi (x : Int32) : Nat := (x.toInt + 2147483648).toNat
def zbm (n : Nat) : Nat := (n + 2147483648) % 4294967296
theorem zbi_nI (n : Nat) : zbi (nI n) = zbm n := by
  unfold zbi zbm
  simp only [nI, Int32.toInt_ofNat', Int32.size, Int.bmod_def]
  omega
theorem zbq (a b : Nat) : Nat.beq a b = (a == b) := by rw [Bool.eq_iff_iff]; simp
theorem zbi_lt (x y : Int32) : x < y ↔ zbi x < zbi y := by
  have h1 := Int32.le_toInt x
  have h2 := Int32.le_toInt y
  rw [Int32.lt_iff_toInt_lt]
  unfold zbi
  omega
theorem zbi_eq (x y : Int32) : x = y ↔ zbi x = zbi y := by
  have h1 := Int32.le_toInt x
  have h2 := Int32.le_toInt y
  rw [← Int32.toInt_inj]
  unfold zbi
  omega
/-! the words -/
def tblG : List Cond := lw_tbl.filter goodWord
def hasW (c : Nat) (w : Cond) : Bool := decide (zat lw_tbl c = some w) && goodWord w
theorem hasW_in {c : Nat} {w : Cond} (h : hasW c w = true) : w ∈ tblG := by
  simp only [hasW, Bool.and_eq_true] at h
  have h1 := of_decide_eq_true h.1
  rw [zat_eq] at h1
  exact List.mem_filter.mpr ⟨List.mem_of_getElem? h1, h.2⟩
abbrev zX : Type := (Nat → Int32) × Nat × Nat × Nat × va_G × (Nat → Nat) × Nat
def zxr (X : zX) : Nat → Int32 := X.1
def zxb (X : zX) : Nat := X.2.1
def zxt (X : zX) : Nat := X.2.2.1
def zx0 (X : zX) : Nat := X.2.2.2.1
def zxD (X : zX) : va_G := X.2.2.2.2.1
def zxs (X : zX) : Nat → Nat := X.2.2.2.2.2.1
def zxL (X : zX) : Nat := X.2.2.2.2.2.2
/-! what is known of the script: ranges of its cells (a number's place in the order of ints), the first one's last six bits, its length -/
def zEvOK (X : zX) (ev : zEv) : Prop := (∀ i lo hi, ev.1[i]? = some (lo, hi) → lo ≤ zbi (zxr X i) ∧ zbi (zxr X i) ≤ hi) ∧ (ev.2.1 < 64 → zxr X 0 &&& 63 = nI ev.2.1) ∧ (ev.2.2 < 8 → ev.2.2 = zxL X)
def zrg (ev : zEv) (v : zAV) (k : Nat → Nat → Option zRes) : Option zRes := match v.1 with
  | 0 => zN (zbm v.2) fun n => k n n
  | 1 => match zat ev.1 v.2 with
    | some q => k q.1 q.2
    | none => none
  | _ => none
theorem zrg_ok {X : zX} {ev : zEv} {v : zAV} {k : Nat → Nat → Option zRes} {r : zRes} (he : zEvOK X ev) (h : zrg ev v k = some r) : ∃ lo hi, k lo hi = some r ∧ lo ≤ zbi (zI (zxr X) v) ∧ zbi (zI (zxr X) v) ≤ hi ∧ zisI v = true := by
  obtain ⟨t, n⟩ := v
  cases t with
  | zero =>
    unfold zrg at h
    dsimp only at h
    rw [zN_eq] at h
    have e : zbi (zI (zxr X) (0, n)) = zbm n := zbi_nI n
    exact ⟨_, _, h, Nat.le_of_eq e.symm, Nat.le_of_eq e, rfl⟩
  | succ t =>
  cases t with
  | zero =>
    unfold zrg at h
    dsimp only at h
    rw [zat_eq] at h
    cases hq : ev.1[n]? with
    | none => rw [hq] at h; cases h
    | some q =>
      rw [hq] at h
      obtain ⟨lo, hi⟩ := q
      have := he.1 n lo hi hq
      exact ⟨lo, hi, h, this.1, this.2, rfl⟩
  | succ t =>
    unfold zrg at h
    cases h
def zlt (a1 a2 b1 b2 : Nat) (k : Bool → Option zRes) : Option zRes := cond (Nat.blt a2 b1) (k true) (cond (Nat.ble b2 a1) (k false) none)
def zeq (a1 a2 b1 b2 : Nat) (k : Bool → Option zRes) : Option zRes := cond (Nat.blt a2 b1 || Nat.blt b2 a1) (k false) (cond (Nat.beq a1 a2 && (Nat.beq b1 b2 && Nat.beq a1 b1)) (k true) none)
theorem zlt_ok {a1 a2 b1 b2 : Nat} {k : Bool → Option zRes} {r : zRes} {x y : Int32} (hx : a1 ≤ zbi x ∧ zbi x ≤ a2) (hy : b1 ≤ zbi y ∧ zbi y ≤ b2) (h : zlt a1 a2 b1 b2 k = some r) : ∃ t : Bool, k t = some r ∧ (x < y ↔ t = true) := by
  unfold zlt at h
  cases h1 : Nat.blt a2 b1 with
  | true =>
    rw [h1] at h
    have : a2 < b1 := by simpa using h1
    exact ⟨true, h, by rw [zbi_lt]; simp; omega⟩
  | false =>
    rw [h1] at h
    obtain ⟨h2, h3⟩ := zc h
    have : b2 ≤ a1 := by simpa using h2
    exact ⟨false, h3, by rw [zbi_lt]; simp; omega⟩
theorem zeq_ok {a1 a2 b1 b2 : Nat} {k : Bool → Option zRes} {r : zRes} {x y : Int32} (hx : a1 ≤ zbi x ∧ zbi x ≤ a2) (hy : b1 ≤ zbi y ∧ zbi y ≤ b2) (h : zeq a1 a2 b1 b2 k = some r) : ∃ t : Bool, k t = some r ∧ (x = y ↔ t = true) := by
  unfold zeq at h
  cases h1 : (Nat.blt a2 b1 || Nat.blt b2 a1) with
  | true =>
    rw [h1] at h
    have : a2 < b1 ∨ b2 < a1 := by simpa using h1
    exact ⟨false, h, by rw [zbi_eq]; simp; omega⟩
  | false =>
    rw [h1] at h
    obtain ⟨h2, h3⟩ := zc h
    have : a1 = a2 ∧ b1 = b2 ∧ a1 = b1 := by simpa using h2
    exact ⟨true, h3, by rw [zbi_eq]; simp; omega⟩
/-! what holds in a method's body -/
def zStr : List (String × Nat × String) := [("FormRiver", 54, "there are 3 forms"), ("FormRiver", 502, "no such form"), ("FormRiver", 79, "the form has a draft, or 4 versions"), ("FormRiver", 90, "a number is out of range"), ("FormRiver", 518, "the form has no draft"), ("FormRiver", 520, "the draft has 8 questions"), ("FormRiver", 109, "the meaning is out of range, or there is no such kind"), ("FormRiver", 117, "the draft has no such question"), ("FormRiver", 120, "there is no such kind, or the bound is out of range"), ("FormRiver", 134, "the question is computed, or the other one is not earlier"), ("FormRiver", 150, "there is no such kind, or the number is out of range"), ("FormRiver", 155, "there is no version before the version 0"), ("FormRiver", 157, "the draft, or the version before, has no such question"), ("FormRiver", 159, "the question is computed"), ("FormRiver", 173, "the stage, the desk, the bound or the patience is out of range"), ("FormRiver", 182, "the draft has 6 legs, or one with this stage and this desk"), ("FormRiver", 193, "the bound or a number of days is out of range"), ("FormRiver", 210, "the draft has no questions"), ("FormRiver", 219, "a meaning is there twice, or another form owns it"), ("FormRiver", 522, "no version was published"), ("FormRiver", 526, "the meaning is out of range"), ("FormRiver", 257, "no form owns the meaning"), ("FormRiver", 261, "no such desk"), ("FormRiver", 264, "a desk is not its own substitute"), ("FormRiver", 269, "the row of substitutes would come back to the desk"), ("FormRiver", 524, "no such person"), ("FormRiver", 277, "there are 24 submissions"), ("FormRiver", 504, "no such submission"), ("FormRiver", 289, "the submission can't be amended"), ("FormRiver", 506, "no such question"), ("FormRiver", 528, "the submission is neither drafted nor sent back"), ("FormRiver", 330, "the question is computed, not asked, or can't be changed"), ("FormRiver", 341, "the answer is out of range, or one too many"), ("FormRiver", 349, "the question is computed, or can't be changed"), ("FormRiver", 351, "the question has no answers"), ("FormRiver", 356, "the submission is not drafted"), ("FormRiver", 377, "a plain question that is asked has no answers"), ("FormRiver", 530, "the submission is not at desks"), ("FormRiver", 532, "no leg waits at the desk"), ("FormRiver", 401, "these are no plain questions of the version"), ("FormRiver", 419, "the submission is neither drafted nor at desks nor sent back"), ("FormRiver", 513, "the question has no value"), ("FormRiver", 425, "the submission is neither at desks nor sent back"), ("FormRiver", 431, "there is no such rank"), ("FormRiver", 511, "the question has a value"), ("FormRiver", 460, "the record has no such value"), ("FormRiver", 479, "the submission is not accepted"), ("FormRiver", 484, "the number of days is out of range"), ("FormRiver", 494, "no submission has a value for the meaning"), ("FormRiver", 497, "no submission is over")]
def zStrOK (sa : Nat → Nat) (U : State) : Prop := ∀ (i : Nat) (q : String × Nat × String), zStr[i]? = some q → vk_R q.1 q.2.1 q.2.2 (sa i) U
def zNws : List Cond := [.arrayOver (.array .int), .castable "java/lang/IllegalStateException" "java/lang/IllegalStateException", .declares ⟨"java/lang/RuntimeException","<init>","()V"⟩, .declares ⟨"java/lang/RuntimeException","<init>","(Ljava/lang/String;)V"⟩, .declares ⟨"java/lang/Exception","<init>","()V"⟩, .declares ⟨"java/lang/Exception","<init>","(Ljava/lang/String;)V"⟩, .declares ⟨"java/lang/Throwable","<init>","()V"⟩, .declares ⟨"java/lang/Throwable","<init>","(Ljava/lang/String;)V"⟩, .arrayOver (.object "java/lang/Object"), .declares ⟨"java/lang/IndexOutOfBoundsException","<init>","()V"⟩, .declares ⟨"java/lang/IndexOutOfBoundsException","<init>","(Ljava/lang/String;)V"⟩, .castable "java/lang/IndexOutOfBoundsException" "java/lang/IndexOutOfBoundsException", .castable "java/lang/IllegalArgumentException" "java/lang/IllegalArgumentException", .castable "java/util/NoSuchElementException" "java/util/NoSuchElementException", .castable "java/lang/UnsupportedOperationException" "java/lang/UnsupportedOperationException", .castable "java/lang/ArithmeticException" "java/lang/ArithmeticException", .arrayOver (.array (.object "FormRiverModel$Version")), .arrayOver (.object "FormRiverModel$Version"), .arrayOver (.object "FormRiverModel$Submission"), .methodLinkNest "FormRiverModel" 54 ⟨"FormRiverModel$Version","<init>","()V"⟩ "FormRiverModel", .methodLinkNest "FormRiverModel" 98 ⟨"FormRiverModel$Version","isPlain","(I)Z"⟩ "FormRiverModel", .methodLinkNest "FormRiverModel" 147 ⟨"FormRiverModel$Version","questionOf","(I)I"⟩ "FormRiverModel", .methodLinkNest "FormRiverModel" 199 ⟨"FormRiverModel$Sheet","carries","(I)C"⟩ "FormRiverModel", .methodLinkNest "FormRiverModel$Sheet" 41 ⟨"FormRiverModel$Version","isPlain","(I)Z"⟩ "FormRiverModel", .methodLinkNest "FormRiverModel$Sheet" 101 ⟨"FormRiverModel","isBetween","(III)Z"⟩ "FormRiverModel", .methodLinkNest "FormRiverModel" 264 ⟨"FormRiverModel$Sheet","hasValue","(I)Z"⟩ "FormRiverModel", .methodLinkNest "FormRiverModel" 267 ⟨"FormRiverModel$Sheet","value","(I)I"⟩ "FormRiverModel", .methodLinkNest "FormRiverModel" 206 ⟨"FormRiverModel$Submission","<init>","()V"⟩ "FormRiverModel", .methodLinkNest "FormRiverModel" 227 ⟨"FormRiverModel$Submission","isOpen","()Z"⟩ "FormRiverModel", .methodLinkNest "FormRiverModel" 249 ⟨"FormRiverModel$Sheet","isAsked","(I)Z"⟩ "FormRiverModel", .methodLinkNest "FormRiverModel" 325 ⟨"FormRiverModel$Sheet","reason","(I)C"⟩ "FormRiverModel", .methodLinkNest "FormRiverModel" 328 ⟨"FormRiverModel$Sheet","hasCause","(I)Z"⟩ "FormRiverModel", .methodLinkNest "FormRiverModel" 331 ⟨"FormRiverModel$Sheet","causeOf","(I)I"⟩ "FormRiverModel", .castable "FormRiverModel$Version" "java/lang/Object", .castable "FormRiverModel$Submission" "java/lang/Object", .castable "FormRiver" "java/lang/Object", .castable "FormRiver$Desks" "java/lang/Object", .castable "FormRiver$Records" "java/lang/Object", .castable "FormRiverModel" "java/lang/Object", .castable "FormRiver$Form" "java/lang/Object", .castable "FormRiver$Version" "java/lang/Object", .castable "FormRiver$Question" "java/lang/Object", .castable "FormRiver$Leg" "java/lang/Object", .castable "FormRiver$Sheet" "java/lang/Object", .castable "FormRiver$Slot" "java/lang/Object", .castable "FormRiverModel$Sheet" "java/lang/Object", .castable "FormRiver$Submission" "java/lang/Object", .castable "FormRiver$Visit" "java/lang/Object", .declares ⟨"java/lang/Object","getClass","()Ljava/lang/Class;"⟩]
def zEx (e : Nat) : String := match e with
  | 0 => "java/lang/IllegalStateException"
  | 1 => "java/lang/IndexOutOfBoundsException"
  | 2 => "java/lang/IllegalArgumentException"
  | 3 => "java/util/NoSuchElementException"
  | 4 => "java/lang/UnsupportedOperationException"
  | _ => "java/lang/ArithmeticException"
def zNcN : List (Nat × Nat) := [(0, 1), (0, 2), (2, 0), (2, 1), (2, 4), (3, 0), (3, 1), (3, 2), (3, 4), (4, 0), (4, 1), (4, 2), (4, 3), (5, 2)]
def zAO (U : State) : Prop := (∀ w ∈ zNws, va_Nw w U) ∧ ∀ q ∈ zNcN, va_Nc (zEx q.1) (zEx q.2) U
def zStat (b Ln td base : Nat) (ρ : Nat → Int32) (U : State) (H : Heap) : Prop :=
  vx_Zq Bundle.tN "UNASSIGNED_STACK" Bundle.steD (fun q => base ≤ q) U H ∧ vx_Zq Bundle.tN "SUPPRESSED_SENTINEL" Bundle.listD (fun q => base ≤ q) U H ∧
  va_Z "java/util/ArrayList" "DEFAULTCAPACITY_EMPTY_ELEMENTDATA" "[Ljava/lang/Object;" (.ref td) (fun q => base ≤ q) U H ∧ (∃ f, va_T (.object "java/lang/Object") td 0 f (fun q => base ≤ q) U H) ∧
  va_X b Ln ρ U H ∧ b < base
def zCx (p : Program) (l : Launch) (R : Room) (s : State) (m : MethodId) (args : Array Value) (meth : Method) (c : Code) (M : zMeth) (ev : zEv) (X : zX) : Prop :=
  p.tables.exec = Jvm.exec ∧ c.code = zm_b M ∧ c.maxLocals = zm_L M ∧ s.vm.findClass (zm_y M).cls = some m.cls ∧ (∀ w ∈ tblG, w.before args s = true) ∧ R = zroom M ∧ zx0 X ≤ s.heap.size ∧ zEvOK X ev ∧
  meth.locks = false ∧ meth.name = (zm_y M).name ∧ zStat (zxb X) (zxL X) (zxt X) (zx0 X) (zxr X) s s.heap ∧ zStrOK (zxs X) s ∧ zAO s ∧ l.stackTraces = false ∧ meth.sig.returnType = zm_ret M ∧ c.exceptionTable.toList = tableOf ((zm_hh M).map fun q => (q.1, q.2.1, q.2.2.1, q.2.2.2.1))
def zty (tys : List (ClassId × FieldType)) (ca : Nat → ClassId) (G : zH) : Prop := ∀ (k t ci : Nat) (vs : List zAV), G[k]? = some (Nat.succ t, ci, vs) → ∃ t0 : Nat, tys[t0]? = some (ca k, zT t)
def zHp (X : zX) (U : State) (G : zH) (ad : Nat → Nat) (ca : Nat → ClassId) (tys : List (ClassId × FieldType)) (H : Heap) : Prop :=
  va_K (zxD X) vwCl tys U ∧ va_P (zxD X) vwCl (zW (zxr X) ad ca (zxb X) (zxt X) 0 G) H ∧ va_D (fun q => zx0 X ≤ q) (zW (zxr X) ad ca (zxb X) (zxt X) 0 G) ∧ zwf G.length G ∧ zty tys ca G
def zRp (X : zX) (s : State) (nL n0 : Nat) (ad0 : Nat → Nat) (L : zL) (G : zH) (ad : Nat → Nat) (ca : Nat → ClassId) (tys : List (ClassId × FieldType)) (H : Heap) (locs : List Loc) (ls : Array Slot) : Prop :=
  lv_has ls nL (L.map fun q => (q.1, zV (zxr X) ad (zxb X) (zxt X) q.2)) ∧ zHp X s G ad ca tys H ∧ va_S (fun q => zx0 X ≤ q) s.heap H locs ∧ n0 ≤ G.length ∧ ∀ k, k < n0 → ad k = ad0 k
def zGo (p : Program) (l : Launch) (e : Env) (R : Room) (s : State) (m : MethodId) (args : Array Value) (below : List Frame) (meth : Method) (c : Code) (Q : State → Prop) (X : zX) (nL n0 : Nat) (ad0 : Nat → Nat) (st : zSt) : Prop :=
  ∀ ad ca tys H locs ls, zRp X s nL n0 ad0 st.2.1 st.2.2.2.1 ad ca tys H locs ls →
    W p l e R s m args below meth c H locs st.2.2.2.2.1 st.2.2.2.2.2 Q (F0 m st.1 ls (st.2.2.1.map (zV (zxr X) ad (zxb X) (zxt X))))
abbrev zSem : Type := List Nat → zMeth → zEv → zSt → zK → Option zRes
def zSnd (bld : Nat → List Nat → Instr) (len : Nat) (fact : zMeth → List Nat → Bool) (sem : zSem) : Prop :=
  ∀ (p : Program) (l : Launch) (e : Env) (R : Room) (s : State) (m : MethodId) (args : Array Value) (below : List Frame) (meth : Method) (c : Code) (Q : State → Prop) (M : zMeth) (ev : zEv) (X : zX) (n0 : Nat) (ad0 : Nat → Nat),
    zCx p l R s m args meth c M ev X → ∀ (x : List Nat) (pc : Nat) (L : zL) (stk : List zAV) (G : zH) (cu su : Nat) (k : zK) (r : zRes), decode (zm_b M) pc = .ok (bld pc x, len) → fact M x = true → sem x M ev (pc, L, stk, G, cu, su) k = some r →
      ∃ st' : zSt, k st' = some r ∧ (zGo p l e R s m args below meth c Q X (zm_L M) n0 ad0 st' → zGo p l e R s m args below meth c Q X (zm_L M) n0 ad0 (pc, L, stk, G, cu, su))
/-- on to the next instruction -/
def znx (pc len : Nat) (L : zL) (stk : List zAV) (G : zH) (cu su : Nat) (k : zK) : Option zRes := zN (pc + len) fun pc' => k (pc', L, stk, G, cu, su)
theorem znx_eq {pc len : Nat} {L : zL} {stk : List zAV} {G : zH} {cu su : Nat} {k : zK} {r : zRes} (h : znx pc len L stk G cu su k = some r) : k (pc + len, L, stk, G, cu, su) = some r := by
  unfold znx at h
  rwa [zN_eq] at h
def ztrue (_ : zMeth) (_ : List Nat) : Bool := true
def zx (x : List Nat) (i : Nat) : Nat := match zat x i with
  | some n => n
  | none => 0
theorem zlv {X : zX} {s : State} {nL n0 : Nat} {ad0 ad : Nat → Nat} {L : zL} {G : zH} {ca tys H locs ls} (h : zRp X s nL n0 ad0 L G ad ca tys H locs ls) {i : Nat} {v : zAV} (hk : zlk i L = some v) : ls[i]? = some (.val (zV (zxr X) ad (zxb X) (zxt X) v)) :=
  h.1.2.2 (i, _) (List.mem_map.mpr ⟨(i, v), zlk_mem hk, rfl⟩)
theorem zkeep1_eq {X : zX} {ad : Nat → Nat} (i : Nat) (v : zAV) (L : zL) : (i, zV (zxr X) ad (zxb X) (zxt X) v) :: (L.map fun q => (q.1, zV (zxr X) ad (zxb X) (zxt X) q.2)).filter (fun q => !(q.1 == i) && !(q.1 + 1 == i && q.2.category == 2)) = ((i, v) :: L.filter (zkeep1 i)).map fun q => (q.1, zV (zxr X) ad (zxb X) (zxt X) q.2) := by
  rw [List.filter_map, List.map_cons]
  congr 2
  apply List.filter_congr
  intro q hq
  simp only [Function.comp, zkeep1, zV_cat, zbq]
theorem zkeep2_eq {X : zX} {ad : Nat → Nat} (i : Nat) (v : zAV) (L : zL) : (i, zV (zxr X) ad (zxb X) (zxt X) v) :: (L.map fun q => (q.1, zV (zxr X) ad (zxb X) (zxt X) q.2)).filter (fun q => !(q.1 == i) && (!(q.1 == i + 1) && !(q.1 + 1 == i && q.2.category == 2))) = ((i, v) :: L.filter (zkeep2 i)).map fun q => (q.1, zV (zxr X) ad (zxb X) (zxt X) q.2) := by
  rw [List.filter_map, List.map_cons]
  congr 2
  apply List.filter_congr
  intro q hq
  simp only [Function.comp, zkeep2, zV_cat, zbq]
end
section
/-! instructions that leave the heap alone -/
def zo_iloadn : zSem := fun x M ev st k => match st with
  | (pc, L, stk, G, cu, su) => match zlk (zx x 0 % 4) L with
    | some v => cond (zisI v) (znx pc 1 L (v :: stk) G cu su k) none
    | none => none
theorem zs_iloadn : zSnd (fun _ x => .iload_n (Fin.ofNat 4 (zx x 0))) 1 ztrue zo_iloadn := by
  intro p l e R s m args below meth c Q M ev X n0 ad0 cx x pc L stk G cu su k r hd hf hs
  dsimp only [zo_iloadn] at hs
  cases hk : zlk (zx x 0 % 4) L with
  | none => rw [hk] at hs; cases hs
  | some v =>
  rw [hk] at hs
  obtain ⟨hv, hs⟩ := zc hs
  refine ⟨_, znx_eq hs, fun hgo => ?_⟩
  intro ad ca tys H locs ls hR
  have hl := zlv hR hk
  rw [zV_I hv] at hl
  have h2 := hgo ad ca tys H locs ls hR
  simp only [List.map_cons] at h2
  rw [zV_I hv] at h2
  exact lv_iload_n cx.1 cx.2.1 hd rfl hl h2
def zo_iload : zSem := fun x M ev st k => match st with
  | (pc, L, stk, G, cu, su) => match zlk (zx x 0) L with
    | some v => cond (zisI v) (znx pc 2 L (v :: stk) G cu su k) none
    | none => none
theorem zs_iload : zSnd (fun _ x => .iload (zx x 0)) 2 ztrue zo_iload := by
  intro p l e R s m args below meth c Q M ev X n0 ad0 cx x pc L stk G cu su k r hd hf hs
  dsimp only [zo_iload] at hs
  cases hk : zlk (zx x 0) L with
  | none => rw [hk] at hs; cases hs
  | some v =>
  rw [hk] at hs
  obtain ⟨hv, hs⟩ := zc hs
  refine ⟨_, znx_eq hs, fun hgo => ?_⟩
  intro ad ca tys H locs ls hR
  have hl := zlv hR hk
  rw [zV_I hv] at hl
  have h2 := hgo ad ca tys H locs ls hR
  simp only [List.map_cons] at h2
  rw [zV_I hv] at h2
  exact lv_iload cx.1 cx.2.1 hd hl h2
def zo_lloadn : zSem := fun x M ev st k => match st with
  | (pc, L, stk, G, cu, su) => match zlk (zx x 0 % 4) L with
    | some v => cond (zisJ v) (znx pc 1 L (v :: stk) G cu su k) none
    | none => none
theorem zs_lloadn : zSnd (fun _ x => .lload_n (Fin.ofNat 4 (zx x 0))) 1 ztrue zo_lloadn := by
  intro p l e R s m args below meth c Q M ev X n0 ad0 cx x pc L stk G cu su k r hd hf hs
  dsimp only [zo_lloadn] at hs
  cases hk : zlk (zx x 0 % 4) L with
  | none => rw [hk] at hs; cases hs
  | some v =>
  rw [hk] at hs
  obtain ⟨hv, hs⟩ := zc hs
  refine ⟨_, znx_eq hs, fun hgo => ?_⟩
  intro ad ca tys H locs ls hR
  have hl := zlv hR hk
  rw [zV_J hv] at hl
  have h2 := hgo ad ca tys H locs ls hR
  simp only [List.map_cons] at h2
  rw [zV_J hv] at h2
  exact lv_lload_n cx.1 cx.2.1 hd rfl hl h2
def zo_lload : zSem := fun x M ev st k => match st with
  | (pc, L, stk, G, cu, su) => match zlk (zx x 0) L with
    | some v => cond (zisJ v) (znx pc 2 L (v :: stk) G cu su k) none
    | none => none
theorem zs_lload : zSnd (fun _ x => .lload (zx x 0)) 2 ztrue zo_lload := by
  intro p l e R s m args below meth c Q M ev X n0 ad0 cx x pc L stk G cu su k r hd hf hs
  dsimp only [zo_lload] at hs
  cases hk : zlk (zx x 0) L with
  | none => rw [hk] at hs; cases hs
  | some v =>
  rw [hk] at hs
  obtain ⟨hv, hs⟩ := zc hs
  refine ⟨_, znx_eq hs, fun hgo => ?_⟩
  intro ad ca tys H locs ls hR
  have hl := zlv hR hk
  rw [zV_J hv] at hl
  have h2 := hgo ad ca tys H locs ls hR
  simp only [List.map_cons] at h2
  rw [zV_J hv] at h2
  exact lv_lload cx.1 cx.2.1 hd hl h2
def zo_dloadn : zSem := fun x M ev st k => match st with
  | (pc, L, stk, G, cu, su) => match zlk (zx x 0 % 4) L with
    | some v => cond (zisD v) (znx pc 1 L (v :: stk) G cu su k) none
    | none => none
theorem zs_dloadn : zSnd (fun _ x => .dload_n (Fin.ofNat 4 (zx x 0))) 1 ztrue zo_dloadn := by
  intro p l e R s m args below meth c Q M ev X n0 ad0 cx x pc L stk G cu su k r hd hf hs
  dsimp only [zo_dloadn] at hs
  cases hk : zlk (zx x 0 % 4) L with
  | none => rw [hk] at hs; cases hs
  | some v =>
  rw [hk] at hs
  obtain ⟨hv, hs⟩ := zc hs
  refine ⟨_, znx_eq hs, fun hgo => ?_⟩
  intro ad ca tys H locs ls hR
  have hl := zlv hR hk
  rw [zV_D hv] at hl
  have h2 := hgo ad ca tys H locs ls hR
  simp only [List.map_cons] at h2
  rw [zV_D hv] at h2
  exact lv_dload_n cx.1 cx.2.1 hd rfl hl h2
def zo_dload : zSem := fun x M ev st k => match st with
  | (pc, L, stk, G, cu, su) => match zlk (zx x 0) L with
    | some v => cond (zisD v) (znx pc 2 L (v :: stk) G cu su k) none
    | none => none
theorem zs_dload : zSnd (fun _ x => .dload (zx x 0)) 2 ztrue zo_dload := by
  intro p l e R s m args below meth c Q M ev X n0 ad0 cx x pc L stk G cu su k r hd hf hs
  dsimp only [zo_dload] at hs
  cases hk : zlk (zx x 0) L with
  | none => rw [hk] at hs; cases hs
  | some v =>
  rw [hk] at hs
  obtain ⟨hv, hs⟩ := zc hs
  refine ⟨_, znx_eq hs, fun hgo => ?_⟩
  intro ad ca tys H locs ls hR
  have hl := zlv hR hk
  rw [zV_D hv] at hl
  have h2 := hgo ad ca tys H locs ls hR
  simp only [List.map_cons] at h2
  rw [zV_D hv] at h2
  exact lv_dload cx.1 cx.2.1 hd hl h2
def zo_floadn : zSem := fun x M ev st k => match st with
  | (pc, L, stk, G, cu, su) => match zlk (zx x 0 % 4) L with
    | some v => cond (zisF v) (znx pc 1 L (v :: stk) G cu su k) none
    | none => none
theorem zs_floadn : zSnd (fun _ x => .fload_n (Fin.ofNat 4 (zx x 0))) 1 ztrue zo_floadn := by
  intro p l e R s m args below meth c Q M ev X n0 ad0 cx x pc L stk G cu su k r hd hf hs
  dsimp only [zo_floadn] at hs
  cases hk : zlk (zx x 0 % 4) L with
  | none => rw [hk] at hs; cases hs
  | some v =>
  rw [hk] at hs
  obtain ⟨hv, hs⟩ := zc hs
  refine ⟨_, znx_eq hs, fun hgo => ?_⟩
  intro ad ca tys H locs ls hR
  have hl := zlv hR hk
  rw [zV_F hv] at hl
  have h2 := hgo ad ca tys H locs ls hR
  simp only [List.map_cons] at h2
  rw [zV_F hv] at h2
  exact lv_fload_n cx.1 cx.2.1 hd rfl hl h2
def zo_fload : zSem := fun x M ev st k => match st with
  | (pc, L, stk, G, cu, su) => match zlk (zx x 0) L with
    | some v => cond (zisF v) (znx pc 2 L (v :: stk) G cu su k) none
    | none => none
theorem zs_fload : zSnd (fun _ x => .fload (zx x 0)) 2 ztrue zo_fload := by
  intro p l e R s m args below meth c Q M ev X n0 ad0 cx x pc L stk G cu su k r hd hf hs
  dsimp only [zo_fload] at hs
  cases hk : zlk (zx x 0) L with
  | none => rw [hk] at hs; cases hs
  | some v =>
  rw [hk] at hs
  obtain ⟨hv, hs⟩ := zc hs
  refine ⟨_, znx_eq hs, fun hgo => ?_⟩
  intro ad ca tys H locs ls hR
  have hl := zlv hR hk
  rw [zV_F hv] at hl
  have h2 := hgo ad ca tys H locs ls hR
  simp only [List.map_cons] at h2
  rw [zV_F hv] at h2
  exact lv_fload cx.1 cx.2.1 hd hl h2
def zo_aloadn : zSem := fun x M ev st k => match st with
  | (pc, L, stk, G, cu, su) => match zlk (zx x 0 % 4) L with
    | some v => cond (zisR v) (znx pc 1 L (v :: stk) G cu su k) none
    | none => none
theorem zs_aloadn : zSnd (fun _ x => .aload_n (Fin.ofNat 4 (zx x 0))) 1 ztrue zo_aloadn := by
  intro p l e R s m args below meth c Q M ev X n0 ad0 cx x pc L stk G cu su k r hd hf hs
  dsimp only [zo_aloadn] at hs
  cases hk : zlk (zx x 0 % 4) L with
  | none => rw [hk] at hs; cases hs
  | some v =>
  rw [hk] at hs
  obtain ⟨hv, hs⟩ := zc hs
  refine ⟨_, znx_eq hs, fun hgo => ?_⟩
  intro ad ca tys H locs ls hR
  have hl := zlv hR hk
  rw [zV_R hv] at hl
  have h2 := hgo ad ca tys H locs ls hR
  simp only [List.map_cons] at h2
  rw [zV_R hv] at h2
  cases hz : zR ad (zxb X) (zxt X) v with
  | none => rw [hz] at hl h2; exact lv_aload_nN cx.1 cx.2.1 hd rfl hl h2
  | some a => rw [hz] at hl h2; exact lv_aload_n cx.1 cx.2.1 hd rfl hl h2
def zo_aload : zSem := fun x M ev st k => match st with
  | (pc, L, stk, G, cu, su) => match zlk (zx x 0) L with
    | some v => cond (zisR v) (znx pc 2 L (v :: stk) G cu su k) none
    | none => none
theorem zs_aload : zSnd (fun _ x => .aload (zx x 0)) 2 ztrue zo_aload := by
  intro p l e R s m args below meth c Q M ev X n0 ad0 cx x pc L stk G cu su k r hd hf hs
  dsimp only [zo_aload] at hs
  cases hk : zlk (zx x 0) L with
  | none => rw [hk] at hs; cases hs
  | some v =>
  rw [hk] at hs
  obtain ⟨hv, hs⟩ := zc hs
  refine ⟨_, znx_eq hs, fun hgo => ?_⟩
  intro ad ca tys H locs ls hR
  have hl := zlv hR hk
  rw [zV_R hv] at hl
  have h2 := hgo ad ca tys H locs ls hR
  simp only [List.map_cons] at h2
  rw [zV_R hv] at h2
  cases hz : zR ad (zxb X) (zxt X) v with
  | none => rw [hz] at hl h2; exact lv_aloadN cx.1 cx.2.1 hd hl h2
  | some a => rw [hz] at hl h2; exact lv_aload cx.1 cx.2.1 hd hl h2
def zo_istoren : zSem := fun x M ev st k => match st with
  | (pc, L, stk, G, cu, su) => match stk with
    | v :: rest => cond (zisI v && Nat.blt (zx x 0 % 4) (zm_L M)) (zfil (zkeep1 (zx x 0 % 4)) L fun L' => znx pc 1 ((zx x 0 % 4, v) :: L') rest G cu su k) none
    | [] => none
theorem zs_istoren : zSnd (fun _ x => .istore_n (Fin.ofNat 4 (zx x 0))) 1 ztrue zo_istoren := by
  intro p l e R s m args below meth c Q M ev X n0 ad0 cx x pc L stk G cu su k r hd hf hs
  dsimp only [zo_istoren] at hs
  cases stk with
  | nil => cases hs
  | cons v rest =>
  obtain ⟨hv, hs⟩ := zc hs
  rw [zfil_eq] at hs
  simp only [Bool.and_eq_true] at hv
  obtain ⟨hv, hn⟩ := hv
  have hn : zx x 0 % 4 < zm_L M := by simpa using hn
  refine ⟨_, znx_eq hs, fun hgo => ?_⟩
  intro ad ca tys H locs ls hR
  have hk := zkeep1_eq (X := X) (ad := ad) (zx x 0 % 4) v L
  have h2 := fun ls' h' => hgo ad ca tys H locs ls' ⟨h', hR.2⟩
  simp only [List.map_cons] at h2 ⊢
  rw [zV_I hv] at hk ⊢
  refine lv_istore_n cx.1 cx.2.1 hd rfl hR.1 hn hk (fun ls' h' => h2 ls' ?_)
  exact h'
def zo_istore : zSem := fun x M ev st k => match st with
  | (pc, L, stk, G, cu, su) => match stk with
    | v :: rest => cond (zisI v && Nat.blt (zx x 0) (zm_L M)) (zfil (zkeep1 (zx x 0)) L fun L' => znx pc 2 ((zx x 0, v) :: L') rest G cu su k) none
    | [] => none
theorem zs_istore : zSnd (fun _ x => .istore (zx x 0)) 2 ztrue zo_istore := by
  intro p l e R s m args below meth c Q M ev X n0 ad0 cx x pc L stk G cu su k r hd hf hs
  dsimp only [zo_istore] at hs
  cases stk with
  | nil => cases hs
  | cons v rest =>
  obtain ⟨hv, hs⟩ := zc hs
  rw [zfil_eq] at hs
  simp only [Bool.and_eq_true] at hv
  obtain ⟨hv, hn⟩ := hv
  have hn : zx x 0 < zm_L M := by simpa using hn
  refine ⟨_, znx_eq hs, fun hgo => ?_⟩
  intro ad ca tys H locs ls hR
  have hk := zkeep1_eq (X := X) (ad := ad) (zx x 0) v L
  have h2 := fun ls' h' => hgo ad ca tys H locs ls' ⟨h', hR.2⟩
  simp only [List.map_cons] at h2 ⊢
  rw [zV_I hv] at hk ⊢
  refine lv_istore cx.1 cx.2.1 hd hR.1 hn hk (fun ls' h' => h2 ls' ?_)
  exact h'
def zo_fstoren : zSem := fun x M ev st k => match st with
  | (pc, L, stk, G, cu, su) => match stk with
    | v :: rest => cond (zisF v && Nat.blt (zx x 0 % 4) (zm_L M)) (zfil (zkeep1 (zx x 0 % 4)) L fun L' => znx pc 1 ((zx x 0 % 4, v) :: L') rest G cu su k) none
    | [] => none
theorem zs_fstoren : zSnd (fun _ x => .fstore_n (Fin.ofNat 4 (zx x 0))) 1 ztrue zo_fstoren := by
  intro p l e R s m args below meth c Q M ev X n0 ad0 cx x pc L stk G cu su k r hd hf hs
  dsimp only [zo_fstoren] at hs
  cases stk with
  | nil => cases hs
  | cons v rest =>
  obtain ⟨hv, hs⟩ := zc hs
  rw [zfil_eq] at hs
  simp only [Bool.and_eq_true] at hv
  obtain ⟨hv, hn⟩ := hv
  have hn : zx x 0 % 4 < zm_L M := by simpa using hn
  refine ⟨_, znx_eq hs, fun hgo => ?_⟩
  intro ad ca tys H locs ls hR
  have hk := zkeep1_eq (X := X) (ad := ad) (zx x 0 % 4) v L
  have h2 := fun ls' h' => hgo ad ca tys H locs ls' ⟨h', hR.2⟩
  simp only [List.map_cons] at h2 ⊢
  rw [zV_F hv] at hk ⊢
  refine lv_fstore_n cx.1 cx.2.1 hd rfl hR.1 hn hk (fun ls' h' => h2 ls' ?_)
  exact h'
def zo_fstore : zSem := fun x M ev st k => match st with
  | (pc, L, stk, G, cu, su) => match stk with
    | v :: rest => cond (zisF v && Nat.blt (zx x 0) (zm_L M)) (zfil (zkeep1 (zx x 0)) L fun L' => znx pc 2 ((zx x 0, v) :: L') rest G cu su k) none
    | [] => none
theorem zs_fstore : zSnd (fun _ x => .fstore (zx x 0)) 2 ztrue zo_fstore := by
  intro p l e R s m args below meth c Q M ev X n0 ad0 cx x pc L stk G cu su k r hd hf hs
  dsimp only [zo_fstore] at hs
  cases stk with
  | nil => cases hs
  | cons v rest =>
  obtain ⟨hv, hs⟩ := zc hs
  rw [zfil_eq] at hs
  simp only [Bool.and_eq_true] at hv
  obtain ⟨hv, hn⟩ := hv
  have hn : zx x 0 < zm_L M := by simpa using hn
  refine ⟨_, znx_eq hs, fun hgo => ?_⟩
  intro ad ca tys H locs ls hR
  have hk := zkeep1_eq (X := X) (ad := ad) (zx x 0) v L
  have h2 := fun ls' h' => hgo ad ca tys H locs ls' ⟨h', hR.2⟩
  simp only [List.map_cons] at h2 ⊢
  rw [zV_F hv] at hk ⊢
  refine lv_fstore cx.1 cx.2.1 hd hR.1 hn hk (fun ls' h' => h2 ls' ?_)
  exact h'
def zo_astoren : zSem := fun x M ev st k => match st with
  | (pc, L, stk, G, cu, su) => match stk with
    | v :: rest => cond (zisR v && Nat.blt (zx x 0 % 4) (zm_L M)) (zfil (zkeep1 (zx x 0 % 4)) L fun L' => znx pc 1 ((zx x 0 % 4, v) :: L') rest G cu su k) none
    | [] => none
theorem zs_astoren : zSnd (fun _ x => .astore_n (Fin.ofNat 4 (zx x 0))) 1 ztrue zo_astoren := by
  intro p l e R s m args below meth c Q M ev X n0 ad0 cx x pc L stk G cu su k r hd hf hs
  dsimp only [zo_astoren] at hs
  cases stk with
  | nil => cases hs
  | cons v rest =>
  obtain ⟨hv, hs⟩ := zc hs
  rw [zfil_eq] at hs
  simp only [Bool.and_eq_true] at hv
  obtain ⟨hv, hn⟩ := hv
  have hn : zx x 0 % 4 < zm_L M := by simpa using hn
  refine ⟨_, znx_eq hs, fun hgo => ?_⟩
  intro ad ca tys H locs ls hR
  have hk := zkeep1_eq (X := X) (ad := ad) (zx x 0 % 4) v L
  have h2 := fun ls' h' => hgo ad ca tys H locs ls' ⟨h', hR.2⟩
  simp only [List.map_cons] at h2 ⊢
  rw [zV_R hv] at hk ⊢
  cases hz : zR ad (zxb X) (zxt X) v with
  | none => rw [hz] at hk; exact lv_astore_nN cx.1 cx.2.1 hd rfl hR.1 hn hk (fun ls' h' => h2 ls' h')
  | some a => rw [hz] at hk; exact lv_astore_n cx.1 cx.2.1 hd rfl hR.1 hn hk (fun ls' h' => h2 ls' h')
def zo_astore : zSem := fun x M ev st k => match st with
  | (pc, L, stk, G, cu, su) => match stk with
    | v :: rest => cond (zisR v && Nat.blt (zx x 0) (zm_L M)) (zfil (zkeep1 (zx x 0)) L fun L' => znx pc 2 ((zx x 0, v) :: L') rest G cu su k) none
    | [] => none
theorem zs_astore : zSnd (fun _ x => .astore (zx x 0)) 2 ztrue zo_astore := by
  intro p l e R s m args below meth c Q M ev X n0 ad0 cx x pc L stk G cu su k r hd hf hs
  dsimp only [zo_astore] at hs
  cases stk with
  | nil => cases hs
  | cons v rest =>
  obtain ⟨hv, hs⟩ := zc hs
  rw [zfil_eq] at hs
  simp only [Bool.and_eq_true] at hv
  obtain ⟨hv, hn⟩ := hv
  have hn : zx x 0 < zm_L M := by simpa using hn
  refine ⟨_, znx_eq hs, fun hgo => ?_⟩
  intro ad ca tys H locs ls hR
  have hk := zkeep1_eq (X := X) (ad := ad) (zx x 0) v L
  have h2 := fun ls' h' => hgo ad ca tys H locs ls' ⟨h', hR.2⟩
  simp only [List.map_cons] at h2 ⊢
  rw [zV_R hv] at hk ⊢
  cases hz : zR ad (zxb X) (zxt X) v with
  | none => rw [hz] at hk; exact lv_astoreN cx.1 cx.2.1 hd hR.1 hn hk (fun ls' h' => h2 ls' h')
  | some a => rw [hz] at hk; exact lv_astore cx.1 cx.2.1 hd hR.1 hn hk (fun ls' h' => h2 ls' h')
def zo_lstoren : zSem := fun x M ev st k => match st with
  | (pc, L, stk, G, cu, su) => match stk with
    | v :: rest => cond (zisJ v && Nat.blt ((zx x 0 % 4) + 1) (zm_L M)) (zfil (zkeep2 (zx x 0 % 4)) L fun L' => znx pc 1 ((zx x 0 % 4, v) :: L') rest G cu su k) none
    | [] => none
theorem zs_lstoren : zSnd (fun _ x => .lstore_n (Fin.ofNat 4 (zx x 0))) 1 ztrue zo_lstoren := by
  intro p l e R s m args below meth c Q M ev X n0 ad0 cx x pc L stk G cu su k r hd hf hs
  dsimp only [zo_lstoren] at hs
  cases stk with
  | nil => cases hs
  | cons v rest =>
  obtain ⟨hv, hs⟩ := zc hs
  rw [zfil_eq] at hs
  simp only [Bool.and_eq_true] at hv
  obtain ⟨hv, hn⟩ := hv
  have hn : (zx x 0 % 4) + 1 < zm_L M := by simpa using hn
  refine ⟨_, znx_eq hs, fun hgo => ?_⟩
  intro ad ca tys H locs ls hR
  have hk := zkeep2_eq (X := X) (ad := ad) (zx x 0 % 4) v L
  have h2 := fun ls' h' => hgo ad ca tys H locs ls' ⟨h', hR.2⟩
  simp only [List.map_cons] at h2 ⊢
  rw [zV_J hv] at hk ⊢
  refine lv_lstore_n cx.1 cx.2.1 hd rfl hR.1 hn hk (fun ls' h' => h2 ls' ?_)
  exact h'
def zo_lstore : zSem := fun x M ev st k => match st with
  | (pc, L, stk, G, cu, su) => match stk with
    | v :: rest => cond (zisJ v && Nat.blt ((zx x 0) + 1) (zm_L M)) (zfil (zkeep2 (zx x 0)) L fun L' => znx pc 2 ((zx x 0, v) :: L') rest G cu su k) none
    | [] => none
theorem zs_lstore : zSnd (fun _ x => .lstore (zx x 0)) 2 ztrue zo_lstore := by
  intro p l e R s m args below meth c Q M ev X n0 ad0 cx x pc L stk G cu su k r hd hf hs
  dsimp only [zo_lstore] at hs
  cases stk with
  | nil => cases hs
  | cons v rest =>
  obtain ⟨hv, hs⟩ := zc hs
  rw [zfil_eq] at hs
  simp only [Bool.and_eq_true] at hv
  obtain ⟨hv, hn⟩ := hv
  have hn : (zx x 0) + 1 < zm_L M := by simpa using hn
  refine ⟨_, znx_eq hs, fun hgo => ?_⟩
  intro ad ca tys H locs ls hR
  have hk := zkeep2_eq (X := X) (ad := ad) (zx x 0) v L
  have h2 := fun ls' h' => hgo ad ca tys H locs ls' ⟨h', hR.2⟩
  simp only [List.map_cons] at h2 ⊢
  rw [zV_J hv] at hk ⊢
  refine lv_lstore cx.1 cx.2.1 hd hR.1 hn hk (fun ls' h' => h2 ls' ?_)
  exact h'
def zo_dstoren : zSem := fun x M ev st k => match st with
  | (pc, L, stk, G, cu, su) => match stk with
    | v :: rest => cond (zisD v && Nat.blt ((zx x 0 % 4) + 1) (zm_L M)) (zfil (zkeep2 (zx x 0 % 4)) L fun L' => znx pc 1 ((zx x 0 % 4, v) :: L') rest G cu su k) none
    | [] => none
theorem zs_dstoren : zSnd (fun _ x => .dstore_n (Fin.ofNat 4 (zx x 0))) 1 ztrue zo_dstoren := by
  intro p l e R s m args below meth c Q M ev X n0 ad0 cx x pc L stk G cu su k r hd hf hs
  dsimp only [zo_dstoren] at hs
  cases stk with
  | nil => cases hs
  | cons v rest =>
  obtain ⟨hv, hs⟩ := zc hs
  rw [zfil_eq] at hs
  simp only [Bool.and_eq_true] at hv
  obtain ⟨hv, hn⟩ := hv
  have hn : (zx x 0 % 4) + 1 < zm_L M := by simpa using hn
  refine ⟨_, znx_eq hs, fun hgo => ?_⟩
  intro ad ca tys H locs ls hR
  have hk := zkeep2_eq (X := X) (ad := ad) (zx x 0 % 4) v L
  have h2 := fun ls' h' => hgo ad ca tys H locs ls' ⟨h', hR.2⟩
  simp only [List.map_cons] at h2 ⊢
  rw [zV_D hv] at hk ⊢
  refine lv_dstore_n cx.1 cx.2.1 hd rfl hR.1 hn hk (fun ls' h' => h2 ls' ?_)
  exact h'
def zo_dstore : zSem := fun x M ev st k => match st with
  | (pc, L, stk, G, cu, su) => match stk with
    | v :: rest => cond (zisD v && Nat.blt ((zx x 0) + 1) (zm_L M)) (zfil (zkeep2 (zx x 0)) L fun L' => znx pc 2 ((zx x 0, v) :: L') rest G cu su k) none
    | [] => none
theorem zs_dstore : zSnd (fun _ x => .dstore (zx x 0)) 2 ztrue zo_dstore := by
  intro p l e R s m args below meth c Q M ev X n0 ad0 cx x pc L stk G cu su k r hd hf hs
  dsimp only [zo_dstore] at hs
  cases stk with
  | nil => cases hs
  | cons v rest =>
  obtain ⟨hv, hs⟩ := zc hs
  rw [zfil_eq] at hs
  simp only [Bool.and_eq_true] at hv
  obtain ⟨hv, hn⟩ := hv
  have hn : (zx x 0) + 1 < zm_L M := by simpa using hn
  refine ⟨_, znx_eq hs, fun hgo => ?_⟩
  intro ad ca tys H locs ls hR
  have hk := zkeep2_eq (X := X) (ad := ad) (zx x 0) v L
  have h2 := fun ls' h' => hgo ad ca tys H locs ls' ⟨h', hR.2⟩
  simp only [List.map_cons] at h2 ⊢
  rw [zV_D hv] at hk ⊢
  refine lv_dstore cx.1 cx.2.1 hd hR.1 hn hk (fun ls' h' => h2 ls' ?_)
  exact h'
def zo_iconst : zSem := fun x M ev st k => match st with
  | (pc, L, stk, G, cu, su) => zN (zx x 1) fun n => znx pc 1 L ((0, n) :: stk) G cu su k
theorem zs_iconst : zSnd (fun _ x => .iconst ((zx x 0 : Int) - 1)) 1 (fun _ x => decide (Int32.ofInt ((zx x 0 : Int) - 1) = nI (zx x 1))) zo_iconst := by
  intro p l e R s m args below meth c Q M ev X n0 ad0 cx x pc L stk G cu su k r hd hf hs
  dsimp only [zo_iconst] at hs
  rw [zN_eq] at hs
  refine ⟨_, znx_eq hs, fun hgo => ?_⟩
  intro ad ca tys H locs ls hR
  exact lv_iconst cx.1 cx.2.1 hd (of_decide_eq_true hf) (hgo ad ca tys H locs ls hR)
def zo_bipush : zSem := fun x M ev st k => match st with
  | (pc, L, stk, G, cu, su) => zN (zx x 1) fun n => znx pc 2 L ((0, n) :: stk) G cu su k
theorem zs_bipush : zSnd (fun _ x => .bipush ((zx x 0 : Int) - 128)) 2 (fun _ x => decide ((Int8.ofInt ((zx x 0 : Int) - 128)).toInt32 = nI (zx x 1))) zo_bipush := by
  intro p l e R s m args below meth c Q M ev X n0 ad0 cx x pc L stk G cu su k r hd hf hs
  dsimp only [zo_bipush] at hs
  rw [zN_eq] at hs
  refine ⟨_, znx_eq hs, fun hgo => ?_⟩
  intro ad ca tys H locs ls hR
  exact lv_bipush cx.1 cx.2.1 hd (of_decide_eq_true hf) (hgo ad ca tys H locs ls hR)
def zo_sipush : zSem := fun x M ev st k => match st with
  | (pc, L, stk, G, cu, su) => zN (zx x 1) fun n => znx pc 3 L ((0, n) :: stk) G cu su k
theorem zs_sipush : zSnd (fun _ x => .sipush ((zx x 0 : Int) - 32768)) 3 (fun _ x => decide ((Int16.ofInt ((zx x 0 : Int) - 32768)).toInt32 = nI (zx x 1))) zo_sipush := by
  intro p l e R s m args below meth c Q M ev X n0 ad0 cx x pc L stk G cu su k r hd hf hs
  dsimp only [zo_sipush] at hs
  rw [zN_eq] at hs
  refine ⟨_, znx_eq hs, fun hgo => ?_⟩
  intro ad ca tys H locs ls hR
  exact lv_sipush cx.1 cx.2.1 hd (of_decide_eq_true hf) (hgo ad ca tys H locs ls hR)
def zo_lconst : zSem := fun x M ev st k => match st with
  | (pc, L, stk, G, cu, su) => zN (zx x 0 % 2) fun n => znx pc 1 L ((4, n) :: stk) G cu su k
theorem zs_lconst : zSnd (fun _ x => .lconst (Fin.ofNat 2 (zx x 0))) 1 ztrue zo_lconst := by
  intro p l e R s m args below meth c Q M ev X n0 ad0 cx x pc L stk G cu su k r hd hf hs
  dsimp only [zo_lconst] at hs
  rw [zN_eq] at hs
  refine ⟨_, znx_eq hs, fun hgo => ?_⟩
  intro ad ca tys H locs ls hR
  exact lv_lconst cx.1 cx.2.1 hd rfl (hgo ad ca tys H locs ls hR)
def zo_dconst : zSem := fun x M ev st k => match st with
  | (pc, L, stk, G, cu, su) => znx pc 1 L ((6, 0) :: stk) G cu su k
theorem zs_dconst : zSnd (fun _ _ => .dconst 0) 1 ztrue zo_dconst := by
  intro p l e R s m args below meth c Q M ev X n0 ad0 cx x pc L stk G cu su k r hd hf hs
  dsimp only [zo_dconst] at hs
  refine ⟨_, znx_eq hs, fun hgo => ?_⟩
  intro ad ca tys H locs ls hR
  exact lv_dconst0 cx.1 cx.2.1 hd (hgo ad ca tys H locs ls hR)
def zo_null : zSem := fun x M ev st k => match st with
  | (pc, L, stk, G, cu, su) => znx pc 1 L ((2, 0) :: stk) G cu su k
theorem zs_null : zSnd (fun _ _ => .aconst_null) 1 ztrue zo_null := by
  intro p l e R s m args below meth c Q M ev X n0 ad0 cx x pc L stk G cu su k r hd hf hs
  dsimp only [zo_null] at hs
  refine ⟨_, znx_eq hs, fun hgo => ?_⟩
  intro ad ca tys H locs ls hR
  exact lv_null cx.1 cx.2.1 hd (hgo ad ca tys H locs ls hR)
def zo_iadd : zSem := fun x M ev st k => match st with
  | (pc, L, stk, G, cu, su) => match stk with
    | v2 :: rest1 => match rest1 with
      | v1 :: rest => cond (Nat.beq v1.1 0 && Nat.beq v2.1 0) (zN ((v1.2 + v2.2) % 4294967296) fun n => znx pc 1 L ((0, n) :: rest) G cu su k) none
      | [] => none
    | [] => none
theorem zs_iadd : zSnd (fun _ _ => .iadd) 1 ztrue zo_iadd := by
  intro p l e R s m args below meth c Q M ev X n0 ad0 cx x pc L stk G cu su k r hd hf hs
  dsimp only [zo_iadd] at hs
  cases stk with
  | nil => cases hs
  | cons v2 rest1 =>
  cases rest1 with
  | nil => cases hs
  | cons v1 rest =>
  obtain ⟨hv, hs⟩ := zc hs
  rw [zN_eq] at hs
  simp only [Bool.and_eq_true] at hv
  obtain ⟨hv1, hv2⟩ := hv
  refine ⟨_, znx_eq hs, fun hgo => ?_⟩
  intro ad ca tys H locs ls hR
  have h2 := hgo ad ca tys H locs ls hR
  simp only [List.map_cons] at h2 ⊢
  have he : nI ((v1.2 + v2.2) % 4294967296) = nI v1.2 + nI v2.2 := by rw [nI_mod, nI_add]
  rw [show zV (zxr X) ad (zxb X) (zxt X) (0, (v1.2 + v2.2) % 4294967296) = .int (nI ((v1.2 + v2.2) % 4294967296)) from rfl, he] at h2
  rw [zV_0 hv1, zV_0 hv2]
  exact lv_iadd cx.1 cx.2.1 hd h2
def zo_isub : zSem := fun x M ev st k => match st with
  | (pc, L, stk, G, cu, su) => match stk with
    | v2 :: rest1 => match rest1 with
      | v1 :: rest => cond (Nat.beq v1.1 0 && Nat.beq v2.1 0 && Nat.blt v2.2 4294967296) (zN ((v1.2 + (4294967296 - v2.2)) % 4294967296) fun n => znx pc 1 L ((0, n) :: rest) G cu su k) none
      | [] => none
    | [] => none
theorem zs_isub : zSnd (fun _ _ => .isub) 1 ztrue zo_isub := by
  intro p l e R s m args below meth c Q M ev X n0 ad0 cx x pc L stk G cu su k r hd hf hs
  dsimp only [zo_isub] at hs
  cases stk with
  | nil => cases hs
  | cons v2 rest1 =>
  cases rest1 with
  | nil => cases hs
  | cons v1 rest =>
  obtain ⟨hv, hs⟩ := zc hs
  rw [zN_eq] at hs
  simp only [Bool.and_eq_true] at hv
  obtain ⟨⟨hv1, hv2⟩, hv3⟩ := hv
  refine ⟨_, znx_eq hs, fun hgo => ?_⟩
  intro ad ca tys H locs ls hR
  have h2 := hgo ad ca tys H locs ls hR
  simp only [List.map_cons] at h2 ⊢
  have he : nI ((v1.2 + (4294967296 - v2.2)) % 4294967296) = nI v1.2 - nI v2.2 := (nI_subm _ _ (by simpa using hv3)).symm
  rw [show zV (zxr X) ad (zxb X) (zxt X) (0, (v1.2 + (4294967296 - v2.2)) % 4294967296) = .int (nI ((v1.2 + (4294967296 - v2.2)) % 4294967296)) from rfl, he] at h2
  rw [zV_0 hv1, zV_0 hv2]
  exact lv_isub cx.1 cx.2.1 hd h2
def zo_iand : zSem := fun x M ev st k => match st with
  | (pc, L, stk, G, cu, su) => match stk with
    | v2 :: rest1 => match rest1 with
      | v1 :: rest => cond (Nat.beq v1.1 1 && (Nat.beq v1.2 0 && (Nat.beq v2.1 0 && (Nat.beq v2.2 63 && Nat.blt ev.2.1 64)))) (zN ev.2.1 fun n => znx pc 1 L ((0, n) :: rest) G cu su k) none
      | [] => none
    | [] => none
theorem zs_iand : zSnd (fun _ _ => .iand) 1 ztrue zo_iand := by
  intro p l e R s m args below meth c Q M ev X n0 ad0 cx x pc L stk G cu su k r hd hf hs
  dsimp only [zo_iand] at hs
  cases stk with
  | nil => cases hs
  | cons v2 rest1 =>
  cases rest1 with
  | nil => cases hs
  | cons v1 rest =>
  have hs9 := (zc hs).2
  have hv := (zc hs).1
  clear hs
  rw [zN_eq] at hs9
  obtain ⟨t1, n1⟩ := v1
  obtain ⟨t2, n2⟩ := v2
  simp only [Bool.and_eq_true] at hv
  obtain ⟨hv1, hv2, hv3, hv4, hv5⟩ := hv
  have hv5 : ev.2.1 < 64 := by simpa using hv5
  cases Nat.eq_of_beq_eq_true hv1
  cases Nat.eq_of_beq_eq_true hv2
  cases Nat.eq_of_beq_eq_true hv3
  cases Nat.eq_of_beq_eq_true hv4
  refine ⟨_, znx_eq hs9, fun hgo => ?_⟩
  intro ad ca tys H locs ls hR
  have h2 := hgo ad ca tys H locs ls hR
  have he : zxr X 0 &&& nI 63 = nI ev.2.1 := cx.2.2.2.2.2.2.2.1.2.1 hv5
  simp only [List.map_cons] at h2 ⊢
  rw [show zV (zxr X) ad (zxb X) (zxt X) (0, ev.2.1) = .int (nI ev.2.1) from rfl, ← he] at h2
  exact lv_iand cx.1 cx.2.1 hd h2
theorem nI_ln {n : Nat} (h1 : 2147483648 ≤ n) (h2 : n < 4294967296) : (nI n).toInt64 = lN (n + 18446744069414584320) := Int64.toInt_inj.mp (by
  rw [Int32.toInt_toInt64]
  simp only [nI, lN, Int32.toInt_ofNat', Int64.toInt_ofNat', Int32.size, Int64.size, Int.bmod_def]
  omega)
def zo_i2l : zSem := fun x M ev st k => match st with
  | (pc, L, stk, G, cu, su) => match stk with
    | v :: rest => cond (Nat.beq v.1 0 && Nat.blt v.2 4294967296) (cond (Nat.blt v.2 2147483648) (znx pc 1 L ((4, v.2) :: rest) G cu su k) (zN (v.2 + 18446744069414584320) fun n => znx pc 1 L ((4, n) :: rest) G cu su k)) none
    | [] => none
theorem zs_i2l : zSnd (fun _ _ => .i2l) 1 ztrue zo_i2l := by
  intro p l e R s m args below meth c Q M ev X n0 ad0 cx x pc L stk G cu su k r hd hf hs
  dsimp only [zo_i2l] at hs
  cases stk with
  | nil => cases hs
  | cons v rest =>
  obtain ⟨hv, hs⟩ := zc hs
  simp only [Bool.and_eq_true] at hv
  obtain ⟨hv1, hv2⟩ := hv
  have hv2 : v.2 < 4294967296 := by simpa using hv2
  cases hb : Nat.blt v.2 2147483648 with
  | true =>
    rw [hb, cond_true] at hs
    have hlt : v.2 < 2147483648 := by simpa using hb
    refine ⟨_, znx_eq hs, fun hgo => ?_⟩
    intro ad ca tys H locs ls hR
    have h2 := hgo ad ca tys H locs ls hR
    simp only [List.map_cons] at h2 ⊢
    rw [zV_0 hv1]
    exact lv_i2l cx.1 cx.2.1 hd (nI_l (by omega)) h2
  | false =>
    rw [hb, cond_false] at hs
    have hlt : ¬ v.2 < 2147483648 := fun h => by
      have : Nat.blt v.2 2147483648 = true := by simpa using h
      rw [hb] at this; cases this
    rw [zN_eq] at hs
    refine ⟨_, znx_eq hs, fun hgo => ?_⟩
    intro ad ca tys H locs ls hR
    have h2 := hgo ad ca tys H locs ls hR
    simp only [List.map_cons] at h2 ⊢
    rw [zV_0 hv1]
    exact lv_i2l cx.1 cx.2.1 hd (nI_ln (by omega) hv2) h2
def zo_i2c : zSem := fun x M ev st k => match st with
  | (pc, L, stk, G, cu, su) => match stk with
    | v :: rest => cond (Nat.beq v.1 1) (znx pc 1 L ((9, v.2) :: rest) G cu su k) (cond (Nat.beq v.1 0 && Nat.blt v.2 65536) (znx pc 1 L (v :: rest) G cu su k) none)
    | [] => none
theorem nI_c {n : Nat} (h : n < 65536) : ((nI n).toUInt32 % 65536).toInt32 = nI n := by
  apply Int32.toInt_inj.mp
  have h1 : (nI n).toUInt32.toNat = n := by
    simp [nI]; omega
  have h2 : ((nI n).toUInt32 % 65536) = (nI n).toUInt32 := by
    apply UInt32.toNat_inj.mp
    rw [UInt32.toNat_mod, h1]
    exact Nat.mod_eq_of_lt h
  rw [h2]
  simp
theorem zs_i2c : zSnd (fun _ _ => .i2c) 1 ztrue zo_i2c := by
  intro p l e R s m args below meth c Q M ev X n0 ad0 cx x pc L stk G cu su k r hd hf hs
  dsimp only [zo_i2c] at hs
  cases stk with
  | nil => cases hs
  | cons v rest =>
  obtain ⟨t, n⟩ := v
  dsimp only at hs
  cases hv : Nat.beq t 1 with
  | true =>
    rw [hv] at hs
    cases Nat.eq_of_beq_eq_true hv
    refine ⟨_, znx_eq hs, fun hgo => ?_⟩
    intro ad ca tys H locs ls hR
    exact lv_i2c cx.1 cx.2.1 hd rfl (hgo ad ca tys H locs ls hR)
  | false =>
    rw [hv] at hs
    obtain ⟨hv, hs⟩ := zc hs
    simp only [Bool.and_eq_true] at hv
    obtain ⟨hv1, hv2⟩ := hv
    cases Nat.eq_of_beq_eq_true hv1
    refine ⟨_, znx_eq hs, fun hgo => ?_⟩
    intro ad ca tys H locs ls hR
    exact lv_i2c cx.1 cx.2.1 hd (nI_c (by simpa using hv2)) (hgo ad ca tys H locs ls hR)
def zo_i2d : zSem := fun x M ev st k => match st with
  | (pc, L, stk, G, cu, su) => match stk with
    | v :: rest => cond (Nat.beq v.1 0) (znx pc 1 L ((5, v.2) :: rest) G cu su k) none
    | [] => none
theorem zs_i2d : zSnd (fun _ _ => .i2d) 1 ztrue zo_i2d := by
  intro p l e R s m args below meth c Q M ev X n0 ad0 cx x pc L stk G cu su k r hd hf hs
  dsimp only [zo_i2d] at hs
  cases stk with
  | nil => cases hs
  | cons v rest =>
  obtain ⟨hv, hs⟩ := zc hs
  refine ⟨_, znx_eq hs, fun hgo => ?_⟩
  intro ad ca tys H locs ls hR
  have h2 := hgo ad ca tys H locs ls hR
  simp only [List.map_cons] at h2 ⊢
  rw [zV_0 hv]
  exact lv_i2d cx.1 cx.2.1 hd h2
def zo_i2f : zSem := fun x M ev st k => match st with
  | (pc, L, stk, G, cu, su) => match stk with
    | v :: rest => cond (Nat.beq v.1 0) (znx pc 1 L ((7, v.2) :: rest) G cu su k) none
    | [] => none
theorem zs_i2f : zSnd (fun _ _ => .i2f) 1 ztrue zo_i2f := by
  intro p l e R s m args below meth c Q M ev X n0 ad0 cx x pc L stk G cu su k r hd hf hs
  dsimp only [zo_i2f] at hs
  cases stk with
  | nil => cases hs
  | cons v rest =>
  obtain ⟨hv, hs⟩ := zc hs
  refine ⟨_, znx_eq hs, fun hgo => ?_⟩
  intro ad ca tys H locs ls hR
  have h2 := hgo ad ca tys H locs ls hR
  simp only [List.map_cons] at h2 ⊢
  rw [zV_0 hv]
  exact lv_i2f cx.1 cx.2.1 hd h2
def zo_dup : zSem := fun x M ev st k => match st with
  | (pc, L, stk, G, cu, su) => match stk with
    | v :: rest => cond (Nat.beq (zcat v) 1) (znx pc 1 L (v :: v :: rest) G cu su k) none
    | [] => none
theorem zs_dup : zSnd (fun _ _ => .dup) 1 ztrue zo_dup := by
  intro p l e R s m args below meth c Q M ev X n0 ad0 cx x pc L stk G cu su k r hd hf hs
  dsimp only [zo_dup] at hs
  cases stk with
  | nil => cases hs
  | cons v rest =>
  obtain ⟨hv, hs⟩ := zc hs
  refine ⟨_, znx_eq hs, fun hgo => ?_⟩
  intro ad ca tys H locs ls hR
  exact lv_dup cx.1 cx.2.1 hd (by rw [zV_cat]; exact Nat.eq_of_beq_eq_true hv) (hgo ad ca tys H locs ls hR)
def zo_pop : zSem := fun x M ev st k => match st with
  | (pc, L, stk, G, cu, su) => match stk with
    | v :: rest => cond (Nat.beq (zcat v) 1) (znx pc 1 L rest G cu su k) none
    | [] => none
theorem zs_pop : zSnd (fun _ _ => .pop) 1 ztrue zo_pop := by
  intro p l e R s m args below meth c Q M ev X n0 ad0 cx x pc L stk G cu su k r hd hf hs
  dsimp only [zo_pop] at hs
  cases stk with
  | nil => cases hs
  | cons v rest =>
  obtain ⟨hv, hs⟩ := zc hs
  refine ⟨_, znx_eq hs, fun hgo => ?_⟩
  intro ad ca tys H locs ls hR
  exact lv_pop cx.1 cx.2.1 hd (by rw [zV_cat]; exact Nat.eq_of_beq_eq_true hv) (hgo ad ca tys H locs ls hR)
def zo_dup_x1 : zSem := fun x M ev st k => match st with
  | (pc, L, stk, G, cu, su) => match stk with
    | v1 :: rest1 => match rest1 with
      | v2 :: rest => cond (Nat.beq (zcat v1) 1 && Nat.beq (zcat v2) 1) (znx pc 1 L (v1 :: v2 :: v1 :: rest) G cu su k) none
      | [] => none
    | [] => none
theorem zs_dup_x1 : zSnd (fun _ _ => .dup_x1) 1 ztrue zo_dup_x1 := by
  intro p l e R s m args below meth c Q M ev X n0 ad0 cx x pc L stk G cu su k r hd hf hs
  dsimp only [zo_dup_x1] at hs
  cases stk with
  | nil => cases hs
  | cons v1 rest1 =>
  cases rest1 with
  | nil => cases hs
  | cons v2 rest =>
  obtain ⟨hv, hs⟩ := zc hs
  simp only [Bool.and_eq_true] at hv
  refine ⟨_, znx_eq hs, fun hgo => ?_⟩
  intro ad ca tys H locs ls hR
  exact lv_dup_x1 cx.1 cx.2.1 hd (by rw [zV_cat]; exact Nat.eq_of_beq_eq_true hv.1) (by rw [zV_cat]; exact Nat.eq_of_beq_eq_true hv.2) (hgo ad ca tys H locs ls hR)
def zo_iinc : zSem := fun x M ev st k => match st with
  | (pc, L, stk, G, cu, su) => match zlk (zx x 0) L with
    | some v => cond (Nat.beq v.1 0 && Nat.blt (zx x 0) (zm_L M)) (zN ((v.2 + zx x 2) % 4294967296) fun n => zfil (zkeep1 (zx x 0)) L fun L' => znx pc 3 ((zx x 0, (0, n)) :: L') stk G cu su k) none
    | none => none
theorem zs_iinc : zSnd (fun _ x => .iinc (zx x 0) ((zx x 1 : Int) - 32768)) 3 (fun _ x => decide (Int32.ofInt ((zx x 1 : Int) - 32768) = nI (zx x 2))) zo_iinc := by
  intro p l e R s m args below meth c Q M ev X n0 ad0 cx x pc L stk G cu su k r hd hf hs
  dsimp only [zo_iinc] at hs
  cases hk : zlk (zx x 0) L with
  | none => rw [hk] at hs; cases hs
  | some v =>
  rw [hk] at hs
  obtain ⟨hv, hs⟩ := zc hs
  rw [zN_eq, zfil_eq] at hs
  simp only [Bool.and_eq_true] at hv
  obtain ⟨hv, hn⟩ := hv
  have hn : zx x 0 < zm_L M := by simpa using hn
  refine ⟨_, znx_eq hs, fun hgo => ?_⟩
  intro ad ca tys H locs ls hR
  have hke := zkeep1_eq (X := X) (ad := ad) (zx x 0) (0, (v.2 + zx x 2) % 4294967296) L
  have hm : (zx x 0, zV (zxr X) ad (zxb X) (zxt X) v) ∈ L.map fun q => (q.1, zV (zxr X) ad (zxb X) (zxt X) q.2) := List.mem_map.mpr ⟨_, zlk_mem hk, rfl⟩
  obtain ⟨j, hj⟩ := List.getElem?_of_mem hm
  rw [zV_0 hv] at hj
  have he : nI v.2 + Int32.ofInt ((zx x 1 : Int) - 32768) = nI ((v.2 + zx x 2) % 4294967296) := by rw [of_decide_eq_true hf, nI_add, nI_mod]
  exact lv_iinc cx.1 cx.2.1 hd hR.1 hj he hn hke (fun ls' h' => hgo ad ca tys H locs ls' ⟨h', hR.2⟩)
def zo_goto : zSem := fun x M ev st k => match st with
  | (pc, L, stk, G, cu, su) => zN (zx x 0) fun t => k (t, L, stk, G, cu, su)
theorem zs_goto : zSnd (fun pc x => .goto ((zx x 0 : Int) - (pc : Int))) 3 ztrue zo_goto := by
  intro p l e R s m args below meth c Q M ev X n0 ad0 cx x pc L stk G cu su k r hd hf hs
  dsimp only [zo_goto] at hs
  rw [zN_eq] at hs
  refine ⟨_, hs, fun hgo => ?_⟩
  intro ad ca tys H locs ls hR
  exact lv_goto cx.1 cx.2.1 hd (by omega) (hgo ad ca tys H locs ls hR)
def zo_lcmp : zSem := fun x M ev st k => match st with
  | (pc, L, stk, G, cu, su) => match stk with
    | v2 :: rest1 => match rest1 with
      | v1 :: rest => cond (Nat.beq v1.1 4 && (Nat.beq v2.1 4 && Nat.beq v1.2 v2.2)) (znx pc 1 L ((0, 0) :: rest) G cu su k) none
      | [] => none
    | [] => none
theorem zs_lcmp : zSnd (fun _ _ => .lcmp) 1 ztrue zo_lcmp := by
  intro p l e R s m args below meth c Q M ev X n0 ad0 cx x pc L stk G cu su k r hd hf hs
  dsimp only [zo_lcmp] at hs
  cases stk with
  | nil => cases hs
  | cons v2 rest1 =>
  cases rest1 with
  | nil => cases hs
  | cons v1 rest =>
  have hs9 := (zc hs).2
  have hv := (zc hs).1
  clear hs
  obtain ⟨t1, n1⟩ := v1
  obtain ⟨t2, n2⟩ := v2
  simp only [Bool.and_eq_true] at hv
  obtain ⟨hv1, hv2, hv3⟩ := hv
  cases Nat.eq_of_beq_eq_true hv1
  cases Nat.eq_of_beq_eq_true hv2
  cases Nat.eq_of_beq_eq_true hv3
  refine ⟨_, znx_eq hs9, fun hgo => ?_⟩
  intro ad ca tys H locs ls hR
  have h2 := hgo ad ca tys H locs ls hR
  have he : lg_cmp (lN n1) (lN n1) = 0 := (lg_cmp_eq _ _).mpr rfl
  simp only [List.map_cons] at h2 ⊢
  rw [show zV (zxr X) ad (zxb X) (zxt X) (0, 0) = .int 0 from rfl, ← he] at h2
  exact W.lcmp cx.1 cx.2.1 hd h2
def zo_icmp_eq : zSem := fun x M ev st k => match st with
  | (pc, L, stk, G, cu, su) => match stk with
    | v2 :: rest1 => match rest1 with
      | v1 :: rest => zrg ev v1 fun a1 a2 => zrg ev v2 fun b1 b2 => zeq a1 a2 b1 b2 fun t => cond t (zN (zx x 0) fun t => k (t, L, rest, G, cu, su)) (znx pc 3 L rest G cu su k)
      | [] => none
    | [] => none
theorem zs_icmp_eq : zSnd (fun pc x => .if_icmp .eq ((zx x 0 : Int) - (pc : Int))) 3 ztrue zo_icmp_eq := by
  intro p l e R s m args below meth c Q M ev X n0 ad0 cx x pc L stk G cu su k r hd hf hs
  dsimp only [zo_icmp_eq] at hs
  cases stk with
  | nil => cases hs
  | cons v2 rest1 =>
  cases rest1 with
  | nil => cases hs
  | cons v1 rest =>
  obtain ⟨a1, a2, hs, hx1, hx2, hv1⟩ := zrg_ok cx.2.2.2.2.2.2.2.1 hs
  obtain ⟨b1, b2, hs, hy1, hy2, hv2⟩ := zrg_ok cx.2.2.2.2.2.2.2.1 hs
  obtain ⟨t, hs, hi⟩ := zeq_ok ⟨hx1, hx2⟩ ⟨hy1, hy2⟩ hs
  cases t with
  | true =>
    simp only [cond] at hs
    rw [zN_eq] at hs
    refine ⟨_, hs, fun hgo => ?_⟩
    intro ad ca tys H locs ls hR
    have H1 := hgo ad ca tys H locs ls hR
    simp only [List.map_cons] at H1 ⊢
    rw [zV_I hv1, zV_I hv2]
    refine lv_icmp_eq cx.1 cx.2.1 hd (tgt := zx x 0) (by omega) (fun _ => H1) (fun hh => absurd (hi.mpr rfl) hh)
  | false =>
    simp only [cond] at hs
    refine ⟨_, znx_eq hs, fun hgo => ?_⟩
    intro ad ca tys H locs ls hR
    have H1 := hgo ad ca tys H locs ls hR
    simp only [List.map_cons] at H1 ⊢
    rw [zV_I hv1, zV_I hv2]
    refine lv_icmp_eq cx.1 cx.2.1 hd (tgt := zx x 0) (by omega) (fun hh => absurd (hi.mp hh) (by simp)) (fun _ => H1)
def zo_if_eq : zSem := fun x M ev st k => match st with
  | (pc, L, stk, G, cu, su) => match stk with
    | v1 :: rest => zrg ev v1 fun a1 a2 => zeq a1 a2 2147483648 2147483648 fun t => cond t (zN (zx x 0) fun t => k (t, L, rest, G, cu, su)) (znx pc 3 L rest G cu su k)
    | [] => none
theorem zs_if_eq : zSnd (fun pc x => .ifCond .eq ((zx x 0 : Int) - (pc : Int))) 3 ztrue zo_if_eq := by
  intro p l e R s m args below meth c Q M ev X n0 ad0 cx x pc L stk G cu su k r hd hf hs
  dsimp only [zo_if_eq] at hs
  cases stk with
  | nil => cases hs
  | cons v1 rest =>
  have z0 : 2147483648 ≤ zbi (0 : Int32) ∧ zbi (0 : Int32) ≤ 2147483648 := by decide
  obtain ⟨a1, a2, hs, hx1, hx2, hv1⟩ := zrg_ok cx.2.2.2.2.2.2.2.1 hs
  obtain ⟨t, hs, hi⟩ := zeq_ok (y := (0 : Int32)) ⟨hx1, hx2⟩ z0 hs
  cases t with
  | true =>
    simp only [cond] at hs
    rw [zN_eq] at hs
    refine ⟨_, hs, fun hgo => ?_⟩
    intro ad ca tys H locs ls hR
    have H1 := hgo ad ca tys H locs ls hR
    simp only [List.map_cons] at H1 ⊢
    rw [zV_I hv1]
    refine lv_if_eq cx.1 cx.2.1 hd (tgt := zx x 0) (by omega) (fun _ => H1) (fun hh => absurd (hi.mpr rfl) hh)
  | false =>
    simp only [cond] at hs
    refine ⟨_, znx_eq hs, fun hgo => ?_⟩
    intro ad ca tys H locs ls hR
    have H1 := hgo ad ca tys H locs ls hR
    simp only [List.map_cons] at H1 ⊢
    rw [zV_I hv1]
    refine lv_if_eq cx.1 cx.2.1 hd (tgt := zx x 0) (by omega) (fun hh => absurd (hi.mp hh) (by simp)) (fun _ => H1)
def zo_icmp_ne : zSem := fun x M ev st k => match st with
  | (pc, L, stk, G, cu, su) => match stk with
    | v2 :: rest1 => match rest1 with
      | v1 :: rest => zrg ev v1 fun a1 a2 => zrg ev v2 fun b1 b2 => zeq a1 a2 b1 b2 fun t => cond t (znx pc 3 L rest G cu su k) (zN (zx x 0) fun t => k (t, L, rest, G, cu, su))
      | [] => none
    | [] => none
theorem zs_icmp_ne : zSnd (fun pc x => .if_icmp .ne ((zx x 0 : Int) - (pc : Int))) 3 ztrue zo_icmp_ne := by
  intro p l e R s m args below meth c Q M ev X n0 ad0 cx x pc L stk G cu su k r hd hf hs
  dsimp only [zo_icmp_ne] at hs
  cases stk with
  | nil => cases hs
  | cons v2 rest1 =>
  cases rest1 with
  | nil => cases hs
  | cons v1 rest =>
  obtain ⟨a1, a2, hs, hx1, hx2, hv1⟩ := zrg_ok cx.2.2.2.2.2.2.2.1 hs
  obtain ⟨b1, b2, hs, hy1, hy2, hv2⟩ := zrg_ok cx.2.2.2.2.2.2.2.1 hs
  obtain ⟨t, hs, hi⟩ := zeq_ok ⟨hx1, hx2⟩ ⟨hy1, hy2⟩ hs
  cases t with
  | true =>
    simp only [cond] at hs
    refine ⟨_, znx_eq hs, fun hgo => ?_⟩
    intro ad ca tys H locs ls hR
    have H1 := hgo ad ca tys H locs ls hR
    simp only [List.map_cons] at H1 ⊢
    rw [zV_I hv1, zV_I hv2]
    refine lv_icmp_ne cx.1 cx.2.1 hd (tgt := zx x 0) (by omega) (fun hh => absurd (hi.mpr rfl) hh) (fun _ => H1)
  | false =>
    simp only [cond] at hs
    rw [zN_eq] at hs
    refine ⟨_, hs, fun hgo => ?_⟩
    intro ad ca tys H locs ls hR
    have H1 := hgo ad ca tys H locs ls hR
    simp only [List.map_cons] at H1 ⊢
    rw [zV_I hv1, zV_I hv2]
    refine lv_icmp_ne cx.1 cx.2.1 hd (tgt := zx x 0) (by omega) (fun _ => H1) (fun hh => absurd (by simpa using hh) (fun z => absurd (hi.mp z) (by simp)))
def zo_if_ne : zSem := fun x M ev st k => match st with
  | (pc, L, stk, G, cu, su) => match stk with
    | v1 :: rest => zrg ev v1 fun a1 a2 => zeq a1 a2 2147483648 2147483648 fun t => cond t (znx pc 3 L rest G cu su k) (zN (zx x 0) fun t => k (t, L, rest, G, cu, su))
    | [] => none
theorem zs_if_ne : zSnd (fun pc x => .ifCond .ne ((zx x 0 : Int) - (pc : Int))) 3 ztrue zo_if_ne := by
  intro p l e R s m args below meth c Q M ev X n0 ad0 cx x pc L stk G cu su k r hd hf hs
  dsimp only [zo_if_ne] at hs
  cases stk with
  | nil => cases hs
  | cons v1 rest =>
  have z0 : 2147483648 ≤ zbi (0 : Int32) ∧ zbi (0 : Int32) ≤ 2147483648 := by decide
  obtain ⟨a1, a2, hs, hx1, hx2, hv1⟩ := zrg_ok cx.2.2.2.2.2.2.2.1 hs
  obtain ⟨t, hs, hi⟩ := zeq_ok (y := (0 : Int32)) ⟨hx1, hx2⟩ z0 hs
  cases t with
  | true =>
    simp only [cond] at hs
    refine ⟨_, znx_eq hs, fun hgo => ?_⟩
    intro ad ca tys H locs ls hR
    have H1 := hgo ad ca tys H locs ls hR
    simp only [List.map_cons] at H1 ⊢
    rw [zV_I hv1]
    refine lv_if_ne cx.1 cx.2.1 hd (tgt := zx x 0) (by omega) (fun hh => absurd (hi.mpr rfl) hh) (fun _ => H1)
  | false =>
    simp only [cond] at hs
    rw [zN_eq] at hs
    refine ⟨_, hs, fun hgo => ?_⟩
    intro ad ca tys H locs ls hR
    have H1 := hgo ad ca tys H locs ls hR
    simp only [List.map_cons] at H1 ⊢
    rw [zV_I hv1]
    refine lv_if_ne cx.1 cx.2.1 hd (tgt := zx x 0) (by omega) (fun _ => H1) (fun hh => absurd (by simpa using hh) (fun z => absurd (hi.mp z) (by simp)))
def zo_icmp_lt : zSem := fun x M ev st k => match st with
  | (pc, L, stk, G, cu, su) => match stk with
    | v2 :: rest1 => match rest1 with
      | v1 :: rest => zrg ev v1 fun a1 a2 => zrg ev v2 fun b1 b2 => zlt a1 a2 b1 b2 fun t => cond t (zN (zx x 0) fun t => k (t, L, rest, G, cu, su)) (znx pc 3 L rest G cu su k)
      | [] => none
    | [] => none
theorem zs_icmp_lt : zSnd (fun pc x => .if_icmp .lt ((zx x 0 : Int) - (pc : Int))) 3 ztrue zo_icmp_lt := by
  intro p l e R s m args below meth c Q M ev X n0 ad0 cx x pc L stk G cu su k r hd hf hs
  dsimp only [zo_icmp_lt] at hs
  cases stk with
  | nil => cases hs
  | cons v2 rest1 =>
  cases rest1 with
  | nil => cases hs
  | cons v1 rest =>
  obtain ⟨a1, a2, hs, hx1, hx2, hv1⟩ := zrg_ok cx.2.2.2.2.2.2.2.1 hs
  obtain ⟨b1, b2, hs, hy1, hy2, hv2⟩ := zrg_ok cx.2.2.2.2.2.2.2.1 hs
  obtain ⟨t, hs, hi⟩ := zlt_ok ⟨hx1, hx2⟩ ⟨hy1, hy2⟩ hs
  cases t with
  | true =>
    simp only [cond] at hs
    rw [zN_eq] at hs
    refine ⟨_, hs, fun hgo => ?_⟩
    intro ad ca tys H locs ls hR
    have H1 := hgo ad ca tys H locs ls hR
    simp only [List.map_cons] at H1 ⊢
    rw [zV_I hv1, zV_I hv2]
    refine lv_icmp_lt cx.1 cx.2.1 hd (tgt := zx x 0) (by omega) (fun _ => H1) (fun hh => absurd (hi.mpr rfl) hh)
  | false =>
    simp only [cond] at hs
    refine ⟨_, znx_eq hs, fun hgo => ?_⟩
    intro ad ca tys H locs ls hR
    have H1 := hgo ad ca tys H locs ls hR
    simp only [List.map_cons] at H1 ⊢
    rw [zV_I hv1, zV_I hv2]
    refine lv_icmp_lt cx.1 cx.2.1 hd (tgt := zx x 0) (by omega) (fun hh => absurd (hi.mp hh) (by simp)) (fun _ => H1)
def zo_if_lt : zSem := fun x M ev st k => match st with
  | (pc, L, stk, G, cu, su) => match stk with
    | v1 :: rest => zrg ev v1 fun a1 a2 => zlt a1 a2 2147483648 2147483648 fun t => cond t (zN (zx x 0) fun t => k (t, L, rest, G, cu, su)) (znx pc 3 L rest G cu su k)
    | [] => none
theorem zs_if_lt : zSnd (fun pc x => .ifCond .lt ((zx x 0 : Int) - (pc : Int))) 3 ztrue zo_if_lt := by
  intro p l e R s m args below meth c Q M ev X n0 ad0 cx x pc L stk G cu su k r hd hf hs
  dsimp only [zo_if_lt] at hs
  cases stk with
  | nil => cases hs
  | cons v1 rest =>
  have z0 : 2147483648 ≤ zbi (0 : Int32) ∧ zbi (0 : Int32) ≤ 2147483648 := by decide
  obtain ⟨a1, a2, hs, hx1, hx2, hv1⟩ := zrg_ok cx.2.2.2.2.2.2.2.1 hs
  obtain ⟨t, hs, hi⟩ := zlt_ok (y := (0 : Int32)) ⟨hx1, hx2⟩ z0 hs
  cases t with
  | true =>
    simp only [cond] at hs
    rw [zN_eq] at hs
    refine ⟨_, hs, fun hgo => ?_⟩
    intro ad ca tys H locs ls hR
    have H1 := hgo ad ca tys H locs ls hR
    simp only [List.map_cons] at H1 ⊢
    rw [zV_I hv1]
    refine lv_if_lt cx.1 cx.2.1 hd (tgt := zx x 0) (by omega) (fun _ => H1) (fun hh => absurd (hi.mpr rfl) hh)
  | false =>
    simp only [cond] at hs
    refine ⟨_, znx_eq hs, fun hgo => ?_⟩
    intro ad ca tys H locs ls hR
    have H1 := hgo ad ca tys H locs ls hR
    simp only [List.map_cons] at H1 ⊢
    rw [zV_I hv1]
    refine lv_if_lt cx.1 cx.2.1 hd (tgt := zx x 0) (by omega) (fun hh => absurd (hi.mp hh) (by simp)) (fun _ => H1)
def zo_icmp_ge : zSem := fun x M ev st k => match st with
  | (pc, L, stk, G, cu, su) => match stk with
    | v2 :: rest1 => match rest1 with
      | v1 :: rest => zrg ev v1 fun a1 a2 => zrg ev v2 fun b1 b2 => zlt a1 a2 b1 b2 fun t => cond t (znx pc 3 L rest G cu su k) (zN (zx x 0) fun t => k (t, L, rest, G, cu, su))
      | [] => none
    | [] => none
theorem zs_icmp_ge : zSnd (fun pc x => .if_icmp .ge ((zx x 0 : Int) - (pc : Int))) 3 ztrue zo_icmp_ge := by
  intro p l e R s m args below meth c Q M ev X n0 ad0 cx x pc L stk G cu su k r hd hf hs
  dsimp only [zo_icmp_ge] at hs
  cases stk with
  | nil => cases hs
  | cons v2 rest1 =>
  cases rest1 with
  | nil => cases hs
  | cons v1 rest =>
  obtain ⟨a1, a2, hs, hx1, hx2, hv1⟩ := zrg_ok cx.2.2.2.2.2.2.2.1 hs
  obtain ⟨b1, b2, hs, hy1, hy2, hv2⟩ := zrg_ok cx.2.2.2.2.2.2.2.1 hs
  obtain ⟨t, hs, hi⟩ := zlt_ok ⟨hx1, hx2⟩ ⟨hy1, hy2⟩ hs
  cases t with
  | true =>
    simp only [cond] at hs
    refine ⟨_, znx_eq hs, fun hgo => ?_⟩
    intro ad ca tys H locs ls hR
    have H1 := hgo ad ca tys H locs ls hR
    simp only [List.map_cons] at H1 ⊢
    rw [zV_I hv1, zV_I hv2]
    refine lv_icmp_ge cx.1 cx.2.1 hd (tgt := zx x 0) (by omega) (fun hh => absurd (hi.mpr rfl) (Int32.not_lt.mpr hh)) (fun _ => H1)
  | false =>
    simp only [cond] at hs
    rw [zN_eq] at hs
    refine ⟨_, hs, fun hgo => ?_⟩
    intro ad ca tys H locs ls hR
    have H1 := hgo ad ca tys H locs ls hR
    simp only [List.map_cons] at H1 ⊢
    rw [zV_I hv1, zV_I hv2]
    refine lv_icmp_ge cx.1 cx.2.1 hd (tgt := zx x 0) (by omega) (fun _ => H1) (fun hh => absurd (hi.mp (Int32.not_le.mp hh)) (by simp))
def zo_if_ge : zSem := fun x M ev st k => match st with
  | (pc, L, stk, G, cu, su) => match stk with
    | v1 :: rest => zrg ev v1 fun a1 a2 => zlt a1 a2 2147483648 2147483648 fun t => cond t (znx pc 3 L rest G cu su k) (zN (zx x 0) fun t => k (t, L, rest, G, cu, su))
    | [] => none
theorem zs_if_ge : zSnd (fun pc x => .ifCond .ge ((zx x 0 : Int) - (pc : Int))) 3 ztrue zo_if_ge := by
  intro p l e R s m args below meth c Q M ev X n0 ad0 cx x pc L stk G cu su k r hd hf hs
  dsimp only [zo_if_ge] at hs
  cases stk with
  | nil => cases hs
  | cons v1 rest =>
  have z0 : 2147483648 ≤ zbi (0 : Int32) ∧ zbi (0 : Int32) ≤ 2147483648 := by decide
  obtain ⟨a1, a2, hs, hx1, hx2, hv1⟩ := zrg_ok cx.2.2.2.2.2.2.2.1 hs
  obtain ⟨t, hs, hi⟩ := zlt_ok (y := (0 : Int32)) ⟨hx1, hx2⟩ z0 hs
  cases t with
  | true =>
    simp only [cond] at hs
    refine ⟨_, znx_eq hs, fun hgo => ?_⟩
    intro ad ca tys H locs ls hR
    have H1 := hgo ad ca tys H locs ls hR
    simp only [List.map_cons] at H1 ⊢
    rw [zV_I hv1]
    refine lv_if_ge cx.1 cx.2.1 hd (tgt := zx x 0) (by omega) (fun hh => absurd (hi.mpr rfl) (Int32.not_lt.mpr hh)) (fun _ => H1)
  | false =>
    simp only [cond] at hs
    rw [zN_eq] at hs
    refine ⟨_, hs, fun hgo => ?_⟩
    intro ad ca tys H locs ls hR
    have H1 := hgo ad ca tys H locs ls hR
    simp only [List.map_cons] at H1 ⊢
    rw [zV_I hv1]
    refine lv_if_ge cx.1 cx.2.1 hd (tgt := zx x 0) (by omega) (fun _ => H1) (fun hh => absurd (hi.mp (Int32.not_le.mp hh)) (by simp))
def zo_icmp_gt : zSem := fun x M ev st k => match st with
  | (pc, L, stk, G, cu, su) => match stk with
    | v2 :: rest1 => match rest1 with
      | v1 :: rest => zrg ev v1 fun a1 a2 => zrg ev v2 fun b1 b2 => zlt b1 b2 a1 a2 fun t => cond t (zN (zx x 0) fun t => k (t, L, rest, G, cu, su)) (znx pc 3 L rest G cu su k)
      | [] => none
    | [] => none
theorem zs_icmp_gt : zSnd (fun pc x => .if_icmp .gt ((zx x 0 : Int) - (pc : Int))) 3 ztrue zo_icmp_gt := by
  intro p l e R s m args below meth c Q M ev X n0 ad0 cx x pc L stk G cu su k r hd hf hs
  dsimp only [zo_icmp_gt] at hs
  cases stk with
  | nil => cases hs
  | cons v2 rest1 =>
  cases rest1 with
  | nil => cases hs
  | cons v1 rest =>
  obtain ⟨a1, a2, hs, hx1, hx2, hv1⟩ := zrg_ok cx.2.2.2.2.2.2.2.1 hs
  obtain ⟨b1, b2, hs, hy1, hy2, hv2⟩ := zrg_ok cx.2.2.2.2.2.2.2.1 hs
  obtain ⟨t, hs, hi⟩ := zlt_ok ⟨hy1, hy2⟩ ⟨hx1, hx2⟩ hs
  cases t with
  | true =>
    simp only [cond] at hs
    rw [zN_eq] at hs
    refine ⟨_, hs, fun hgo => ?_⟩
    intro ad ca tys H locs ls hR
    have H1 := hgo ad ca tys H locs ls hR
    simp only [List.map_cons] at H1 ⊢
    rw [zV_I hv1, zV_I hv2]
    refine lv_icmp_gt cx.1 cx.2.1 hd (tgt := zx x 0) (by omega) (fun _ => H1) (fun hh => absurd (hi.mpr rfl) hh)
  | false =>
    simp only [cond] at hs
    refine ⟨_, znx_eq hs, fun hgo => ?_⟩
    intro ad ca tys H locs ls hR
    have H1 := hgo ad ca tys H locs ls hR
    simp only [List.map_cons] at H1 ⊢
    rw [zV_I hv1, zV_I hv2]
    refine lv_icmp_gt cx.1 cx.2.1 hd (tgt := zx x 0) (by omega) (fun hh => absurd (hi.mp hh) (by simp)) (fun _ => H1)
def zo_if_gt : zSem := fun x M ev st k => match st with
  | (pc, L, stk, G, cu, su) => match stk with
    | v1 :: rest => zrg ev v1 fun a1 a2 => zlt 2147483648 2147483648 a1 a2 fun t => cond t (zN (zx x 0) fun t => k (t, L, rest, G, cu, su)) (znx pc 3 L rest G cu su k)
    | [] => none
theorem zs_if_gt : zSnd (fun pc x => .ifCond .gt ((zx x 0 : Int) - (pc : Int))) 3 ztrue zo_if_gt := by
  intro p l e R s m args below meth c Q M ev X n0 ad0 cx x pc L stk G cu su k r hd hf hs
  dsimp only [zo_if_gt] at hs
  cases stk with
  | nil => cases hs
  | cons v1 rest =>
  have z0 : 2147483648 ≤ zbi (0 : Int32) ∧ zbi (0 : Int32) ≤ 2147483648 := by decide
  obtain ⟨a1, a2, hs, hx1, hx2, hv1⟩ := zrg_ok cx.2.2.2.2.2.2.2.1 hs
  obtain ⟨t, hs, hi⟩ := zlt_ok (x := (0 : Int32)) z0 ⟨hx1, hx2⟩ hs
  cases t with
  | true =>
    simp only [cond] at hs
    rw [zN_eq] at hs
    refine ⟨_, hs, fun hgo => ?_⟩
    intro ad ca tys H locs ls hR
    have H1 := hgo ad ca tys H locs ls hR
    simp only [List.map_cons] at H1 ⊢
    rw [zV_I hv1]
    refine lv_if_gt cx.1 cx.2.1 hd (tgt := zx x 0) (by omega) (fun _ => H1) (fun hh => absurd (hi.mpr rfl) hh)
  | false =>
    simp only [cond] at hs
    refine ⟨_, znx_eq hs, fun hgo => ?_⟩
    intro ad ca tys H locs ls hR
    have H1 := hgo ad ca tys H locs ls hR
    simp only [List.map_cons] at H1 ⊢
    rw [zV_I hv1]
    refine lv_if_gt cx.1 cx.2.1 hd (tgt := zx x 0) (by omega) (fun hh => absurd (hi.mp hh) (by simp)) (fun _ => H1)
def zo_icmp_le : zSem := fun x M ev st k => match st with
  | (pc, L, stk, G, cu, su) => match stk with
    | v2 :: rest1 => match rest1 with
      | v1 :: rest => zrg ev v1 fun a1 a2 => zrg ev v2 fun b1 b2 => zlt b1 b2 a1 a2 fun t => cond t (znx pc 3 L rest G cu su k) (zN (zx x 0) fun t => k (t, L, rest, G, cu, su))
      | [] => none
    | [] => none
theorem zs_icmp_le : zSnd (fun pc x => .if_icmp .le ((zx x 0 : Int) - (pc : Int))) 3 ztrue zo_icmp_le := by
  intro p l e R s m args below meth c Q M ev X n0 ad0 cx x pc L stk G cu su k r hd hf hs
  dsimp only [zo_icmp_le] at hs
  cases stk with
  | nil => cases hs
  | cons v2 rest1 =>
  cases rest1 with
  | nil => cases hs
  | cons v1 rest =>
  obtain ⟨a1, a2, hs, hx1, hx2, hv1⟩ := zrg_ok cx.2.2.2.2.2.2.2.1 hs
  obtain ⟨b1, b2, hs, hy1, hy2, hv2⟩ := zrg_ok cx.2.2.2.2.2.2.2.1 hs
  obtain ⟨t, hs, hi⟩ := zlt_ok ⟨hy1, hy2⟩ ⟨hx1, hx2⟩ hs
  cases t with
  | true =>
    simp only [cond] at hs
    refine ⟨_, znx_eq hs, fun hgo => ?_⟩
    intro ad ca tys H locs ls hR
    have H1 := hgo ad ca tys H locs ls hR
    simp only [List.map_cons] at H1 ⊢
    rw [zV_I hv1, zV_I hv2]
    refine lv_icmp_le cx.1 cx.2.1 hd (tgt := zx x 0) (by omega) (fun hh => absurd (hi.mpr rfl) (Int32.not_lt.mpr hh)) (fun _ => H1)
  | false =>
    simp only [cond] at hs
    rw [zN_eq] at hs
    refine ⟨_, hs, fun hgo => ?_⟩
    intro ad ca tys H locs ls hR
    have H1 := hgo ad ca tys H locs ls hR
    simp only [List.map_cons] at H1 ⊢
    rw [zV_I hv1, zV_I hv2]
    refine lv_icmp_le cx.1 cx.2.1 hd (tgt := zx x 0) (by omega) (fun _ => H1) (fun hh => absurd (hi.mp (Int32.not_le.mp hh)) (by simp))
def zo_if_le : zSem := fun x M ev st k => match st with
  | (pc, L, stk, G, cu, su) => match stk with
    | v1 :: rest => zrg ev v1 fun a1 a2 => zlt 2147483648 2147483648 a1 a2 fun t => cond t (znx pc 3 L rest G cu su k) (zN (zx x 0) fun t => k (t, L, rest, G, cu, su))
    | [] => none
theorem zs_if_le : zSnd (fun pc x => .ifCond .le ((zx x 0 : Int) - (pc : Int))) 3 ztrue zo_if_le := by
  intro p l e R s m args below meth c Q M ev X n0 ad0 cx x pc L stk G cu su k r hd hf hs
  dsimp only [zo_if_le] at hs
  cases stk with
  | nil => cases hs
  | cons v1 rest =>
  have z0 : 2147483648 ≤ zbi (0 : Int32) ∧ zbi (0 : Int32) ≤ 2147483648 := by decide
  obtain ⟨a1, a2, hs, hx1, hx2, hv1⟩ := zrg_ok cx.2.2.2.2.2.2.2.1 hs
  obtain ⟨t, hs, hi⟩ := zlt_ok (x := (0 : Int32)) z0 ⟨hx1, hx2⟩ hs
  cases t with
  | true =>
    simp only [cond] at hs
    refine ⟨_, znx_eq hs, fun hgo => ?_⟩
    intro ad ca tys H locs ls hR
    have H1 := hgo ad ca tys H locs ls hR
    simp only [List.map_cons] at H1 ⊢
    rw [zV_I hv1]
    refine lv_if_le cx.1 cx.2.1 hd (tgt := zx x 0) (by omega) (fun hh => absurd (hi.mpr rfl) (Int32.not_lt.mpr hh)) (fun _ => H1)
  | false =>
    simp only [cond] at hs
    rw [zN_eq] at hs
    refine ⟨_, hs, fun hgo => ?_⟩
    intro ad ca tys H locs ls hR
    have H1 := hgo ad ca tys H locs ls hR
    simp only [List.map_cons] at H1 ⊢
    rw [zV_I hv1]
    refine lv_if_le cx.1 cx.2.1 hd (tgt := zx x 0) (by omega) (fun _ => H1) (fun hh => absurd (hi.mp (Int32.not_le.mp hh)) (by simp))
def zo_ifnull : zSem := fun x M ev st k => match st with
  | (pc, L, stk, G, cu, su) => match stk with
    | v :: rest => cond (Nat.beq v.1 2) (zN (zx x 0) fun t => k (t, L, rest, G, cu, su)) (cond (Nat.beq v.1 3) (znx pc 3 L rest G cu su k) none)
    | [] => none
theorem zs_ifnull : zSnd (fun pc x => .ifnull ((zx x 0 : Int) - (pc : Int))) 3 ztrue zo_ifnull := by
  intro p l e R s m args below meth c Q M ev X n0 ad0 cx x pc L stk G cu su k r hd hf hs
  dsimp only [zo_ifnull] at hs
  cases stk with
  | nil => cases hs
  | cons v rest =>
  dsimp only at hs
  cases hv : Nat.beq v.1 2 with
  | true =>
    rw [hv] at hs
    simp only [cond, zN_eq] at hs
    refine ⟨_, hs, fun hgo => ?_⟩
    intro ad ca tys H locs ls hR
    have H1 := hgo ad ca tys H locs ls hR
    simp only [List.map_cons] at H1 ⊢
    rw [zV_2 hv]
    exact lv_ifnullN cx.1 cx.2.1 hd (tgt := zx x 0) (by omega) H1
  | false =>
    rw [hv] at hs
    obtain ⟨hv, hs⟩ := zc hs
    refine ⟨_, znx_eq hs, fun hgo => ?_⟩
    intro ad ca tys H locs ls hR
    have H1 := hgo ad ca tys H locs ls hR
    simp only [List.map_cons] at H1 ⊢
    rw [zV_3 hv]
    exact lv_ifnull cx.1 cx.2.1 hd H1
def zo_ifnonnull : zSem := fun x M ev st k => match st with
  | (pc, L, stk, G, cu, su) => match stk with
    | v :: rest => cond (Nat.beq v.1 3) (zN (zx x 0) fun t => k (t, L, rest, G, cu, su)) (cond (Nat.beq v.1 2) (znx pc 3 L rest G cu su k) none)
    | [] => none
theorem zs_ifnonnull : zSnd (fun pc x => .ifnonnull ((zx x 0 : Int) - (pc : Int))) 3 ztrue zo_ifnonnull := by
  intro p l e R s m args below meth c Q M ev X n0 ad0 cx x pc L stk G cu su k r hd hf hs
  dsimp only [zo_ifnonnull] at hs
  cases stk with
  | nil => cases hs
  | cons v rest =>
  dsimp only at hs
  cases hv : Nat.beq v.1 3 with
  | true =>
    rw [hv] at hs
    simp only [cond, zN_eq] at hs
    refine ⟨_, hs, fun hgo => ?_⟩
    intro ad ca tys H locs ls hR
    have H1 := hgo ad ca tys H locs ls hR
    simp only [List.map_cons] at H1 ⊢
    rw [zV_3 hv]
    exact lv_ifnonnull cx.1 cx.2.1 hd (tgt := zx x 0) (by omega) H1
  | false =>
    rw [hv] at hs
    obtain ⟨hv, hs⟩ := zc hs
    refine ⟨_, znx_eq hs, fun hgo => ?_⟩
    intro ad ca tys H locs ls hR
    have H1 := hgo ad ca tys H locs ls hR
    simp only [List.map_cons] at H1 ⊢
    rw [zV_2 hv]
    exact lv_ifnonnullN cx.1 cx.2.1 hd H1
def zo_acmp_eq : zSem := fun x M ev st k => match st with
  | (pc, L, stk, G, cu, su) => match stk with
    | v2 :: rest1 => match rest1 with
      | v1 :: rest => cond (Nat.beq v1.1 10 && Nat.beq v2.1 10) (zN (zx x 0) fun t => k (t, L, rest, G, cu, su)) none
      | [] => none
    | [] => none
theorem zs_acmp_eq : zSnd (fun pc x => .if_acmp .eq ((zx x 0 : Int) - (pc : Int))) 3 ztrue zo_acmp_eq := by
  intro p l e R s m args below meth c Q M ev X n0 ad0 cx x pc L stk G cu su k r hd hf hs
  dsimp only [zo_acmp_eq] at hs
  cases stk with
  | nil => cases hs
  | cons v2 rest1 =>
  cases rest1 with
  | nil => cases hs
  | cons v1 rest =>
  obtain ⟨hv, hs⟩ := zc hs
  rw [zN_eq] at hs
  simp only [Bool.and_eq_true] at hv
  refine ⟨_, hs, fun hgo => ?_⟩
  intro ad ca tys H locs ls hR
  have H1 := hgo ad ca tys H locs ls hR
  simp only [List.map_cons] at H1 ⊢
  rw [zV_10 hv.1, zV_10 hv.2]
  exact lv_acmp_eq (rx := some (zxt X)) (ry := some (zxt X)) cx.1 cx.2.1 hd (tgt := zx x 0) (by omega) (fun _ => H1) (fun hh => absurd rfl hh)
end
section
/-! WHAT THE TABLES SAY of the classes whose objects are made -/
theorem zin_r {ws : List Cond} (ps : List Nat) (hp : ws = ps.filterMap (fun i => lw_tbl[i]?)) (h : ws.all goodWord = true) : ∀ w ∈ ws, w ∈ tblG := fun w hw => by
  have h1 := List.all_eq_true.mp h w hw
  rw [hp] at hw
  obtain ⟨i, -, hi⟩ := List.mem_filterMap.mp hw
  exact List.mem_filter.mpr ⟨List.mem_of_getElem? hi, h1⟩
theorem zcin_0 : ∀ w ∈ u_ws RJ0 TJ0 2, w ∈ tblG := zin_r [448, 450] (by decide +kernel) (by decide +kernel)
theorem zcin_1 : ∀ w ∈ u_ws RJx00060 TJx00060 6, w ∈ tblG := zin_r [436, 437, 438, 439, 440, 441] (by decide +kernel) (by decide +kernel)
theorem zcin_2 : ∀ w ∈ u_ws RJx4a65c TJx4a65c 3, w ∈ tblG := zin_r [130, 126, 128] (by decide +kernel) (by decide +kernel)
theorem zcin_3 : ∀ w ∈ u_ws RX0 TX0 1, w ∈ tblG := zin_r [141] (by decide +kernel) (by decide +kernel)
theorem zcin_4 : ∀ w ∈ u_ws RX1 TX1 3, w ∈ tblG := zin_r [417, 419, 421] (by decide +kernel) (by decide +kernel)
theorem zcin_5 : ∀ w ∈ u_ws RX2 TX2 5, w ∈ tblG := zin_r [712, 714, 716, 718, 720] (by decide +kernel) (by decide +kernel)
theorem zcin_6 : ∀ w ∈ u_ws RX3 TX3 13, w ∈ tblG := zin_r [567, 569, 571, 573, 575, 577, 579, 581, 583, 585, 587, 589, 591] (by decide +kernel) (by decide +kernel)
theorem zcin_7 : ∀ w ∈ u_ws RX4 TX4 6, w ∈ tblG := zin_r [163, 165, 167, 169, 171, 173] (by decide +kernel) (by decide +kernel)
theorem zcin_8 : ∀ w ∈ u_ws RX5 TX5 2, w ∈ tblG := zin_r [875, 877] (by decide +kernel) (by decide +kernel)
theorem zcin_9 : ∀ w ∈ u_ws RX6 TX6 10, w ∈ tblG := zin_r [808, 810, 812, 814, 816, 818, 820, 822, 824, 826] (by decide +kernel) (by decide +kernel)
theorem zcin_10 : ∀ w ∈ u_ws RX7 TX7 15, w ∈ tblG := zin_r [1058, 1060, 1062, 1064, 1066, 1068, 1070, 1072, 1074, 1076, 1078, 1080, 1082, 1084, 1086] (by decide +kernel) (by decide +kernel)
theorem zcin_11 : ∀ w ∈ u_ws RX8 TX8 7, w ∈ tblG := zin_r [326, 328, 330, 332, 334, 336, 338] (by decide +kernel) (by decide +kernel)
theorem zcin_12 : ∀ w ∈ u_ws RX9 TX9 4, w ∈ tblG := zin_r [1016, 1018, 1020, 1022] (by decide +kernel) (by decide +kernel)
theorem zcin_13 : ∀ w ∈ u_ws RX10 TX10 8, w ∈ tblG := zin_r [185, 187, 189, 191, 193, 195, 197, 199] (by decide +kernel) (by decide +kernel)
theorem zcin_14 : ∀ w ∈ u_ws RX11 TX11 6, w ∈ tblG := zin_r [1797, 1799, 1801, 1803, 1805, 1807] (by decide +kernel) (by decide +kernel)
theorem zcin_15 : ∀ w ∈ u_ws RX12 TX12 17, w ∈ tblG := zin_r [1898, 1900, 1902, 1904, 1906, 1908, 1910, 1912, 1914, 1916, 1918, 1920, 1922, 1924, 1926, 1928, 1930] (by decide +kernel) (by decide +kernel)
theorem zcin_16 : ∀ w ∈ u_ws RX13 TX13 24, w ∈ tblG := zin_r [1649, 1651, 1653, 1655, 1657, 1659, 1661, 1663, 1665, 1667, 1669, 1671, 1673, 1675, 1677, 1679, 1681, 1683, 1685, 1687, 1689, 1691, 1693, 1695] (by decide +kernel) (by decide +kernel)
theorem zcin_17 : ∀ w ∈ u_ws RX14 TX14 13, w ∈ tblG := zin_r [1551, 1553, 1555, 1557, 1559, 1561, 1563, 1565, 1567, 1569, 1571, 1573, 1575] (by decide +kernel) (by decide +kernel)
def zcls : List Nat := [0, 1, 2, 3, 4, 5, 6, 7, 8, 9, 10, 11, 12, 13, 14, 15, 16, 17]
def zty0 (ci : Nat) : Nat → FieldType := match ci with
  | 0 => tyJ0
  | 1 => tyJx00060
  | 2 => tyJx4a65c
  | 3 => tyX0
  | 4 => tyX1
  | 5 => tyX2
  | 6 => tyX3
  | 7 => tyX4
  | 8 => tyX5
  | 9 => tyX6
  | 10 => tyX7
  | 11 => tyX8
  | 12 => tyX9
  | 13 => tyX10
  | 14 => tyX11
  | 15 => tyX12
  | 16 => tyX13
  | 17 => tyX14
  | _ => fun _ => .int
theorem zcls_in : ∀ ci ∈ zcls, ∀ q : vw_C, vwCl[ci]? = some q → ∀ w ∈ u_ws q.1 q.2.1 q.2.2, w ∈ tblG := List.forall_mem_cons.mpr ⟨fun q h => (Option.some.inj (show some (RJ0, TJ0, 2) = some q from h)) ▸ zcin_0, List.forall_mem_cons.mpr ⟨fun q h => (Option.some.inj (show some (RJx00060, TJx00060, 6) = some q from h)) ▸ zcin_1, List.forall_mem_cons.mpr ⟨fun q h => (Option.some.inj (show some (RJx4a65c, TJx4a65c, 3) = some q from h)) ▸ zcin_2, List.forall_mem_cons.mpr ⟨fun q h => (Option.some.inj (show some (RX0, TX0, 1) = some q from h)) ▸ zcin_3, List.forall_mem_cons.mpr ⟨fun q h => (Option.some.inj (show some (RX1, TX1, 3) = some q from h)) ▸ zcin_4, List.forall_mem_cons.mpr ⟨fun q h => (Option.some.inj (show some (RX2, TX2, 5) = some q from h)) ▸ zcin_5, List.forall_mem_cons.mpr ⟨fun q h => (Option.some.inj (show some (RX3, TX3, 13) = some q from h)) ▸ zcin_6, List.forall_mem_cons.mpr ⟨fun q h => (Option.some.inj (show some (RX4, TX4, 6) = some q from h)) ▸ zcin_7, List.forall_mem_cons.mpr ⟨fun q h => (Option.some.inj (show some (RX5, TX5, 2) = some q from h)) ▸ zcin_8, List.forall_mem_cons.mpr ⟨fun q h => (Option.some.inj (show some (RX6, TX6, 10) = some q from h)) ▸ zcin_9, List.forall_mem_cons.mpr ⟨fun q h => (Option.some.inj (show some (RX7, TX7, 15) = some q from h)) ▸ zcin_10, List.forall_mem_cons.mpr ⟨fun q h => (Option.some.inj (show some (RX8, TX8, 7) = some q from h)) ▸ zcin_11, List.forall_mem_cons.mpr ⟨fun q h => (Option.some.inj (show some (RX9, TX9, 4) = some q from h)) ▸ zcin_12, List.forall_mem_cons.mpr ⟨fun q h => (Option.some.inj (show some (RX10, TX10, 8) = some q from h)) ▸ zcin_13, List.forall_mem_cons.mpr ⟨fun q h => (Option.some.inj (show some (RX11, TX11, 6) = some q from h)) ▸ zcin_14, List.forall_mem_cons.mpr ⟨fun q h => (Option.some.inj (show some (RX12, TX12, 17) = some q from h)) ▸ zcin_15, List.forall_mem_cons.mpr ⟨fun q h => (Option.some.inj (show some (RX13, TX13, 24) = some q from h)) ▸ zcin_16, List.forall_mem_cons.mpr ⟨fun q h => (Option.some.inj (show some (RX14, TX14, 13) = some q from h)) ▸ zcin_17, fun _ h => absurd h List.not_mem_nil⟩⟩⟩⟩⟩⟩⟩⟩⟩⟩⟩⟩⟩⟩⟩⟩⟩⟩
theorem zcls_nm : ∀ ci ∈ zcls, ∀ q : vw_C, vwCl[ci]? = some q → ∀ a, a < q.2.2 → ∀ b, b < q.2.2 → a ≠ b → (q.2.1 a).2.1 ≠ (q.2.1 b).2.1 := List.forall_mem_cons.mpr ⟨fun q h => (Option.some.inj (show some (RJ0, TJ0, 2) = some q from h)) ▸ nmJ0, List.forall_mem_cons.mpr ⟨fun q h => (Option.some.inj (show some (RJx00060, TJx00060, 6) = some q from h)) ▸ nmJx00060, List.forall_mem_cons.mpr ⟨fun q h => (Option.some.inj (show some (RJx4a65c, TJx4a65c, 3) = some q from h)) ▸ nmJx4a65c, List.forall_mem_cons.mpr ⟨fun q h => (Option.some.inj (show some (RX0, TX0, 1) = some q from h)) ▸ nmX0, List.forall_mem_cons.mpr ⟨fun q h => (Option.some.inj (show some (RX1, TX1, 3) = some q from h)) ▸ nmX1, List.forall_mem_cons.mpr ⟨fun q h => (Option.some.inj (show some (RX2, TX2, 5) = some q from h)) ▸ nmX2, List.forall_mem_cons.mpr ⟨fun q h => (Option.some.inj (show some (RX3, TX3, 13) = some q from h)) ▸ nmX3, List.forall_mem_cons.mpr ⟨fun q h => (Option.some.inj (show some (RX4, TX4, 6) = some q from h)) ▸ nmX4, List.forall_mem_cons.mpr ⟨fun q h => (Option.some.inj (show some (RX5, TX5, 2) = some q from h)) ▸ nmX5, List.forall_mem_cons.mpr ⟨fun q h => (Option.some.inj (show some (RX6, TX6, 10) = some q from h)) ▸ nmX6, List.forall_mem_cons.mpr ⟨fun q h => (Option.some.inj (show some (RX7, TX7, 15) = some q from h)) ▸ nmX7, List.forall_mem_cons.mpr ⟨fun q h => (Option.some.inj (show some (RX8, TX8, 7) = some q from h)) ▸ nmX8, List.forall_mem_cons.mpr ⟨fun q h => (Option.some.inj (show some (RX9, TX9, 4) = some q from h)) ▸ nmX9, List.forall_mem_cons.mpr ⟨fun q h => (Option.some.inj (show some (RX10, TX10, 8) = some q from h)) ▸ nmX10, List.forall_mem_cons.mpr ⟨fun q h => (Option.some.inj (show some (RX11, TX11, 6) = some q from h)) ▸ nmX11, List.forall_mem_cons.mpr ⟨fun q h => (Option.some.inj (show some (RX12, TX12, 17) = some q from h)) ▸ nmX12, List.forall_mem_cons.mpr ⟨fun q h => (Option.some.inj (show some (RX13, TX13, 24) = some q from h)) ▸ nmX13, List.forall_mem_cons.mpr ⟨fun q h => (Option.some.inj (show some (RX14, TX14, 13) = some q from h)) ▸ nmX14, fun _ h => absurd h List.not_mem_nil⟩⟩⟩⟩⟩⟩⟩⟩⟩⟩⟩⟩⟩⟩⟩⟩⟩⟩
theorem zcls_ty : ∀ ci ∈ zcls, ∀ q : vw_C, vwCl[ci]? = some q → ∀ k, k < q.2.2 → parseFieldDescriptor (q.2.1 k).2.2.1 = some (zty0 ci k) := List.forall_mem_cons.mpr ⟨fun q h => (Option.some.inj (show some (RJ0, TJ0, 2) = some q from h)) ▸ tyJ0_ok, List.forall_mem_cons.mpr ⟨fun q h => (Option.some.inj (show some (RJx00060, TJx00060, 6) = some q from h)) ▸ tyJx00060_ok, List.forall_mem_cons.mpr ⟨fun q h => (Option.some.inj (show some (RJx4a65c, TJx4a65c, 3) = some q from h)) ▸ tyJx4a65c_ok, List.forall_mem_cons.mpr ⟨fun q h => (Option.some.inj (show some (RX0, TX0, 1) = some q from h)) ▸ tyX0_ok, List.forall_mem_cons.mpr ⟨fun q h => (Option.some.inj (show some (RX1, TX1, 3) = some q from h)) ▸ tyX1_ok, List.forall_mem_cons.mpr ⟨fun q h => (Option.some.inj (show some (RX2, TX2, 5) = some q from h)) ▸ tyX2_ok, List.forall_mem_cons.mpr ⟨fun q h => (Option.some.inj (show some (RX3, TX3, 13) = some q from h)) ▸ tyX3_ok, List.forall_mem_cons.mpr ⟨fun q h => (Option.some.inj (show some (RX4, TX4, 6) = some q from h)) ▸ tyX4_ok, List.forall_mem_cons.mpr ⟨fun q h => (Option.some.inj (show some (RX5, TX5, 2) = some q from h)) ▸ tyX5_ok, List.forall_mem_cons.mpr ⟨fun q h => (Option.some.inj (show some (RX6, TX6, 10) = some q from h)) ▸ tyX6_ok, List.forall_mem_cons.mpr ⟨fun q h => (Option.some.inj (show some (RX7, TX7, 15) = some q from h)) ▸ tyX7_ok, List.forall_mem_cons.mpr ⟨fun q h => (Option.some.inj (show some (RX8, TX8, 7) = some q from h)) ▸ tyX8_ok, List.forall_mem_cons.mpr ⟨fun q h => (Option.some.inj (show some (RX9, TX9, 4) = some q from h)) ▸ tyX9_ok, List.forall_mem_cons.mpr ⟨fun q h => (Option.some.inj (show some (RX10, TX10, 8) = some q from h)) ▸ tyX10_ok, List.forall_mem_cons.mpr ⟨fun q h => (Option.some.inj (show some (RX11, TX11, 6) = some q from h)) ▸ tyX11_ok, List.forall_mem_cons.mpr ⟨fun q h => (Option.some.inj (show some (RX12, TX12, 17) = some q from h)) ▸ tyX12_ok, List.forall_mem_cons.mpr ⟨fun q h => (Option.some.inj (show some (RX13, TX13, 24) = some q from h)) ▸ tyX13_ok, List.forall_mem_cons.mpr ⟨fun q h => (Option.some.inj (show some (RX14, TX14, 13) = some q from h)) ▸ tyX14_ok, fun _ h => absurd h List.not_mem_nil⟩⟩⟩⟩⟩⟩⟩⟩⟩⟩⟩⟩⟩⟩⟩⟩⟩⟩
end
section
/-! INSTRUCTIONS THAT READ, WRITE AND MAKE -/
def zob {α β : Type} (o : Option α) (f : α → Option β) : Option β := match o with
  | some a => f a
  | none => none
theorem zat_some {α : Type} {l : List α} {n : Nat} {a : α} (h : zat l n = some a) : l[n]? = some a := by rw [← zat_eq]; exact h
theorem zat_lt {α : Type} {l : List α} {n : Nat} {a : α} (h : zat l n = some a) : n < l.length := (List.getElem?_eq_some_iff.mp (zat_some h)).1
/-- a place written: the heap's picture with the new cell -/
theorem zHp_set {X : zX} {U : State} {G : zH} {ad : Nat → Nat} {ca : Nat → ClassId} {tys : List (ClassId × FieldType)} {H H1 : Heap} {k : Nat} {c c' : zCell} (h : zHp X U G ad ca tys H) (hk : zat G k = some c) (hc : c'.1 = c.1) (hv : ∀ v ∈ c'.2.2, zok G.length v = true)
    (hP : va_P (zxD X) vwCl ((zW (zxr X) ad ca (zxb X) (zxt X) 0 G).set k (ad k, zE (zxr X) ad ca (zxb X) (zxt X) k c')) H1) (hD : va_D (fun q => zx0 X ≤ q) ((zW (zxr X) ad ca (zxb X) (zxt X) 0 G).set k (ad k, zE (zxr X) ad ca (zxb X) (zxt X) k c'))) :
    zHp X U (G.set k c') ad ca tys H1 := by
  have e := zW_set (ρ := zxr X) (ad := ad) (ca := ca) (b := zxb X) (td := zxt X) G 0 k c' (zat_lt hk)
  rw [Nat.zero_add] at e
  rw [e] at hP hD
  refine ⟨h.1, hP, hD, ?_, ?_⟩
  · rw [List.length_set]
    intro c2 hc2 v hv2
    rcases List.mem_or_eq_of_mem_set hc2 with h2 | h2
    · exact h.2.2.2.1 c2 h2 v hv2
    · subst h2; exact hv v hv2
  · intro j t ci vs hj
    rw [List.getElem?_set] at hj
    by_cases hjk : k = j
    · subst hjk
      rw [if_pos rfl, if_pos (zat_lt hk)] at hj
      have hj : c' = (Nat.succ t, ci, vs) := Option.some.inj hj
      obtain ⟨c1, c2, c3⟩ := c
      have h1 : c1 = Nat.succ t := by rw [hj] at hc; exact hc.symm
      subst h1
      exact h.2.2.2.2 k t c2 c3 (zat_some hk)
    · rw [if_neg hjk] at hj
      exact h.2.2.2.2 j t ci vs hj
def zokA (n : Nat) (l : List zAV) : Bool := l.all (zok n)
def zokL (n : Nat) (L : zL) : Bool := L.all fun q => zok n q.2
/-- places made: the heap's picture with the new cells -/
theorem zHp_app {X : zX} {U : State} {G N : zH} {ad ad' : Nat → Nat} {ca ca' : Nat → ClassId} {tys tys' : List (ClassId × FieldType)} {H H1 : Heap} (h : zHp X U G ad ca tys H) (hK : va_K (zxD X) vwCl (tys ++ tys') U)
    (ha : ∀ k, k < G.length → ad' k = ad k) (hc : ∀ k, k < G.length → ca' k = ca k) (hv : ∀ c ∈ N, ∀ v ∈ c.2.2, zok (G.length + N.length) v = true)
    (ht : ∀ (k t ci : Nat) (vs : List zAV), N[k]? = some (Nat.succ t, ci, vs) → ∃ t0 : Nat, (tys ++ tys')[t0]? = some (ca' (G.length + k), zT t))
    (hP : va_P (zxD X) vwCl (zW (zxr X) ad ca (zxb X) (zxt X) 0 G ++ zW (zxr X) ad' ca' (zxb X) (zxt X) G.length N) H1) (hD : va_D (fun q => zx0 X ≤ q) (zW (zxr X) ad ca (zxb X) (zxt X) 0 G ++ zW (zxr X) ad' ca' (zxb X) (zxt X) G.length N)) :
    zHp X U (G ++ N) ad' ca' (tys ++ tys') H1 := by
  have e : zW (zxr X) ad' ca' (zxb X) (zxt X) 0 (G ++ N) = zW (zxr X) ad ca (zxb X) (zxt X) 0 G ++ zW (zxr X) ad' ca' (zxb X) (zxt X) G.length N := by
    rw [zW_app, Nat.zero_add, zW_congr (n := G.length) ha hc G 0 (by omega) (fun c h' v hv' => h.2.2.2.1 c h' v hv')]
  refine ⟨hK, by rw [e]; exact hP, by rw [e]; exact hD, ?_, ?_⟩
  · intro c2 hc2 v hv2
    rw [List.length_append]
    rcases List.mem_append.mp hc2 with h2 | h2
    · exact zok_mono (by omega) (h.2.2.2.1 c2 h2 v hv2)
    · exact hv c2 h2 v hv2
  · intro j t ci vs hj
    by_cases hlt : j < G.length
    · rw [List.getElem?_append_left hlt] at hj
      obtain ⟨t0, h0⟩ := h.2.2.2.2 j t ci vs hj
      refine ⟨t0, ?_⟩
      rw [hc j hlt, List.getElem?_append_left (List.getElem?_eq_some_iff.mp h0).1]
      exact h0
    · have hge : G.length ≤ j := Nat.le_of_not_lt hlt
      rw [List.getElem?_append_right hge] at hj
      obtain ⟨t0, h0⟩ := ht _ t ci vs hj
      have e2 : G.length + (j - G.length) = j := by omega
      rw [e2] at h0
      exact ⟨t0, h0⟩
def zup {α : Type} (f : Nat → α) (n : Nat) (v : α) : Nat → α := fun k => if k = n then v else f k
theorem zup_lt {α : Type} {f : Nat → α} {n : Nat} {v : α} (k : Nat) (h : k < n) : zup f n v k = f k := if_neg (Nat.ne_of_lt h)
theorem zup_eq {α : Type} {f : Nat → α} {n : Nat} {v : α} : zup f n v n = v := if_pos rfl
theorem zLc {X : zX} {ad ad' : Nat → Nat} {n : Nat} {L : zL} (h : zokL n L = true) (ha : ∀ k, k < n → ad' k = ad k) : (L.map fun q => (q.1, zV (zxr X) ad' (zxb X) (zxt X) q.2)) = L.map fun q => (q.1, zV (zxr X) ad (zxb X) (zxt X) q.2) := by
  apply List.map_congr_left
  intro q hq
  rw [zV_congr (List.all_eq_true.mp h q hq) ha]
theorem zSc {X : zX} {ad ad' : Nat → Nat} {n : Nat} {l : List zAV} (h : zokA n l = true) (ha : ∀ k, k < n → ad' k = ad k) : l.map (zV (zxr X) ad' (zxb X) (zxt X)) = l.map (zV (zxr X) ad (zxb X) (zxt X)) := by
  apply List.map_congr_left
  intro q hq
  exact zV_congr (List.all_eq_true.mp h q hq) ha
/-- one object or array made -/
theorem zRp_push {X : zX} {s : State} {nL n0 : Nat} {ad0 ad : Nat → Nat} {L : zL} {G : zH} {ca tys H locs ls} (hR : zRp X s nL n0 ad0 L G ad ca tys H locs ls) {c : zCell} {q : Nat} {cA : ClassId} {tys' : List (ClassId × FieldType)} {H1 : Heap} (hL : zokL G.length L = true)
    (hK : va_K (zxD X) vwCl (tys ++ tys') s) (hv : ∀ v ∈ c.2.2, v.1 ≠ 3) (ht : ∀ t ci vs, c = (Nat.succ t, ci, vs) → ∃ t0 : Nat, (tys ++ tys')[t0]? = some (cA, zT t))
    (hP : va_P (zxD X) vwCl (zW (zxr X) ad ca (zxb X) (zxt X) 0 G ++ [(q, zE (zxr X) ad (fun _ => cA) (zxb X) (zxt X) 0 c)]) H1) (hD : va_D (fun q => zx0 X ≤ q) (zW (zxr X) ad ca (zxb X) (zxt X) 0 G ++ [(q, zE (zxr X) ad (fun _ => cA) (zxb X) (zxt X) 0 c)])) (hS : va_S (fun q => zx0 X ≤ q) s.heap H1 locs) :
    zRp X s nL n0 ad0 L (G ++ [c]) (zup ad G.length q) (zup ca G.length cA) (tys ++ tys') H1 locs ls := by
  have hz : ∀ v ∈ c.2.2, ∀ n, zok n v = true := fun v h n => by
    obtain ⟨t, j⟩ := v
    have h3 := hv _ h
    have hb : Nat.beq t 3 = false := by
      cases hq : Nat.beq t 3 with
      | true => exact absurd (Nat.eq_of_beq_eq_true hq) h3
      | false => rfl
    simp [zok, hb]
  have e : zW (zxr X) (zup ad G.length q) (zup ca G.length cA) (zxb X) (zxt X) G.length [c] = [(q, zE (zxr X) ad (fun _ => cA) (zxb X) (zxt X) 0 c)] := by
    have e1 : zE (zxr X) (zup ad G.length q) (zup ca G.length cA) (zxb X) (zxt X) G.length c = zE (zxr X) ad (fun _ => cA) (zxb X) (zxt X) 0 c := by
      have h1 := zE_congr (ρ := zxr X) (ad := ad) (ad' := zup ad G.length q) (ca := fun _ => cA) (ca' := zup ca G.length cA) (b := zxb X) (td := zxt X) (n := 0) (p := G.length) (c := c) (fun v h => hz v h 0) (fun k h => absurd h (Nat.not_lt_zero k)) zup_eq
      rw [h1]
      obtain ⟨k, ci, vs⟩ := c
      cases k <;> rfl
    show [_] = [_]
    rw [e1, zup_eq]
  refine ⟨?_, ?_, hS, by rw [List.length_append]; exact Nat.le_trans hR.2.2.2.1 (Nat.le_add_right _ _), fun k hk => by rw [zup_lt k (Nat.lt_of_lt_of_le hk hR.2.2.2.1)]; exact hR.2.2.2.2 k hk⟩
  · rw [zLc hL fun k hk => zup_lt k hk]
    exact hR.1
  · refine zHp_app hR.2.1 hK (fun k hk => zup_lt k hk) (fun k hk => zup_lt k hk) (fun c' hc' v hv' => ?_) (fun k t ci vs hk => ?_) (by rw [e]; exact hP) (by rw [e]; exact hD)
    · rw [List.mem_singleton.mp hc'] at hv'
      exact hz v hv' _
    · have hk0 : k = 0 := by
        have := (List.getElem?_eq_some_iff.mp hk).1
        simpa using this
      subst hk0
      have hk : c = (Nat.succ t, ci, vs) := by simpa using hk
      rw [Nat.add_zero, zup_eq]
      exact ht t ci vs hk
theorem zw {M : zMeth} {w : Cond} {c : Nat} {args : Array Value} {s : State} (hts : ∀ w ∈ tblG, w.before args s = true) (h : hasW c w = true) : w.before args s = true := hts w (hasW_in h)
theorem zin {i n : Nat} (h : i < n) (h2 : i < 2147483648) : vp_in (nI i) n := by
  intro hq
  rcases hq with hq | hq
  · exact nI_pos h2 hq
  · rw [nI_clamp h2] at hq
    omega

def zflk (M : zMeth) (x : List Nat) : Bool := match zat vwCl (zx x 1) with
  | some q => Nat.blt (zx x 2) q.2.2 && (zcls.contains (zx x 1) && hasW (zx x 3) (.fieldLink (zm_y M).cls (zx x 0) (q.2.1 (zx x 2)).1 (q.2.1 (zx x 2)).2.1 (q.2.1 (zx x 2)).2.2.1))
  | none => false
/-- under the name by which javac spells an inherited one: the method's own class's -/
def zflS (M : zMeth) (x : List Nat) : Bool := match zat vwCl (zx x 1) with
  | some q => Nat.blt (zx x 2) q.2.2 && (zcls.contains (zx x 1) && (hasW (zx x 3) (.fieldLink (zm_y M).cls (zx x 0) (zm_y M).cls (q.2.1 (zx x 2)).2.1 (q.2.1 (zx x 2)).2.2.1) && hasW (zx x 4) (.sameField (zm_y M).cls (q.2.1 (zx x 2)).1 (q.2.1 (zx x 2)).2.1 (q.2.1 (zx x 2)).2.2.1)))
  | none => false
def zo_getf : zSem := fun x M ev st k => match st with
  | (pc, L, stk, G, cu, su) => match stk with
    | v :: rest => cond (Nat.beq v.1 3) (zob (zat G v.2) fun c => cond (Nat.beq c.1 0 && Nat.beq c.2.1 (zx x 1)) (zob (zat c.2.2 (zx x 2)) fun u => znx pc 3 L (u :: rest) G cu su k) none) none
    | [] => none
theorem zat_cases {α β : Type} {o : Option α} {f : α → Option β} {r : β} (h : zob o f = some r) : ∃ a, o = some a ∧ f a = some r := by
  cases o with
  | none => cases h
  | some a => exact ⟨a, rfl, h⟩
theorem zcell0 {c : zCell} {ci : Nat} (h : (Nat.beq c.1 0 && Nat.beq c.2.1 ci) = true) : c = (0, ci, c.2.2) := by
  obtain ⟨a, b, vs⟩ := c
  simp only [Bool.and_eq_true] at h
  cases Nat.eq_of_beq_eq_true h.1
  cases Nat.eq_of_beq_eq_true h.2
  rfl
theorem zs_getf : zSnd (fun _ x => .getfield (zx x 0)) 3 zflk zo_getf := by
  intro p l e R s m args below meth c Q M ev X n0 ad0 cx x pc L stk G cu su k r hd hf hs
  have hx := cx.1
  have hb := cx.2.1
  have hown := cx.2.2.2.1
  have hts := cx.2.2.2.2.1
  have hRm := cx.2.2.2.2.2.1
  have hbase := cx.2.2.2.2.2.2.1
  obtain ⟨q, hq, hf⟩ : ∃ q, zat vwCl (zx x 1) = some q ∧ (Nat.blt (zx x 2) q.2.2 && (zcls.contains (zx x 1) && hasW (zx x 3) (.fieldLink (zm_y M).cls (zx x 0) (q.2.1 (zx x 2)).1 (q.2.1 (zx x 2)).2.1 (q.2.1 (zx x 2)).2.2.1))) = true := by
    unfold zflk at hf
    cases hq : zat vwCl (zx x 1) with
    | none => rw [hq] at hf; cases hf
    | some q => rw [hq] at hf; exact ⟨q, rfl, hf⟩
  simp only [Bool.and_eq_true] at hf
  obtain ⟨hf1, hf2, hf3⟩ := hf
  have hf1 : zx x 2 < q.2.2 := by simpa using hf1
  have hf2 : zx x 1 ∈ zcls := by simpa using hf2
  dsimp only [zo_getf] at hs
  cases stk with
  | nil => cases hs
  | cons v rest =>
  have hv := (zc hs).1
  obtain ⟨c0, hc0, hs⟩ := zat_cases (zc hs).2
  have hcc := zcell0 (zc hs).1
  obtain ⟨u, hu, hs⟩ := zat_cases (zc hs).2
  refine ⟨_, znx_eq hs, fun hgo => ?_⟩
  intro ad ca tys H locs ls hR
  have H1 := hgo ad ca tys H locs ls hR
  simp only [List.map_cons] at H1 ⊢
  rw [zV_3 hv]
  have hg := zW_get (ρ := zxr X) (ad := ad) (ca := ca) (b := zxb X) (td := zxt X) G 0 v.2 c0 (zat_some hc0)
  rw [Nat.zero_add, hcc] at hg
  exact va_get hx hb hts (zcls_in _ hf2 q (zat_some hq)) hown hR.2.1.1 hR.2.1.2.1 v.2 hg (zat_some hq) (zx x 2) hf1 (zw (M := M) hts hf3) (fun _ h => h) (by rw [List.getElem?_map, zat_some hu]; rfl) hd H1
theorem zs_getfS : zSnd (fun _ x => .getfield (zx x 0)) 3 zflS zo_getf := by
  intro p l e R s m args below meth c Q M ev X n0 ad0 cx x pc L stk G cu su k r hd hf hs
  have hx := cx.1
  have hb := cx.2.1
  have hown := cx.2.2.2.1
  have hts := cx.2.2.2.2.1
  have hRm := cx.2.2.2.2.2.1
  have hbase := cx.2.2.2.2.2.2.1
  obtain ⟨q, hq, hf⟩ : ∃ q, zat vwCl (zx x 1) = some q ∧ (Nat.blt (zx x 2) q.2.2 && (zcls.contains (zx x 1) && (hasW (zx x 3) (.fieldLink (zm_y M).cls (zx x 0) (zm_y M).cls (q.2.1 (zx x 2)).2.1 (q.2.1 (zx x 2)).2.2.1) && hasW (zx x 4) (.sameField (zm_y M).cls (q.2.1 (zx x 2)).1 (q.2.1 (zx x 2)).2.1 (q.2.1 (zx x 2)).2.2.1)))) = true := by
    unfold zflS at hf
    cases hq : zat vwCl (zx x 1) with
    | none => rw [hq] at hf; cases hf
    | some q => rw [hq] at hf; exact ⟨q, rfl, hf⟩
  simp only [Bool.and_eq_true] at hf
  obtain ⟨hf1, hf2, hf3, hf4⟩ := hf
  have hf1 : zx x 2 < q.2.2 := by simpa using hf1
  have hf2 : zx x 1 ∈ zcls := by simpa using hf2
  dsimp only [zo_getf] at hs
  cases stk with
  | nil => cases hs
  | cons v rest =>
  have hv := (zc hs).1
  obtain ⟨c0, hc0, hs⟩ := zat_cases (zc hs).2
  have hcc := zcell0 (zc hs).1
  obtain ⟨u, hu, hs⟩ := zat_cases (zc hs).2
  refine ⟨_, znx_eq hs, fun hgo => ?_⟩
  intro ad ca tys H locs ls hR
  have H1 := hgo ad ca tys H locs ls hR
  simp only [List.map_cons] at H1 ⊢
  rw [zV_3 hv]
  have hg := zW_get (ρ := zxr X) (ad := ad) (ca := ca) (b := zxb X) (td := zxt X) G 0 v.2 c0 (zat_some hc0)
  rw [Nat.zero_add, hcc] at hg
  exact va_get hx hb hts (zcls_in _ hf2 q (zat_some hq)) hown hR.2.1.1 hR.2.1.2.1 v.2 hg (zat_some hq) (zx x 2) hf1 (zw (M := M) hts hf3) (fun y hy => u_same (zw (M := M) hts hf4) y hy) (by rw [List.getElem?_map, zat_some hu]; rfl) hd H1
def zfit (ty : FieldType) (v : zAV) : Bool := match ty with
  | .int => zisI v
  | .boolean => Nat.beq v.1 0 && Nat.ble v.2 1
  | .long => zisJ v
  | .object _ => zisR v
  | .array _ => zisR v
  | _ => false
theorem zfit_ok {ρ : Nat → Int32} {ad : Nat → Nat} {b td : Nat} {ty : FieldType} {v : zAV} (h : zfit ty v = true) : narrow ty (zV ρ ad b td v) = zV ρ ad b td v ∧ fits ty (zV ρ ad b td v) = true := by
  cases ty with
  | int => rw [zV_I h]; exact ⟨rfl, rfl⟩
  | boolean =>
    simp only [zfit, Bool.and_eq_true] at h
    rw [zV_0 h.1]
    have h2 : v.2 ≤ 1 := by simpa using h.2
    rcases (show v.2 = 0 ∨ v.2 = 1 by omega) with e | e <;> rw [e] <;> exact ⟨by decide, by decide⟩
  | long => rw [zV_J h]; exact ⟨rfl, rfl⟩
  | object C => rw [zV_R h]; cases zR ad b td v <;> exact ⟨rfl, rfl⟩
  | array t => rw [zV_R h]; cases zR ad b td v <;> exact ⟨rfl, rfl⟩
  | _ => simp [zfit] at h
def zo_putf : zSem := fun x M ev st k => match st with
  | (pc, L, stk, G, cu, su) => match stk with
    | u :: rest1 => match rest1 with
      | v :: rest => cond (Nat.beq v.1 3) (zob (zat G v.2) fun c => cond (Nat.beq c.1 0 && Nat.beq c.2.1 (zx x 1)) (cond (Nat.blt (zx x 2) c.2.2.length && (zfit (zty0 (zx x 1) (zx x 2)) u && zok G.length u)) (zset c.2.2 (zx x 2) u fun vs => zset G v.2 (0, zx x 1, vs) fun G' => znx pc 3 L rest G' cu su k) none) none) none
      | [] => none
    | [] => none
theorem zs_putf : zSnd (fun _ x => .putfield (zx x 0)) 3 (fun M x => zflk M x && (match zat vwCl (zx x 1) with | some q => !(q.2.1 (zx x 2)).2.2.2 | none => false)) zo_putf := by
  intro p l e R s m args below meth c Q M ev X n0 ad0 cx x pc L stk G cu su k r hd hf hs
  have hx := cx.1
  have hb := cx.2.1
  have hown := cx.2.2.2.1
  have hts := cx.2.2.2.2.1
  have hRm := cx.2.2.2.2.2.1
  have hbase := cx.2.2.2.2.2.2.1
  simp only [Bool.and_eq_true] at hf
  have hfx := hf.2
  have hf := hf.1
  obtain ⟨q, hq, hf⟩ : ∃ q, zat vwCl (zx x 1) = some q ∧ (Nat.blt (zx x 2) q.2.2 && (zcls.contains (zx x 1) && hasW (zx x 3) (.fieldLink (zm_y M).cls (zx x 0) (q.2.1 (zx x 2)).1 (q.2.1 (zx x 2)).2.1 (q.2.1 (zx x 2)).2.2.1))) = true := by
    unfold zflk at hf
    cases hq : zat vwCl (zx x 1) with
    | none => rw [hq] at hf; cases hf
    | some q => rw [hq] at hf; exact ⟨q, rfl, hf⟩
  simp only [Bool.and_eq_true] at hf
  obtain ⟨hf1, hf2, hf3⟩ := hf
  have hf1 : zx x 2 < q.2.2 := by simpa using hf1
  have hf2 : zx x 1 ∈ zcls := by simpa using hf2
  dsimp only [zo_putf] at hs
  cases stk with
  | nil => cases hs
  | cons u rest1 =>
  cases rest1 with
  | nil => cases hs
  | cons v rest =>
  have hv := (zc hs).1
  obtain ⟨c0, hc0, hs⟩ := zat_cases (zc hs).2
  have hcc := zcell0 (zc hs).1
  have hs := (zc hs).2
  have hfit := (zc hs).1
  have hs := (zc hs).2
  simp only [Bool.and_eq_true] at hfit
  obtain ⟨hlen, hfit, hok⟩ := hfit
  have hlen : zx x 2 < c0.2.2.length := by simpa using hlen
  rw [zset_eq, zset_eq] at hs
  refine ⟨_, znx_eq hs, fun hgo => ?_⟩
  intro ad ca tys H locs ls hR
  simp only [List.map_cons]
  rw [zV_3 hv]
  have hg := zW_get (ρ := zxr X) (ad := ad) (ca := ca) (b := zxb X) (td := zxt X) G 0 v.2 c0 (zat_some hc0)
  rw [Nat.zero_add, hcc] at hg
  have hft := zfit_ok (ρ := zxr X) (ad := ad) (b := zxb X) (td := zxt X) hfit
  rw [hq] at hfx
  refine va_put hx hb hts (zcls_in _ hf2 q (zat_some hq)) (zty0 (zx x 1)) (zcls_ty _ hf2 q (zat_some hq)) (zcls_nm _ hf2 q (zat_some hq)) hown hR.2.1.1 hR.2.1.2.1 hR.2.1.2.2.1 hR.2.2.1 v.2 hg (zat_some hq) (zx x 2) hf1 (zw (M := M) hts hf3) (fun _ h => h) (by simpa using hfx) (zcls_ty _ hf2 q (zat_some hq) (zx x 2) hf1) hft.1 hft.2 (by rw [List.length_map]; exact hlen) hd (fun H1 locs1 hP1 hD1 hS1 => ?_)
  refine hgo ad ca tys H1 locs1 ls ⟨hR.1, ?_, hS1, by rw [List.length_set]; exact hR.2.2.2.1, hR.2.2.2.2⟩
  have e : (Sum.inr (zx x 1, (c0.2.2.map (zV (zxr X) ad (zxb X) (zxt X))).set (zx x 2) (zV (zxr X) ad (zxb X) (zxt X) u)) : va_E) = zE (zxr X) ad ca (zxb X) (zxt X) v.2 (0, zx x 1, c0.2.2.set (zx x 2) u) := by
    show _ = Sum.inr (zx x 1, List.map _ _)
    rw [List.map_set]
  rw [e] at hP1 hD1
  refine zHp_set hR.2.1 hc0 (by rw [hcc]) (fun v' hv' => ?_) hP1 hD1
  rcases List.mem_or_eq_of_mem_set hv' with h2 | h2
  · exact hR.2.1.2.2.2.1 c0 (List.mem_of_getElem? (zat_some hc0)) v' h2
  · rw [h2]; exact hok
theorem zs_putfS : zSnd (fun _ x => .putfield (zx x 0)) 3 (fun M x => zflS M x && (match zat vwCl (zx x 1) with | some q => !(q.2.1 (zx x 2)).2.2.2 | none => false)) zo_putf := by
  intro p l e R s m args below meth c Q M ev X n0 ad0 cx x pc L stk G cu su k r hd hf hs
  have hx := cx.1
  have hb := cx.2.1
  have hown := cx.2.2.2.1
  have hts := cx.2.2.2.2.1
  have hRm := cx.2.2.2.2.2.1
  have hbase := cx.2.2.2.2.2.2.1
  simp only [Bool.and_eq_true] at hf
  have hfx := hf.2
  have hf := hf.1
  obtain ⟨q, hq, hf⟩ : ∃ q, zat vwCl (zx x 1) = some q ∧ (Nat.blt (zx x 2) q.2.2 && (zcls.contains (zx x 1) && (hasW (zx x 3) (.fieldLink (zm_y M).cls (zx x 0) (zm_y M).cls (q.2.1 (zx x 2)).2.1 (q.2.1 (zx x 2)).2.2.1) && hasW (zx x 4) (.sameField (zm_y M).cls (q.2.1 (zx x 2)).1 (q.2.1 (zx x 2)).2.1 (q.2.1 (zx x 2)).2.2.1)))) = true := by
    unfold zflS at hf
    cases hq : zat vwCl (zx x 1) with
    | none => rw [hq] at hf; cases hf
    | some q => rw [hq] at hf; exact ⟨q, rfl, hf⟩
  simp only [Bool.and_eq_true] at hf
  obtain ⟨hf1, hf2, hf3, hf4⟩ := hf
  have hf1 : zx x 2 < q.2.2 := by simpa using hf1
  have hf2 : zx x 1 ∈ zcls := by simpa using hf2
  dsimp only [zo_putf] at hs
  cases stk with
  | nil => cases hs
  | cons u rest1 =>
  cases rest1 with
  | nil => cases hs
  | cons v rest =>
  have hv := (zc hs).1
  obtain ⟨c0, hc0, hs⟩ := zat_cases (zc hs).2
  have hcc := zcell0 (zc hs).1
  have hs := (zc hs).2
  have hfit := (zc hs).1
  have hs := (zc hs).2
  simp only [Bool.and_eq_true] at hfit
  obtain ⟨hlen, hfit, hok⟩ := hfit
  have hlen : zx x 2 < c0.2.2.length := by simpa using hlen
  rw [zset_eq, zset_eq] at hs
  refine ⟨_, znx_eq hs, fun hgo => ?_⟩
  intro ad ca tys H locs ls hR
  simp only [List.map_cons]
  rw [zV_3 hv]
  have hg := zW_get (ρ := zxr X) (ad := ad) (ca := ca) (b := zxb X) (td := zxt X) G 0 v.2 c0 (zat_some hc0)
  rw [Nat.zero_add, hcc] at hg
  have hft := zfit_ok (ρ := zxr X) (ad := ad) (b := zxb X) (td := zxt X) hfit
  rw [hq] at hfx
  refine va_put hx hb hts (zcls_in _ hf2 q (zat_some hq)) (zty0 (zx x 1)) (zcls_ty _ hf2 q (zat_some hq)) (zcls_nm _ hf2 q (zat_some hq)) hown hR.2.1.1 hR.2.1.2.1 hR.2.1.2.2.1 hR.2.2.1 v.2 hg (zat_some hq) (zx x 2) hf1 (zw (M := M) hts hf3) (fun y hy => u_same (zw (M := M) hts hf4) y hy) (by simpa using hfx) (zcls_ty _ hf2 q (zat_some hq) (zx x 2) hf1) hft.1 hft.2 (by rw [List.length_map]; exact hlen) hd (fun H1 locs1 hP1 hD1 hS1 => ?_)
  refine hgo ad ca tys H1 locs1 ls ⟨hR.1, ?_, hS1, by rw [List.length_set]; exact hR.2.2.2.1, hR.2.2.2.2⟩
  have e : (Sum.inr (zx x 1, (c0.2.2.map (zV (zxr X) ad (zxb X) (zxt X))).set (zx x 2) (zV (zxr X) ad (zxb X) (zxt X) u)) : va_E) = zE (zxr X) ad ca (zxb X) (zxt X) v.2 (0, zx x 1, c0.2.2.set (zx x 2) u) := by
    show _ = Sum.inr (zx x 1, List.map _ _)
    rw [List.map_set]
  rw [e] at hP1 hD1
  refine zHp_set hR.2.1 hc0 (by rw [hcc]) (fun v' hv' => ?_) hP1 hD1
  rcases List.mem_or_eq_of_mem_set hv' with h2 | h2
  · exact hR.2.1.2.2.2.1 c0 (List.mem_of_getElem? (zat_some hc0)) v' h2
  · rw [h2]; exact hok
theorem zs_putfF : zSnd (fun _ x => .putfield (zx x 0)) 3 (fun M x => zflk M x && (match zat vwCl (zx x 1) with | some q => (q.2.1 (zx x 2)).2.2.2 && (decide ((zm_y M).name = "<init>") && decide ((q.2.1 (zx x 2)).1 = (zm_y M).cls)) | none => false)) zo_putf := by
  intro p l e R s m args below meth c Q M ev X n0 ad0 cx x pc L stk G cu su k r hd hf hs
  have hx := cx.1
  have hb := cx.2.1
  have hown := cx.2.2.2.1
  have hts := cx.2.2.2.2.1
  have hRm := cx.2.2.2.2.2.1
  have hbase := cx.2.2.2.2.2.2.1
  simp only [Bool.and_eq_true] at hf
  have hfx := hf.2
  have hf := hf.1
  obtain ⟨q, hq, hf⟩ : ∃ q, zat vwCl (zx x 1) = some q ∧ (Nat.blt (zx x 2) q.2.2 && (zcls.contains (zx x 1) && hasW (zx x 3) (.fieldLink (zm_y M).cls (zx x 0) (q.2.1 (zx x 2)).1 (q.2.1 (zx x 2)).2.1 (q.2.1 (zx x 2)).2.2.1))) = true := by
    unfold zflk at hf
    cases hq : zat vwCl (zx x 1) with
    | none => rw [hq] at hf; cases hf
    | some q => rw [hq] at hf; exact ⟨q, rfl, hf⟩
  simp only [Bool.and_eq_true] at hf
  obtain ⟨hf1, hf2, hf3⟩ := hf
  have hf1 : zx x 2 < q.2.2 := by simpa using hf1
  have hf2 : zx x 1 ∈ zcls := by simpa using hf2
  dsimp only [zo_putf] at hs
  cases stk with
  | nil => cases hs
  | cons u rest1 =>
  cases rest1 with
  | nil => cases hs
  | cons v rest =>
  have hv := (zc hs).1
  obtain ⟨c0, hc0, hs⟩ := zat_cases (zc hs).2
  have hcc := zcell0 (zc hs).1
  have hs := (zc hs).2
  have hfit := (zc hs).1
  have hs := (zc hs).2
  simp only [Bool.and_eq_true] at hfit
  obtain ⟨hlen, hfit, hok⟩ := hfit
  have hlen : zx x 2 < c0.2.2.length := by simpa using hlen
  rw [zset_eq, zset_eq] at hs
  refine ⟨_, znx_eq hs, fun hgo => ?_⟩
  intro ad ca tys H locs ls hR
  simp only [List.map_cons]
  rw [zV_3 hv]
  have hg := zW_get (ρ := zxr X) (ad := ad) (ca := ca) (b := zxb X) (td := zxt X) G 0 v.2 c0 (zat_some hc0)
  rw [Nat.zero_add, hcc] at hg
  have hft := zfit_ok (ρ := zxr X) (ad := ad) (b := zxb X) (td := zxt X) hfit
  rw [hq] at hfx
  refine va_putF hx hb hts (zcls_in _ hf2 q (zat_some hq)) (zty0 (zx x 1)) (zcls_ty _ hf2 q (zat_some hq)) (zcls_nm _ hf2 q (zat_some hq)) hown hR.2.1.1 hR.2.1.2.1 hR.2.1.2.2.1 hR.2.2.1 v.2 hg (zat_some hq) (zx x 2) hf1 (zw (M := M) hts hf3) (fun _ h => h) (by simp only [Bool.and_eq_true] at hfx; exact hfx.1) (by simp only [Bool.and_eq_true] at hfx; rw [cx.2.2.2.2.2.2.2.2.2.1]; exact of_decide_eq_true hfx.2.1) (by simp only [Bool.and_eq_true] at hfx; exact of_decide_eq_true hfx.2.2) (zcls_ty _ hf2 q (zat_some hq) (zx x 2) hf1) hft.1 hft.2 (by rw [List.length_map]; exact hlen) hd (fun H1 locs1 hP1 hD1 hS1 => ?_)
  refine hgo ad ca tys H1 locs1 ls ⟨hR.1, ?_, hS1, by rw [List.length_set]; exact hR.2.2.2.1, hR.2.2.2.2⟩
  have e : (Sum.inr (zx x 1, (c0.2.2.map (zV (zxr X) ad (zxb X) (zxt X))).set (zx x 2) (zV (zxr X) ad (zxb X) (zxt X) u)) : va_E) = zE (zxr X) ad ca (zxb X) (zxt X) v.2 (0, zx x 1, c0.2.2.set (zx x 2) u) := by
    show _ = Sum.inr (zx x 1, List.map _ _)
    rw [List.map_set]
  rw [e] at hP1 hD1
  refine zHp_set hR.2.1 hc0 (by rw [hcc]) (fun v' hv' => ?_) hP1 hD1
  rcases List.mem_or_eq_of_mem_set hv' with h2 | h2
  · exact hR.2.1.2.2.2.1 c0 (List.mem_of_getElem? (zat_some hc0)) v' h2
  · rw [h2]; exact hok
def zdfl (ty : FieldType) : zAV := match ty with
  | .long => (4, 0)
  | .object _ => (2, 0)
  | .array _ => (2, 0)
  | _ => (0, 0)
def zdok (ty : FieldType) : Bool := match ty with
  | .int => true
  | .boolean => true
  | .char => true
  | .long => true
  | .object _ => true
  | .array _ => true
  | _ => false
theorem zdfl_ok {ρ : Nat → Int32} {ad : Nat → Nat} {b td : Nat} {ty : FieldType} (h : zdok ty = true) : defaultValue ty = zV ρ ad b td (zdfl ty) := by
  cases ty <;> first | rfl | (simp [zdok] at h)
theorem zdfl_3 (ty : FieldType) : (zdfl ty).1 ≠ 3 := by cases ty <;> (intro h; cases h)
def znwf (M : zMeth) (x : List Nat) : Bool := match zat vwCl (zx x 1) with
  | some q => zcls.contains (zx x 1) && (hasW (zx x 2) (.classLink (zm_y M).cls (zx x 0) q.1) && (hasW (zx x 3) (.instantiable q.1 q.2.2) && (hasW (zx x 4) (.initialized q.1) && ((List.range q.2.2).all fun j => zdok (zty0 (zx x 1) j)))))
  | none => false
def zo_new : zSem := fun x M ev st k => match st with
  | (pc, L, stk, G, cu, su) => zob (zat vwCl (zx x 1)) fun q => cond (Nat.blt cu (zm_rm M).2.1 && (Nat.ble (su + q.2.2) (zm_rm M).2.2.1 && (zokL G.length L && zokA G.length stk))) (zN G.length fun n => zapp G [(0, zx x 1, (List.range q.2.2).map fun j => zdfl (zty0 (zx x 1) j))] fun G' => zN (cu + 1) fun cu' => zN (su + q.2.2) fun su' => znx pc 3 L ((3, n) :: stk) G' cu' su' k) none
theorem zs_new : zSnd (fun _ x => .new (zx x 0)) 3 znwf zo_new := by
  intro p l e R s m args below meth c Q M ev X n0 ad0 cx x pc L stk G cu su k r hd hf hs
  have hx := cx.1
  have hb := cx.2.1
  have hown := cx.2.2.2.1
  have hts := cx.2.2.2.2.1
  have hRm := cx.2.2.2.2.2.1
  have hbase := cx.2.2.2.2.2.2.1
  dsimp only [zo_new] at hs
  obtain ⟨q, hq, hs⟩ := zat_cases hs
  have hc := (zc hs).1
  have hs := (zc hs).2
  simp only [zN_eq, zapp_eq] at hs
  simp only [Bool.and_eq_true] at hc
  obtain ⟨hc1, hc2, hc3, hc4⟩ := hc
  unfold znwf at hf
  rw [hq] at hf
  simp only [Bool.and_eq_true] at hf
  obtain ⟨hf0, hf1, hf2, hf3, hf4⟩ := hf
  have hf0 : zx x 1 ∈ zcls := by simpa using hf0
  refine ⟨_, znx_eq hs, fun hgo => ?_⟩
  intro ad ca tys H locs ls hR
  subst hRm
  refine va_new (C := q.1) (T := q.2.1) (N := q.2.2) (fs := ((List.range q.2.2).map fun j => zdfl (zty0 (zx x 1) j)).map (zV (zxr X) ad (zxb X) (zxt X))) hx hb hts (zcls_in _ hf0 q (zat_some hq)) (zty0 (zx x 1)) (zcls_ty _ hf0 q (zat_some hq)) hown (zw (M := M) hts hf1) (zw (M := M) hts hf2) (zw (M := M) hts hf3) hR.2.1.1 hR.2.1.2.1 hR.2.1.2.2.1 hR.2.2.1 (fun q' h' => Nat.le_trans hbase h') (zat_some hq) (fun j hj => ?_) (Nat.succ_le_of_lt (show cu < (zm_rm M).2.1 by simpa using hc1)) (show su + q.2.2 ≤ (zm_rm M).2.2.1 by simpa using hc2) hd (fun q1 H1 hP1 hD1 hS1 => ?_)
  · have h9 := List.all_eq_true.mp hf4 j (List.mem_range.mpr hj)
    rw [zdfl_ok (ρ := zxr X) (ad := ad) (b := zxb X) (td := zxt X) h9]
    unfold vp_V
    rw [List.getD_eq_getElem?_getD, List.getElem?_map, List.getElem?_map, List.getElem?_range hj]
    rfl
  · have hK9 : va_K (zxD X) vwCl (tys ++ []) s := by rw [List.append_nil]; exact hR.2.1.1
    have H9 := hgo _ _ _ H1 locs ls (zRp_push hR (c := (0, zx x 1, (List.range q.2.2).map fun j => zdfl (zty0 (zx x 1) j))) (q := q1) (cA := 0) (tys' := []) hc3 hK9 (fun v hv => by
      obtain ⟨j, -, rfl⟩ := List.mem_map.mp hv
      exact zdfl_3 _) (fun t ci vs h => by cases h) hP1 hD1 hS1)
    simp only [List.map_cons] at H9
    rw [zSc hc4 fun k hk => zup_lt k hk] at H9
    rw [show zV (zxr X) (zup ad G.length q1) (zxb X) (zxt X) (3, G.length) = .ref q1 from congrArg Value.ref zup_eq] at H9
    exact H9
end
section
/-! ARRAYS, statics, Object's constructor -/
def zaty (t : Nat) : ArrayType := match t with
  | 0 => .int
  | 1 => .boolean
  | 2 => .long
  | 3 => .char
  | _ => .double
def zadf (t : Nat) : zAV := match t with
  | 2 => (4, 0)
  | 4 => (6, 0)
  | 0 => (0, 0)
  | 1 => (0, 0)
  | 3 => (0, 0)
  | _ => (2, 0)
theorem zadf_3 (t : Nat) : (zadf t).1 ≠ 3 := by
  match t with
  | 0 => intro h; cases h
  | 1 => intro h; cases h
  | 2 => intro h; cases h
  | 3 => intro h; cases h
  | 4 => intro h; cases h
  | t + 5 => intro h; cases h
theorem zrep {d : zAV} {n j : Nat} : (List.replicate n d).getD j d = d := by
  rw [List.getD_eq_getElem?_getD, List.getElem?_replicate]
  by_cases h : j < n <;> simp [h]
theorem zC_rep {ρ : Nat → Int32} {ad : Nat → Nat} {b td t n : Nat} (cA : ClassId) : vp_cell cA (zC ρ ad b td t (List.replicate n (zadf t))) = arrV cA n (fun _ => defaultValue (zT t)) := by
  match t with
  | 0 => simp only [zC, vp_cell, zadf, zrep, List.length_replicate]; rfl
  | 1 => simp only [zC, vp_cell, zadf, zrep, List.length_replicate]; rfl
  | 2 => simp only [zC, vp_cell, zadf, zrep, List.length_replicate]; rfl
  | 3 => simp only [zC, vp_cell, zadf, zrep, List.length_replicate]; rfl
  | 4 => simp only [zC, vp_cell, zadf, zrep, List.length_replicate]; rfl
  | 5 => simp only [zC, vp_cell, zadf, zrep, List.length_replicate]; rfl
  | 6 => simp only [zC, vp_cell, zadf, zrep, List.length_replicate]; rfl
  | 7 => simp only [zC, vp_cell, zadf, zrep, List.length_replicate]; rfl
  | 8 => simp only [zC, vp_cell, zadf, zrep, List.length_replicate]; rfl
  | t + 9 => simp only [zC, vp_cell, zadf, zrep, List.length_replicate]; rfl
theorem zcb (t : Nat) : componentBytes (zT t) ≤ 8 := by
  match t with
  | 0 => decide
  | 1 => decide
  | 2 => decide
  | 3 => decide
  | 4 => decide
  | 5 => decide
  | 6 => decide
  | 7 => decide
  | 8 => decide
  | t + 9 => exact (by decide : componentBytes (.object "FormRiverModel$Submission") ≤ 8)
theorem ztyo (t : Nat) (h : t ≤ 4) : newarray.typeOf (zaty t) = zT t := by
  match t with
  | 0 => rfl
  | 1 => rfl
  | 2 => rfl
  | 3 => rfl
  | 4 => rfl
  | t + 5 => omega
def zo_newarray : zSem := fun x M ev st k => match st with
  | (pc, L, stk, G, cu, su) => match stk with
    | v :: rest => cond (Nat.beq v.1 0 && (Nat.ble v.2 65536 && (Nat.ble (zx x 0) 4 && (Nat.blt cu (zm_rm M).2.1 && (Nat.ble (su + v.2) (zm_rm M).2.2.1 && (zokL G.length L && zokA G.length rest)))))) (zN G.length fun n => zapp G [(Nat.succ (zx x 0), 0, List.replicate v.2 (zadf (zx x 0)))] fun G' => zN (cu + 1) fun cu' => zN (su + v.2) fun su' => znx pc 2 L ((3, n) :: rest) G' cu' su' k) none
    | [] => none
theorem zs_newarray : zSnd (fun _ x => .newarray (zaty (zx x 0))) 2 (fun _ x => hasW (zx x 1) (.arrayClass (zT (zx x 0)))) zo_newarray := by
  intro p l e R s m args below meth c Q M ev X n0 ad0 cx x pc L stk G cu su k r hd hf hs
  have hx := cx.1
  have hb := cx.2.1
  have hown := cx.2.2.2.1
  have hts := cx.2.2.2.2.1
  have hRm := cx.2.2.2.2.2.1
  have hbase := cx.2.2.2.2.2.2.1
  dsimp only [zo_newarray] at hs
  cases stk with
  | nil => cases hs
  | cons v rest =>
  have hc := (zc hs).1
  have hs := (zc hs).2
  simp only [zN_eq, zapp_eq] at hs
  simp only [Bool.and_eq_true] at hc
  obtain ⟨hv, hn, ht4, hc1, hc2, hc3, hc4⟩ := hc
  have hn : v.2 ≤ 65536 := by simpa using hn
  have ht4 : zx x 0 ≤ 4 := by simpa using ht4
  have hcb := zcb (zx x 0)
  refine ⟨_, znx_eq hs, fun hgo => ?_⟩
  intro ad ca tys H locs ls hR
  subst hRm
  simp only [List.map_cons]
  rw [zV_0 hv]
  refine va_newa (ty := zT (zx x 0)) (a0 := zC (zxr X) ad (zxb X) (zxt X) (zx x 0) (List.replicate v.2 (zadf (zx x 0)))) (N' := v.2) hx hb (by rw [ztyo _ ht4]; exact zw (M := M) hts hf) (ztyo _ ht4) hR.2.1.1 hR.2.1.2.1 hR.2.1.2.2.1 hR.2.2.1 (fun q' h' => Nat.le_trans hbase h') (fun cA => zC_rep cA) (nI_pos (by omega)) (nI_clamp (by omega)) (Nat.le_trans (Nat.mul_le_mul hn hcb) (by decide)) (Nat.succ_le_of_lt (show cu < (zm_rm M).2.1 by simpa using hc1)) (show su + v.2 ≤ (zm_rm M).2.2.1 by simpa using hc2) hd (fun q1 cA H1 hK1 hP1 hD1 hS1 => ?_)
  have H9 := hgo _ _ _ H1 locs ls (zRp_push hR (c := (Nat.succ (zx x 0), 0, List.replicate v.2 (zadf (zx x 0)))) (q := q1) (cA := cA) (tys' := [(cA, zT (zx x 0))]) hc3 hK1 (fun v' hv' => by
    rw [List.eq_of_mem_replicate hv']
    exact zadf_3 _) (fun t ci vs h => by
    have h1 : zx x 0 = t := Nat.succ.inj (congrArg Prod.fst h)
    subst h1
    exact ⟨tys.length, by simp⟩) hP1 hD1 hS1)
  simp only [List.map_cons] at H9
  rw [zSc hc4 fun k hk => zup_lt k hk] at H9
  rw [show zV (zxr X) (zup ad G.length q1) (zxb X) (zxt X) (3, G.length) = .ref q1 from congrArg Value.ref zup_eq] at H9
  exact H9
def zcn (t : Nat) : String := match t with
  | 5 => "java/lang/Object"
  | 8 => "FormRiverModel$Version"
  | _ => "FormRiverModel$Submission"
def zo_anew : zSem := fun x M ev st k => match st with
  | (pc, L, stk, G, cu, su) => match stk with
    | v :: rest => cond (Nat.beq v.1 0 && (Nat.ble v.2 65536 && ((Nat.beq (zx x 1) 5 || (Nat.beq (zx x 1) 8 || Nat.beq (zx x 1) 9)) && (Nat.blt cu (zm_rm M).2.1 && (Nat.ble (su + v.2) (zm_rm M).2.2.1 && (zokL G.length L && zokA G.length rest)))))) (zN G.length fun n => zapp G [(Nat.succ (zx x 1), 0, List.replicate v.2 (2, 0))] fun G' => zN (cu + 1) fun cu' => zN (su + v.2) fun su' => znx pc 3 L ((3, n) :: rest) G' cu' su' k) none
    | [] => none
theorem zs_anew : zSnd (fun _ x => .anewarray (zx x 0)) 3 (fun M x => hasW (zx x 2) (.classLink (zm_y M).cls (zx x 0) (zcn (zx x 1)))) zo_anew := by
  intro p l e R s m args below meth c Q M ev X n0 ad0 cx x pc L stk G cu su k r hd hf hs
  have hx := cx.1
  have hb := cx.2.1
  have hown := cx.2.2.2.1
  have hts := cx.2.2.2.2.1
  have hRm := cx.2.2.2.2.2.1
  have hbase := cx.2.2.2.2.2.2.1
  dsimp only [zo_anew] at hs
  cases stk with
  | nil => cases hs
  | cons v rest =>
  have hc := (zc hs).1
  have hs := (zc hs).2
  simp only [zN_eq, zapp_eq] at hs
  simp only [Bool.and_eq_true] at hc
  obtain ⟨hv, hn, ht, hc1, hc2, hc3, hc4⟩ := hc
  have hn : v.2 ≤ 65536 := by simpa using hn
  have hAO := cx.2.2.2.2.2.2.2.2.2.2.2.2.1.1
  have ht : zT (zx x 1) = .object (zcn (zx x 1)) ∧ va_AO (zcn (zx x 1)) s ∧ (zC (zxr X) (fun _ => 0) (zxb X) (zxt X) (zx x 1) (List.replicate v.2 (2, 0))) = (v.2, .inr (.inr (.inr (.inr (fun _ => none))))) ∧ ∀ ad : Nat → Nat, (zC (zxr X) ad (zxb X) (zxt X) (zx x 1) (List.replicate v.2 (2, 0))) = (v.2, .inr (.inr (.inr (.inr (fun _ => none))))) := by
    simp only [Bool.or_eq_true] at ht
    have hr : ∀ (ad : Nat → Nat) (j : Nat), zR ad (zxb X) (zxt X) ((List.replicate v.2 ((2, 0) : zAV)).getD j (2, 0)) = none := fun ad j => by rw [zrep]; rfl
    rcases ht with h | h | h <;> (rw [Nat.eq_of_beq_eq_true h]; refine ⟨rfl, ?_, ?_, ?_⟩)
    · exact hAO (.arrayOver (.object "java/lang/Object")) (by decide +kernel)
    · simp only [zC, hr, List.length_replicate]
    · intro ad; simp only [zC, hr, List.length_replicate]
    · exact hAO (.arrayOver (.object "FormRiverModel$Version")) (by decide +kernel)
    · simp only [zC, hr, List.length_replicate]
    · intro ad; simp only [zC, hr, List.length_replicate]
    · exact hAO (.arrayOver (.object "FormRiverModel$Submission")) (by decide +kernel)
    · simp only [zC, hr, List.length_replicate]
    · intro ad; simp only [zC, hr, List.length_replicate]
  refine ⟨_, znx_eq hs, fun hgo => ?_⟩
  intro ad ca tys H locs ls hR
  subst hRm
  simp only [List.map_cons]
  rw [zV_0 hv]
  refine va_newq (C := zcn (zx x 1)) (N' := v.2) hx hb hown (zw (M := M) hts hf) ht.2.1 hR.2.1.1 hR.2.1.2.1 hR.2.1.2.2.1 hR.2.2.1 (fun q' h' => Nat.le_trans hbase h') (nI_pos (by omega)) (nI_clamp (by omega)) (by omega) (Nat.succ_le_of_lt (show cu < (zm_rm M).2.1 by simpa using hc1)) (show su + v.2 ≤ (zm_rm M).2.2.1 by simpa using hc2) hd (fun q1 cA H1 hK1 hP1 hD1 hS1 => ?_)
  rw [← ht.2.2.2 ad] at hP1 hD1
  have H9 := hgo _ _ _ H1 locs ls (zRp_push hR (c := (Nat.succ (zx x 1), 0, List.replicate v.2 (2, 0))) (q := q1) (cA := cA) (tys' := [(cA, .object (zcn (zx x 1)))]) hc3 hK1 (fun v' hv' => by
    rw [List.eq_of_mem_replicate hv']
    intro h
    cases h) (fun t ci vs h => by
    have h1 : zx x 1 = t := Nat.succ.inj (congrArg Prod.fst h)
    rw [← h1, ht.1]
    exact ⟨tys.length, by simp⟩) hP1 hD1 hS1)
  simp only [List.map_cons] at H9
  rw [zSc hc4 fun k hk => zup_lt k hk] at H9
  rw [show zV (zxr X) (zup ad G.length q1) (zxb X) (zxt X) (3, G.length) = .ref q1 from congrArg Value.ref zup_eq] at H9
  exact H9
def zo_alen : zSem := fun x M ev st k => match st with
  | (pc, L, stk, G, cu, su) => match stk with
    | v :: rest => cond (Nat.beq v.1 3) (zob (zat G v.2) fun c => cond (Nat.blt 0 c.1) (zN c.2.2.length fun n => znx pc 1 L ((0, n) :: rest) G cu su k) none) (cond (Nat.beq v.1 10) (znx pc 1 L ((0, 0) :: rest) G cu su k) (cond (Nat.beq v.1 8 && Nat.blt ev.2.2 8) (znx pc 1 L ((0, ev.2.2) :: rest) G cu su k) none))
    | [] => none
theorem zs_alen : zSnd (fun _ _ => .arraylength) 1 ztrue zo_alen := by
  intro p l e R s m args below meth c Q M ev X n0 ad0 cx x pc L stk G cu su k r hd hf hs
  have hx := cx.1
  have hb := cx.2.1
  have hown := cx.2.2.2.1
  have hts := cx.2.2.2.2.1
  have hRm := cx.2.2.2.2.2.1
  have hbase := cx.2.2.2.2.2.2.1
  dsimp only [zo_alen] at hs
  cases stk with
  | nil => cases hs
  | cons v rest =>
  dsimp only at hs
  cases hv : Nat.beq v.1 3 with
  | true =>
    rw [hv] at hs
    obtain ⟨⟨kd, ci, vs⟩, hc0, hs⟩ := zat_cases hs
    have hc := (zc hs).1
    have hs := (zc hs).2
    rw [zN_eq] at hs
    cases kd with
    | zero => simp at hc
    | succ t =>
    refine ⟨_, znx_eq hs, fun hgo => ?_⟩
    intro ad ca tys H locs ls hR
    have H1 := hgo ad ca tys H locs ls hR
    simp only [List.map_cons] at H1 ⊢
    rw [zV_3 hv]
    have hg := zW_get (ρ := zxr X) (ad := ad) (ca := ca) (b := zxb X) (td := zxt X) G 0 v.2 _ (zat_some hc0)
    rw [Nat.zero_add] at hg
    obtain ⟨t0, h0⟩ := hR.2.1.2.2.2.2 v.2 t ci vs (zat_some hc0)
    exact va_alen hx hb hR.2.1.1 hR.2.1.2.1 v.2 t0 hg h0 (v := nI vs.length) rfl hd H1
  | false =>
  rw [hv] at hs
  simp only [cond] at hs
  cases hv2 : Nat.beq v.1 10 with
  | true =>
    rw [hv2] at hs
    refine ⟨_, znx_eq hs, fun hgo => ?_⟩
    intro ad ca tys H locs ls hR
    have H1 := hgo ad ca tys H locs ls hR
    simp only [List.map_cons] at H1 ⊢
    rw [zV_10 hv2]
    obtain ⟨f, hT⟩ := cx.2.2.2.2.2.2.2.2.2.2.1.2.2.2.1
    exact va_tlen hx hb hT hR.2.2.1 (v := nI 0) rfl hd H1
  | false =>
    rw [hv2] at hs
    have hv3 := (zc hs).1
    have hs := (zc hs).2
    simp only [Bool.and_eq_true] at hv3
    obtain ⟨hv3, hL8⟩ := hv3
    have hLe := cx.2.2.2.2.2.2.2.1.2.2 (by simpa using hL8)
    refine ⟨_, znx_eq hs, fun hgo => ?_⟩
    intro ad ca tys H locs ls hR
    have H1 := hgo ad ca tys H locs ls hR
    simp only [List.map_cons] at H1 ⊢
    rw [zV_8 hv3]
    have hX := cx.2.2.2.2.2.2.2.2.2.2.1.2.2.2.2
    rw [← hLe] at hX
    exact va_slen hx hb hX.1 (Nat.lt_of_lt_of_le hX.2 hbase) (Nat.not_le.mpr hX.2) hR.2.2.1 hd H1
def zo_iaload : zSem := fun x M ev st k => match st with
  | (pc, L, stk, G, cu, su) => match stk with
    | i :: rest1 => match rest1 with
      | v :: rest => cond (Nat.beq i.1 0 && Nat.blt i.2 2147483648) (cond (Nat.beq v.1 3) (zob (zat G v.2) fun c => cond (Nat.beq c.1 1) (zob (zat c.2.2 i.2) fun u => cond (zisI u) (znx pc 1 L (u :: rest) G cu su k) none) none) (cond (Nat.beq v.1 8 && (Nat.blt i.2 ev.2.2 && Nat.blt ev.2.2 8)) (zob (zat ev.1 i.2) fun q => cond (Nat.beq q.1 q.2 && Nat.blt q.1 4294967296) (zN ((q.1 + 2147483648) % 4294967296) fun n => znx pc 1 L ((0, n) :: rest) G cu su k) (zN i.2 fun j => znx pc 1 L ((1, j) :: rest) G cu su k)) none)) none
      | [] => none
    | [] => none
theorem zs_iaload : zSnd (fun _ _ => .iaload) 1 ztrue zo_iaload := by
  intro p l e R s m args below meth c Q M ev X n0 ad0 cx x pc L stk G cu su k r hd hf hs
  have hx := cx.1
  have hb := cx.2.1
  have hown := cx.2.2.2.1
  have hts := cx.2.2.2.2.1
  have hRm := cx.2.2.2.2.2.1
  have hbase := cx.2.2.2.2.2.2.1
  dsimp only [zo_iaload] at hs
  cases stk with
  | nil => cases hs
  | cons i rest1 =>
  cases rest1 with
  | nil => cases hs
  | cons v rest =>
  have hi := (zc hs).1
  have hs := (zc hs).2
  simp only [Bool.and_eq_true] at hi
  obtain ⟨hi, hi2⟩ := hi
  have hi2 : i.2 < 2147483648 := by simpa using hi2
  cases hv : Nat.beq v.1 3 with
  | true =>
    rw [hv] at hs
    obtain ⟨⟨kd, ci, vs⟩, hc0, hs⟩ := zat_cases hs
    have hc := (zc hs).1
    obtain ⟨u, hu, hs⟩ := zat_cases (zc hs).2
    have hpu := (zc hs).1
    have hs := (zc hs).2
    refine ⟨_, znx_eq hs, fun hgo => ?_⟩
    intro ad ca tys H locs ls hR
    have H1 := hgo ad ca tys H locs ls hR
    simp only [List.map_cons] at H1 ⊢
    rw [zV_3 hv, zV_0 hi]
    have hg := zW_get (ρ := zxr X) (ad := ad) (ca := ca) (b := zxb X) (td := zxt X) G 0 v.2 _ (zat_some hc0)
    rw [Nat.zero_add] at hg
    have hin := zin (zat_lt hu) hi2
    have hcl : (nI i.2).toNatClampNeg = i.2 := nI_clamp hi2
    have hgd : vs.getD i.2 (0, 0) = u := by rw [List.getD_eq_getElem?_getD, zat_some hu]; rfl
    have hk : kd = 1 := Nat.eq_of_beq_eq_true hc
    subst hk
    obtain ⟨t0, h0⟩ := hR.2.1.2.2.2.2 v.2 0 ci vs (zat_some hc0)
    rw [zV_I hpu, ← hgd, ← hcl] at H1
    exact va_iald hx hb hR.2.1.1 hR.2.1.2.1 v.2 t0 hg h0 hin hd H1
  | false =>
    rw [hv] at hs
    have hc := (zc hs).1
    obtain ⟨q, hq, hs⟩ := zat_cases (zc hs).2
    simp only [zN_eq] at hs
    simp only [Bool.and_eq_true] at hc
    obtain ⟨hv8, hiL, hL8⟩ := hc
    have hiL : i.2 < ev.2.2 := by simpa using hiL
    have hLe := cx.2.2.2.2.2.2.2.1.2.2 (by simpa using hL8)
    have hX := cx.2.2.2.2.2.2.2.2.2.2.1.2.2.2.2
    rw [← hLe] at hX
    have hcl : (nI i.2).toNatClampNeg = i.2 := nI_clamp hi2
    cases hqq : (Nat.beq q.1 q.2 && Nat.blt q.1 4294967296) with
    | true =>
      rw [hqq] at hs
      simp only [Bool.and_eq_true] at hqq
      have hq1 : q.1 = q.2 := Nat.eq_of_beq_eq_true hqq.1
      have hq2 : q.1 < 4294967296 := by simpa using hqq.2
      have hrg := cx.2.2.2.2.2.2.2.1.1 i.2 q.1 q.2 (zat_some hq)
      have hval : zxr X i.2 = nI ((q.1 + 2147483648) % 4294967296) := by
        rw [zbi_eq, zbi_nI]
        unfold zbm
        omega
      refine ⟨_, znx_eq hs, fun hgo => ?_⟩
      intro ad ca tys H locs ls hR
      have H1 := hgo ad ca tys H locs ls hR
      simp only [List.map_cons] at H1 ⊢
      rw [zV_8 hv8, zV_0 hi]
      refine va_sld hx hb hX.1 (Nat.lt_of_lt_of_le hX.2 hbase) (Nat.not_le.mpr hX.2) hR.2.2.1 (zin hiL hi2) hd ?_
      rw [hcl, hval]
      exact H1
    | false =>
    rw [hqq] at hs
    refine ⟨_, znx_eq hs, fun hgo => ?_⟩
    intro ad ca tys H locs ls hR
    have H1 := hgo ad ca tys H locs ls hR
    simp only [List.map_cons] at H1 ⊢
    rw [zV_8 hv8, zV_0 hi]
    refine va_sld hx hb hX.1 (Nat.lt_of_lt_of_le hX.2 hbase) (Nat.not_le.mpr hX.2) hR.2.2.1 (zin hiL hi2) hd ?_
    rw [hcl]
    exact H1
def zo_zaload : zSem := fun x M ev st k => match st with
  | (pc, L, stk, G, cu, su) => match stk with
    | i :: rest1 => match rest1 with
      | v :: rest => cond (Nat.beq i.1 0 && Nat.blt i.2 2147483648) (cond (Nat.beq v.1 3) (zob (zat G v.2) fun c => cond (Nat.beq c.1 2) (zob (zat c.2.2 i.2) fun u => cond (zisI u) (znx pc 1 L (u :: rest) G cu su k) none) none) none) none
      | [] => none
    | [] => none
theorem zs_zaload : zSnd (fun _ _ => .baload) 1 ztrue zo_zaload := by
  intro p l e R s m args below meth c Q M ev X n0 ad0 cx x pc L stk G cu su k r hd hf hs
  have hx := cx.1
  have hb := cx.2.1
  have hown := cx.2.2.2.1
  have hts := cx.2.2.2.2.1
  have hRm := cx.2.2.2.2.2.1
  have hbase := cx.2.2.2.2.2.2.1
  dsimp only [zo_zaload] at hs
  cases stk with
  | nil => cases hs
  | cons i rest1 =>
  cases rest1 with
  | nil => cases hs
  | cons v rest =>
  have hi := (zc hs).1
  have hs := (zc hs).2
  simp only [Bool.and_eq_true] at hi
  obtain ⟨hi, hi2⟩ := hi
  have hi2 : i.2 < 2147483648 := by simpa using hi2
  have hv := (zc hs).1
  have hs := (zc hs).2
  have hvz : True := trivial
  obtain ⟨⟨kd, ci, vs⟩, hc0, hs⟩ := zat_cases hs
  have hc := (zc hs).1
  obtain ⟨u, hu, hs⟩ := zat_cases (zc hs).2
  have hpu := (zc hs).1
  have hs := (zc hs).2
  refine ⟨_, znx_eq hs, fun hgo => ?_⟩
  intro ad ca tys H locs ls hR
  have H1 := hgo ad ca tys H locs ls hR
  simp only [List.map_cons] at H1 ⊢
  rw [zV_3 hv, zV_0 hi]
  have hg := zW_get (ρ := zxr X) (ad := ad) (ca := ca) (b := zxb X) (td := zxt X) G 0 v.2 _ (zat_some hc0)
  rw [Nat.zero_add] at hg
  have hin := zin (zat_lt hu) hi2
  have hcl : (nI i.2).toNatClampNeg = i.2 := nI_clamp hi2
  have hgd : vs.getD i.2 (0, 0) = u := by rw [List.getD_eq_getElem?_getD, zat_some hu]; rfl
  have hk : kd = 2 := Nat.eq_of_beq_eq_true hc
  subst hk
  obtain ⟨t0, h0⟩ := hR.2.1.2.2.2.2 v.2 1 ci vs (zat_some hc0)
  rw [zV_I hpu, ← hgd, ← hcl] at H1
  exact va_zald hx hb hR.2.1.1 hR.2.1.2.1 v.2 t0 hg h0 hin hd H1
def zo_caload : zSem := fun x M ev st k => match st with
  | (pc, L, stk, G, cu, su) => match stk with
    | i :: rest1 => match rest1 with
      | v :: rest => cond (Nat.beq i.1 0 && Nat.blt i.2 2147483648) (cond (Nat.beq v.1 3) (zob (zat G v.2) fun c => cond (Nat.beq c.1 4) (zob (zat c.2.2 i.2) fun u => cond (zisI u) (znx pc 1 L (u :: rest) G cu su k) none) none) none) none
      | [] => none
    | [] => none
theorem zs_caload : zSnd (fun _ _ => .caload) 1 ztrue zo_caload := by
  intro p l e R s m args below meth c Q M ev X n0 ad0 cx x pc L stk G cu su k r hd hf hs
  have hx := cx.1
  have hb := cx.2.1
  have hown := cx.2.2.2.1
  have hts := cx.2.2.2.2.1
  have hRm := cx.2.2.2.2.2.1
  have hbase := cx.2.2.2.2.2.2.1
  dsimp only [zo_caload] at hs
  cases stk with
  | nil => cases hs
  | cons i rest1 =>
  cases rest1 with
  | nil => cases hs
  | cons v rest =>
  have hi := (zc hs).1
  have hs := (zc hs).2
  simp only [Bool.and_eq_true] at hi
  obtain ⟨hi, hi2⟩ := hi
  have hi2 : i.2 < 2147483648 := by simpa using hi2
  have hv := (zc hs).1
  have hs := (zc hs).2
  have hvz : True := trivial
  obtain ⟨⟨kd, ci, vs⟩, hc0, hs⟩ := zat_cases hs
  have hc := (zc hs).1
  obtain ⟨u, hu, hs⟩ := zat_cases (zc hs).2
  have hpu := (zc hs).1
  have hs := (zc hs).2
  refine ⟨_, znx_eq hs, fun hgo => ?_⟩
  intro ad ca tys H locs ls hR
  have H1 := hgo ad ca tys H locs ls hR
  simp only [List.map_cons] at H1 ⊢
  rw [zV_3 hv, zV_0 hi]
  have hg := zW_get (ρ := zxr X) (ad := ad) (ca := ca) (b := zxb X) (td := zxt X) G 0 v.2 _ (zat_some hc0)
  rw [Nat.zero_add] at hg
  have hin := zin (zat_lt hu) hi2
  have hcl : (nI i.2).toNatClampNeg = i.2 := nI_clamp hi2
  have hgd : vs.getD i.2 (0, 0) = u := by rw [List.getD_eq_getElem?_getD, zat_some hu]; rfl
  have hk : kd = 4 := Nat.eq_of_beq_eq_true hc
  subst hk
  obtain ⟨t0, h0⟩ := hR.2.1.2.2.2.2 v.2 3 ci vs (zat_some hc0)
  rw [zV_I hpu, ← hgd, ← hcl] at H1
  exact va_cald hx hb hR.2.1.1 hR.2.1.2.1 v.2 t0 hg h0 hin hd H1
def zo_laload : zSem := fun x M ev st k => match st with
  | (pc, L, stk, G, cu, su) => match stk with
    | i :: rest1 => match rest1 with
      | v :: rest => cond (Nat.beq i.1 0 && Nat.blt i.2 2147483648) (cond (Nat.beq v.1 3) (zob (zat G v.2) fun c => cond (Nat.beq c.1 3) (zob (zat c.2.2 i.2) fun u => cond (zisJ u) (znx pc 1 L (u :: rest) G cu su k) none) none) none) none
      | [] => none
    | [] => none
theorem zs_laload : zSnd (fun _ _ => .laload) 1 ztrue zo_laload := by
  intro p l e R s m args below meth c Q M ev X n0 ad0 cx x pc L stk G cu su k r hd hf hs
  have hx := cx.1
  have hb := cx.2.1
  have hown := cx.2.2.2.1
  have hts := cx.2.2.2.2.1
  have hRm := cx.2.2.2.2.2.1
  have hbase := cx.2.2.2.2.2.2.1
  dsimp only [zo_laload] at hs
  cases stk with
  | nil => cases hs
  | cons i rest1 =>
  cases rest1 with
  | nil => cases hs
  | cons v rest =>
  have hi := (zc hs).1
  have hs := (zc hs).2
  simp only [Bool.and_eq_true] at hi
  obtain ⟨hi, hi2⟩ := hi
  have hi2 : i.2 < 2147483648 := by simpa using hi2
  have hv := (zc hs).1
  have hs := (zc hs).2
  have hvz : True := trivial
  obtain ⟨⟨kd, ci, vs⟩, hc0, hs⟩ := zat_cases hs
  have hc := (zc hs).1
  obtain ⟨u, hu, hs⟩ := zat_cases (zc hs).2
  have hpu := (zc hs).1
  have hs := (zc hs).2
  refine ⟨_, znx_eq hs, fun hgo => ?_⟩
  intro ad ca tys H locs ls hR
  have H1 := hgo ad ca tys H locs ls hR
  simp only [List.map_cons] at H1 ⊢
  rw [zV_3 hv, zV_0 hi]
  have hg := zW_get (ρ := zxr X) (ad := ad) (ca := ca) (b := zxb X) (td := zxt X) G 0 v.2 _ (zat_some hc0)
  rw [Nat.zero_add] at hg
  have hin := zin (zat_lt hu) hi2
  have hcl : (nI i.2).toNatClampNeg = i.2 := nI_clamp hi2
  have hgd : vs.getD i.2 (4, 0) = u := by rw [List.getD_eq_getElem?_getD, zat_some hu]; rfl
  have hk : kd = 3 := Nat.eq_of_beq_eq_true hc
  subst hk
  obtain ⟨t0, h0⟩ := hR.2.1.2.2.2.2 v.2 2 ci vs (zat_some hc0)
  rw [zV_J hpu, ← hgd, ← hcl] at H1
  exact va_lald hx hb hR.2.1.1 hR.2.1.2.1 v.2 t0 hg h0 hin hd H1
def zo_aaload : zSem := fun x M ev st k => match st with
  | (pc, L, stk, G, cu, su) => match stk with
    | i :: rest1 => match rest1 with
      | v :: rest => cond (Nat.beq i.1 0 && Nat.blt i.2 2147483648) (cond (Nat.beq v.1 3) (zob (zat G v.2) fun c => cond (Nat.ble 6 c.1) (zob (zat c.2.2 i.2) fun u => cond (zisR u) (znx pc 1 L (u :: rest) G cu su k) none) none) none) none
      | [] => none
    | [] => none
theorem zs_aaload : zSnd (fun _ _ => .aaload) 1 ztrue zo_aaload := by
  intro p l e R s m args below meth c Q M ev X n0 ad0 cx x pc L stk G cu su k r hd hf hs
  have hx := cx.1
  have hb := cx.2.1
  have hown := cx.2.2.2.1
  have hts := cx.2.2.2.2.1
  have hRm := cx.2.2.2.2.2.1
  have hbase := cx.2.2.2.2.2.2.1
  dsimp only [zo_aaload] at hs
  cases stk with
  | nil => cases hs
  | cons i rest1 =>
  cases rest1 with
  | nil => cases hs
  | cons v rest =>
  have hi := (zc hs).1
  have hs := (zc hs).2
  simp only [Bool.and_eq_true] at hi
  obtain ⟨hi, hi2⟩ := hi
  have hi2 : i.2 < 2147483648 := by simpa using hi2
  have hv := (zc hs).1
  have hs := (zc hs).2
  have hvz : True := trivial
  obtain ⟨⟨kd, ci, vs⟩, hc0, hs⟩ := zat_cases hs
  have hc := (zc hs).1
  obtain ⟨u, hu, hs⟩ := zat_cases (zc hs).2
  have hpu := (zc hs).1
  have hs := (zc hs).2
  refine ⟨_, znx_eq hs, fun hgo => ?_⟩
  intro ad ca tys H locs ls hR
  have H1 := hgo ad ca tys H locs ls hR
  simp only [List.map_cons] at H1 ⊢
  rw [zV_3 hv, zV_0 hi]
  have hg := zW_get (ρ := zxr X) (ad := ad) (ca := ca) (b := zxb X) (td := zxt X) G 0 v.2 _ (zat_some hc0)
  rw [Nat.zero_add] at hg
  have hin := zin (zat_lt hu) hi2
  have hcl : (nI i.2).toNatClampNeg = i.2 := nI_clamp hi2
  have hgd : vs.getD i.2 (2, 0) = u := by rw [List.getD_eq_getElem?_getD, zat_some hu]; rfl
  have hk : 6 ≤ kd := by simpa using hc
  obtain ⟨t, rfl⟩ : ∃ t, kd = Nat.succ (t + 5) := ⟨kd - 6, by omega⟩
  obtain ⟨t0, h0⟩ := hR.2.1.2.2.2.2 v.2 (t + 5) ci vs (zat_some hc0)
  rw [zV_R hpu, ← hgd, ← hcl] at H1
  have hE : zE (zxr X) ad ca (zxb X) (zxt X) v.2 (Nat.succ (t + 5), ci, vs) = .inl (ca v.2, vs.length, .inr (.inr (.inr (.inr (fun j => zR ad (zxb X) (zxt X) (vs.getD j (2, 0))))))) := rfl
  rw [hE] at hg
  have hlt : (nI i.2).toNatClampNeg < vs.length := by rw [hcl]; exact zat_lt hu
  have hrf : (zT (t + 5)).isReference = true ∧ zT (t + 5) ≠ .int := by
    match t with
    | 0 => exact ⟨rfl, fun h => by cases h⟩
    | 1 => exact ⟨rfl, fun h => by cases h⟩
    | 2 => exact ⟨rfl, fun h => by cases h⟩
    | 3 => exact ⟨rfl, fun h => by cases h⟩
    | t + 4 => exact ⟨rfl, fun h => by cases h⟩
  exact W.aald (v := va_rf (zR ad (zxb X) (zxt X) (vs.getD (nI i.2).toNatClampNeg (2, 0)))) (ty := zT (t + 5)) hx hb (hR.2.1.2.1 v.2 _ hg) ((hR.2.1.1.2 t0 _ h0).1 vs.length (fun j => va_rf (zR ad (zxb X) (zxt X) (vs.getD j (2, 0))))) hrf.1 (fun q => by cases q) (by show ¬ (nI i.2 < 0 ∨ (arrV _ _ _).slots.size ≤ _); rw [arrV_size]; exact hin) (by show (arrV _ _ _).slots[_]? = _; rw [arrV_read _ _ hlt]) rfl rfl hd H1
theorem zC_upd {ρ : Nat → Int32} {vs : List zAV} {i : Nat} {u : zAV} (h : i < vs.length) : (fun j => zI ρ ((vs.set i u).getD j (0, 0))) = upd (fun j => zI ρ (vs.getD j (0, 0))) i (zI ρ u) := by
  funext j
  show zI ρ ((vs.set i u).getD j (0, 0)) = if j = i then zI ρ u else zI ρ (vs.getD j (0, 0))
  rw [List.getD_eq_getElem?_getD, List.getD_eq_getElem?_getD, List.getElem?_set]
  by_cases hj : i = j
  · subst hj; rw [if_pos rfl, if_pos h, if_pos rfl]; rfl
  · rw [if_neg hj, if_neg (fun q => hj q.symm)]
theorem zC_updJ {vs : List zAV} {i : Nat} {u : zAV} (h : i < vs.length) : (fun j => zJ ((vs.set i u).getD j (4, 0))) = vp_updL (fun j => zJ (vs.getD j (4, 0))) i (zJ u) := by
  funext j
  show zJ ((vs.set i u).getD j (4, 0)) = if j = i then zJ u else zJ (vs.getD j (4, 0))
  rw [List.getD_eq_getElem?_getD, List.getD_eq_getElem?_getD, List.getElem?_set]
  by_cases hj : i = j
  · subst hj; rw [if_pos rfl, if_pos h, if_pos rfl]; rfl
  · rw [if_neg hj, if_neg (fun q => hj q.symm)]
theorem zC_updR {ad : Nat → Nat} {b td : Nat} {vs : List zAV} {i : Nat} {u : zAV} (h : i < vs.length) : (fun j => zR ad b td ((vs.set i u).getD j (2, 0))) = va_up (fun j => zR ad b td (vs.getD j (2, 0))) i (zR ad b td u) := by
  funext j
  show zR ad b td ((vs.set i u).getD j (2, 0)) = if j = i then zR ad b td u else zR ad b td (vs.getD j (2, 0))
  rw [List.getD_eq_getElem?_getD, List.getD_eq_getElem?_getD, List.getElem?_set]
  by_cases hj : i = j
  · subst hj; rw [if_pos rfl, if_pos h, if_pos rfl]; rfl
  · rw [if_neg hj, if_neg (fun q => hj q.symm)]
theorem zok_no3 {n : Nat} {v : zAV} (h : Nat.beq v.1 3 = false) : zok n v = true := by
  unfold zok
  rw [h]
  rfl
theorem zI_no3 {v : zAV} (h : zisI v = true) : Nat.beq v.1 3 = false := by
  obtain ⟨t, n⟩ := v
  simp only [zisI, Bool.or_eq_true] at h
  rcases h with h | h | h <;> rw [Nat.eq_of_beq_eq_true h] <;> rfl
theorem zJ_no3 {v : zAV} (h : zisJ v = true) : Nat.beq v.1 3 = false := by
  obtain ⟨t, n⟩ := v
  rw [Nat.eq_of_beq_eq_true h]
  rfl
def zisB (v : zAV) : Bool := Nat.beq v.1 0 && Nat.ble v.2 1
theorem zb_I {v : zAV} (h : zisB v = true) : zisI v = true := by
  simp only [zisB, Bool.and_eq_true] at h
  simp [zisI, h.1]
theorem zb_nar {ρ : Nat → Int32} {v : zAV} (h : zisB v = true) : vp_nar .boolean (zI ρ v) = zI ρ v := by
  simp only [zisB, Bool.and_eq_true] at h
  have h2 : v.2 ≤ 1 := by simpa using h.2
  rw [zI_0 h.1]
  rcases (show v.2 = 0 ∨ v.2 = 1 by omega) with e | e <;> rw [e] <;> decide
def zo_iastore : zSem := fun x M ev st k => match st with
  | (pc, L, stk, G, cu, su) => match stk with
    | u :: rest2 => match rest2 with
      | i :: rest1 => match rest1 with
        | v :: rest => cond (Nat.beq i.1 0 && (Nat.blt i.2 2147483648 && Nat.beq v.1 3)) (zob (zat G v.2) fun c => cond (Nat.beq c.1 1 && (Nat.blt i.2 c.2.2.length && zisI u)) (zset c.2.2 i.2 u fun vs => zset G v.2 (c.1, c.2.1, vs) fun G' => znx pc 1 L rest G' cu su k) none) none
        | [] => none
      | [] => none
    | [] => none
theorem zs_iastore : zSnd (fun _ _ => .iastore) 1 (ztrue) zo_iastore := by
  intro p l e R s m args below meth c Q M ev X n0 ad0 cx x pc L stk G cu su k r hd hf hs
  have hx := cx.1
  have hb := cx.2.1
  have hown := cx.2.2.2.1
  have hts := cx.2.2.2.2.1
  have hRm := cx.2.2.2.2.2.1
  have hbase := cx.2.2.2.2.2.2.1
  dsimp only [zo_iastore] at hs
  cases stk with
  | nil => cases hs
  | cons u rest2 =>
  cases rest2 with
  | nil => cases hs
  | cons i rest1 =>
  cases rest1 with
  | nil => cases hs
  | cons v rest =>
  have hi := (zc hs).1
  obtain ⟨⟨kd, ci, vs⟩, hc0, hs⟩ := zat_cases (zc hs).2
  simp only [Bool.and_eq_true] at hi
  obtain ⟨hi, hi2, hv⟩ := hi
  have hi2 : i.2 < 2147483648 := by simpa using hi2
  have hc := (zc hs).1
  have hs := (zc hs).2
  rw [zset_eq, zset_eq] at hs
  simp only [Bool.and_eq_true] at hc
  obtain ⟨hk, hlen, hu⟩ := hc
  have hlen : i.2 < vs.length := by simpa using hlen
  refine ⟨_, znx_eq hs, fun hgo => ?_⟩
  intro ad ca tys H locs ls hR
  simp only [List.map_cons]
  have hg := zW_get (ρ := zxr X) (ad := ad) (ca := ca) (b := zxb X) (td := zxt X) G 0 v.2 _ (zat_some hc0)
  rw [Nat.zero_add] at hg
  have hin := zin hlen hi2
  have hcl : (nI i.2).toNatClampNeg = i.2 := nI_clamp hi2
  have hall : zok G.length u = true → ∀ v' ∈ vs.set i.2 u, zok G.length v' = true := fun h0 v' hv' => by
    rcases List.mem_or_eq_of_mem_set hv' with h2 | h2
    · exact hR.2.1.2.2.2.1 _ (List.mem_of_getElem? (zat_some hc0)) v' h2
    · rw [h2]; exact h0
  have hk : kd = 1 := Nat.eq_of_beq_eq_true hk
  subst hk
  obtain ⟨t0, h0⟩ := hR.2.1.2.2.2.2 v.2 0 ci vs (zat_some hc0)
  rw [zV_3 hv, zV_0 hi, zV_I hu]
  refine va_iast hx hb hR.2.1.1 hR.2.1.2.1 hR.2.1.2.2.1 hR.2.2.1 v.2 t0 hg h0 hin hd (fun H1 locs1 hP1 hD1 hS1 => ?_)
  refine hgo ad ca tys H1 locs1 ls ⟨hR.1, ?_, hS1, by rw [List.length_set]; exact hR.2.2.2.1, hR.2.2.2.2⟩
  rw [hcl, ← zC_upd hlen] at hP1 hD1
  have e : (Sum.inl (ca v.2, vs.length, Sum.inl fun j => zI (zxr X) ((vs.set i.2 u).getD j (0, 0))) : va_E) = zE (zxr X) ad ca (zxb X) (zxt X) v.2 (1, ci, vs.set i.2 u) := by
    show _ = Sum.inl (ca v.2, (vs.set i.2 u).length, _)
    rw [List.length_set]
    try rfl
  rw [e] at hP1 hD1
  exact zHp_set hR.2.1 hc0 rfl (hall (zok_no3 (zI_no3 hu))) hP1 hD1
def zo_zastore : zSem := fun x M ev st k => match st with
  | (pc, L, stk, G, cu, su) => match stk with
    | u :: rest2 => match rest2 with
      | i :: rest1 => match rest1 with
        | v :: rest => cond (Nat.beq i.1 0 && (Nat.blt i.2 2147483648 && Nat.beq v.1 3)) (zob (zat G v.2) fun c => cond (Nat.beq c.1 2 && (Nat.blt i.2 c.2.2.length && zisB u)) (zset c.2.2 i.2 u fun vs => zset G v.2 (c.1, c.2.1, vs) fun G' => znx pc 1 L rest G' cu su k) none) none
        | [] => none
      | [] => none
    | [] => none
theorem zs_zastore : zSnd (fun _ _ => .bastore) 1 (ztrue) zo_zastore := by
  intro p l e R s m args below meth c Q M ev X n0 ad0 cx x pc L stk G cu su k r hd hf hs
  have hx := cx.1
  have hb := cx.2.1
  have hown := cx.2.2.2.1
  have hts := cx.2.2.2.2.1
  have hRm := cx.2.2.2.2.2.1
  have hbase := cx.2.2.2.2.2.2.1
  dsimp only [zo_zastore] at hs
  cases stk with
  | nil => cases hs
  | cons u rest2 =>
  cases rest2 with
  | nil => cases hs
  | cons i rest1 =>
  cases rest1 with
  | nil => cases hs
  | cons v rest =>
  have hi := (zc hs).1
  obtain ⟨⟨kd, ci, vs⟩, hc0, hs⟩ := zat_cases (zc hs).2
  simp only [Bool.and_eq_true] at hi
  obtain ⟨hi, hi2, hv⟩ := hi
  have hi2 : i.2 < 2147483648 := by simpa using hi2
  have hc := (zc hs).1
  have hs := (zc hs).2
  rw [zset_eq, zset_eq] at hs
  simp only [Bool.and_eq_true] at hc
  obtain ⟨hk, hlen, hu⟩ := hc
  have hlen : i.2 < vs.length := by simpa using hlen
  refine ⟨_, znx_eq hs, fun hgo => ?_⟩
  intro ad ca tys H locs ls hR
  simp only [List.map_cons]
  have hg := zW_get (ρ := zxr X) (ad := ad) (ca := ca) (b := zxb X) (td := zxt X) G 0 v.2 _ (zat_some hc0)
  rw [Nat.zero_add] at hg
  have hin := zin hlen hi2
  have hcl : (nI i.2).toNatClampNeg = i.2 := nI_clamp hi2
  have hall : zok G.length u = true → ∀ v' ∈ vs.set i.2 u, zok G.length v' = true := fun h0 v' hv' => by
    rcases List.mem_or_eq_of_mem_set hv' with h2 | h2
    · exact hR.2.1.2.2.2.1 _ (List.mem_of_getElem? (zat_some hc0)) v' h2
    · rw [h2]; exact h0
  have hk : kd = 2 := Nat.eq_of_beq_eq_true hk
  subst hk
  obtain ⟨t0, h0⟩ := hR.2.1.2.2.2.2 v.2 1 ci vs (zat_some hc0)
  rw [zV_3 hv, zV_0 hi, zV_I (zb_I hu)]
  refine va_zast hx hb hR.2.1.1 hR.2.1.2.1 hR.2.1.2.2.1 hR.2.2.1 v.2 t0 hg h0 hin hd (fun H1 locs1 hP1 hD1 hS1 => ?_)
  refine hgo ad ca tys H1 locs1 ls ⟨hR.1, ?_, hS1, by rw [List.length_set]; exact hR.2.2.2.1, hR.2.2.2.2⟩
  rw [hcl, zb_nar hu, ← zC_upd hlen] at hP1 hD1
  have e : (Sum.inl (ca v.2, vs.length, Sum.inl fun j => zI (zxr X) ((vs.set i.2 u).getD j (0, 0))) : va_E) = zE (zxr X) ad ca (zxb X) (zxt X) v.2 (2, ci, vs.set i.2 u) := by
    show _ = Sum.inl (ca v.2, (vs.set i.2 u).length, _)
    rw [List.length_set]
    try rfl
  rw [e] at hP1 hD1
  exact zHp_set hR.2.1 hc0 rfl (hall (zok_no3 (zI_no3 (zb_I hu)))) hP1 hD1
def zo_lastore : zSem := fun x M ev st k => match st with
  | (pc, L, stk, G, cu, su) => match stk with
    | u :: rest2 => match rest2 with
      | i :: rest1 => match rest1 with
        | v :: rest => cond (Nat.beq i.1 0 && (Nat.blt i.2 2147483648 && Nat.beq v.1 3)) (zob (zat G v.2) fun c => cond (Nat.beq c.1 3 && (Nat.blt i.2 c.2.2.length && zisJ u)) (zset c.2.2 i.2 u fun vs => zset G v.2 (c.1, c.2.1, vs) fun G' => znx pc 1 L rest G' cu su k) none) none
        | [] => none
      | [] => none
    | [] => none
theorem zs_lastore : zSnd (fun _ _ => .lastore) 1 (ztrue) zo_lastore := by
  intro p l e R s m args below meth c Q M ev X n0 ad0 cx x pc L stk G cu su k r hd hf hs
  have hx := cx.1
  have hb := cx.2.1
  have hown := cx.2.2.2.1
  have hts := cx.2.2.2.2.1
  have hRm := cx.2.2.2.2.2.1
  have hbase := cx.2.2.2.2.2.2.1
  dsimp only [zo_lastore] at hs
  cases stk with
  | nil => cases hs
  | cons u rest2 =>
  cases rest2 with
  | nil => cases hs
  | cons i rest1 =>
  cases rest1 with
  | nil => cases hs
  | cons v rest =>
  have hi := (zc hs).1
  obtain ⟨⟨kd, ci, vs⟩, hc0, hs⟩ := zat_cases (zc hs).2
  simp only [Bool.and_eq_true] at hi
  obtain ⟨hi, hi2, hv⟩ := hi
  have hi2 : i.2 < 2147483648 := by simpa using hi2
  have hc := (zc hs).1
  have hs := (zc hs).2
  rw [zset_eq, zset_eq] at hs
  simp only [Bool.and_eq_true] at hc
  obtain ⟨hk, hlen, hu⟩ := hc
  have hlen : i.2 < vs.length := by simpa using hlen
  refine ⟨_, znx_eq hs, fun hgo => ?_⟩
  intro ad ca tys H locs ls hR
  simp only [List.map_cons]
  have hg := zW_get (ρ := zxr X) (ad := ad) (ca := ca) (b := zxb X) (td := zxt X) G 0 v.2 _ (zat_some hc0)
  rw [Nat.zero_add] at hg
  have hin := zin hlen hi2
  have hcl : (nI i.2).toNatClampNeg = i.2 := nI_clamp hi2
  have hall : zok G.length u = true → ∀ v' ∈ vs.set i.2 u, zok G.length v' = true := fun h0 v' hv' => by
    rcases List.mem_or_eq_of_mem_set hv' with h2 | h2
    · exact hR.2.1.2.2.2.1 _ (List.mem_of_getElem? (zat_some hc0)) v' h2
    · rw [h2]; exact h0
  have hk : kd = 3 := Nat.eq_of_beq_eq_true hk
  subst hk
  obtain ⟨t0, h0⟩ := hR.2.1.2.2.2.2 v.2 2 ci vs (zat_some hc0)
  rw [zV_3 hv, zV_0 hi, zV_J hu]
  refine va_last hx hb hR.2.1.1 hR.2.1.2.1 hR.2.1.2.2.1 hR.2.2.1 v.2 t0 hg h0 hin hd (fun H1 locs1 hP1 hD1 hS1 => ?_)
  refine hgo ad ca tys H1 locs1 ls ⟨hR.1, ?_, hS1, by rw [List.length_set]; exact hR.2.2.2.1, hR.2.2.2.2⟩
  rw [hcl, ← zC_updJ hlen] at hP1 hD1
  have e : (Sum.inl (ca v.2, vs.length, Sum.inr (Sum.inl fun j => zJ ((vs.set i.2 u).getD j (4, 0)))) : va_E) = zE (zxr X) ad ca (zxb X) (zxt X) v.2 (3, ci, vs.set i.2 u) := by
    show _ = Sum.inl (ca v.2, (vs.set i.2 u).length, _)
    rw [List.length_set]
    try rfl
  rw [e] at hP1 hD1
  exact zHp_set hR.2.1 hc0 rfl (hall (zok_no3 (zJ_no3 hu))) hP1 hD1
def zo_aastV : zSem := fun x M ev st k => match st with
  | (pc, L, stk, G, cu, su) => match stk with
    | u :: rest2 => match rest2 with
      | i :: rest1 => match rest1 with
        | v :: rest => cond (Nat.beq i.1 0 && (Nat.blt i.2 2147483648 && Nat.beq v.1 3)) (zob (zat G v.2) fun c => cond (Nat.beq c.1 9 && (Nat.blt i.2 c.2.2.length && (Nat.beq u.1 3 && (match zat G u.2 with | some c1 => Nat.beq c1.1 0 && Nat.beq c1.2.1 (zx x 0) | none => false)))) (zset c.2.2 i.2 u fun vs => zset G v.2 (c.1, c.2.1, vs) fun G' => znx pc 1 L rest G' cu su k) none) none
        | [] => none
      | [] => none
    | [] => none
theorem zs_aastV : zSnd (fun _ _ => .aastore) 1 (fun _ x => match zat vwCl (zx x 0) with | some q => decide (q.1 = "FormRiverModel$Version") | none => false) zo_aastV := by
  intro p l e R s m args below meth c Q M ev X n0 ad0 cx x pc L stk G cu su k r hd hf hs
  have hx := cx.1
  have hb := cx.2.1
  have hown := cx.2.2.2.1
  have hts := cx.2.2.2.2.1
  have hRm := cx.2.2.2.2.2.1
  have hbase := cx.2.2.2.2.2.2.1
  dsimp only [zo_aastV] at hs
  cases stk with
  | nil => cases hs
  | cons u rest2 =>
  cases rest2 with
  | nil => cases hs
  | cons i rest1 =>
  cases rest1 with
  | nil => cases hs
  | cons v rest =>
  have hi := (zc hs).1
  obtain ⟨⟨kd, ci, vs⟩, hc0, hs⟩ := zat_cases (zc hs).2
  simp only [Bool.and_eq_true] at hi
  obtain ⟨hi, hi2, hv⟩ := hi
  have hi2 : i.2 < 2147483648 := by simpa using hi2
  have hc := (zc hs).1
  have hs := (zc hs).2
  rw [zset_eq, zset_eq] at hs
  simp only [Bool.and_eq_true] at hc
  obtain ⟨hk, hlen, hu⟩ := hc
  have hlen : i.2 < vs.length := by simpa using hlen
  refine ⟨_, znx_eq hs, fun hgo => ?_⟩
  intro ad ca tys H locs ls hR
  simp only [List.map_cons]
  have hg := zW_get (ρ := zxr X) (ad := ad) (ca := ca) (b := zxb X) (td := zxt X) G 0 v.2 _ (zat_some hc0)
  rw [Nat.zero_add] at hg
  have hin := zin hlen hi2
  have hcl : (nI i.2).toNatClampNeg = i.2 := nI_clamp hi2
  have hall : zok G.length u = true → ∀ v' ∈ vs.set i.2 u, zok G.length v' = true := fun h0 v' hv' => by
    rcases List.mem_or_eq_of_mem_set hv' with h2 | h2
    · exact hR.2.1.2.2.2.1 _ (List.mem_of_getElem? (zat_some hc0)) v' h2
    · rw [h2]; exact h0
  have hk : kd = Nat.succ 8 := Nat.eq_of_beq_eq_true hk
  subst hk
  obtain ⟨hu3, hu⟩ := hu
  obtain ⟨t0, h0⟩ := hR.2.1.2.2.2.2 v.2 8 ci vs (zat_some hc0)
  cases hc1 : zat G u.2 with
  | none => rw [hc1] at hu; cases hu
  | some c1 =>
  rw [hc1] at hu
  have hcc := zcell0 hu
  dsimp only at hf
  cases hq : zat vwCl (zx x 0) with
  | none => rw [hq] at hf; cases hf
  | some q =>
  rw [hq] at hf
  have hqn : q.1 = "FormRiverModel$Version" := of_decide_eq_true hf
  have h0 : tys[t0]? = some (ca v.2, .object q.1) := by rw [hqn]; exact h0
  have hg1 := zW_get (ρ := zxr X) (ad := ad) (ca := ca) (b := zxb X) (td := zxt X) G 0 u.2 c1 (zat_some hc1)
  rw [Nat.zero_add, hcc] at hg1
  rw [zV_3 hv, zV_0 hi, zV_3 hu3]
  refine va_astq (r := q) hx hb hR.2.1.1 hR.2.1.2.1 hR.2.1.2.2.1 hR.2.2.1 v.2 t0 u.2 (zx x 0) hg h0 hg1 (zat_some hq) hin hd (fun H1 locs1 hP1 hD1 hS1 => ?_)
  refine hgo ad ca tys H1 locs1 ls ⟨hR.1, ?_, hS1, by rw [List.length_set]; exact hR.2.2.2.1, hR.2.2.2.2⟩
  have hzr : zR ad (zxb X) (zxt X) u = some (ad u.2) := by
    obtain ⟨ut, un⟩ := u
    cases Nat.eq_of_beq_eq_true hu3
    rfl
  have hup := zC_updR (ad := ad) (b := zxb X) (td := zxt X) (u := u) hlen
  rw [hzr] at hup
  rw [hcl] at hP1 hD1
  rw [← hup] at hP1 hD1
  have e : (Sum.inl (ca v.2, vs.length, Sum.inr (Sum.inr (Sum.inr (Sum.inr fun j => zR ad (zxb X) (zxt X) ((vs.set i.2 u).getD j (2, 0)))))) : va_E) = zE (zxr X) ad ca (zxb X) (zxt X) v.2 (Nat.succ 8, ci, vs.set i.2 u) := by
    show _ = Sum.inl (ca v.2, (vs.set i.2 u).length, _)
    rw [List.length_set]
    try rfl
  rw [e] at hP1 hD1
  refine zHp_set hR.2.1 hc0 rfl (hall ?_) hP1 hD1
  have hlt := zat_lt hc1
  simp [zok, hlt]
def zo_aastO : zSem := fun x M ev st k => match st with
  | (pc, L, stk, G, cu, su) => match stk with
    | u :: rest2 => match rest2 with
      | i :: rest1 => match rest1 with
        | v :: rest => cond (Nat.beq i.1 0 && (Nat.blt i.2 2147483648 && Nat.beq v.1 3)) (zob (zat G v.2) fun c => cond (Nat.beq c.1 6 && (Nat.blt i.2 c.2.2.length && (Nat.beq u.1 3 && (match zat G u.2 with | some c1 => Nat.beq c1.1 0 && x.any (fun ci => Nat.beq c1.2.1 ci) | none => false)))) (zset c.2.2 i.2 u fun vs => zset G v.2 (c.1, c.2.1, vs) fun G' => znx pc 1 L rest G' cu su k) none) none
        | [] => none
      | [] => none
    | [] => none
theorem zs_aastO : zSnd (fun _ _ => .aastore) 1 (fun _ x => x.all fun ci => match zat vwCl ci with | some q => decide (Cond.castable q.1 "java/lang/Object" ∈ zNws) | none => false) zo_aastO := by
  intro p l e R s m args below meth c Q M ev X n0 ad0 cx x pc L stk G cu su k r hd hf hs
  have hx := cx.1
  have hb := cx.2.1
  have hown := cx.2.2.2.1
  have hts := cx.2.2.2.2.1
  have hRm := cx.2.2.2.2.2.1
  have hbase := cx.2.2.2.2.2.2.1
  dsimp only [zo_aastO] at hs
  cases stk with
  | nil => cases hs
  | cons u rest2 =>
  cases rest2 with
  | nil => cases hs
  | cons i rest1 =>
  cases rest1 with
  | nil => cases hs
  | cons v rest =>
  have hi := (zc hs).1
  obtain ⟨⟨kd, ci, vs⟩, hc0, hs⟩ := zat_cases (zc hs).2
  simp only [Bool.and_eq_true] at hi
  obtain ⟨hi, hi2, hv⟩ := hi
  have hi2 : i.2 < 2147483648 := by simpa using hi2
  have hc := (zc hs).1
  have hs := (zc hs).2
  rw [zset_eq, zset_eq] at hs
  simp only [Bool.and_eq_true] at hc
  obtain ⟨hk, hlen, hu⟩ := hc
  have hlen : i.2 < vs.length := by simpa using hlen
  refine ⟨_, znx_eq hs, fun hgo => ?_⟩
  intro ad ca tys H locs ls hR
  simp only [List.map_cons]
  have hg := zW_get (ρ := zxr X) (ad := ad) (ca := ca) (b := zxb X) (td := zxt X) G 0 v.2 _ (zat_some hc0)
  rw [Nat.zero_add] at hg
  have hin := zin hlen hi2
  have hcl : (nI i.2).toNatClampNeg = i.2 := nI_clamp hi2
  have hall : zok G.length u = true → ∀ v' ∈ vs.set i.2 u, zok G.length v' = true := fun h0 v' hv' => by
    rcases List.mem_or_eq_of_mem_set hv' with h2 | h2
    · exact hR.2.1.2.2.2.1 _ (List.mem_of_getElem? (zat_some hc0)) v' h2
    · rw [h2]; exact h0
  have hk : kd = Nat.succ 5 := Nat.eq_of_beq_eq_true hk
  subst hk
  obtain ⟨hu3, hu⟩ := hu
  obtain ⟨t0, h0⟩ := hR.2.1.2.2.2.2 v.2 5 ci vs (zat_some hc0)
  cases hc1 : zat G u.2 with
  | none => rw [hc1] at hu; cases hu
  | some c1 =>
  rw [hc1] at hu
  simp only [Bool.and_eq_true] at hu
  obtain ⟨hu0, hua⟩ := hu
  have hcc := zcell0 (c := c1) (ci := c1.2.1) (by simp only [Bool.and_eq_true]; exact ⟨hu0, Nat.beq_refl _⟩)
  obtain ⟨ci1, hci, hcb⟩ := List.any_eq_true.mp hua
  have hci1 : c1.2.1 = ci1 := Nat.eq_of_beq_eq_true hcb
  have hf := List.all_eq_true.mp hf ci1 hci
  rw [← hci1] at hf
  cases hq : zat vwCl (c1.2.1) with
  | none => rw [hq] at hf; cases hf
  | some q =>
  rw [hq] at hf
  have hca : va_Nw (.castable q.1 "java/lang/Object") s := cx.2.2.2.2.2.2.2.2.2.2.2.2.1.1 _ (of_decide_eq_true hf)
  have hg1 := zW_get (ρ := zxr X) (ad := ad) (ca := ca) (b := zxb X) (td := zxt X) G 0 u.2 c1 (zat_some hc1)
  rw [Nat.zero_add, hcc] at hg1
  rw [zV_3 hv, zV_0 hi, zV_3 hu3]
  refine va_astqO (r := q) hx hb hR.2.1.1 hR.2.1.2.1 hR.2.1.2.2.1 hR.2.2.1 v.2 t0 u.2 c1.2.1 hg h0 hca hg1 (zat_some hq) hin hd (fun H1 locs1 hP1 hD1 hS1 => ?_)
  refine hgo ad ca tys H1 locs1 ls ⟨hR.1, ?_, hS1, by rw [List.length_set]; exact hR.2.2.2.1, hR.2.2.2.2⟩
  have hzr : zR ad (zxb X) (zxt X) u = some (ad u.2) := by
    obtain ⟨ut, un⟩ := u
    cases Nat.eq_of_beq_eq_true hu3
    rfl
  have hup := zC_updR (ad := ad) (b := zxb X) (td := zxt X) (u := u) hlen
  rw [hzr] at hup
  rw [hcl] at hP1 hD1
  rw [← hup] at hP1 hD1
  have e : (Sum.inl (ca v.2, vs.length, Sum.inr (Sum.inr (Sum.inr (Sum.inr fun j => zR ad (zxb X) (zxt X) ((vs.set i.2 u).getD j (2, 0)))))) : va_E) = zE (zxr X) ad ca (zxb X) (zxt X) v.2 (Nat.succ 5, ci, vs.set i.2 u) := by
    show _ = Sum.inl (ca v.2, (vs.set i.2 u).length, _)
    rw [List.length_set]
    try rfl
  rw [e] at hP1 hD1
  refine zHp_set hR.2.1 hc0 rfl (hall ?_) hP1 hD1
  have hlt := zat_lt hc1
  simp [zok, hlt]
def zo_gets : zSem := fun x M ev st k => match st with
  | (pc, L, stk, G, cu, su) => znx pc 3 L ((10, 0) :: stk) G cu su k
theorem zs_gets : zSnd (fun _ x => .getstatic (zx x 0)) 3 (fun M x => hasW (zx x 1) (.fieldLink (zm_y M).cls (zx x 0) "java/util/ArrayList" "DEFAULTCAPACITY_EMPTY_ELEMENTDATA" "[Ljava/lang/Object;")) zo_gets := by
  intro p l e R s m args below meth c Q M ev X n0 ad0 cx x pc L stk G cu su k r hd hf hs
  have hx := cx.1
  have hb := cx.2.1
  have hown := cx.2.2.2.1
  have hts := cx.2.2.2.2.1
  have hRm := cx.2.2.2.2.2.1
  have hbase := cx.2.2.2.2.2.2.1
  dsimp only [zo_gets] at hs
  refine ⟨_, znx_eq hs, fun hgo => ?_⟩
  intro ad ca tys H locs ls hR
  exact va_gets hx hb cx.2.2.2.2.2.2.2.2.2.2.1.2.2.1 hR.2.2.1 hown (zw (M := M) hts hf) (fun _ h => h) hd (hgo ad ca tys H locs ls hR)
def zcats (l : List zAV) : Nat := (l.map zcat).sum
theorem zcats_eq {ρ : Nat → Int32} {ad : Nat → Nat} {b td : Nat} (l : List zAV) : ((l.map (zV ρ ad b td)).map fun v => v.category).sum = zcats l := by
  unfold zcats
  rw [List.map_map]
  congr 1
  apply List.map_congr_left
  intro v _
  exact zV_cat v
def zo_objI : zSem := fun x M ev st k => match st with
  | (pc, L, stk, G, cu, su) => match stk with
    | v :: rest => cond (Nat.beq v.1 3 && (Nat.ble 1 (zm_rm M).1 && Nat.ble (zcats rest + 12) (zm_rm M).2.2.2)) (znx pc 3 L rest G cu su k) none
    | [] => none
theorem zs_objI : zSnd (fun _ x => .invokespecial (zx x 0)) 3 (fun M x => hasW (zx x 1) (.methodLink (zm_y M).cls (zx x 0) Lib.objectInit) && (hasW (zx x 2) (.instanceMethod Lib.objectInit) && hasW (zx x 3) (.code Lib.objectInit ⟨#[0xb1]⟩ 1 none))) zo_objI := by
  intro p l e R s m args below meth c Q M ev X n0 ad0 cx x pc L stk G cu su k r hd hf hs
  have hx := cx.1
  have hb := cx.2.1
  have hown := cx.2.2.2.1
  have hts := cx.2.2.2.2.1
  have hRm := cx.2.2.2.2.2.1
  have hbase := cx.2.2.2.2.2.2.1
  dsimp only [zo_objI] at hs
  cases stk with
  | nil => cases hs
  | cons v rest =>
  have hc := (zc hs).1
  have hs := (zc hs).2
  simp only [Bool.and_eq_true] at hc hf
  obtain ⟨hv, hfr, hlo⟩ := hc
  obtain ⟨hf1, hf2, hf3⟩ := hf
  refine ⟨_, znx_eq hs, fun hgo => ?_⟩
  intro ad ca tys H locs ls hR
  have H1 := hgo ad ca tys H locs ls hR
  subst hRm
  simp only [List.map_cons]
  rw [zV_3 hv]
  exact W.objInit hx hb hown (zw (M := M) hts hf1) (zw (M := M) hts hf2) (zw (M := M) hts hf3) (g := F0 m pc ls _) rfl (by show ls.size = _; rw [cx.2.2.1]; exact hR.1.1) rfl hd (show 1 ≤ (zm_rm M).1 by simpa using hfr) (by
    show 2 * 0 + _ + 12 ≤ (zm_rm M).2.2.2
    rw [zcats_eq]
    have : zcats rest + 12 ≤ (zm_rm M).2.2.2 := by simpa using hlo
    omega) H1
end
section
/-! new T[n][m]; Math.max; the law's switch -/
def zrowsN (n : Nat) : Nat → List zAV
  | 0 => []
  | Nat.succ k => (3, n) :: zrowsN (n + 1) k
theorem zrowsN_eq : ∀ (k n : Nat), zrowsN n k = (List.range k).map fun i => ((3, n + i) : zAV)
  | 0, n => rfl
  | k + 1, n => by
    rw [List.range_succ_eq_map, List.map_cons, List.map_map]
    show (3, n) :: zrowsN (n + 1) k = _
    rw [zrowsN_eq k (n + 1)]
    congr 1
    apply List.map_congr_left
    intro i _
    show (3, n + 1 + i) = (3, n + (i + 1))
    rw [show n + 1 + i = n + (i + 1) by omega]
theorem zAOA {U : State} (h : zAO U) : va_AOA .int U ∧ va_AOA (.object "FormRiverModel$Version") U := ⟨h.1 (.arrayOver (.array .int)) (by decide +kernel), h.1 (.arrayOver (.array (.object "FormRiverModel$Version"))) (by decide +kernel)⟩
/-- the class of the rows -/
theorem zrowK {D : va_G} {cl : List vw_C} {tys : List (ClassId × FieldType)} {s : State} {args : Array Value} {ty : FieldType} (hK : va_K D cl tys s) (h : (Cond.arrayClass ty).before args s = true) (h2 : ∀ C, ty = .object C → va_AO C s) : ∃ cy : ClassId, s.vm.findClass (FieldType.array ty).toString = some cy ∧ va_K D cl (tys ++ [(cy, ty)]) s := by
  obtain ⟨cy, k, comp, h1, h3, h4⟩ := Cond.arrayClass_spec h
  refine ⟨cy, h1, hK.app ⟨hK.1, ?_⟩⟩
  intro j q hj
  have hj0 : j = 0 := by
    have := (List.getElem?_eq_some_iff.mp hj).1
    simpa using this
  subst hj0
  have hq : (cy, ty) = q := by simpa using hj
  subst hq
  refine ⟨fun n z => ⟨(fun z0 h => by cases h), k, h3, comp, h4⟩, ?_⟩
  cases ty with
  | object C =>
    obtain ⟨comp2, c2, k2, e1, e2, e3, e4, e5⟩ := Cond.arrayOver_spec (h2 C rfl)
    cases h1.symm.trans e5
    exact ⟨k2, comp2, e3, e4, e1, e5⟩
  | _ => exact h1
theorem zarrC {C : String} {s : State} {args : Array Value} (h : va_AO C s) : (Cond.arrayClass (.object C)).before args s = true := by
  obtain ⟨comp2, c2, k2, e1, e2, e3, e4, e5⟩ := Cond.arrayOver_spec h
  unfold Cond.before Cond.holds
  simp only [Cond.value]
  rw [e5]
  simp [e3, e4]
def zo_mna : zSem := fun x M ev st k => match st with
  | (pc, L, stk, G, cu, su) => match stk with
    | v2 :: rest1 => match rest1 with
      | v1 :: rest => cond (Nat.beq v1.1 0 && (Nat.beq v2.1 0 && (Nat.ble v1.2 65536 && (Nat.ble v2.2 65536 && (Nat.ble (cu + (1 + v1.2)) (zm_rm M).2.1 && (Nat.ble (su + (v1.2 + v1.2 * v2.2)) (zm_rm M).2.2.1 && (zokL G.length L && zokA G.length rest))))))) (zN G.length fun n => zapp G ((Nat.succ (zx x 1), 0, zrowsN (n + 1) v1.2) :: List.replicate v1.2 (Nat.succ (zx x 2), 0, List.replicate v2.2 (zadf (zx x 2)))) fun G' => zN (cu + 1 + v1.2) fun cu' => zN (su + v1.2 + v1.2 * v2.2) fun su' => znx pc 4 L ((3, n) :: rest) G' cu' su' k) none
      | [] => none
    | [] => none
def zmna_ok (x : List Nat) : Bool := (Nat.beq (zx x 1) 6 && Nat.beq (zx x 2) 0) || (Nat.beq (zx x 1) 7 && Nat.beq (zx x 2) 8)
theorem zmna_ty {x : List Nat} (h : zmna_ok x = true) : zT (zx x 1) = .array (zT (zx x 2)) ∧ 5 ≤ zx x 1 ∧ ((zT (zx x 2) = .int) ∨ zT (zx x 2) = .object "FormRiverModel$Version") := by
  simp only [zmna_ok, Bool.or_eq_true, Bool.and_eq_true] at h
  rcases h with ⟨h1, h2⟩ | ⟨h1, h2⟩ <;> rw [Nat.eq_of_beq_eq_true h1, Nat.eq_of_beq_eq_true h2]
  · exact ⟨rfl, by omega, Or.inl rfl⟩
  · exact ⟨rfl, by omega, Or.inr rfl⟩
theorem zW_rep {ρ : Nat → Int32} {ad : Nat → Nat} {ca : Nat → ClassId} {b td : Nat} {c : zCell} {cy : ClassId} {e : va_E} : ∀ (n p : Nat), (∀ i, i < n → zE ρ ad ca b td (p + i) c = e) → zW ρ ad ca b td p (List.replicate n c) = (List.range n).map fun i => (ad (p + i), e)
  | 0, p, _ => rfl
  | n + 1, p, h => by
    rw [List.replicate_succ, List.range_succ_eq_map, List.map_cons, List.map_map]
    show (ad p, zE ρ ad ca b td p c) :: zW ρ ad ca b td (p + 1) (List.replicate n c) = _
    rw [zW_rep (cy := cy) n (p + 1) (fun i hi => by have := h (i + 1) (by omega); rwa [show p + (i + 1) = p + 1 + i by omega] at this)]
    have h0 := h 0 (by omega)
    rw [Nat.add_zero] at h0
    rw [h0, Nat.add_zero]
    congr 1
    apply List.map_congr_left
    intro i _
    show (ad (p + 1 + i), e) = (ad (p + (i + 1)), e)
    rw [show p + 1 + i = p + (i + 1) by omega]
theorem zs_mna : zSnd (fun _ x => .multianewarray (zx x 0) 2) 4 (fun M x => zmna_ok x && (hasW (zx x 3) (.classLink (zm_y M).cls (zx x 0) ("[" ++ (FieldType.array (zT (zx x 2))).toString)) && (Nat.beq (zx x 2) 8 || hasW (zx x 4) (.arrayClass .int)))) zo_mna := by
  intro p l e R s m args below meth c Q M ev X n0 ad0 cx x pc L stk G cu su k r hd hf hs
  have hx := cx.1
  have hb := cx.2.1
  have hown := cx.2.2.2.1
  have hts := cx.2.2.2.2.1
  have hRm := cx.2.2.2.2.2.1
  have hbase := cx.2.2.2.2.2.2.1
  dsimp only [zo_mna] at hs
  cases stk with
  | nil => cases hs
  | cons v2 rest1 =>
  cases rest1 with
  | nil => cases hs
  | cons v1 rest =>
  have hc := (zc hs).1
  have hs := (zc hs).2
  simp only [zN_eq, zapp_eq] at hs
  simp only [Bool.and_eq_true] at hc hf
  obtain ⟨hv1, hv2, hn1, hn2, hc1, hc2, hc3, hc4⟩ := hc
  obtain ⟨hm, hf1, hf2⟩ := hf
  obtain ⟨hty, hx5, hel⟩ := zmna_ty hm
  have hn1 : v1.2 ≤ 65536 := by simpa using hn1
  have hn2 : v2.2 ≤ 65536 := by simpa using hn2
  have hcb := zcb (zx x 2)
  have hAO := cx.2.2.2.2.2.2.2.2.2.2.2.2.1
  have hov : va_AOA (zT (zx x 2)) s := by
    rcases hel with h | h <;> rw [h]
    · exact (zAOA hAO).1
    · exact (zAOA hAO).2
  have hAOV : va_AO "FormRiverModel$Version" s := hAO.1 (.arrayOver (.object "FormRiverModel$Version")) (by decide +kernel)
  have harr : (Cond.arrayClass (zT (zx x 2))).before args s = true := by
    rcases hel with h | h
    · rw [h]
      have h8 : Nat.beq (zx x 2) 8 = false := by
        cases hq : Nat.beq (zx x 2) 8 with
        | true => rw [Nat.eq_of_beq_eq_true hq] at h; cases h
        | false => rfl
      rw [h8, Bool.false_or] at hf2
      exact zw (M := M) hts hf2
    · rw [h]
      exact zarrC hAOV
  refine ⟨_, znx_eq hs, fun hgo => ?_⟩
  intro ad ca tys H locs ls hR
  subst hRm
  obtain ⟨cy, hcy, hKy⟩ := zrowK hR.2.1.1 harr (fun C hC => by
    rcases hel with h | h
    · rw [h] at hC; cases hC
    · rw [h] at hC; cases hC; exact hAOV)
  simp only [List.map_cons]
  rw [zV_0 hv1, zV_0 hv2]
  have hdf : fits (zT (zx x 2)) (defaultValue (zT (zx x 2))) = true ∧ (defaultValue (zT (zx x 2))).isDefault = true := by
    rcases hel with h | h <;> rw [h] <;> exact ⟨rfl, rfl⟩
  have hP0 : va_P (zxD X) vwCl (zW (zxr X) ad ca (zxb X) (zxt X) 0 G ++ va_pl [] (fun _ => .inr (0, []))) H := by rw [show va_pl [] (fun _ => (.inr (0, []) : va_E)) = [] from rfl, List.append_nil]; exact hR.2.1.2.1
  have hD0 : va_D (fun q => zx0 X ≤ q) (zW (zxr X) ad ca (zxb X) (zxt X) 0 G ++ va_pl [] (fun _ => .inr (0, []))) := by rw [show va_pl [] (fun _ => (.inr (0, []) : va_E)) = [] from rfl, List.append_nil]; exact hR.2.1.2.2.1
  have hz : ∀ cA : ClassId, Jvm.Free.Multi.innerC cA v2.2 (defaultValue (zT (zx x 2))) = vp_cell cA (zC (zxr X) ad (zxb X) (zxt X) (zx x 2) (List.replicate v2.2 (zadf (zx x 2)))) := fun cA => by
    rw [zC_rep]
    unfold Jvm.Free.Multi.innerC arrV
    congr 1
    apply Array.ext
    · simp
    · intro i h1 h2
      simp
  refine va_mna (ty := zT (zx x 2)) (N' := v1.2) (K' := v2.2) hx hb hown (zw (M := M) hts hf1) hov harr hcy hKy hP0 hD0 hR.2.2.1 (fun q' h' => Nat.le_trans hbase h') (nI_pos (by omega)) (nI_pos (by omega)) (nI_clamp (by omega)) (nI_clamp (by omega)) (by omega) (Nat.le_trans (Nat.mul_le_mul hn2 hcb) (by decide)) (by omega) hdf.1 hdf.2 (show cu + (1 + v1.2) ≤ (zm_rm M).2.1 by simpa using hc1) (show su + (v1.2 + v1.2 * v2.2) ≤ (zm_rm M).2.2.1 by simpa using hc2) hz hd (fun q r cA H1 hr hrL hK1 hP1 hD1 hS1 => ?_)
  -- where the new ones lie, and of what class they are
  let ad' : Nat → Nat := fun k => if k < G.length then ad k else if k = G.length then q else r (k - (G.length + 1))
  let ca' : Nat → ClassId := fun k => if k < G.length then ca k else if k = G.length then cA else cy
  have ha : ∀ k, k < G.length → ad' k = ad k := fun k hk => if_pos hk
  have hca : ∀ k, k < G.length → ca' k = ca k := fun k hk => if_pos hk
  have haq : ad' G.length = q := by show (if G.length < G.length then _ else _) = q; rw [if_neg (Nat.lt_irrefl _), if_pos rfl]
  have hcq : ca' G.length = cA := by show (if G.length < G.length then _ else _) = cA; rw [if_neg (Nat.lt_irrefl _), if_pos rfl]
  have har : ∀ i, ad' (G.length + 1 + i) = r i := fun i => by
    show (if G.length + 1 + i < G.length then _ else if G.length + 1 + i = G.length then _ else _) = r i
    rw [if_neg (by omega), if_neg (by omega)]
    congr 1
    omega
  have hcr : ∀ i, ca' (G.length + 1 + i) = cy := fun i => by
    show (if G.length + 1 + i < G.length then _ else if G.length + 1 + i = G.length then _ else _) = cy
    rw [if_neg (by omega), if_neg (by omega)]
  have hlen0 : (zrowsN (G.length + 1) v1.2).length = v1.2 := by rw [zrowsN_eq]; simp
  have hE0 : zE (zxr X) ad' ca' (zxb X) (zxt X) G.length (Nat.succ (zx x 1), 0, zrowsN (G.length + 1) v1.2) = .inl (cA, v1.2, .inr (.inr (.inr (.inr (fun i => if i < v1.2 then some (r i) else none))))) := by
    show Sum.inl (ca' G.length, zC (zxr X) ad' (zxb X) (zxt X) (zx x 1) (zrowsN (G.length + 1) v1.2)) = _
    rw [hcq]
    obtain ⟨t5, ht5⟩ : ∃ t5, zx x 1 = t5 + 5 := ⟨zx x 1 - 5, by omega⟩
    rw [ht5]
    show Sum.inl (cA, (zrowsN (G.length + 1) v1.2).length, Sum.inr (Sum.inr (Sum.inr (Sum.inr fun j => zR ad' (zxb X) (zxt X) ((zrowsN (G.length + 1) v1.2).getD j (2, 0)))))) = _
    rw [hlen0]
    congr 6
    refine congrArg Sum.inr ?_
    funext j
    rw [zrowsN_eq, List.getD_eq_getElem?_getD, List.getElem?_map]
    by_cases hj : j < v1.2
    · rw [List.getElem?_range hj, if_pos hj]
      show some (ad' (G.length + 1 + j)) = some (r j)
      rw [har]
    · rw [if_neg hj, List.getElem?_eq_none (by simpa using Nat.le_of_not_lt hj)]
      rfl
  have hE1 : ∀ i, i < v1.2 → zE (zxr X) ad' ca' (zxb X) (zxt X) (G.length + 1 + i) (Nat.succ (zx x 2), 0, List.replicate v2.2 (zadf (zx x 2))) = .inl (cy, zC (zxr X) ad (zxb X) (zxt X) (zx x 2) (List.replicate v2.2 (zadf (zx x 2)))) := fun i _ => by
    have h1 := zE_congr (ρ := zxr X) (ad := ad) (ad' := ad') (ca := fun _ => cy) (ca' := ca') (b := zxb X) (td := zxt X) (n := 0) (p := G.length + 1 + i) (c := (Nat.succ (zx x 2), 0, List.replicate v2.2 (zadf (zx x 2)))) (fun v hv => by
      rw [List.eq_of_mem_replicate hv]
      refine zok_no3 ?_
      cases hq : Nat.beq (zadf (zx x 2)).1 3 with
      | true => exact absurd (Nat.eq_of_beq_eq_true hq) (zadf_3 _)
      | false => rfl) (fun k h => absurd h (Nat.not_lt_zero k)) (hcr i)
    rw [h1]
    rfl
  have hWn : zW (zxr X) ad' ca' (zxb X) (zxt X) G.length ((Nat.succ (zx x 1), 0, zrowsN (G.length + 1) v1.2) :: List.replicate v1.2 (Nat.succ (zx x 2), 0, List.replicate v2.2 (zadf (zx x 2)))) = (q, .inl (cA, v1.2, .inr (.inr (.inr (.inr (fun i => if i < v1.2 then some (r i) else none)))))) :: (List.range v1.2).map fun i => (r i, .inl (cy, zC (zxr X) ad (zxb X) (zxt X) (zx x 2) (List.replicate v2.2 (zadf (zx x 2))))) := by
    show (ad' G.length, _) :: zW (zxr X) ad' ca' (zxb X) (zxt X) (G.length + 1) _ = _
    rw [hE0, haq, zW_rep (cy := cy) v1.2 (G.length + 1) hE1]
    congr 1
    apply List.map_congr_left
    intro i _
    rw [har]
  have hpl : ∀ e : va_E, va_pl ([] ++ (List.range v1.2).map r) (vr_up (fun _ => (.inr (0, []) : va_E)) ((List.range v1.2).map r) e) = (List.range v1.2).map fun i => (r i, e) := fun e => by
    rw [List.nil_append]
    unfold va_pl
    rw [List.map_map]
    apply List.map_congr_left
    intro i hi
    show (r i, vr_up _ _ e (r i)) = (r i, e)
    rw [vr_up_in (List.mem_map.mpr ⟨i, hi, rfl⟩)]
  rw [hpl, List.append_assoc, List.singleton_append] at hP1 hD1
  rw [← hWn] at hP1 hD1
  have hS9 := hgo ad' ca' (tys ++ ([(cy, zT (zx x 2))] ++ [(cA, .array (zT (zx x 2)))])) H1 locs ls ⟨by
      show lv_has ls (zm_L M) (L.map _)
      rw [zLc hc3 ha]
      exact hR.1, zHp_app hR.2.1 (by rw [← List.append_assoc]; exact hK1) ha hca (fun c' hc' v' hv' => ?_) (fun k t ci vs hk => ?_) hP1 hD1, hS1, by
      show n0 ≤ (G ++ _).length
      rw [List.length_append]
      exact Nat.le_trans hR.2.2.2.1 (Nat.le_add_right _ _), fun k hk => by rw [ha k (Nat.lt_of_lt_of_le hk hR.2.2.2.1)]; exact hR.2.2.2.2 k hk⟩
  · simp only [List.map_cons] at hS9
    rw [zSc hc4 ha] at hS9
    rw [show zV (zxr X) ad' (zxb X) (zxt X) (3, G.length) = .ref q from congrArg Value.ref haq] at hS9
    exact hS9
  · rw [List.length_cons, List.length_replicate]
    rcases List.mem_cons.mp hc' with h | h
    · subst h
      have hv' : v' ∈ zrowsN (G.length + 1) v1.2 := hv'
      rw [zrowsN_eq] at hv'
      obtain ⟨i, hi, rfl⟩ := List.mem_map.mp hv'
      have hi : i < v1.2 := List.mem_range.mp hi
      have : G.length + 1 + i < G.length + (v1.2 + 1) := by omega
      simp [zok, this]
    · rw [List.eq_of_mem_replicate h] at hv'
      have hv' : v' ∈ List.replicate v2.2 (zadf (zx x 2)) := hv'
      rw [List.eq_of_mem_replicate hv']
      refine zok_no3 ?_
      cases hq : Nat.beq (zadf (zx x 2)).1 3 with
      | true => exact absurd (Nat.eq_of_beq_eq_true hq) (zadf_3 _)
      | false => rfl
  · cases k with
    | zero =>
      have hk : (Nat.succ (zx x 1), 0, zrowsN (G.length + 1) v1.2) = (Nat.succ t, ci, vs) := by simpa using hk
      have h1 : zx x 1 = t := Nat.succ.inj (congrArg Prod.fst hk)
      rw [← h1, hty, Nat.add_zero, hcq]
      exact ⟨tys.length + 1, by rw [List.getElem?_append_right (by omega)]; simp⟩
    | succ k =>
      have hk : (List.replicate v1.2 (Nat.succ (zx x 2), 0, List.replicate v2.2 (zadf (zx x 2))))[k]? = some (Nat.succ t, ci, vs) := by simpa using hk
      have hk2 := List.eq_of_mem_replicate (List.mem_of_getElem? hk)
      have h1 : t = zx x 2 := Nat.succ.inj (congrArg Prod.fst hk2)
      rw [h1, show G.length + (k + 1) = G.length + 1 + k by omega, hcr]
      exact ⟨tys.length, by rw [List.getElem?_append_right (by omega)]; simp⟩
def zo_mmax : zSem := fun x M ev st k => match st with
  | (pc, L, stk, G, cu, su) => match stk with
    | v2 :: rest1 => match rest1 with
      | v1 :: rest => cond (Nat.beq v1.1 0 && (Nat.beq v2.1 0 && (Nat.blt v1.2 2147483648 && (Nat.blt v2.2 2147483648 && (Nat.ble 1 (zm_rm M).1 && (Nat.ble (zcats rest + 13) (zm_rm M).2.2.2 && (Nat.ble cu (zm_rm M).2.1 && Nat.ble su (zm_rm M).2.2.1))))))) (cond (Nat.ble v1.2 v2.2) (znx pc 3 L (v2 :: rest) G cu su k) (znx pc 3 L (v1 :: rest) G cu su k)) none
      | [] => none
    | [] => none
theorem zs_mmax : zSnd (fun _ x => .invokestatic (zx x 0)) 3 (fun M x => hasW (zx x 1) (.methodLink (zm_y M).cls (zx x 0) Lib.Math.max.name) && (hasW (zx x 2) (.static Lib.Math.max.name) && (hasW (zx x 3) (.initialized "java/lang/Math") && hasW (zx x 4) (.code Lib.Math.max.name Lib.Math.max.code 2 (some .int))))) zo_mmax := by
  intro p l e R s m args below meth c Q M ev X n0 ad0 cx x pc L stk G cu su k r hd hf hs
  have hx := cx.1
  have hb := cx.2.1
  have hown := cx.2.2.2.1
  have hts := cx.2.2.2.2.1
  have hRm := cx.2.2.2.2.2.1
  have hbase := cx.2.2.2.2.2.2.1
  dsimp only [zo_mmax] at hs
  cases stk with
  | nil => cases hs
  | cons v2 rest1 =>
  cases rest1 with
  | nil => cases hs
  | cons v1 rest =>
  have hc := (zc hs).1
  have hs := (zc hs).2
  simp only [Bool.and_eq_true] at hc hf
  obtain ⟨hv1, hv2, hn1, hn2, hfr, hlo, hcu, hsu⟩ := hc
  obtain ⟨hf1, hf2, hf3, hf4⟩ := hf
  have hn1 : v1.2 < 2147483648 := by simpa using hn1
  have hn2 : v2.2 < 2147483648 := by simpa using hn2
  subst hRm
  cases hle : Nat.ble v1.2 v2.2 with
  | true =>
    rw [hle] at hs
    have hle : v1.2 ≤ v2.2 := by simpa using hle
    refine ⟨_, znx_eq hs, fun hgo => ?_⟩
    intro ad ca tys H locs ls hR
    have H1 := hgo ad ca tys H locs ls hR
    simp only [List.map_cons] at H1 ⊢
    rw [zV_0 hv2] at H1 ⊢
    rw [zV_0 hv1]
    refine va_mmax hx hb (cx.2.2.1.trans hR.1.1.symm) hown (zw (M := M) hts hf1) (zw (M := M) hts hf2) (zw (M := M) hts hf3) (zw (M := M) hts hf4) (show 1 ≤ (zm_rm M).1 by simpa using hfr) (by rw [zcats_eq]; show zcats rest + 13 ≤ (zm_rm M).2.2.2; simpa using hlo) (show cu ≤ (zm_rm M).2.1 by simpa using hcu) (show su ≤ (zm_rm M).2.2.1 by simpa using hsu) hd ?_
    have e : (if nI v1.2 < nI v2.2 then nI v2.2 else nI v1.2) = nI v2.2 := by
      by_cases h : v1.2 = v2.2
      · rw [h]; simp
      · rw [if_pos (nI_lt (by omega) hn2)]
    rw [e]
    exact H1
  | false =>
    rw [hle] at hs
    have hle : v2.2 < v1.2 := Nat.lt_of_not_le fun h => by rw [Nat.ble_eq_true_of_le h] at hle; cases hle
    refine ⟨_, znx_eq hs, fun hgo => ?_⟩
    intro ad ca tys H locs ls hR
    have H1 := hgo ad ca tys H locs ls hR
    simp only [List.map_cons] at H1 ⊢
    rw [zV_0 hv1] at H1 ⊢
    rw [zV_0 hv2]
    refine va_mmax hx hb (cx.2.2.1.trans hR.1.1.symm) hown (zw (M := M) hts hf1) (zw (M := M) hts hf2) (zw (M := M) hts hf3) (zw (M := M) hts hf4) (show 1 ≤ (zm_rm M).1 by simpa using hfr) (by rw [zcats_eq]; show zcats rest + 13 ≤ (zm_rm M).2.2.2; simpa using hlo) (show cu ≤ (zm_rm M).2.1 by simpa using hcu) (show su ≤ (zm_rm M).2.2.1 by simpa using hsu) hd ?_
    have e : (if nI v1.2 < nI v2.2 then nI v2.2 else nI v1.2) = nI v1.2 := by
      rw [if_neg (nI_nlt (by omega) hn1)]
    rw [e]
    exact H1
def zo_tsw : zSem := fun x M ev st k => match st with
  | (pc, L, stk, G, cu, su) => match stk with
    | v :: rest => cond (Nat.beq v.1 0 && Nat.blt v.2 2147483648) (match zat x (v.2 + 1) with
      | some t => zN t fun t' => k (t', L, rest, G, cu, su)
      | none => zN (zx x 0) fun t' => k (t', L, rest, G, cu, su)) none
    | [] => none
theorem zs_tsw (len : Nat) : zSnd (fun pc x => .tableswitch ((zx x 0 : Int) - (pc : Int)) 0 ((x.length : Int) - 2) (((x.drop 1).map fun (t : Nat) => (t : Int) - (pc : Int)).toArray)) len (fun _ x => Nat.blt 1 x.length) zo_tsw := by
  intro p l e R s m args below meth c Q M ev X n0 ad0 cx x pc L stk G cu su k r hd hf hs
  have hx := cx.1
  have hb := cx.2.1
  have hown := cx.2.2.2.1
  have hts := cx.2.2.2.2.1
  have hRm := cx.2.2.2.2.2.1
  have hbase := cx.2.2.2.2.2.2.1
  dsimp only [zo_tsw] at hs
  cases stk with
  | nil => cases hs
  | cons v rest =>
  have hc := (zc hs).1
  have hs := (zc hs).2
  simp only [Bool.and_eq_true] at hc
  obtain ⟨hv, hn⟩ := hc
  have hn : v.2 < 2147483648 := by simpa using hn
  have hl : 1 < x.length := by simpa using hf
  have hi : (nI v.2).toInt = (v.2 : Int) := nI_toInt hn
  cases ht : zat x (v.2 + 1) with
  | some t =>
    rw [ht] at hs
    simp only [zN_eq] at hs
    have hlt := zat_lt ht
    refine ⟨_, hs, fun hgo => ?_⟩
    intro ad ca tys H locs ls hR
    have H1 := hgo ad ca tys H locs ls hR
    simp only [List.map_cons] at H1 ⊢
    rw [zV_0 hv]
    refine lv_tableIn (off := (t : Int) - (pc : Int)) (tgt := t) hx hb hd (by rw [hi]; omega) (by rw [hi]; omega) ?_ (by omega) H1
    rw [hi]
    have e : ((v.2 : Int) - 0).toNat = v.2 := by omega
    rw [e, List.getElem?_toArray, List.getElem?_map, List.getElem?_drop, Nat.add_comm, zat_some ht]
    rfl
  | none =>
    rw [ht] at hs
    simp only [zN_eq] at hs
    have hge : x.length ≤ v.2 + 1 := by
      rw [zat_eq] at ht
      exact List.getElem?_eq_none_iff.mp ht
    refine ⟨_, hs, fun hgo => ?_⟩
    intro ad ca tys H locs ls hR
    have H1 := hgo ad ca tys H locs ls hR
    simp only [List.map_cons] at H1 ⊢
    rw [zV_0 hv]
    exact lv_tableOut (tgt := zx x 0) hx hb hd (Or.inr (by rw [hi]; omega)) (by omega) H1
end
section
/-! THE RUN of the abstract machine: a program is a list of methods; calls are runs of their own -/
def zq_iloadn : (Nat → List Nat → Instr) × Nat × (zMeth → List Nat → Bool) × zSem := ((fun _ x => .iload_n (Fin.ofNat 4 (zx x 0))), 1, ztrue, zo_iloadn)
def zq_iload : (Nat → List Nat → Instr) × Nat × (zMeth → List Nat → Bool) × zSem := ((fun _ x => .iload (zx x 0)), 2, ztrue, zo_iload)
def zq_lloadn : (Nat → List Nat → Instr) × Nat × (zMeth → List Nat → Bool) × zSem := ((fun _ x => .lload_n (Fin.ofNat 4 (zx x 0))), 1, ztrue, zo_lloadn)
def zq_lload : (Nat → List Nat → Instr) × Nat × (zMeth → List Nat → Bool) × zSem := ((fun _ x => .lload (zx x 0)), 2, ztrue, zo_lload)
def zq_dloadn : (Nat → List Nat → Instr) × Nat × (zMeth → List Nat → Bool) × zSem := ((fun _ x => .dload_n (Fin.ofNat 4 (zx x 0))), 1, ztrue, zo_dloadn)
def zq_dload : (Nat → List Nat → Instr) × Nat × (zMeth → List Nat → Bool) × zSem := ((fun _ x => .dload (zx x 0)), 2, ztrue, zo_dload)
def zq_floadn : (Nat → List Nat → Instr) × Nat × (zMeth → List Nat → Bool) × zSem := ((fun _ x => .fload_n (Fin.ofNat 4 (zx x 0))), 1, ztrue, zo_floadn)
def zq_fload : (Nat → List Nat → Instr) × Nat × (zMeth → List Nat → Bool) × zSem := ((fun _ x => .fload (zx x 0)), 2, ztrue, zo_fload)
def zq_aloadn : (Nat → List Nat → Instr) × Nat × (zMeth → List Nat → Bool) × zSem := ((fun _ x => .aload_n (Fin.ofNat 4 (zx x 0))), 1, ztrue, zo_aloadn)
def zq_aload : (Nat → List Nat → Instr) × Nat × (zMeth → List Nat → Bool) × zSem := ((fun _ x => .aload (zx x 0)), 2, ztrue, zo_aload)
def zq_istoren : (Nat → List Nat → Instr) × Nat × (zMeth → List Nat → Bool) × zSem := ((fun _ x => .istore_n (Fin.ofNat 4 (zx x 0))), 1, ztrue, zo_istoren)
def zq_istore : (Nat → List Nat → Instr) × Nat × (zMeth → List Nat → Bool) × zSem := ((fun _ x => .istore (zx x 0)), 2, ztrue, zo_istore)
def zq_fstoren : (Nat → List Nat → Instr) × Nat × (zMeth → List Nat → Bool) × zSem := ((fun _ x => .fstore_n (Fin.ofNat 4 (zx x 0))), 1, ztrue, zo_fstoren)
def zq_fstore : (Nat → List Nat → Instr) × Nat × (zMeth → List Nat → Bool) × zSem := ((fun _ x => .fstore (zx x 0)), 2, ztrue, zo_fstore)
def zq_astoren : (Nat → List Nat → Instr) × Nat × (zMeth → List Nat → Bool) × zSem := ((fun _ x => .astore_n (Fin.ofNat 4 (zx x 0))), 1, ztrue, zo_astoren)
def zq_astore : (Nat → List Nat → Instr) × Nat × (zMeth → List Nat → Bool) × zSem := ((fun _ x => .astore (zx x 0)), 2, ztrue, zo_astore)
def zq_lstoren : (Nat → List Nat → Instr) × Nat × (zMeth → List Nat → Bool) × zSem := ((fun _ x => .lstore_n (Fin.ofNat 4 (zx x 0))), 1, ztrue, zo_lstoren)
def zq_lstore : (Nat → List Nat → Instr) × Nat × (zMeth → List Nat → Bool) × zSem := ((fun _ x => .lstore (zx x 0)), 2, ztrue, zo_lstore)
def zq_dstoren : (Nat → List Nat → Instr) × Nat × (zMeth → List Nat → Bool) × zSem := ((fun _ x => .dstore_n (Fin.ofNat 4 (zx x 0))), 1, ztrue, zo_dstoren)
def zq_dstore : (Nat → List Nat → Instr) × Nat × (zMeth → List Nat → Bool) × zSem := ((fun _ x => .dstore (zx x 0)), 2, ztrue, zo_dstore)
def zq_iconst : (Nat → List Nat → Instr) × Nat × (zMeth → List Nat → Bool) × zSem := ((fun _ x => .iconst ((zx x 0 : Int) - 1)), 1, (fun _ x => decide (Int32.ofInt ((zx x 0 : Int) - 1) = nI (zx x 1))), zo_iconst)
def zq_bipush : (Nat → List Nat → Instr) × Nat × (zMeth → List Nat → Bool) × zSem := ((fun _ x => .bipush ((zx x 0 : Int) - 128)), 2, (fun _ x => decide ((Int8.ofInt ((zx x 0 : Int) - 128)).toInt32 = nI (zx x 1))), zo_bipush)
def zq_sipush : (Nat → List Nat → Instr) × Nat × (zMeth → List Nat → Bool) × zSem := ((fun _ x => .sipush ((zx x 0 : Int) - 32768)), 3, (fun _ x => decide ((Int16.ofInt ((zx x 0 : Int) - 32768)).toInt32 = nI (zx x 1))), zo_sipush)
def zq_lconst : (Nat → List Nat → Instr) × Nat × (zMeth → List Nat → Bool) × zSem := ((fun _ x => .lconst (Fin.ofNat 2 (zx x 0))), 1, ztrue, zo_lconst)
def zq_dconst : (Nat → List Nat → Instr) × Nat × (zMeth → List Nat → Bool) × zSem := ((fun _ _ => .dconst 0), 1, ztrue, zo_dconst)
def zq_null : (Nat → List Nat → Instr) × Nat × (zMeth → List Nat → Bool) × zSem := ((fun _ _ => .aconst_null), 1, ztrue, zo_null)
def zq_iadd : (Nat → List Nat → Instr) × Nat × (zMeth → List Nat → Bool) × zSem := ((fun _ _ => .iadd), 1, ztrue, zo_iadd)
def zq_isub : (Nat → List Nat → Instr) × Nat × (zMeth → List Nat → Bool) × zSem := ((fun _ _ => .isub), 1, ztrue, zo_isub)
def zq_iand : (Nat → List Nat → Instr) × Nat × (zMeth → List Nat → Bool) × zSem := ((fun _ _ => .iand), 1, ztrue, zo_iand)
def zq_i2l : (Nat → List Nat → Instr) × Nat × (zMeth → List Nat → Bool) × zSem := ((fun _ _ => .i2l), 1, ztrue, zo_i2l)
def zq_i2c : (Nat → List Nat → Instr) × Nat × (zMeth → List Nat → Bool) × zSem := ((fun _ _ => .i2c), 1, ztrue, zo_i2c)
def zq_i2d : (Nat → List Nat → Instr) × Nat × (zMeth → List Nat → Bool) × zSem := ((fun _ _ => .i2d), 1, ztrue, zo_i2d)
def zq_i2f : (Nat → List Nat → Instr) × Nat × (zMeth → List Nat → Bool) × zSem := ((fun _ _ => .i2f), 1, ztrue, zo_i2f)
def zq_dup : (Nat → List Nat → Instr) × Nat × (zMeth → List Nat → Bool) × zSem := ((fun _ _ => .dup), 1, ztrue, zo_dup)
def zq_pop : (Nat → List Nat → Instr) × Nat × (zMeth → List Nat → Bool) × zSem := ((fun _ _ => .pop), 1, ztrue, zo_pop)
def zq_dup_x1 : (Nat → List Nat → Instr) × Nat × (zMeth → List Nat → Bool) × zSem := ((fun _ _ => .dup_x1), 1, ztrue, zo_dup_x1)
def zq_iinc : (Nat → List Nat → Instr) × Nat × (zMeth → List Nat → Bool) × zSem := ((fun _ x => .iinc (zx x 0) ((zx x 1 : Int) - 32768)), 3, (fun _ x => decide (Int32.ofInt ((zx x 1 : Int) - 32768) = nI (zx x 2))), zo_iinc)
def zq_goto : (Nat → List Nat → Instr) × Nat × (zMeth → List Nat → Bool) × zSem := ((fun pc x => .goto ((zx x 0 : Int) - (pc : Int))), 3, ztrue, zo_goto)
def zq_lcmp : (Nat → List Nat → Instr) × Nat × (zMeth → List Nat → Bool) × zSem := ((fun _ _ => .lcmp), 1, ztrue, zo_lcmp)
def zq_icmp_eq : (Nat → List Nat → Instr) × Nat × (zMeth → List Nat → Bool) × zSem := ((fun pc x => .if_icmp .eq ((zx x 0 : Int) - (pc : Int))), 3, ztrue, zo_icmp_eq)
def zq_if_eq : (Nat → List Nat → Instr) × Nat × (zMeth → List Nat → Bool) × zSem := ((fun pc x => .ifCond .eq ((zx x 0 : Int) - (pc : Int))), 3, ztrue, zo_if_eq)
def zq_icmp_ne : (Nat → List Nat → Instr) × Nat × (zMeth → List Nat → Bool) × zSem := ((fun pc x => .if_icmp .ne ((zx x 0 : Int) - (pc : Int))), 3, ztrue, zo_icmp_ne)
def zq_if_ne : (Nat → List Nat → Instr) × Nat × (zMeth → List Nat → Bool) × zSem := ((fun pc x => .ifCond .ne ((zx x 0 : Int) - (pc : Int))), 3, ztrue, zo_if_ne)
def zq_icmp_lt : (Nat → List Nat → Instr) × Nat × (zMeth → List Nat → Bool) × zSem := ((fun pc x => .if_icmp .lt ((zx x 0 : Int) - (pc : Int))), 3, ztrue, zo_icmp_lt)
def zq_if_lt : (Nat → List Nat → Instr) × Nat × (zMeth → List Nat → Bool) × zSem := ((fun pc x => .ifCond .lt ((zx x 0 : Int) - (pc : Int))), 3, ztrue, zo_if_lt)
def zq_icmp_ge : (Nat → List Nat → Instr) × Nat × (zMeth → List Nat → Bool) × zSem := ((fun pc x => .if_icmp .ge ((zx x 0 : Int) - (pc : Int))), 3, ztrue, zo_icmp_ge)
def zq_if_ge : (Nat → List Nat → Instr) × Nat × (zMeth → List Nat → Bool) × zSem := ((fun pc x => .ifCond .ge ((zx x 0 : Int) - (pc : Int))), 3, ztrue, zo_if_ge)
def zq_icmp_gt : (Nat → List Nat → Instr) × Nat × (zMeth → List Nat → Bool) × zSem := ((fun pc x => .if_icmp .gt ((zx x 0 : Int) - (pc : Int))), 3, ztrue, zo_icmp_gt)
def zq_if_gt : (Nat → List Nat → Instr) × Nat × (zMeth → List Nat → Bool) × zSem := ((fun pc x => .ifCond .gt ((zx x 0 : Int) - (pc : Int))), 3, ztrue, zo_if_gt)
def zq_icmp_le : (Nat → List Nat → Instr) × Nat × (zMeth → List Nat → Bool) × zSem := ((fun pc x => .if_icmp .le ((zx x 0 : Int) - (pc : Int))), 3, ztrue, zo_icmp_le)
def zq_if_le : (Nat → List Nat → Instr) × Nat × (zMeth → List Nat → Bool) × zSem := ((fun pc x => .ifCond .le ((zx x 0 : Int) - (pc : Int))), 3, ztrue, zo_if_le)
def zq_ifnull : (Nat → List Nat → Instr) × Nat × (zMeth → List Nat → Bool) × zSem := ((fun pc x => .ifnull ((zx x 0 : Int) - (pc : Int))), 3, ztrue, zo_ifnull)
def zq_ifnonnull : (Nat → List Nat → Instr) × Nat × (zMeth → List Nat → Bool) × zSem := ((fun pc x => .ifnonnull ((zx x 0 : Int) - (pc : Int))), 3, ztrue, zo_ifnonnull)
def zq_acmp_eq : (Nat → List Nat → Instr) × Nat × (zMeth → List Nat → Bool) × zSem := ((fun pc x => .if_acmp .eq ((zx x 0 : Int) - (pc : Int))), 3, ztrue, zo_acmp_eq)
def zq_getf : (Nat → List Nat → Instr) × Nat × (zMeth → List Nat → Bool) × zSem := ((fun _ x => .getfield (zx x 0)), 3, zflk, zo_getf)
def zq_getfS : (Nat → List Nat → Instr) × Nat × (zMeth → List Nat → Bool) × zSem := ((fun _ x => .getfield (zx x 0)), 3, zflS, zo_getf)
def zq_putf : (Nat → List Nat → Instr) × Nat × (zMeth → List Nat → Bool) × zSem := ((fun _ x => .putfield (zx x 0)), 3, (fun M x => zflk M x && (match zat vwCl (zx x 1) with | some q => !(q.2.1 (zx x 2)).2.2.2 | none => false)), zo_putf)
def zq_putfS : (Nat → List Nat → Instr) × Nat × (zMeth → List Nat → Bool) × zSem := ((fun _ x => .putfield (zx x 0)), 3, (fun M x => zflS M x && (match zat vwCl (zx x 1) with | some q => !(q.2.1 (zx x 2)).2.2.2 | none => false)), zo_putf)
def zq_putfF : (Nat → List Nat → Instr) × Nat × (zMeth → List Nat → Bool) × zSem := ((fun _ x => .putfield (zx x 0)), 3, (fun M x => zflk M x && (match zat vwCl (zx x 1) with | some q => (q.2.1 (zx x 2)).2.2.2 && (decide ((zm_y M).name = "<init>") && decide ((q.2.1 (zx x 2)).1 = (zm_y M).cls)) | none => false)), zo_putf)
def zq_new : (Nat → List Nat → Instr) × Nat × (zMeth → List Nat → Bool) × zSem := ((fun _ x => .new (zx x 0)), 3, znwf, zo_new)
def zq_newarray : (Nat → List Nat → Instr) × Nat × (zMeth → List Nat → Bool) × zSem := ((fun _ x => .newarray (zaty (zx x 0))), 2, (fun _ x => hasW (zx x 1) (.arrayClass (zT (zx x 0)))), zo_newarray)
def zq_anew : (Nat → List Nat → Instr) × Nat × (zMeth → List Nat → Bool) × zSem := ((fun _ x => .anewarray (zx x 0)), 3, (fun M x => hasW (zx x 2) (.classLink (zm_y M).cls (zx x 0) (zcn (zx x 1)))), zo_anew)
def zq_alen : (Nat → List Nat → Instr) × Nat × (zMeth → List Nat → Bool) × zSem := ((fun _ _ => .arraylength), 1, ztrue, zo_alen)
def zq_iaload : (Nat → List Nat → Instr) × Nat × (zMeth → List Nat → Bool) × zSem := ((fun _ _ => .iaload), 1, ztrue, zo_iaload)
def zq_zaload : (Nat → List Nat → Instr) × Nat × (zMeth → List Nat → Bool) × zSem := ((fun _ _ => .baload), 1, ztrue, zo_zaload)
def zq_caload : (Nat → List Nat → Instr) × Nat × (zMeth → List Nat → Bool) × zSem := ((fun _ _ => .caload), 1, ztrue, zo_caload)
def zq_laload : (Nat → List Nat → Instr) × Nat × (zMeth → List Nat → Bool) × zSem := ((fun _ _ => .laload), 1, ztrue, zo_laload)
def zq_aaload : (Nat → List Nat → Instr) × Nat × (zMeth → List Nat → Bool) × zSem := ((fun _ _ => .aaload), 1, ztrue, zo_aaload)
def zq_iastore : (Nat → List Nat → Instr) × Nat × (zMeth → List Nat → Bool) × zSem := ((fun _ _ => .iastore), 1, (ztrue), zo_iastore)
def zq_zastore : (Nat → List Nat → Instr) × Nat × (zMeth → List Nat → Bool) × zSem := ((fun _ _ => .bastore), 1, (ztrue), zo_zastore)
def zq_lastore : (Nat → List Nat → Instr) × Nat × (zMeth → List Nat → Bool) × zSem := ((fun _ _ => .lastore), 1, (ztrue), zo_lastore)
def zq_aastV : (Nat → List Nat → Instr) × Nat × (zMeth → List Nat → Bool) × zSem := ((fun _ _ => .aastore), 1, (fun _ x => match zat vwCl (zx x 0) with | some q => decide (q.1 = "FormRiverModel$Version") | none => false), zo_aastV)
def zq_aastO : (Nat → List Nat → Instr) × Nat × (zMeth → List Nat → Bool) × zSem := ((fun _ _ => .aastore), 1, (fun _ x => x.all fun ci => match zat vwCl ci with | some q => decide (Cond.castable q.1 "java/lang/Object" ∈ zNws) | none => false), zo_aastO)
def zq_gets : (Nat → List Nat → Instr) × Nat × (zMeth → List Nat → Bool) × zSem := ((fun _ x => .getstatic (zx x 0)), 3, (fun M x => hasW (zx x 1) (.fieldLink (zm_y M).cls (zx x 0) "java/util/ArrayList" "DEFAULTCAPACITY_EMPTY_ELEMENTDATA" "[Ljava/lang/Object;")), zo_gets)
def zq_objI : (Nat → List Nat → Instr) × Nat × (zMeth → List Nat → Bool) × zSem := ((fun _ x => .invokespecial (zx x 0)), 3, (fun M x => hasW (zx x 1) (.methodLink (zm_y M).cls (zx x 0) Lib.objectInit) && (hasW (zx x 2) (.instanceMethod Lib.objectInit) && hasW (zx x 3) (.code Lib.objectInit ⟨#[0xb1]⟩ 1 none))), zo_objI)
def zq_mna : (Nat → List Nat → Instr) × Nat × (zMeth → List Nat → Bool) × zSem := ((fun _ x => .multianewarray (zx x 0) 2), 4, (fun M x => zmna_ok x && (hasW (zx x 3) (.classLink (zm_y M).cls (zx x 0) ("[" ++ (FieldType.array (zT (zx x 2))).toString)) && (Nat.beq (zx x 2) 8 || hasW (zx x 4) (.arrayClass .int)))), zo_mna)
def zq_mmax : (Nat → List Nat → Instr) × Nat × (zMeth → List Nat → Bool) × zSem := ((fun _ x => .invokestatic (zx x 0)), 3, (fun M x => hasW (zx x 1) (.methodLink (zm_y M).cls (zx x 0) Lib.Math.max.name) && (hasW (zx x 2) (.static Lib.Math.max.name) && (hasW (zx x 3) (.initialized "java/lang/Math") && hasW (zx x 4) (.code Lib.Math.max.name Lib.Math.max.code 2 (some .int))))), zo_mmax)
def zq_tsw : (Nat → List Nat → Instr) × Nat × (zMeth → List Nat → Bool) × zSem := ((fun pc x => .tableswitch ((zx x 0 : Int) - (pc : Int)) 0 ((x.length : Int) - 2) (((x.drop 1).map fun (t : Nat) => (t : Int) - (pc : Int)).toArray)), 203, (fun _ x => Nat.blt 1 x.length), zo_tsw)
def zopT : List ((Nat → List Nat → Instr) × Nat × (zMeth → List Nat → Bool) × zSem) := [zq_iloadn, zq_iload, zq_lloadn, zq_lload, zq_dloadn, zq_dload, zq_floadn, zq_fload, zq_aloadn, zq_aload, zq_istoren, zq_istore, zq_fstoren, zq_fstore, zq_astoren, zq_astore, zq_lstoren, zq_lstore, zq_dstoren, zq_dstore, zq_iconst, zq_bipush, zq_sipush, zq_lconst, zq_dconst, zq_null, zq_iadd, zq_isub, zq_iand, zq_i2l, zq_i2c, zq_i2d, zq_i2f, zq_dup, zq_pop, zq_dup_x1, zq_iinc, zq_goto, zq_lcmp, zq_icmp_eq, zq_if_eq, zq_icmp_ne, zq_if_ne, zq_icmp_lt, zq_if_lt, zq_icmp_ge, zq_if_ge, zq_icmp_gt, zq_if_gt, zq_icmp_le, zq_if_le, zq_ifnull, zq_ifnonnull, zq_acmp_eq, zq_getf, zq_getfS, zq_putf, zq_putfS, zq_putfF, zq_new, zq_newarray, zq_anew, zq_alen, zq_iaload, zq_zaload, zq_caload, zq_laload, zq_aaload, zq_iastore, zq_zastore, zq_lastore, zq_aastV, zq_aastO, zq_gets, zq_objI, zq_mna, zq_mmax, zq_tsw]
theorem zopT_ok : ∀ q ∈ zopT, zSnd q.1 q.2.1 q.2.2.1 q.2.2.2 := List.forall_mem_cons.mpr ⟨zs_iloadn, List.forall_mem_cons.mpr ⟨zs_iload, List.forall_mem_cons.mpr ⟨zs_lloadn, List.forall_mem_cons.mpr ⟨zs_lload, List.forall_mem_cons.mpr ⟨zs_dloadn, List.forall_mem_cons.mpr ⟨zs_dload, List.forall_mem_cons.mpr ⟨zs_floadn, List.forall_mem_cons.mpr ⟨zs_fload, List.forall_mem_cons.mpr ⟨zs_aloadn, List.forall_mem_cons.mpr ⟨zs_aload, List.forall_mem_cons.mpr ⟨zs_istoren, List.forall_mem_cons.mpr ⟨zs_istore, List.forall_mem_cons.mpr ⟨zs_fstoren, List.forall_mem_cons.mpr ⟨zs_fstore, List.forall_mem_cons.mpr ⟨zs_astoren, List.forall_mem_cons.mpr ⟨zs_astore, List.forall_mem_cons.mpr ⟨zs_lstoren, List.forall_mem_cons.mpr ⟨zs_lstore, List.forall_mem_cons.mpr ⟨zs_dstoren, List.forall_mem_cons.mpr ⟨zs_dstore, List.forall_mem_cons.mpr ⟨zs_iconst, List.forall_mem_cons.mpr ⟨zs_bipush, List.forall_mem_cons.mpr ⟨zs_sipush, List.forall_mem_cons.mpr ⟨zs_lconst, List.forall_mem_cons.mpr ⟨zs_dconst, List.forall_mem_cons.mpr ⟨zs_null, List.forall_mem_cons.mpr ⟨zs_iadd, List.forall_mem_cons.mpr ⟨zs_isub, List.forall_mem_cons.mpr ⟨zs_iand, List.forall_mem_cons.mpr ⟨zs_i2l, List.forall_mem_cons.mpr ⟨zs_i2c, List.forall_mem_cons.mpr ⟨zs_i2d, List.forall_mem_cons.mpr ⟨zs_i2f, List.forall_mem_cons.mpr ⟨zs_dup, List.forall_mem_cons.mpr ⟨zs_pop, List.forall_mem_cons.mpr ⟨zs_dup_x1, List.forall_mem_cons.mpr ⟨zs_iinc, List.forall_mem_cons.mpr ⟨zs_goto, List.forall_mem_cons.mpr ⟨zs_lcmp, List.forall_mem_cons.mpr ⟨zs_icmp_eq, List.forall_mem_cons.mpr ⟨zs_if_eq, List.forall_mem_cons.mpr ⟨zs_icmp_ne, List.forall_mem_cons.mpr ⟨zs_if_ne, List.forall_mem_cons.mpr ⟨zs_icmp_lt, List.forall_mem_cons.mpr ⟨zs_if_lt, List.forall_mem_cons.mpr ⟨zs_icmp_ge, List.forall_mem_cons.mpr ⟨zs_if_ge, List.forall_mem_cons.mpr ⟨zs_icmp_gt, List.forall_mem_cons.mpr ⟨zs_if_gt, List.forall_mem_cons.mpr ⟨zs_icmp_le, List.forall_mem_cons.mpr ⟨zs_if_le, List.forall_mem_cons.mpr ⟨zs_ifnull, List.forall_mem_cons.mpr ⟨zs_ifnonnull, List.forall_mem_cons.mpr ⟨zs_acmp_eq, List.forall_mem_cons.mpr ⟨zs_getf, List.forall_mem_cons.mpr ⟨zs_getfS, List.forall_mem_cons.mpr ⟨zs_putf, List.forall_mem_cons.mpr ⟨zs_putfS, List.forall_mem_cons.mpr ⟨zs_putfF, List.forall_mem_cons.mpr ⟨zs_new, List.forall_mem_cons.mpr ⟨zs_newarray, List.forall_mem_cons.mpr ⟨zs_anew, List.forall_mem_cons.mpr ⟨zs_alen, List.forall_mem_cons.mpr ⟨zs_iaload, List.forall_mem_cons.mpr ⟨zs_zaload, List.forall_mem_cons.mpr ⟨zs_caload, List.forall_mem_cons.mpr ⟨zs_laload, List.forall_mem_cons.mpr ⟨zs_aaload, List.forall_mem_cons.mpr ⟨zs_iastore, List.forall_mem_cons.mpr ⟨zs_zastore, List.forall_mem_cons.mpr ⟨zs_lastore, List.forall_mem_cons.mpr ⟨zs_aastV, List.forall_mem_cons.mpr ⟨zs_aastO, List.forall_mem_cons.mpr ⟨zs_gets, List.forall_mem_cons.mpr ⟨zs_objI, List.forall_mem_cons.mpr ⟨zs_mna, List.forall_mem_cons.mpr ⟨zs_mmax, List.forall_mem_cons.mpr ⟨zs_tsw 203, fun _ h => absurd h List.not_mem_nil⟩⟩⟩⟩⟩⟩⟩⟩⟩⟩⟩⟩⟩⟩⟩⟩⟩⟩⟩⟩⟩⟩⟩⟩⟩⟩⟩⟩⟩⟩⟩⟩⟩⟩⟩⟩⟩⟩⟩⟩⟩⟩⟩⟩⟩⟩⟩⟩⟩⟩⟩⟩⟩⟩⟩⟩⟩⟩⟩⟩⟩⟩⟩⟩⟩⟩⟩⟩⟩⟩⟩⟩⟩⟩⟩⟩⟩⟩
def zins : List zIns → Nat → Option (Nat × List Nat)
  | [], _ => none
  | i :: t, pc => cond (Nat.beq i.1 pc) (some i.2) (zins t pc)
theorem zins_mem : ∀ {l : List zIns} {pc : Nat} {u : Nat × List Nat}, zins l pc = some u → (pc, u) ∈ l
  | [], _, _, h => by cases h
  | i :: t, pc, u, h => by
    unfold zins at h
    cases hb : Nat.beq i.1 pc with
    | true =>
      rw [hb] at h
      have h1 : i.1 = pc := Nat.eq_of_beq_eq_true hb
      have h2 : i.2 = u := by simpa using h
      subst h1; subst h2
      exact List.mem_cons_self
    | false =>
      rw [hb] at h
      exact List.mem_cons_of_mem _ (zins_mem (by simpa using h))
def zhand : List (Nat × Nat × Nat × Nat × Nat) → Nat → Nat → Option Nat
  | [], _, _ => none
  | h :: t, pc, e => cond (Nat.ble h.1 pc && Nat.blt pc h.2.1) (cond (Nat.beq h.2.2.2.2 e) (some h.2.2.1) (cond (zNcN.any fun q => Nat.beq q.1 e && Nat.beq q.2 h.2.2.2.2) (zhand t pc e) none)) (zhand t pc e)
def ztk {β : Type} : Nat → List zAV → List zAV → (List zAV → List zAV → Option β) → Option β
  | 0, s, acc, k => k acc s
  | Nat.succ n, s, acc, k => match s with
    | v :: s' => ztk n s' (v :: acc) k
    | [] => none
theorem ztk_ok {β : Type} {r : β} : ∀ (n : Nat) (s acc : List zAV) (k : List zAV → List zAV → Option β), ztk n s acc k = some r → ∃ a rest, s = a ++ rest ∧ a.length = n ∧ k (a.reverse ++ acc) rest = some r
  | 0, s, acc, k, h => ⟨[], s, rfl, rfl, h⟩
  | n + 1, [], acc, k, h => by cases h
  | n + 1, v :: s, acc, k, h => by
    obtain ⟨a, rest, h1, h2, h3⟩ := ztk_ok n s (v :: acc) k h
    exact ⟨v :: a, rest, by rw [h1]; rfl, by simp [h2], by simpa using h3⟩
def zargs {β : Type} : Nat → List zAV → (zL → Option β) → Option β
  | _, [], k => k []
  | i, v :: vs, k => zN (i + zcat v) fun j => zargs j vs (fun l => k ((i, v) :: l))
def zargL : Nat → List zAV → zL
  | _, [] => []
  | i, v :: vs => (i, v) :: zargL (i + zcat v) vs
theorem zargs_eq {β : Type} : ∀ (vs : List zAV) (i : Nat) (k : zL → Option β), zargs i vs k = k (zargL i vs)
  | [], i, k => rfl
  | v :: vs, i, k => by
    unfold zargs
    rw [zN_eq, zargs_eq vs]
    rfl
theorem zcat_12 (v : zAV) : zcat v = 1 ∨ zcat v = 2 := by
  unfold zcat
  cases (Nat.beq v.1 4 || Nat.beq v.1 5 || Nat.beq v.1 6)
  · exact Or.inl rfl
  · exact Or.inr rfl
theorem zlvargs {ρ : Nat → Int32} {ad : Nat → Nat} {b td : Nat} : ∀ (vs : List zAV) (i : Nat), lv_args i (vs.map (zV ρ ad b td)) = (zargL i vs).map fun q => (q.1, zV ρ ad b td q.2)
  | [], i => rfl
  | v :: vs, i => by
    show (i, zV ρ ad b td v) :: lv_args _ _ = (i, zV ρ ad b td v) :: _
    rw [zV_cat]
    have e : (if zcat v = 2 then i + 2 else i + 1) = i + zcat v := by
      rcases zcat_12 v with h | h <;> rw [h] <;> rfl
    rw [e, zlvargs vs]
    try rfl
theorem zlgsl {ρ : Nat → Int32} {ad : Nat → Nat} {b td : Nat} : ∀ (vs : List zAV), (lg_sl (vs.map (zV ρ ad b td))).length = zcats vs
  | [] => rfl
  | v :: vs => by
    have ih := zlgsl (ρ := ρ) (ad := ad) (b := b) (td := td) vs
    have hc := zV_cat (ρ := ρ) (ad := ad) (b := b) (td := td) v
    have e : zcats (v :: vs) = zcat v + zcats vs := by simp [zcats]
    rw [e, ← ih]
    simp only [List.map_cons, lg_sl]
    rcases zcat_12 v with h | h <;> (rw [h] at hc; simp [hc, h]; try omega)
def zretok (rt : Nat) (stk : List zAV) : Bool := match stk with
  | [] => Nat.beq rt 0
  | v :: t => match t with
    | [] => match rt with
      | 1 => zisI v
      | 2 => zisB v
      | 3 => Nat.beq v.1 0 && Nat.blt v.2 65536
      | 4 => zisJ v
      | 5 => zisR v
      | 6 => zisD v
      | 7 => zisF v
      | _ => false
    | _ :: _ => false
def zretT (rt : Nat) (ret : Option FieldType) : Bool := match rt with
  | 0 => decide (ret = none)
  | 1 => decide (ret = some .int)
  | 2 => decide (ret = some .boolean)
  | 3 => decide (ret = some .char)
  | 4 => decide (ret = some .long)
  | 5 => match ret with
    | some (.object _) => true
    | some (.array _) => true
    | _ => false
  | 6 => decide (ret = some .double)
  | 7 => decide (ret = some .float)
  | _ => true
def zretI (rt : Nat) : Instr := match rt with
  | 0 => .return_
  | 1 => .ireturn
  | 2 => .ireturn
  | 3 => .ireturn
  | 4 => .lreturn
  | 5 => .areturn
  | 6 => .dreturn
  | _ => .freturn
def zhasr (kind : Nat) : Nat := match kind with
  | 0 => 1
  | 2 => 1
  | 3 => 1
  | _ => 0
/-- the handler's first instruction keeps what was thrown in a place of its own -/
def zcatch (M : zMeth) (hpc : Nat) (L : zL) (G : zH) (cu su : Nat) (k : zK) : Option zRes := zob (zins (zm_code M) hpc) fun u => cond (Nat.beq u.1 17) (cond (Nat.blt (zx u.2 0 % 4) (zm_L M)) (zfil (zkeep1 (zx u.2 0 % 4)) L fun L' => zN (hpc + 1) fun p' => k (p', L', [], G, cu, su)) none) (cond (Nat.beq u.1 18 && Nat.blt (zx u.2 0) (zm_L M)) (zfil (zkeep1 (zx u.2 0)) L fun L' => zN (hpc + 2) fun p' => k (p', L', [], G, cu, su)) none)
def zrcv (kind ci : Nat) (G : zH) (as : List zAV) : Bool := match as with
  | [] => Nat.beq (zhasr kind) 0
  | v :: _ => match kind with
    | 0 => Nat.beq v.1 3 && (match zat G v.2 with
      | some c => Nat.beq c.1 0 && Nat.beq c.2.1 ci
      | none => false)
    | 1 => true
    | 4 => true
    | _ => Nat.beq v.1 3
def zfit4 (M M' : zMeth) (cu su : Nat) : Bool := Nat.ble ((zm_rm M').1 + 1) (zm_rm M).1 && (Nat.ble (8 + (zm_L M' + 11) + (zm_rm M').2.2.2) (zm_rm M).2.2.2 && (Nat.ble (cu + (zm_rm M').2.1) (zm_rm M).2.1 && Nat.ble (su + (zm_rm M').2.2.1) (zm_rm M).2.2.1))
def zcall (P : List zMeth) (rec : zMeth → zSt → Option zRes) (M : zMeth) (st : zSt) (x : List Nat) : Option zRes := match st with
  | (pc, L, stk, G, cu, su) => zob (zat P (zx x 2)) fun M' => ztk (zx x 3 + zhasr (zx x 1)) stk [] fun as rest =>
    cond (zrcv (zx x 1) (zx x 4) G as && (zfit4 M M' cu su && (zokL G.length L && (zokA G.length rest && (Nat.ble (zcats rest) 8 && Nat.ble (zcats as) (zm_L M')))))) (zargs 0 as fun L0 => zob (rec M' (0, L0, [], G, 0, 0)) fun r => match r.1 with
      | 0 => cond (zretok (zm_rt M') r.2.2.2.2.1 && (Nat.ble r.2.2.2.2.2.2.1 (zm_rm M').2.1 && Nat.ble r.2.2.2.2.2.2.2 (zm_rm M').2.2.1)) (zN (pc + 3) fun p' => zN (cu + (zm_rm M').2.1) fun cu' => zN (su + (zm_rm M').2.2.1) fun su' => zapp r.2.2.2.2.1 rest fun stk' => rec M (p', L, stk', r.2.2.2.2.2.1, cu', su')) none
      | _ => cond (Nat.beq (zx x 1) 4) none (match zm_hh M with
        | [] => zN (cu + (zm_rm M').2.1) fun cu' => zN (su + (zm_rm M').2.2.1) fun su' => some (1, r.2.1, (pc, L, rest, r.2.2.2.2.2.1, cu', su'))
        | _ :: _ => zob (zhand (zm_hh M) pc r.2.1) fun hpc => zN (cu + (zm_rm M').2.1) fun cu' => zN (su + (zm_rm M').2.2.1) fun su' => zcatch M hpc L r.2.2.2.2.2.1 cu' su' (rec M))) none
def zrun (P : List zMeth) (ev : zEv) : Nat → zMeth → zSt → Option zRes
  | 0 => fun _ _ => none
  | Nat.succ f => fun M st => zob (zins (zm_code M) st.1) fun u => match u.1 with
    | 0 => some (0, 0, st)
    | 1 => cond (Nat.blt 5 (zm_rm M).1 && (Nat.ble (zcats st.2.2.1 + 82) (zm_rm M).2.2.2 && (Nat.ble (st.2.2.2.2.1 + 1) (zm_rm M).2.1 && Nat.ble (st.2.2.2.2.2 + 6) (zm_rm M).2.2.1))) (some (1, zx u.2 0, st)) none
    | 2 => zcall P (zrun P ev f) M st u.2
    | Nat.succ (Nat.succ (Nat.succ o)) => zob (zat zopT o) fun q => q.2.2.2 u.2 M ev st (zrun P ev f M)
/-! what a method's rows must be -/
def zexi (e : Nat) : Nat := match e with
  | 3 => 13
  | _ => 7
def zexb (e : Nat) : ByteArray := match e with
  | 3 => ⟨#[0x2a, 0x2b, 0xb7, 0x00, 0x0d, 0xb1]⟩
  | _ => ⟨#[0x2a, 0x2b, 0xb7, 0x00, 0x07, 0xb1]⟩
def zexL : List (Nat × Nat) := [(56, 0), (92, 2), (119, 3), (136, 4), (263, 1), (496, 5)]
theorem zexL_ok : ∀ q ∈ zexL, ∀ w ∈ zexF "FormRiver" q.1 (zEx q.2) (zexi q.2) (zexb q.2), (w ∈ lw_tbl ∧ goodWord w = true) ∨ w ∈ zNws := by decide +kernel
theorem zexL_ot : ∀ q ∈ zexL, ∀ w ∈ zexF "FormRiver" q.1 (zEx q.2) (zexi q.2) (zexb q.2), vx_ot w = true := by decide +kernel
theorem zexL_d : ∀ q ∈ zexL, zexD (zexi q.2) (zexb q.2) ∧ Bundle.fit (zEx q.2) = true := by unfold zexD; decide +kernel
def zchkR (M : zMeth) (pc : Nat) (x : List Nat) : Bool := Nat.beq (zx x 0) (zm_rt M) && (Nat.beq (zx x 0) 9 || decide (decode (zm_b M) pc = .ok (zretI (zx x 0), 1)))
def zchkT (M : zMeth) (pc : Nat) (x : List Nat) : Bool := decide ((zm_y M).cls = "FormRiver") && (decide (decode (zm_b M) pc = .ok (.new (zx x 2), 3)) && (decide (decode (zm_b M) (pc + 3) = .ok (.dup, 1)) &&
  ((match zx x 1 with
    | 0 => decide (decode (zm_b M) (pc + 4) = .ok (.ldc (zx x 3), 2)) && (decide (decode (zm_b M) (pc + 6) = .ok (.invokespecial (zx x 4), 3)) && decide (decode (zm_b M) (pc + 9) = .ok (.athrow, 1)))
    | _ => decide (decode (zm_b M) (pc + 4) = .ok (.ldc_w (zx x 3), 3)) && (decide (decode (zm_b M) (pc + 7) = .ok (.invokespecial (zx x 4), 3)) && decide (decode (zm_b M) (pc + 10) = .ok (.athrow, 1)))) &&
  ((match zat zStr (zx x 5) with
    | some q => decide (q.1 = "FormRiver") && Nat.beq q.2.1 (zx x 3)
    | none => false) && (hasW (zx x 6) (.classLink (zm_y M).cls (zx x 2) (zEx (zx x 0))) && (hasW (zx x 7) (.initialized (zEx (zx x 0))) && (zexL.any (fun q => Nat.beq q.1 (zx x 4) && Nat.beq q.2 (zx x 0)) && (zm_hh M).isEmpty)))))))
def zdsc (y : MethodName) (n : Nat) : Bool := decide (y.cls ≠ "java/lang/invoke/MethodHandle") && (decide (y.cls ≠ "java/lang/invoke/VarHandle") && decide ((parseMethodDescriptor y.desc).map (fun d => d.parameters.length) = some n))
def zh4 (M : zMeth) : List (Nat × Nat × Nat × Nat) := (zm_hh M).map fun q => (q.1, q.2.1, q.2.2.1, q.2.2.2.1)
def zchkC (P : List zMeth) (M : zMeth) (pc : Nat) (x : List Nat) : Bool := match zat P (zx x 2) with
  | none => false
  | some M' => zdsc (zm_y M') (zx x 3) && (hasW (zx x 7) (.initialized (zm_y M').cls) && (match zx x 1 with
    | 0 => decide (decode (zm_b M) pc = .ok (.invokevirtual (zx x 0), 3)) && (hasW (zx x 5) (.code (zm_y M') (zm_b M') (zm_L M') (zm_ret M')) && (hasW (zx x 6) (.methodLink (zm_y M).cls (zx x 0) (zm_y M')) && (hasW (zx x 8) (.instanceMethod (zm_y M')) && (hasW (zx x 9) (.selects (zm_y M').cls (zm_y M') (zm_y M')) && ((match zat vwCl (zx x 4) with
      | some q => decide (q.1 = (zm_y M').cls)
      | none => false) && (zm_hh M').isEmpty)))))
    | 1 => decide (decode (zm_b M) pc = .ok (.invokestatic (zx x 0), 3)) && (hasW (zx x 5) (.code (zm_y M') (zm_b M') (zm_L M') (zm_ret M')) && (hasW (zx x 6) (.methodLink (zm_y M).cls (zx x 0) (zm_y M')) && (hasW (zx x 8) (.static (zm_y M')) && (zm_hh M').isEmpty)))
    | 2 => decide (decode (zm_b M) pc = .ok (.invokespecial (zx x 0), 3)) && (hasW (zx x 5) (.code (zm_y M') (zm_b M') (zm_L M') none) && (decide (zm_ret M' = none) && (hasW (zx x 6) (.methodLink (zm_y M).cls (zx x 0) (zm_y M')) && (hasW (zx x 8) (.instanceMethod (zm_y M')) && (decide ((zm_y M').name = "<init>") && (zm_hh M').isEmpty)))))
    | 3 => decide (decode (zm_b M) pc = .ok (.invokespecial (zx x 0), 3)) && (hasW (zx x 5) (.code (zm_y M') (zm_b M') (zm_L M') none) && (decide (zm_ret M' = none) && (decide (Cond.methodLinkNest (zm_y M).cls (zx x 0) (zm_y M') "FormRiverModel" ∈ zNws) && (hasW (zx x 8) (.instanceMethod (zm_y M')) && (decide ((zm_y M').name = "<init>") && (zm_hh M').isEmpty)))))
    | 4 => decide (decode (zm_b M) pc = .ok (.invokestatic (zx x 0), 3)) && (hasW (zx x 5) (.codeWith (zm_y M') (zm_b M') (zm_L M') (zm_ret M') (zh4 M')) && (hasW (zx x 6) (.methodLink (zm_y M).cls (zx x 0) (zm_y M')) && hasW (zx x 8) (.static (zm_y M'))))
    | _ => false))
def zchkI (P : List zMeth) (M : zMeth) (i : zIns) : Bool := match i.2.1 with
  | 0 => zchkR M i.1 i.2.2
  | 1 => zchkT M i.1 i.2.2
  | 2 => zchkC P M i.1 i.2.2
  | Nat.succ (Nat.succ (Nat.succ o)) => match zat zopT o with
    | some q => decide (decode (zm_b M) i.1 = .ok (q.1 i.1 i.2.2, q.2.1)) && q.2.2.1 M i.2.2
    | none => false
/-- the rows of the table of handlers: their classes by the pool -/
def zchkH (M : zMeth) (pl : List Nat) : Bool := (List.range (zm_hh M).length).all fun j => match zat (zm_hh M) j with
  | some h => hasW (zx pl j) (.classLink (zm_y M).cls h.2.2.2.1 (zEx h.2.2.2.2)) && !(Nat.beq h.2.2.2.1 0)
  | none => false
def zchk (P : List zMeth) (M : zMeth) : Prop := (∀ i ∈ zm_code M, zchkI P M i = true) ∧ plainName (zm_y M).cls = true ∧ zretT (zm_rt M) (zm_ret M) = true ∧ ∃ pl : List Nat, zchkH M pl = true
end
section
/-! THE RUN IS SOUND -/
def zNk : Cond → Bool
  | .castable _ _ => true
  | .methodLinkNest _ _ _ _ => true
  | .declares _ => true
  | .arrayOver _ => true
  | _ => false
theorem zNk_ok : ∀ w ∈ zNws, zNk w = true := by decide +kernel
theorem zNk_warm {w : Cond} (hk : zNk w = true) {s U : State} (hW : s.WarmedH U.vm) (h : va_Nw w s) : va_Nw w U := by
  match w, hk with
  | .castable C T, _ => exact va_Nw.warmC hW h
  | .methodLinkNest a i x hh, _ => exact va_Nw.warmM hW h
  | .declares x, _ => exact va_Nw.warmD hW h
  | .arrayOver t, _ =>
    have h1 : (Cond.arrayOver t).before #[] (s.setVm U.vm) = true := by rw [Cond.arrayOver_setVmC hW.alike t]; exact h
    exact h1
theorem zNk_same {w : Cond} (hk : zNk w = true) {s U : State} (hv : s.vm = U.vm) (h : va_Nw w s) : va_Nw w U := by
  match w, hk with
  | .castable C T, _ => exact va_Nw.same rfl hv h
  | .methodLinkNest a i x hh, _ => exact va_Nw.same rfl hv h
  | .declares x, _ => exact va_Nw.same rfl hv h
  | .arrayOver t, _ =>
    have h1 : (Cond.arrayOver t).before #[] (s.setVm U.vm) = true := by rw [← hv]; exact h
    exact h1
def zS5 (X : zX) (ev : zEv) (U : State) : Prop := zx0 X ≤ U.heap.size ∧ zStat (zxb X) (zxL X) (zxt X) (zx0 X) (zxr X) U U.heap ∧ zStrOK (zxs X) U ∧ zAO U
theorem zS5_same {X : zX} {ev : zEv} {s U : State} (hv : s.vm = U.vm) (hh : s.heap = U.heap) (h : zS5 X ev s) : zS5 X ev U := by
  have hA : s.vm.Alike U.vm := by rw [hv]; exact Vm.Alike.refl _
  obtain ⟨h1, ⟨a1, a2, a3, ⟨f, a4⟩, a5, a6⟩, h3, h4⟩ := h
  rw [hh] at h1 a1 a2 a3 a4 a5
  exact ⟨h1, ⟨a1.moved hA, a2.moved hA, a3.moved hA, ⟨f, a4.moved hA⟩, a5.moved hA, a6⟩, fun i q hq => vk_R.same hv.symm (h3 i q hq), fun w hw => zNk_same (zNk_ok w hw) hv (h4.1 w hw), fun q hq => (h4.2 q hq).moved hA⟩
theorem zS5_to {X : zX} {ev : zEv} {s U : State} {H : Heap} {locs : List Loc} (h : zS5 X ev s) (hS : va_S (fun q => zx0 X ≤ q) s.heap H locs) (hH : U.heap = H) (hW : s.WarmedH U.vm) : zS5 X ev U := by
  obtain ⟨h1, ⟨a1, a2, a3, ⟨f, a4⟩, a5, a6⟩, h3, h4⟩ := h
  have hA := hW.alike
  subst hH
  refine ⟨Nat.le_trans h1 hS.1, ⟨(a1.moved hA).kept hS.2.1, (a2.moved hA).kept hS.2.1, (a3.moved hA).kept hS.2.1, ⟨f, (a4.moved hA).kept hS.2.1⟩, (a5.moved hA).kept (hS.2.1 _ (Nat.lt_of_lt_of_le a6 h1) (Nat.not_le.mpr a6)), a6⟩, fun i q hq => vk_R.warm hW (h3 i q hq), fun w hw => zNk_warm (zNk_ok w hw) hW (h4.1 w hw), fun q hq => (h4.2 q hq).moved hA⟩
theorem zHp_to {X : zX} {s U : State} {G : zH} {ad : Nat → Nat} {ca : Nat → ClassId} {tys : List (ClassId × FieldType)} {H : Heap} (h : zHp X s G ad ca tys H) (hA : s.vm.Alike U.vm) : zHp X U G ad ca tys H := ⟨va_K.moved hA h.1, h.2⟩
def zPc (X : zX) (ev : zEv) (av : List zAV) (G : zH) (ad0 : Nat → Nat) : Array Value → State → Prop := fun a U => a = (av.map (zV (zxr X) ad0 (zxb X) (zxt X))).toArray ∧ (∃ ca tys, zHp X U G ad0 ca tys U.heap) ∧ zS5 X ev U
theorem zPc_blind {X : zX} {ev : zEv} {av : List zAV} {G : zH} {ad0 : Nat → Nat} : FrameBlind (zPc X ev av G ad0) := by
  intro a U g mk h
  obtain ⟨h1, ⟨ca, tys, h2⟩, h3⟩ := h
  exact ⟨h1, ⟨ca, tys, zHp_to h2 (Vm.Alike.refl U.vm)⟩, zS5_same (s := U) rfl rfl h3⟩
def zrv (X : zX) (ad : Nat → Nat) (stk : List zAV) : Option Value := match stk with
  | [] => none
  | v :: _ => some (zV (zxr X) ad (zxb X) (zxt X) v)
def zB (X : zX) (n0 : Nat) (ad0 : Nat → Nat) (G : zH) (st t : State) (ad : Nat → Nat) : Prop := (∀ k, k < n0 → ad k = ad0 k) ∧ n0 ≤ G.length ∧ (∃ ca tys, zHp X t G ad ca tys t.heap) ∧ va_F (fun q => zx0 X ≤ q) st t
def zQr (X : zX) (n0 : Nat) (ad0 : Nat → Nat) (r : zRes) : Array Value → State → Outcome → State → Prop := fun _ st o t => r.1 = 0 ∧ ∃ ad, o = .returned (zrv X ad r.2.2.2.2.1) ∧ zB X n0 ad0 r.2.2.2.2.2.1 st t ad
def zXr (X : zX) (n0 : Nat) (ad0 : Nat → Nat) (r : zRes) : String → State → State → Prop := fun E st t => r.1 ≠ 0 ∧ E = zEx r.2.1 ∧ ∃ ad, zB X n0 ad0 r.2.2.2.2.2.1 st t ad
/-- what an end by an exception must meet -/
def zXh (X : zX) (n0 : Nat) (ad0 : Nat → Nat) (s : State) (r : zRes) (XC : String → State → State → Prop) : Prop :=
  ∀ ad ca tys H locs (t : State), zHp X s r.2.2.2.2.2.1 ad ca tys H → va_S (fun q => zx0 X ≤ q) s.heap H locs → n0 ≤ r.2.2.2.2.2.1.length → (∀ k, k < n0 → ad k = ad0 k) → s.vm.Alike t.vm → H.size ≤ t.heap.size → (∀ q : Nat, q < H.size → t.heap[q]? = H[q]?) → XC (zEx r.2.1) s t
theorem zB_of {X : zX} {n0 : Nat} {ad0 ad : Nat → Nat} {s t : State} {G : zH} {ca : Nat → ClassId} {tys : List (ClassId × FieldType)} {H : Heap} {locs : List Loc} (h : zHp X s G ad ca tys H) (hS : va_S (fun q => zx0 X ≤ q) s.heap H locs) (hn : n0 ≤ G.length) (ha : ∀ k, k < n0 → ad k = ad0 k) (hA : s.vm.Alike t.vm) (hz : H.size ≤ t.heap.size) (hq : ∀ q : Nat, q < H.size → t.heap[q]? = H[q]?) : zB X n0 ad0 G s t ad :=
  ⟨ha, hn, ⟨ca, tys, va_K.moved hA h.1, h.2.1.kept (fun k q hk => hq q.1 (vx_lt h.2.1 hk)), h.2.2⟩, Nat.le_trans hS.1 hz, fun q h1 h2 => (hq q (Nat.lt_of_lt_of_le h1 hS.1)).trans (hS.2.1 q h1 h2)⟩
theorem zXh_r {X : zX} {n0 : Nat} {ad0 : Nat → Nat} {s : State} {r : zRes} (hr : r.1 ≠ 0) : zXh X n0 ad0 s r (zXr X n0 ad0 r) :=
  fun ad _ _ _ _ _ h1 h2 h3 h4 h5 h6 h7 => ⟨hr, rfl, ad, zB_of h1 h2 h3 h4 h5 h6 h7⟩
/-- the words of a method: its code, and all that the tables say -/
def zws (M : zMeth) : List Cond := Cond.code (zm_y M) (zm_b M) (zm_L M) (zm_ret M) :: tblG
theorem zgood {w : Cond} (h : w ∈ tblG) : (w.onTables && w.keeps) = true ∨ ∃ ty, w = .arrayClass ty := good_of_word (List.mem_filter.mp h).2
theorem zwsG {M : zMeth} (h : Cond.code (zm_y M) (zm_b M) (zm_L M) (zm_ret M) ∈ tblG) : GoodIn tblG (zws M) := fun w hw => by
  rcases List.mem_cons.mp hw with e | e
  · rw [e]; exact ⟨h, zgood h⟩
  · exact ⟨e, zgood e⟩
def zws4 (M : zMeth) : List Cond := Cond.codeWith (zm_y M) (zm_b M) (zm_L M) (zm_ret M) (zh4 M) :: tblG
theorem zws4G {M : zMeth} (h : Cond.codeWith (zm_y M) (zm_b M) (zm_L M) (zm_ret M) (zh4 M) ∈ tblG) : GoodIn tblG (zws4 M) := fun w hw => by
  rcases List.mem_cons.mp hw with e | e
  · rw [e]; exact ⟨h, zgood h⟩
  · exact ⟨e, zgood e⟩
/-- a body's run: what is to be shown of it -/
def zSound (P : List zMeth) (ev : zEv) (X : zX) (l : Launch) (f : Nat) : Prop := ∀ (M : zMeth), zchk P M → ∀ (st : zSt) (r : zRes), zrun P ev f M st = some r →
  ∀ (p : Program) (e : Env) (R : Room) (s : State) (m : MethodId) (args : Array Value) (below : List Frame) (meth : Method) (c : Code) (Q : State → Prop) (n0 : Nat) (ad0 : Nat → Nat), zCx p l R s m args meth c M ev X →
    (r.1 = 0 → ∀ x, zins (zm_code M) r.2.2.1 = some (0, x) → zGo p l e R s m args below meth c Q X (zm_L M) n0 ad0 r.2.2) →
    (r.1 ≠ 0 → ∃ (Qc : Array Value → State → Outcome → State → Prop) (XC : String → State → State → Prop), Q = vx_MQ below Qc XC args s R.cells R.slots (fun q => zx0 X ≤ q) ∧ zXh X n0 ad0 s r XC) →
    zGo p l e R s m args below meth c Q X (zm_L M) n0 ad0 st
/-- a return -/
theorem zret {P : List zMeth} {M : zMeth} {ev : zEv} {X : zX} {p : Program} {l : Launch} {e : Env} {R : Room} {s : State} {m : MethodId} {args : Array Value} {below : List Frame} {meth : Method} {c : Code} {n0 : Nat} {ad0 : Nat → Nat} {Qc : Array Value → State → Outcome → State → Prop} {XC : String → State → State → Prop} {r : zRes} {x : List Nat}
    (cx : zCx p l R s m args meth c M ev X) (hc : zchk P M) (hx : zins (zm_code M) r.2.2.1 = some (0, x)) (h0 : zretok (zm_rt M) r.2.2.2.2.1 = true) (hcu : r.2.2.2.2.2.2.1 ≤ R.cells) (hsu : r.2.2.2.2.2.2.2 ≤ R.slots)
    (hQ : ∀ ad (t : State), zB X n0 ad0 r.2.2.2.2.2.1 s t ad → Qc args s (.returned (zrv X ad r.2.2.2.2.1)) t) :
    zGo p l e R s m args below meth c (MQ below Qc args s R.cells R.slots (fun q => zx0 X ≤ q)) X (zm_L M) n0 ad0 r.2.2 := by
  obtain ⟨r1, r2, pc, L, stk, G, cu, su⟩ := r
  have hTT := hc.2.2.1
  have hi0 : zchkR M pc x = true := hc.1 _ (zins_mem hx)
  simp only [zchkR, Bool.and_eq_true] at hi0
  have hrt : zx x 0 = zm_rt M := Nat.eq_of_beq_eq_true hi0.1
  have hdd := hi0.2
  rw [hrt] at hdd
  have hsig := cx.2.2.2.2.2.2.2.2.2.2.2.2.2.2.1
  have hlk := cx.2.2.2.2.2.2.2.2.1
  dsimp only at h0 hcu hsu hQ hx
  intro ad ca tys H locs ls hR
  refine W.widen hcu hsu ?_
  have hB : ∀ t : State, t.heap = H → s.WarmedH t.vm → zB X n0 ad0 G s t ad := fun t ht hW => zB_of hR.2.1 hR.2.2.1 hR.2.2.2.1 hR.2.2.2.2 hW.alike (by rw [ht]; exact Nat.le_refl _) (fun q _ => by rw [ht])
  have hf := hR.2.2.1.2.2
  generalize hrtv : zm_rt M = rt at h0 hTT hdd
  cases stk with
  | nil =>
    have h0 : rt = 0 := Nat.eq_of_beq_eq_true h0
    subst h0
    have hT : zm_ret M = none := of_decide_eq_true hTT
    rw [hT] at hsig
    simp only [Bool.or_eq_true] at hdd
    have hi : decode (zm_b M) pc = .ok (.return_, 1) := by
      rcases hdd with h | h
      · cases h
      · exact of_decide_eq_true h
    exact W.vret cx.1 cx.2.1 hsig (fun t ht hW => hQ ad t (hB t ht hW)) hf hi hlk
  | cons v tl =>
  cases tl with
  | cons _ _ => cases h0
  | nil =>
  match rt, h0, hTT, hdd with
  | 1, g0, gT, gi =>
    have hT : zm_ret M = some .int := of_decide_eq_true gT
    rw [hT] at hsig
    have hdg : decode (zm_b M) pc = .ok (.ireturn, 1) := of_decide_eq_true gi
    have hv := zV_I (ρ := zxr X) (ad := ad) (b := zxb X) (td := zxt X) g0
    simp only [List.map_cons, List.map_nil]
    rw [hv]
    exact W.iret cx.1 cx.2.1 hsig (fun t ht hW => by have h9 := hQ ad t (hB t ht hW); simp only [zrv] at h9; rw [hv] at h9; exact h9) hf hdg hlk
  | 2, g0, gT, gi =>
    have hT : zm_ret M = some .boolean := of_decide_eq_true gT
    rw [hT] at hsig
    have hdg : decode (zm_b M) pc = .ok (.ireturn, 1) := of_decide_eq_true gi
    have hv := zV_I (ρ := zxr X) (ad := ad) (b := zxb X) (td := zxt X) (zb_I g0)
    have hfit := (zfit_ok (ρ := zxr X) (ad := ad) (b := zxb X) (td := zxt X) (ty := .boolean) g0).1
    rw [hv] at hfit
    simp only [List.map_cons, List.map_nil]
    rw [hv]
    exact W.zret cx.1 cx.2.1 hsig hfit (fun t ht hW => by have h9 := hQ ad t (hB t ht hW); simp only [zrv] at h9; rw [hv] at h9; exact h9) hf hdg hlk
  | 3, g0, gT, gi =>
    have hT : zm_ret M = some .char := of_decide_eq_true gT
    rw [hT] at hsig
    have hdg : decode (zm_b M) pc = .ok (.ireturn, 1) := of_decide_eq_true gi
    simp only [zretok, Bool.and_eq_true] at g0
    have hv := zV_0 (ρ := zxr X) (ad := ad) (b := zxb X) (td := zxt X) g0.1
    have hlt : v.2 < 65536 := by simpa using g0.2
    have hnar : narrow .char (.int (nI v.2)) = .int (nI v.2) := by
      have h9 : narrow .char (.int (nI v.2)) = .int (nI v.2).toUInt32.toUInt16.toUInt32.toInt32 := rfl
      have h8 : (nI v.2).toUInt32.toNat = v.2 := by simp [nI]; omega
      have h7 : (nI v.2).toUInt32.toUInt16.toUInt32 = (nI v.2).toUInt32 := by
        apply UInt32.toNat_inj.mp
        simp only [UInt32.toNat_toUInt16, UInt16.toNat_toUInt32, h8]
        omega
      rw [h9, h7]
      simp
    simp only [List.map_cons, List.map_nil]
    rw [hv]
    exact W.zret cx.1 cx.2.1 hsig hnar (fun t ht hW => by have h9 := hQ ad t (hB t ht hW); simp only [zrv] at h9; rw [hv] at h9; exact h9) hf hdg hlk
  | 4, g0, gT, gi =>
    have hT : zm_ret M = some .long := of_decide_eq_true gT
    rw [hT] at hsig
    have hdg : decode (zm_b M) pc = .ok (.lreturn, 1) := of_decide_eq_true gi
    have hv := zV_J (ρ := zxr X) (ad := ad) (b := zxb X) (td := zxt X) g0
    simp only [List.map_cons, List.map_nil]
    rw [hv]
    exact W.lret cx.1 cx.2.1 hsig (fun t ht hW => by have h9 := hQ ad t (hB t ht hW); simp only [zrv] at h9; rw [hv] at h9; exact h9) hf hdg hlk
  | 5, g0, gT, gi =>
    have hdg : decode (zm_b M) pc = .ok (.areturn, 1) := of_decide_eq_true gi
    have hv := zV_R (ρ := zxr X) (ad := ad) (b := zxb X) (td := zxt X) g0
    obtain ⟨rtt, hrt1, hrt2⟩ : ∃ rtt, zm_ret M = some rtt ∧ ((∃ n, rtt = .object n) ∨ ∃ t, rtt = .array t) := by
      generalize zm_ret M = q at gT
      match q, gT with
      | some (.object n), _ => exact ⟨_, rfl, Or.inl ⟨n, rfl⟩⟩
      | some (.array t), _ => exact ⟨_, rfl, Or.inr ⟨t, rfl⟩⟩
    rw [hrt1] at hsig
    simp only [List.map_cons, List.map_nil]
    rw [hv]
    have hvv : va_rf (zR ad (zxb X) (zxt X) v) = .null ∨ ∃ a, va_rf (zR ad (zxb X) (zxt X) v) = .ref a := by
      cases zR ad (zxb X) (zxt X) v with
      | none => exact Or.inl rfl
      | some a => exact Or.inr ⟨a, rfl⟩
    exact W.aret cx.1 cx.2.1 hsig hrt2 hvv (fun t ht hW => by have h9 := hQ ad t (hB t ht hW); simp only [zrv] at h9; rw [hv] at h9; exact h9) hf hdg hlk
  | 6, g0, gT, gi =>
    have hT : zm_ret M = some .double := of_decide_eq_true gT
    rw [hT] at hsig
    have hdg : decode (zm_b M) pc = .ok (.dreturn, 1) := of_decide_eq_true gi
    have hv := zV_D (ρ := zxr X) (ad := ad) (b := zxb X) (td := zxt X) g0
    simp only [List.map_cons, List.map_nil]
    rw [hv]
    exact W.dret cx.1 cx.2.1 hsig (fun t ht hW => by have h9 := hQ ad t (hB t ht hW); simp only [zrv] at h9; rw [hv] at h9; exact h9) hf hdg hlk
  | 7, g0, gT, gi =>
    have hT : zm_ret M = some .float := of_decide_eq_true gT
    rw [hT] at hsig
    have hdg : decode (zm_b M) pc = .ok (.freturn, 1) := of_decide_eq_true gi
    have hv := zV_F (ρ := zxr X) (ad := ad) (b := zxb X) (td := zxt X) g0
    simp only [List.map_cons, List.map_nil]
    rw [hv]
    exact W.fret cx.1 cx.2.1 hsig (fun t ht hW => by have h9 := hQ ad t (hB t ht hW); simp only [zrv] at h9; rw [hv] at h9; exact h9) hf hdg hlk
/-- the start of a body -/
theorem zentry {X : zX} {s : State} {nL : Nat} {as : List zAV} {G : zH} {ad0 : Nat → Nat} {ca : Nat → ClassId} {tys : List (ClassId × FieldType)} (hfit : zcats as ≤ nL) (hH : zHp X s G ad0 ca tys s.heap) :
    ∃ ls : Array Slot, (∀ m : MethodId, entryFrame m (as.map (zV (zxr X) ad0 (zxb X) (zxt X))).toArray nL = F0 m 0 ls []) ∧ zRp X s nL G.length ad0 (zargL 0 as) G ad0 ca tys s.heap [] ls := by
  have hl := lv_entry (as.map (zV (zxr X) ad0 (zxb X) (zxt X))) (n := nL) (by rw [zlgsl]; exact hfit)
  refine ⟨_, fun m => lg_entry_eq m _ nL, ?_, hH, va_S.rf, Nat.le_refl _, fun _ _ => rfl⟩
  rw [zlvargs] at hl
  exact hl
theorem zmet {P : List zMeth} {ev : zEv} {X : zX} {l : Launch} {f : Nat} (IH : zSound P ev X l f) (hev : zEvOK X ev) (hl : l.stackTraces = false) {M : zMeth} (hc : zchk P M) (hh : zm_hh M = []) {as : List zAV} {G : zH} {r : zRes} (hr : zrun P ev f M (0, zargL 0 as, [], G, 0, 0) = some r) (hfit : zcats as ≤ zm_L M)
    (h0 : r.1 = 0 → zretok (zm_rt M) r.2.2.2.2.1 = true ∧ r.2.2.2.2.2.2.1 ≤ (zm_rm M).2.1 ∧ r.2.2.2.2.2.2.2 ≤ (zm_rm M).2.2.1) (ad0 : Nat → Nat) :
    vx_Met l (zm_y M) (zws M) (zroom M) (zPc X ev as G ad0) (zQr X G.length ad0 r) (zXr X G.length ad0 r) (zm_rm M).2.1 (zm_rm M).2.2.1 (fun q => zx0 X ≤ q) := by
  refine vx_ofW (cc := zm_b M) (maxL := zm_L M) (ret := zm_ret M) hc.2.1 rfl ?_
  intro p e s m args below meth c s₁ B hml htab hv
  obtain ⟨rfl, ⟨ca, tys, hH⟩, h5⟩ := hv
  have hts0 : ∀ w ∈ zws M, w.before (as.map (zV (zxr X) ad0 (zxb X) (zxt X))).toArray s = true := atoms_spec (ws := zws M) B.pre
  have htl : c.exceptionTable.toList = tableOf ((zm_hh M).map fun q => (q.1, q.2.1, q.2.2.1, q.2.2.2.1)) := by
    rw [hh]
    cases hq : c.exceptionTable.toList with
    | nil => rfl
    | cons a t => exact (htab a (by rw [hq]; exact List.mem_cons_self)).elim
  have cx : zCx p l (zroom M) s m (as.map (zV (zxr X) ad0 (zxb X) (zxt X))).toArray meth c M ev X :=
    ⟨B.exec, B.bytes, hml, findClass_of_methodNamed B.named, fun w hw => hts0 w (List.mem_cons_of_mem _ hw), rfl, h5.1, hev, B.notSynchronized, (name_of_methodNamed B.named B.method).1, h5.2.1, h5.2.2.1, h5.2.2.2, hl, B.returns, htl⟩
  obtain ⟨ls, he, hR⟩ := zentry hfit hH
  rw [he]
  refine IH M hc _ r hr p e (zroom M) s m _ below meth c _ G.length ad0 cx ?_ ?_ ad0 ca tys s.heap [] ls hR
  · intro hr0 x hx
    obtain ⟨g1, g2, g3⟩ := h0 hr0
    have hz := zret (p := p) (l := l) (e := e) (below := below) (n0 := G.length) (ad0 := ad0) (Qc := zQr X G.length ad0 r) (XC := zXr X G.length ad0 r) cx hc hx g1 g2 g3 (fun ad t hB => ⟨hr0, ad, rfl, hB⟩)
    intro ad ca tys H locs ls hR
    exact vx_ret (hz ad ca tys H locs ls hR)
  · intro hr0
    exact ⟨_, _, rfl, zXh_r hr0⟩
/-- the same of a method with handlers that lets nothing out -/
theorem zmet4 {P : List zMeth} {ev : zEv} {X : zX} {l : Launch} {f : Nat} (IH : zSound P ev X l f) (hev : zEvOK X ev) (hl : l.stackTraces = false) {M : zMeth} (hc : zchk P M) {as : List zAV} {G : zH} {r : zRes} (hr : zrun P ev f M (0, zargL 0 as, [], G, 0, 0) = some r) (hfit : zcats as ≤ zm_L M) (hr0 : r.1 = 0)
    (h0 : zretok (zm_rt M) r.2.2.2.2.1 = true ∧ r.2.2.2.2.2.2.1 ≤ (zm_rm M).2.1 ∧ r.2.2.2.2.2.2.2 ≤ (zm_rm M).2.2.1) (ad0 : Nat → Nat) :
    Met l (zm_y M) (zws4 M) (zroom M) (zPc X ev as G ad0) (zQr X G.length ad0 r) (zm_rm M).2.1 (zm_rm M).2.2.1 (fun q => zx0 X ≤ q) := by
  refine va_MetW (cc := zm_b M) (maxL := zm_L M) (ret := zm_ret M) (hh := zh4 M) hc.2.1 rfl ?_
  intro p e s m args below meth c s₁ B hml hv
  obtain ⟨rfl, ⟨ca, tys, hH⟩, h5⟩ := hv
  have hts0 : ∀ w ∈ zws4 M, w.before (as.map (zV (zxr X) ad0 (zxb X) (zxt X))).toArray s = true := atoms_spec (ws := zws4 M) B.pre
  have htl : c.exceptionTable.toList = tableOf ((zm_hh M).map fun q => (q.1, q.2.1, q.2.2.1, q.2.2.2.1)) := vx_table (x := zm_y M) B (hts0 _ List.mem_cons_self)
  have cx : zCx p l (zroom M) s m (as.map (zV (zxr X) ad0 (zxb X) (zxt X))).toArray meth c M ev X :=
    ⟨B.exec, B.bytes, hml, findClass_of_methodNamed B.named, fun w hw => hts0 w (List.mem_cons_of_mem _ hw), rfl, h5.1, hev, B.notSynchronized, (name_of_methodNamed B.named B.method).1, h5.2.1, h5.2.2.1, h5.2.2.2, hl, B.returns, htl⟩
  obtain ⟨ls, he, hR⟩ := zentry hfit hH
  rw [he]
  refine IH M hc _ r hr p e (zroom M) s m _ below meth c _ G.length ad0 cx ?_ ?_ ad0 ca tys s.heap [] ls hR
  · intro _ x hx
    exact zret (p := p) (l := l) (e := e) (below := below) (n0 := G.length) (ad0 := ad0) (Qc := zQr X G.length ad0 r) (XC := zXr X G.length ad0 r) cx hc hx h0.1 h0.2.1 h0.2.2 (fun ad t hB => ⟨hr0, ad, rfl, hB⟩)
  · intro h
    exact absurd hr0 h
end
section
/-! THE RUN IS SOUND: throws, calls, and the whole -/
theorem zany {L : List (Nat × Nat)} {a b : Nat} (h : (L.any fun q => Nat.beq q.1 a && Nat.beq q.2 b) = true) : (a, b) ∈ L := by
  obtain ⟨q, hq, h2⟩ := List.any_eq_true.mp h
  obtain ⟨q1, q2⟩ := q
  simp only [Bool.and_eq_true] at h2
  have e1 : q1 = a := Nat.eq_of_beq_eq_true h2.1
  have e2 : q2 = b := Nat.eq_of_beq_eq_true h2.2
  subst e1; subst e2
  exact hq
theorem zthrow {P : List zMeth} {M : zMeth} {ev : zEv} {X : zX} {p : Program} {l : Launch} {e : Env} {R : Room} {s : State} {m : MethodId} {args : Array Value} {below : List Frame} {meth : Method} {c : Code} {n0 : Nat} {ad0 : Nat → Nat} {Qc : Array Value → State → Outcome → State → Prop} {XC : String → State → State → Prop} {x : List Nat}
    {pc : Nat} {L : zL} {stk : List zAV} {G : zH} {cu su : Nat} (cx : zCx p l R s m args meth c M ev X) (hi : zchkT M pc x = true)
    (hfr : 5 < R.frames) (hlo : zcats stk + 82 ≤ R.locals) (hce : cu + 1 ≤ R.cells) (hsl : su + 6 ≤ R.slots) (hX : zXh X n0 ad0 s (1, zx x 0, (pc, L, stk, G, cu, su)) XC) :
    zGo p l e R s m args below meth c (vx_MQ below Qc XC args s R.cells R.slots (fun q => zx0 X ≤ q)) X (zm_L M) n0 ad0 (pc, L, stk, G, cu, su) := by
  simp only [zchkT, Bool.and_eq_true] at hi
  obtain ⟨ho, d0, d3, ⟨hd, hst, hk, hin, hex, hnh⟩⟩ := hi
  have ho : (zm_y M).cls = "FormRiver" := of_decide_eq_true ho
  have d0 := of_decide_eq_true d0
  have d3 := of_decide_eq_true d3
  have hex := zany hex
  have hnh : zm_hh M = [] := List.isEmpty_iff.mp hnh
  have hts := cx.2.2.2.2.1
  have hAO := cx.2.2.2.2.2.2.2.2.2.2.2.2.1
  have hZ := cx.2.2.2.2.2.2.2.2.2.2.1
  have htab : ∀ y ∈ c.exceptionTable.toList, False := by
    rw [cx.2.2.2.2.2.2.2.2.2.2.2.2.2.2.2, hnh]
    intro y hy
    cases hy
  have hown : s.vm.findClass "FormRiver" = some m.cls := by rw [← ho]; exact cx.2.2.2.1
  rw [ho] at hk
  have hW1 : ∀ w ∈ zexF "FormRiver" (zx x 4) (zEx (zx x 0)) (zexi (zx x 0)) (zexb (zx x 0)), w.before args s = true := fun w hw => by
    rcases zexL_ok _ hex w hw with ⟨h1, h2⟩ | h1
    · exact hts w (List.mem_filter.mpr ⟨h1, h2⟩)
    · have hk9 := zNk_ok w h1
      have h9 := hAO.1 w h1
      match w, hk9, h9 with
      | .castable C T, _, h9 => exact va_Nw.use rfl h9
      | .methodLinkNest a i y hh, _, h9 => exact va_Nw.use rfl h9
      | .declares y, _, h9 => exact va_Nw.use rfl h9
      | .arrayOver t, _, h9 => exact h9
  have hW2 : ∀ w ∈ Cond.classLink "FormRiver" (zx x 2) (zEx (zx x 0)) :: Cond.initialized (zEx (zx x 0)) :: zexF "FormRiver" (zx x 4) (zEx (zx x 0)) (zexi (zx x 0)) (zexb (zx x 0)), vx_ot w = true := fun w hw => by
    rcases List.mem_cons.mp hw with h | hw
    · rw [h]; rfl
    rcases List.mem_cons.mp hw with h | hw
    · rw [h]; rfl
    exact zexL_ot _ hex w hw
  obtain ⟨hdx, hfitc⟩ := zexL_d _ hex
  cases hq : zat zStr (zx x 5) with
  | none => rw [hq] at hst; cases hst
  | some q =>
  rw [hq] at hst
  simp only [Bool.and_eq_true] at hst
  have hq1 : q.1 = "FormRiver" := of_decide_eq_true hst.1
  have hq2 : q.2.1 = zx x 3 := Nat.eq_of_beq_eq_true hst.2
  have hR9 := cx.2.2.2.2.2.2.2.2.2.2.2.1 (zx x 5) q (zat_some hq)
  rw [hq1, hq2] at hR9
  intro ad ca tys H locs ls hR
  have hsz : ls.size = c.maxLocals := by rw [cx.2.2.1]; exact hR.1.1
  have hlo2 : ((stk.map (zV (zxr X) ad (zxb X) (zxt X))).map fun v => v.category).sum + (13 * (2 + 1) + 43) ≤ R.locals := by rw [zcats_eq]; omega
  have hx9 : ∀ t : State, s.vm.Alike t.vm → H.size ≤ t.heap.size → (∀ q : Nat, q < H.size → t.heap[q]? = H[q]?) → XC (zEx (zx x 0)) s t := fun t h1 h2 h3 => hX ad ca tys H locs t hR.2.1 hR.2.2.1 hR.2.2.2.1 hR.2.2.2.2 h1 h2 h3
  cases hw : zx x 1 with
  | zero =>
    rw [hw] at hd
    simp only [Bool.and_eq_true] at hd
    obtain ⟨d4, d6, d9⟩ := hd
    exact zx_throwS cx.1 cx.2.1 cx.2.2.2.2.2.2.2.2.2.2.2.2.2.1 hown hfitc hdx (zw (M := M) hts hk) (zw (M := M) hts hin) hR9 hW1 hW2 hZ.1 hZ.2.1 hR.2.2.1 hsz d0 d3 (of_decide_eq_true d4) (of_decide_eq_true d6) (of_decide_eq_true d9) (fun y hy => (htab y hy).elim) hfr hlo2 hce hsl cx.2.2.2.2.2.2.2.2.1 hx9 hR.2.2.1.2.2 hce hsl
  | succ n =>
    rw [hw] at hd
    simp only [Bool.and_eq_true] at hd
    obtain ⟨d4, d6, d9⟩ := hd
    exact zx_throwSW cx.1 cx.2.1 cx.2.2.2.2.2.2.2.2.2.2.2.2.2.1 hown hfitc hdx (zw (M := M) hts hk) (zw (M := M) hts hin) hR9 hW1 hW2 hZ.1 hZ.2.1 hR.2.2.1 hsz d0 d3 (of_decide_eq_true d4) (of_decide_eq_true d6) (of_decide_eq_true d9) (fun y hy => (htab y hy).elim) hfr hlo2 hce hsl cx.2.2.2.2.2.2.2.2.1 hx9 hR.2.2.1.2.2 hce hsl
/-- behind a call -/
theorem zafter {X : zX} {p : Program} {l : Launch} {e : Env} {R : Room} {s : State} {m : MethodId} {args : Array Value} {below : List Frame} {meth : Method} {c : Code} {Q : State → Prop} {n mc ms pc cu su : Nat} {ad : Nat → Nat} {r : zRes} {a : Array Value} {H : Heap} {locs : List Loc} {ls : Array Slot} {st0 rest : List Value}
    (hr : vx_Run p l e R s m args below meth c H locs cu su mc ms (F0 m pc ls st0) rest (zQr X n ad r a) (zXr X n ad r) (fun q => zx0 X ≤ q)) (hS : va_S (fun q => zx0 X ≤ q) s.heap H locs)
    (kk : r.1 = 0 → ∀ ad' ca' tys' H1 locs1, (∀ k, k < n → ad' k = ad k) → n ≤ r.2.2.2.2.2.1.length → zHp X s r.2.2.2.2.2.1 ad' ca' tys' H1 → va_S (fun q => zx0 X ≤ q) s.heap H1 locs1 → W p l e R s m args below meth c H1 locs1 (cu + mc) (su + ms) Q (F0 m (pc + 3) ls ((zrv X ad' r.2.2.2.2.1).toList ++ rest)))
    (kx : r.1 ≠ 0 → ∀ ad' ca' tys' H1 locs1 (q9 : Nat) (ce : Cell), (∀ k, k < n → ad' k = ad k) → n ≤ r.2.2.2.2.2.1.length → zHp X s r.2.2.2.2.2.1 ad' ca' tys' H1 → va_S (fun q => zx0 X ≤ q) s.heap H1 locs1 → H1[q9]? = some ce → ce.vm = .none → s.vm.findClass (zEx r.2.1) = some ce.cls → vx_W p l e R s m args below meth c H1 locs1 (cu + mc) (su + ms) Q (F0 m pc ls rest) q9) :
    W p l e R s m args below meth c H locs cu su Q (F0 m pc ls st0) := by
  intro T hT X1
  rcases hr T hT X1 with ⟨v, st₀, t, T', L, h0, X', hL, e1, e2, ⟨hr0, ad', ho, ha, hn, ⟨ca', tys', hH⟩, hF⟩, st⟩ | ⟨q, st₀, t, T', L, E, ce, h0, X', hL, e1, e2, ⟨hr0, hE, ad', ha, hn, ⟨ca', tys', hH⟩, hF⟩, hce, hcv, hcl, st⟩
  · obtain ⟨-, -, k3⟩ := vx_keep h0 e1 hS (fun _ _ h => h) (fun _ h => h) hL hF
    have hv : v = zrv X ad' r.2.2.2.2.1 := by injection ho
    subst hv
    have hA : t.vm.Alike s.vm := by rw [← e2]; exact X'.warmed.alike.symm
    have hH' : zHp X s r.2.2.2.2.2.1 ad' ca' tys' T'.heap := by rw [e1]; exact zHp_to hH hA
    obtain ⟨t2, a1, b1⟩ := kk hr0 ad' ca' tys' T'.heap (locs ++ L) ha hn hH' k3 T' rfl X'
    exact ⟨t2, st t2 a1, b1⟩
  · obtain ⟨-, -, k3⟩ := vx_keep h0 e1 hS (fun _ _ h => h) (fun _ h => h) hL hF
    have hA : t.vm.Alike s.vm := by rw [← e2]; exact X'.warmed.alike.symm
    have hH' : zHp X s r.2.2.2.2.2.1 ad' ca' tys' T'.heap := by rw [e1]; exact zHp_to hH hA
    obtain ⟨t2, a1, b1⟩ := kx hr0 ad' ca' tys' T'.heap (locs ++ L) q ce ha hn hH' k3 (by rw [e1]; exact hce) hcv (by rw [← hE]; exact hcl) T' rfl X'
    exact ⟨t2, st.trans a1, b1⟩
theorem zhand_ok : ∀ {hh : List (Nat × Nat × Nat × Nat × Nat)} {pc e hpc : Nat}, zhand hh pc e = some hpc → ∃ pre x suf, hh = pre ++ x :: suf ∧ (x.1 ≤ pc ∧ pc < x.2.1) ∧ x.2.2.2.2 = e ∧ x.2.2.1 = hpc ∧ ∀ z ∈ pre, ¬ (z.1 ≤ pc ∧ pc < z.2.1) ∨ (e, z.2.2.2.2) ∈ zNcN
  | [], _, _, _, h => by cases h
  | y :: t, pc, e, hpc, h => by
    unfold zhand at h
    cases hc : (Nat.ble y.1 pc && Nat.blt pc y.2.1) with
    | true =>
      rw [hc] at h
      have hcv : y.1 ≤ pc ∧ pc < y.2.1 := by simpa using hc
      cases he : Nat.beq y.2.2.2.2 e with
      | true =>
        rw [he] at h
        exact ⟨[], y, t, rfl, hcv, Nat.eq_of_beq_eq_true he, by simpa using h, fun z hz => by cases hz⟩
      | false =>
        rw [he] at h
        have h2 := (zc h).1
        obtain ⟨pre, x, suf, e1, e2, e3, e4, e5⟩ := zhand_ok (zc h).2
        refine ⟨y :: pre, x, suf, by rw [e1]; rfl, e2, e3, e4, fun z hz => ?_⟩
        rcases List.mem_cons.mp hz with hz | hz
        · rw [hz]; exact Or.inr (zany h2)
        · exact e5 z hz
    | false =>
      rw [hc] at h
      have hcv : ¬ (y.1 ≤ pc ∧ pc < y.2.1) := fun hq => by
        have : (Nat.ble y.1 pc && Nat.blt pc y.2.1) = true := by simpa using hq
        rw [this] at hc
        cases hc
      obtain ⟨pre, x, suf, e1, e2, e3, e4, e5⟩ := zhand_ok (hh := t) h
      refine ⟨y :: pre, x, suf, by rw [e1]; rfl, e2, e3, e4, fun z hz => ?_⟩
      rcases List.mem_cons.mp hz with hz | hz
      · rw [hz]; exact Or.inl hcv
      · exact e5 z hz
theorem zself (e : Nat) : Cond.castable (zEx e) (zEx e) ∈ zNws := by
  match e with
  | 0 => decide +kernel
  | 1 => decide +kernel
  | 2 => decide +kernel
  | 3 => decide +kernel
  | 4 => decide +kernel
  | n + 5 => exact (by decide +kernel : Cond.castable "java/lang/ArithmeticException" "java/lang/ArithmeticException" ∈ zNws)
theorem zchkH_mem {M : zMeth} {pl : List Nat} (h : zchkH M pl = true) {y : Nat × Nat × Nat × Nat × Nat} (hy : y ∈ zm_hh M) : Cond.classLink (zm_y M).cls y.2.2.2.1 (zEx y.2.2.2.2) ∈ tblG ∧ y.2.2.2.1 ≠ 0 := by
  obtain ⟨j, hj⟩ := List.getElem?_of_mem hy
  have hlt := (List.getElem?_eq_some_iff.mp hj).1
  have h1 := List.all_eq_true.mp h j (List.mem_range.mpr hlt)
  rw [zat_eq, hj] at h1
  simp only [Bool.and_eq_true] at h1
  refine ⟨hasW_in h1.1, fun h0 => ?_⟩
  have h2 := h1.2
  rw [h0] at h2
  cases h2
theorem zkeep1_tl {X : zX} {ad : Nat → Nat} (i : Nat) (L : zL) : (L.map fun q => (q.1, zV (zxr X) ad (zxb X) (zxt X) q.2)).filter (fun q => !(q.1 == i) && !(q.1 + 1 == i && q.2.category == 2)) = (L.filter (zkeep1 i)).map fun q => (q.1, zV (zxr X) ad (zxb X) (zxt X) q.2) := by
  rw [List.filter_map]
  congr 1
  apply List.filter_congr
  intro q hq
  simp only [Function.comp, zkeep1, zV_cat, zbq]
/-- caught here -/
theorem zcaught {P : List zMeth} {M : zMeth} {ev : zEv} {X : zX} {p : Program} {l : Launch} {e : Env} {R : Room} {s : State} {m : MethodId} {args : Array Value} {below : List Frame} {meth : Method} {c : Code} {Q : State → Prop} {n0 : Nat} {ad0 : Nat → Nat} {pc hpc E cu su : Nat} {L : zL} {G : zH} {k : zK} {r : zRes}
    (cx : zCx p l R s m args meth c M ev X) (hc : zchk P M) (hh : zhand (zm_hh M) pc E = some hpc) (h : zcatch M hpc L G cu su k = some r)
    (hk : ∀ st', k st' = some r → zGo p l e R s m args below meth c Q X (zm_L M) n0 ad0 st')
    {ad : Nat → Nat} {ca : Nat → ClassId} {tys : List (ClassId × FieldType)} {H : Heap} {locs : List Loc} {ls : Array Slot} {rest : List Value} {q9 : Nat} {ce : Cell} (hR : zRp X s (zm_L M) n0 ad0 L G ad ca tys H locs ls) (hce : H[q9]? = some ce) (hcv : ce.vm = .none) (hcl : s.vm.findClass (zEx E) = some ce.cls) :
    vx_W p l e R s m args below meth c H locs cu su Q (F0 m pc ls rest) q9 := by
  obtain ⟨pre, y, suf, e1, e2, e3, e4, e5⟩ := zhand_ok hh
  obtain ⟨pl, hpl⟩ := hc.2.2.2
  have hts := cx.2.2.2.2.1
  have hAO := cx.2.2.2.2.2.2.2.2.2.2.2.2.1
  have htb := cx.2.2.2.2.2.2.2.2.2.2.2.2.2.2.2
  rw [e1, List.map_append, List.map_cons] at htb
  unfold tableOf at htb
  rw [List.map_append, List.map_cons] at htb
  have hy : y ∈ zm_hh M := by rw [e1]; simp
  obtain ⟨hy1, hy2⟩ := zchkH_mem hpl hy
  obtain ⟨u, hu, h⟩ := zat_cases h
  have hi := hc.1 _ (zins_mem hu)
  refine vx_catch (name := zEx E) cx.2.2.2.1 _ _ _ htb (fun z hz => ?_) (by simpa using e2) hy2 (by
    show (Cond.classLink (zm_y M).cls y.2.2.2.1 (zEx E)).before args s = true
    rw [← e3]; exact hts _ hy1) (va_Nw.use rfl (hAO.1 _ (zself E))) hce hcv hcl ?_
  · obtain ⟨z1, hz1, rfl⟩ := List.mem_map.mp hz
    obtain ⟨z2, hz2, rfl⟩ := List.mem_map.mp hz1
    have hz3 : z2 ∈ zm_hh M := by rw [e1]; exact List.mem_append_left _ hz2
    obtain ⟨g1, g2⟩ := zchkH_mem hpl hz3
    rcases e5 z2 hz2 with h9 | h9
    · left
      cases hcq : covers (⟨z2.1, z2.2.1, z2.2.2.1, z2.2.2.2.1⟩ : ExceptionTableEntry) pc with
      | false => rfl
      | true => exact absurd (by simpa using hcq) h9
    · exact Or.inr ⟨g2, zEx z2.2.2.2.2, hts _ g1, hAO.2 _ h9⟩
  · show W p l e R s m args below meth c H locs cu su Q (F0 m y.2.2.1 ls [.ref q9])
    rw [e4]
    obtain ⟨op, x2⟩ := u
    dsimp only at h hi
    cases ho : Nat.beq op 17 with
    | true =>
      rw [ho] at h
      have ho := Nat.eq_of_beq_eq_true ho
      rw [ho] at hi
      have hlt := (zc h).1
      have h := (zc h).2
      rw [zfil_eq, zN_eq] at h
      have hlt : zx x2 0 % 4 < zm_L M := by simpa using hlt
      have hd : decode (zm_b M) hpc = .ok (.astore_n (Fin.ofNat 4 (zx x2 0)), 1) := by
        have h9 : (decide (decode (zm_b M) hpc = .ok (.astore_n (Fin.ofNat 4 (zx x2 0)), 1)) && ztrue M x2) = true := hi
        rw [Bool.and_eq_true] at h9
        exact of_decide_eq_true h9.1
      refine lv_astore_n (i := zx x2 0 % 4) cx.1 cx.2.1 hd rfl hR.1 hlt rfl (fun ls' hl' => ?_)
      refine hk _ h ad ca tys H locs ls' ⟨?_, hR.2⟩
      have h8 := zkeep1_tl (X := X) (ad := ad) (zx x2 0 % 4) L
      exact ⟨hl'.1, hl'.2.1, fun q hq => hl'.2.2 q (List.mem_cons_of_mem _ (by rw [h8]; exact hq))⟩
    | false =>
      rw [ho] at h
      have hc9 := (zc h).1
      have h := (zc h).2
      simp only [Bool.and_eq_true] at hc9
      obtain ⟨ho2, hlt⟩ := hc9
      rw [zfil_eq, zN_eq] at h
      have ho2 := Nat.eq_of_beq_eq_true ho2
      rw [ho2] at hi
      have hlt : zx x2 0 < zm_L M := by simpa using hlt
      have hd : decode (zm_b M) hpc = .ok (.astore (zx x2 0), 2) := by
        have h9 : (decide (decode (zm_b M) hpc = .ok (.astore (zx x2 0), 2)) && ztrue M x2) = true := hi
        rw [Bool.and_eq_true] at h9
        exact of_decide_eq_true h9.1
      refine lv_astore cx.1 cx.2.1 hd hR.1 hlt rfl (fun ls' hl' => ?_)
      refine hk _ h ad ca tys H locs ls' ⟨?_, hR.2⟩
      have h8 := zkeep1_tl (X := X) (ad := ad) (zx x2 0) L
      exact ⟨hl'.1, hl'.2.1, fun q hq => hl'.2.2 q (List.mem_cons_of_mem _ (by rw [h8]; exact hq))⟩
theorem zhas_run {p : Program} {l : Launch} {e : Env} {R : Room} {s : State} {m : MethodId} {args : Array Value} {below : List Frame} {meth : Method} {c : Code} {H : Heap} {locs : List Loc} {cells slots mc ms : Nat} {g : JFrame} {rest : List Value} {Qa : State → Outcome → State → Prop} {XC : String → State → State → Prop} {free : Addr → Prop}
    (h : va_Run p l e R s m args below meth c H locs cells slots mc ms g rest Qa free) : vx_Run p l e R s m args below meth c H locs cells slots mc ms g rest Qa XC free := fun T hT X => Or.inl (h T hT X)
end
section
/-! THE RUN IS SOUND: the calls, and the whole -/
theorem zfit4_ok {M M' : zMeth} {R : Room} {cu su : Nat} (hR : R = zroom M) (h : zfit4 M M' cu su = true) : ((zroom M').frames + 1 ≤ R.frames ∧ 8 + (zm_L M' + 11) + (zroom M').locals ≤ R.locals) ∧ (cu + (zm_rm M').2.1 ≤ R.cells ∧ su + (zm_rm M').2.2.1 ≤ R.slots) := by
  subst hR
  simp only [zfit4, Bool.and_eq_true] at h
  obtain ⟨h1, h2, h3, h4⟩ := h
  exact ⟨⟨Nat.le_of_ble_eq_true h1, Nat.le_of_ble_eq_true h2⟩, ⟨Nat.le_of_ble_eq_true h3, Nat.le_of_ble_eq_true h4⟩⟩
theorem zdsc_ok {y : MethodName} {n : Nat} (h : zdsc y n = true) : y.cls ≠ "java/lang/invoke/MethodHandle" ∧ y.cls ≠ "java/lang/invoke/VarHandle" ∧ (parseMethodDescriptor y.desc).map (fun d => d.parameters.length) = some n := by
  simp only [zdsc, Bool.and_eq_true] at h
  exact ⟨of_decide_eq_true h.1, of_decide_eq_true h.2.1, of_decide_eq_true h.2.2⟩
/-- the callee's run at a call -/
theorem zcall_run {P : List zMeth} {ev : zEv} {X : zX} {l : Launch} {f : Nat} (IH : zSound P ev X l f) {M M' : zMeth} {p : Program} {e : Env} {R : Room} {s : State} {m : MethodId} {args : Array Value} {below : List Frame} {meth : Method} {c : Code} {x : List Nat} {pc cu su : Nat} {a rest : List zAV} {G : zH} {r : zRes}
    (cx : zCx p l R s m args meth c M ev X) (hM' : zat P (zx x 2) = some M') (hc' : zchk P M') (hi : zchkC P M pc x = true) (hlen : a.length = zx x 3 + zhasr (zx x 1)) (hrc : zrcv (zx x 1) (zx x 4) G a.reverse = true) (hf4 : zfit4 M M' cu su = true) (hcr : zcats rest ≤ 8) (hca : zcats a.reverse ≤ zm_L M')
    (hr : zrun P ev f M' (0, zargL 0 a.reverse, [], G, 0, 0) = some r) (h0 : r.1 = 0 → zretok (zm_rt M') r.2.2.2.2.1 = true ∧ r.2.2.2.2.2.2.1 ≤ (zm_rm M').2.1 ∧ r.2.2.2.2.2.2.2 ≤ (zm_rm M').2.2.1) (h4 : zx x 1 = 4 → r.1 = 0)
    {ad : Nat → Nat} {ca : Nat → ClassId} {tys : List (ClassId × FieldType)} {H : Heap} {locs : List Loc} {ls : Array Slot} {n0 : Nat} {ad0 : Nat → Nat} {L : zL} (hR : zRp X s (zm_L M) n0 ad0 L G ad ca tys H locs ls) :
    vx_Run p l e R s m args below meth c H locs cu su (zm_rm M').2.1 (zm_rm M').2.2.1 (F0 m pc ls ((a ++ rest).map (zV (zxr X) ad (zxb X) (zxt X)))) (rest.map (zV (zxr X) ad (zxb X) (zxt X))) (zQr X G.length ad r (a.reverse.map (zV (zxr X) ad (zxb X) (zxt X))).toArray) (zXr X G.length ad r) (fun q => zx0 X ≤ q) := by
  have hS5 : zS5 X ev s := ⟨cx.2.2.2.2.2.2.1, cx.2.2.2.2.2.2.2.2.2.2.1, cx.2.2.2.2.2.2.2.2.2.2.2.1, cx.2.2.2.2.2.2.2.2.2.2.2.2.1⟩
  have hev := cx.2.2.2.2.2.2.2.1
  have hl := cx.2.2.2.2.2.2.2.2.2.2.2.2.2.1
  have hts := cx.2.2.2.2.1
  have hAO := cx.2.2.2.2.2.2.2.2.2.2.2.2.1
  have hPc : ∀ U : State, U.heap = H → s.WarmedH U.vm → zPc X ev a.reverse G ad (a.reverse.map (zV (zxr X) ad (zxb X) (zxt X))).toArray U := fun U hU hW => ⟨rfl, ⟨ca, tys, by rw [hU]; exact zHp_to hR.2.1 hW.alike⟩, zS5_to hS5 hR.2.2.1 hU hW⟩
  have hF : CallFix p m c (zm_b M) (zm_L M) s args tblG (zm_y M).cls := ⟨cx.1, cx.2.1, cx.2.2.1, cx.2.2.2.1, hts⟩
  obtain ⟨hRr, hfc⟩ := zfit4_ok cx.2.2.2.2.2.1 hf4
  have hsz : ls.size = zm_L M := hR.1.1
  have hW8 : 2 * (F0 m pc ls ((a ++ rest).map (zV (zxr X) ad (zxb X) (zxt X)))).monitorRoom + ((rest.map (zV (zxr X) ad (zxb X) (zxt X))).map fun v => v.category).sum ≤ 8 := by
    show 2 * 0 + _ ≤ 8
    rw [zcats_eq]
    omega
  have hst : (a ++ rest).map (zV (zxr X) ad (zxb X) (zxt X)) = (a.reverse.map (zV (zxr X) ad (zxb X) (zxt X))).reverse ++ rest.map (zV (zxr X) ad (zxb X) (zxt X)) := by
    rw [List.map_append, List.map_reverse, List.reverse_reverse]
  generalize has : a.reverse = as at hrc hca hr hPc hst ⊢
  have hln : as.length = zx x 3 + zhasr (zx x 1) := by rw [← has, List.length_reverse]; exact hlen
  unfold zchkC at hi
  rw [hM'] at hi
  dsimp only at hi
  rw [Bool.and_eq_true, Bool.and_eq_true] at hi
  obtain ⟨hds, hini, hi⟩ := hi
  have hd3 := zdsc_ok hds
  have hini := zw (M := M) hts hini
  -- by the kind of the call
  generalize hk : zx x 1 = kd at hi hrc hln h4
  match kd, hi, hrc, hln, h4 with
  | 0, hi, hrc, hln, _ =>
    simp only [Bool.and_eq_true] at hi
    obtain ⟨g1, g2, g3, g4, g5, g6, g7⟩ := hi
    have hM := zmet IH hev hl hc' (List.isEmpty_iff.mp g7) hr hca h0 ad
    cases as with
    | nil => cases hrc
    | cons v0 As =>
    simp only [zrcv, Bool.and_eq_true] at hrc
    obtain ⟨hv3, hrc⟩ := hrc
    cases hc0 : zat G v0.2 with
    | none => rw [hc0] at hrc; cases hrc
    | some c0 =>
    rw [hc0] at hrc
    have hcc := zcell0 hrc
    cases hq : zat vwCl (zx x 4) with
    | none => rw [hq] at g6; cases g6
    | some q =>
    rw [hq] at g6
    have hqn : q.1 = (zm_y M').cls := of_decide_eq_true g6
    have hg := zW_get (ρ := zxr X) (ad := ad) (ca := ca) (b := zxb X) (td := zxt X) G 0 v0.2 c0 (zat_some hc0)
    rw [Nat.zero_add, hcc] at hg
    have hrv := va_recv hR.2.1.1 hR.2.1.2.1 (zat_some hq) hg
    rw [hqn] at hrv
    have hvv := zV_3 (ρ := zxr X) (ad := ad) (b := zxb X) (td := zxt X) hv3
    simp only [List.map_cons] at hPc hst ⊢
    rw [hvv] at hPc hst ⊢
    have hcw : CallW R s args (zm_y M).cls (zm_y M').cls (zx x 0) (zm_y M') (zm_b M') (zm_L M') (zm_ret M') (zws M') (zroom M') (zm_rm M').2.1 (zm_rm M').2.2.1 (zx x 3) :=
      ⟨callB_of (zx x 3) hts (zwsG (hasW_in g2)) rfl rfl rfl hini (zw (M := M) hts g3) hd3 hRr, zw (M := M) hts g4, zw (M := M) hts g5⟩
    exact vx_runV (As := As.map (zV (zxr X) ad (zxb X) (zxt X))) hF hM hcw ⟨zPc_blind, hrv, hPc⟩ rfl (by rw [List.length_map]; have : (v0 :: As).length = As.length + 1 := rfl; rw [this] at hln; have h1 : zhasr 0 = 1 := rfl; omega) hsz (by
      show (a ++ rest).map _ = _
      rw [hst, List.reverse_cons, List.append_assoc]
      rfl) hW8 (of_decide_eq_true g1) hfc
  | 1, hi, hrc, hln, _ =>
    simp only [Bool.and_eq_true] at hi
    obtain ⟨g1, g2, g3, g4, g7⟩ := hi
    have hM := zmet IH hev hl hc' (List.isEmpty_iff.mp g7) hr hca h0 ad
    exact vx_runS hF hM ⟨callB_of (zx x 3) hts (zwsG (hasW_in g2)) rfl rfl rfl hini (zw (M := M) hts g3) hd3 hRr, zw (M := M) hts g4⟩ ⟨zPc_blind, hPc⟩ rfl (by rw [List.length_map]; exact hln) hsz hst hW8 (of_decide_eq_true g1) hfc
  | 2, hi, hrc, hln, _ =>
    simp only [Bool.and_eq_true] at hi
    obtain ⟨g1, g2, g3, g4, g5, g6, g7⟩ := hi
    have hrn : zm_ret M' = none := of_decide_eq_true g3
    have hM := zmet IH hev hl hc' (List.isEmpty_iff.mp g7) hr hca h0 ad
    cases as with
    | nil => cases hrc
    | cons v0 As =>
    have hv3 : Nat.beq v0.1 3 = true := hrc
    have hvv := zV_3 (ρ := zxr X) (ad := ad) (b := zxb X) (td := zxt X) hv3
    simp only [List.map_cons] at hPc hst ⊢
    rw [hvv] at hPc hst ⊢
    have hcode : Cond.code (zm_y M') (zm_b M') (zm_L M') (zm_ret M') ∈ tblG := by rw [hrn]; exact hasW_in g2
    have hcb : CallB R s args (zm_y M).cls (zx x 0) (zm_y M') (zm_b M') (zm_L M') (zm_ret M') (zws M') (zroom M') (zm_rm M').2.1 (zm_rm M').2.2.1 (zx x 3) := callB_of (zx x 3) hts (zwsG hcode) rfl rfl rfl hini (zw (M := M) hts g4) hd3 hRr
    rw [hrn] at hcb
    exact vx_runI (As := As.map (zV (zxr X) ad (zxb X) (zxt X))) hF hM ⟨hcb, of_decide_eq_true g6, zw (M := M) hts g5⟩ ⟨zPc_blind, hPc⟩ rfl (by rw [List.length_map]; have : (v0 :: As).length = As.length + 1 := rfl; rw [this] at hln; have h1 : zhasr 2 = 1 := rfl; omega) hsz (by
      show (a ++ rest).map _ = _
      rw [hst, List.reverse_cons, List.append_assoc]
      rfl) hW8 (of_decide_eq_true g1) hfc
  | 3, hi, hrc, hln, _ =>
    simp only [Bool.and_eq_true] at hi
    obtain ⟨g1, g2, g3, g4, g5, g6, g7⟩ := hi
    have hrn : zm_ret M' = none := of_decide_eq_true g3
    have hM := zmet IH hev hl hc' (List.isEmpty_iff.mp g7) hr hca h0 ad
    cases as with
    | nil => cases hrc
    | cons v0 As =>
    have hv3 : Nat.beq v0.1 3 = true := hrc
    have hvv := zV_3 (ρ := zxr X) (ad := ad) (b := zxb X) (td := zxt X) hv3
    simp only [List.map_cons] at hPc hst ⊢
    rw [hvv] at hPc hst ⊢
    have hcode : Cond.code (zm_y M') (zm_b M') (zm_L M') (zm_ret M') ∈ tblG := by rw [hrn]; exact hasW_in g2
    have hcn : va_CN R s args (zm_y M).cls (zx x 0) (zm_y M') "FormRiverModel" (zm_b M') (zm_L M') (zm_ret M') (zws M') (zroom M') (zm_rm M').2.1 (zm_rm M').2.2.1 (zx x 3) := va_cnB (zx x 3) hts (zwsG hcode) rfl rfl rfl (hAO.1 _ (of_decide_eq_true g4)) hini hd3 hRr
    rw [hrn] at hcn
    exact vx_runIN (As := As.map (zV (zxr X) ad (zxb X) (zxt X))) hF hM ⟨hcn, of_decide_eq_true g6, zw (M := M) hts g5⟩ ⟨zPc_blind, hPc⟩ rfl (by rw [List.length_map]; have : (v0 :: As).length = As.length + 1 := rfl; rw [this] at hln; have h1 : zhasr 3 = 1 := rfl; omega) hsz (by
      show (a ++ rest).map _ = _
      rw [hst, List.reverse_cons, List.append_assoc]
      rfl) hW8 (of_decide_eq_true g1) hfc
  | 4, hi, hrc, hln, h4 =>
    simp only [Bool.and_eq_true] at hi
    obtain ⟨g1, g2, g3, g4⟩ := hi
    have hr0 := h4 rfl
    have hM := zmet4 IH hev hl hc' hr hca hr0 (h0 hr0) ad
    have hcw : vx_CSW R s args (zm_y M).cls (zx x 0) (zm_y M') (zm_b M') (zm_L M') (zm_ret M') (zh4 M') (zws4 M') (zroom M') (zm_rm M').2.1 (zm_rm M').2.2.1 (zx x 3) := by
      refine ⟨⟨rfl, rfl, hRr.1, hRr.2, pay_in hts (zws4G (hasW_in g2)), List.mem_cons_self⟩, zw (M := M) hts g2, hini, ⟨hd3.1, hd3.2.1⟩, fun sig h => ?_, zw (M := M) hts g3, zw (M := M) hts g4⟩
      have h2 := hd3.2.2
      rw [h] at h2
      exact (Option.some.inj h2).symm
    exact zhas_run (vx_runSW hF hM hcw ⟨zPc_blind, hPc⟩ rfl (by rw [List.length_map]; exact hln) hsz hst hW8 (of_decide_eq_true g1) hfc)
  | n + 5, hi, _, _, _ => cases hi
theorem zcall_ok {P : List zMeth} {ev : zEv} {X : zX} {l : Launch} {f : Nat} (IH : zSound P ev X l f) (hP : ∀ M ∈ P, zchk P M) {M : zMeth} (hc : zchk P M) {p : Program} {e : Env} {R : Room} {s : State} {m : MethodId} {args : Array Value} {below : List Frame} {meth : Method} {c : Code} {Q : State → Prop} {n0 : Nat} {ad0 : Nat → Nat} {x : List Nat} {pc cu su : Nat} {L : zL} {stk : List zAV} {G : zH} {r : zRes}
    (hins : zins (zm_code M) pc = some (2, x)) (h : zcall P (zrun P ev f) M (pc, L, stk, G, cu, su) x = some r) (cx : zCx p l R s m args meth c M ev X)
    (hE0 : r.1 = 0 → ∀ x, zins (zm_code M) r.2.2.1 = some (0, x) → zGo p l e R s m args below meth c Q X (zm_L M) n0 ad0 r.2.2)
    (hE1 : r.1 ≠ 0 → ∃ (Qc : Array Value → State → Outcome → State → Prop) (XC : String → State → State → Prop), Q = vx_MQ below Qc XC args s R.cells R.slots (fun q => zx0 X ≤ q) ∧ zXh X n0 ad0 s r XC) :
    zGo p l e R s m args below meth c Q X (zm_L M) n0 ad0 (pc, L, stk, G, cu, su) := by
  unfold zcall at h
  dsimp only at h
  obtain ⟨M', hM', h⟩ := zat_cases h
  obtain ⟨a, rest, hstk, hlen, h⟩ := ztk_ok _ _ _ _ h
  rw [List.append_nil] at h
  have hcd := (zc h).1
  have h := (zc h).2
  simp only [Bool.and_eq_true] at hcd
  obtain ⟨hrc, hf4, hL, hS, hcr, hca⟩ := hcd
  have hcr : zcats rest ≤ 8 := by simpa using hcr
  have hca : zcats a.reverse ≤ zm_L M' := by simpa using hca
  rw [zargs_eq] at h
  obtain ⟨r', hr', h⟩ := zat_cases h
  have hc' := hP M' (List.mem_of_getElem? (zat_some hM'))
  have hi : zchkC P M pc x = true := hc.1 _ (zins_mem hins)
  obtain ⟨-, hfc⟩ := zfit4_ok cx.2.2.2.2.2.1 hf4
  intro ad ca tys H locs ls hR
  show W p l e R s m args below meth c H locs cu su Q (F0 m pc ls (stk.map _))
  rw [hstk]
  cases hk0 : r'.1 with
  | zero =>
    rw [hk0] at h
    try dsimp only at h
    have hok := (zc h).1
    have h := (zc h).2
    simp only [zN_eq, zapp_eq] at h
    simp only [Bool.and_eq_true] at hok
    have h0 : r'.1 = 0 → zretok (zm_rt M') r'.2.2.2.2.1 = true ∧ r'.2.2.2.2.2.2.1 ≤ (zm_rm M').2.1 ∧ r'.2.2.2.2.2.2.2 ≤ (zm_rm M').2.2.1 := fun _ => ⟨hok.1, by simpa using hok.2.1, by simpa using hok.2.2⟩
    refine zafter (zcall_run (below := below) (e := e) (rest := rest) IH cx hM' hc' hi hlen hrc hf4 hcr hca hr' h0 (fun _ => hk0) hR) hR.2.2.1 (fun _ ad' ca' tys' H1 locs1 ha hn hH hS1 => ?_) (fun hne => absurd hk0 hne)
    have hgo := IH M hc _ r h p e R s m args below meth c Q n0 ad0 cx hE0 hE1 ad' ca' tys' H1 locs1 ls ⟨by
      show lv_has ls (zm_L M) (L.map _)
      rw [zLc hL ha]
      exact hR.1, hH, hS1, Nat.le_trans hR.2.2.2.1 hn, fun k hk => by rw [ha k (Nat.lt_of_lt_of_le hk hR.2.2.2.1)]; exact hR.2.2.2.2 k hk⟩
    have hst : (r'.2.2.2.2.1 ++ rest).map (zV (zxr X) ad' (zxb X) (zxt X)) = (zrv X ad' r'.2.2.2.2.1).toList ++ rest.map (zV (zxr X) ad (zxb X) (zxt X)) := by
      rw [List.map_append, zSc hS ha]
      congr 1
      have hrk := (h0 hk0).1
      generalize r'.2.2.2.2.1 = sk at hrk
      cases sk with
      | nil => rfl
      | cons v tl =>
      cases tl with
      | nil => rfl
      | cons _ _ => cases hrk
    rw [← hst]
    exact hgo
  | succ nk =>
    rw [hk0] at h
    try dsimp only at h
    have hne : r'.1 ≠ 0 := fun z => by rw [z] at hk0; cases hk0
    cases h4 : Nat.beq (zx x 1) 4 with
    | true => rw [h4] at h; cases h
    | false =>
    rw [h4] at h
    simp only [cond] at h
    have h4n : zx x 1 = 4 → r'.1 = 0 := fun z => by rw [z] at h4; cases h4
    refine zafter (zcall_run (below := below) (e := e) (rest := rest) IH cx hM' hc' hi hlen hrc hf4 hcr hca hr' (fun z => absurd z hne) h4n hR) hR.2.2.1 (fun z => absurd z hne) (fun _ ad' ca' tys' H1 locs1 q9 ce ha hn hH hS1 hce hcv hcl => ?_)
    have hR' : zRp X s (zm_L M) n0 ad0 L r'.2.2.2.2.2.1 ad' ca' tys' H1 locs1 ls := ⟨by
      rw [zLc hL ha]
      exact hR.1, hH, hS1, Nat.le_trans hR.2.2.2.1 hn, fun k hk => by rw [ha k (Nat.lt_of_lt_of_le hk hR.2.2.2.1)]; exact hR.2.2.2.2 k hk⟩
    cases hhh : zm_hh M with
    | nil =>
      rw [hhh] at h
      simp only [zN_eq] at h
      have hr := (Option.some.inj h).symm
      obtain ⟨Qc, XC, hQ, hX⟩ := hE1 (by rw [hr]; exact Nat.succ_ne_zero 0)
      rw [hQ]
      have htb := cx.2.2.2.2.2.2.2.2.2.2.2.2.2.2.2
      rw [hhh] at htb
      rw [hr] at hX
      refine vx_out (E := zEx r'.2.1) (fun y hy => ?_) cx.2.2.2.2.2.2.2.2.1 hce hcv hcl (fun t ht hA => ?_) hS1.2.2 hfc.1 hfc.2
      · rw [htb] at hy
        cases hy
      · exact hX ad' ca' tys' H1 locs1 t hR'.2.1 hS1 hR'.2.2.2.1 hR'.2.2.2.2 hA (by rw [ht]; exact Nat.le_refl _) (fun q _ => by rw [ht])
    | cons y0 yt =>
      rw [hhh] at h
      dsimp only at h
      obtain ⟨hpc, hh2, h⟩ := zat_cases h
      simp only [zN_eq] at h
      rw [← hhh] at hh2
      exact zcaught cx hc hh2 h (fun st' hk => IH M hc st' r hk p e R s m args below meth c Q n0 ad0 cx hE0 hE1) hR' hce hcv hcl
/-- the whole: what a run of the abstract machine says, the machine does -/
theorem zrun_ok {P : List zMeth} {ev : zEv} {X : zX} {l : Launch} (hP : ∀ M ∈ P, zchk P M) : ∀ f, zSound P ev X l f
  | 0 => fun M hc st r h => by cases h
  | f + 1 => by
    intro M hc st r h p e R s m args below meth c Q n0 ad0 cx hE0 hE1
    have IH : zSound P ev X l f := zrun_ok hP f
    obtain ⟨pc, L, stk, G, cu, su⟩ := st
    have h : (zob (zins (zm_code M) pc) fun u => match u.1 with
      | 0 => some (0, 0, (pc, L, stk, G, cu, su))
      | 1 => cond (Nat.blt 5 (zm_rm M).1 && (Nat.ble (zcats stk + 82) (zm_rm M).2.2.2 && (Nat.ble (cu + 1) (zm_rm M).2.1 && Nat.ble (su + 6) (zm_rm M).2.2.1))) (some (1, zx u.2 0, (pc, L, stk, G, cu, su))) none
      | 2 => zcall P (zrun P ev f) M (pc, L, stk, G, cu, su) u.2
      | Nat.succ (Nat.succ (Nat.succ o)) => zob (zat zopT o) fun q => q.2.2.2 u.2 M ev (pc, L, stk, G, cu, su) (zrun P ev f M)) = some r := h
    obtain ⟨u, hu, h⟩ := zat_cases h
    obtain ⟨op, x⟩ := u
    have hi := hc.1 _ (zins_mem hu)
    match op, h, hu, hi with
    | 0, h, hu, hi =>
      have hr := (Option.some.inj h).symm
      have h9 := hE0 (by rw [hr]) x (by rw [hr]; exact hu)
      rw [hr] at h9
      exact h9
    | 1, h, hu, hi =>
      have hcd := (zc h).1
      have hr := (Option.some.inj (zc h).2).symm
      simp only [Bool.and_eq_true] at hcd
      obtain ⟨k1, k2, k3, k4⟩ := hcd
      obtain ⟨Qc, XC, hQ, hX⟩ := hE1 (by rw [hr]; exact Nat.succ_ne_zero 0)
      rw [hQ]
      rw [hr] at hX
      have hRm := cx.2.2.2.2.2.1
      refine zthrow (P := P) cx (show zchkT M pc x = true from hi) ?_ ?_ ?_ ?_ hX
      · rw [hRm]; show 5 < (zm_rm M).1; simpa using k1
      · rw [hRm]; show _ ≤ (zm_rm M).2.2.2; simpa using k2
      · rw [hRm]; show _ ≤ (zm_rm M).2.1; exact Nat.le_of_ble_eq_true k3
      · rw [hRm]; show _ ≤ (zm_rm M).2.2.1; exact Nat.le_of_ble_eq_true k4
    | 2, h, hu, hi => exact zcall_ok IH hP hc hu h cx hE0 hE1
    | o + 3, h, hu, hi =>
      obtain ⟨q, hq, h⟩ := zat_cases h
      have hi : (match zat zopT o with
        | some q => decide (decode (zm_b M) pc = .ok (q.1 pc x, q.2.1)) && q.2.2.1 M x
        | none => false) = true := hi
      rw [hq] at hi
      simp only [Bool.and_eq_true] at hi
      obtain ⟨st', hk, himp⟩ := zopT_ok q (List.mem_of_getElem? (zat_some hq)) p l e R s m args below meth c Q M ev X n0 ad0 cx x pc L stk G cu su _ r (of_decide_eq_true hi.1) hi.2 h
      exact himp (IH M hc st' r hk p e R s m args below meth c Q n0 ad0 cx hE0 hE1)
end
section
/-! THE METHODS, as far as they are run, as data -/
def zM_0 : zMeth := (⟨"FormRiver", "<init>", "()V"⟩, prog_1_method_1_code, 2, none, 0, [(0, 11, [0]), (1, 77, [1, 104, 105, 106]), (4, 11, [0]), (5, 62, [7, 2, 107, 108, 67]), (8, 36, []), (9, 2, [9, 2, 1, 0, 0, 111, 109, 67, 110]), (12, 61, [10, 13, 0, 177]), (15, 11, [0]), (16, 62, [7, 2, 107, 108, 67]), (19, 36, []), (20, 2, [9, 2, 1, 0, 0, 111, 109, 67, 110]), (23, 61, [16, 13, 1, 178]), (26, 11, [0]), (27, 62, [19, 3, 133, 134, 68]), (30, 36, []), (31, 2, [21, 2, 4, 0, 0, 137, 135, 68, 136]), (34, 61, [22, 13, 2, 179]), (37, 11, [0]), (38, 62, [26, 7, 145, 146, 69]), (41, 36, []), (42, 2, [28, 2, 5, 0, 0, 149, 147, 69, 148]), (45, 61, [29, 13, 3, 180]), (48, 11, [0]), (49, 24, [144, 16]), (51, 63, [0, 144]), (53, 61, [33, 13, 4, 181]), (56, 23, [1, 0]), (57, 13, [1]), (58, 3, [1]), (59, 24, [144, 16]), (61, 48, [77]), (64, 11, [0]), (65, 57, [33, 13, 4, 181]), (68, 3, [1]), (69, 23, [0, 4294967295]), (70, 71, []), (71, 39, [1, 32769, 1]), (74, 40, [58]), (77, 11, [0]), (78, 24, [134, 6]), (80, 63, [1, 202]), (82, 61, [37, 13, 5, 182]), (85, 11, [0]), (86, 23, [1, 0]), (87, 59, [41, 13, 6, 183]), (90, 11, [0]), (91, 23, [1, 0]), (92, 59, [45, 13, 7, 184]), (95, 0, [0])], (4, 37, 481, 72), [])
def zM_1 : zMeth := (⟨"java/util/ArrayList", "<init>", "()V"⟩, prog_34_method_2_code, 1, none, 0, [(0, 11, [0]), (1, 2, [1, 2, 2, 0, 0, 114, 112, 66, 113]), (4, 11, [0]), (5, 76, [39, 119]), (8, 59, [9, 2, 1, 121]), (11, 0, [0])], (3, 0, 0, 52), [])
def zM_2 : zMeth := (⟨"java/util/AbstractList", "<init>", "()V"⟩, prog_33_method_1_code, 1, none, 0, [(0, 11, [0]), (1, 2, [1, 2, 3, 0, 0, 117, 115, 65, 116]), (4, 11, [0]), (5, 23, [1, 0]), (6, 59, [7, 2, 0, 123]), (9, 0, [0])], (2, 0, 0, 32), [])
def zM_3 : zMeth := (⟨"java/util/AbstractCollection", "<init>", "()V"⟩, prog_32_method_1_code, 1, none, 0, [(0, 11, [0]), (1, 77, [1, 118, 105, 106]), (4, 0, [0])], (1, 0, 0, 12), [])
def zM_4 : zMeth := (⟨"FormRiver$Desks", "<init>", "()V"⟩, prog_2_method_1_code, 2, none, 0, [(0, 11, [0]), (1, 77, [3, 138, 105, 106]), (4, 11, [0]), (5, 24, [134, 6]), (7, 63, [0, 144]), (9, 61, [9, 3, 0, 139]), (12, 23, [1, 0]), (13, 13, [1]), (14, 3, [1]), (15, 24, [134, 6]), (17, 48, [33]), (20, 11, [0]), (21, 57, [9, 3, 0, 139]), (24, 3, [1]), (25, 23, [0, 4294967295]), (26, 71, []), (27, 39, [1, 32769, 1]), (30, 40, [14]), (33, 0, [0])], (1, 1, 6, 12), [])
def zM_5 : zMeth := (⟨"FormRiver$Records", "<init>", "()V"⟩, prog_6_method_1_code, 3, none, 0, [(0, 11, [0]), (1, 77, [3, 150, 105, 106]), (4, 11, [0]), (5, 24, [134, 6]), (7, 24, [144, 16]), (9, 78, [9, 6, 0, 151, 144]), (13, 61, [11, 7, 0, 153]), (16, 11, [0]), (17, 24, [134, 6]), (19, 24, [144, 16]), (21, 78, [9, 6, 0, 151, 144]), (25, 61, [16, 7, 1, 155]), (28, 11, [0]), (29, 24, [134, 6]), (31, 24, [144, 16]), (33, 78, [9, 6, 0, 151, 144]), (37, 61, [19, 7, 2, 157]), (40, 11, [0]), (41, 24, [134, 6]), (43, 24, [144, 16]), (45, 78, [9, 6, 0, 151, 144]), (49, 61, [22, 7, 3, 158]), (52, 11, [0]), (53, 24, [144, 16]), (55, 63, [2, 176]), (57, 61, [25, 7, 4, 159]), (60, 11, [0]), (61, 24, [144, 16]), (63, 63, [0, 144]), (65, 61, [29, 7, 5, 161]), (68, 23, [1, 0]), (69, 13, [1]), (70, 3, [1]), (71, 24, [134, 6]), (73, 48, [105]), (76, 23, [1, 0]), (77, 13, [2]), (78, 3, [2]), (79, 24, [144, 16]), (81, 48, [99]), (84, 11, [0]), (85, 57, [16, 7, 1, 155]), (88, 3, [1]), (89, 70, []), (90, 3, [2]), (91, 23, [0, 4294967295]), (92, 71, []), (93, 39, [2, 32769, 1]), (96, 40, [78]), (99, 39, [1, 32769, 1]), (102, 40, [70]), (105, 0, [0])], (1, 30, 440, 12), [])
def zM_6 : zMeth := (⟨"FormRiverModel", "<init>", "()V"⟩, prog_13_method_4_code, 2, none, 0, [(0, 11, [0]), (1, 77, [7, 1532, 105, 106]), (4, 11, [0]), (5, 23, [4, 3]), (6, 23, [5, 4]), (7, 78, [13, 7, 8, 1533, 144]), (11, 61, [15, 17, 1, 1539]), (14, 11, [0]), (15, 23, [4, 3]), (16, 63, [0, 144]), (18, 61, [18, 17, 2, 1540]), (21, 11, [0]), (22, 23, [4, 3]), (23, 63, [0, 144]), (25, 61, [22, 17, 3, 1541]), (28, 11, [0]), (29, 24, [144, 16]), (31, 63, [0, 144]), (33, 61, [25, 17, 4, 1542]), (36, 11, [0]), (37, 24, [134, 6]), (39, 63, [0, 144]), (41, 61, [28, 17, 5, 1543]), (44, 11, [0]), (45, 24, [152, 24]), (47, 64, [31, 9, 1536]), (50, 61, [33, 17, 6, 1544]), (53, 11, [0]), (54, 24, [134, 6]), (56, 63, [1, 202]), (58, 61, [37, 17, 7, 1545]), (61, 23, [1, 0]), (62, 13, [1]), (63, 3, [1]), (64, 24, [144, 16]), (66, 48, [82]), (69, 11, [0]), (70, 57, [25, 17, 4, 1542]), (73, 3, [1]), (74, 23, [0, 4294967295]), (75, 71, []), (76, 39, [1, 32769, 1]), (79, 40, [63]), (82, 23, [1, 0]), (83, 13, [1]), (84, 3, [1]), (85, 24, [134, 6]), (87, 48, [103]), (90, 11, [0]), (91, 57, [28, 17, 5, 1543]), (94, 3, [1]), (95, 23, [0, 4294967295]), (96, 71, []), (97, 39, [1, 32769, 1]), (100, 40, [84]), (103, 0, [0])], (1, 10, 73, 12), [])
def zM_7 : zMeth := (⟨"FormRiverLaw", "addForm", "(LFormRiver;[J)I"⟩, method_3_code, 3, (some .int), 1, [(0, 11, [1]), (1, 23, [1, 0]), (2, 11, [0]), (3, 2, [7, 0, 8, 0, 13, 214, 211, 64, 212, 213]), (6, 32, []), (7, 73, []), (8, 40, [14]), (14, 23, [1, 0]), (15, 0, [1])], (7, 8, 42, 143), [(0, 8, 11, 13, 0)])
def zM_8 : zMeth := (⟨"FormRiver", "addForm", "()I"⟩, prog_1_method_2_code, 1, (some .int), 1, [(0, 11, [0]), (1, 57, [10, 13, 0, 177]), (4, 2, [48, 0, 9, 0, 2, 218, 215, 67, 216, 217]), (7, 23, [4, 3]), (8, 46, [21]), (21, 11, [0]), (22, 57, [10, 13, 0, 177]), (25, 62, [59, 4, 291, 292, 75]), (28, 36, []), (29, 11, [0]), (30, 57, [10, 13, 0, 177]), (33, 2, [48, 0, 9, 0, 2, 218, 215, 67, 216, 217]), (36, 2, [61, 2, 10, 1, 0, 295, 293, 75, 294]), (39, 2, [64, 0, 12, 1, 2, 344, 424, 67, 342, 343]), (42, 37, []), (43, 11, [0]), (44, 57, [10, 13, 0, 177]), (47, 2, [48, 0, 9, 0, 2, 218, 215, 67, 216, 217]), (50, 23, [2, 1]), (51, 30, []), (52, 0, [1])], (6, 8, 42, 123), [])
def zM_9 : zMeth := (⟨"java/util/ArrayList", "size", "()I"⟩, prog_34_method_8_code, 1, (some .int), 1, [(0, 11, [0]), (1, 57, [48, 2, 2, 122]), (4, 0, [1])], (0, 0, 0, 0), [])
def zM_10 : zMeth := (⟨"FormRiver$Form", "<init>", "(I)V"⟩, prog_3_method_1_code, 2, none, 0, [(0, 11, [0]), (1, 77, [1, 296, 105, 106]), (4, 11, [0]), (5, 3, [1]), (6, 61, [7, 4, 0, 411]), (9, 11, [0]), (10, 62, [13, 2, 297, 108, 67]), (13, 36, []), (14, 2, [15, 2, 1, 0, 0, 111, 298, 67, 110]), (17, 61, [16, 4, 1, 413]), (20, 11, [0]), (21, 57, [16, 4, 1, 413]), (24, 62, [20, 11, 299, 300, 76]), (27, 36, []), (28, 23, [1, 0]), (29, 2, [22, 2, 11, 1, 0, 303, 301, 76, 302]), (32, 2, [25, 0, 12, 1, 2, 344, 341, 67, 342, 343]), (35, 37, []), (36, 11, [0]), (37, 62, [13, 2, 297, 108, 67]), (40, 36, []), (41, 2, [15, 2, 1, 0, 0, 111, 298, 67, 110]), (44, 61, [29, 4, 2, 416]), (47, 0, [0])], (5, 6, 29, 102), [])
def zM_11 : zMeth := (⟨"FormRiver$Version", "<init>", "(I)V"⟩, prog_10_method_1_code, 2, none, 0, [(0, 11, [0]), (1, 77, [3, 304, 105, 106]), (4, 11, [0]), (5, 3, [1]), (6, 61, [9, 11, 0, 307]), (9, 11, [0]), (10, 62, [15, 2, 305, 108, 67]), (13, 36, []), (14, 2, [17, 2, 1, 0, 0, 111, 306, 67, 110]), (17, 61, [18, 11, 1, 310]), (20, 11, [0]), (21, 62, [15, 2, 305, 108, 67]), (24, 36, []), (25, 2, [17, 2, 1, 0, 0, 111, 306, 67, 110]), (28, 61, [22, 11, 2, 313]), (31, 11, [0]), (32, 24, [228, 100]), (34, 59, [25, 11, 3, 316]), (37, 11, [0]), (38, 23, [0, 4294967295]), (39, 59, [28, 11, 4, 319]), (42, 0, [0])], (4, 2, 6, 72), [])
def zM_12 : zMeth := (⟨"java/util/ArrayList", "add", "(Ljava/lang/Object;)Z"⟩, prog_34_method_25_code, 2, (some .boolean), 2, [(0, 11, [0]), (1, 36, []), (2, 58, [63, 2, 0, 124, 125]), (5, 23, [2, 1]), (6, 29, []), (7, 60, [63, 2, 0, 124, 125]), (10, 11, [0]), (11, 11, [1]), (12, 11, [0]), (13, 57, [9, 2, 1, 121]), (16, 11, [0]), (17, 57, [48, 2, 2, 122]), (20, 2, [131, 0, 13, 3, 2, 348, 345, 67, 347, 1]), (23, 23, [2, 1]), (24, 0, [2])], (4, 1, 10, 81), [])
def zM_13 : zMeth := (⟨"java/util/ArrayList", "add", "(Ljava/lang/Object;[Ljava/lang/Object;I)V"⟩, prog_34_method_24_code, 4, none, 0, [(0, 3, [3]), (1, 11, [2]), (2, 65, []), (3, 44, [11]), (6, 11, [0]), (7, 2, [129, 0, 14, 0, 2, 352, 349, 67, 351, 2]), (10, 17, [2]), (11, 11, [2]), (12, 3, [3]), (13, 11, [1]), (14, 75, [4, 11]), (15, 11, [0]), (16, 3, [3]), (17, 23, [2, 1]), (18, 29, []), (19, 59, [48, 2, 2, 122]), (22, 0, [0])], (3, 1, 10, 58), [])
def zM_14 : zMeth := (⟨"java/util/ArrayList", "grow", "()[Ljava/lang/Object;"⟩, prog_34_method_7_code, 1, (some (.array (.object "java/lang/Object"))), 5, [(0, 11, [0]), (1, 11, [0]), (2, 57, [48, 2, 2, 122]), (5, 23, [2, 1]), (6, 29, []), (7, 2, [69, 0, 15, 1, 2, 356, 353, 67, 355, 3]), (10, 0, [5])], (2, 1, 10, 38), [])
def zM_15 : zMeth := (⟨"java/util/ArrayList", "grow", "(I)[Ljava/lang/Object;"⟩, prog_34_method_6_code, 4, (some (.array (.object "java/lang/Object"))), 5, [(0, 11, [0]), (1, 57, [9, 2, 1, 121]), (4, 65, []), (5, 13, [2]), (6, 3, [2]), (7, 51, [20]), (10, 11, [0]), (11, 57, [9, 2, 1, 121]), (14, 76, [39, 119]), (17, 56, [45]), (45, 11, [0]), (46, 24, [138, 10]), (48, 3, [1]), (49, 79, [79, 409, 361, 78, 362]), (52, 64, [7, 5, 410]), (55, 38, []), (56, 59, [9, 2, 1, 121]), (59, 0, [5])], (1, 1, 10, 15), [])
def zM_16 : zMeth := (⟨"FormRiverModel", "addForm", "()I"⟩, prog_13_method_7_code, 1, (some .int), 1, [(0, 11, [0]), (1, 23, [1, 0]), (2, 59, [1, 17, 0, 1538]), (5, 11, [0]), (6, 57, [41, 17, 8, 1546]), (9, 23, [4, 3]), (10, 44, [19]), (19, 11, [0]), (20, 57, [22, 17, 3, 1541]), (23, 11, [0]), (24, 57, [41, 17, 8, 1546]), (27, 23, [0, 4294967295]), (28, 71, []), (29, 11, [0]), (30, 57, [15, 17, 1, 1539]), (33, 11, [0]), (34, 57, [41, 17, 8, 1546]), (37, 70, []), (38, 23, [1, 0]), (39, 62, [52, 16, 1586, 1587, 81]), (42, 36, []), (43, 2, [54, 3, 17, 0, 0, 1590, 1588, 81, 1589]), (46, 74, [16]), (47, 11, [0]), (48, 57, [18, 17, 2, 1540]), (51, 11, [0]), (52, 57, [41, 17, 8, 1546]), (55, 23, [2, 1]), (56, 71, []), (57, 11, [0]), (58, 36, []), (59, 57, [41, 17, 8, 1546]), (62, 23, [2, 1]), (63, 29, []), (64, 59, [41, 17, 8, 1546]), (67, 11, [0]), (68, 57, [41, 17, 8, 1546]), (71, 23, [2, 1]), (72, 30, []), (73, 0, [1])], (2, 19, 158, 32), [])
def zM_17 : zMeth := (⟨"FormRiverModel$Version", "<init>", "()V"⟩, prog_16_method_1_code, 1, none, 0, [(0, 11, [0]), (1, 77, [3, 1591, 105, 106]), (4, 11, [0]), (5, 24, [228, 100]), (7, 59, [9, 16, 2, 1595]), (10, 11, [0]), (11, 23, [0, 4294967295]), (12, 59, [15, 16, 3, 1597]), (15, 11, [0]), (16, 24, [136, 8]), (18, 63, [3, 1698]), (20, 61, [18, 16, 6, 1601]), (23, 11, [0]), (24, 24, [136, 8]), (26, 63, [3, 1698]), (28, 61, [22, 16, 7, 1604]), (31, 11, [0]), (32, 24, [136, 8]), (34, 63, [3, 1698]), (36, 61, [25, 16, 8, 1607]), (39, 11, [0]), (40, 24, [136, 8]), (42, 63, [0, 144]), (44, 61, [28, 16, 9, 1610]), (47, 11, [0]), (48, 24, [136, 8]), (50, 63, [0, 144]), (52, 61, [32, 16, 10, 1612]), (55, 11, [0]), (56, 24, [136, 8]), (58, 63, [0, 144]), (60, 61, [35, 16, 11, 1615]), (63, 11, [0]), (64, 24, [136, 8]), (66, 63, [0, 144]), (68, 61, [38, 16, 12, 1618]), (71, 11, [0]), (72, 24, [136, 8]), (74, 63, [0, 144]), (76, 61, [41, 16, 13, 1621]), (79, 11, [0]), (80, 24, [136, 8]), (82, 63, [0, 144]), (84, 61, [44, 16, 14, 1624]), (87, 11, [0]), (88, 24, [136, 8]), (90, 63, [0, 144]), (92, 61, [47, 16, 15, 1627]), (95, 11, [0]), (96, 24, [136, 8]), (98, 63, [0, 144]), (100, 61, [50, 16, 16, 1630]), (103, 11, [0]), (104, 24, [136, 8]), (106, 63, [0, 144]), (108, 61, [53, 16, 17, 1633]), (111, 11, [0]), (112, 24, [136, 8]), (114, 63, [0, 144]), (116, 61, [56, 16, 18, 1636]), (119, 11, [0]), (120, 24, [134, 6]), (122, 63, [0, 144]), (124, 61, [59, 16, 19, 1639]), (127, 11, [0]), (128, 24, [134, 6]), (130, 63, [0, 144]), (132, 61, [62, 16, 20, 1641]), (135, 11, [0]), (136, 24, [134, 6]), (138, 63, [0, 144]), (140, 61, [65, 16, 21, 1643]), (143, 11, [0]), (144, 24, [134, 6]), (146, 63, [0, 144]), (148, 61, [68, 16, 22, 1645]), (151, 11, [0]), (152, 24, [134, 6]), (154, 63, [0, 144]), (156, 61, [71, 16, 23, 1647]), (159, 0, [0])], (1, 18, 134, 12), [])
def zM_18 : zMeth := (⟨"FormRiverModel", "thrown", "()I"⟩, prog_13_method_1_code, 1, (some .int), 1, [(0, 11, [0]), (1, 57, [1, 17, 0, 1538]), (4, 0, [1])], (0, 0, 0, 0), [])
def zM_19 : zMeth := (⟨"FormRiverLaw", "addVersion", "(LFormRiver;I[J)I"⟩, method_4_code, 4, (some .int), 1, [(0, 11, [2]), (1, 23, [1, 0]), (2, 11, [0]), (3, 3, [1]), (4, 2, [15, 0, 20, 1, 13, 455, 452, 64, 453, 454]), (12, 17, [3]), (13, 23, [2, 1]), (14, 0, [1])], (8, 1, 6, 125), [(0, 9, 12, 19, 1), (0, 9, 15, 13, 0)])
def zM_20 : zMeth := (⟨"FormRiver", "addVersion", "(I)I"⟩, prog_1_method_3_code, 3, (some .int), 1, [(0, 11, [0]), (1, 3, [1]), (2, 2, [68, 0, 21, 1, 13, 459, 456, 64, 458, 4])], (7, 1, 6, 103), [])
def zM_21 : zMeth := (⟨"FormRiver", "formAt", "(I)LFormRiver$Form;"⟩, prog_1_method_49_code, 2, (some (.object "FormRiver$Form")), 5, [(0, 3, [1]), (1, 23, [1, 0]), (2, 11, [0]), (3, 57, [10, 13, 0, 177]), (6, 2, [48, 0, 9, 0, 2, 218, 215, 67, 216, 217]), (9, 23, [2, 1]), (10, 30, []), (11, 2, [84, 1, 22, 3, 0, 462, 460, 64, 461]), (14, 43, [28]), (17, 1, [1, 1, 259, 502, 263, 1, 463, 82])], (6, 1, 6, 82), [])
def zM_22 : zMeth := (⟨"FormRiver", "isOutside", "(III)Z"⟩, prog_1_method_65_code, 3, (some .boolean), 2, [(0, 3, [0]), (1, 3, [1]), (2, 46, [10]), (5, 3, [0]), (6, 3, [2]), (7, 52, [14]), (10, 23, [2, 1]), (11, 40, [15]), (14, 23, [1, 0]), (15, 0, [2])], (0, 0, 0, 0), [])
def zM_23 : zMeth := (⟨"FormRiverModel", "addVersion", "(I)I"⟩, prog_13_method_8_code, 2, (some .int), 1, [(0, 11, [0]), (1, 23, [1, 0]), (2, 59, [1, 17, 0, 1538]), (5, 11, [0]), (6, 3, [1]), (7, 2, [55, 0, 24, 1, 17, 1706, 1703, 70, 1705, 26]), (10, 45, [19]), (13, 11, [0]), (14, 23, [2, 1]), (15, 2, [48, 0, 26, 1, 17, 1585, 1582, 70, 1584, 25]), (18, 0, [1])], (2, 0, 0, 43), [])
def zM_24 : zMeth := (⟨"FormRiverModel", "isForm", "(I)Z"⟩, prog_13_method_5_code, 2, (some .boolean), 2, [(0, 3, [1]), (1, 23, [1, 0]), (2, 11, [0]), (3, 57, [41, 17, 8, 1546]), (6, 23, [2, 1]), (7, 30, []), (8, 2, [44, 1, 25, 3, 0, 1709, 1707, 70, 1708]), (11, 0, [2])], (1, 0, 0, 22), [])
def zM_25 : zMeth := (⟨"FormRiverModel", "isBetween", "(III)Z"⟩, prog_13_method_3_code, 3, (some .boolean), 2, [(0, 3, [1]), (1, 3, [0]), (2, 50, [14]), (5, 3, [0]), (6, 3, [2]), (7, 50, [14]), (10, 23, [2, 1]), (11, 40, [15]), (14, 23, [1, 0]), (15, 0, [2])], (0, 0, 0, 0), [])
def zM_26 : zMeth := (⟨"FormRiverModel", "fails", "(I)I"⟩, prog_13_method_2_code, 2, (some .int), 1, [(0, 11, [0]), (1, 3, [1]), (2, 59, [1, 17, 0, 1538]), (5, 23, [1, 0]), (6, 0, [1])], (0, 0, 0, 0), [])
def zM_27 : zMeth := (⟨"FormRiverLaw", "addQuestion", "(LFormRiver;IIIII[J)I"⟩, method_5_code, 8, (some .int), 1, [(0, 12, [6]), (2, 23, [1, 0]), (3, 11, [0]), (4, 3, [1]), (5, 3, [2]), (6, 3, [3]), (7, 4, [4]), (9, 4, [5]), (11, 2, [21, 0, 28, 5, 13, 505, 502, 64, 503, 504]), (19, 18, [7]), (21, 23, [2, 1]), (22, 0, [1])], (8, 1, 6, 130), [(0, 16, 19, 19, 1), (0, 16, 23, 25, 2), (0, 16, 27, 13, 0)])
def zM_28 : zMeth := (⟨"FormRiver", "addQuestion", "(IIIII)I"⟩, prog_1_method_4_code, 8, (some .int), 1, [(0, 11, [0]), (1, 3, [1]), (2, 2, [68, 0, 21, 1, 13, 459, 456, 64, 458, 4])], (7, 1, 6, 103), [])
def zM_29 : zMeth := (⟨"FormRiverModel", "addQuestion", "(IIIII)I"⟩, prog_13_method_10_code, 8, (some .int), 1, [(0, 11, [0]), (1, 23, [1, 0]), (2, 59, [1, 17, 0, 1538]), (5, 11, [0]), (6, 3, [1]), (7, 2, [55, 0, 24, 1, 17, 1706, 1703, 70, 1705, 26]), (10, 45, [19]), (13, 11, [0]), (14, 23, [2, 1]), (15, 2, [48, 0, 26, 1, 17, 1585, 1582, 70, 1584, 25]), (18, 0, [1])], (2, 0, 0, 43), [])
def zM_30 : zMeth := (⟨"FormRiverLaw", "addComputed", "(LFormRiver;IICII[J)I"⟩, method_6_code, 8, (some .int), 1, [(0, 12, [6]), (2, 23, [1, 0]), (3, 11, [0]), (4, 3, [1]), (5, 3, [2]), (6, 3, [3]), (7, 4, [4]), (9, 4, [5]), (11, 2, [27, 0, 31, 5, 13, 601, 598, 64, 599, 600]), (19, 18, [7]), (21, 23, [2, 1]), (22, 0, [1])], (8, 1, 6, 130), [(0, 16, 19, 19, 1), (0, 16, 23, 25, 2), (0, 16, 27, 13, 0), (0, 16, 31, 31, 3)])
def zM_31 : zMeth := (⟨"FormRiver", "addComputed", "(IICII)I"⟩, prog_1_method_5_code, 8, (some .int), 1, [(0, 11, [0]), (1, 3, [1]), (2, 2, [68, 0, 21, 1, 13, 459, 456, 64, 458, 4])], (7, 1, 6, 103), [])
def zM_32 : zMeth := (⟨"FormRiverModel", "addComputed", "(IICII)I"⟩, prog_13_method_11_code, 8, (some .int), 1, [(0, 11, [0]), (1, 23, [1, 0]), (2, 59, [1, 17, 0, 1538]), (5, 11, [0]), (6, 3, [1]), (7, 2, [55, 0, 24, 1, 17, 1706, 1703, 70, 1705, 26]), (10, 45, [19]), (13, 11, [0]), (14, 23, [2, 1]), (15, 2, [48, 0, 26, 1, 17, 1585, 1582, 70, 1584, 25]), (18, 0, [1])], (2, 0, 0, 43), [])
def zM_33 : zMeth := (⟨"FormRiverLaw", "setCondition", "(LFormRiver;IIICI[J)I"⟩, method_7_code, 8, (some .int), 1, [(0, 12, [6]), (2, 23, [1, 0]), (3, 11, [0]), (4, 3, [1]), (5, 3, [2]), (6, 3, [3]), (7, 4, [4]), (9, 4, [5]), (11, 2, [33, 0, 34, 5, 13, 634, 631, 64, 632, 633]), (19, 18, [7]), (21, 23, [2, 1]), (22, 0, [1])], (8, 1, 6, 132), [(0, 16, 19, 19, 1), (0, 16, 23, 25, 2), (0, 16, 27, 13, 0), (0, 16, 31, 31, 3), (0, 16, 35, 37, 4)])
def zM_34 : zMeth := (⟨"FormRiver", "setCondition", "(IIICI)I"⟩, prog_1_method_6_code, 10, (some .int), 1, [(0, 11, [0]), (1, 3, [1]), (2, 2, [68, 0, 21, 1, 13, 459, 456, 64, 458, 4])], (7, 1, 6, 103), [])
def zM_35 : zMeth := (⟨"FormRiverModel", "setCondition", "(IIICI)I"⟩, prog_13_method_13_code, 7, (some .int), 1, [(0, 11, [0]), (1, 23, [1, 0]), (2, 59, [1, 17, 0, 1538]), (5, 11, [0]), (6, 3, [1]), (7, 2, [55, 0, 24, 1, 17, 1706, 1703, 70, 1705, 26]), (10, 45, [19]), (13, 11, [0]), (14, 23, [2, 1]), (15, 2, [48, 0, 26, 1, 17, 1585, 1582, 70, 1584, 25]), (18, 0, [1])], (2, 0, 0, 43), [])
def zM_36 : zMeth := (⟨"FormRiverLaw", "setMap", "(LFormRiver;IIICI[J)I"⟩, method_8_code, 8, (some .int), 1, [(0, 12, [6]), (2, 23, [1, 0]), (3, 11, [0]), (4, 3, [1]), (5, 3, [2]), (6, 3, [3]), (7, 4, [4]), (9, 4, [5]), (11, 2, [39, 0, 37, 5, 13, 668, 665, 64, 666, 667]), (19, 18, [7]), (21, 23, [2, 1]), (22, 0, [1])], (8, 1, 6, 133), [(0, 16, 19, 19, 1), (0, 16, 23, 25, 2), (0, 16, 27, 13, 0), (0, 16, 31, 31, 3), (0, 16, 35, 37, 4)])
def zM_37 : zMeth := (⟨"FormRiver", "setMap", "(IIICI)I"⟩, prog_1_method_7_code, 11, (some .int), 1, [(0, 11, [0]), (1, 3, [1]), (2, 2, [68, 0, 21, 1, 13, 459, 456, 64, 458, 4])], (7, 1, 6, 103), [])
def zM_38 : zMeth := (⟨"FormRiverModel", "setMap", "(IIICI)I"⟩, prog_13_method_14_code, 7, (some .int), 1, [(0, 11, [0]), (1, 23, [1, 0]), (2, 59, [1, 17, 0, 1538]), (5, 11, [0]), (6, 3, [1]), (7, 2, [55, 0, 24, 1, 17, 1706, 1703, 70, 1705, 26]), (10, 45, [19]), (13, 11, [0]), (14, 23, [2, 1]), (15, 2, [48, 0, 26, 1, 17, 1585, 1582, 70, 1584, 25]), (18, 0, [1])], (2, 0, 0, 43), [])
def zM_39 : zMeth := (⟨"FormRiverLaw", "addLeg", "(LFormRiver;IIIIII[J)I"⟩, method_9_code, 9, (some .int), 1, [(0, 12, [7]), (2, 23, [1, 0]), (3, 11, [0]), (4, 3, [1]), (5, 3, [2]), (6, 3, [3]), (7, 4, [4]), (9, 4, [5]), (11, 4, [6]), (13, 2, [42, 0, 40, 6, 13, 683, 680, 64, 681, 682]), (21, 18, [8]), (23, 23, [2, 1]), (24, 0, [1])], (8, 1, 6, 131), [(0, 18, 21, 19, 1), (0, 18, 25, 25, 2), (0, 18, 29, 13, 0), (0, 18, 33, 31, 3)])
def zM_40 : zMeth := (⟨"FormRiver", "addLeg", "(IIIIII)I"⟩, prog_1_method_8_code, 9, (some .int), 1, [(0, 11, [0]), (1, 3, [1]), (2, 2, [68, 0, 21, 1, 13, 459, 456, 64, 458, 4])], (7, 1, 6, 103), [])
def zM_41 : zMeth := (⟨"FormRiverModel", "addLeg", "(IIIIII)I"⟩, prog_13_method_15_code, 9, (some .int), 1, [(0, 11, [0]), (1, 23, [1, 0]), (2, 59, [1, 17, 0, 1538]), (5, 11, [0]), (6, 3, [1]), (7, 2, [55, 0, 24, 1, 17, 1706, 1703, 70, 1705, 26]), (10, 45, [19]), (13, 11, [0]), (14, 23, [2, 1]), (15, 2, [48, 0, 26, 1, 17, 1585, 1582, 70, 1584, 25]), (18, 0, [1])], (2, 0, 0, 43), [])
def zM_42 : zMeth := (⟨"FormRiverLaw", "setKeeping", "(LFormRiver;IIIII[J)I"⟩, method_10_code, 8, (some .int), 1, [(0, 12, [6]), (2, 23, [1, 0]), (3, 11, [0]), (4, 3, [1]), (5, 3, [2]), (6, 3, [3]), (7, 4, [4]), (9, 4, [5]), (11, 2, [46, 0, 43, 5, 13, 729, 726, 64, 727, 728]), (19, 18, [7]), (21, 23, [2, 1]), (22, 0, [1])], (8, 1, 6, 131), [(0, 16, 19, 19, 1), (0, 16, 23, 25, 2), (0, 16, 27, 13, 0), (0, 16, 31, 31, 3)])
def zM_43 : zMeth := (⟨"FormRiver", "setKeeping", "(IIIII)I"⟩, prog_1_method_9_code, 9, (some .int), 1, [(0, 11, [0]), (1, 3, [1]), (2, 2, [68, 0, 21, 1, 13, 459, 456, 64, 458, 4])], (7, 1, 6, 103), [])
def zM_44 : zMeth := (⟨"FormRiverModel", "setKeeping", "(IIIII)I"⟩, prog_13_method_16_code, 8, (some .int), 1, [(0, 11, [0]), (1, 23, [1, 0]), (2, 59, [1, 17, 0, 1538]), (5, 11, [0]), (6, 3, [1]), (7, 2, [55, 0, 24, 1, 17, 1706, 1703, 70, 1705, 26]), (10, 45, [19]), (13, 11, [0]), (14, 23, [2, 1]), (15, 2, [48, 0, 26, 1, 17, 1585, 1582, 70, 1584, 25]), (18, 0, [1])], (2, 0, 0, 43), [])
def zM_45 : zMeth := (⟨"FormRiverLaw", "publish", "(LFormRiver;I[J)I"⟩, method_11_code, 4, (some .int), 1, [(0, 11, [2]), (1, 23, [1, 0]), (2, 11, [0]), (3, 3, [1]), (4, 2, [49, 0, 46, 1, 13, 737, 734, 64, 735, 736]), (12, 17, [3]), (13, 23, [2, 1]), (14, 0, [1])], (8, 1, 6, 128), [(0, 9, 12, 19, 1), (0, 9, 15, 13, 0), (0, 9, 18, 37, 4)])
def zM_46 : zMeth := (⟨"FormRiver", "publish", "(I)I"⟩, prog_1_method_10_code, 6, (some .int), 1, [(0, 11, [0]), (1, 3, [1]), (2, 2, [68, 0, 21, 1, 13, 459, 456, 64, 458, 4])], (7, 1, 6, 103), [])
def zM_47 : zMeth := (⟨"FormRiverModel", "publish", "(I)I"⟩, prog_13_method_17_code, 8, (some .int), 1, [(0, 11, [0]), (1, 23, [1, 0]), (2, 59, [1, 17, 0, 1538]), (5, 11, [0]), (6, 3, [1]), (7, 2, [55, 0, 24, 1, 17, 1706, 1703, 70, 1705, 26]), (10, 45, [19]), (13, 11, [0]), (14, 23, [2, 1]), (15, 2, [48, 0, 26, 1, 17, 1585, 1582, 70, 1584, 25]), (18, 0, [1])], (2, 0, 0, 43), [])
def zM_48 : zMeth := (⟨"FormRiverLaw", "present", "(LFormRiver;I[J)I"⟩, method_12_code, 4, (some .int), 1, [(0, 11, [2]), (1, 23, [1, 0]), (2, 11, [0]), (3, 3, [1]), (4, 2, [52, 0, 49, 1, 13, 943, 940, 64, 941, 942]), (12, 17, [3]), (13, 23, [2, 1]), (14, 0, [1])], (8, 1, 6, 125), [(0, 9, 12, 19, 1), (0, 9, 15, 31, 3)])
def zM_49 : zMeth := (⟨"FormRiver", "present", "(I)I"⟩, prog_1_method_11_code, 3, (some .int), 1, [(0, 11, [0]), (1, 3, [1]), (2, 2, [68, 0, 21, 1, 13, 459, 456, 64, 458, 4])], (7, 1, 6, 103), [])
def zM_50 : zMeth := (⟨"FormRiverModel", "present", "(I)I"⟩, prog_13_method_19_code, 2, (some .int), 1, [(0, 11, [0]), (1, 23, [1, 0]), (2, 59, [1, 17, 0, 1538]), (5, 11, [0]), (6, 3, [1]), (7, 2, [55, 0, 24, 1, 17, 1706, 1703, 70, 1705, 26]), (10, 45, [19]), (13, 11, [0]), (14, 23, [2, 1]), (15, 2, [48, 0, 26, 1, 17, 1585, 1582, 70, 1584, 25]), (18, 0, [1])], (2, 0, 0, 43), [])
def zM_51 : zMeth := (⟨"FormRiverLaw", "owner", "(LFormRiver;I[J)I"⟩, method_13_code, 4, (some .int), 1, [(0, 11, [2]), (1, 23, [1, 0]), (2, 11, [0]), (3, 3, [1]), (4, 2, [55, 0, 52, 1, 13, 958, 955, 64, 956, 957]), (12, 17, [3]), (13, 23, [2, 1]), (14, 0, [1]), (15, 17, [3]), (16, 23, [3, 2]), (17, 0, [1])], (8, 2, 12, 123), [(0, 9, 12, 25, 2), (0, 9, 15, 31, 3)])
def zM_52 : zMeth := (⟨"FormRiver", "owner", "(I)I"⟩, prog_1_method_12_code, 2, (some .int), 1, [(0, 3, [1]), (1, 2, [254, 1, 53, 1, 0, 961, 959, 64, 960]), (4, 11, [0]), (5, 57, [33, 13, 4, 181]), (8, 3, [1]), (9, 66, []), (10, 23, [0, 4294967295]), (11, 44, [25]), (14, 1, [3, 1, 115, 257, 119, 21, 611, 89])], (7, 2, 12, 102), [])
def zM_53 : zMeth := (⟨"FormRiver", "needMeaning", "(I)V"⟩, prog_1_method_61_code, 1, none, 0, [(0, 3, [0]), (1, 23, [1, 0]), (2, 24, [143, 15]), (4, 2, [84, 1, 22, 3, 0, 462, 460, 64, 461]), (7, 43, [21]), (10, 1, [2, 1, 88, 526, 92, 20, 506, 87]), (21, 0, [0])], (6, 1, 6, 82), [])
def zM_54 : zMeth := (⟨"FormRiverModel", "owner", "(I)I"⟩, prog_13_method_20_code, 2, (some .int), 1, [(0, 11, [0]), (1, 23, [1, 0]), (2, 59, [1, 17, 0, 1538]), (5, 3, [1]), (6, 23, [1, 0]), (7, 24, [143, 15]), (9, 2, [44, 1, 25, 3, 0, 1709, 1707, 70, 1708]), (12, 45, [21]), (15, 11, [0]), (16, 23, [2, 1]), (17, 2, [48, 0, 26, 1, 17, 1585, 1582, 70, 1584, 25]), (20, 0, [1]), (21, 11, [0]), (22, 57, [25, 17, 4, 1542]), (25, 3, [1]), (26, 66, []), (27, 49, [38]), (30, 11, [0]), (31, 23, [3, 2]), (32, 2, [48, 0, 26, 1, 17, 1585, 1582, 70, 1584, 25]), (35, 40, [44]), (44, 0, [1])], (1, 0, 0, 22), [])
def zM_55 : zMeth := (⟨"FormRiverLaw", "setSubstitute", "(LFormRiver;II[J)I"⟩, method_14_code, 5, (some .int), 1, [(0, 11, [3]), (1, 23, [1, 0]), (2, 11, [0]), (3, 3, [1]), (4, 3, [2]), (5, 2, [58, 0, 56, 2, 13, 970, 967, 64, 968, 969]), (8, 32, []), (9, 73, []), (10, 40, [25]), (13, 18, [4]), (15, 23, [2, 1]), (16, 0, [1]), (17, 18, [4]), (19, 23, [3, 2]), (20, 0, [1]), (25, 23, [1, 0]), (26, 0, [1])], (7, 1, 6, 105), [(0, 10, 13, 19, 1), (0, 10, 17, 25, 2), (0, 10, 21, 37, 4)])
def zM_56 : zMeth := (⟨"FormRiver", "setSubstitute", "(II)I"⟩, prog_1_method_13_code, 4, (some .int), 1, [(0, 3, [1]), (1, 23, [1, 0]), (2, 23, [6, 5]), (3, 2, [84, 1, 22, 3, 0, 462, 460, 64, 461]), (6, 45, [18]), (9, 3, [2]), (10, 23, [0, 4294967295]), (11, 23, [6, 5]), (12, 2, [84, 1, 22, 3, 0, 462, 460, 64, 461]), (15, 43, [29]), (18, 1, [1, 1, 259, 261, 263, 22, 463, 82]), (29, 3, [1]), (30, 3, [2]), (31, 44, [45]), (34, 1, [2, 1, 88, 264, 92, 23, 506, 87]), (45, 11, [0]), (46, 57, [22, 13, 2, 179]), (49, 3, [2]), (50, 3, [1]), (51, 2, [266, 0, 59, 2, 3, 976, 973, 68, 974, 975]), (54, 43, [68]), (68, 11, [0]), (69, 57, [22, 13, 2, 179]), (72, 57, [271, 3, 0, 140]), (75, 3, [1]), (76, 66, []), (77, 13, [3]), (78, 11, [0]), (79, 57, [22, 13, 2, 179]), (82, 57, [271, 3, 0, 140]), (85, 3, [1]), (86, 3, [2]), (87, 71, []), (88, 3, [3]), (89, 0, [1])], (6, 1, 6, 82), [])
def zM_57 : zMeth := (⟨"FormRiverModel", "setSubstitute", "(II)I"⟩, prog_13_method_22_code, 4, (some .int), 1, [(0, 11, [0]), (1, 23, [1, 0]), (2, 59, [1, 17, 0, 1538]), (5, 3, [1]), (6, 2, [167, 1, 58, 1, 0, 1854, 1852, 70, 1853]), (9, 43, [21]), (12, 3, [2]), (13, 23, [0, 4294967295]), (14, 23, [6, 5]), (15, 2, [44, 1, 25, 3, 0, 1709, 1707, 70, 1708]), (18, 45, [27]), (21, 11, [0]), (22, 23, [2, 1]), (23, 2, [48, 0, 26, 1, 17, 1585, 1582, 70, 1584, 25]), (26, 0, [1]), (27, 3, [1]), (28, 3, [2]), (29, 44, [38]), (32, 11, [0]), (33, 23, [3, 2]), (34, 2, [48, 0, 26, 1, 17, 1585, 1582, 70, 1584, 25]), (37, 0, [1]), (38, 3, [2]), (39, 13, [3]), (40, 3, [3]), (41, 47, [65]), (44, 3, [3]), (45, 3, [1]), (46, 44, [55]), (55, 11, [0]), (56, 57, [28, 17, 5, 1543]), (59, 3, [3]), (60, 66, []), (61, 13, [3]), (62, 40, [40]), (65, 11, [0]), (66, 57, [28, 17, 5, 1543]), (69, 3, [1]), (70, 66, []), (71, 13, [3]), (72, 11, [0]), (73, 57, [28, 17, 5, 1543]), (76, 3, [1]), (77, 3, [2]), (78, 71, []), (79, 3, [3]), (80, 0, [1])], (2, 0, 0, 42), [])
def zM_58 : zMeth := (⟨"FormRiverModel", "isDesk", "(I)Z"⟩, prog_13_method_21_code, 1, (some .boolean), 2, [(0, 3, [0]), (1, 23, [1, 0]), (2, 23, [6, 5]), (3, 2, [44, 1, 25, 3, 0, 1709, 1707, 70, 1708]), (6, 0, [2])], (1, 0, 0, 22), [])
def zM_59 : zMeth := (⟨"FormRiver$Desks", "leadsTo", "(II)Z"⟩, prog_2_method_3_code, 5, (some .boolean), 2, [(0, 3, [1]), (1, 13, [3]), (2, 23, [1, 0]), (3, 14, [4]), (5, 4, [4]), (7, 24, [134, 6]), (9, 48, [37]), (12, 3, [3]), (13, 23, [0, 4294967295]), (14, 42, [37]), (17, 3, [3]), (18, 3, [2]), (19, 44, [24]), (24, 11, [0]), (25, 57, [9, 3, 0, 139]), (28, 3, [3]), (29, 66, []), (30, 13, [3]), (31, 39, [4, 32769, 1]), (34, 40, [5]), (37, 23, [1, 0]), (38, 0, [2])], (0, 0, 0, 0), [])
def zM_60 : zMeth := (⟨"FormRiverLaw", "start", "(LFormRiver;II[J)I"⟩, method_15_code, 5, (some .int), 1, [(0, 11, [3]), (1, 23, [1, 0]), (2, 11, [0]), (3, 3, [1]), (4, 3, [2]), (5, 2, [62, 0, 61, 2, 13, 984, 981, 64, 982, 983]), (13, 18, [4]), (15, 23, [2, 1]), (16, 0, [1])], (8, 2, 12, 126), [(0, 10, 13, 19, 1), (0, 10, 17, 13, 0), (0, 10, 21, 31, 3)])
def zM_61 : zMeth := (⟨"FormRiver", "start", "(II)I"⟩, prog_1_method_14_code, 4, (some .int), 1, [(0, 3, [1]), (1, 2, [274, 1, 62, 1, 0, 987, 985, 64, 986]), (4, 11, [0]), (5, 3, [2]), (6, 2, [68, 0, 21, 1, 13, 459, 456, 64, 458, 4])], (7, 2, 12, 103), [])
def zM_62 : zMeth := (⟨"FormRiver", "needPerson", "(I)V"⟩, prog_1_method_59_code, 1, none, 0, [(0, 3, [0]), (1, 23, [1, 0]), (2, 23, [6, 5]), (3, 2, [84, 1, 22, 3, 0, 462, 460, 64, 461]), (6, 43, [20]), (9, 1, [1, 1, 259, 524, 263, 25, 463, 82]), (20, 0, [0])], (6, 1, 6, 82), [])
def zM_63 : zMeth := (⟨"FormRiverModel", "start", "(II)I"⟩, prog_13_method_28_code, 3, (some .int), 1, [(0, 11, [0]), (1, 23, [1, 0]), (2, 59, [1, 17, 0, 1538]), (5, 3, [1]), (6, 2, [210, 1, 64, 1, 0, 1861, 1859, 70, 1860]), (9, 43, [20]), (12, 11, [0]), (13, 3, [2]), (14, 2, [55, 0, 24, 1, 17, 1706, 1703, 70, 1705, 26]), (17, 45, [26]), (20, 11, [0]), (21, 23, [2, 1]), (22, 2, [48, 0, 26, 1, 17, 1585, 1582, 70, 1584, 25]), (25, 0, [1])], (2, 0, 0, 43), [])
def zM_64 : zMeth := (⟨"FormRiverModel", "isPerson", "(I)Z"⟩, prog_13_method_26_code, 1, (some .boolean), 2, [(0, 3, [0]), (1, 23, [1, 0]), (2, 23, [6, 5]), (3, 2, [44, 1, 25, 3, 0, 1709, 1707, 70, 1708]), (6, 0, [2])], (1, 0, 0, 22), [])
def zM_65 : zMeth := (⟨"FormRiverLaw", "amend", "(LFormRiver;I[J)I"⟩, method_16_code, 4, (some .int), 1, [(0, 11, [2]), (1, 23, [1, 0]), (2, 11, [0]), (3, 3, [1]), (4, 2, [65, 0, 66, 1, 13, 1095, 1092, 64, 1093, 1094]), (12, 17, [3]), (13, 23, [2, 1]), (14, 0, [1])], (8, 1, 6, 126), [(0, 9, 12, 19, 1), (0, 9, 15, 13, 0)])
def zM_66 : zMeth := (⟨"FormRiver", "amend", "(I)I"⟩, prog_1_method_15_code, 4, (some .int), 1, [(0, 11, [0]), (1, 3, [1]), (2, 2, [282, 0, 67, 1, 13, 1099, 1096, 64, 1098, 11])], (7, 1, 6, 103), [])
def zM_67 : zMeth := (⟨"FormRiver", "submissionAt", "(I)LFormRiver$Submission;"⟩, prog_1_method_50_code, 2, (some (.object "FormRiver$Submission")), 5, [(0, 3, [1]), (1, 23, [1, 0]), (2, 11, [0]), (3, 57, [16, 13, 1, 178]), (6, 2, [48, 0, 9, 0, 2, 218, 215, 67, 216, 217]), (9, 23, [2, 1]), (10, 30, []), (11, 2, [84, 1, 22, 3, 0, 462, 460, 64, 461]), (14, 43, [28]), (17, 1, [1, 1, 259, 504, 263, 27, 463, 82])], (6, 1, 6, 82), [])
def zM_68 : zMeth := (⟨"FormRiverModel", "amend", "(I)I"⟩, prog_13_method_29_code, 8, (some .int), 1, [(0, 11, [0]), (1, 23, [1, 0]), (2, 59, [1, 17, 0, 1538]), (5, 11, [0]), (6, 3, [1]), (7, 2, [217, 0, 69, 1, 17, 1940, 1937, 70, 1939, 42]), (10, 45, [19]), (13, 11, [0]), (14, 23, [2, 1]), (15, 2, [48, 0, 26, 1, 17, 1585, 1582, 70, 1584, 25]), (18, 0, [1])], (2, 0, 0, 43), [])
def zM_69 : zMeth := (⟨"FormRiverModel", "isSubmission", "(I)Z"⟩, prog_13_method_25_code, 2, (some .boolean), 2, [(0, 3, [1]), (1, 23, [1, 0]), (2, 11, [0]), (3, 57, [203, 17, 9, 1547]), (6, 23, [2, 1]), (7, 30, []), (8, 2, [44, 1, 25, 3, 0, 1709, 1707, 70, 1708]), (11, 0, [2])], (1, 0, 0, 22), [])
def zM_70 : zMeth := (⟨"FormRiverLaw", "answer", "(LFormRiver;III[J)I"⟩, method_17_code, 6, (some .int), 1, [(0, 12, [4]), (2, 23, [1, 0]), (3, 11, [0]), (4, 3, [1]), (5, 3, [2]), (6, 3, [3]), (7, 2, [68, 0, 71, 3, 13, 1122, 1119, 64, 1120, 1121]), (15, 18, [5]), (17, 23, [2, 1]), (18, 0, [1])], (8, 1, 6, 128), [(0, 12, 15, 19, 1), (0, 12, 19, 13, 0), (0, 12, 23, 37, 4), (0, 12, 27, 25, 2)])
def zM_71 : zMeth := (⟨"FormRiver", "answer", "(III)I"⟩, prog_1_method_16_code, 6, (some .int), 1, [(0, 11, [0]), (1, 3, [1]), (2, 2, [282, 0, 67, 1, 13, 1099, 1096, 64, 1098, 11])], (7, 1, 6, 103), [])
def zM_72 : zMeth := (⟨"FormRiverModel", "answer", "(III)I"⟩, prog_13_method_33_code, 6, (some .int), 1, [(0, 11, [0]), (1, 23, [1, 0]), (2, 59, [1, 17, 0, 1538]), (5, 11, [0]), (6, 3, [1]), (7, 3, [2]), (8, 2, [241, 0, 73, 2, 17, 1952, 1949, 70, 1951, 44]), (11, 45, [20]), (14, 11, [0]), (15, 23, [2, 1]), (16, 2, [48, 0, 26, 1, 17, 1585, 1582, 70, 1584, 25]), (19, 0, [1])], (3, 0, 0, 65), [])
def zM_73 : zMeth := (⟨"FormRiverModel", "isThere", "(II)Z"⟩, prog_13_method_31_code, 3, (some .boolean), 2, [(0, 11, [0]), (1, 3, [1]), (2, 2, [217, 0, 69, 1, 17, 1940, 1937, 70, 1939, 42]), (5, 43, [35]), (35, 23, [1, 0]), (36, 0, [2])], (2, 0, 0, 43), [])
def zM_74 : zMeth := (⟨"FormRiverLaw", "takeBack", "(LFormRiver;II[J)I"⟩, method_18_code, 5, (some .int), 1, [(0, 11, [3]), (1, 23, [1, 0]), (2, 11, [0]), (3, 3, [1]), (4, 3, [2]), (5, 2, [72, 0, 75, 2, 13, 1147, 1144, 64, 1145, 1146]), (13, 18, [4]), (15, 23, [2, 1]), (16, 0, [1])], (8, 1, 6, 127), [(0, 10, 13, 19, 1), (0, 10, 17, 13, 0), (0, 10, 21, 37, 4), (0, 10, 25, 31, 3)])
def zM_75 : zMeth := (⟨"FormRiver", "takeBack", "(II)I"⟩, prog_1_method_17_code, 5, (some .int), 1, [(0, 11, [0]), (1, 3, [1]), (2, 2, [282, 0, 67, 1, 13, 1099, 1096, 64, 1098, 11])], (7, 1, 6, 103), [])
def zM_76 : zMeth := (⟨"FormRiverModel", "takeBack", "(II)I"⟩, prog_13_method_34_code, 4, (some .int), 1, [(0, 11, [0]), (1, 23, [1, 0]), (2, 59, [1, 17, 0, 1538]), (5, 11, [0]), (6, 3, [1]), (7, 3, [2]), (8, 2, [241, 0, 73, 2, 17, 1952, 1949, 70, 1951, 44]), (11, 45, [20]), (14, 11, [0]), (15, 23, [2, 1]), (16, 2, [48, 0, 26, 1, 17, 1585, 1582, 70, 1584, 25]), (19, 0, [1])], (3, 0, 0, 65), [])
def zM_77 : zMeth := (⟨"FormRiverLaw", "prefill", "(LFormRiver;I[J)I"⟩, method_19_code, 4, (some .int), 1, [(0, 11, [2]), (1, 23, [1, 0]), (2, 11, [0]), (3, 3, [1]), (4, 2, [75, 0, 78, 1, 13, 1156, 1153, 64, 1154, 1155]), (12, 17, [3]), (13, 23, [2, 1]), (14, 0, [1])], (8, 1, 6, 130), [(0, 9, 12, 19, 1), (0, 9, 15, 13, 0)])
def zM_78 : zMeth := (⟨"FormRiver", "prefill", "(I)I"⟩, prog_1_method_18_code, 8, (some .int), 1, [(0, 11, [0]), (1, 3, [1]), (2, 2, [282, 0, 67, 1, 13, 1099, 1096, 64, 1098, 11])], (7, 1, 6, 103), [])
def zM_79 : zMeth := (⟨"FormRiverModel", "prefill", "(I)I"⟩, prog_13_method_35_code, 8, (some .int), 1, [(0, 11, [0]), (1, 23, [1, 0]), (2, 59, [1, 17, 0, 1538]), (5, 11, [0]), (6, 3, [1]), (7, 2, [217, 0, 69, 1, 17, 1940, 1937, 70, 1939, 42]), (10, 45, [19]), (13, 11, [0]), (14, 23, [2, 1]), (15, 2, [48, 0, 26, 1, 17, 1585, 1582, 70, 1584, 25]), (18, 0, [1])], (2, 0, 0, 43), [])
def zM_80 : zMeth := (⟨"FormRiverLaw", "submit", "(LFormRiver;I[J)I"⟩, method_20_code, 4, (some .int), 1, [(0, 11, [2]), (1, 23, [1, 0]), (2, 11, [0]), (3, 3, [1]), (4, 2, [78, 0, 81, 1, 13, 1169, 1166, 64, 1167, 1168]), (12, 17, [3]), (13, 23, [2, 1]), (14, 0, [1])], (8, 1, 6, 125), [(0, 9, 12, 19, 1), (0, 9, 15, 13, 0), (0, 9, 18, 37, 4)])
def zM_81 : zMeth := (⟨"FormRiver", "submit", "(I)I"⟩, prog_1_method_19_code, 3, (some .int), 1, [(0, 11, [0]), (1, 3, [1]), (2, 2, [282, 0, 67, 1, 13, 1099, 1096, 64, 1098, 11])], (7, 1, 6, 103), [])
def zM_82 : zMeth := (⟨"FormRiverModel", "submit", "(I)I"⟩, prog_13_method_42_code, 5, (some .int), 1, [(0, 11, [0]), (1, 23, [1, 0]), (2, 59, [1, 17, 0, 1538]), (5, 11, [0]), (6, 3, [1]), (7, 2, [217, 0, 69, 1, 17, 1940, 1937, 70, 1939, 42]), (10, 45, [19]), (13, 11, [0]), (14, 23, [2, 1]), (15, 2, [48, 0, 26, 1, 17, 1585, 1582, 70, 1584, 25]), (18, 0, [1])], (2, 0, 0, 43), [])
def zM_83 : zMeth := (⟨"FormRiverLaw", "approve", "(LFormRiver;II[J)I"⟩, method_21_code, 5, (some .int), 1, [(0, 11, [3]), (1, 23, [1, 0]), (2, 11, [0]), (3, 3, [1]), (4, 3, [2]), (5, 2, [81, 0, 84, 2, 13, 1215, 1212, 64, 1213, 1214]), (13, 18, [4]), (15, 23, [2, 1]), (16, 0, [1])], (8, 1, 6, 126), [(0, 10, 13, 19, 1), (0, 10, 17, 13, 0), (0, 10, 21, 31, 3)])
def zM_84 : zMeth := (⟨"FormRiver", "approve", "(II)I"⟩, prog_1_method_20_code, 4, (some .int), 1, [(0, 11, [0]), (1, 3, [1]), (2, 2, [282, 0, 67, 1, 13, 1099, 1096, 64, 1098, 11])], (7, 1, 6, 103), [])
def zM_85 : zMeth := (⟨"FormRiverModel", "approve", "(II)I"⟩, prog_13_method_44_code, 5, (some .int), 1, [(0, 11, [0]), (1, 23, [1, 0]), (2, 59, [1, 17, 0, 1538]), (5, 11, [0]), (6, 3, [1]), (7, 2, [217, 0, 69, 1, 17, 1940, 1937, 70, 1939, 42]), (10, 43, [20]), (20, 11, [0]), (21, 23, [2, 1]), (22, 2, [48, 0, 26, 1, 17, 1585, 1582, 70, 1584, 25]), (25, 0, [1])], (2, 0, 0, 43), [])
def zM_86 : zMeth := (⟨"FormRiverLaw", "sendBack", "(LFormRiver;III[J)I"⟩, method_22_code, 6, (some .int), 1, [(0, 12, [4]), (2, 23, [1, 0]), (3, 11, [0]), (4, 3, [1]), (5, 3, [2]), (6, 3, [3]), (7, 2, [84, 0, 87, 3, 13, 1242, 1239, 64, 1240, 1241]), (15, 18, [5]), (17, 23, [2, 1]), (18, 0, [1])], (8, 1, 6, 128), [(0, 12, 15, 19, 1), (0, 12, 19, 25, 2), (0, 12, 23, 13, 0), (0, 12, 27, 31, 3)])
def zM_87 : zMeth := (⟨"FormRiver", "sendBack", "(III)I"⟩, prog_1_method_21_code, 6, (some .int), 1, [(0, 11, [0]), (1, 3, [1]), (2, 2, [282, 0, 67, 1, 13, 1099, 1096, 64, 1098, 11])], (7, 1, 6, 103), [])
def zM_88 : zMeth := (⟨"FormRiverModel", "sendBack", "(III)I"⟩, prog_13_method_45_code, 9, (some .int), 1, [(0, 11, [0]), (1, 23, [1, 0]), (2, 59, [1, 17, 0, 1538]), (5, 11, [0]), (6, 3, [1]), (7, 2, [217, 0, 69, 1, 17, 1940, 1937, 70, 1939, 42]), (10, 43, [20]), (20, 11, [0]), (21, 23, [2, 1]), (22, 2, [48, 0, 26, 1, 17, 1585, 1582, 70, 1584, 25]), (25, 0, [1])], (2, 0, 0, 43), [])
def zM_89 : zMeth := (⟨"FormRiverLaw", "reject", "(LFormRiver;II[J)I"⟩, method_23_code, 5, (some .int), 1, [(0, 11, [3]), (1, 23, [1, 0]), (2, 11, [0]), (3, 3, [1]), (4, 3, [2]), (5, 2, [87, 0, 90, 2, 13, 1263, 1260, 64, 1261, 1262]), (13, 18, [4]), (15, 23, [2, 1]), (16, 0, [1])], (8, 1, 6, 128), [(0, 10, 13, 19, 1), (0, 10, 17, 13, 0), (0, 10, 21, 31, 3)])
def zM_90 : zMeth := (⟨"FormRiver", "reject", "(II)I"⟩, prog_1_method_22_code, 6, (some .int), 1, [(0, 11, [0]), (1, 3, [1]), (2, 2, [282, 0, 67, 1, 13, 1099, 1096, 64, 1098, 11])], (7, 1, 6, 103), [])
def zM_91 : zMeth := (⟨"FormRiverModel", "reject", "(II)I"⟩, prog_13_method_46_code, 6, (some .int), 1, [(0, 11, [0]), (1, 23, [1, 0]), (2, 59, [1, 17, 0, 1538]), (5, 11, [0]), (6, 3, [1]), (7, 2, [217, 0, 69, 1, 17, 1940, 1937, 70, 1939, 42]), (10, 43, [20]), (20, 11, [0]), (21, 23, [2, 1]), (22, 2, [48, 0, 26, 1, 17, 1585, 1582, 70, 1584, 25]), (25, 0, [1])], (2, 0, 0, 43), [])
def zM_92 : zMeth := (⟨"FormRiverLaw", "withdraw", "(LFormRiver;I[J)I"⟩, method_24_code, 4, (some .int), 1, [(0, 11, [2]), (1, 23, [1, 0]), (2, 11, [0]), (3, 3, [1]), (4, 2, [90, 0, 93, 1, 13, 1270, 1267, 64, 1268, 1269]), (12, 17, [3]), (13, 23, [2, 1]), (14, 0, [1])], (8, 1, 6, 126), [(0, 9, 12, 19, 1), (0, 9, 15, 13, 0)])
def zM_93 : zMeth := (⟨"FormRiver", "withdraw", "(I)C"⟩, prog_1_method_23_code, 4, (some .char), 3, [(0, 11, [0]), (1, 3, [1]), (2, 2, [282, 0, 67, 1, 13, 1099, 1096, 64, 1098, 11])], (7, 1, 6, 103), [])
def zM_94 : zMeth := (⟨"FormRiverModel", "withdraw", "(I)C"⟩, prog_13_method_47_code, 4, (some .char), 3, [(0, 11, [0]), (1, 23, [1, 0]), (2, 59, [1, 17, 0, 1538]), (5, 11, [0]), (6, 3, [1]), (7, 2, [217, 0, 69, 1, 17, 1940, 1937, 70, 1939, 42]), (10, 45, [20]), (13, 11, [0]), (14, 23, [2, 1]), (15, 2, [48, 0, 26, 1, 17, 1585, 1582, 70, 1584, 25]), (18, 33, []), (19, 0, [3])], (2, 0, 0, 43), [])
def zM_95 : zMeth := (⟨"FormRiverLaw", "state", "(LFormRiver;I[J)I"⟩, method_25_code, 4, (some .int), 1, [(0, 11, [2]), (1, 23, [1, 0]), (2, 11, [0]), (3, 3, [1]), (4, 2, [94, 0, 96, 1, 13, 1278, 1275, 64, 1276, 1277]), (12, 17, [3]), (13, 23, [2, 1]), (14, 0, [1])], (8, 1, 6, 124), [(0, 9, 12, 19, 1)])
def zM_96 : zMeth := (⟨"FormRiver", "state", "(I)C"⟩, prog_1_method_24_code, 2, (some .char), 3, [(0, 11, [0]), (1, 3, [1]), (2, 2, [282, 0, 67, 1, 13, 1099, 1096, 64, 1098, 11])], (7, 1, 6, 103), [])
def zM_97 : zMeth := (⟨"FormRiverModel", "state", "(I)C"⟩, prog_13_method_48_code, 2, (some .char), 3, [(0, 11, [0]), (1, 23, [1, 0]), (2, 59, [1, 17, 0, 1538]), (5, 11, [0]), (6, 3, [1]), (7, 2, [217, 0, 69, 1, 17, 1940, 1937, 70, 1939, 42]), (10, 43, [25]), (25, 11, [0]), (26, 23, [2, 1]), (27, 2, [48, 0, 26, 1, 17, 1585, 1582, 70, 1584, 25]), (30, 33, []), (31, 0, [3])], (2, 0, 0, 43), [])
def zM_98 : zMeth := (⟨"FormRiverLaw", "isAsked", "(LFormRiver;II[J)I"⟩, method_26_code, 5, (some .int), 1, [(0, 11, [3]), (1, 23, [1, 0]), (2, 11, [0]), (3, 3, [1]), (4, 3, [2]), (5, 2, [97, 0, 99, 2, 13, 1285, 1282, 64, 1283, 1284]), (20, 18, [4]), (22, 23, [2, 1]), (23, 0, [1])], (8, 1, 6, 125), [(0, 17, 20, 19, 1)])
def zM_99 : zMeth := (⟨"FormRiver", "isAsked", "(II)Z"⟩, prog_1_method_25_code, 3, (some .boolean), 2, [(0, 11, [0]), (1, 3, [1]), (2, 2, [282, 0, 67, 1, 13, 1099, 1096, 64, 1098, 11])], (7, 1, 6, 103), [])
def zM_100 : zMeth := (⟨"FormRiverModel", "isAsked", "(II)Z"⟩, prog_13_method_50_code, 3, (some .boolean), 2, [(0, 11, [0]), (1, 3, [1]), (2, 3, [2]), (3, 2, [315, 0, 101, 2, 17, 2029, 2026, 70, 2028, 54]), (6, 45, [30]), (30, 23, [1, 0]), (31, 0, [2])], (4, 0, 0, 87), [])
def zM_101 : zMeth := (⟨"FormRiverModel", "isMissing", "(II)Z"⟩, prog_13_method_49_code, 3, (some .boolean), 2, [(0, 11, [0]), (1, 11, [0]), (2, 3, [1]), (3, 3, [2]), (4, 2, [241, 0, 73, 2, 17, 1952, 1949, 70, 1951, 44]), (7, 43, [14]), (14, 23, [2, 1]), (15, 59, [1, 17, 0, 1538]), (18, 11, [0]), (19, 57, [1, 17, 0, 1538]), (22, 53, [29]), (25, 23, [2, 1]), (26, 40, [30]), (30, 0, [2])], (3, 0, 0, 65), [])
def zM_102 : zMeth := (⟨"FormRiverLaw", "value", "(LFormRiver;II[J)I"⟩, method_27_code, 5, (some .int), 1, [(0, 11, [3]), (1, 23, [1, 0]), (2, 11, [0]), (3, 3, [1]), (4, 3, [2]), (5, 2, [101, 0, 103, 2, 13, 1292, 1289, 64, 1290, 1291]), (13, 18, [4]), (15, 23, [2, 1]), (16, 0, [1])], (8, 1, 6, 125), [(0, 10, 13, 19, 1), (0, 10, 17, 31, 3)])
def zM_103 : zMeth := (⟨"FormRiver", "value", "(II)I"⟩, prog_1_method_26_code, 3, (some .int), 1, [(0, 11, [0]), (1, 3, [1]), (2, 2, [282, 0, 67, 1, 13, 1099, 1096, 64, 1098, 11])], (7, 1, 6, 103), [])
def zM_104 : zMeth := (⟨"FormRiverModel", "value", "(II)I"⟩, prog_13_method_51_code, 4, (some .int), 1, [(0, 11, [0]), (1, 3, [1]), (2, 3, [2]), (3, 2, [315, 0, 101, 2, 17, 2029, 2026, 70, 2028, 54]), (6, 43, [11]), (9, 23, [1, 0]), (10, 0, [1])], (4, 0, 0, 87), [])
def zM_105 : zMeth := (⟨"FormRiverLaw", "answers", "(LFormRiver;II[J)I"⟩, method_28_code, 5, (some .int), 1, [(0, 11, [3]), (1, 23, [1, 0]), (2, 11, [0]), (3, 3, [1]), (4, 3, [2]), (5, 2, [104, 0, 106, 2, 13, 1303, 1300, 64, 1301, 1302]), (13, 18, [4]), (15, 23, [2, 1]), (16, 0, [1])], (8, 1, 6, 125), [(0, 10, 13, 19, 1)])
def zM_106 : zMeth := (⟨"FormRiver", "answers", "(II)I"⟩, prog_1_method_27_code, 3, (some .int), 1, [(0, 11, [0]), (1, 3, [1]), (2, 2, [282, 0, 67, 1, 13, 1099, 1096, 64, 1098, 11])], (7, 1, 6, 103), [])
def zM_107 : zMeth := (⟨"FormRiverModel", "answers", "(II)I"⟩, prog_13_method_52_code, 3, (some .int), 1, [(0, 11, [0]), (1, 3, [1]), (2, 3, [2]), (3, 2, [315, 0, 101, 2, 17, 2029, 2026, 70, 2028, 54]), (6, 43, [13]), (9, 23, [1, 0]), (10, 40, [24]), (24, 0, [1])], (4, 0, 0, 87), [])
def zM_108 : zMeth := (⟨"FormRiverLaw", "stage", "(LFormRiver;I[J)I"⟩, method_29_code, 4, (some .int), 1, [(0, 11, [2]), (1, 23, [1, 0]), (2, 11, [0]), (3, 3, [1]), (4, 2, [107, 0, 109, 1, 13, 1310, 1307, 64, 1308, 1309]), (12, 17, [3]), (13, 23, [2, 1]), (14, 0, [1])], (8, 1, 6, 125), [(0, 9, 12, 19, 1), (0, 9, 15, 13, 0)])
def zM_109 : zMeth := (⟨"FormRiver", "stage", "(I)I"⟩, prog_1_method_28_code, 3, (some .int), 1, [(0, 11, [0]), (1, 3, [1]), (2, 2, [282, 0, 67, 1, 13, 1099, 1096, 64, 1098, 11])], (7, 1, 6, 103), [])
def zM_110 : zMeth := (⟨"FormRiverModel", "stage", "(I)I"⟩, prog_13_method_53_code, 3, (some .int), 1, [(0, 11, [0]), (1, 23, [1, 0]), (2, 59, [1, 17, 0, 1538]), (5, 11, [0]), (6, 3, [1]), (7, 2, [217, 0, 69, 1, 17, 1940, 1937, 70, 1939, 42]), (10, 45, [19]), (13, 11, [0]), (14, 23, [2, 1]), (15, 2, [48, 0, 26, 1, 17, 1585, 1582, 70, 1584, 25]), (18, 0, [1])], (2, 0, 0, 43), [])
def zM_111 : zMeth := (⟨"FormRiverLaw", "waits", "(LFormRiver;II[J)I"⟩, method_30_code, 5, (some .int), 1, [(0, 11, [3]), (1, 23, [1, 0]), (2, 11, [0]), (3, 3, [1]), (4, 3, [2]), (5, 2, [110, 0, 112, 2, 13, 1318, 1315, 64, 1316, 1317]), (20, 18, [4]), (22, 23, [2, 1]), (23, 0, [1])], (8, 1, 6, 126), [(0, 17, 20, 19, 1)])
def zM_112 : zMeth := (⟨"FormRiver", "waits", "(II)Z"⟩, prog_1_method_29_code, 4, (some .boolean), 2, [(0, 11, [0]), (1, 3, [1]), (2, 2, [282, 0, 67, 1, 13, 1099, 1096, 64, 1098, 11])], (7, 1, 6, 103), [])
def zM_113 : zMeth := (⟨"FormRiverModel", "waits", "(II)Z"⟩, prog_13_method_54_code, 3, (some .boolean), 2, [(0, 11, [0]), (1, 11, [0]), (2, 3, [1]), (3, 2, [217, 0, 69, 1, 17, 1940, 1937, 70, 1939, 42]), (6, 43, [20]), (20, 23, [2, 1]), (21, 59, [1, 17, 0, 1538]), (24, 11, [0]), (25, 57, [1, 17, 0, 1538]), (28, 45, [49]), (49, 23, [1, 0]), (50, 0, [2])], (2, 0, 0, 43), [])
def zM_114 : zMeth := (⟨"FormRiverLaw", "waitingAt", "(LFormRiver;II[J)I"⟩, method_31_code, 5, (some .int), 1, [(0, 11, [3]), (1, 23, [1, 0]), (2, 11, [0]), (3, 3, [1]), (4, 3, [2]), (5, 2, [113, 0, 115, 2, 13, 1325, 1322, 64, 1323, 1324]), (13, 18, [4]), (15, 23, [2, 1]), (16, 0, [1]), (17, 18, [4]), (19, 23, [3, 2]), (20, 0, [1])], (8, 2, 12, 126), [(0, 10, 13, 19, 1), (0, 10, 17, 31, 3)])
def zM_115 : zMeth := (⟨"FormRiver", "waitingAt", "(II)I"⟩, prog_1_method_30_code, 5, (some .int), 1, [(0, 3, [1]), (1, 2, [389, 1, 116, 1, 0, 1218, 1216, 64, 1217]), (4, 23, [1, 0]), (5, 13, [3]), (6, 3, [3]), (7, 11, [0]), (8, 57, [16, 13, 1, 178]), (11, 2, [48, 0, 9, 0, 2, 218, 215, 67, 216, 217]), (14, 48, [62]), (62, 1, [3, 1, 115, 431, 119, 43, 611, 89])], (7, 2, 12, 102), [])
def zM_116 : zMeth := (⟨"FormRiver", "needDesk", "(I)V"⟩, prog_1_method_60_code, 1, none, 0, [(0, 3, [0]), (1, 23, [1, 0]), (2, 23, [6, 5]), (3, 2, [84, 1, 22, 3, 0, 462, 460, 64, 461]), (6, 43, [20]), (9, 1, [1, 1, 259, 261, 263, 22, 463, 82]), (20, 0, [0])], (6, 1, 6, 82), [])
def zM_117 : zMeth := (⟨"FormRiverModel", "waitingAt", "(II)I"⟩, prog_13_method_55_code, 6, (some .int), 1, [(0, 11, [0]), (1, 23, [1, 0]), (2, 59, [1, 17, 0, 1538]), (5, 3, [1]), (6, 2, [167, 1, 58, 1, 0, 1854, 1852, 70, 1853]), (9, 45, [18]), (12, 11, [0]), (13, 23, [2, 1]), (14, 2, [48, 0, 26, 1, 17, 1585, 1582, 70, 1584, 25]), (17, 0, [1]), (18, 3, [2]), (19, 13, [3]), (20, 23, [1, 0]), (21, 14, [4]), (23, 4, [4]), (25, 11, [0]), (26, 57, [255, 17, 11, 1549]), (29, 50, [99]), (32, 23, [1, 0]), (33, 14, [5]), (35, 4, [5]), (37, 11, [0]), (38, 57, [203, 17, 9, 1547]), (41, 48, [93]), (93, 39, [4, 32769, 1]), (96, 40, [23]), (99, 11, [0]), (100, 23, [3, 2]), (101, 2, [48, 0, 26, 1, 17, 1585, 1582, 70, 1584, 25]), (104, 0, [1])], (2, 0, 0, 42), [])
def zM_118 : zMeth := (⟨"FormRiverLaw", "carried", "(LFormRiver;II[J)I"⟩, method_32_code, 5, (some .int), 1, [(0, 11, [3]), (1, 23, [1, 0]), (2, 11, [0]), (3, 3, [1]), (4, 3, [2]), (5, 2, [116, 0, 119, 2, 13, 1341, 1338, 64, 1339, 1340]), (13, 18, [4]), (15, 23, [2, 1]), (16, 0, [1])], (9, 1, 6, 148), [(0, 10, 13, 19, 1), (0, 10, 17, 31, 3)])
def zM_119 : zMeth := (⟨"FormRiver", "carried", "(II)I"⟩, prog_1_method_31_code, 3, (some .int), 1, [(0, 11, [0]), (1, 3, [1]), (2, 3, [2]), (3, 2, [433, 0, 120, 2, 13, 1345, 1342, 64, 1344, 18])], (8, 1, 6, 126), [])
def zM_120 : zMeth := (⟨"FormRiver", "slotCarried", "(II)LFormRiver$Slot;"⟩, prog_1_method_52_code, 4, (some (.object "FormRiver$Slot")), 5, [(0, 11, [0]), (1, 3, [1]), (2, 2, [282, 0, 67, 1, 13, 1099, 1096, 64, 1098, 11])], (7, 1, 6, 103), [])
def zM_121 : zMeth := (⟨"FormRiverModel", "carried", "(II)I"⟩, prog_13_method_57_code, 4, (some .int), 1, [(0, 11, [0]), (1, 3, [1]), (2, 3, [2]), (3, 2, [318, 0, 122, 2, 17, 2057, 2054, 70, 2056, 55]), (6, 43, [11]), (9, 23, [1, 0]), (10, 0, [1])], (3, 0, 0, 65), [])
def zM_122 : zMeth := (⟨"FormRiverModel", "isNotCarried", "(II)Z"⟩, prog_13_method_56_code, 3, (some .boolean), 2, [(0, 11, [0]), (1, 11, [0]), (2, 3, [1]), (3, 2, [217, 0, 69, 1, 17, 1940, 1937, 70, 1939, 42]), (6, 43, [39]), (39, 23, [2, 1]), (40, 59, [1, 17, 0, 1538]), (43, 11, [0]), (44, 57, [1, 17, 0, 1538]), (47, 53, [54]), (50, 23, [2, 1]), (51, 40, [55]), (55, 0, [2])], (2, 0, 0, 43), [])
def zM_123 : zMeth := (⟨"FormRiverLaw", "reason", "(LFormRiver;II[J)I"⟩, method_33_code, 5, (some .int), 1, [(0, 11, [3]), (1, 23, [1, 0]), (2, 11, [0]), (3, 3, [1]), (4, 3, [2]), (5, 2, [119, 0, 124, 2, 13, 1352, 1349, 64, 1350, 1351]), (13, 18, [4]), (15, 23, [2, 1]), (16, 0, [1])], (10, 1, 6, 171), [(0, 10, 13, 19, 1), (0, 10, 17, 13, 0)])
def zM_124 : zMeth := (⟨"FormRiver", "reason", "(II)C"⟩, prog_1_method_32_code, 3, (some .char), 3, [(0, 11, [0]), (1, 3, [1]), (2, 3, [2]), (3, 2, [437, 0, 125, 2, 13, 1356, 1353, 64, 1355, 19])], (9, 1, 6, 149), [])
def zM_125 : zMeth := (⟨"FormRiver", "slotWithoutValue", "(II)LFormRiver$Slot;"⟩, prog_1_method_53_code, 4, (some (.object "FormRiver$Slot")), 5, [(0, 11, [0]), (1, 3, [1]), (2, 3, [2]), (3, 2, [433, 0, 120, 2, 13, 1345, 1342, 64, 1344, 18])], (8, 1, 6, 126), [])
def zM_126 : zMeth := (⟨"FormRiverModel", "reason", "(II)C"⟩, prog_13_method_59_code, 4, (some .char), 3, [(0, 11, [0]), (1, 3, [1]), (2, 3, [2]), (3, 2, [321, 0, 127, 2, 17, 2065, 2062, 70, 2064, 56]), (6, 17, [3]), (7, 11, [3]), (8, 55, [15]), (11, 23, [1, 0]), (12, 40, [20]), (20, 0, [3])], (4, 0, 0, 88), [])
def zM_127 : zMeth := (⟨"FormRiverModel", "lacking", "(II)LFormRiverModel$Sheet;"⟩, prog_13_method_58_code, 4, (some (.object "FormRiverModel$Sheet")), 5, [(0, 11, [0]), (1, 3, [1]), (2, 3, [2]), (3, 2, [318, 0, 122, 2, 17, 2057, 2054, 70, 2056, 55]), (6, 43, [11]), (9, 28, []), (10, 0, [5])], (3, 0, 0, 65), [])
def zM_128 : zMeth := (⟨"FormRiverLaw", "root", "(LFormRiver;II[J)I"⟩, method_34_code, 5, (some .int), 1, [(0, 11, [3]), (1, 23, [1, 0]), (2, 11, [0]), (3, 3, [1]), (4, 3, [2]), (5, 2, [123, 0, 129, 2, 13, 1364, 1361, 64, 1362, 1363]), (13, 18, [4]), (15, 23, [2, 1]), (16, 0, [1])], (10, 1, 6, 171), [(0, 10, 13, 19, 1), (0, 10, 17, 13, 0)])
def zM_129 : zMeth := (⟨"FormRiver", "root", "(II)C"⟩, prog_1_method_33_code, 3, (some .char), 3, [(0, 11, [0]), (1, 3, [1]), (2, 3, [2]), (3, 2, [437, 0, 125, 2, 13, 1356, 1353, 64, 1355, 19])], (9, 1, 6, 149), [])
def zM_130 : zMeth := (⟨"FormRiverModel", "root", "(II)C"⟩, prog_13_method_61_code, 3, (some .char), 3, [(0, 11, [0]), (1, 3, [1]), (2, 3, [2]), (3, 23, [1, 0]), (4, 2, [341, 0, 131, 3, 17, 2077, 2074, 70, 2076, 58]), (7, 33, []), (8, 0, [3])], (5, 0, 0, 115), [])
def zM_131 : zMeth := (⟨"FormRiverModel", "rootOf", "(III)I"⟩, prog_13_method_60_code, 8, (some .int), 1, [(0, 11, [0]), (1, 3, [1]), (2, 3, [2]), (3, 2, [321, 0, 127, 2, 17, 2065, 2062, 70, 2064, 56]), (6, 18, [4]), (8, 12, [4]), (10, 55, [15]), (13, 23, [1, 0]), (14, 0, [1])], (4, 0, 0, 88), [])
def zM_132 : zMeth := (⟨"FormRiverLaw", "rootVersion", "(LFormRiver;II[J)I"⟩, method_35_code, 5, (some .int), 1, [(0, 11, [3]), (1, 23, [1, 0]), (2, 11, [0]), (3, 3, [1]), (4, 3, [2]), (5, 2, [126, 0, 133, 2, 13, 1371, 1368, 64, 1369, 1370]), (13, 18, [4]), (15, 23, [2, 1]), (16, 0, [1])], (10, 1, 6, 171), [(0, 10, 13, 19, 1), (0, 10, 17, 13, 0)])
def zM_133 : zMeth := (⟨"FormRiver", "rootVersion", "(II)I"⟩, prog_1_method_34_code, 3, (some .int), 1, [(0, 11, [0]), (1, 3, [1]), (2, 3, [2]), (3, 2, [437, 0, 125, 2, 13, 1356, 1353, 64, 1355, 19])], (9, 1, 6, 149), [])
def zM_134 : zMeth := (⟨"FormRiverModel", "rootVersion", "(II)I"⟩, prog_13_method_62_code, 3, (some .int), 1, [(0, 11, [0]), (1, 3, [1]), (2, 3, [2]), (3, 23, [2, 1]), (4, 2, [341, 0, 131, 3, 17, 2077, 2074, 70, 2076, 58]), (7, 0, [1])], (5, 0, 0, 115), [])
def zM_135 : zMeth := (⟨"FormRiverLaw", "causes", "(LFormRiver;II[J)I"⟩, method_36_code, 5, (some .int), 1, [(0, 11, [3]), (1, 23, [1, 0]), (2, 11, [0]), (3, 3, [1]), (4, 3, [2]), (5, 2, [129, 0, 136, 2, 13, 1378, 1375, 64, 1376, 1377]), (13, 18, [4]), (15, 23, [2, 1]), (16, 0, [1])], (10, 1, 6, 171), [(0, 10, 13, 19, 1), (0, 10, 17, 13, 0)])
def zM_136 : zMeth := (⟨"FormRiver", "causes", "(II)I"⟩, prog_1_method_35_code, 3, (some .int), 1, [(0, 11, [0]), (1, 3, [1]), (2, 3, [2]), (3, 2, [437, 0, 125, 2, 13, 1356, 1353, 64, 1355, 19])], (9, 1, 6, 149), [])
def zM_137 : zMeth := (⟨"FormRiverModel", "causes", "(II)I"⟩, prog_13_method_63_code, 3, (some .int), 1, [(0, 11, [0]), (1, 3, [1]), (2, 3, [2]), (3, 23, [3, 2]), (4, 2, [341, 0, 131, 3, 17, 2077, 2074, 70, 2076, 58]), (7, 0, [1])], (5, 0, 0, 115), [])
def zM_138 : zMeth := (⟨"FormRiverLaw", "record", "(LFormRiver;II[J)I"⟩, method_37_code, 5, (some .int), 1, [(0, 11, [3]), (1, 23, [1, 0]), (2, 11, [0]), (3, 3, [1]), (4, 3, [2]), (5, 2, [132, 0, 139, 2, 13, 1385, 1382, 64, 1383, 1384]), (13, 18, [4]), (15, 23, [2, 1]), (16, 0, [1]), (17, 18, [4]), (19, 23, [3, 2]), (20, 0, [1]), (21, 18, [4]), (23, 23, [4, 3]), (24, 0, [1])], (8, 3, 18, 126), [(0, 10, 13, 19, 1), (0, 10, 17, 25, 2), (0, 10, 21, 31, 3)])
def zM_139 : zMeth := (⟨"FormRiver", "record", "(II)I"⟩, prog_1_method_36_code, 3, (some .int), 1, [(0, 3, [1]), (1, 2, [274, 1, 62, 1, 0, 987, 985, 64, 986]), (4, 3, [2]), (5, 2, [254, 1, 53, 1, 0, 961, 959, 64, 960]), (8, 11, [0]), (9, 3, [1]), (10, 3, [2]), (11, 2, [452, 0, 142, 2, 13, 1389, 1386, 64, 1388, 20])], (7, 3, 18, 104), [])
def zM_140 : zMeth := (⟨"FormRiverModel", "record", "(II)I"⟩, prog_13_method_68_code, 4, (some .int), 1, [(0, 11, [0]), (1, 3, [1]), (2, 3, [2]), (3, 2, [348, 0, 141, 2, 17, 2098, 2103, 70, 2096, 2097]), (6, 13, [3]), (7, 11, [0]), (8, 57, [1, 17, 0, 1538]), (11, 53, [18]), (14, 23, [1, 0]), (15, 40, [29]), (29, 0, [1])], (3, 0, 0, 65), [])
def zM_141 : zMeth := (⟨"FormRiverModel", "source", "(II)I"⟩, prog_13_method_67_code, 4, (some .int), 1, [(0, 11, [0]), (1, 23, [1, 0]), (2, 59, [1, 17, 0, 1538]), (5, 3, [1]), (6, 2, [210, 1, 64, 1, 0, 1861, 1859, 70, 1860]), (9, 45, [18]), (12, 11, [0]), (13, 23, [2, 1]), (14, 2, [48, 0, 26, 1, 17, 1585, 1582, 70, 1584, 25]), (17, 0, [1]), (18, 3, [2]), (19, 23, [1, 0]), (20, 24, [143, 15]), (22, 2, [44, 1, 25, 3, 0, 1709, 1707, 70, 1708]), (25, 45, [34]), (28, 11, [0]), (29, 23, [3, 2]), (30, 2, [48, 0, 26, 1, 17, 1585, 1582, 70, 1584, 25]), (33, 0, [1]), (34, 11, [0]), (35, 3, [1]), (36, 3, [2]), (37, 2, [156, 0, 144, 2, 17, 1765, 1762, 70, 1764, 32]), (40, 13, [3]), (41, 3, [3]), (42, 49, [53]), (45, 11, [0]), (46, 23, [4, 3]), (47, 2, [48, 0, 26, 1, 17, 1585, 1582, 70, 1584, 25]), (50, 40, [54]), (54, 0, [1])], (2, 0, 0, 42), [])
def zM_142 : zMeth := (⟨"FormRiver", "needRecord", "(II)V"⟩, prog_1_method_62_code, 3, none, 0, [(0, 11, [0]), (1, 57, [29, 13, 3, 180]), (4, 3, [1]), (5, 3, [2]), (6, 2, [367, 0, 143, 2, 7, 936, 1162, 69, 934, 935]), (9, 45, [23]), (12, 1, [3, 1, 115, 460, 119, 45, 611, 89])], (6, 1, 6, 82), [])
def zM_143 : zMeth := (⟨"FormRiver$Records", "has", "(II)Z"⟩, prog_6_method_2_code, 3, (some .boolean), 2, [(0, 11, [0]), (1, 57, [16, 7, 1, 155]), (4, 3, [1]), (5, 70, []), (6, 3, [2]), (7, 66, []), (8, 23, [0, 4294967295]), (9, 42, [16]), (16, 23, [1, 0]), (17, 0, [2])], (0, 0, 0, 0), [])
def zM_144 : zMeth := (⟨"FormRiverModel", "sourceOf", "(II)I"⟩, prog_13_method_66_code, 5, (some .int), 1, [(0, 23, [0, 4294967295]), (1, 13, [3]), (2, 23, [1, 0]), (3, 14, [4]), (5, 4, [4]), (7, 11, [0]), (8, 57, [203, 17, 9, 1547]), (11, 48, [81]), (81, 3, [3]), (82, 0, [1])], (0, 0, 0, 0), [])
def zM_145 : zMeth := (⟨"FormRiverLaw", "recordAnew", "(LFormRiver;II[J)I"⟩, method_38_code, 5, (some .int), 1, [(0, 11, [3]), (1, 23, [1, 0]), (2, 11, [0]), (3, 3, [1]), (4, 3, [2]), (5, 2, [135, 0, 146, 2, 13, 1397, 1394, 64, 1395, 1396]), (13, 18, [4]), (15, 23, [2, 1]), (16, 0, [1]), (17, 18, [4]), (19, 23, [3, 2]), (20, 0, [1]), (21, 18, [4]), (23, 23, [4, 3]), (24, 0, [1])], (8, 3, 18, 125), [(0, 10, 13, 19, 1), (0, 10, 17, 25, 2), (0, 10, 21, 31, 3)])
def zM_146 : zMeth := (⟨"FormRiver", "recordAnew", "(II)I"⟩, prog_1_method_37_code, 4, (some .int), 1, [(0, 3, [1]), (1, 2, [274, 1, 62, 1, 0, 987, 985, 64, 986]), (4, 3, [2]), (5, 2, [254, 1, 53, 1, 0, 961, 959, 64, 960]), (8, 11, [0]), (9, 3, [1]), (10, 3, [2]), (11, 2, [456, 0, 148, 2, 13, 1401, 1398, 64, 1400, 21]), (14, 13, [3]), (15, 3, [3]), (16, 23, [1, 0]), (17, 11, [0]), (18, 57, [16, 13, 1, 178]), (21, 2, [48, 0, 9, 0, 2, 218, 215, 67, 216, 217]), (24, 23, [2, 1]), (25, 30, []), (26, 2, [84, 1, 22, 3, 0, 462, 460, 64, 461]), (29, 43, [43]), (32, 1, [3, 1, 115, 460, 119, 45, 611, 89])], (7, 3, 18, 102), [])
def zM_147 : zMeth := (⟨"FormRiverModel", "recordAnew", "(II)I"⟩, prog_13_method_69_code, 3, (some .int), 1, [(0, 11, [0]), (1, 3, [1]), (2, 3, [2]), (3, 2, [351, 0, 140, 2, 17, 2102, 2108, 70, 2100, 2101]), (6, 0, [1])], (4, 0, 0, 88), [])
def zM_148 : zMeth := (⟨"FormRiver", "sourceAnew", "(II)I"⟩, prog_1_method_75_code, 7, (some .int), 1, [(0, 23, [0, 4294967295]), (1, 13, [3]), (2, 23, [0, 4294967295]), (3, 14, [4]), (5, 23, [1, 0]), (6, 14, [5]), (8, 4, [5]), (10, 11, [0]), (11, 57, [16, 13, 1, 178]), (14, 2, [48, 0, 9, 0, 2, 218, 215, 67, 216, 217]), (17, 48, [79]), (79, 3, [3]), (80, 0, [1])], (1, 0, 0, 20), [])
def zM_149 : zMeth := (⟨"FormRiverLaw", "source", "(LFormRiver;II[J)I"⟩, method_39_code, 5, (some .int), 1, [(0, 11, [3]), (1, 23, [1, 0]), (2, 11, [0]), (3, 3, [1]), (4, 3, [2]), (5, 2, [138, 0, 150, 2, 13, 1423, 1420, 64, 1421, 1422]), (13, 18, [4]), (15, 23, [2, 1]), (16, 0, [1]), (17, 18, [4]), (19, 23, [3, 2]), (20, 0, [1]), (21, 18, [4]), (23, 23, [4, 3]), (24, 0, [1])], (8, 3, 18, 126), [(0, 10, 13, 19, 1), (0, 10, 17, 25, 2), (0, 10, 21, 31, 3)])
def zM_150 : zMeth := (⟨"FormRiver", "source", "(II)I"⟩, prog_1_method_38_code, 3, (some .int), 1, [(0, 3, [1]), (1, 2, [274, 1, 62, 1, 0, 987, 985, 64, 986]), (4, 3, [2]), (5, 2, [254, 1, 53, 1, 0, 961, 959, 64, 960]), (8, 11, [0]), (9, 3, [1]), (10, 3, [2]), (11, 2, [452, 0, 142, 2, 13, 1389, 1386, 64, 1388, 20])], (7, 3, 18, 104), [])
def zM_151 : zMeth := (⟨"FormRiverLaw", "total", "(LFormRiver;I[J)I"⟩, method_40_code, 4, (some .int), 1, [(0, 11, [2]), (1, 23, [1, 0]), (2, 11, [0]), (3, 3, [1]), (4, 2, [141, 0, 152, 1, 13, 1430, 1427, 64, 1428, 1429]), (7, 73, []), (8, 40, [14]), (11, 17, [3]), (12, 23, [2, 1]), (13, 0, [1]), (14, 23, [1, 0]), (15, 0, [1])], (8, 1, 6, 123), [(0, 8, 11, 25, 2)])
def zM_152 : zMeth := (⟨"FormRiver", "total", "(I)J"⟩, prog_1_method_39_code, 2, (some .long), 4, [(0, 3, [1]), (1, 2, [254, 1, 53, 1, 0, 961, 959, 64, 960]), (4, 11, [0]), (5, 57, [29, 13, 3, 180]), (8, 57, [468, 7, 4, 160]), (11, 3, [1]), (12, 69, []), (13, 0, [4])], (7, 1, 6, 102), [])
def zM_153 : zMeth := (⟨"FormRiverModel", "total", "(I)J"⟩, prog_13_method_70_code, 5, (some .long), 4, [(0, 11, [0]), (1, 23, [1, 0]), (2, 59, [1, 17, 0, 1538]), (5, 3, [1]), (6, 23, [1, 0]), (7, 24, [143, 15]), (9, 2, [44, 1, 25, 3, 0, 1709, 1707, 70, 1708]), (12, 45, [22]), (15, 11, [0]), (16, 23, [2, 1]), (17, 2, [48, 0, 26, 1, 17, 1585, 1582, 70, 1584, 25]), (20, 32, []), (21, 0, [4]), (22, 26, [0]), (23, 19, [2]), (24, 23, [1, 0]), (25, 14, [4]), (27, 4, [4]), (29, 11, [0]), (30, 57, [203, 17, 9, 1547]), (33, 48, [77]), (77, 5, [2]), (78, 0, [4])], (1, 0, 0, 22), [])
def zM_154 : zMeth := (⟨"FormRiverLaw", "totalAnew", "(LFormRiver;I[J)I"⟩, method_41_code, 4, (some .int), 1, [(0, 11, [2]), (1, 23, [1, 0]), (2, 11, [0]), (3, 3, [1]), (4, 2, [145, 0, 155, 1, 13, 1437, 1434, 64, 1435, 1436]), (7, 73, []), (8, 40, [14]), (11, 17, [3]), (12, 23, [2, 1]), (13, 0, [1]), (14, 23, [1, 0]), (15, 0, [1])], (8, 1, 6, 127), [(0, 8, 11, 25, 2)])
def zM_155 : zMeth := (⟨"FormRiver", "totalAnew", "(I)J"⟩, prog_1_method_40_code, 6, (some .long), 4, [(0, 3, [1]), (1, 2, [254, 1, 53, 1, 0, 961, 959, 64, 960]), (4, 26, [0]), (5, 19, [2]), (6, 23, [1, 0]), (7, 14, [4]), (9, 4, [4]), (11, 11, [0]), (12, 57, [16, 13, 1, 178]), (15, 2, [48, 0, 9, 0, 2, 218, 215, 67, 216, 217]), (18, 48, [61]), (61, 5, [2]), (62, 0, [4])], (7, 1, 6, 102), [])
def zM_156 : zMeth := (⟨"FormRiverModel", "totalAnew", "(I)J"⟩, prog_13_method_71_code, 2, (some .long), 4, [(0, 11, [0]), (1, 3, [1]), (2, 2, [354, 0, 153, 1, 17, 2112, 2117, 70, 2110, 2111]), (5, 0, [4])], (2, 0, 0, 46), [])
def zM_157 : zMeth := (⟨"FormRiverLaw", "counted", "(LFormRiver;I[J)I"⟩, method_42_code, 4, (some .int), 1, [(0, 11, [2]), (1, 23, [1, 0]), (2, 11, [0]), (3, 3, [1]), (4, 2, [148, 0, 158, 1, 13, 1444, 1441, 64, 1442, 1443]), (7, 32, []), (8, 73, []), (9, 40, [15]), (12, 17, [3]), (13, 23, [2, 1]), (14, 0, [1]), (15, 23, [1, 0]), (16, 0, [1])], (8, 1, 6, 123), [(0, 9, 12, 25, 2)])
def zM_158 : zMeth := (⟨"FormRiver", "counted", "(I)I"⟩, prog_1_method_41_code, 2, (some .int), 1, [(0, 3, [1]), (1, 2, [254, 1, 53, 1, 0, 961, 959, 64, 960]), (4, 11, [0]), (5, 57, [29, 13, 3, 180]), (8, 57, [476, 7, 5, 162]), (11, 3, [1]), (12, 66, []), (13, 0, [1])], (7, 1, 6, 102), [])
def zM_159 : zMeth := (⟨"FormRiverModel", "counted", "(I)I"⟩, prog_13_method_72_code, 4, (some .int), 1, [(0, 11, [0]), (1, 23, [1, 0]), (2, 59, [1, 17, 0, 1538]), (5, 3, [1]), (6, 23, [1, 0]), (7, 24, [143, 15]), (9, 2, [44, 1, 25, 3, 0, 1709, 1707, 70, 1708]), (12, 45, [21]), (15, 11, [0]), (16, 23, [2, 1]), (17, 2, [48, 0, 26, 1, 17, 1585, 1582, 70, 1584, 25]), (20, 0, [1]), (21, 23, [1, 0]), (22, 13, [2]), (23, 23, [1, 0]), (24, 13, [3]), (25, 3, [3]), (26, 11, [0]), (27, 57, [203, 17, 9, 1547]), (30, 48, [61]), (61, 3, [2]), (62, 0, [1])], (1, 0, 0, 22), [])
def zM_160 : zMeth := (⟨"FormRiverLaw", "hold", "(LFormRiver;IZ[J)I"⟩, method_43_code, 5, (some .int), 1, [(0, 11, [3]), (1, 23, [1, 0]), (2, 11, [0]), (3, 3, [1]), (4, 3, [2]), (5, 2, [151, 0, 161, 2, 13, 1451, 1448, 64, 1449, 1450]), (8, 43, [15]), (15, 26, [0]), (16, 73, []), (17, 40, [24]), (20, 18, [4]), (22, 23, [2, 1]), (23, 0, [1]), (24, 23, [1, 0]), (25, 0, [1])], (8, 1, 6, 125), [(0, 17, 20, 19, 1)])
def zM_161 : zMeth := (⟨"FormRiver", "hold", "(IZ)Z"⟩, prog_1_method_42_code, 4, (some .boolean), 2, [(0, 3, [1]), (1, 2, [274, 1, 62, 1, 0, 987, 985, 64, 986]), (4, 11, [0]), (5, 57, [37, 13, 5, 182]), (8, 3, [1]), (9, 67, []), (10, 13, [3]), (11, 11, [0]), (12, 57, [37, 13, 5, 182]), (15, 3, [1]), (16, 3, [2]), (17, 72, []), (18, 3, [3]), (19, 0, [2])], (7, 1, 6, 102), [])
def zM_162 : zMeth := (⟨"FormRiverModel", "hold", "(IZ)Z"⟩, prog_13_method_73_code, 4, (some .boolean), 2, [(0, 11, [0]), (1, 3, [1]), (2, 2, [210, 1, 64, 1, 0, 1861, 1859, 70, 1860]), (5, 43, [12]), (8, 23, [1, 0]), (9, 40, [13]), (12, 23, [2, 1]), (13, 59, [1, 17, 0, 1538]), (16, 11, [0]), (17, 57, [1, 17, 0, 1538]), (20, 53, [25]), (23, 23, [1, 0]), (24, 0, [2]), (25, 11, [0]), (26, 57, [37, 17, 7, 1545]), (29, 3, [1]), (30, 67, []), (31, 13, [3]), (32, 11, [0]), (33, 57, [37, 17, 7, 1545]), (36, 3, [1]), (37, 3, [2]), (38, 72, []), (39, 3, [3]), (40, 0, [2])], (2, 0, 0, 42), [])
def zM_163 : zMeth := (⟨"FormRiverLaw", "lastDay", "(LFormRiver;I[J)I"⟩, method_44_code, 4, (some .int), 1, [(0, 11, [2]), (1, 23, [1, 0]), (2, 11, [0]), (3, 3, [1]), (4, 2, [155, 0, 164, 1, 13, 1458, 1455, 64, 1456, 1457]), (12, 17, [3]), (13, 23, [2, 1]), (14, 0, [1])], (8, 1, 6, 125), [(0, 9, 12, 19, 1), (0, 9, 15, 13, 0)])
def zM_164 : zMeth := (⟨"FormRiver", "lastDay", "(I)I"⟩, prog_1_method_43_code, 3, (some .int), 1, [(0, 11, [0]), (1, 3, [1]), (2, 2, [282, 0, 67, 1, 13, 1099, 1096, 64, 1098, 11])], (7, 1, 6, 103), [])
def zM_165 : zMeth := (⟨"FormRiverModel", "lastDay", "(I)I"⟩, prog_13_method_74_code, 2, (some .int), 1, [(0, 11, [0]), (1, 23, [1, 0]), (2, 59, [1, 17, 0, 1538]), (5, 11, [0]), (6, 3, [1]), (7, 2, [217, 0, 69, 1, 17, 1940, 1937, 70, 1939, 42]), (10, 45, [19]), (13, 11, [0]), (14, 23, [2, 1]), (15, 2, [48, 0, 26, 1, 17, 1585, 1582, 70, 1584, 25]), (18, 0, [1])], (2, 0, 0, 43), [])
def zM_166 : zMeth := (⟨"FormRiverLaw", "pass", "(LFormRiver;I[J)I"⟩, method_45_code, 4, (some .int), 1, [(0, 11, [2]), (1, 23, [1, 0]), (2, 11, [0]), (3, 3, [1]), (4, 2, [158, 0, 167, 1, 13, 1466, 1463, 64, 1464, 1465]), (7, 32, []), (8, 73, []), (9, 40, [15]), (12, 17, [3]), (13, 23, [2, 1]), (14, 0, [1]), (15, 23, [1, 0]), (16, 0, [1])], (7, 1, 6, 107), [(0, 9, 12, 25, 2)])
def zM_167 : zMeth := (⟨"FormRiver", "pass", "(I)I"⟩, prog_1_method_44_code, 6, (some .int), 1, [(0, 3, [1]), (1, 23, [2, 1]), (2, 24, [188, 60]), (4, 2, [84, 1, 22, 3, 0, 462, 460, 64, 461]), (7, 45, [22]), (10, 11, [0]), (11, 57, [41, 13, 6, 183]), (14, 3, [1]), (15, 29, []), (16, 25, [34768, 2000]), (19, 52, [33]), (22, 1, [2, 1, 88, 484, 92, 47, 506, 87]), (33, 23, [1, 0]), (34, 13, [2]), (35, 23, [1, 0]), (36, 13, [3]), (37, 3, [3]), (38, 3, [1]), (39, 48, [140]), (42, 11, [0]), (43, 36, []), (44, 57, [41, 13, 6, 183]), (47, 23, [2, 1]), (48, 29, []), (49, 59, [41, 13, 6, 183]), (52, 23, [1, 0]), (53, 14, [4]), (55, 4, [4]), (57, 11, [0]), (58, 57, [16, 13, 1, 178]), (61, 2, [48, 0, 9, 0, 2, 218, 215, 67, 216, 217]), (64, 48, [127]), (127, 3, [2]), (128, 11, [0]), (129, 2, [489, 0, 169, 0, 13, 1475, 1472, 64, 1474, 23]), (132, 29, []), (133, 13, [2]), (134, 39, [3, 32769, 1]), (137, 40, [37]), (140, 3, [2]), (141, 0, [1])], (6, 1, 6, 82), [])
def zM_168 : zMeth := (⟨"FormRiverModel", "pass", "(I)I"⟩, prog_13_method_77_code, 4, (some .int), 1, [(0, 11, [0]), (1, 23, [1, 0]), (2, 59, [1, 17, 0, 1538]), (5, 3, [1]), (6, 23, [2, 1]), (7, 24, [188, 60]), (9, 2, [44, 1, 25, 3, 0, 1709, 1707, 70, 1708]), (12, 43, [27]), (15, 11, [0]), (16, 57, [255, 17, 11, 1549]), (19, 3, [1]), (20, 29, []), (21, 25, [34768, 2000]), (24, 52, [33]), (27, 11, [0]), (28, 23, [2, 1]), (29, 2, [48, 0, 26, 1, 17, 1585, 1582, 70, 1584, 25]), (32, 0, [1]), (33, 11, [0]), (34, 23, [1, 0]), (35, 59, [358, 17, 12, 1550]), (38, 23, [1, 0]), (39, 13, [2]), (40, 3, [2]), (41, 3, [1]), (42, 48, [113]), (45, 11, [0]), (46, 36, []), (47, 57, [255, 17, 11, 1549]), (50, 23, [2, 1]), (51, 29, []), (52, 59, [255, 17, 11, 1549]), (55, 23, [1, 0]), (56, 13, [3]), (57, 3, [3]), (58, 11, [0]), (59, 57, [203, 17, 9, 1547]), (62, 48, [81]), (81, 23, [1, 0]), (82, 13, [3]), (83, 3, [3]), (84, 11, [0]), (85, 57, [203, 17, 9, 1547]), (88, 48, [107]), (107, 39, [2, 32769, 1]), (110, 40, [40]), (113, 11, [0]), (114, 57, [358, 17, 12, 1550]), (117, 0, [1])], (1, 0, 0, 22), [])
def zM_169 : zMeth := (⟨"FormRiver", "letGo", "()I"⟩, prog_1_method_71_code, 4, (some .int), 1, [(0, 23, [1, 0]), (1, 13, [1]), (2, 23, [1, 0]), (3, 13, [2]), (4, 3, [2]), (5, 11, [0]), (6, 57, [16, 13, 1, 178]), (9, 2, [48, 0, 9, 0, 2, 218, 215, 67, 216, 217]), (12, 48, [93]), (93, 3, [1]), (94, 0, [1])], (1, 0, 0, 20), [])
def zM_170 : zMeth := (⟨"FormRiver", "day", "()I"⟩, prog_1_method_45_code, 1, (some .int), 1, [(0, 11, [0]), (1, 57, [41, 13, 6, 183]), (4, 0, [1])], (0, 0, 0, 0), [])
def zM_171 : zMeth := (⟨"FormRiverModel", "day", "()I"⟩, prog_13_method_78_code, 1, (some .int), 1, [(0, 11, [0]), (1, 23, [1, 0]), (2, 59, [1, 17, 0, 1538]), (5, 11, [0]), (6, 57, [255, 17, 11, 1549]), (9, 0, [1])], (0, 0, 0, 0), [])
def zM_172 : zMeth := (⟨"FormRiverLaw", "meanValue", "(LFormRiver;I[D)I"⟩, method_46_code, 4, (some .int), 1, [(0, 11, [2]), (1, 23, [1, 0]), (2, 11, [0]), (3, 3, [1]), (4, 2, [161, 0, 173, 1, 13, 1500, 1497, 64, 1498, 1499]), (11, 17, [3]), (12, 23, [2, 1]), (13, 0, [1]), (14, 17, [3]), (15, 23, [3, 2]), (16, 0, [1])], (8, 2, 12, 124), [(0, 8, 11, 25, 2), (0, 8, 14, 165, 5)])
def zM_173 : zMeth := (⟨"FormRiver", "meanValue", "(I)D"⟩, prog_1_method_46_code, 3, (some .double), 6, [(0, 3, [1]), (1, 2, [254, 1, 53, 1, 0, 961, 959, 64, 960]), (4, 11, [0]), (5, 57, [29, 13, 3, 180]), (8, 57, [476, 7, 5, 162]), (11, 3, [1]), (12, 66, []), (13, 13, [2]), (14, 3, [2]), (15, 45, [29]), (18, 1, [5, 1, 492, 494, 496, 48, 1501, 98])], (7, 2, 12, 102), [])
def zM_174 : zMeth := (⟨"FormRiverModel", "meanValue", "(I)D"⟩, prog_13_method_79_code, 5, (some .double), 6, [(0, 11, [0]), (1, 3, [1]), (2, 2, [354, 0, 153, 1, 17, 2112, 2117, 70, 2110, 2111]), (5, 19, [2]), (6, 11, [0]), (7, 57, [1, 17, 0, 1538]), (10, 53, [15]), (13, 27, []), (14, 0, [6]), (15, 11, [0]), (16, 3, [1]), (17, 2, [367, 0, 159, 1, 17, 2121, 2150, 70, 2119, 2120]), (20, 14, [4]), (22, 4, [4]), (24, 45, [36]), (27, 11, [0]), (28, 23, [3, 2]), (29, 2, [48, 0, 26, 1, 17, 1585, 1582, 70, 1584, 25]), (32, 34, []), (33, 40, [42]), (42, 0, [6])], (2, 0, 0, 46), [])
def zM_175 : zMeth := (⟨"FormRiverLaw", "acceptedShare", "(LFormRiver;[D)I"⟩, method_47_code, 3, (some .int), 1, [(0, 11, [1]), (1, 23, [1, 0]), (2, 11, [0]), (3, 2, [167, 0, 176, 0, 13, 1510, 1507, 64, 1508, 1509]), (11, 17, [2]), (12, 23, [2, 1]), (13, 0, [1])], (7, 1, 6, 106), [(0, 8, 11, 165, 5)])
def zM_176 : zMeth := (⟨"FormRiver", "acceptedShare", "()F"⟩, prog_1_method_47_code, 5, (some .float), 7, [(0, 23, [1, 0]), (1, 13, [1]), (2, 23, [1, 0]), (3, 13, [2]), (4, 23, [1, 0]), (5, 13, [3]), (6, 3, [3]), (7, 11, [0]), (8, 57, [16, 13, 1, 178]), (11, 2, [48, 0, 9, 0, 2, 218, 215, 67, 216, 217]), (14, 48, [76]), (76, 3, [1]), (77, 3, [2]), (78, 29, []), (79, 45, [93]), (82, 1, [5, 1, 492, 497, 496, 49, 1501, 98])], (6, 1, 6, 82), [])
def zM_177 : zMeth := (⟨"FormRiverModel", "acceptedShare", "()F"⟩, prog_13_method_80_code, 5, (some .float), 7, [(0, 11, [0]), (1, 23, [1, 0]), (2, 59, [1, 17, 0, 1538]), (5, 23, [1, 0]), (6, 13, [1]), (7, 23, [1, 0]), (8, 13, [2]), (9, 23, [1, 0]), (10, 13, [3]), (11, 3, [3]), (12, 11, [0]), (13, 57, [203, 17, 9, 1547]), (16, 48, [85]), (85, 3, [2]), (86, 45, [98]), (89, 11, [0]), (90, 23, [2, 1]), (91, 2, [48, 0, 26, 1, 17, 1585, 1582, 70, 1584, 25]), (94, 35, []), (95, 40, [103]), (103, 0, [7])], (1, 0, 0, 21), [])
def zM_178 : zMeth := (⟨"FormRiverLaw", "isSound", "(LFormRiver;I[J)I"⟩, method_48_code, 4, (some .int), 1, [(0, 11, [2]), (1, 23, [1, 0]), (2, 11, [0]), (3, 3, [1]), (4, 2, [171, 0, 179, 1, 13, 1518, 1515, 64, 1516, 1517]), (7, 43, [14]), (10, 26, [1]), (11, 40, [15]), (15, 73, []), (16, 40, [22]), (19, 17, [3]), (20, 23, [2, 1]), (21, 0, [1]), (22, 23, [1, 0]), (23, 0, [1])], (8, 1, 6, 126), [(0, 16, 19, 19, 1)])
def zM_179 : zMeth := (⟨"FormRiver", "isSound", "(I)Z"⟩, prog_1_method_48_code, 5, (some .boolean), 2, [(0, 3, [1]), (1, 2, [274, 1, 62, 1, 0, 987, 985, 64, 986]), (4, 23, [1, 0]), (5, 13, [2]), (6, 3, [2]), (7, 24, [144, 16]), (9, 48, [96]), (12, 11, [0]), (13, 3, [1]), (14, 3, [2]), (15, 2, [456, 0, 148, 2, 13, 1401, 1398, 64, 1400, 21]), (18, 13, [3]), (19, 3, [3]), (20, 23, [1, 0]), (21, 11, [0]), (22, 57, [16, 13, 1, 178]), (25, 2, [48, 0, 9, 0, 2, 218, 215, 67, 216, 217]), (28, 23, [2, 1]), (29, 30, []), (30, 2, [84, 1, 22, 3, 0, 462, 460, 64, 461]), (33, 45, [40]), (40, 23, [1, 0]), (41, 14, [4]), (43, 4, [4]), (45, 11, [0]), (46, 57, [29, 13, 3, 180]), (49, 3, [1]), (50, 3, [2]), (51, 2, [367, 0, 143, 2, 7, 936, 1162, 69, 934, 935]), (54, 42, [59]), (59, 4, [4]), (61, 43, [90]), (90, 39, [2, 32769, 1]), (93, 40, [6]), (96, 23, [2, 1]), (97, 0, [2])], (7, 1, 6, 102), [])
def zM_180 : zMeth := (⟨"FormRiverModel", "isSound", "(I)Z"⟩, prog_13_method_81_code, 2, (some .boolean), 2, [(0, 11, [0]), (1, 3, [1]), (2, 2, [210, 1, 64, 1, 0, 1861, 1859, 70, 1860]), (5, 43, [12]), (8, 23, [1, 0]), (9, 40, [13]), (12, 23, [2, 1]), (13, 59, [1, 17, 0, 1538]), (16, 11, [0]), (17, 57, [1, 17, 0, 1538]), (20, 45, [27]), (23, 23, [2, 1]), (24, 40, [28]), (27, 23, [1, 0]), (28, 0, [2])], (2, 0, 0, 42), [])
set_option maxRecDepth 100000 in
def zP : List zMeth := [zM_0, zM_1, zM_2, zM_3, zM_4, zM_5, zM_6, zM_7, zM_8, zM_9, zM_10, zM_11, zM_12, zM_13, zM_14, zM_15, zM_16, zM_17, zM_18, zM_19, zM_20, zM_21, zM_22, zM_23, zM_24, zM_25, zM_26, zM_27, zM_28, zM_29, zM_30, zM_31, zM_32, zM_33, zM_34, zM_35, zM_36, zM_37, zM_38, zM_39, zM_40, zM_41, zM_42, zM_43, zM_44, zM_45, zM_46, zM_47, zM_48, zM_49, zM_50, zM_51, zM_52, zM_53, zM_54, zM_55, zM_56, zM_57, zM_58, zM_59, zM_60, zM_61, zM_62, zM_63, zM_64, zM_65, zM_66, zM_67, zM_68, zM_69, zM_70, zM_71, zM_72, zM_73, zM_74, zM_75, zM_76, zM_77, zM_78, zM_79, zM_80, zM_81, zM_82, zM_83, zM_84, zM_85, zM_86, zM_87, zM_88, zM_89, zM_90, zM_91, zM_92, zM_93, zM_94, zM_95, zM_96, zM_97, zM_98, zM_99, zM_100, zM_101, zM_102, zM_103, zM_104, zM_105, zM_106, zM_107, zM_108, zM_109, zM_110, zM_111, zM_112, zM_113, zM_114, zM_115, zM_116, zM_117, zM_118, zM_119, zM_120, zM_121, zM_122, zM_123, zM_124, zM_125, zM_126, zM_127, zM_128, zM_129, zM_130, zM_131, zM_132, zM_133, zM_134, zM_135, zM_136, zM_137, zM_138, zM_139, zM_140, zM_141, zM_142, zM_143, zM_144, zM_145, zM_146, zM_147, zM_148, zM_149, zM_150, zM_151, zM_152, zM_153, zM_154, zM_155, zM_156, zM_157, zM_158, zM_159, zM_160, zM_161, zM_162, zM_163, zM_164, zM_165, zM_166, zM_167, zM_168, zM_169, zM_170, zM_171, zM_172, zM_173, zM_174, zM_175, zM_176, zM_177, zM_178, zM_179, zM_180]
set_option maxRecDepth 100000 in
def zMa : zMeth := (x, code, 9, ret, 9, [(0, 62, [8, 13, 99, 100, 64]), (3, 36, []), (4, 2, [175, 2, 0, 0, 0, 103, 101, 64, 102]), (7, 17, [1]), (8, 62, [176, 17, 1527, 1528, 70]), (11, 36, []), (12, 2, [178, 2, 6, 0, 0, 1531, 1529, 70, 1530]), (15, 17, [2]), (16, 23, [2, 1]), (17, 63, [2, 176]), (19, 17, [3]), (20, 23, [2, 1]), (21, 63, [4, 2159]), (23, 18, [4]), (25, 23, [1, 0]), (26, 14, [5]), (28, 0, [9])], (2048, 600006, 7302024, 94400), [])
def zMb_0 : List zIns := [(3489, 0, [2]), (28, 4, [5]), (30, 11, [0]), (31, 65, []), (32, 24, [135, 7]), (34, 30, []), (35, 50, [3488]), (3488, 23, [2, 1]), (38, 11, [0]), (39, 4, [5]), (41, 66, []), (42, 24, [191, 63]), (44, 31, []), (45, 80, [3482, 248, 292, 348, 452, 558, 664, 770, 888, 992, 1048, 1104, 1160, 1228, 1296, 1352, 1432, 1500, 1556, 1612, 1680, 1760, 1828, 1884, 1940, 2015, 2083, 2151, 2207, 2282, 2350, 2418, 2486, 2554, 2622, 2690, 2758, 2826, 2894, 2949, 3004, 3060, 3151, 3207, 3263, 3276, 3353, 3419]), (3482, 39, [5, 32775, 7]), (3485, 40, [28]), (2690, 11, [1]), (2691, 11, [0]), (2692, 4, [5]), (2694, 23, [2, 1]), (2695, 29, []), (2696, 66, []), (2697, 11, [0]), (2698, 4, [5]), (2700, 23, [3, 2]), (2701, 29, []), (2702, 66, []), (2703, 11, [3]), (2704, 2, [294, 4, 138, 4, 0, 1381, 1379, 63, 1380]), (2707, 14, [6])]
def zMb_1 : List zIns := [(2709, 11, [2]), (2710, 11, [0]), (2711, 4, [5]), (2713, 23, [2, 1]), (2714, 29, []), (2715, 66, []), (2716, 11, [0]), (2717, 4, [5]), (2719, 23, [3, 2]), (2720, 29, []), (2721, 66, []), (2722, 2, [296, 0, 140, 2, 17, 2102, 2099, 70, 2100, 2101]), (2725, 14, [7]), (2727, 11, [2]), (2728, 2, [185, 0, 18, 0, 17, 1526, 1523, 70, 1524, 1525]), (2731, 4, [6]), (2733, 42, [2738]), (2738, 4, [6]), (2740, 45, [2755]), (2755, 40, [3482]), (2826, 11, [1]), (2827, 11, [0]), (2828, 4, [5]), (2830, 23, [2, 1]), (2831, 29, []), (2832, 66, []), (2833, 11, [0]), (2834, 4, [5]), (2836, 23, [3, 2]), (2837, 29, [])]
def zMb_2 : List zIns := [(2838, 66, []), (2839, 11, [3]), (2840, 2, [300, 4, 149, 4, 0, 1419, 1417, 63, 1418]), (2843, 14, [6]), (2845, 11, [2]), (2846, 11, [0]), (2847, 4, [5]), (2849, 23, [2, 1]), (2850, 29, []), (2851, 66, []), (2852, 11, [0]), (2853, 4, [5]), (2855, 23, [3, 2]), (2856, 29, []), (2857, 66, []), (2858, 2, [302, 0, 141, 2, 17, 2098, 2095, 70, 2096, 2097]), (2861, 14, [7]), (2863, 11, [2]), (2864, 2, [185, 0, 18, 0, 17, 1526, 1523, 70, 1524, 1525]), (2867, 4, [6]), (2869, 42, [2874]), (2874, 4, [6]), (2876, 45, [2891]), (2891, 40, [3482]), (3207, 11, [1]), (3208, 11, [0]), (3209, 4, [5]), (3211, 23, [2, 1]), (3212, 29, []), (3213, 66, [])]
def zMb_3 : List zIns := [(3214, 11, [3]), (3215, 2, [319, 4, 166, 3, 0, 1462, 1460, 63, 1461]), (3218, 14, [6]), (3220, 11, [2]), (3221, 11, [0]), (3222, 4, [5]), (3224, 23, [2, 1]), (3225, 29, []), (3226, 66, []), (3227, 2, [321, 0, 168, 1, 17, 2133, 2130, 70, 2131, 2132]), (3230, 14, [7]), (3232, 11, [2]), (3233, 2, [185, 0, 18, 0, 17, 1526, 1523, 70, 1524, 1525]), (3236, 4, [6]), (3238, 42, [3243]), (3243, 4, [6]), (3245, 45, [3260]), (3260, 40, [3482]), (3248, 11, [3]), (3249, 23, [1, 0]), (3250, 69, []), (3251, 4, [7]), (3253, 32, []), (3254, 41, []), (3255, 43, [3260]), (1160, 11, [1]), (1161, 11, [0]), (1162, 4, [5]), (1164, 23, [2, 1]), (1165, 29, [])]
def zMb_4 : List zIns := [(1166, 66, []), (1167, 11, [0]), (1168, 4, [5]), (1170, 23, [3, 2]), (1171, 29, []), (1172, 66, []), (1173, 11, [3]), (1174, 2, [223, 4, 55, 4, 0, 966, 964, 63, 965]), (1177, 14, [6]), (1179, 11, [2]), (1180, 11, [0]), (1181, 4, [5]), (1183, 23, [2, 1]), (1184, 29, []), (1185, 66, []), (1186, 11, [0]), (1187, 4, [5]), (1189, 23, [3, 2]), (1190, 29, []), (1191, 66, []), (1192, 2, [226, 0, 57, 2, 17, 1851, 1848, 70, 1849, 1850]), (1195, 14, [7]), (1197, 11, [2]), (1198, 2, [185, 0, 18, 0, 17, 1526, 1523, 70, 1524, 1525]), (1201, 4, [6]), (1203, 42, [1208]), (1208, 4, [6]), (1210, 45, [1225]), (1225, 40, [3482]), (1213, 11, [3])]
def zMb_5 : List zIns := [(1214, 23, [1, 0]), (1215, 69, []), (1216, 4, [7]), (1218, 32, []), (1219, 41, []), (1220, 43, [1225]), (3060, 11, [1]), (3061, 11, [0]), (3062, 4, [5]), (3064, 23, [2, 1]), (3065, 29, []), (3066, 66, []), (3067, 11, [0]), (3068, 4, [5]), (3070, 23, [3, 2]), (3071, 29, []), (3072, 66, []), (3073, 43, [3080]), (3081, 11, [3]), (3082, 2, [312, 4, 160, 4, 0, 1447, 1445, 63, 1446]), (3085, 14, [6]), (3087, 11, [2]), (3088, 11, [0]), (3089, 4, [5]), (3091, 23, [2, 1]), (3092, 29, []), (3093, 66, []), (3094, 11, [0]), (3095, 4, [5]), (3097, 23, [3, 2])]
def zMb_6 : List zIns := [(3098, 29, []), (3099, 66, []), (3100, 43, [3107]), (3108, 2, [315, 0, 162, 2, 17, 2125, 2122, 70, 2123, 2124]), (3111, 14, [7]), (3113, 11, [2]), (3114, 2, [185, 0, 18, 0, 17, 1526, 1523, 70, 1524, 1525]), (3117, 4, [6]), (3119, 42, [3124]), (3124, 4, [6]), (3126, 45, [3148]), (3148, 40, [3482]), (1104, 11, [1]), (1105, 11, [0]), (1106, 4, [5]), (1108, 23, [2, 1]), (1109, 29, []), (1110, 66, []), (1111, 11, [3]), (1112, 2, [220, 4, 51, 3, 0, 954, 952, 63, 953]), (1115, 14, [6]), (1117, 11, [2]), (1118, 11, [0]), (1119, 4, [5]), (1121, 23, [2, 1]), (1122, 29, []), (1123, 66, []), (1124, 2, [222, 0, 54, 1, 17, 1847, 1844, 70, 1845, 1846]), (1127, 14, [7]), (1129, 11, [2])]
def zMb_7 : List zIns := [(1130, 2, [185, 0, 18, 0, 17, 1526, 1523, 70, 1524, 1525]), (1133, 4, [6]), (1135, 42, [1140]), (1140, 4, [6]), (1142, 45, [1157]), (1157, 40, [3482]), (2894, 11, [1]), (2895, 11, [0]), (2896, 4, [5]), (2898, 23, [2, 1]), (2899, 29, []), (2900, 66, []), (2901, 11, [3]), (2902, 2, [303, 4, 151, 3, 0, 1426, 1424, 63, 1425]), (2905, 14, [6]), (2907, 11, [2]), (2908, 11, [0]), (2909, 4, [5]), (2911, 23, [2, 1]), (2912, 29, []), (2913, 66, []), (2914, 2, [305, 0, 153, 1, 17, 2112, 2109, 70, 2110, 2111]), (2917, 20, [7]), (2919, 11, [2]), (2920, 2, [185, 0, 18, 0, 17, 1526, 1523, 70, 1524, 1525]), (2923, 4, [6]), (2925, 42, [2930]), (2930, 4, [6]), (2932, 45, [2946]), (2946, 40, [3482])]
def zMb_8 : List zIns := [(3004, 11, [1]), (3005, 11, [0]), (3006, 4, [5]), (3008, 23, [2, 1]), (3009, 29, []), (3010, 66, []), (3011, 11, [3]), (3012, 2, [309, 4, 157, 3, 0, 1440, 1438, 63, 1439]), (3015, 14, [6]), (3017, 11, [2]), (3018, 11, [0]), (3019, 4, [5]), (3021, 23, [2, 1]), (3022, 29, []), (3023, 66, []), (3024, 2, [311, 0, 159, 1, 17, 2121, 2118, 70, 2119, 2120]), (3027, 14, [7]), (3029, 11, [2]), (3030, 2, [185, 0, 18, 0, 17, 1526, 1523, 70, 1524, 1525]), (3033, 4, [6]), (3035, 42, [3040]), (3040, 4, [6]), (3042, 45, [3057]), (3057, 40, [3482]), (3129, 11, [3]), (3130, 23, [1, 0]), (3131, 69, []), (3132, 4, [7]), (3134, 43, [3141]), (3141, 26, [0])]
def zMb_9 : List zIns := [(3142, 41, []), (3143, 43, [3148]), (3276, 11, [1]), (3277, 11, [0]), (3278, 4, [5]), (3280, 23, [2, 1]), (3281, 29, []), (3282, 66, []), (3283, 12, [4]), (3285, 2, [326, 4, 172, 3, 0, 1482, 1480, 63, 1481]), (3288, 14, [6]), (3290, 11, [2]), (3291, 11, [0]), (3292, 4, [5]), (3294, 23, [2, 1]), (3295, 29, []), (3296, 66, []), (3297, 2, [329, 0, 174, 1, 17, 2149, 2146, 70, 2147, 2148]), (3300, 22, [7]), (3302, 11, [2]), (3303, 2, [185, 0, 18, 0, 17, 1526, 1523, 70, 1524, 1525]), (3306, 4, [6]), (3308, 42, [3313]), (3313, 4, [6]), (3315, 45, [3350]), (3350, 40, [3482]), (2935, 11, [3]), (2936, 23, [1, 0]), (2937, 69, []), (2938, 6, [7])]
def zMb_10 : List zIns := [(2940, 41, []), (2941, 43, [2946]), (3045, 11, [3]), (3046, 23, [1, 0]), (3047, 69, []), (3048, 4, [7]), (3050, 32, []), (3051, 41, []), (3052, 43, [3057]), (3076, 23, [2, 1]), (3077, 40, [3081]), (3103, 23, [2, 1]), (3104, 40, [3108]), (2758, 11, [1]), (2759, 11, [0]), (2760, 4, [5]), (2762, 23, [2, 1]), (2763, 29, []), (2764, 66, []), (2765, 11, [0]), (2766, 4, [5]), (2768, 23, [3, 2]), (2769, 29, []), (2770, 66, []), (2771, 11, [3]), (2772, 2, [297, 4, 145, 4, 0, 1393, 1391, 63, 1392]), (2775, 14, [6]), (2777, 11, [2]), (2778, 11, [0]), (2779, 4, [5])]
def zMb_11 : List zIns := [(2781, 23, [2, 1]), (2782, 29, []), (2783, 66, []), (2784, 11, [0]), (2785, 4, [5]), (2787, 23, [3, 2]), (2788, 29, []), (2789, 66, []), (2790, 2, [299, 0, 147, 2, 17, 2107, 2104, 70, 2105, 2106]), (2793, 14, [7]), (2795, 11, [2]), (2796, 2, [185, 0, 18, 0, 17, 1526, 1523, 70, 1524, 1525]), (2799, 4, [6]), (2801, 42, [2806]), (2806, 4, [6]), (2808, 45, [2823]), (2823, 40, [3482]), (3080, 23, [1, 0]), (3107, 23, [1, 0]), (3419, 11, [1]), (3420, 11, [0]), (3421, 4, [5]), (3423, 23, [2, 1]), (3424, 29, []), (3425, 66, []), (3426, 11, [3]), (3427, 2, [334, 4, 178, 3, 0, 1514, 1512, 63, 1513]), (3430, 14, [6]), (3432, 11, [2]), (3433, 11, [0])]
def zMb_12 : List zIns := [(3434, 4, [5]), (3436, 23, [2, 1]), (3437, 29, []), (3438, 66, []), (3439, 2, [336, 0, 180, 1, 17, 2158, 2155, 70, 2156, 2157]), (3442, 14, [7]), (3444, 11, [2]), (3445, 2, [185, 0, 18, 0, 17, 1526, 1523, 70, 1524, 1525]), (3448, 4, [6]), (3450, 42, [3455]), (3455, 4, [6]), (3457, 45, [3479]), (3479, 40, [3482]), (1228, 11, [1]), (1229, 11, [0]), (1230, 4, [5]), (1232, 23, [2, 1]), (1233, 29, []), (1234, 66, []), (1235, 11, [0]), (1236, 4, [5]), (1238, 23, [3, 2]), (1239, 29, []), (1240, 66, []), (1241, 11, [3]), (1242, 2, [227, 4, 60, 4, 0, 980, 978, 63, 979]), (1245, 14, [6]), (1247, 11, [2]), (1248, 11, [0]), (1249, 4, [5])]
def zMb_13 : List zIns := [(1251, 23, [2, 1]), (1252, 29, []), (1253, 66, []), (1254, 11, [0]), (1255, 4, [5]), (1257, 23, [3, 2]), (1258, 29, []), (1259, 66, []), (1260, 2, [229, 0, 63, 2, 17, 1858, 1855, 70, 1856, 1857]), (1263, 14, [7]), (1265, 11, [2]), (1266, 2, [185, 0, 18, 0, 17, 1526, 1523, 70, 1524, 1525]), (1269, 4, [6]), (1271, 42, [1276]), (1276, 4, [6]), (1278, 45, [1293]), (1293, 40, [3482]), (3460, 11, [3]), (3461, 23, [1, 0]), (3462, 69, []), (3463, 4, [7]), (3465, 43, [3472]), (3468, 26, [1]), (3469, 40, [3473]), (3473, 41, []), (3474, 43, [3479]), (2282, 11, [1]), (2283, 11, [0]), (2284, 4, [5]), (2286, 23, [2, 1])]
def zMb_14 : List zIns := [(2287, 29, []), (2288, 66, []), (2289, 11, [0]), (2290, 4, [5]), (2292, 23, [3, 2]), (2293, 29, []), (2294, 66, []), (2295, 11, [3]), (2296, 2, [276, 4, 114, 4, 0, 1321, 1319, 63, 1320]), (2299, 14, [6]), (2301, 11, [2]), (2302, 11, [0]), (2303, 4, [5]), (2305, 23, [2, 1]), (2306, 29, []), (2307, 66, []), (2308, 11, [0]), (2309, 4, [5]), (2311, 23, [3, 2]), (2312, 29, []), (2313, 66, []), (2314, 2, [278, 0, 117, 2, 17, 2049, 2046, 70, 2047, 2048]), (2317, 14, [7]), (2319, 11, [2]), (2320, 2, [185, 0, 18, 0, 17, 1526, 1523, 70, 1524, 1525]), (2323, 4, [6]), (2325, 42, [2330]), (2330, 4, [6]), (2332, 45, [2347]), (2347, 40, [3482])]
def zMb_15 : List zIns := [(2949, 11, [1]), (2950, 11, [0]), (2951, 4, [5]), (2953, 23, [2, 1]), (2954, 29, []), (2955, 66, []), (2956, 11, [3]), (2957, 2, [306, 4, 154, 3, 0, 1433, 1431, 63, 1432]), (2960, 14, [6]), (2962, 11, [2]), (2963, 11, [0]), (2964, 4, [5]), (2966, 23, [2, 1]), (2967, 29, []), (2968, 66, []), (2969, 2, [308, 0, 156, 1, 17, 2116, 2113, 70, 2114, 2115]), (2972, 20, [7]), (2974, 11, [2]), (2975, 2, [185, 0, 18, 0, 17, 1526, 1523, 70, 1524, 1525]), (2978, 4, [6]), (2980, 42, [2985]), (2985, 4, [6]), (2987, 45, [3001]), (3001, 40, [3482]), (292, 11, [1]), (293, 11, [0]), (294, 4, [5]), (296, 23, [2, 1]), (297, 29, []), (298, 66, [])]
def zMb_16 : List zIns := [(299, 11, [3]), (300, 2, [188, 4, 19, 3, 0, 427, 425, 63, 426]), (303, 14, [6]), (305, 11, [2]), (306, 11, [0]), (307, 4, [5]), (309, 23, [2, 1]), (310, 29, []), (311, 66, []), (312, 2, [191, 0, 23, 1, 17, 1702, 1699, 70, 1700, 1701]), (315, 14, [7]), (317, 11, [2]), (318, 2, [185, 0, 18, 0, 17, 1526, 1523, 70, 1524, 1525]), (321, 4, [6]), (323, 42, [328]), (328, 4, [6]), (330, 45, [345]), (345, 40, [3482]), (348, 11, [1]), (349, 11, [0]), (350, 4, [5]), (352, 23, [2, 1]), (353, 29, []), (354, 66, []), (355, 11, [0]), (356, 4, [5]), (358, 23, [3, 2]), (359, 29, []), (360, 66, []), (361, 11, [0])]
def zMb_17 : List zIns := [(362, 4, [5]), (364, 23, [4, 3]), (365, 29, []), (366, 66, []), (367, 11, [0]), (368, 4, [5]), (370, 23, [5, 4]), (371, 29, []), (372, 66, []), (373, 11, [0]), (374, 4, [5]), (376, 23, [6, 5]), (377, 29, []), (378, 66, []), (379, 11, [3]), (380, 2, [192, 4, 27, 7, 0, 500, 498, 63, 499]), (383, 14, [6]), (385, 11, [2]), (386, 11, [0]), (387, 4, [5]), (389, 23, [2, 1]), (390, 29, []), (391, 66, []), (392, 11, [0]), (393, 4, [5]), (395, 23, [3, 2]), (396, 29, []), (397, 66, []), (398, 11, [0]), (399, 4, [5])]
def zMb_18 : List zIns := [(401, 23, [4, 3]), (402, 29, []), (403, 66, []), (404, 11, [0]), (405, 4, [5]), (407, 23, [5, 4]), (408, 29, []), (409, 66, []), (410, 11, [0]), (411, 4, [5]), (413, 23, [6, 5]), (414, 29, []), (415, 66, []), (416, 2, [195, 0, 29, 5, 17, 1717, 1714, 70, 1715, 1716]), (419, 14, [7]), (421, 11, [2]), (422, 2, [185, 0, 18, 0, 17, 1526, 1523, 70, 1524, 1525]), (425, 4, [6]), (427, 42, [432]), (432, 4, [6]), (434, 45, [449]), (449, 40, [3482]), (452, 11, [1]), (453, 11, [0]), (454, 4, [5]), (456, 23, [2, 1]), (457, 29, []), (458, 66, []), (459, 11, [0]), (460, 4, [5])]
def zMb_19 : List zIns := [(462, 23, [3, 2]), (463, 29, []), (464, 66, []), (465, 11, [0]), (466, 4, [5]), (468, 23, [4, 3]), (469, 29, []), (470, 66, []), (471, 33, []), (472, 11, [0]), (473, 4, [5]), (475, 23, [5, 4]), (476, 29, []), (477, 66, []), (478, 11, [0]), (479, 4, [5]), (481, 23, [6, 5]), (482, 29, []), (483, 66, []), (484, 11, [3]), (485, 2, [196, 4, 30, 7, 0, 596, 594, 63, 595]), (488, 14, [6]), (490, 11, [2]), (491, 11, [0]), (492, 4, [5]), (494, 23, [2, 1]), (495, 29, []), (496, 66, []), (497, 11, [0]), (498, 4, [5])]
def zMb_20 : List zIns := [(500, 23, [3, 2]), (501, 29, []), (502, 66, []), (503, 11, [0]), (504, 4, [5]), (506, 23, [4, 3]), (507, 29, []), (508, 66, []), (509, 33, []), (510, 11, [0]), (511, 4, [5]), (513, 23, [5, 4]), (514, 29, []), (515, 66, []), (516, 11, [0]), (517, 4, [5]), (519, 23, [6, 5]), (520, 29, []), (521, 66, []), (522, 2, [199, 0, 32, 5, 17, 1725, 1722, 70, 1723, 1724]), (525, 14, [7]), (527, 11, [2]), (528, 2, [185, 0, 18, 0, 17, 1526, 1523, 70, 1524, 1525]), (531, 4, [6]), (533, 42, [538]), (538, 4, [6]), (540, 45, [555]), (555, 40, [3482]), (558, 11, [1]), (559, 11, [0])]
def zMb_21 : List zIns := [(560, 4, [5]), (562, 23, [2, 1]), (563, 29, []), (564, 66, []), (565, 11, [0]), (566, 4, [5]), (568, 23, [3, 2]), (569, 29, []), (570, 66, []), (571, 11, [0]), (572, 4, [5]), (574, 23, [4, 3]), (575, 29, []), (576, 66, []), (577, 11, [0]), (578, 4, [5]), (580, 23, [5, 4]), (581, 29, []), (582, 66, []), (583, 33, []), (584, 11, [0]), (585, 4, [5]), (587, 23, [6, 5]), (588, 29, []), (589, 66, []), (590, 11, [3]), (591, 2, [200, 4, 33, 7, 0, 629, 627, 63, 628]), (594, 14, [6]), (596, 11, [2]), (597, 11, [0])]
def zMb_22 : List zIns := [(598, 4, [5]), (600, 23, [2, 1]), (601, 29, []), (602, 66, []), (603, 11, [0]), (604, 4, [5]), (606, 23, [3, 2]), (607, 29, []), (608, 66, []), (609, 11, [0]), (610, 4, [5]), (612, 23, [4, 3]), (613, 29, []), (614, 66, []), (615, 11, [0]), (616, 4, [5]), (618, 23, [5, 4]), (619, 29, []), (620, 66, []), (621, 33, []), (622, 11, [0]), (623, 4, [5]), (625, 23, [6, 5]), (626, 29, []), (627, 66, []), (628, 2, [203, 0, 35, 5, 17, 1729, 1726, 70, 1727, 1728]), (631, 14, [7]), (633, 11, [2]), (634, 2, [185, 0, 18, 0, 17, 1526, 1523, 70, 1524, 1525]), (637, 4, [6])]
def zMb_23 : List zIns := [(639, 42, [644]), (644, 4, [6]), (646, 45, [661]), (661, 40, [3482]), (664, 11, [1]), (665, 11, [0]), (666, 4, [5]), (668, 23, [2, 1]), (669, 29, []), (670, 66, []), (671, 11, [0]), (672, 4, [5]), (674, 23, [3, 2]), (675, 29, []), (676, 66, []), (677, 11, [0]), (678, 4, [5]), (680, 23, [4, 3]), (681, 29, []), (682, 66, []), (683, 11, [0]), (684, 4, [5]), (686, 23, [5, 4]), (687, 29, []), (688, 66, []), (689, 33, []), (690, 11, [0]), (691, 4, [5]), (693, 23, [6, 5]), (694, 29, [])]
def zMb_24 : List zIns := [(695, 66, []), (696, 11, [3]), (697, 2, [204, 4, 36, 7, 0, 664, 662, 63, 663]), (700, 14, [6]), (702, 11, [2]), (703, 11, [0]), (704, 4, [5]), (706, 23, [2, 1]), (707, 29, []), (708, 66, []), (709, 11, [0]), (710, 4, [5]), (712, 23, [3, 2]), (713, 29, []), (714, 66, []), (715, 11, [0]), (716, 4, [5]), (718, 23, [4, 3]), (719, 29, []), (720, 66, []), (721, 11, [0]), (722, 4, [5]), (724, 23, [5, 4]), (725, 29, []), (726, 66, []), (727, 33, []), (728, 11, [0]), (729, 4, [5]), (731, 23, [6, 5]), (732, 29, [])]
def zMb_25 : List zIns := [(733, 66, []), (734, 2, [206, 0, 38, 5, 17, 1740, 1737, 70, 1738, 1739]), (737, 14, [7]), (739, 11, [2]), (740, 2, [185, 0, 18, 0, 17, 1526, 1523, 70, 1524, 1525]), (743, 4, [6]), (745, 42, [750]), (750, 4, [6]), (752, 45, [767]), (767, 40, [3482]), (770, 11, [1]), (771, 11, [0]), (772, 4, [5]), (774, 23, [2, 1]), (775, 29, []), (776, 66, []), (777, 11, [0]), (778, 4, [5]), (780, 23, [3, 2]), (781, 29, []), (782, 66, []), (783, 11, [0]), (784, 4, [5]), (786, 23, [4, 3]), (787, 29, []), (788, 66, []), (789, 11, [0]), (790, 4, [5]), (792, 23, [5, 4]), (793, 29, [])]
def zMb_26 : List zIns := [(794, 66, []), (795, 11, [0]), (796, 4, [5]), (798, 23, [6, 5]), (799, 29, []), (800, 66, []), (801, 11, [0]), (802, 4, [5]), (804, 24, [134, 6]), (806, 29, []), (807, 66, []), (808, 11, [3]), (809, 2, [207, 4, 39, 8, 0, 679, 677, 63, 678]), (812, 14, [6]), (814, 11, [2]), (815, 11, [0]), (816, 4, [5]), (818, 23, [2, 1]), (819, 29, []), (820, 66, []), (821, 11, [0]), (822, 4, [5]), (824, 23, [3, 2]), (825, 29, []), (826, 66, []), (827, 11, [0]), (828, 4, [5]), (830, 23, [4, 3]), (831, 29, []), (832, 66, [])]
def zMb_27 : List zIns := [(833, 11, [0]), (834, 4, [5]), (836, 23, [5, 4]), (837, 29, []), (838, 66, []), (839, 11, [0]), (840, 4, [5]), (842, 23, [6, 5]), (843, 29, []), (844, 66, []), (845, 11, [0]), (846, 4, [5]), (848, 24, [134, 6]), (850, 29, []), (851, 66, []), (852, 2, [210, 0, 41, 6, 17, 1744, 1741, 70, 1742, 1743]), (855, 14, [7]), (857, 11, [2]), (858, 2, [185, 0, 18, 0, 17, 1526, 1523, 70, 1524, 1525]), (861, 4, [6]), (863, 42, [868]), (868, 4, [6]), (870, 45, [885]), (885, 40, [3482]), (888, 11, [1]), (889, 11, [0]), (890, 4, [5]), (892, 23, [2, 1]), (893, 29, []), (894, 66, [])]
def zMb_28 : List zIns := [(895, 11, [0]), (896, 4, [5]), (898, 23, [3, 2]), (899, 29, []), (900, 66, []), (901, 11, [0]), (902, 4, [5]), (904, 23, [4, 3]), (905, 29, []), (906, 66, []), (907, 11, [0]), (908, 4, [5]), (910, 23, [5, 4]), (911, 29, []), (912, 66, []), (913, 11, [0]), (914, 4, [5]), (916, 23, [6, 5]), (917, 29, []), (918, 66, []), (919, 11, [3]), (920, 2, [211, 4, 42, 7, 0, 725, 723, 63, 724]), (923, 14, [6]), (925, 11, [2]), (926, 11, [0]), (927, 4, [5]), (929, 23, [2, 1]), (930, 29, []), (931, 66, []), (932, 11, [0])]
def zMb_29 : List zIns := [(933, 4, [5]), (935, 23, [3, 2]), (936, 29, []), (937, 66, []), (938, 11, [0]), (939, 4, [5]), (941, 23, [4, 3]), (942, 29, []), (943, 66, []), (944, 11, [0]), (945, 4, [5]), (947, 23, [5, 4]), (948, 29, []), (949, 66, []), (950, 11, [0]), (951, 4, [5]), (953, 23, [6, 5]), (954, 29, []), (955, 66, []), (956, 2, [213, 0, 44, 5, 17, 1748, 1745, 70, 1746, 1747]), (959, 14, [7]), (961, 11, [2]), (962, 2, [185, 0, 18, 0, 17, 1526, 1523, 70, 1524, 1525]), (965, 4, [6]), (967, 42, [972]), (972, 4, [6]), (974, 45, [989]), (989, 40, [3482]), (992, 11, [1]), (993, 11, [0])]
def zMb_30 : List zIns := [(994, 4, [5]), (996, 23, [2, 1]), (997, 29, []), (998, 66, []), (999, 11, [3]), (1000, 2, [214, 4, 45, 3, 0, 733, 731, 63, 732]), (1003, 14, [6]), (1005, 11, [2]), (1006, 11, [0]), (1007, 4, [5]), (1009, 23, [2, 1]), (1010, 29, []), (1011, 66, []), (1012, 2, [216, 0, 47, 1, 17, 1752, 1749, 70, 1750, 1751]), (1015, 14, [7]), (1017, 11, [2]), (1018, 2, [185, 0, 18, 0, 17, 1526, 1523, 70, 1524, 1525]), (1021, 4, [6]), (1023, 42, [1028]), (1028, 4, [6]), (1030, 45, [1045]), (1045, 40, [3482]), (1048, 11, [1]), (1049, 11, [0]), (1050, 4, [5]), (1052, 23, [2, 1]), (1053, 29, []), (1054, 66, []), (1055, 11, [3]), (1056, 2, [217, 4, 48, 3, 0, 939, 937, 63, 938])]
def zMb_31 : List zIns := [(1059, 14, [6]), (1061, 11, [2]), (1062, 11, [0]), (1063, 4, [5]), (1065, 23, [2, 1]), (1066, 29, []), (1067, 66, []), (1068, 2, [219, 0, 50, 1, 17, 1843, 1840, 70, 1841, 1842]), (1071, 14, [7]), (1073, 11, [2]), (1074, 2, [185, 0, 18, 0, 17, 1526, 1523, 70, 1524, 1525]), (1077, 4, [6]), (1079, 42, [1084]), (1084, 4, [6]), (1086, 45, [1101]), (1101, 40, [3482]), (1296, 11, [1]), (1297, 11, [0]), (1298, 4, [5]), (1300, 23, [2, 1]), (1301, 29, []), (1302, 66, []), (1303, 11, [3]), (1304, 2, [230, 4, 65, 3, 0, 1091, 1089, 63, 1090]), (1307, 14, [6]), (1309, 11, [2]), (1310, 11, [0]), (1311, 4, [5]), (1313, 23, [2, 1]), (1314, 29, [])]
def zMb_32 : List zIns := [(1315, 66, []), (1316, 2, [232, 0, 68, 1, 17, 1936, 1933, 70, 1934, 1935]), (1319, 14, [7]), (1321, 11, [2]), (1322, 2, [185, 0, 18, 0, 17, 1526, 1523, 70, 1524, 1525]), (1325, 4, [6]), (1327, 42, [1332]), (1332, 4, [6]), (1334, 45, [1349]), (1349, 40, [3482]), (1352, 11, [1]), (1353, 11, [0]), (1354, 4, [5]), (1356, 23, [2, 1]), (1357, 29, []), (1358, 66, []), (1359, 11, [0]), (1360, 4, [5]), (1362, 23, [3, 2]), (1363, 29, []), (1364, 66, []), (1365, 11, [0]), (1366, 4, [5]), (1368, 23, [4, 3]), (1369, 29, []), (1370, 66, []), (1371, 11, [3]), (1372, 2, [233, 4, 70, 5, 0, 1118, 1116, 63, 1117]), (1375, 14, [6]), (1377, 11, [2])]
def zMb_33 : List zIns := [(1378, 11, [0]), (1379, 4, [5]), (1381, 23, [2, 1]), (1382, 29, []), (1383, 66, []), (1384, 11, [0]), (1385, 4, [5]), (1387, 23, [3, 2]), (1388, 29, []), (1389, 66, []), (1390, 11, [0]), (1391, 4, [5]), (1393, 23, [4, 3]), (1394, 29, []), (1395, 66, []), (1396, 2, [236, 0, 72, 3, 17, 1948, 1945, 70, 1946, 1947]), (1399, 14, [7]), (1401, 11, [2]), (1402, 2, [185, 0, 18, 0, 17, 1526, 1523, 70, 1524, 1525]), (1405, 4, [6]), (1407, 42, [1412]), (1412, 4, [6]), (1414, 45, [1429]), (1429, 40, [3482]), (1432, 11, [1]), (1433, 11, [0]), (1434, 4, [5]), (1436, 23, [2, 1]), (1437, 29, []), (1438, 66, [])]
def zMb_34 : List zIns := [(1439, 11, [0]), (1440, 4, [5]), (1442, 23, [3, 2]), (1443, 29, []), (1444, 66, []), (1445, 11, [3]), (1446, 2, [237, 4, 74, 4, 0, 1143, 1141, 63, 1142]), (1449, 14, [6]), (1451, 11, [2]), (1452, 11, [0]), (1453, 4, [5]), (1455, 23, [2, 1]), (1456, 29, []), (1457, 66, []), (1458, 11, [0]), (1459, 4, [5]), (1461, 23, [3, 2]), (1462, 29, []), (1463, 66, []), (1464, 2, [239, 0, 76, 2, 17, 1965, 1962, 70, 1963, 1964]), (1467, 14, [7]), (1469, 11, [2]), (1470, 2, [185, 0, 18, 0, 17, 1526, 1523, 70, 1524, 1525]), (1473, 4, [6]), (1475, 42, [1480]), (1480, 4, [6]), (1482, 45, [1497]), (1497, 40, [3482]), (1500, 11, [1]), (1501, 11, [0])]
def zMb_35 : List zIns := [(1502, 4, [5]), (1504, 23, [2, 1]), (1505, 29, []), (1506, 66, []), (1507, 11, [3]), (1508, 2, [240, 4, 77, 3, 0, 1152, 1150, 63, 1151]), (1511, 14, [6]), (1513, 11, [2]), (1514, 11, [0]), (1515, 4, [5]), (1517, 23, [2, 1]), (1518, 29, []), (1519, 66, []), (1520, 2, [242, 0, 79, 1, 17, 1969, 1966, 70, 1967, 1968]), (1523, 14, [7]), (1525, 11, [2]), (1526, 2, [185, 0, 18, 0, 17, 1526, 1523, 70, 1524, 1525]), (1529, 4, [6]), (1531, 42, [1536]), (1536, 4, [6]), (1538, 45, [1553]), (1553, 40, [3482]), (1556, 11, [1]), (1557, 11, [0]), (1558, 4, [5]), (1560, 23, [2, 1]), (1561, 29, []), (1562, 66, []), (1563, 11, [3]), (1564, 2, [243, 4, 80, 3, 0, 1165, 1163, 63, 1164])]
def zMb_36 : List zIns := [(1567, 14, [6]), (1569, 11, [2]), (1570, 11, [0]), (1571, 4, [5]), (1573, 23, [2, 1]), (1574, 29, []), (1575, 66, []), (1576, 2, [245, 0, 82, 1, 17, 1973, 1970, 70, 1971, 1972]), (1579, 14, [7]), (1581, 11, [2]), (1582, 2, [185, 0, 18, 0, 17, 1526, 1523, 70, 1524, 1525]), (1585, 4, [6]), (1587, 42, [1592]), (1592, 4, [6]), (1594, 45, [1609]), (1609, 40, [3482]), (1612, 11, [1]), (1613, 11, [0]), (1614, 4, [5]), (1616, 23, [2, 1]), (1617, 29, []), (1618, 66, []), (1619, 11, [0]), (1620, 4, [5]), (1622, 23, [3, 2]), (1623, 29, []), (1624, 66, []), (1625, 11, [3]), (1626, 2, [246, 4, 83, 4, 0, 1211, 1209, 63, 1210]), (1629, 14, [6])]
def zMb_37 : List zIns := [(1631, 11, [2]), (1632, 11, [0]), (1633, 4, [5]), (1635, 23, [2, 1]), (1636, 29, []), (1637, 66, []), (1638, 11, [0]), (1639, 4, [5]), (1641, 23, [3, 2]), (1642, 29, []), (1643, 66, []), (1644, 2, [248, 0, 85, 2, 17, 1997, 1994, 70, 1995, 1996]), (1647, 14, [7]), (1649, 11, [2]), (1650, 2, [185, 0, 18, 0, 17, 1526, 1523, 70, 1524, 1525]), (1653, 4, [6]), (1655, 42, [1660]), (1660, 4, [6]), (1662, 45, [1677]), (1677, 40, [3482]), (1680, 11, [1]), (1681, 11, [0]), (1682, 4, [5]), (1684, 23, [2, 1]), (1685, 29, []), (1686, 66, []), (1687, 11, [0]), (1688, 4, [5]), (1690, 23, [3, 2]), (1691, 29, [])]
def zMb_38 : List zIns := [(1692, 66, []), (1693, 11, [0]), (1694, 4, [5]), (1696, 23, [4, 3]), (1697, 29, []), (1698, 66, []), (1699, 11, [3]), (1700, 2, [249, 4, 86, 5, 0, 1238, 1236, 63, 1237]), (1703, 14, [6]), (1705, 11, [2]), (1706, 11, [0]), (1707, 4, [5]), (1709, 23, [2, 1]), (1710, 29, []), (1711, 66, []), (1712, 11, [0]), (1713, 4, [5]), (1715, 23, [3, 2]), (1716, 29, []), (1717, 66, []), (1718, 11, [0]), (1719, 4, [5]), (1721, 23, [4, 3]), (1722, 29, []), (1723, 66, []), (1724, 2, [251, 0, 88, 3, 17, 2009, 2006, 70, 2007, 2008]), (1727, 14, [7]), (1729, 11, [2]), (1730, 2, [185, 0, 18, 0, 17, 1526, 1523, 70, 1524, 1525]), (1733, 4, [6])]
def zMb_39 : List zIns := [(1735, 42, [1740]), (1740, 4, [6]), (1742, 45, [1757]), (1757, 40, [3482]), (1760, 11, [1]), (1761, 11, [0]), (1762, 4, [5]), (1764, 23, [2, 1]), (1765, 29, []), (1766, 66, []), (1767, 11, [0]), (1768, 4, [5]), (1770, 23, [3, 2]), (1771, 29, []), (1772, 66, []), (1773, 11, [3]), (1774, 2, [252, 4, 89, 4, 0, 1259, 1257, 63, 1258]), (1777, 14, [6]), (1779, 11, [2]), (1780, 11, [0]), (1781, 4, [5]), (1783, 23, [2, 1]), (1784, 29, []), (1785, 66, []), (1786, 11, [0]), (1787, 4, [5]), (1789, 23, [3, 2]), (1790, 29, []), (1791, 66, []), (1792, 2, [254, 0, 91, 2, 17, 2013, 2010, 70, 2011, 2012])]
def zMb_40 : List zIns := [(1795, 14, [7]), (1797, 11, [2]), (1798, 2, [185, 0, 18, 0, 17, 1526, 1523, 70, 1524, 1525]), (1801, 4, [6]), (1803, 42, [1808]), (1808, 4, [6]), (1810, 45, [1825]), (1825, 40, [3482]), (1828, 11, [1]), (1829, 11, [0]), (1830, 4, [5]), (1832, 23, [2, 1]), (1833, 29, []), (1834, 66, []), (1835, 11, [3]), (1836, 2, [255, 4, 92, 3, 0, 1266, 1264, 63, 1265]), (1839, 14, [6]), (1841, 11, [2]), (1842, 11, [0]), (1843, 4, [5]), (1845, 23, [2, 1]), (1846, 29, []), (1847, 66, []), (1848, 2, [257, 0, 94, 1, 17, 2017, 2014, 70, 2015, 2016]), (1851, 14, [7]), (1853, 11, [2]), (1854, 2, [185, 0, 18, 0, 17, 1526, 1523, 70, 1524, 1525]), (1857, 4, [6]), (1859, 42, [1864]), (1864, 4, [6])]
def zMb_41 : List zIns := [(1866, 45, [1881]), (1881, 40, [3482]), (1884, 11, [1]), (1885, 11, [0]), (1886, 4, [5]), (1888, 23, [2, 1]), (1889, 29, []), (1890, 66, []), (1891, 11, [3]), (1892, 2, [258, 4, 95, 3, 0, 1274, 1272, 63, 1273]), (1895, 14, [6]), (1897, 11, [2]), (1898, 11, [0]), (1899, 4, [5]), (1901, 23, [2, 1]), (1902, 29, []), (1903, 66, []), (1904, 2, [260, 0, 97, 1, 17, 2021, 2018, 70, 2019, 2020]), (1907, 14, [7]), (1909, 11, [2]), (1910, 2, [185, 0, 18, 0, 17, 1526, 1523, 70, 1524, 1525]), (1913, 4, [6]), (1915, 42, [1920]), (1920, 4, [6]), (1922, 45, [1937]), (1937, 40, [3482]), (1940, 11, [1]), (1941, 11, [0]), (1942, 4, [5]), (1944, 23, [2, 1])]
def zMb_42 : List zIns := [(1945, 29, []), (1946, 66, []), (1947, 11, [0]), (1948, 4, [5]), (1950, 23, [3, 2]), (1951, 29, []), (1952, 66, []), (1953, 11, [3]), (1954, 2, [261, 4, 98, 4, 0, 1281, 1279, 63, 1280]), (1957, 14, [6]), (1959, 11, [2]), (1960, 11, [0]), (1961, 4, [5]), (1963, 23, [2, 1]), (1964, 29, []), (1965, 66, []), (1966, 11, [0]), (1967, 4, [5]), (1969, 23, [3, 2]), (1970, 29, []), (1971, 66, []), (1972, 2, [263, 0, 100, 2, 17, 2025, 2022, 70, 2023, 2024]), (1975, 14, [7]), (1977, 11, [2]), (1978, 2, [185, 0, 18, 0, 17, 1526, 1523, 70, 1524, 1525]), (1981, 4, [6]), (1983, 42, [1988]), (1988, 4, [6]), (1990, 45, [2012]), (2012, 40, [3482])]
def zMb_43 : List zIns := [(2015, 11, [1]), (2016, 11, [0]), (2017, 4, [5]), (2019, 23, [2, 1]), (2020, 29, []), (2021, 66, []), (2022, 11, [0]), (2023, 4, [5]), (2025, 23, [3, 2]), (2026, 29, []), (2027, 66, []), (2028, 11, [3]), (2029, 2, [264, 4, 102, 4, 0, 1288, 1286, 63, 1287]), (2032, 14, [6]), (2034, 11, [2]), (2035, 11, [0]), (2036, 4, [5]), (2038, 23, [2, 1]), (2039, 29, []), (2040, 66, []), (2041, 11, [0]), (2042, 4, [5]), (2044, 23, [3, 2]), (2045, 29, []), (2046, 66, []), (2047, 2, [266, 0, 104, 2, 17, 2033, 2030, 70, 2031, 2032]), (2050, 14, [7]), (2052, 11, [2]), (2053, 2, [185, 0, 18, 0, 17, 1526, 1523, 70, 1524, 1525]), (2056, 4, [6])]
def zMb_44 : List zIns := [(2058, 42, [2063]), (2063, 4, [6]), (2065, 45, [2080]), (2080, 40, [3482]), (2083, 11, [1]), (2084, 11, [0]), (2085, 4, [5]), (2087, 23, [2, 1]), (2088, 29, []), (2089, 66, []), (2090, 11, [0]), (2091, 4, [5]), (2093, 23, [3, 2]), (2094, 29, []), (2095, 66, []), (2096, 11, [3]), (2097, 2, [267, 4, 105, 4, 0, 1299, 1297, 63, 1298]), (2100, 14, [6]), (2102, 11, [2]), (2103, 11, [0]), (2104, 4, [5]), (2106, 23, [2, 1]), (2107, 29, []), (2108, 66, []), (2109, 11, [0]), (2110, 4, [5]), (2112, 23, [3, 2]), (2113, 29, []), (2114, 66, []), (2115, 2, [269, 0, 107, 2, 17, 2037, 2034, 70, 2035, 2036])]
def zMb_45 : List zIns := [(2118, 14, [7]), (2120, 11, [2]), (2121, 2, [185, 0, 18, 0, 17, 1526, 1523, 70, 1524, 1525]), (2124, 4, [6]), (2126, 42, [2131]), (2131, 4, [6]), (2133, 45, [2148]), (2148, 40, [3482]), (2151, 11, [1]), (2152, 11, [0]), (2153, 4, [5]), (2155, 23, [2, 1]), (2156, 29, []), (2157, 66, []), (2158, 11, [3]), (2159, 2, [270, 4, 108, 3, 0, 1306, 1304, 63, 1305]), (2162, 14, [6]), (2164, 11, [2]), (2165, 11, [0]), (2166, 4, [5]), (2168, 23, [2, 1]), (2169, 29, []), (2170, 66, []), (2171, 2, [272, 0, 110, 1, 17, 2041, 2038, 70, 2039, 2040]), (2174, 14, [7]), (2176, 11, [2]), (2177, 2, [185, 0, 18, 0, 17, 1526, 1523, 70, 1524, 1525]), (2180, 4, [6]), (2182, 42, [2187]), (2187, 4, [6])]
def zMb_46 : List zIns := [(2189, 45, [2204]), (2204, 40, [3482]), (2207, 11, [1]), (2208, 11, [0]), (2209, 4, [5]), (2211, 23, [2, 1]), (2212, 29, []), (2213, 66, []), (2214, 11, [0]), (2215, 4, [5]), (2217, 23, [3, 2]), (2218, 29, []), (2219, 66, []), (2220, 11, [3]), (2221, 2, [273, 4, 111, 4, 0, 1314, 1312, 63, 1313]), (2224, 14, [6]), (2226, 11, [2]), (2227, 11, [0]), (2228, 4, [5]), (2230, 23, [2, 1]), (2231, 29, []), (2232, 66, []), (2233, 11, [0]), (2234, 4, [5]), (2236, 23, [3, 2]), (2237, 29, []), (2238, 66, []), (2239, 2, [275, 0, 113, 2, 17, 2045, 2042, 70, 2043, 2044]), (2242, 14, [7]), (2244, 11, [2])]
def zMb_47 : List zIns := [(2245, 2, [185, 0, 18, 0, 17, 1526, 1523, 70, 1524, 1525]), (2248, 4, [6]), (2250, 42, [2255]), (2255, 4, [6]), (2257, 45, [2279]), (2279, 40, [3482]), (2350, 11, [1]), (2351, 11, [0]), (2352, 4, [5]), (2354, 23, [2, 1]), (2355, 29, []), (2356, 66, []), (2357, 11, [0]), (2358, 4, [5]), (2360, 23, [3, 2]), (2361, 29, []), (2362, 66, []), (2363, 11, [3]), (2364, 2, [279, 4, 118, 4, 0, 1337, 1335, 63, 1336]), (2367, 14, [6]), (2369, 11, [2]), (2370, 11, [0]), (2371, 4, [5]), (2373, 23, [2, 1]), (2374, 29, []), (2375, 66, []), (2376, 11, [0]), (2377, 4, [5]), (2379, 23, [3, 2]), (2380, 29, [])]
def zMb_48 : List zIns := [(2381, 66, []), (2382, 2, [281, 0, 121, 2, 17, 2053, 2050, 70, 2051, 2052]), (2385, 14, [7]), (2387, 11, [2]), (2388, 2, [185, 0, 18, 0, 17, 1526, 1523, 70, 1524, 1525]), (2391, 4, [6]), (2393, 42, [2398]), (2398, 4, [6]), (2400, 45, [2415]), (2415, 40, [3482]), (2418, 11, [1]), (2419, 11, [0]), (2420, 4, [5]), (2422, 23, [2, 1]), (2423, 29, []), (2424, 66, []), (2425, 11, [0]), (2426, 4, [5]), (2428, 23, [3, 2]), (2429, 29, []), (2430, 66, []), (2431, 11, [3]), (2432, 2, [282, 4, 123, 4, 0, 1348, 1346, 63, 1347]), (2435, 14, [6]), (2437, 11, [2]), (2438, 11, [0]), (2439, 4, [5]), (2441, 23, [2, 1]), (2442, 29, []), (2443, 66, [])]
def zMb_49 : List zIns := [(2444, 11, [0]), (2445, 4, [5]), (2447, 23, [3, 2]), (2448, 29, []), (2449, 66, []), (2450, 2, [284, 0, 126, 2, 17, 2061, 2058, 70, 2059, 2060]), (2453, 14, [7]), (2455, 11, [2]), (2456, 2, [185, 0, 18, 0, 17, 1526, 1523, 70, 1524, 1525]), (2459, 4, [6]), (2461, 42, [2466]), (2466, 4, [6]), (2468, 45, [2483]), (2483, 40, [3482]), (2486, 11, [1]), (2487, 11, [0]), (2488, 4, [5]), (2490, 23, [2, 1]), (2491, 29, []), (2492, 66, []), (2493, 11, [0]), (2494, 4, [5]), (2496, 23, [3, 2]), (2497, 29, []), (2498, 66, []), (2499, 11, [3]), (2500, 2, [285, 4, 128, 4, 0, 1360, 1358, 63, 1359]), (2503, 14, [6]), (2505, 11, [2]), (2506, 11, [0])]
def zMb_50 : List zIns := [(2507, 4, [5]), (2509, 23, [2, 1]), (2510, 29, []), (2511, 66, []), (2512, 11, [0]), (2513, 4, [5]), (2515, 23, [3, 2]), (2516, 29, []), (2517, 66, []), (2518, 2, [287, 0, 130, 2, 17, 2073, 2070, 70, 2071, 2072]), (2521, 14, [7]), (2523, 11, [2]), (2524, 2, [185, 0, 18, 0, 17, 1526, 1523, 70, 1524, 1525]), (2527, 4, [6]), (2529, 42, [2534]), (2534, 4, [6]), (2536, 45, [2551]), (2551, 40, [3482]), (2554, 11, [1]), (2555, 11, [0]), (2556, 4, [5]), (2558, 23, [2, 1]), (2559, 29, []), (2560, 66, []), (2561, 11, [0]), (2562, 4, [5]), (2564, 23, [3, 2]), (2565, 29, []), (2566, 66, []), (2567, 11, [3])]
def zMb_51 : List zIns := [(2568, 2, [288, 4, 132, 4, 0, 1367, 1365, 63, 1366]), (2571, 14, [6]), (2573, 11, [2]), (2574, 11, [0]), (2575, 4, [5]), (2577, 23, [2, 1]), (2578, 29, []), (2579, 66, []), (2580, 11, [0]), (2581, 4, [5]), (2583, 23, [3, 2]), (2584, 29, []), (2585, 66, []), (2586, 2, [290, 0, 134, 2, 17, 2090, 2087, 70, 2088, 2089]), (2589, 14, [7]), (2591, 11, [2]), (2592, 2, [185, 0, 18, 0, 17, 1526, 1523, 70, 1524, 1525]), (2595, 4, [6]), (2597, 42, [2602]), (2602, 4, [6]), (2604, 45, [2619]), (2619, 40, [3482]), (2622, 11, [1]), (2623, 11, [0]), (2624, 4, [5]), (2626, 23, [2, 1]), (2627, 29, []), (2628, 66, []), (2629, 11, [0]), (2630, 4, [5])]
def zMb_52 : List zIns := [(2632, 23, [3, 2]), (2633, 29, []), (2634, 66, []), (2635, 11, [3]), (2636, 2, [291, 4, 135, 4, 0, 1374, 1372, 63, 1373]), (2639, 14, [6]), (2641, 11, [2]), (2642, 11, [0]), (2643, 4, [5]), (2645, 23, [2, 1]), (2646, 29, []), (2647, 66, []), (2648, 11, [0]), (2649, 4, [5]), (2651, 23, [3, 2]), (2652, 29, []), (2653, 66, []), (2654, 2, [293, 0, 137, 2, 17, 2094, 2091, 70, 2092, 2093]), (2657, 14, [7]), (2659, 11, [2]), (2660, 2, [185, 0, 18, 0, 17, 1526, 1523, 70, 1524, 1525]), (2663, 4, [6]), (2665, 42, [2670]), (2670, 4, [6]), (2672, 45, [2687]), (2687, 40, [3482]), (2990, 11, [3]), (2991, 23, [1, 0]), (2992, 69, []), (2993, 6, [7])]
def zMb_53 : List zIns := [(2995, 41, []), (2996, 43, [3001]), (3151, 11, [1]), (3152, 11, [0]), (3153, 4, [5]), (3155, 23, [2, 1]), (3156, 29, []), (3157, 66, []), (3158, 11, [3]), (3159, 2, [316, 4, 163, 3, 0, 1454, 1452, 63, 1453]), (3162, 14, [6]), (3164, 11, [2]), (3165, 11, [0]), (3166, 4, [5]), (3168, 23, [2, 1]), (3169, 29, []), (3170, 66, []), (3171, 2, [318, 0, 165, 1, 17, 2129, 2126, 70, 2127, 2128]), (3174, 14, [7]), (3176, 11, [2]), (3177, 2, [185, 0, 18, 0, 17, 1526, 1523, 70, 1524, 1525]), (3180, 4, [6]), (3182, 42, [3187]), (3187, 4, [6]), (3189, 45, [3204]), (3204, 40, [3482]), (248, 11, [1]), (249, 11, [3]), (250, 2, [179, 4, 7, 2, 0, 209, 207, 63, 208]), (253, 14, [6])]
def zMb_54 : List zIns := [(255, 11, [2]), (256, 2, [184, 0, 16, 0, 17, 1581, 1578, 70, 1579, 1580]), (259, 14, [7]), (261, 11, [2]), (262, 2, [185, 0, 18, 0, 17, 1526, 1523, 70, 1524, 1525]), (265, 4, [6]), (267, 42, [272]), (272, 4, [6]), (274, 45, [289]), (277, 11, [3]), (278, 23, [1, 0]), (279, 69, []), (280, 4, [7]), (282, 32, []), (283, 41, []), (284, 43, [289]), (289, 40, [3482]), (3263, 11, [1]), (3264, 2, [322, 0, 170, 0, 13, 206, 203, 64, 204, 205]), (3267, 11, [2]), (3268, 2, [325, 0, 171, 0, 17, 2145, 2142, 70, 2143, 2144]), (3271, 42, [3482]), (3353, 11, [1]), (3354, 12, [4]), (3356, 2, [330, 4, 175, 2, 0, 1506, 1504, 63, 1505]), (3359, 14, [6]), (3361, 11, [2]), (3362, 2, [333, 0, 177, 0, 17, 2154, 2151, 70, 2152, 2153]), (3365, 16, [7]), (3367, 11, [2])]
def zMb_55 : List zIns := [(3368, 2, [185, 0, 18, 0, 17, 1526, 1523, 70, 1524, 1525]), (3371, 4, [6]), (3373, 42, [3378]), (3378, 4, [6]), (3380, 45, [3416]), (3416, 40, [3482])]
set_option maxRecDepth 100000 in
def zMb : zMeth := (x, code, 9, ret, 2, [(3489, 0, [2]), (28, 4, [5]), (30, 11, [0]), (31, 65, []), (32, 24, [135, 7]), (34, 30, []), (35, 50, [3488]), (3488, 23, [2, 1]), (38, 11, [0]), (39, 4, [5]), (41, 66, []), (42, 24, [191, 63]), (44, 31, []), (45, 80, [3482, 248, 292, 348, 452, 558, 664, 770, 888, 992, 1048, 1104, 1160, 1228, 1296, 1352, 1432, 1500, 1556, 1612, 1680, 1760, 1828, 1884, 1940, 2015, 2083, 2151, 2207, 2282, 2350, 2418, 2486, 2554, 2622, 2690, 2758, 2826, 2894, 2949, 3004, 3060, 3151, 3207, 3263, 3276, 3353, 3419]), (3482, 39, [5, 32775, 7]), (3485, 40, [28]), (2690, 11, [1]), (2691, 11, [0]), (2692, 4, [5]), (2694, 23, [2, 1]), (2695, 29, []), (2696, 66, []), (2697, 11, [0]), (2698, 4, [5]), (2700, 23, [3, 2]), (2701, 29, []), (2702, 66, []), (2703, 11, [3]), (2704, 2, [294, 4, 138, 4, 0, 1381, 1379, 63, 1380]), (2707, 14, [6]), (2709, 11, [2]), (2710, 11, [0]), (2711, 4, [5]), (2713, 23, [2, 1]), (2714, 29, []), (2715, 66, []), (2716, 11, [0]), (2717, 4, [5]), (2719, 23, [3, 2]), (2720, 29, []), (2721, 66, []), (2722, 2, [296, 0, 140, 2, 17, 2102, 2099, 70, 2100, 2101]), (2725, 14, [7]), (2727, 11, [2]), (2728, 2, [185, 0, 18, 0, 17, 1526, 1523, 70, 1524, 1525]), (2731, 4, [6]), (2733, 42, [2738]), (2738, 4, [6]), (2740, 45, [2755]), (2755, 40, [3482]), (2826, 11, [1]), (2827, 11, [0]), (2828, 4, [5]), (2830, 23, [2, 1]), (2831, 29, []), (2832, 66, []), (2833, 11, [0]), (2834, 4, [5]), (2836, 23, [3, 2]), (2837, 29, []), (2838, 66, []), (2839, 11, [3]), (2840, 2, [300, 4, 149, 4, 0, 1419, 1417, 63, 1418]), (2843, 14, [6]), (2845, 11, [2]), (2846, 11, [0]), (2847, 4, [5]), (2849, 23, [2, 1]), (2850, 29, []), (2851, 66, []), (2852, 11, [0]), (2853, 4, [5]), (2855, 23, [3, 2]), (2856, 29, []), (2857, 66, []), (2858, 2, [302, 0, 141, 2, 17, 2098, 2095, 70, 2096, 2097]), (2861, 14, [7]), (2863, 11, [2]), (2864, 2, [185, 0, 18, 0, 17, 1526, 1523, 70, 1524, 1525]), (2867, 4, [6]), (2869, 42, [2874]), (2874, 4, [6]), (2876, 45, [2891]), (2891, 40, [3482]), (3207, 11, [1]), (3208, 11, [0]), (3209, 4, [5]), (3211, 23, [2, 1]), (3212, 29, []), (3213, 66, []), (3214, 11, [3]), (3215, 2, [319, 4, 166, 3, 0, 1462, 1460, 63, 1461]), (3218, 14, [6]), (3220, 11, [2]), (3221, 11, [0]), (3222, 4, [5]), (3224, 23, [2, 1]), (3225, 29, []), (3226, 66, []), (3227, 2, [321, 0, 168, 1, 17, 2133, 2130, 70, 2131, 2132]), (3230, 14, [7]), (3232, 11, [2]), (3233, 2, [185, 0, 18, 0, 17, 1526, 1523, 70, 1524, 1525]), (3236, 4, [6]), (3238, 42, [3243]), (3243, 4, [6]), (3245, 45, [3260]), (3260, 40, [3482]), (3248, 11, [3]), (3249, 23, [1, 0]), (3250, 69, []), (3251, 4, [7]), (3253, 32, []), (3254, 41, []), (3255, 43, [3260]), (1160, 11, [1]), (1161, 11, [0]), (1162, 4, [5]), (1164, 23, [2, 1]), (1165, 29, []), (1166, 66, []), (1167, 11, [0]), (1168, 4, [5]), (1170, 23, [3, 2]), (1171, 29, []), (1172, 66, []), (1173, 11, [3]), (1174, 2, [223, 4, 55, 4, 0, 966, 964, 63, 965]), (1177, 14, [6]), (1179, 11, [2]), (1180, 11, [0]), (1181, 4, [5]), (1183, 23, [2, 1]), (1184, 29, []), (1185, 66, []), (1186, 11, [0]), (1187, 4, [5]), (1189, 23, [3, 2]), (1190, 29, []), (1191, 66, []), (1192, 2, [226, 0, 57, 2, 17, 1851, 1848, 70, 1849, 1850]), (1195, 14, [7]), (1197, 11, [2]), (1198, 2, [185, 0, 18, 0, 17, 1526, 1523, 70, 1524, 1525]), (1201, 4, [6]), (1203, 42, [1208]), (1208, 4, [6]), (1210, 45, [1225]), (1225, 40, [3482]), (1213, 11, [3]), (1214, 23, [1, 0]), (1215, 69, []), (1216, 4, [7]), (1218, 32, []), (1219, 41, []), (1220, 43, [1225]), (3060, 11, [1]), (3061, 11, [0]), (3062, 4, [5]), (3064, 23, [2, 1]), (3065, 29, []), (3066, 66, []), (3067, 11, [0]), (3068, 4, [5]), (3070, 23, [3, 2]), (3071, 29, []), (3072, 66, []), (3073, 43, [3080]), (3081, 11, [3]), (3082, 2, [312, 4, 160, 4, 0, 1447, 1445, 63, 1446]), (3085, 14, [6]), (3087, 11, [2]), (3088, 11, [0]), (3089, 4, [5]), (3091, 23, [2, 1]), (3092, 29, []), (3093, 66, []), (3094, 11, [0]), (3095, 4, [5]), (3097, 23, [3, 2]), (3098, 29, []), (3099, 66, []), (3100, 43, [3107]), (3108, 2, [315, 0, 162, 2, 17, 2125, 2122, 70, 2123, 2124]), (3111, 14, [7]), (3113, 11, [2]), (3114, 2, [185, 0, 18, 0, 17, 1526, 1523, 70, 1524, 1525]), (3117, 4, [6]), (3119, 42, [3124]), (3124, 4, [6]), (3126, 45, [3148]), (3148, 40, [3482]), (1104, 11, [1]), (1105, 11, [0]), (1106, 4, [5]), (1108, 23, [2, 1]), (1109, 29, []), (1110, 66, []), (1111, 11, [3]), (1112, 2, [220, 4, 51, 3, 0, 954, 952, 63, 953]), (1115, 14, [6]), (1117, 11, [2]), (1118, 11, [0]), (1119, 4, [5]), (1121, 23, [2, 1]), (1122, 29, []), (1123, 66, []), (1124, 2, [222, 0, 54, 1, 17, 1847, 1844, 70, 1845, 1846]), (1127, 14, [7]), (1129, 11, [2]), (1130, 2, [185, 0, 18, 0, 17, 1526, 1523, 70, 1524, 1525]), (1133, 4, [6]), (1135, 42, [1140]), (1140, 4, [6]), (1142, 45, [1157]), (1157, 40, [3482]), (2894, 11, [1]), (2895, 11, [0]), (2896, 4, [5]), (2898, 23, [2, 1]), (2899, 29, []), (2900, 66, []), (2901, 11, [3]), (2902, 2, [303, 4, 151, 3, 0, 1426, 1424, 63, 1425]), (2905, 14, [6]), (2907, 11, [2]), (2908, 11, [0]), (2909, 4, [5]), (2911, 23, [2, 1]), (2912, 29, []), (2913, 66, []), (2914, 2, [305, 0, 153, 1, 17, 2112, 2109, 70, 2110, 2111]), (2917, 20, [7]), (2919, 11, [2]), (2920, 2, [185, 0, 18, 0, 17, 1526, 1523, 70, 1524, 1525]), (2923, 4, [6]), (2925, 42, [2930]), (2930, 4, [6]), (2932, 45, [2946]), (2946, 40, [3482]), (3004, 11, [1]), (3005, 11, [0]), (3006, 4, [5]), (3008, 23, [2, 1]), (3009, 29, []), (3010, 66, []), (3011, 11, [3]), (3012, 2, [309, 4, 157, 3, 0, 1440, 1438, 63, 1439]), (3015, 14, [6]), (3017, 11, [2]), (3018, 11, [0]), (3019, 4, [5]), (3021, 23, [2, 1]), (3022, 29, []), (3023, 66, []), (3024, 2, [311, 0, 159, 1, 17, 2121, 2118, 70, 2119, 2120]), (3027, 14, [7]), (3029, 11, [2]), (3030, 2, [185, 0, 18, 0, 17, 1526, 1523, 70, 1524, 1525]), (3033, 4, [6]), (3035, 42, [3040]), (3040, 4, [6]), (3042, 45, [3057]), (3057, 40, [3482]), (3129, 11, [3]), (3130, 23, [1, 0]), (3131, 69, []), (3132, 4, [7]), (3134, 43, [3141]), (3141, 26, [0]), (3142, 41, []), (3143, 43, [3148]), (3276, 11, [1]), (3277, 11, [0]), (3278, 4, [5]), (3280, 23, [2, 1]), (3281, 29, []), (3282, 66, []), (3283, 12, [4]), (3285, 2, [326, 4, 172, 3, 0, 1482, 1480, 63, 1481]), (3288, 14, [6]), (3290, 11, [2]), (3291, 11, [0]), (3292, 4, [5]), (3294, 23, [2, 1]), (3295, 29, []), (3296, 66, []), (3297, 2, [329, 0, 174, 1, 17, 2149, 2146, 70, 2147, 2148]), (3300, 22, [7]), (3302, 11, [2]), (3303, 2, [185, 0, 18, 0, 17, 1526, 1523, 70, 1524, 1525]), (3306, 4, [6]), (3308, 42, [3313]), (3313, 4, [6]), (3315, 45, [3350]), (3350, 40, [3482]), (2935, 11, [3]), (2936, 23, [1, 0]), (2937, 69, []), (2938, 6, [7]), (2940, 41, []), (2941, 43, [2946]), (3045, 11, [3]), (3046, 23, [1, 0]), (3047, 69, []), (3048, 4, [7]), (3050, 32, []), (3051, 41, []), (3052, 43, [3057]), (3076, 23, [2, 1]), (3077, 40, [3081]), (3103, 23, [2, 1]), (3104, 40, [3108]), (2758, 11, [1]), (2759, 11, [0]), (2760, 4, [5]), (2762, 23, [2, 1]), (2763, 29, []), (2764, 66, []), (2765, 11, [0]), (2766, 4, [5]), (2768, 23, [3, 2]), (2769, 29, []), (2770, 66, []), (2771, 11, [3]), (2772, 2, [297, 4, 145, 4, 0, 1393, 1391, 63, 1392]), (2775, 14, [6]), (2777, 11, [2]), (2778, 11, [0]), (2779, 4, [5]), (2781, 23, [2, 1]), (2782, 29, []), (2783, 66, []), (2784, 11, [0]), (2785, 4, [5]), (2787, 23, [3, 2]), (2788, 29, []), (2789, 66, []), (2790, 2, [299, 0, 147, 2, 17, 2107, 2104, 70, 2105, 2106]), (2793, 14, [7]), (2795, 11, [2]), (2796, 2, [185, 0, 18, 0, 17, 1526, 1523, 70, 1524, 1525]), (2799, 4, [6]), (2801, 42, [2806]), (2806, 4, [6]), (2808, 45, [2823]), (2823, 40, [3482]), (3080, 23, [1, 0]), (3107, 23, [1, 0]), (3419, 11, [1]), (3420, 11, [0]), (3421, 4, [5]), (3423, 23, [2, 1]), (3424, 29, []), (3425, 66, []), (3426, 11, [3]), (3427, 2, [334, 4, 178, 3, 0, 1514, 1512, 63, 1513]), (3430, 14, [6]), (3432, 11, [2]), (3433, 11, [0]), (3434, 4, [5]), (3436, 23, [2, 1]), (3437, 29, []), (3438, 66, []), (3439, 2, [336, 0, 180, 1, 17, 2158, 2155, 70, 2156, 2157]), (3442, 14, [7]), (3444, 11, [2]), (3445, 2, [185, 0, 18, 0, 17, 1526, 1523, 70, 1524, 1525]), (3448, 4, [6]), (3450, 42, [3455]), (3455, 4, [6]), (3457, 45, [3479]), (3479, 40, [3482]), (1228, 11, [1]), (1229, 11, [0]), (1230, 4, [5]), (1232, 23, [2, 1]), (1233, 29, []), (1234, 66, []), (1235, 11, [0]), (1236, 4, [5]), (1238, 23, [3, 2]), (1239, 29, []), (1240, 66, []), (1241, 11, [3]), (1242, 2, [227, 4, 60, 4, 0, 980, 978, 63, 979]), (1245, 14, [6]), (1247, 11, [2]), (1248, 11, [0]), (1249, 4, [5]), (1251, 23, [2, 1]), (1252, 29, []), (1253, 66, []), (1254, 11, [0]), (1255, 4, [5]), (1257, 23, [3, 2]), (1258, 29, []), (1259, 66, []), (1260, 2, [229, 0, 63, 2, 17, 1858, 1855, 70, 1856, 1857]), (1263, 14, [7]), (1265, 11, [2]), (1266, 2, [185, 0, 18, 0, 17, 1526, 1523, 70, 1524, 1525]), (1269, 4, [6]), (1271, 42, [1276]), (1276, 4, [6]), (1278, 45, [1293]), (1293, 40, [3482]), (3460, 11, [3]), (3461, 23, [1, 0]), (3462, 69, []), (3463, 4, [7]), (3465, 43, [3472]), (3468, 26, [1]), (3469, 40, [3473]), (3473, 41, []), (3474, 43, [3479]), (2282, 11, [1]), (2283, 11, [0]), (2284, 4, [5]), (2286, 23, [2, 1]), (2287, 29, []), (2288, 66, []), (2289, 11, [0]), (2290, 4, [5]), (2292, 23, [3, 2]), (2293, 29, []), (2294, 66, []), (2295, 11, [3]), (2296, 2, [276, 4, 114, 4, 0, 1321, 1319, 63, 1320]), (2299, 14, [6]), (2301, 11, [2]), (2302, 11, [0]), (2303, 4, [5]), (2305, 23, [2, 1]), (2306, 29, []), (2307, 66, []), (2308, 11, [0]), (2309, 4, [5]), (2311, 23, [3, 2]), (2312, 29, []), (2313, 66, []), (2314, 2, [278, 0, 117, 2, 17, 2049, 2046, 70, 2047, 2048]), (2317, 14, [7]), (2319, 11, [2]), (2320, 2, [185, 0, 18, 0, 17, 1526, 1523, 70, 1524, 1525]), (2323, 4, [6]), (2325, 42, [2330]), (2330, 4, [6]), (2332, 45, [2347]), (2347, 40, [3482]), (2949, 11, [1]), (2950, 11, [0]), (2951, 4, [5]), (2953, 23, [2, 1]), (2954, 29, []), (2955, 66, []), (2956, 11, [3]), (2957, 2, [306, 4, 154, 3, 0, 1433, 1431, 63, 1432]), (2960, 14, [6]), (2962, 11, [2]), (2963, 11, [0]), (2964, 4, [5]), (2966, 23, [2, 1]), (2967, 29, []), (2968, 66, []), (2969, 2, [308, 0, 156, 1, 17, 2116, 2113, 70, 2114, 2115]), (2972, 20, [7]), (2974, 11, [2]), (2975, 2, [185, 0, 18, 0, 17, 1526, 1523, 70, 1524, 1525]), (2978, 4, [6]), (2980, 42, [2985]), (2985, 4, [6]), (2987, 45, [3001]), (3001, 40, [3482]), (292, 11, [1]), (293, 11, [0]), (294, 4, [5]), (296, 23, [2, 1]), (297, 29, []), (298, 66, []), (299, 11, [3]), (300, 2, [188, 4, 19, 3, 0, 427, 425, 63, 426]), (303, 14, [6]), (305, 11, [2]), (306, 11, [0]), (307, 4, [5]), (309, 23, [2, 1]), (310, 29, []), (311, 66, []), (312, 2, [191, 0, 23, 1, 17, 1702, 1699, 70, 1700, 1701]), (315, 14, [7]), (317, 11, [2]), (318, 2, [185, 0, 18, 0, 17, 1526, 1523, 70, 1524, 1525]), (321, 4, [6]), (323, 42, [328]), (328, 4, [6]), (330, 45, [345]), (345, 40, [3482]), (348, 11, [1]), (349, 11, [0]), (350, 4, [5]), (352, 23, [2, 1]), (353, 29, []), (354, 66, []), (355, 11, [0]), (356, 4, [5]), (358, 23, [3, 2]), (359, 29, []), (360, 66, []), (361, 11, [0]), (362, 4, [5]), (364, 23, [4, 3]), (365, 29, []), (366, 66, []), (367, 11, [0]), (368, 4, [5]), (370, 23, [5, 4]), (371, 29, []), (372, 66, []), (373, 11, [0]), (374, 4, [5]), (376, 23, [6, 5]), (377, 29, []), (378, 66, []), (379, 11, [3]), (380, 2, [192, 4, 27, 7, 0, 500, 498, 63, 499]), (383, 14, [6]), (385, 11, [2]), (386, 11, [0]), (387, 4, [5]), (389, 23, [2, 1]), (390, 29, []), (391, 66, []), (392, 11, [0]), (393, 4, [5]), (395, 23, [3, 2]), (396, 29, []), (397, 66, []), (398, 11, [0]), (399, 4, [5]), (401, 23, [4, 3]), (402, 29, []), (403, 66, []), (404, 11, [0]), (405, 4, [5]), (407, 23, [5, 4]), (408, 29, []), (409, 66, []), (410, 11, [0]), (411, 4, [5]), (413, 23, [6, 5]), (414, 29, []), (415, 66, []), (416, 2, [195, 0, 29, 5, 17, 1717, 1714, 70, 1715, 1716]), (419, 14, [7]), (421, 11, [2]), (422, 2, [185, 0, 18, 0, 17, 1526, 1523, 70, 1524, 1525]), (425, 4, [6]), (427, 42, [432]), (432, 4, [6]), (434, 45, [449]), (449, 40, [3482]), (452, 11, [1]), (453, 11, [0]), (454, 4, [5]), (456, 23, [2, 1]), (457, 29, []), (458, 66, []), (459, 11, [0]), (460, 4, [5]), (462, 23, [3, 2]), (463, 29, []), (464, 66, []), (465, 11, [0]), (466, 4, [5]), (468, 23, [4, 3]), (469, 29, []), (470, 66, []), (471, 33, []), (472, 11, [0]), (473, 4, [5]), (475, 23, [5, 4]), (476, 29, []), (477, 66, []), (478, 11, [0]), (479, 4, [5]), (481, 23, [6, 5]), (482, 29, []), (483, 66, []), (484, 11, [3]), (485, 2, [196, 4, 30, 7, 0, 596, 594, 63, 595]), (488, 14, [6]), (490, 11, [2]), (491, 11, [0]), (492, 4, [5]), (494, 23, [2, 1]), (495, 29, []), (496, 66, []), (497, 11, [0]), (498, 4, [5]), (500, 23, [3, 2]), (501, 29, []), (502, 66, []), (503, 11, [0]), (504, 4, [5]), (506, 23, [4, 3]), (507, 29, []), (508, 66, []), (509, 33, []), (510, 11, [0]), (511, 4, [5]), (513, 23, [5, 4]), (514, 29, []), (515, 66, []), (516, 11, [0]), (517, 4, [5]), (519, 23, [6, 5]), (520, 29, []), (521, 66, []), (522, 2, [199, 0, 32, 5, 17, 1725, 1722, 70, 1723, 1724]), (525, 14, [7]), (527, 11, [2]), (528, 2, [185, 0, 18, 0, 17, 1526, 1523, 70, 1524, 1525]), (531, 4, [6]), (533, 42, [538]), (538, 4, [6]), (540, 45, [555]), (555, 40, [3482]), (558, 11, [1]), (559, 11, [0]), (560, 4, [5]), (562, 23, [2, 1]), (563, 29, []), (564, 66, []), (565, 11, [0]), (566, 4, [5]), (568, 23, [3, 2]), (569, 29, []), (570, 66, []), (571, 11, [0]), (572, 4, [5]), (574, 23, [4, 3]), (575, 29, []), (576, 66, []), (577, 11, [0]), (578, 4, [5]), (580, 23, [5, 4]), (581, 29, []), (582, 66, []), (583, 33, []), (584, 11, [0]), (585, 4, [5]), (587, 23, [6, 5]), (588, 29, []), (589, 66, []), (590, 11, [3]), (591, 2, [200, 4, 33, 7, 0, 629, 627, 63, 628]), (594, 14, [6]), (596, 11, [2]), (597, 11, [0]), (598, 4, [5]), (600, 23, [2, 1]), (601, 29, []), (602, 66, []), (603, 11, [0]), (604, 4, [5]), (606, 23, [3, 2]), (607, 29, []), (608, 66, []), (609, 11, [0]), (610, 4, [5]), (612, 23, [4, 3]), (613, 29, []), (614, 66, []), (615, 11, [0]), (616, 4, [5]), (618, 23, [5, 4]), (619, 29, []), (620, 66, []), (621, 33, []), (622, 11, [0]), (623, 4, [5]), (625, 23, [6, 5]), (626, 29, []), (627, 66, []), (628, 2, [203, 0, 35, 5, 17, 1729, 1726, 70, 1727, 1728]), (631, 14, [7]), (633, 11, [2]), (634, 2, [185, 0, 18, 0, 17, 1526, 1523, 70, 1524, 1525]), (637, 4, [6]), (639, 42, [644]), (644, 4, [6]), (646, 45, [661]), (661, 40, [3482]), (664, 11, [1]), (665, 11, [0]), (666, 4, [5]), (668, 23, [2, 1]), (669, 29, []), (670, 66, []), (671, 11, [0]), (672, 4, [5]), (674, 23, [3, 2]), (675, 29, []), (676, 66, []), (677, 11, [0]), (678, 4, [5]), (680, 23, [4, 3]), (681, 29, []), (682, 66, []), (683, 11, [0]), (684, 4, [5]), (686, 23, [5, 4]), (687, 29, []), (688, 66, []), (689, 33, []), (690, 11, [0]), (691, 4, [5]), (693, 23, [6, 5]), (694, 29, []), (695, 66, []), (696, 11, [3]), (697, 2, [204, 4, 36, 7, 0, 664, 662, 63, 663]), (700, 14, [6]), (702, 11, [2]), (703, 11, [0]), (704, 4, [5]), (706, 23, [2, 1]), (707, 29, []), (708, 66, []), (709, 11, [0]), (710, 4, [5]), (712, 23, [3, 2]), (713, 29, []), (714, 66, []), (715, 11, [0]), (716, 4, [5]), (718, 23, [4, 3]), (719, 29, []), (720, 66, []), (721, 11, [0]), (722, 4, [5]), (724, 23, [5, 4]), (725, 29, []), (726, 66, []), (727, 33, []), (728, 11, [0]), (729, 4, [5]), (731, 23, [6, 5]), (732, 29, []), (733, 66, []), (734, 2, [206, 0, 38, 5, 17, 1740, 1737, 70, 1738, 1739]), (737, 14, [7]), (739, 11, [2]), (740, 2, [185, 0, 18, 0, 17, 1526, 1523, 70, 1524, 1525]), (743, 4, [6]), (745, 42, [750]), (750, 4, [6]), (752, 45, [767]), (767, 40, [3482]), (770, 11, [1]), (771, 11, [0]), (772, 4, [5]), (774, 23, [2, 1]), (775, 29, []), (776, 66, []), (777, 11, [0]), (778, 4, [5]), (780, 23, [3, 2]), (781, 29, []), (782, 66, []), (783, 11, [0]), (784, 4, [5]), (786, 23, [4, 3]), (787, 29, []), (788, 66, []), (789, 11, [0]), (790, 4, [5]), (792, 23, [5, 4]), (793, 29, []), (794, 66, []), (795, 11, [0]), (796, 4, [5]), (798, 23, [6, 5]), (799, 29, []), (800, 66, []), (801, 11, [0]), (802, 4, [5]), (804, 24, [134, 6]), (806, 29, []), (807, 66, []), (808, 11, [3]), (809, 2, [207, 4, 39, 8, 0, 679, 677, 63, 678]), (812, 14, [6]), (814, 11, [2]), (815, 11, [0]), (816, 4, [5]), (818, 23, [2, 1]), (819, 29, []), (820, 66, []), (821, 11, [0]), (822, 4, [5]), (824, 23, [3, 2]), (825, 29, []), (826, 66, []), (827, 11, [0]), (828, 4, [5]), (830, 23, [4, 3]), (831, 29, []), (832, 66, []), (833, 11, [0]), (834, 4, [5]), (836, 23, [5, 4]), (837, 29, []), (838, 66, []), (839, 11, [0]), (840, 4, [5]), (842, 23, [6, 5]), (843, 29, []), (844, 66, []), (845, 11, [0]), (846, 4, [5]), (848, 24, [134, 6]), (850, 29, []), (851, 66, []), (852, 2, [210, 0, 41, 6, 17, 1744, 1741, 70, 1742, 1743]), (855, 14, [7]), (857, 11, [2]), (858, 2, [185, 0, 18, 0, 17, 1526, 1523, 70, 1524, 1525]), (861, 4, [6]), (863, 42, [868]), (868, 4, [6]), (870, 45, [885]), (885, 40, [3482]), (888, 11, [1]), (889, 11, [0]), (890, 4, [5]), (892, 23, [2, 1]), (893, 29, []), (894, 66, []), (895, 11, [0]), (896, 4, [5]), (898, 23, [3, 2]), (899, 29, []), (900, 66, []), (901, 11, [0]), (902, 4, [5]), (904, 23, [4, 3]), (905, 29, []), (906, 66, []), (907, 11, [0]), (908, 4, [5]), (910, 23, [5, 4]), (911, 29, []), (912, 66, []), (913, 11, [0]), (914, 4, [5]), (916, 23, [6, 5]), (917, 29, []), (918, 66, []), (919, 11, [3]), (920, 2, [211, 4, 42, 7, 0, 725, 723, 63, 724]), (923, 14, [6]), (925, 11, [2]), (926, 11, [0]), (927, 4, [5]), (929, 23, [2, 1]), (930, 29, []), (931, 66, []), (932, 11, [0]), (933, 4, [5]), (935, 23, [3, 2]), (936, 29, []), (937, 66, []), (938, 11, [0]), (939, 4, [5]), (941, 23, [4, 3]), (942, 29, []), (943, 66, []), (944, 11, [0]), (945, 4, [5]), (947, 23, [5, 4]), (948, 29, []), (949, 66, []), (950, 11, [0]), (951, 4, [5]), (953, 23, [6, 5]), (954, 29, []), (955, 66, []), (956, 2, [213, 0, 44, 5, 17, 1748, 1745, 70, 1746, 1747]), (959, 14, [7]), (961, 11, [2]), (962, 2, [185, 0, 18, 0, 17, 1526, 1523, 70, 1524, 1525]), (965, 4, [6]), (967, 42, [972]), (972, 4, [6]), (974, 45, [989]), (989, 40, [3482]), (992, 11, [1]), (993, 11, [0]), (994, 4, [5]), (996, 23, [2, 1]), (997, 29, []), (998, 66, []), (999, 11, [3]), (1000, 2, [214, 4, 45, 3, 0, 733, 731, 63, 732]), (1003, 14, [6]), (1005, 11, [2]), (1006, 11, [0]), (1007, 4, [5]), (1009, 23, [2, 1]), (1010, 29, []), (1011, 66, []), (1012, 2, [216, 0, 47, 1, 17, 1752, 1749, 70, 1750, 1751]), (1015, 14, [7]), (1017, 11, [2]), (1018, 2, [185, 0, 18, 0, 17, 1526, 1523, 70, 1524, 1525]), (1021, 4, [6]), (1023, 42, [1028]), (1028, 4, [6]), (1030, 45, [1045]), (1045, 40, [3482]), (1048, 11, [1]), (1049, 11, [0]), (1050, 4, [5]), (1052, 23, [2, 1]), (1053, 29, []), (1054, 66, []), (1055, 11, [3]), (1056, 2, [217, 4, 48, 3, 0, 939, 937, 63, 938]), (1059, 14, [6]), (1061, 11, [2]), (1062, 11, [0]), (1063, 4, [5]), (1065, 23, [2, 1]), (1066, 29, []), (1067, 66, []), (1068, 2, [219, 0, 50, 1, 17, 1843, 1840, 70, 1841, 1842]), (1071, 14, [7]), (1073, 11, [2]), (1074, 2, [185, 0, 18, 0, 17, 1526, 1523, 70, 1524, 1525]), (1077, 4, [6]), (1079, 42, [1084]), (1084, 4, [6]), (1086, 45, [1101]), (1101, 40, [3482]), (1296, 11, [1]), (1297, 11, [0]), (1298, 4, [5]), (1300, 23, [2, 1]), (1301, 29, []), (1302, 66, []), (1303, 11, [3]), (1304, 2, [230, 4, 65, 3, 0, 1091, 1089, 63, 1090]), (1307, 14, [6]), (1309, 11, [2]), (1310, 11, [0]), (1311, 4, [5]), (1313, 23, [2, 1]), (1314, 29, []), (1315, 66, []), (1316, 2, [232, 0, 68, 1, 17, 1936, 1933, 70, 1934, 1935]), (1319, 14, [7]), (1321, 11, [2]), (1322, 2, [185, 0, 18, 0, 17, 1526, 1523, 70, 1524, 1525]), (1325, 4, [6]), (1327, 42, [1332]), (1332, 4, [6]), (1334, 45, [1349]), (1349, 40, [3482]), (1352, 11, [1]), (1353, 11, [0]), (1354, 4, [5]), (1356, 23, [2, 1]), (1357, 29, []), (1358, 66, []), (1359, 11, [0]), (1360, 4, [5]), (1362, 23, [3, 2]), (1363, 29, []), (1364, 66, []), (1365, 11, [0]), (1366, 4, [5]), (1368, 23, [4, 3]), (1369, 29, []), (1370, 66, []), (1371, 11, [3]), (1372, 2, [233, 4, 70, 5, 0, 1118, 1116, 63, 1117]), (1375, 14, [6]), (1377, 11, [2]), (1378, 11, [0]), (1379, 4, [5]), (1381, 23, [2, 1]), (1382, 29, []), (1383, 66, []), (1384, 11, [0]), (1385, 4, [5]), (1387, 23, [3, 2]), (1388, 29, []), (1389, 66, []), (1390, 11, [0]), (1391, 4, [5]), (1393, 23, [4, 3]), (1394, 29, []), (1395, 66, []), (1396, 2, [236, 0, 72, 3, 17, 1948, 1945, 70, 1946, 1947]), (1399, 14, [7]), (1401, 11, [2]), (1402, 2, [185, 0, 18, 0, 17, 1526, 1523, 70, 1524, 1525]), (1405, 4, [6]), (1407, 42, [1412]), (1412, 4, [6]), (1414, 45, [1429]), (1429, 40, [3482]), (1432, 11, [1]), (1433, 11, [0]), (1434, 4, [5]), (1436, 23, [2, 1]), (1437, 29, []), (1438, 66, []), (1439, 11, [0]), (1440, 4, [5]), (1442, 23, [3, 2]), (1443, 29, []), (1444, 66, []), (1445, 11, [3]), (1446, 2, [237, 4, 74, 4, 0, 1143, 1141, 63, 1142]), (1449, 14, [6]), (1451, 11, [2]), (1452, 11, [0]), (1453, 4, [5]), (1455, 23, [2, 1]), (1456, 29, []), (1457, 66, []), (1458, 11, [0]), (1459, 4, [5]), (1461, 23, [3, 2]), (1462, 29, []), (1463, 66, []), (1464, 2, [239, 0, 76, 2, 17, 1965, 1962, 70, 1963, 1964]), (1467, 14, [7]), (1469, 11, [2]), (1470, 2, [185, 0, 18, 0, 17, 1526, 1523, 70, 1524, 1525]), (1473, 4, [6]), (1475, 42, [1480]), (1480, 4, [6]), (1482, 45, [1497]), (1497, 40, [3482]), (1500, 11, [1]), (1501, 11, [0]), (1502, 4, [5]), (1504, 23, [2, 1]), (1505, 29, []), (1506, 66, []), (1507, 11, [3]), (1508, 2, [240, 4, 77, 3, 0, 1152, 1150, 63, 1151]), (1511, 14, [6]), (1513, 11, [2]), (1514, 11, [0]), (1515, 4, [5]), (1517, 23, [2, 1]), (1518, 29, []), (1519, 66, []), (1520, 2, [242, 0, 79, 1, 17, 1969, 1966, 70, 1967, 1968]), (1523, 14, [7]), (1525, 11, [2]), (1526, 2, [185, 0, 18, 0, 17, 1526, 1523, 70, 1524, 1525]), (1529, 4, [6]), (1531, 42, [1536]), (1536, 4, [6]), (1538, 45, [1553]), (1553, 40, [3482]), (1556, 11, [1]), (1557, 11, [0]), (1558, 4, [5]), (1560, 23, [2, 1]), (1561, 29, []), (1562, 66, []), (1563, 11, [3]), (1564, 2, [243, 4, 80, 3, 0, 1165, 1163, 63, 1164]), (1567, 14, [6]), (1569, 11, [2]), (1570, 11, [0]), (1571, 4, [5]), (1573, 23, [2, 1]), (1574, 29, []), (1575, 66, []), (1576, 2, [245, 0, 82, 1, 17, 1973, 1970, 70, 1971, 1972]), (1579, 14, [7]), (1581, 11, [2]), (1582, 2, [185, 0, 18, 0, 17, 1526, 1523, 70, 1524, 1525]), (1585, 4, [6]), (1587, 42, [1592]), (1592, 4, [6]), (1594, 45, [1609]), (1609, 40, [3482]), (1612, 11, [1]), (1613, 11, [0]), (1614, 4, [5]), (1616, 23, [2, 1]), (1617, 29, []), (1618, 66, []), (1619, 11, [0]), (1620, 4, [5]), (1622, 23, [3, 2]), (1623, 29, []), (1624, 66, []), (1625, 11, [3]), (1626, 2, [246, 4, 83, 4, 0, 1211, 1209, 63, 1210]), (1629, 14, [6]), (1631, 11, [2]), (1632, 11, [0]), (1633, 4, [5]), (1635, 23, [2, 1]), (1636, 29, []), (1637, 66, []), (1638, 11, [0]), (1639, 4, [5]), (1641, 23, [3, 2]), (1642, 29, []), (1643, 66, []), (1644, 2, [248, 0, 85, 2, 17, 1997, 1994, 70, 1995, 1996]), (1647, 14, [7]), (1649, 11, [2]), (1650, 2, [185, 0, 18, 0, 17, 1526, 1523, 70, 1524, 1525]), (1653, 4, [6]), (1655, 42, [1660]), (1660, 4, [6]), (1662, 45, [1677]), (1677, 40, [3482]), (1680, 11, [1]), (1681, 11, [0]), (1682, 4, [5]), (1684, 23, [2, 1]), (1685, 29, []), (1686, 66, []), (1687, 11, [0]), (1688, 4, [5]), (1690, 23, [3, 2]), (1691, 29, []), (1692, 66, []), (1693, 11, [0]), (1694, 4, [5]), (1696, 23, [4, 3]), (1697, 29, []), (1698, 66, []), (1699, 11, [3]), (1700, 2, [249, 4, 86, 5, 0, 1238, 1236, 63, 1237]), (1703, 14, [6]), (1705, 11, [2]), (1706, 11, [0]), (1707, 4, [5]), (1709, 23, [2, 1]), (1710, 29, []), (1711, 66, []), (1712, 11, [0]), (1713, 4, [5]), (1715, 23, [3, 2]), (1716, 29, []), (1717, 66, []), (1718, 11, [0]), (1719, 4, [5]), (1721, 23, [4, 3]), (1722, 29, []), (1723, 66, []), (1724, 2, [251, 0, 88, 3, 17, 2009, 2006, 70, 2007, 2008]), (1727, 14, [7]), (1729, 11, [2]), (1730, 2, [185, 0, 18, 0, 17, 1526, 1523, 70, 1524, 1525]), (1733, 4, [6]), (1735, 42, [1740]), (1740, 4, [6]), (1742, 45, [1757]), (1757, 40, [3482]), (1760, 11, [1]), (1761, 11, [0]), (1762, 4, [5]), (1764, 23, [2, 1]), (1765, 29, []), (1766, 66, []), (1767, 11, [0]), (1768, 4, [5]), (1770, 23, [3, 2]), (1771, 29, []), (1772, 66, []), (1773, 11, [3]), (1774, 2, [252, 4, 89, 4, 0, 1259, 1257, 63, 1258]), (1777, 14, [6]), (1779, 11, [2]), (1780, 11, [0]), (1781, 4, [5]), (1783, 23, [2, 1]), (1784, 29, []), (1785, 66, []), (1786, 11, [0]), (1787, 4, [5]), (1789, 23, [3, 2]), (1790, 29, []), (1791, 66, []), (1792, 2, [254, 0, 91, 2, 17, 2013, 2010, 70, 2011, 2012]), (1795, 14, [7]), (1797, 11, [2]), (1798, 2, [185, 0, 18, 0, 17, 1526, 1523, 70, 1524, 1525]), (1801, 4, [6]), (1803, 42, [1808]), (1808, 4, [6]), (1810, 45, [1825]), (1825, 40, [3482]), (1828, 11, [1]), (1829, 11, [0]), (1830, 4, [5]), (1832, 23, [2, 1]), (1833, 29, []), (1834, 66, []), (1835, 11, [3]), (1836, 2, [255, 4, 92, 3, 0, 1266, 1264, 63, 1265]), (1839, 14, [6]), (1841, 11, [2]), (1842, 11, [0]), (1843, 4, [5]), (1845, 23, [2, 1]), (1846, 29, []), (1847, 66, []), (1848, 2, [257, 0, 94, 1, 17, 2017, 2014, 70, 2015, 2016]), (1851, 14, [7]), (1853, 11, [2]), (1854, 2, [185, 0, 18, 0, 17, 1526, 1523, 70, 1524, 1525]), (1857, 4, [6]), (1859, 42, [1864]), (1864, 4, [6]), (1866, 45, [1881]), (1881, 40, [3482]), (1884, 11, [1]), (1885, 11, [0]), (1886, 4, [5]), (1888, 23, [2, 1]), (1889, 29, []), (1890, 66, []), (1891, 11, [3]), (1892, 2, [258, 4, 95, 3, 0, 1274, 1272, 63, 1273]), (1895, 14, [6]), (1897, 11, [2]), (1898, 11, [0]), (1899, 4, [5]), (1901, 23, [2, 1]), (1902, 29, []), (1903, 66, []), (1904, 2, [260, 0, 97, 1, 17, 2021, 2018, 70, 2019, 2020]), (1907, 14, [7]), (1909, 11, [2]), (1910, 2, [185, 0, 18, 0, 17, 1526, 1523, 70, 1524, 1525]), (1913, 4, [6]), (1915, 42, [1920]), (1920, 4, [6]), (1922, 45, [1937]), (1937, 40, [3482]), (1940, 11, [1]), (1941, 11, [0]), (1942, 4, [5]), (1944, 23, [2, 1]), (1945, 29, []), (1946, 66, []), (1947, 11, [0]), (1948, 4, [5]), (1950, 23, [3, 2]), (1951, 29, []), (1952, 66, []), (1953, 11, [3]), (1954, 2, [261, 4, 98, 4, 0, 1281, 1279, 63, 1280]), (1957, 14, [6]), (1959, 11, [2]), (1960, 11, [0]), (1961, 4, [5]), (1963, 23, [2, 1]), (1964, 29, []), (1965, 66, []), (1966, 11, [0]), (1967, 4, [5]), (1969, 23, [3, 2]), (1970, 29, []), (1971, 66, []), (1972, 2, [263, 0, 100, 2, 17, 2025, 2022, 70, 2023, 2024]), (1975, 14, [7]), (1977, 11, [2]), (1978, 2, [185, 0, 18, 0, 17, 1526, 1523, 70, 1524, 1525]), (1981, 4, [6]), (1983, 42, [1988]), (1988, 4, [6]), (1990, 45, [2012]), (2012, 40, [3482]), (2015, 11, [1]), (2016, 11, [0]), (2017, 4, [5]), (2019, 23, [2, 1]), (2020, 29, []), (2021, 66, []), (2022, 11, [0]), (2023, 4, [5]), (2025, 23, [3, 2]), (2026, 29, []), (2027, 66, []), (2028, 11, [3]), (2029, 2, [264, 4, 102, 4, 0, 1288, 1286, 63, 1287]), (2032, 14, [6]), (2034, 11, [2]), (2035, 11, [0]), (2036, 4, [5]), (2038, 23, [2, 1]), (2039, 29, []), (2040, 66, []), (2041, 11, [0]), (2042, 4, [5]), (2044, 23, [3, 2]), (2045, 29, []), (2046, 66, []), (2047, 2, [266, 0, 104, 2, 17, 2033, 2030, 70, 2031, 2032]), (2050, 14, [7]), (2052, 11, [2]), (2053, 2, [185, 0, 18, 0, 17, 1526, 1523, 70, 1524, 1525]), (2056, 4, [6]), (2058, 42, [2063]), (2063, 4, [6]), (2065, 45, [2080]), (2080, 40, [3482]), (2083, 11, [1]), (2084, 11, [0]), (2085, 4, [5]), (2087, 23, [2, 1]), (2088, 29, []), (2089, 66, []), (2090, 11, [0]), (2091, 4, [5]), (2093, 23, [3, 2]), (2094, 29, []), (2095, 66, []), (2096, 11, [3]), (2097, 2, [267, 4, 105, 4, 0, 1299, 1297, 63, 1298]), (2100, 14, [6]), (2102, 11, [2]), (2103, 11, [0]), (2104, 4, [5]), (2106, 23, [2, 1]), (2107, 29, []), (2108, 66, []), (2109, 11, [0]), (2110, 4, [5]), (2112, 23, [3, 2]), (2113, 29, []), (2114, 66, []), (2115, 2, [269, 0, 107, 2, 17, 2037, 2034, 70, 2035, 2036]), (2118, 14, [7]), (2120, 11, [2]), (2121, 2, [185, 0, 18, 0, 17, 1526, 1523, 70, 1524, 1525]), (2124, 4, [6]), (2126, 42, [2131]), (2131, 4, [6]), (2133, 45, [2148]), (2148, 40, [3482]), (2151, 11, [1]), (2152, 11, [0]), (2153, 4, [5]), (2155, 23, [2, 1]), (2156, 29, []), (2157, 66, []), (2158, 11, [3]), (2159, 2, [270, 4, 108, 3, 0, 1306, 1304, 63, 1305]), (2162, 14, [6]), (2164, 11, [2]), (2165, 11, [0]), (2166, 4, [5]), (2168, 23, [2, 1]), (2169, 29, []), (2170, 66, []), (2171, 2, [272, 0, 110, 1, 17, 2041, 2038, 70, 2039, 2040]), (2174, 14, [7]), (2176, 11, [2]), (2177, 2, [185, 0, 18, 0, 17, 1526, 1523, 70, 1524, 1525]), (2180, 4, [6]), (2182, 42, [2187]), (2187, 4, [6]), (2189, 45, [2204]), (2204, 40, [3482]), (2207, 11, [1]), (2208, 11, [0]), (2209, 4, [5]), (2211, 23, [2, 1]), (2212, 29, []), (2213, 66, []), (2214, 11, [0]), (2215, 4, [5]), (2217, 23, [3, 2]), (2218, 29, []), (2219, 66, []), (2220, 11, [3]), (2221, 2, [273, 4, 111, 4, 0, 1314, 1312, 63, 1313]), (2224, 14, [6]), (2226, 11, [2]), (2227, 11, [0]), (2228, 4, [5]), (2230, 23, [2, 1]), (2231, 29, []), (2232, 66, []), (2233, 11, [0]), (2234, 4, [5]), (2236, 23, [3, 2]), (2237, 29, []), (2238, 66, []), (2239, 2, [275, 0, 113, 2, 17, 2045, 2042, 70, 2043, 2044]), (2242, 14, [7]), (2244, 11, [2]), (2245, 2, [185, 0, 18, 0, 17, 1526, 1523, 70, 1524, 1525]), (2248, 4, [6]), (2250, 42, [2255]), (2255, 4, [6]), (2257, 45, [2279]), (2279, 40, [3482]), (2350, 11, [1]), (2351, 11, [0]), (2352, 4, [5]), (2354, 23, [2, 1]), (2355, 29, []), (2356, 66, []), (2357, 11, [0]), (2358, 4, [5]), (2360, 23, [3, 2]), (2361, 29, []), (2362, 66, []), (2363, 11, [3]), (2364, 2, [279, 4, 118, 4, 0, 1337, 1335, 63, 1336]), (2367, 14, [6]), (2369, 11, [2]), (2370, 11, [0]), (2371, 4, [5]), (2373, 23, [2, 1]), (2374, 29, []), (2375, 66, []), (2376, 11, [0]), (2377, 4, [5]), (2379, 23, [3, 2]), (2380, 29, []), (2381, 66, []), (2382, 2, [281, 0, 121, 2, 17, 2053, 2050, 70, 2051, 2052]), (2385, 14, [7]), (2387, 11, [2]), (2388, 2, [185, 0, 18, 0, 17, 1526, 1523, 70, 1524, 1525]), (2391, 4, [6]), (2393, 42, [2398]), (2398, 4, [6]), (2400, 45, [2415]), (2415, 40, [3482]), (2418, 11, [1]), (2419, 11, [0]), (2420, 4, [5]), (2422, 23, [2, 1]), (2423, 29, []), (2424, 66, []), (2425, 11, [0]), (2426, 4, [5]), (2428, 23, [3, 2]), (2429, 29, []), (2430, 66, []), (2431, 11, [3]), (2432, 2, [282, 4, 123, 4, 0, 1348, 1346, 63, 1347]), (2435, 14, [6]), (2437, 11, [2]), (2438, 11, [0]), (2439, 4, [5]), (2441, 23, [2, 1]), (2442, 29, []), (2443, 66, []), (2444, 11, [0]), (2445, 4, [5]), (2447, 23, [3, 2]), (2448, 29, []), (2449, 66, []), (2450, 2, [284, 0, 126, 2, 17, 2061, 2058, 70, 2059, 2060]), (2453, 14, [7]), (2455, 11, [2]), (2456, 2, [185, 0, 18, 0, 17, 1526, 1523, 70, 1524, 1525]), (2459, 4, [6]), (2461, 42, [2466]), (2466, 4, [6]), (2468, 45, [2483]), (2483, 40, [3482]), (2486, 11, [1]), (2487, 11, [0]), (2488, 4, [5]), (2490, 23, [2, 1]), (2491, 29, []), (2492, 66, []), (2493, 11, [0]), (2494, 4, [5]), (2496, 23, [3, 2]), (2497, 29, []), (2498, 66, []), (2499, 11, [3]), (2500, 2, [285, 4, 128, 4, 0, 1360, 1358, 63, 1359]), (2503, 14, [6]), (2505, 11, [2]), (2506, 11, [0]), (2507, 4, [5]), (2509, 23, [2, 1]), (2510, 29, []), (2511, 66, []), (2512, 11, [0]), (2513, 4, [5]), (2515, 23, [3, 2]), (2516, 29, []), (2517, 66, []), (2518, 2, [287, 0, 130, 2, 17, 2073, 2070, 70, 2071, 2072]), (2521, 14, [7]), (2523, 11, [2]), (2524, 2, [185, 0, 18, 0, 17, 1526, 1523, 70, 1524, 1525]), (2527, 4, [6]), (2529, 42, [2534]), (2534, 4, [6]), (2536, 45, [2551]), (2551, 40, [3482]), (2554, 11, [1]), (2555, 11, [0]), (2556, 4, [5]), (2558, 23, [2, 1]), (2559, 29, []), (2560, 66, []), (2561, 11, [0]), (2562, 4, [5]), (2564, 23, [3, 2]), (2565, 29, []), (2566, 66, []), (2567, 11, [3]), (2568, 2, [288, 4, 132, 4, 0, 1367, 1365, 63, 1366]), (2571, 14, [6]), (2573, 11, [2]), (2574, 11, [0]), (2575, 4, [5]), (2577, 23, [2, 1]), (2578, 29, []), (2579, 66, []), (2580, 11, [0]), (2581, 4, [5]), (2583, 23, [3, 2]), (2584, 29, []), (2585, 66, []), (2586, 2, [290, 0, 134, 2, 17, 2090, 2087, 70, 2088, 2089]), (2589, 14, [7]), (2591, 11, [2]), (2592, 2, [185, 0, 18, 0, 17, 1526, 1523, 70, 1524, 1525]), (2595, 4, [6]), (2597, 42, [2602]), (2602, 4, [6]), (2604, 45, [2619]), (2619, 40, [3482]), (2622, 11, [1]), (2623, 11, [0]), (2624, 4, [5]), (2626, 23, [2, 1]), (2627, 29, []), (2628, 66, []), (2629, 11, [0]), (2630, 4, [5]), (2632, 23, [3, 2]), (2633, 29, []), (2634, 66, []), (2635, 11, [3]), (2636, 2, [291, 4, 135, 4, 0, 1374, 1372, 63, 1373]), (2639, 14, [6]), (2641, 11, [2]), (2642, 11, [0]), (2643, 4, [5]), (2645, 23, [2, 1]), (2646, 29, []), (2647, 66, []), (2648, 11, [0]), (2649, 4, [5]), (2651, 23, [3, 2]), (2652, 29, []), (2653, 66, []), (2654, 2, [293, 0, 137, 2, 17, 2094, 2091, 70, 2092, 2093]), (2657, 14, [7]), (2659, 11, [2]), (2660, 2, [185, 0, 18, 0, 17, 1526, 1523, 70, 1524, 1525]), (2663, 4, [6]), (2665, 42, [2670]), (2670, 4, [6]), (2672, 45, [2687]), (2687, 40, [3482]), (2990, 11, [3]), (2991, 23, [1, 0]), (2992, 69, []), (2993, 6, [7]), (2995, 41, []), (2996, 43, [3001]), (3151, 11, [1]), (3152, 11, [0]), (3153, 4, [5]), (3155, 23, [2, 1]), (3156, 29, []), (3157, 66, []), (3158, 11, [3]), (3159, 2, [316, 4, 163, 3, 0, 1454, 1452, 63, 1453]), (3162, 14, [6]), (3164, 11, [2]), (3165, 11, [0]), (3166, 4, [5]), (3168, 23, [2, 1]), (3169, 29, []), (3170, 66, []), (3171, 2, [318, 0, 165, 1, 17, 2129, 2126, 70, 2127, 2128]), (3174, 14, [7]), (3176, 11, [2]), (3177, 2, [185, 0, 18, 0, 17, 1526, 1523, 70, 1524, 1525]), (3180, 4, [6]), (3182, 42, [3187]), (3187, 4, [6]), (3189, 45, [3204]), (3204, 40, [3482]), (248, 11, [1]), (249, 11, [3]), (250, 2, [179, 4, 7, 2, 0, 209, 207, 63, 208]), (253, 14, [6]), (255, 11, [2]), (256, 2, [184, 0, 16, 0, 17, 1581, 1578, 70, 1579, 1580]), (259, 14, [7]), (261, 11, [2]), (262, 2, [185, 0, 18, 0, 17, 1526, 1523, 70, 1524, 1525]), (265, 4, [6]), (267, 42, [272]), (272, 4, [6]), (274, 45, [289]), (277, 11, [3]), (278, 23, [1, 0]), (279, 69, []), (280, 4, [7]), (282, 32, []), (283, 41, []), (284, 43, [289]), (289, 40, [3482]), (3263, 11, [1]), (3264, 2, [322, 0, 170, 0, 13, 206, 203, 64, 204, 205]), (3267, 11, [2]), (3268, 2, [325, 0, 171, 0, 17, 2145, 2142, 70, 2143, 2144]), (3271, 42, [3482]), (3353, 11, [1]), (3354, 12, [4]), (3356, 2, [330, 4, 175, 2, 0, 1506, 1504, 63, 1505]), (3359, 14, [6]), (3361, 11, [2]), (3362, 2, [333, 0, 177, 0, 17, 2154, 2151, 70, 2152, 2153]), (3365, 16, [7]), (3367, 11, [2]), (3368, 2, [185, 0, 18, 0, 17, 1526, 1523, 70, 1524, 1525]), (3371, 4, [6]), (3373, 42, [3378]), (3378, 4, [6]), (3380, 45, [3416]), (3416, 40, [3482])], (2048, 600006, 7302024, 94400), [])
end
section
/-! that the data is what the tables say -/
theorem zc_0 : zchk zP zM_0 := ⟨by decide +kernel, by decide +kernel, by decide +kernel, [], by decide +kernel⟩
theorem zc_1 : zchk zP zM_1 := ⟨by decide +kernel, by decide +kernel, by decide +kernel, [], by decide +kernel⟩
theorem zc_2 : zchk zP zM_2 := ⟨by decide +kernel, by decide +kernel, by decide +kernel, [], by decide +kernel⟩
theorem zc_3 : zchk zP zM_3 := ⟨by decide +kernel, by decide +kernel, by decide +kernel, [], by decide +kernel⟩
theorem zc_4 : zchk zP zM_4 := ⟨by decide +kernel, by decide +kernel, by decide +kernel, [], by decide +kernel⟩
theorem zc_5 : zchk zP zM_5 := ⟨by decide +kernel, by decide +kernel, by decide +kernel, [], by decide +kernel⟩
theorem zc_6 : zchk zP zM_6 := ⟨by decide +kernel, by decide +kernel, by decide +kernel, [], by decide +kernel⟩
theorem zc_7 : zchk zP zM_7 := ⟨by decide +kernel, by decide +kernel, by decide +kernel, [210], by decide +kernel⟩
theorem zc_8 : zchk zP zM_8 := ⟨by decide +kernel, by decide +kernel, by decide +kernel, [], by decide +kernel⟩
theorem zc_9 : zchk zP zM_9 := ⟨by decide +kernel, by decide +kernel, by decide +kernel, [], by decide +kernel⟩
theorem zc_10 : zchk zP zM_10 := ⟨by decide +kernel, by decide +kernel, by decide +kernel, [], by decide +kernel⟩
theorem zc_11 : zchk zP zM_11 := ⟨by decide +kernel, by decide +kernel, by decide +kernel, [], by decide +kernel⟩
theorem zc_12 : zchk zP zM_12 := ⟨by decide +kernel, by decide +kernel, by decide +kernel, [], by decide +kernel⟩
theorem zc_13 : zchk zP zM_13 := ⟨by decide +kernel, by decide +kernel, by decide +kernel, [], by decide +kernel⟩
theorem zc_14 : zchk zP zM_14 := ⟨by decide +kernel, by decide +kernel, by decide +kernel, [], by decide +kernel⟩
theorem zc_15 : zchk zP zM_15 := ⟨by decide +kernel, by decide +kernel, by decide +kernel, [], by decide +kernel⟩
theorem zc_16 : zchk zP zM_16 := ⟨by decide +kernel, by decide +kernel, by decide +kernel, [], by decide +kernel⟩
theorem zc_17 : zchk zP zM_17 := ⟨by decide +kernel, by decide +kernel, by decide +kernel, [], by decide +kernel⟩
theorem zc_18 : zchk zP zM_18 := ⟨by decide +kernel, by decide +kernel, by decide +kernel, [], by decide +kernel⟩
theorem zc_19 : zchk zP zM_19 := ⟨by decide +kernel, by decide +kernel, by decide +kernel, [428, 210], by decide +kernel⟩
theorem zc_20 : zchk zP zM_20 := ⟨by decide +kernel, by decide +kernel, by decide +kernel, [], by decide +kernel⟩
theorem zc_21 : zchk zP zM_21 := ⟨by decide +kernel, by decide +kernel, by decide +kernel, [], by decide +kernel⟩
theorem zc_22 : zchk zP zM_22 := ⟨by decide +kernel, by decide +kernel, by decide +kernel, [], by decide +kernel⟩
theorem zc_23 : zchk zP zM_23 := ⟨by decide +kernel, by decide +kernel, by decide +kernel, [], by decide +kernel⟩
theorem zc_24 : zchk zP zM_24 := ⟨by decide +kernel, by decide +kernel, by decide +kernel, [], by decide +kernel⟩
theorem zc_25 : zchk zP zM_25 := ⟨by decide +kernel, by decide +kernel, by decide +kernel, [], by decide +kernel⟩
theorem zc_26 : zchk zP zM_26 := ⟨by decide +kernel, by decide +kernel, by decide +kernel, [], by decide +kernel⟩
theorem zc_27 : zchk zP zM_27 := ⟨by decide +kernel, by decide +kernel, by decide +kernel, [428, 501, 210], by decide +kernel⟩
theorem zc_28 : zchk zP zM_28 := ⟨by decide +kernel, by decide +kernel, by decide +kernel, [], by decide +kernel⟩
theorem zc_29 : zchk zP zM_29 := ⟨by decide +kernel, by decide +kernel, by decide +kernel, [], by decide +kernel⟩
theorem zc_30 : zchk zP zM_30 := ⟨by decide +kernel, by decide +kernel, by decide +kernel, [428, 501, 210, 597], by decide +kernel⟩
theorem zc_31 : zchk zP zM_31 := ⟨by decide +kernel, by decide +kernel, by decide +kernel, [], by decide +kernel⟩
theorem zc_32 : zchk zP zM_32 := ⟨by decide +kernel, by decide +kernel, by decide +kernel, [], by decide +kernel⟩
theorem zc_33 : zchk zP zM_33 := ⟨by decide +kernel, by decide +kernel, by decide +kernel, [428, 501, 210, 597, 630], by decide +kernel⟩
theorem zc_34 : zchk zP zM_34 := ⟨by decide +kernel, by decide +kernel, by decide +kernel, [], by decide +kernel⟩
theorem zc_35 : zchk zP zM_35 := ⟨by decide +kernel, by decide +kernel, by decide +kernel, [], by decide +kernel⟩
theorem zc_36 : zchk zP zM_36 := ⟨by decide +kernel, by decide +kernel, by decide +kernel, [428, 501, 210, 597, 630], by decide +kernel⟩
theorem zc_37 : zchk zP zM_37 := ⟨by decide +kernel, by decide +kernel, by decide +kernel, [], by decide +kernel⟩
theorem zc_38 : zchk zP zM_38 := ⟨by decide +kernel, by decide +kernel, by decide +kernel, [], by decide +kernel⟩
theorem zc_39 : zchk zP zM_39 := ⟨by decide +kernel, by decide +kernel, by decide +kernel, [428, 501, 210, 597], by decide +kernel⟩
theorem zc_40 : zchk zP zM_40 := ⟨by decide +kernel, by decide +kernel, by decide +kernel, [], by decide +kernel⟩
theorem zc_41 : zchk zP zM_41 := ⟨by decide +kernel, by decide +kernel, by decide +kernel, [], by decide +kernel⟩
theorem zc_42 : zchk zP zM_42 := ⟨by decide +kernel, by decide +kernel, by decide +kernel, [428, 501, 210, 597], by decide +kernel⟩
theorem zc_43 : zchk zP zM_43 := ⟨by decide +kernel, by decide +kernel, by decide +kernel, [], by decide +kernel⟩
theorem zc_44 : zchk zP zM_44 := ⟨by decide +kernel, by decide +kernel, by decide +kernel, [], by decide +kernel⟩
theorem zc_45 : zchk zP zM_45 := ⟨by decide +kernel, by decide +kernel, by decide +kernel, [428, 210, 630], by decide +kernel⟩
theorem zc_46 : zchk zP zM_46 := ⟨by decide +kernel, by decide +kernel, by decide +kernel, [], by decide +kernel⟩
theorem zc_47 : zchk zP zM_47 := ⟨by decide +kernel, by decide +kernel, by decide +kernel, [], by decide +kernel⟩
theorem zc_48 : zchk zP zM_48 := ⟨by decide +kernel, by decide +kernel, by decide +kernel, [428, 597], by decide +kernel⟩
theorem zc_49 : zchk zP zM_49 := ⟨by decide +kernel, by decide +kernel, by decide +kernel, [], by decide +kernel⟩
theorem zc_50 : zchk zP zM_50 := ⟨by decide +kernel, by decide +kernel, by decide +kernel, [], by decide +kernel⟩
theorem zc_51 : zchk zP zM_51 := ⟨by decide +kernel, by decide +kernel, by decide +kernel, [501, 597], by decide +kernel⟩
theorem zc_52 : zchk zP zM_52 := ⟨by decide +kernel, by decide +kernel, by decide +kernel, [], by decide +kernel⟩
theorem zc_53 : zchk zP zM_53 := ⟨by decide +kernel, by decide +kernel, by decide +kernel, [], by decide +kernel⟩
theorem zc_54 : zchk zP zM_54 := ⟨by decide +kernel, by decide +kernel, by decide +kernel, [], by decide +kernel⟩
theorem zc_55 : zchk zP zM_55 := ⟨by decide +kernel, by decide +kernel, by decide +kernel, [428, 501, 630], by decide +kernel⟩
theorem zc_56 : zchk zP zM_56 := ⟨by decide +kernel, by decide +kernel, by decide +kernel, [], by decide +kernel⟩
theorem zc_57 : zchk zP zM_57 := ⟨by decide +kernel, by decide +kernel, by decide +kernel, [], by decide +kernel⟩
theorem zc_58 : zchk zP zM_58 := ⟨by decide +kernel, by decide +kernel, by decide +kernel, [], by decide +kernel⟩
theorem zc_59 : zchk zP zM_59 := ⟨by decide +kernel, by decide +kernel, by decide +kernel, [], by decide +kernel⟩
theorem zc_60 : zchk zP zM_60 := ⟨by decide +kernel, by decide +kernel, by decide +kernel, [428, 210, 597], by decide +kernel⟩
theorem zc_61 : zchk zP zM_61 := ⟨by decide +kernel, by decide +kernel, by decide +kernel, [], by decide +kernel⟩
theorem zc_62 : zchk zP zM_62 := ⟨by decide +kernel, by decide +kernel, by decide +kernel, [], by decide +kernel⟩
theorem zc_63 : zchk zP zM_63 := ⟨by decide +kernel, by decide +kernel, by decide +kernel, [], by decide +kernel⟩
theorem zc_64 : zchk zP zM_64 := ⟨by decide +kernel, by decide +kernel, by decide +kernel, [], by decide +kernel⟩
theorem zc_65 : zchk zP zM_65 := ⟨by decide +kernel, by decide +kernel, by decide +kernel, [428, 210], by decide +kernel⟩
theorem zc_66 : zchk zP zM_66 := ⟨by decide +kernel, by decide +kernel, by decide +kernel, [], by decide +kernel⟩
theorem zc_67 : zchk zP zM_67 := ⟨by decide +kernel, by decide +kernel, by decide +kernel, [], by decide +kernel⟩
theorem zc_68 : zchk zP zM_68 := ⟨by decide +kernel, by decide +kernel, by decide +kernel, [], by decide +kernel⟩
theorem zc_69 : zchk zP zM_69 := ⟨by decide +kernel, by decide +kernel, by decide +kernel, [], by decide +kernel⟩
theorem zc_70 : zchk zP zM_70 := ⟨by decide +kernel, by decide +kernel, by decide +kernel, [428, 210, 630, 501], by decide +kernel⟩
theorem zc_71 : zchk zP zM_71 := ⟨by decide +kernel, by decide +kernel, by decide +kernel, [], by decide +kernel⟩
theorem zc_72 : zchk zP zM_72 := ⟨by decide +kernel, by decide +kernel, by decide +kernel, [], by decide +kernel⟩
theorem zc_73 : zchk zP zM_73 := ⟨by decide +kernel, by decide +kernel, by decide +kernel, [], by decide +kernel⟩
theorem zc_74 : zchk zP zM_74 := ⟨by decide +kernel, by decide +kernel, by decide +kernel, [428, 210, 630, 597], by decide +kernel⟩
theorem zc_75 : zchk zP zM_75 := ⟨by decide +kernel, by decide +kernel, by decide +kernel, [], by decide +kernel⟩
theorem zc_76 : zchk zP zM_76 := ⟨by decide +kernel, by decide +kernel, by decide +kernel, [], by decide +kernel⟩
theorem zc_77 : zchk zP zM_77 := ⟨by decide +kernel, by decide +kernel, by decide +kernel, [428, 210], by decide +kernel⟩
theorem zc_78 : zchk zP zM_78 := ⟨by decide +kernel, by decide +kernel, by decide +kernel, [], by decide +kernel⟩
theorem zc_79 : zchk zP zM_79 := ⟨by decide +kernel, by decide +kernel, by decide +kernel, [], by decide +kernel⟩
theorem zc_80 : zchk zP zM_80 := ⟨by decide +kernel, by decide +kernel, by decide +kernel, [428, 210, 630], by decide +kernel⟩
theorem zc_81 : zchk zP zM_81 := ⟨by decide +kernel, by decide +kernel, by decide +kernel, [], by decide +kernel⟩
theorem zc_82 : zchk zP zM_82 := ⟨by decide +kernel, by decide +kernel, by decide +kernel, [], by decide +kernel⟩
theorem zc_83 : zchk zP zM_83 := ⟨by decide +kernel, by decide +kernel, by decide +kernel, [428, 210, 597], by decide +kernel⟩
theorem zc_84 : zchk zP zM_84 := ⟨by decide +kernel, by decide +kernel, by decide +kernel, [], by decide +kernel⟩
theorem zc_85 : zchk zP zM_85 := ⟨by decide +kernel, by decide +kernel, by decide +kernel, [], by decide +kernel⟩
theorem zc_86 : zchk zP zM_86 := ⟨by decide +kernel, by decide +kernel, by decide +kernel, [428, 501, 210, 597], by decide +kernel⟩
theorem zc_87 : zchk zP zM_87 := ⟨by decide +kernel, by decide +kernel, by decide +kernel, [], by decide +kernel⟩
theorem zc_88 : zchk zP zM_88 := ⟨by decide +kernel, by decide +kernel, by decide +kernel, [], by decide +kernel⟩
theorem zc_89 : zchk zP zM_89 := ⟨by decide +kernel, by decide +kernel, by decide +kernel, [428, 210, 597], by decide +kernel⟩
theorem zc_90 : zchk zP zM_90 := ⟨by decide +kernel, by decide +kernel, by decide +kernel, [], by decide +kernel⟩
theorem zc_91 : zchk zP zM_91 := ⟨by decide +kernel, by decide +kernel, by decide +kernel, [], by decide +kernel⟩
theorem zc_92 : zchk zP zM_92 := ⟨by decide +kernel, by decide +kernel, by decide +kernel, [428, 210], by decide +kernel⟩
theorem zc_93 : zchk zP zM_93 := ⟨by decide +kernel, by decide +kernel, by decide +kernel, [], by decide +kernel⟩
theorem zc_94 : zchk zP zM_94 := ⟨by decide +kernel, by decide +kernel, by decide +kernel, [], by decide +kernel⟩
theorem zc_95 : zchk zP zM_95 := ⟨by decide +kernel, by decide +kernel, by decide +kernel, [428], by decide +kernel⟩
theorem zc_96 : zchk zP zM_96 := ⟨by decide +kernel, by decide +kernel, by decide +kernel, [], by decide +kernel⟩
theorem zc_97 : zchk zP zM_97 := ⟨by decide +kernel, by decide +kernel, by decide +kernel, [], by decide +kernel⟩
theorem zc_98 : zchk zP zM_98 := ⟨by decide +kernel, by decide +kernel, by decide +kernel, [428], by decide +kernel⟩
theorem zc_99 : zchk zP zM_99 := ⟨by decide +kernel, by decide +kernel, by decide +kernel, [], by decide +kernel⟩
theorem zc_100 : zchk zP zM_100 := ⟨by decide +kernel, by decide +kernel, by decide +kernel, [], by decide +kernel⟩
theorem zc_101 : zchk zP zM_101 := ⟨by decide +kernel, by decide +kernel, by decide +kernel, [], by decide +kernel⟩
theorem zc_102 : zchk zP zM_102 := ⟨by decide +kernel, by decide +kernel, by decide +kernel, [428, 597], by decide +kernel⟩
theorem zc_103 : zchk zP zM_103 := ⟨by decide +kernel, by decide +kernel, by decide +kernel, [], by decide +kernel⟩
theorem zc_104 : zchk zP zM_104 := ⟨by decide +kernel, by decide +kernel, by decide +kernel, [], by decide +kernel⟩
theorem zc_105 : zchk zP zM_105 := ⟨by decide +kernel, by decide +kernel, by decide +kernel, [428], by decide +kernel⟩
theorem zc_106 : zchk zP zM_106 := ⟨by decide +kernel, by decide +kernel, by decide +kernel, [], by decide +kernel⟩
theorem zc_107 : zchk zP zM_107 := ⟨by decide +kernel, by decide +kernel, by decide +kernel, [], by decide +kernel⟩
theorem zc_108 : zchk zP zM_108 := ⟨by decide +kernel, by decide +kernel, by decide +kernel, [428, 210], by decide +kernel⟩
theorem zc_109 : zchk zP zM_109 := ⟨by decide +kernel, by decide +kernel, by decide +kernel, [], by decide +kernel⟩
theorem zc_110 : zchk zP zM_110 := ⟨by decide +kernel, by decide +kernel, by decide +kernel, [], by decide +kernel⟩
theorem zc_111 : zchk zP zM_111 := ⟨by decide +kernel, by decide +kernel, by decide +kernel, [428], by decide +kernel⟩
theorem zc_112 : zchk zP zM_112 := ⟨by decide +kernel, by decide +kernel, by decide +kernel, [], by decide +kernel⟩
theorem zc_113 : zchk zP zM_113 := ⟨by decide +kernel, by decide +kernel, by decide +kernel, [], by decide +kernel⟩
theorem zc_114 : zchk zP zM_114 := ⟨by decide +kernel, by decide +kernel, by decide +kernel, [428, 597], by decide +kernel⟩
theorem zc_115 : zchk zP zM_115 := ⟨by decide +kernel, by decide +kernel, by decide +kernel, [], by decide +kernel⟩
theorem zc_116 : zchk zP zM_116 := ⟨by decide +kernel, by decide +kernel, by decide +kernel, [], by decide +kernel⟩
theorem zc_117 : zchk zP zM_117 := ⟨by decide +kernel, by decide +kernel, by decide +kernel, [], by decide +kernel⟩
theorem zc_118 : zchk zP zM_118 := ⟨by decide +kernel, by decide +kernel, by decide +kernel, [428, 597], by decide +kernel⟩
theorem zc_119 : zchk zP zM_119 := ⟨by decide +kernel, by decide +kernel, by decide +kernel, [], by decide +kernel⟩
theorem zc_120 : zchk zP zM_120 := ⟨by decide +kernel, by decide +kernel, by decide +kernel, [], by decide +kernel⟩
theorem zc_121 : zchk zP zM_121 := ⟨by decide +kernel, by decide +kernel, by decide +kernel, [], by decide +kernel⟩
theorem zc_122 : zchk zP zM_122 := ⟨by decide +kernel, by decide +kernel, by decide +kernel, [], by decide +kernel⟩
theorem zc_123 : zchk zP zM_123 := ⟨by decide +kernel, by decide +kernel, by decide +kernel, [428, 210], by decide +kernel⟩
theorem zc_124 : zchk zP zM_124 := ⟨by decide +kernel, by decide +kernel, by decide +kernel, [], by decide +kernel⟩
theorem zc_125 : zchk zP zM_125 := ⟨by decide +kernel, by decide +kernel, by decide +kernel, [], by decide +kernel⟩
theorem zc_126 : zchk zP zM_126 := ⟨by decide +kernel, by decide +kernel, by decide +kernel, [], by decide +kernel⟩
theorem zc_127 : zchk zP zM_127 := ⟨by decide +kernel, by decide +kernel, by decide +kernel, [], by decide +kernel⟩
theorem zc_128 : zchk zP zM_128 := ⟨by decide +kernel, by decide +kernel, by decide +kernel, [428, 210], by decide +kernel⟩
theorem zc_129 : zchk zP zM_129 := ⟨by decide +kernel, by decide +kernel, by decide +kernel, [], by decide +kernel⟩
theorem zc_130 : zchk zP zM_130 := ⟨by decide +kernel, by decide +kernel, by decide +kernel, [], by decide +kernel⟩
theorem zc_131 : zchk zP zM_131 := ⟨by decide +kernel, by decide +kernel, by decide +kernel, [], by decide +kernel⟩
theorem zc_132 : zchk zP zM_132 := ⟨by decide +kernel, by decide +kernel, by decide +kernel, [428, 210], by decide +kernel⟩
theorem zc_133 : zchk zP zM_133 := ⟨by decide +kernel, by decide +kernel, by decide +kernel, [], by decide +kernel⟩
theorem zc_134 : zchk zP zM_134 := ⟨by decide +kernel, by decide +kernel, by decide +kernel, [], by decide +kernel⟩
theorem zc_135 : zchk zP zM_135 := ⟨by decide +kernel, by decide +kernel, by decide +kernel, [428, 210], by decide +kernel⟩
theorem zc_136 : zchk zP zM_136 := ⟨by decide +kernel, by decide +kernel, by decide +kernel, [], by decide +kernel⟩
theorem zc_137 : zchk zP zM_137 := ⟨by decide +kernel, by decide +kernel, by decide +kernel, [], by decide +kernel⟩
theorem zc_138 : zchk zP zM_138 := ⟨by decide +kernel, by decide +kernel, by decide +kernel, [428, 501, 597], by decide +kernel⟩
theorem zc_139 : zchk zP zM_139 := ⟨by decide +kernel, by decide +kernel, by decide +kernel, [], by decide +kernel⟩
theorem zc_140 : zchk zP zM_140 := ⟨by decide +kernel, by decide +kernel, by decide +kernel, [], by decide +kernel⟩
theorem zc_141 : zchk zP zM_141 := ⟨by decide +kernel, by decide +kernel, by decide +kernel, [], by decide +kernel⟩
theorem zc_142 : zchk zP zM_142 := ⟨by decide +kernel, by decide +kernel, by decide +kernel, [], by decide +kernel⟩
theorem zc_143 : zchk zP zM_143 := ⟨by decide +kernel, by decide +kernel, by decide +kernel, [], by decide +kernel⟩
theorem zc_144 : zchk zP zM_144 := ⟨by decide +kernel, by decide +kernel, by decide +kernel, [], by decide +kernel⟩
theorem zc_145 : zchk zP zM_145 := ⟨by decide +kernel, by decide +kernel, by decide +kernel, [428, 501, 597], by decide +kernel⟩
theorem zc_146 : zchk zP zM_146 := ⟨by decide +kernel, by decide +kernel, by decide +kernel, [], by decide +kernel⟩
theorem zc_147 : zchk zP zM_147 := ⟨by decide +kernel, by decide +kernel, by decide +kernel, [], by decide +kernel⟩
theorem zc_148 : zchk zP zM_148 := ⟨by decide +kernel, by decide +kernel, by decide +kernel, [], by decide +kernel⟩
theorem zc_149 : zchk zP zM_149 := ⟨by decide +kernel, by decide +kernel, by decide +kernel, [428, 501, 597], by decide +kernel⟩
theorem zc_150 : zchk zP zM_150 := ⟨by decide +kernel, by decide +kernel, by decide +kernel, [], by decide +kernel⟩
theorem zc_151 : zchk zP zM_151 := ⟨by decide +kernel, by decide +kernel, by decide +kernel, [501], by decide +kernel⟩
theorem zc_152 : zchk zP zM_152 := ⟨by decide +kernel, by decide +kernel, by decide +kernel, [], by decide +kernel⟩
theorem zc_153 : zchk zP zM_153 := ⟨by decide +kernel, by decide +kernel, by decide +kernel, [], by decide +kernel⟩
theorem zc_154 : zchk zP zM_154 := ⟨by decide +kernel, by decide +kernel, by decide +kernel, [501], by decide +kernel⟩
theorem zc_155 : zchk zP zM_155 := ⟨by decide +kernel, by decide +kernel, by decide +kernel, [], by decide +kernel⟩
theorem zc_156 : zchk zP zM_156 := ⟨by decide +kernel, by decide +kernel, by decide +kernel, [], by decide +kernel⟩
theorem zc_157 : zchk zP zM_157 := ⟨by decide +kernel, by decide +kernel, by decide +kernel, [501], by decide +kernel⟩
theorem zc_158 : zchk zP zM_158 := ⟨by decide +kernel, by decide +kernel, by decide +kernel, [], by decide +kernel⟩
theorem zc_159 : zchk zP zM_159 := ⟨by decide +kernel, by decide +kernel, by decide +kernel, [], by decide +kernel⟩
theorem zc_160 : zchk zP zM_160 := ⟨by decide +kernel, by decide +kernel, by decide +kernel, [428], by decide +kernel⟩
theorem zc_161 : zchk zP zM_161 := ⟨by decide +kernel, by decide +kernel, by decide +kernel, [], by decide +kernel⟩
theorem zc_162 : zchk zP zM_162 := ⟨by decide +kernel, by decide +kernel, by decide +kernel, [], by decide +kernel⟩
theorem zc_163 : zchk zP zM_163 := ⟨by decide +kernel, by decide +kernel, by decide +kernel, [428, 210], by decide +kernel⟩
theorem zc_164 : zchk zP zM_164 := ⟨by decide +kernel, by decide +kernel, by decide +kernel, [], by decide +kernel⟩
theorem zc_165 : zchk zP zM_165 := ⟨by decide +kernel, by decide +kernel, by decide +kernel, [], by decide +kernel⟩
theorem zc_166 : zchk zP zM_166 := ⟨by decide +kernel, by decide +kernel, by decide +kernel, [501], by decide +kernel⟩
theorem zc_167 : zchk zP zM_167 := ⟨by decide +kernel, by decide +kernel, by decide +kernel, [], by decide +kernel⟩
theorem zc_168 : zchk zP zM_168 := ⟨by decide +kernel, by decide +kernel, by decide +kernel, [], by decide +kernel⟩
theorem zc_169 : zchk zP zM_169 := ⟨by decide +kernel, by decide +kernel, by decide +kernel, [], by decide +kernel⟩
theorem zc_170 : zchk zP zM_170 := ⟨by decide +kernel, by decide +kernel, by decide +kernel, [], by decide +kernel⟩
theorem zc_171 : zchk zP zM_171 := ⟨by decide +kernel, by decide +kernel, by decide +kernel, [], by decide +kernel⟩
theorem zc_172 : zchk zP zM_172 := ⟨by decide +kernel, by decide +kernel, by decide +kernel, [501, 1483], by decide +kernel⟩
theorem zc_173 : zchk zP zM_173 := ⟨by decide +kernel, by decide +kernel, by decide +kernel, [], by decide +kernel⟩
theorem zc_174 : zchk zP zM_174 := ⟨by decide +kernel, by decide +kernel, by decide +kernel, [], by decide +kernel⟩
theorem zc_175 : zchk zP zM_175 := ⟨by decide +kernel, by decide +kernel, by decide +kernel, [1483], by decide +kernel⟩
theorem zc_176 : zchk zP zM_176 := ⟨by decide +kernel, by decide +kernel, by decide +kernel, [], by decide +kernel⟩
theorem zc_177 : zchk zP zM_177 := ⟨by decide +kernel, by decide +kernel, by decide +kernel, [], by decide +kernel⟩
theorem zc_178 : zchk zP zM_178 := ⟨by decide +kernel, by decide +kernel, by decide +kernel, [428], by decide +kernel⟩
theorem zc_179 : zchk zP zM_179 := ⟨by decide +kernel, by decide +kernel, by decide +kernel, [], by decide +kernel⟩
theorem zc_180 : zchk zP zM_180 := ⟨by decide +kernel, by decide +kernel, by decide +kernel, [], by decide +kernel⟩
set_option maxRecDepth 100000 in
theorem zc_P : ∀ M ∈ zP, zchk zP M := List.forall_mem_cons.mpr ⟨zc_0, List.forall_mem_cons.mpr ⟨zc_1, List.forall_mem_cons.mpr ⟨zc_2, List.forall_mem_cons.mpr ⟨zc_3, List.forall_mem_cons.mpr ⟨zc_4, List.forall_mem_cons.mpr ⟨zc_5, List.forall_mem_cons.mpr ⟨zc_6, List.forall_mem_cons.mpr ⟨zc_7, List.forall_mem_cons.mpr ⟨zc_8, List.forall_mem_cons.mpr ⟨zc_9, List.forall_mem_cons.mpr ⟨zc_10, List.forall_mem_cons.mpr ⟨zc_11, List.forall_mem_cons.mpr ⟨zc_12, List.forall_mem_cons.mpr ⟨zc_13, List.forall_mem_cons.mpr ⟨zc_14, List.forall_mem_cons.mpr ⟨zc_15, List.forall_mem_cons.mpr ⟨zc_16, List.forall_mem_cons.mpr ⟨zc_17, List.forall_mem_cons.mpr ⟨zc_18, List.forall_mem_cons.mpr ⟨zc_19, List.forall_mem_cons.mpr ⟨zc_20, List.forall_mem_cons.mpr ⟨zc_21, List.forall_mem_cons.mpr ⟨zc_22, List.forall_mem_cons.mpr ⟨zc_23, List.forall_mem_cons.mpr ⟨zc_24, List.forall_mem_cons.mpr ⟨zc_25, List.forall_mem_cons.mpr ⟨zc_26, List.forall_mem_cons.mpr ⟨zc_27, List.forall_mem_cons.mpr ⟨zc_28, List.forall_mem_cons.mpr ⟨zc_29, List.forall_mem_cons.mpr ⟨zc_30, List.forall_mem_cons.mpr ⟨zc_31, List.forall_mem_cons.mpr ⟨zc_32, List.forall_mem_cons.mpr ⟨zc_33, List.forall_mem_cons.mpr ⟨zc_34, List.forall_mem_cons.mpr ⟨zc_35, List.forall_mem_cons.mpr ⟨zc_36, List.forall_mem_cons.mpr ⟨zc_37, List.forall_mem_cons.mpr ⟨zc_38, List.forall_mem_cons.mpr ⟨zc_39, List.forall_mem_cons.mpr ⟨zc_40, List.forall_mem_cons.mpr ⟨zc_41, List.forall_mem_cons.mpr ⟨zc_42, List.forall_mem_cons.mpr ⟨zc_43, List.forall_mem_cons.mpr ⟨zc_44, List.forall_mem_cons.mpr ⟨zc_45, List.forall_mem_cons.mpr ⟨zc_46, List.forall_mem_cons.mpr ⟨zc_47, List.forall_mem_cons.mpr ⟨zc_48, List.forall_mem_cons.mpr ⟨zc_49, List.forall_mem_cons.mpr ⟨zc_50, List.forall_mem_cons.mpr ⟨zc_51, List.forall_mem_cons.mpr ⟨zc_52, List.forall_mem_cons.mpr ⟨zc_53, List.forall_mem_cons.mpr ⟨zc_54, List.forall_mem_cons.mpr ⟨zc_55, List.forall_mem_cons.mpr ⟨zc_56, List.forall_mem_cons.mpr ⟨zc_57, List.forall_mem_cons.mpr ⟨zc_58, List.forall_mem_cons.mpr ⟨zc_59, List.forall_mem_cons.mpr ⟨zc_60, List.forall_mem_cons.mpr ⟨zc_61, List.forall_mem_cons.mpr ⟨zc_62, List.forall_mem_cons.mpr ⟨zc_63, List.forall_mem_cons.mpr ⟨zc_64, List.forall_mem_cons.mpr ⟨zc_65, List.forall_mem_cons.mpr ⟨zc_66, List.forall_mem_cons.mpr ⟨zc_67, List.forall_mem_cons.mpr ⟨zc_68, List.forall_mem_cons.mpr ⟨zc_69, List.forall_mem_cons.mpr ⟨zc_70, List.forall_mem_cons.mpr ⟨zc_71, List.forall_mem_cons.mpr ⟨zc_72, List.forall_mem_cons.mpr ⟨zc_73, List.forall_mem_cons.mpr ⟨zc_74, List.forall_mem_cons.mpr ⟨zc_75, List.forall_mem_cons.mpr ⟨zc_76, List.forall_mem_cons.mpr ⟨zc_77, List.forall_mem_cons.mpr ⟨zc_78, List.forall_mem_cons.mpr ⟨zc_79, List.forall_mem_cons.mpr ⟨zc_80, List.forall_mem_cons.mpr ⟨zc_81, List.forall_mem_cons.mpr ⟨zc_82, List.forall_mem_cons.mpr ⟨zc_83, List.forall_mem_cons.mpr ⟨zc_84, List.forall_mem_cons.mpr ⟨zc_85, List.forall_mem_cons.mpr ⟨zc_86, List.forall_mem_cons.mpr ⟨zc_87, List.forall_mem_cons.mpr ⟨zc_88, List.forall_mem_cons.mpr ⟨zc_89, List.forall_mem_cons.mpr ⟨zc_90, List.forall_mem_cons.mpr ⟨zc_91, List.forall_mem_cons.mpr ⟨zc_92, List.forall_mem_cons.mpr ⟨zc_93, List.forall_mem_cons.mpr ⟨zc_94, List.forall_mem_cons.mpr ⟨zc_95, List.forall_mem_cons.mpr ⟨zc_96, List.forall_mem_cons.mpr ⟨zc_97, List.forall_mem_cons.mpr ⟨zc_98, List.forall_mem_cons.mpr ⟨zc_99, List.forall_mem_cons.mpr ⟨zc_100, List.forall_mem_cons.mpr ⟨zc_101, List.forall_mem_cons.mpr ⟨zc_102, List.forall_mem_cons.mpr ⟨zc_103, List.forall_mem_cons.mpr ⟨zc_104, List.forall_mem_cons.mpr ⟨zc_105, List.forall_mem_cons.mpr ⟨zc_106, List.forall_mem_cons.mpr ⟨zc_107, List.forall_mem_cons.mpr ⟨zc_108, List.forall_mem_cons.mpr ⟨zc_109, List.forall_mem_cons.mpr ⟨zc_110, List.forall_mem_cons.mpr ⟨zc_111, List.forall_mem_cons.mpr ⟨zc_112, List.forall_mem_cons.mpr ⟨zc_113, List.forall_mem_cons.mpr ⟨zc_114, List.forall_mem_cons.mpr ⟨zc_115, List.forall_mem_cons.mpr ⟨zc_116, List.forall_mem_cons.mpr ⟨zc_117, List.forall_mem_cons.mpr ⟨zc_118, List.forall_mem_cons.mpr ⟨zc_119, List.forall_mem_cons.mpr ⟨zc_120, List.forall_mem_cons.mpr ⟨zc_121, List.forall_mem_cons.mpr ⟨zc_122, List.forall_mem_cons.mpr ⟨zc_123, List.forall_mem_cons.mpr ⟨zc_124, List.forall_mem_cons.mpr ⟨zc_125, List.forall_mem_cons.mpr ⟨zc_126, List.forall_mem_cons.mpr ⟨zc_127, List.forall_mem_cons.mpr ⟨zc_128, List.forall_mem_cons.mpr ⟨zc_129, List.forall_mem_cons.mpr ⟨zc_130, List.forall_mem_cons.mpr ⟨zc_131, List.forall_mem_cons.mpr ⟨zc_132, List.forall_mem_cons.mpr ⟨zc_133, List.forall_mem_cons.mpr ⟨zc_134, List.forall_mem_cons.mpr ⟨zc_135, List.forall_mem_cons.mpr ⟨zc_136, List.forall_mem_cons.mpr ⟨zc_137, List.forall_mem_cons.mpr ⟨zc_138, List.forall_mem_cons.mpr ⟨zc_139, List.forall_mem_cons.mpr ⟨zc_140, List.forall_mem_cons.mpr ⟨zc_141, List.forall_mem_cons.mpr ⟨zc_142, List.forall_mem_cons.mpr ⟨zc_143, List.forall_mem_cons.mpr ⟨zc_144, List.forall_mem_cons.mpr ⟨zc_145, List.forall_mem_cons.mpr ⟨zc_146, List.forall_mem_cons.mpr ⟨zc_147, List.forall_mem_cons.mpr ⟨zc_148, List.forall_mem_cons.mpr ⟨zc_149, List.forall_mem_cons.mpr ⟨zc_150, List.forall_mem_cons.mpr ⟨zc_151, List.forall_mem_cons.mpr ⟨zc_152, List.forall_mem_cons.mpr ⟨zc_153, List.forall_mem_cons.mpr ⟨zc_154, List.forall_mem_cons.mpr ⟨zc_155, List.forall_mem_cons.mpr ⟨zc_156, List.forall_mem_cons.mpr ⟨zc_157, List.forall_mem_cons.mpr ⟨zc_158, List.forall_mem_cons.mpr ⟨zc_159, List.forall_mem_cons.mpr ⟨zc_160, List.forall_mem_cons.mpr ⟨zc_161, List.forall_mem_cons.mpr ⟨zc_162, List.forall_mem_cons.mpr ⟨zc_163, List.forall_mem_cons.mpr ⟨zc_164, List.forall_mem_cons.mpr ⟨zc_165, List.forall_mem_cons.mpr ⟨zc_166, List.forall_mem_cons.mpr ⟨zc_167, List.forall_mem_cons.mpr ⟨zc_168, List.forall_mem_cons.mpr ⟨zc_169, List.forall_mem_cons.mpr ⟨zc_170, List.forall_mem_cons.mpr ⟨zc_171, List.forall_mem_cons.mpr ⟨zc_172, List.forall_mem_cons.mpr ⟨zc_173, List.forall_mem_cons.mpr ⟨zc_174, List.forall_mem_cons.mpr ⟨zc_175, List.forall_mem_cons.mpr ⟨zc_176, List.forall_mem_cons.mpr ⟨zc_177, List.forall_mem_cons.mpr ⟨zc_178, List.forall_mem_cons.mpr ⟨zc_179, List.forall_mem_cons.mpr ⟨zc_180, fun _ h => absurd h List.not_mem_nil⟩⟩⟩⟩⟩⟩⟩⟩⟩⟩⟩⟩⟩⟩⟩⟩⟩⟩⟩⟩⟩⟩⟩⟩⟩⟩⟩⟩⟩⟩⟩⟩⟩⟩⟩⟩⟩⟩⟩⟩⟩⟩⟩⟩⟩⟩⟩⟩⟩⟩⟩⟩⟩⟩⟩⟩⟩⟩⟩⟩⟩⟩⟩⟩⟩⟩⟩⟩⟩⟩⟩⟩⟩⟩⟩⟩⟩⟩⟩⟩⟩⟩⟩⟩⟩⟩⟩⟩⟩⟩⟩⟩⟩⟩⟩⟩⟩⟩⟩⟩⟩⟩⟩⟩⟩⟩⟩⟩⟩⟩⟩⟩⟩⟩⟩⟩⟩⟩⟩⟩⟩⟩⟩⟩⟩⟩⟩⟩⟩⟩⟩⟩⟩⟩⟩⟩⟩⟩⟩⟩⟩⟩⟩⟩⟩⟩⟩⟩⟩⟩⟩⟩⟩⟩⟩⟩⟩⟩⟩⟩⟩⟩⟩⟩⟩⟩⟩⟩⟩⟩⟩⟩⟩⟩⟩⟩⟩⟩⟩⟩⟩
end
section
/-! AN INSTRUCTION OF A LONG CODE, read out of a window of it -/
def zSh (A B : ByteArray) (n k : Nat) {α : Type} (d d1 : Decoder α) : Prop := ∀ (a : α) (j : Nat), Reader.runAt d1 B k = .ok (a, j) → Reader.runAt d A (n + k) = .ok (a, n + j)
theorem zSh_pure {A B : ByteArray} {n k : Nat} {α : Type} (x : α) : zSh A B n k (pure x) (pure x) := by
  intro a j h
  have h : (Except.ok (x, k) : Except DecodeError (α × Nat)) = .ok (a, j) := h
  cases h
  rfl
theorem zrun_bind {α β : Type} (d : Decoder α) (f : α → Decoder β) (B : ByteArray) (k : Nat) : Reader.runAt (d >>= f) B k = (Reader.runAt d B k).bind fun q => Reader.runAt (f q.1) B q.2 := rfl
theorem zSh_bind {A B : ByteArray} {n k : Nat} {α β : Type} {d d1 : Decoder α} {f f1 : α → Decoder β} (h1 : zSh A B n k d d1) (h2 : ∀ (a : α) (j : Nat), Reader.runAt d1 B k = .ok (a, j) → zSh A B n j (f a) (f1 a)) : zSh A B n k (d >>= f) (d1 >>= f1) := by
  intro b j h
  rw [zrun_bind] at h ⊢
  cases hq : Reader.runAt d1 B k with
  | error e => rw [hq] at h; cases h
  | ok q =>
    obtain ⟨a, i⟩ := q
    rw [hq] at h
    rw [h1 a i hq]
    exact h2 a i hq b j h
theorem zrun_map {α β : Type} (g : α → β) (d : Decoder α) (B : ByteArray) (k : Nat) : Reader.runAt (g <$> d) B k = (Reader.runAt d B k).bind fun q => .ok (g q.1, q.2) := rfl
theorem zSh_map {A B : ByteArray} {n k : Nat} {α β : Type} {d d1 : Decoder α} (g : α → β) (h1 : zSh A B n k d d1) : zSh A B n k (g <$> d) (g <$> d1) := by
  intro b j h
  rw [zrun_map] at h ⊢
  cases hq : Reader.runAt d1 B k with
  | error e => rw [hq] at h; cases h
  | ok q =>
    obtain ⟨a, i⟩ := q
    rw [hq] at h
    rw [h1 a i hq]
    cases h
    rfl
def zWin (A B : ByteArray) (n : Nat) : Prop := (A.data.toList.drop n).take 160 = B.data.toList
theorem zwin_get {A B : ByteArray} {n k : Nat} (h : zWin A B n) (hk : k < B.size) : ∃ h9 : n + k < A.size, A[n + k]'h9 = B[k]'hk := by
  have hk2 : k < B.data.toList.length := by rw [Array.length_toList]; exact hk
  have e1 : B.data.toList[k]? = some (B.data.toList[k]'hk2) := List.getElem?_eq_getElem hk2
  have e2 : ((A.data.toList.drop n).take 160)[k]? = some (B.data.toList[k]'hk2) := by
    rw [show (A.data.toList.drop n).take 160 = B.data.toList from h]
    exact e1
  have hk3 : k < 160 := by
    obtain ⟨hl, -⟩ := List.getElem?_eq_some_iff.mp e2
    rw [List.length_take] at hl
    omega
  rw [List.getElem?_take_of_lt hk3, List.getElem?_drop] at e2
  obtain ⟨hl, he⟩ := List.getElem?_eq_some_iff.mp e2
  have hl2 : n + k < A.size := by rw [Array.length_toList] at hl; exact hl
  refine ⟨hl2, ?_⟩
  show A.data[n + k]'hl2 = B.data[k]'hk
  rw [← Array.getElem_toList, ← Array.getElem_toList]
  exact he
theorem zu1_ok {B : ByteArray} {k : Nat} (h : k < B.size) : Reader.runAt (Reader.u1 : Decoder Nat) B k = .ok ((B[k]'h).toNat, k + 1) := by
  have e : Reader.runAt (Reader.u1 : Decoder Nat) B k = (if h : k < B.size then (do set (k + 1); pure (B[k]'h).toNat : Decoder Nat) else throw (HasTruncated.truncated k)) B k := rfl
  rw [e, dif_pos h]
  rfl
theorem zu1_no {B : ByteArray} {k : Nat} (h : ¬ k < B.size) : ∃ e9, Reader.runAt (Reader.u1 : Decoder Nat) B k = .error e9 := by
  have e : Reader.runAt (Reader.u1 : Decoder Nat) B k = (if h : k < B.size then (do set (k + 1); pure (B[k]'h).toNat : Decoder Nat) else throw (HasTruncated.truncated k)) B k := rfl
  rw [e, dif_neg h]
  exact ⟨_, rfl⟩
theorem zSh_u1 {A B : ByteArray} {n k : Nat} (h : zWin A B n) : zSh A B n k (Reader.u1 : Decoder Nat) Reader.u1 := by
  intro a j hj
  by_cases hk : k < B.size
  · rw [zu1_ok hk] at hj
    cases hj
    obtain ⟨h9, he⟩ := zwin_get h hk
    rw [zu1_ok h9, he]
    rfl
  · obtain ⟨e9, he⟩ := zu1_no hk
    rw [he] at hj
    cases hj
theorem zSh_u2 {A B : ByteArray} {n k : Nat} (h : zWin A B n) : zSh A B n k (Reader.u2 : Decoder Nat) Reader.u2 := zSh_bind (zSh_u1 h) fun _ _ _ => zSh_bind (zSh_u1 h) fun _ _ _ => zSh_pure _
theorem zSh_s1 {A B : ByteArray} {n k : Nat} (h : zWin A B n) : zSh A B n k (Reader.s1 : Decoder Int) Reader.s1 := zSh_map _ (zSh_u1 h)
theorem zSh_s2 {A B : ByteArray} {n k : Nat} (h : zWin A B n) : zSh A B n k (Reader.s2 : Decoder Int) Reader.s2 := zSh_map _ (zSh_u2 h)
def zops : List Nat := [0, 1, 3, 4, 5, 6, 7, 8, 9, 10, 16, 21, 22, 25, 26, 27, 28, 29, 42, 43, 44, 45, 46, 47, 54, 55, 56, 57, 58, 75, 76, 77, 78, 89, 96, 100, 126, 132, 133, 146, 148, 153, 154, 159, 160, 161, 162, 163, 164, 167, 172, 182, 183, 184, 190]
def zuse (B : ByteArray) (k : Nat) : Bool := match Reader.runAt (Reader.u1 : Decoder Nat) B k with
  | .ok q => zops.contains q.1
  | .error _ => false
theorem zuse_op {B : ByteArray} {k a j : Nat} (hu : zuse B k = true) (h : Reader.runAt (Reader.u1 : Decoder Nat) B k = .ok (a, j)) : a ∈ zops := by
  unfold zuse at hu
  rw [h] at hu
  simpa using hu
set_option maxHeartbeats 4000000 in
theorem zSh_instr {A B : ByteArray} {n k : Nat} (h : zWin A B n) (hu : zuse B k = true) : zSh A B n k (Decoder.instr (n + k)) (Decoder.instr k) := by
  unfold Decoder.instr
  refine zSh_bind (zSh_u1 h) ?_
  intro a j hj
  have ha := zuse_op hu hj
  simp only [zops, List.mem_cons, List.not_mem_nil, or_false] at ha
  rcases ha with rfl | rfl | rfl | rfl | rfl | rfl | rfl | rfl | rfl | rfl | rfl | rfl | rfl | rfl | rfl | rfl | rfl | rfl | rfl | rfl | rfl | rfl | rfl | rfl | rfl | rfl | rfl | rfl | rfl | rfl | rfl | rfl | rfl | rfl | rfl | rfl | rfl | rfl | rfl | rfl | rfl | rfl | rfl | rfl | rfl | rfl | rfl | rfl | rfl | rfl | rfl | rfl | rfl | rfl | rfl
  · exact zSh_pure _
  · exact zSh_pure _
  · exact zSh_pure _
  · exact zSh_pure _
  · exact zSh_pure _
  · exact zSh_pure _
  · exact zSh_pure _
  · exact zSh_pure _
  · exact zSh_pure _
  · exact zSh_pure _
  · exact zSh_bind (zSh_s1 h) fun _ _ _ => zSh_pure _
  · exact zSh_bind (zSh_u1 h) fun _ _ _ => zSh_pure _
  · exact zSh_bind (zSh_u1 h) fun _ _ _ => zSh_pure _
  · exact zSh_bind (zSh_u1 h) fun _ _ _ => zSh_pure _
  · exact zSh_pure _
  · exact zSh_pure _
  · exact zSh_pure _
  · exact zSh_pure _
  · exact zSh_pure _
  · exact zSh_pure _
  · exact zSh_pure _
  · exact zSh_pure _
  · exact zSh_pure _
  · exact zSh_pure _
  · exact zSh_bind (zSh_u1 h) fun _ _ _ => zSh_pure _
  · exact zSh_bind (zSh_u1 h) fun _ _ _ => zSh_pure _
  · exact zSh_bind (zSh_u1 h) fun _ _ _ => zSh_pure _
  · exact zSh_bind (zSh_u1 h) fun _ _ _ => zSh_pure _
  · exact zSh_bind (zSh_u1 h) fun _ _ _ => zSh_pure _
  · exact zSh_pure _
  · exact zSh_pure _
  · exact zSh_pure _
  · exact zSh_pure _
  · exact zSh_pure _
  · exact zSh_pure _
  · exact zSh_pure _
  · exact zSh_pure _
  · exact zSh_bind (zSh_u1 h) fun _ _ _ => zSh_bind (zSh_s1 h) fun _ _ _ => zSh_pure _
  · exact zSh_pure _
  · exact zSh_pure _
  · exact zSh_pure _
  · exact zSh_bind (zSh_s2 h) fun _ _ _ => zSh_pure _
  · exact zSh_bind (zSh_s2 h) fun _ _ _ => zSh_pure _
  · exact zSh_bind (zSh_s2 h) fun _ _ _ => zSh_pure _
  · exact zSh_bind (zSh_s2 h) fun _ _ _ => zSh_pure _
  · exact zSh_bind (zSh_s2 h) fun _ _ _ => zSh_pure _
  · exact zSh_bind (zSh_s2 h) fun _ _ _ => zSh_pure _
  · exact zSh_bind (zSh_s2 h) fun _ _ _ => zSh_pure _
  · exact zSh_bind (zSh_s2 h) fun _ _ _ => zSh_pure _
  · exact zSh_bind (zSh_s2 h) fun _ _ _ => zSh_pure _
  · exact zSh_pure _
  · exact zSh_bind (zSh_u2 h) fun _ _ _ => zSh_pure _
  · exact zSh_bind (zSh_u2 h) fun _ _ _ => zSh_pure _
  · exact zSh_bind (zSh_u2 h) fun _ _ _ => zSh_pure _
  · exact zSh_pure _
theorem zdec {A B : ByteArray} {n k len : Nat} {i : Instr} (h : zWin A B n) (hu : zuse B k = true) (hd : decode B k = .ok (i, len)) : decode A (n + k) = .ok (i, len) := by
  have e : ∀ (b : ByteArray) (q : Nat), decode b q = (Reader.runAt (Decoder.instr q) b q).bind fun z => .ok (z.1, z.2 - q) := fun _ _ => rfl
  rw [e] at hd ⊢
  cases hq : Reader.runAt (Decoder.instr k) B k with
  | error e9 => rw [hq] at hd; cases hd
  | ok z =>
    obtain ⟨a, j⟩ := z
    rw [hq] at hd
    rw [zSh_instr h hu a j hq]
    have hd : (Except.ok (a, j - k) : Except DecodeError (Instr × Nat)) = .ok (i, len) := hd
    cases hd
    show (Except.ok (_, n + j - (n + k)) : Except DecodeError (Instr × Nat)) = Except.ok (_, j - k)
    rw [Nat.add_sub_add_left]
theorem zand {a b : Bool} (h : (a && b) = true) : a = true ∧ b = true := by simpa using h
theorem zandI {a b : Bool} (h1 : a = true) (h2 : b = true) : (a && b) = true := by rw [h1, h2]; rfl
theorem zor {a b : Bool} (h : (a || b) = true) : a = true ∨ b = true := by simpa using h
def zsb (M : zMeth) (b : ByteArray) : zMeth := (M.1, b, M.2.2)
theorem zchkC_d {P : List zMeth} {M : zMeth} {pc k : Nat} {x : List Nat} {b : ByteArray} (h : zchkC P (zsb M b) k x = true) (hd : ∀ i : Instr, decode b k = .ok (i, 3) → decode (zm_b M) pc = .ok (i, 3)) : zchkC P M pc x = true := by
  unfold zchkC at h ⊢
  cases hz : zat P (zx x 2) with
  | none => rw [hz] at h; cases h
  | some M1 =>
    rw [hz] at h
    dsimp only at h ⊢
    have h1 := zand h
    have h2 := zand h1.2
    refine zandI h1.1 (zandI h2.1 ?_)
    have h3 := h2.2
    revert h3
    generalize zx x 1 = kind
    match kind with
    | 0 => exact fun h3 => zandI (decide_eq_true (hd _ (of_decide_eq_true (zand h3).1))) (zand h3).2
    | 1 => exact fun h3 => zandI (decide_eq_true (hd _ (of_decide_eq_true (zand h3).1))) (zand h3).2
    | 2 => exact fun h3 => zandI (decide_eq_true (hd _ (of_decide_eq_true (zand h3).1))) (zand h3).2
    | 3 => exact fun h3 => zandI (decide_eq_true (hd _ (of_decide_eq_true (zand h3).1))) (zand h3).2
    | 4 => exact fun h3 => zandI (decide_eq_true (hd _ (of_decide_eq_true (zand h3).1))) (zand h3).2
    | k9 + 5 => exact fun h3 => h3
/-- a row of the law, its instruction read out of the window it lies in -/
def zchkJ (P : List zMeth) (M : zMeth) (b : ByteArray) (k : Nat) (i : zIns) : Bool := zuse b k && (match i.2.1 with
  | 0 => zchkR (zsb M b) k i.2.2
  | 1 => false
  | 2 => zchkC P (zsb M b) k i.2.2
  | Nat.succ (Nat.succ (Nat.succ o)) => match zat zopT o with
    | some q => decide (decode b k = .ok (q.1 i.1 i.2.2, q.2.1)) && q.2.2.1 M i.2.2
    | none => false)
theorem zchkJ_ok {P : List zMeth} {M : zMeth} {b : ByteArray} {n k : Nat} {i : zIns} (h : zchkJ P M b k i = true) (hw : zWin (zm_b M) b n) (hn : i.1 = n + k) : zchkI P M i = true := by
  obtain ⟨hu, h⟩ := zand h
  obtain ⟨pc, op, x⟩ := i
  have hn : pc = n + k := hn
  subst hn
  match op, h with
  | 0, h =>
    have h : (Nat.beq (zx x 0) (zm_rt M) && (Nat.beq (zx x 0) 9 || decide (decode b k = .ok (zretI (zx x 0), 1)))) = true := h
    have h1 := zand h
    show (Nat.beq (zx x 0) (zm_rt M) && (Nat.beq (zx x 0) 9 || decide (decode (zm_b M) (n + k) = .ok (zretI (zx x 0), 1)))) = true
    rcases zor h1.2 with h2 | h2
    · rw [h1.1, h2]; rfl
    · rw [h1.1, decide_eq_true (zdec hw hu (of_decide_eq_true h2)), Bool.or_true]; rfl
  | 1, h => cases h
  | 2, h => exact zchkC_d (show zchkC P (zsb M b) k x = true from h) fun i9 h9 => zdec hw hu h9
  | o + 3, h =>
    have h : (match zat zopT o with
      | some q => decide (decode b k = .ok (q.1 (n + k) x, q.2.1)) && q.2.2.1 M x
      | none => false) = true := h
    show (match zat zopT o with
      | some q => decide (decode (zm_b M) (n + k) = .ok (q.1 (n + k) x, q.2.1)) && q.2.2.1 M x
      | none => false) = true
    cases hz : zat zopT o with
    | none => rw [hz] at h; cases h
    | some q =>
      rw [hz] at h
      have h1 := zand h
      exact zandI (decide_eq_true (zdec hw hu (of_decide_eq_true h1.1))) h1.2
/-- the rows by their windows of 128 bytes; those of the first two as they stand -/
def zchkK (P : List zMeth) (M : zMeth) (W9 : List ByteArray) (i : zIns) : Bool := cond (Nat.blt i.1 256) (zchkI P M i) (match zat W9 (i.1 / 128) with
  | some b => zchkJ P M b (i.1 % 128) i
  | none => false)
theorem zchkK_ok {P : List zMeth} {M : zMeth} {W9 : List ByteArray} (hw : ∀ j b, W9[j]? = some b → zWin (zm_b M) b (128 * j)) {i : zIns} (h : zchkK P M W9 i = true) : zchkI P M i = true := by
  unfold zchkK at h
  cases hb : Nat.blt i.1 256 with
  | true => rw [hb] at h; exact h
  | false =>
    rw [hb] at h
    dsimp only [cond] at h
    cases hz : zat W9 (i.1 / 128) with
    | none => rw [hz] at h; cases h
    | some b =>
      rw [hz] at h
      rw [zat_eq] at hz
      exact zchkJ_ok h (hw _ _ hz) (Nat.div_add_mod _ _).symm
end
section
/-! the same of the law -/
set_option maxRecDepth 100000 in
theorem zc_a : zchk zP zMa := ⟨by decide +kernel, by decide +kernel, by decide +kernel, [], by decide +kernel⟩
def zw_0 : ByteArray := ⟨#[0xbb, 0x00, 0x08, 0x59, 0xb7, 0x00, 0xaf, 0x4c, 0xbb, 0x00, 0xb0, 0x59, 0xb7, 0x00, 0xb2, 0x4d, 0x04, 0xbc, 0x0b, 0x4e, 0x04, 0xbc, 0x07, 0x3a, 0x04, 0x03, 0x36, 0x05, 0x15, 0x05, 0x2a, 0xbe, 0x10, 0x07, 0x64, 0xa3, 0x0d, 0x7d, 0x2a, 0x15, 0x05, 0x2e, 0x10, 0x3f, 0x7e, 0xaa, 0x00, 0x00, 0x00, 0x00, 0x0d, 0x6d, 0x00, 0x00, 0x00, 0x00, 0x00, 0x00, 0x00, 0x2e, 0x00, 0x00, 0x00, 0xcb, 0x00, 0x00, 0x00, 0xf7, 0x00, 0x00, 0x01, 0x2f, 0x00, 0x00, 0x01, 0x97, 0x00, 0x00, 0x02, 0x01, 0x00, 0x00, 0x02, 0x6b, 0x00, 0x00, 0x02, 0xd5, 0x00, 0x00, 0x03, 0x4b, 0x00, 0x00, 0x03, 0xb3, 0x00, 0x00, 0x03, 0xeb, 0x00, 0x00, 0x04, 0x23, 0x00, 0x00, 0x04, 0x5b, 0x00, 0x00, 0x04, 0x9f, 0x00, 0x00, 0x04, 0xe3, 0x00, 0x00, 0x05, 0x1b, 0x00, 0x00, 0x05, 0x6b, 0x00, 0x00, 0x05, 0xaf, 0x00, 0x00, 0x05, 0xe7, 0x00, 0x00, 0x06, 0x1f, 0x00, 0x00, 0x06, 0x63, 0x00, 0x00, 0x06, 0xb3, 0x00, 0x00, 0x06, 0xf7, 0x00, 0x00, 0x07, 0x2f, 0x00, 0x00, 0x07, 0x67, 0x00, 0x00, 0x07, 0xb2]⟩
def zw_1 : ByteArray := ⟨#[0x00, 0x00, 0x05, 0xe7, 0x00, 0x00, 0x06, 0x1f, 0x00, 0x00, 0x06, 0x63, 0x00, 0x00, 0x06, 0xb3, 0x00, 0x00, 0x06, 0xf7, 0x00, 0x00, 0x07, 0x2f, 0x00, 0x00, 0x07, 0x67, 0x00, 0x00, 0x07, 0xb2, 0x00, 0x00, 0x07, 0xf6, 0x00, 0x00, 0x08, 0x3a, 0x00, 0x00, 0x08, 0x72, 0x00, 0x00, 0x08, 0xbd, 0x00, 0x00, 0x09, 0x01, 0x00, 0x00, 0x09, 0x45, 0x00, 0x00, 0x09, 0x89, 0x00, 0x00, 0x09, 0xcd, 0x00, 0x00, 0x0a, 0x11, 0x00, 0x00, 0x0a, 0x55, 0x00, 0x00, 0x0a, 0x99, 0x00, 0x00, 0x0a, 0xdd, 0x00, 0x00, 0x0b, 0x21, 0x00, 0x00, 0x0b, 0x58, 0x00, 0x00, 0x0b, 0x8f, 0x00, 0x00, 0x0b, 0xc7, 0x00, 0x00, 0x0c, 0x22, 0x00, 0x00, 0x0c, 0x5a, 0x00, 0x00, 0x0c, 0x92, 0x00, 0x00, 0x0c, 0x9f, 0x00, 0x00, 0x0c, 0xec, 0x00, 0x00, 0x0d, 0x2e, 0x2b, 0x2d, 0xb8, 0x00, 0xb3, 0x36, 0x06, 0x2c, 0xb6, 0x00, 0xb8, 0x36, 0x07, 0x2c, 0xb6, 0x00, 0xb9, 0x15, 0x06, 0x9f, 0x00, 0x05, 0x03, 0xac, 0x15, 0x06, 0x9a, 0x00, 0x0f, 0x2d, 0x03, 0x2f, 0x15, 0x07, 0x85, 0x94, 0x99, 0x00, 0x05, 0x03]⟩
def zw_2 : ByteArray := ⟨#[0xb6, 0x00, 0xb8, 0x36, 0x07, 0x2c, 0xb6, 0x00, 0xb9, 0x15, 0x06, 0x9f, 0x00, 0x05, 0x03, 0xac, 0x15, 0x06, 0x9a, 0x00, 0x0f, 0x2d, 0x03, 0x2f, 0x15, 0x07, 0x85, 0x94, 0x99, 0x00, 0x05, 0x03, 0xac, 0xa7, 0x0c, 0x79, 0x2b, 0x2a, 0x15, 0x05, 0x04, 0x60, 0x2e, 0x2d, 0xb8, 0x00, 0xbc, 0x36, 0x06, 0x2c, 0x2a, 0x15, 0x05, 0x04, 0x60, 0x2e, 0xb6, 0x00, 0xbf, 0x36, 0x07, 0x2c, 0xb6, 0x00, 0xb9, 0x15, 0x06, 0x9f, 0x00, 0x05, 0x03, 0xac, 0x15, 0x06, 0x9a, 0x00, 0x0f, 0x2d, 0x03, 0x2f, 0x15, 0x07, 0x85, 0x94, 0x99, 0x00, 0x05, 0x03, 0xac, 0xa7, 0x0c, 0x41, 0x2b, 0x2a, 0x15, 0x05, 0x04, 0x60, 0x2e, 0x2a, 0x15, 0x05, 0x05, 0x60, 0x2e, 0x2a, 0x15, 0x05, 0x06, 0x60, 0x2e, 0x2a, 0x15, 0x05, 0x07, 0x60, 0x2e, 0x2a, 0x15, 0x05, 0x08, 0x60, 0x2e, 0x2d, 0xb8, 0x00, 0xc0, 0x36, 0x06, 0x2c, 0x2a, 0x15, 0x05, 0x04, 0x60, 0x2e, 0x2a, 0x15, 0x05, 0x05, 0x60, 0x2e, 0x2a, 0x15, 0x05, 0x06, 0x60, 0x2e, 0x2a, 0x15, 0x05, 0x07, 0x60, 0x2e, 0x2a, 0x15, 0x05, 0x08, 0x60, 0x2e]⟩
def zw_3 : ByteArray := ⟨#[0x06, 0x2c, 0x2a, 0x15, 0x05, 0x04, 0x60, 0x2e, 0x2a, 0x15, 0x05, 0x05, 0x60, 0x2e, 0x2a, 0x15, 0x05, 0x06, 0x60, 0x2e, 0x2a, 0x15, 0x05, 0x07, 0x60, 0x2e, 0x2a, 0x15, 0x05, 0x08, 0x60, 0x2e, 0xb6, 0x00, 0xc3, 0x36, 0x07, 0x2c, 0xb6, 0x00, 0xb9, 0x15, 0x06, 0x9f, 0x00, 0x05, 0x03, 0xac, 0x15, 0x06, 0x9a, 0x00, 0x0f, 0x2d, 0x03, 0x2f, 0x15, 0x07, 0x85, 0x94, 0x99, 0x00, 0x05, 0x03, 0xac, 0xa7, 0x0b, 0xd9, 0x2b, 0x2a, 0x15, 0x05, 0x04, 0x60, 0x2e, 0x2a, 0x15, 0x05, 0x05, 0x60, 0x2e, 0x2a, 0x15, 0x05, 0x06, 0x60, 0x2e, 0x92, 0x2a, 0x15, 0x05, 0x07, 0x60, 0x2e, 0x2a, 0x15, 0x05, 0x08, 0x60, 0x2e, 0x2d, 0xb8, 0x00, 0xc4, 0x36, 0x06, 0x2c, 0x2a, 0x15, 0x05, 0x04, 0x60, 0x2e, 0x2a, 0x15, 0x05, 0x05, 0x60, 0x2e, 0x2a, 0x15, 0x05, 0x06, 0x60, 0x2e, 0x92, 0x2a, 0x15, 0x05, 0x07, 0x60, 0x2e, 0x2a, 0x15, 0x05, 0x08, 0x60, 0x2e, 0xb6, 0x00, 0xc7, 0x36, 0x07, 0x2c, 0xb6, 0x00, 0xb9, 0x15, 0x06, 0x9f, 0x00, 0x05, 0x03, 0xac, 0x15, 0x06, 0x9a, 0x00, 0x0f, 0x2d]⟩
def zw_4 : ByteArray := ⟨#[0x05, 0x07, 0x60, 0x2e, 0x2a, 0x15, 0x05, 0x08, 0x60, 0x2e, 0xb6, 0x00, 0xc7, 0x36, 0x07, 0x2c, 0xb6, 0x00, 0xb9, 0x15, 0x06, 0x9f, 0x00, 0x05, 0x03, 0xac, 0x15, 0x06, 0x9a, 0x00, 0x0f, 0x2d, 0x03, 0x2f, 0x15, 0x07, 0x85, 0x94, 0x99, 0x00, 0x05, 0x03, 0xac, 0xa7, 0x0b, 0x6f, 0x2b, 0x2a, 0x15, 0x05, 0x04, 0x60, 0x2e, 0x2a, 0x15, 0x05, 0x05, 0x60, 0x2e, 0x2a, 0x15, 0x05, 0x06, 0x60, 0x2e, 0x2a, 0x15, 0x05, 0x07, 0x60, 0x2e, 0x92, 0x2a, 0x15, 0x05, 0x08, 0x60, 0x2e, 0x2d, 0xb8, 0x00, 0xc8, 0x36, 0x06, 0x2c, 0x2a, 0x15, 0x05, 0x04, 0x60, 0x2e, 0x2a, 0x15, 0x05, 0x05, 0x60, 0x2e, 0x2a, 0x15, 0x05, 0x06, 0x60, 0x2e, 0x2a, 0x15, 0x05, 0x07, 0x60, 0x2e, 0x92, 0x2a, 0x15, 0x05, 0x08, 0x60, 0x2e, 0xb6, 0x00, 0xcb, 0x36, 0x07, 0x2c, 0xb6, 0x00, 0xb9, 0x15, 0x06, 0x9f, 0x00, 0x05, 0x03, 0xac, 0x15, 0x06, 0x9a, 0x00, 0x0f, 0x2d, 0x03, 0x2f, 0x15, 0x07, 0x85, 0x94, 0x99, 0x00, 0x05, 0x03, 0xac, 0xa7, 0x0b, 0x05, 0x2b, 0x2a, 0x15, 0x05, 0x04, 0x60, 0x2e, 0x2a]⟩
def zw_5 : ByteArray := ⟨#[0x00, 0x05, 0x03, 0xac, 0x15, 0x06, 0x9a, 0x00, 0x0f, 0x2d, 0x03, 0x2f, 0x15, 0x07, 0x85, 0x94, 0x99, 0x00, 0x05, 0x03, 0xac, 0xa7, 0x0b, 0x05, 0x2b, 0x2a, 0x15, 0x05, 0x04, 0x60, 0x2e, 0x2a, 0x15, 0x05, 0x05, 0x60, 0x2e, 0x2a, 0x15, 0x05, 0x06, 0x60, 0x2e, 0x2a, 0x15, 0x05, 0x07, 0x60, 0x2e, 0x92, 0x2a, 0x15, 0x05, 0x08, 0x60, 0x2e, 0x2d, 0xb8, 0x00, 0xcc, 0x36, 0x06, 0x2c, 0x2a, 0x15, 0x05, 0x04, 0x60, 0x2e, 0x2a, 0x15, 0x05, 0x05, 0x60, 0x2e, 0x2a, 0x15, 0x05, 0x06, 0x60, 0x2e, 0x2a, 0x15, 0x05, 0x07, 0x60, 0x2e, 0x92, 0x2a, 0x15, 0x05, 0x08, 0x60, 0x2e, 0xb6, 0x00, 0xce, 0x36, 0x07, 0x2c, 0xb6, 0x00, 0xb9, 0x15, 0x06, 0x9f, 0x00, 0x05, 0x03, 0xac, 0x15, 0x06, 0x9a, 0x00, 0x0f, 0x2d, 0x03, 0x2f, 0x15, 0x07, 0x85, 0x94, 0x99, 0x00, 0x05, 0x03, 0xac, 0xa7, 0x0a, 0x9b, 0x2b, 0x2a, 0x15, 0x05, 0x04, 0x60, 0x2e, 0x2a, 0x15, 0x05, 0x05, 0x60, 0x2e, 0x2a, 0x15, 0x05, 0x06, 0x60, 0x2e, 0x2a, 0x15, 0x05, 0x07, 0x60, 0x2e, 0x2a, 0x15, 0x05, 0x08, 0x60]⟩
def zw_6 : ByteArray := ⟨#[0x0a, 0x9b, 0x2b, 0x2a, 0x15, 0x05, 0x04, 0x60, 0x2e, 0x2a, 0x15, 0x05, 0x05, 0x60, 0x2e, 0x2a, 0x15, 0x05, 0x06, 0x60, 0x2e, 0x2a, 0x15, 0x05, 0x07, 0x60, 0x2e, 0x2a, 0x15, 0x05, 0x08, 0x60, 0x2e, 0x2a, 0x15, 0x05, 0x10, 0x06, 0x60, 0x2e, 0x2d, 0xb8, 0x00, 0xcf, 0x36, 0x06, 0x2c, 0x2a, 0x15, 0x05, 0x04, 0x60, 0x2e, 0x2a, 0x15, 0x05, 0x05, 0x60, 0x2e, 0x2a, 0x15, 0x05, 0x06, 0x60, 0x2e, 0x2a, 0x15, 0x05, 0x07, 0x60, 0x2e, 0x2a, 0x15, 0x05, 0x08, 0x60, 0x2e, 0x2a, 0x15, 0x05, 0x10, 0x06, 0x60, 0x2e, 0xb6, 0x00, 0xd2, 0x36, 0x07, 0x2c, 0xb6, 0x00, 0xb9, 0x15, 0x06, 0x9f, 0x00, 0x05, 0x03, 0xac, 0x15, 0x06, 0x9a, 0x00, 0x0f, 0x2d, 0x03, 0x2f, 0x15, 0x07, 0x85, 0x94, 0x99, 0x00, 0x05, 0x03, 0xac, 0xa7, 0x0a, 0x25, 0x2b, 0x2a, 0x15, 0x05, 0x04, 0x60, 0x2e, 0x2a, 0x15, 0x05, 0x05, 0x60, 0x2e, 0x2a, 0x15, 0x05, 0x06, 0x60, 0x2e, 0x2a, 0x15, 0x05, 0x07, 0x60, 0x2e, 0x2a, 0x15, 0x05, 0x08, 0x60, 0x2e, 0x2d, 0xb8, 0x00, 0xd3, 0x36, 0x06, 0x2c, 0x2a, 0x15]⟩
def zw_7 : ByteArray := ⟨#[0x15, 0x05, 0x05, 0x60, 0x2e, 0x2a, 0x15, 0x05, 0x06, 0x60, 0x2e, 0x2a, 0x15, 0x05, 0x07, 0x60, 0x2e, 0x2a, 0x15, 0x05, 0x08, 0x60, 0x2e, 0x2d, 0xb8, 0x00, 0xd3, 0x36, 0x06, 0x2c, 0x2a, 0x15, 0x05, 0x04, 0x60, 0x2e, 0x2a, 0x15, 0x05, 0x05, 0x60, 0x2e, 0x2a, 0x15, 0x05, 0x06, 0x60, 0x2e, 0x2a, 0x15, 0x05, 0x07, 0x60, 0x2e, 0x2a, 0x15, 0x05, 0x08, 0x60, 0x2e, 0xb6, 0x00, 0xd5, 0x36, 0x07, 0x2c, 0xb6, 0x00, 0xb9, 0x15, 0x06, 0x9f, 0x00, 0x05, 0x03, 0xac, 0x15, 0x06, 0x9a, 0x00, 0x0f, 0x2d, 0x03, 0x2f, 0x15, 0x07, 0x85, 0x94, 0x99, 0x00, 0x05, 0x03, 0xac, 0xa7, 0x09, 0xbd, 0x2b, 0x2a, 0x15, 0x05, 0x04, 0x60, 0x2e, 0x2d, 0xb8, 0x00, 0xd6, 0x36, 0x06, 0x2c, 0x2a, 0x15, 0x05, 0x04, 0x60, 0x2e, 0xb6, 0x00, 0xd8, 0x36, 0x07, 0x2c, 0xb6, 0x00, 0xb9, 0x15, 0x06, 0x9f, 0x00, 0x05, 0x03, 0xac, 0x15, 0x06, 0x9a, 0x00, 0x0f, 0x2d, 0x03, 0x2f, 0x15, 0x07, 0x85, 0x94, 0x99, 0x00, 0x05, 0x03, 0xac, 0xa7, 0x09, 0x85, 0x2b, 0x2a, 0x15, 0x05, 0x04, 0x60, 0x2e, 0x2d]⟩
def zw_8 : ByteArray := ⟨#[0x00, 0x05, 0x03, 0xac, 0x15, 0x06, 0x9a, 0x00, 0x0f, 0x2d, 0x03, 0x2f, 0x15, 0x07, 0x85, 0x94, 0x99, 0x00, 0x05, 0x03, 0xac, 0xa7, 0x09, 0x85, 0x2b, 0x2a, 0x15, 0x05, 0x04, 0x60, 0x2e, 0x2d, 0xb8, 0x00, 0xd9, 0x36, 0x06, 0x2c, 0x2a, 0x15, 0x05, 0x04, 0x60, 0x2e, 0xb6, 0x00, 0xdb, 0x36, 0x07, 0x2c, 0xb6, 0x00, 0xb9, 0x15, 0x06, 0x9f, 0x00, 0x05, 0x03, 0xac, 0x15, 0x06, 0x9a, 0x00, 0x0f, 0x2d, 0x03, 0x2f, 0x15, 0x07, 0x85, 0x94, 0x99, 0x00, 0x05, 0x03, 0xac, 0xa7, 0x09, 0x4d, 0x2b, 0x2a, 0x15, 0x05, 0x04, 0x60, 0x2e, 0x2d, 0xb8, 0x00, 0xdc, 0x36, 0x06, 0x2c, 0x2a, 0x15, 0x05, 0x04, 0x60, 0x2e, 0xb6, 0x00, 0xde, 0x36, 0x07, 0x2c, 0xb6, 0x00, 0xb9, 0x15, 0x06, 0x9f, 0x00, 0x05, 0x03, 0xac, 0x15, 0x06, 0x9a, 0x00, 0x0f, 0x2d, 0x03, 0x2f, 0x15, 0x07, 0x85, 0x94, 0x99, 0x00, 0x05, 0x03, 0xac, 0xa7, 0x09, 0x15, 0x2b, 0x2a, 0x15, 0x05, 0x04, 0x60, 0x2e, 0x2a, 0x15, 0x05, 0x05, 0x60, 0x2e, 0x2d, 0xb8, 0x00, 0xdf, 0x36, 0x06, 0x2c, 0x2a, 0x15, 0x05, 0x04]⟩
def zw_9 : ByteArray := ⟨#[0x99, 0x00, 0x05, 0x03, 0xac, 0xa7, 0x09, 0x15, 0x2b, 0x2a, 0x15, 0x05, 0x04, 0x60, 0x2e, 0x2a, 0x15, 0x05, 0x05, 0x60, 0x2e, 0x2d, 0xb8, 0x00, 0xdf, 0x36, 0x06, 0x2c, 0x2a, 0x15, 0x05, 0x04, 0x60, 0x2e, 0x2a, 0x15, 0x05, 0x05, 0x60, 0x2e, 0xb6, 0x00, 0xe2, 0x36, 0x07, 0x2c, 0xb6, 0x00, 0xb9, 0x15, 0x06, 0x9f, 0x00, 0x05, 0x03, 0xac, 0x15, 0x06, 0x9a, 0x00, 0x0f, 0x2d, 0x03, 0x2f, 0x15, 0x07, 0x85, 0x94, 0x99, 0x00, 0x05, 0x03, 0xac, 0xa7, 0x08, 0xd1, 0x2b, 0x2a, 0x15, 0x05, 0x04, 0x60, 0x2e, 0x2a, 0x15, 0x05, 0x05, 0x60, 0x2e, 0x2d, 0xb8, 0x00, 0xe3, 0x36, 0x06, 0x2c, 0x2a, 0x15, 0x05, 0x04, 0x60, 0x2e, 0x2a, 0x15, 0x05, 0x05, 0x60, 0x2e, 0xb6, 0x00, 0xe5, 0x36, 0x07, 0x2c, 0xb6, 0x00, 0xb9, 0x15, 0x06, 0x9f, 0x00, 0x05, 0x03, 0xac, 0x15, 0x06, 0x9a, 0x00, 0x0f, 0x2d, 0x03, 0x2f, 0x15, 0x07, 0x85, 0x94, 0x99, 0x00, 0x05, 0x03, 0xac, 0xa7, 0x08, 0x8d, 0x2b, 0x2a, 0x15, 0x05, 0x04, 0x60, 0x2e, 0x2d, 0xb8, 0x00, 0xe6, 0x36, 0x06, 0x2c, 0x2a, 0x15]⟩
def zw_10 : ByteArray := ⟨#[0x0f, 0x2d, 0x03, 0x2f, 0x15, 0x07, 0x85, 0x94, 0x99, 0x00, 0x05, 0x03, 0xac, 0xa7, 0x08, 0x8d, 0x2b, 0x2a, 0x15, 0x05, 0x04, 0x60, 0x2e, 0x2d, 0xb8, 0x00, 0xe6, 0x36, 0x06, 0x2c, 0x2a, 0x15, 0x05, 0x04, 0x60, 0x2e, 0xb6, 0x00, 0xe8, 0x36, 0x07, 0x2c, 0xb6, 0x00, 0xb9, 0x15, 0x06, 0x9f, 0x00, 0x05, 0x03, 0xac, 0x15, 0x06, 0x9a, 0x00, 0x0f, 0x2d, 0x03, 0x2f, 0x15, 0x07, 0x85, 0x94, 0x99, 0x00, 0x05, 0x03, 0xac, 0xa7, 0x08, 0x55, 0x2b, 0x2a, 0x15, 0x05, 0x04, 0x60, 0x2e, 0x2a, 0x15, 0x05, 0x05, 0x60, 0x2e, 0x2a, 0x15, 0x05, 0x06, 0x60, 0x2e, 0x2d, 0xb8, 0x00, 0xe9, 0x36, 0x06, 0x2c, 0x2a, 0x15, 0x05, 0x04, 0x60, 0x2e, 0x2a, 0x15, 0x05, 0x05, 0x60, 0x2e, 0x2a, 0x15, 0x05, 0x06, 0x60, 0x2e, 0xb6, 0x00, 0xec, 0x36, 0x07, 0x2c, 0xb6, 0x00, 0xb9, 0x15, 0x06, 0x9f, 0x00, 0x05, 0x03, 0xac, 0x15, 0x06, 0x9a, 0x00, 0x0f, 0x2d, 0x03, 0x2f, 0x15, 0x07, 0x85, 0x94, 0x99, 0x00, 0x05, 0x03, 0xac, 0xa7, 0x08, 0x05, 0x2b, 0x2a, 0x15, 0x05, 0x04, 0x60, 0x2e, 0x2a]⟩
def zw_11 : ByteArray := ⟨#[0x00, 0x05, 0x03, 0xac, 0x15, 0x06, 0x9a, 0x00, 0x0f, 0x2d, 0x03, 0x2f, 0x15, 0x07, 0x85, 0x94, 0x99, 0x00, 0x05, 0x03, 0xac, 0xa7, 0x08, 0x05, 0x2b, 0x2a, 0x15, 0x05, 0x04, 0x60, 0x2e, 0x2a, 0x15, 0x05, 0x05, 0x60, 0x2e, 0x2d, 0xb8, 0x00, 0xed, 0x36, 0x06, 0x2c, 0x2a, 0x15, 0x05, 0x04, 0x60, 0x2e, 0x2a, 0x15, 0x05, 0x05, 0x60, 0x2e, 0xb6, 0x00, 0xef, 0x36, 0x07, 0x2c, 0xb6, 0x00, 0xb9, 0x15, 0x06, 0x9f, 0x00, 0x05, 0x03, 0xac, 0x15, 0x06, 0x9a, 0x00, 0x0f, 0x2d, 0x03, 0x2f, 0x15, 0x07, 0x85, 0x94, 0x99, 0x00, 0x05, 0x03, 0xac, 0xa7, 0x07, 0xc1, 0x2b, 0x2a, 0x15, 0x05, 0x04, 0x60, 0x2e, 0x2d, 0xb8, 0x00, 0xf0, 0x36, 0x06, 0x2c, 0x2a, 0x15, 0x05, 0x04, 0x60, 0x2e, 0xb6, 0x00, 0xf2, 0x36, 0x07, 0x2c, 0xb6, 0x00, 0xb9, 0x15, 0x06, 0x9f, 0x00, 0x05, 0x03, 0xac, 0x15, 0x06, 0x9a, 0x00, 0x0f, 0x2d, 0x03, 0x2f, 0x15, 0x07, 0x85, 0x94, 0x99, 0x00, 0x05, 0x03, 0xac, 0xa7, 0x07, 0x89, 0x2b, 0x2a, 0x15, 0x05, 0x04, 0x60, 0x2e, 0x2d, 0xb8, 0x00, 0xf3, 0x36]⟩
def zw_12 : ByteArray := ⟨#[0x15, 0x06, 0x9a, 0x00, 0x0f, 0x2d, 0x03, 0x2f, 0x15, 0x07, 0x85, 0x94, 0x99, 0x00, 0x05, 0x03, 0xac, 0xa7, 0x07, 0x89, 0x2b, 0x2a, 0x15, 0x05, 0x04, 0x60, 0x2e, 0x2d, 0xb8, 0x00, 0xf3, 0x36, 0x06, 0x2c, 0x2a, 0x15, 0x05, 0x04, 0x60, 0x2e, 0xb6, 0x00, 0xf5, 0x36, 0x07, 0x2c, 0xb6, 0x00, 0xb9, 0x15, 0x06, 0x9f, 0x00, 0x05, 0x03, 0xac, 0x15, 0x06, 0x9a, 0x00, 0x0f, 0x2d, 0x03, 0x2f, 0x15, 0x07, 0x85, 0x94, 0x99, 0x00, 0x05, 0x03, 0xac, 0xa7, 0x07, 0x51, 0x2b, 0x2a, 0x15, 0x05, 0x04, 0x60, 0x2e, 0x2a, 0x15, 0x05, 0x05, 0x60, 0x2e, 0x2d, 0xb8, 0x00, 0xf6, 0x36, 0x06, 0x2c, 0x2a, 0x15, 0x05, 0x04, 0x60, 0x2e, 0x2a, 0x15, 0x05, 0x05, 0x60, 0x2e, 0xb6, 0x00, 0xf8, 0x36, 0x07, 0x2c, 0xb6, 0x00, 0xb9, 0x15, 0x06, 0x9f, 0x00, 0x05, 0x03, 0xac, 0x15, 0x06, 0x9a, 0x00, 0x0f, 0x2d, 0x03, 0x2f, 0x15, 0x07, 0x85, 0x94, 0x99, 0x00, 0x05, 0x03, 0xac, 0xa7, 0x07, 0x0d, 0x2b, 0x2a, 0x15, 0x05, 0x04, 0x60, 0x2e, 0x2a, 0x15, 0x05, 0x05, 0x60, 0x2e, 0x2a, 0x15, 0x05]⟩
def zw_13 : ByteArray := ⟨#[0x0f, 0x2d, 0x03, 0x2f, 0x15, 0x07, 0x85, 0x94, 0x99, 0x00, 0x05, 0x03, 0xac, 0xa7, 0x07, 0x0d, 0x2b, 0x2a, 0x15, 0x05, 0x04, 0x60, 0x2e, 0x2a, 0x15, 0x05, 0x05, 0x60, 0x2e, 0x2a, 0x15, 0x05, 0x06, 0x60, 0x2e, 0x2d, 0xb8, 0x00, 0xf9, 0x36, 0x06, 0x2c, 0x2a, 0x15, 0x05, 0x04, 0x60, 0x2e, 0x2a, 0x15, 0x05, 0x05, 0x60, 0x2e, 0x2a, 0x15, 0x05, 0x06, 0x60, 0x2e, 0xb6, 0x00, 0xfb, 0x36, 0x07, 0x2c, 0xb6, 0x00, 0xb9, 0x15, 0x06, 0x9f, 0x00, 0x05, 0x03, 0xac, 0x15, 0x06, 0x9a, 0x00, 0x0f, 0x2d, 0x03, 0x2f, 0x15, 0x07, 0x85, 0x94, 0x99, 0x00, 0x05, 0x03, 0xac, 0xa7, 0x06, 0xbd, 0x2b, 0x2a, 0x15, 0x05, 0x04, 0x60, 0x2e, 0x2a, 0x15, 0x05, 0x05, 0x60, 0x2e, 0x2d, 0xb8, 0x00, 0xfc, 0x36, 0x06, 0x2c, 0x2a, 0x15, 0x05, 0x04, 0x60, 0x2e, 0x2a, 0x15, 0x05, 0x05, 0x60, 0x2e, 0xb6, 0x00, 0xfe, 0x36, 0x07, 0x2c, 0xb6, 0x00, 0xb9, 0x15, 0x06, 0x9f, 0x00, 0x05, 0x03, 0xac, 0x15, 0x06, 0x9a, 0x00, 0x0f, 0x2d, 0x03, 0x2f, 0x15, 0x07, 0x85, 0x94, 0x99, 0x00, 0x05, 0x03]⟩
def zw_14 : ByteArray := ⟨#[0xb6, 0x00, 0xfe, 0x36, 0x07, 0x2c, 0xb6, 0x00, 0xb9, 0x15, 0x06, 0x9f, 0x00, 0x05, 0x03, 0xac, 0x15, 0x06, 0x9a, 0x00, 0x0f, 0x2d, 0x03, 0x2f, 0x15, 0x07, 0x85, 0x94, 0x99, 0x00, 0x05, 0x03, 0xac, 0xa7, 0x06, 0x79, 0x2b, 0x2a, 0x15, 0x05, 0x04, 0x60, 0x2e, 0x2d, 0xb8, 0x00, 0xff, 0x36, 0x06, 0x2c, 0x2a, 0x15, 0x05, 0x04, 0x60, 0x2e, 0xb6, 0x01, 0x01, 0x36, 0x07, 0x2c, 0xb6, 0x00, 0xb9, 0x15, 0x06, 0x9f, 0x00, 0x05, 0x03, 0xac, 0x15, 0x06, 0x9a, 0x00, 0x0f, 0x2d, 0x03, 0x2f, 0x15, 0x07, 0x85, 0x94, 0x99, 0x00, 0x05, 0x03, 0xac, 0xa7, 0x06, 0x41, 0x2b, 0x2a, 0x15, 0x05, 0x04, 0x60, 0x2e, 0x2d, 0xb8, 0x01, 0x02, 0x36, 0x06, 0x2c, 0x2a, 0x15, 0x05, 0x04, 0x60, 0x2e, 0xb6, 0x01, 0x04, 0x36, 0x07, 0x2c, 0xb6, 0x00, 0xb9, 0x15, 0x06, 0x9f, 0x00, 0x05, 0x03, 0xac, 0x15, 0x06, 0x9a, 0x00, 0x0f, 0x2d, 0x03, 0x2f, 0x15, 0x07, 0x85, 0x94, 0x99, 0x00, 0x05, 0x03, 0xac, 0xa7, 0x06, 0x09, 0x2b, 0x2a, 0x15, 0x05, 0x04, 0x60, 0x2e, 0x2a, 0x15, 0x05, 0x05, 0x60]⟩
def zw_15 : ByteArray := ⟨#[0x15, 0x06, 0x9a, 0x00, 0x0f, 0x2d, 0x03, 0x2f, 0x15, 0x07, 0x85, 0x94, 0x99, 0x00, 0x05, 0x03, 0xac, 0xa7, 0x06, 0x09, 0x2b, 0x2a, 0x15, 0x05, 0x04, 0x60, 0x2e, 0x2a, 0x15, 0x05, 0x05, 0x60, 0x2e, 0x2d, 0xb8, 0x01, 0x05, 0x36, 0x06, 0x2c, 0x2a, 0x15, 0x05, 0x04, 0x60, 0x2e, 0x2a, 0x15, 0x05, 0x05, 0x60, 0x2e, 0xb6, 0x01, 0x07, 0x36, 0x07, 0x2c, 0xb6, 0x00, 0xb9, 0x15, 0x06, 0x9f, 0x00, 0x05, 0x03, 0xac, 0x15, 0x06, 0x9a, 0x00, 0x16, 0x2d, 0x03, 0x2f, 0x15, 0x07, 0x99, 0x00, 0x07, 0x0a, 0xa7, 0x00, 0x04, 0x09, 0x94, 0x99, 0x00, 0x05, 0x03, 0xac, 0xa7, 0x05, 0xbe, 0x2b, 0x2a, 0x15, 0x05, 0x04, 0x60, 0x2e, 0x2a, 0x15, 0x05, 0x05, 0x60, 0x2e, 0x2d, 0xb8, 0x01, 0x08, 0x36, 0x06, 0x2c, 0x2a, 0x15, 0x05, 0x04, 0x60, 0x2e, 0x2a, 0x15, 0x05, 0x05, 0x60, 0x2e, 0xb6, 0x01, 0x0a, 0x36, 0x07, 0x2c, 0xb6, 0x00, 0xb9, 0x15, 0x06, 0x9f, 0x00, 0x05, 0x03, 0xac, 0x15, 0x06, 0x9a, 0x00, 0x0f, 0x2d, 0x03, 0x2f, 0x15, 0x07, 0x85, 0x94, 0x99, 0x00, 0x05, 0x03, 0xac]⟩
def zw_16 : ByteArray := ⟨#[0x01, 0x0a, 0x36, 0x07, 0x2c, 0xb6, 0x00, 0xb9, 0x15, 0x06, 0x9f, 0x00, 0x05, 0x03, 0xac, 0x15, 0x06, 0x9a, 0x00, 0x0f, 0x2d, 0x03, 0x2f, 0x15, 0x07, 0x85, 0x94, 0x99, 0x00, 0x05, 0x03, 0xac, 0xa7, 0x05, 0x7a, 0x2b, 0x2a, 0x15, 0x05, 0x04, 0x60, 0x2e, 0x2a, 0x15, 0x05, 0x05, 0x60, 0x2e, 0x2d, 0xb8, 0x01, 0x0b, 0x36, 0x06, 0x2c, 0x2a, 0x15, 0x05, 0x04, 0x60, 0x2e, 0x2a, 0x15, 0x05, 0x05, 0x60, 0x2e, 0xb6, 0x01, 0x0d, 0x36, 0x07, 0x2c, 0xb6, 0x00, 0xb9, 0x15, 0x06, 0x9f, 0x00, 0x05, 0x03, 0xac, 0x15, 0x06, 0x9a, 0x00, 0x0f, 0x2d, 0x03, 0x2f, 0x15, 0x07, 0x85, 0x94, 0x99, 0x00, 0x05, 0x03, 0xac, 0xa7, 0x05, 0x36, 0x2b, 0x2a, 0x15, 0x05, 0x04, 0x60, 0x2e, 0x2d, 0xb8, 0x01, 0x0e, 0x36, 0x06, 0x2c, 0x2a, 0x15, 0x05, 0x04, 0x60, 0x2e, 0xb6, 0x01, 0x10, 0x36, 0x07, 0x2c, 0xb6, 0x00, 0xb9, 0x15, 0x06, 0x9f, 0x00, 0x05, 0x03, 0xac, 0x15, 0x06, 0x9a, 0x00, 0x0f, 0x2d, 0x03, 0x2f, 0x15, 0x07, 0x85, 0x94, 0x99, 0x00, 0x05, 0x03, 0xac, 0xa7, 0x04, 0xfe, 0x2b]⟩
def zw_17 : ByteArray := ⟨#[0x2c, 0xb6, 0x00, 0xb9, 0x15, 0x06, 0x9f, 0x00, 0x05, 0x03, 0xac, 0x15, 0x06, 0x9a, 0x00, 0x0f, 0x2d, 0x03, 0x2f, 0x15, 0x07, 0x85, 0x94, 0x99, 0x00, 0x05, 0x03, 0xac, 0xa7, 0x04, 0xfe, 0x2b, 0x2a, 0x15, 0x05, 0x04, 0x60, 0x2e, 0x2a, 0x15, 0x05, 0x05, 0x60, 0x2e, 0x2d, 0xb8, 0x01, 0x11, 0x36, 0x06, 0x2c, 0x2a, 0x15, 0x05, 0x04, 0x60, 0x2e, 0x2a, 0x15, 0x05, 0x05, 0x60, 0x2e, 0xb6, 0x01, 0x13, 0x36, 0x07, 0x2c, 0xb6, 0x00, 0xb9, 0x15, 0x06, 0x9f, 0x00, 0x05, 0x03, 0xac, 0x15, 0x06, 0x9a, 0x00, 0x16, 0x2d, 0x03, 0x2f, 0x15, 0x07, 0x99, 0x00, 0x07, 0x0a, 0xa7, 0x00, 0x04, 0x09, 0x94, 0x99, 0x00, 0x05, 0x03, 0xac, 0xa7, 0x04, 0xb3, 0x2b, 0x2a, 0x15, 0x05, 0x04, 0x60, 0x2e, 0x2a, 0x15, 0x05, 0x05, 0x60, 0x2e, 0x2d, 0xb8, 0x01, 0x14, 0x36, 0x06, 0x2c, 0x2a, 0x15, 0x05, 0x04, 0x60, 0x2e, 0x2a, 0x15, 0x05, 0x05, 0x60, 0x2e, 0xb6, 0x01, 0x16, 0x36, 0x07, 0x2c, 0xb6, 0x00, 0xb9, 0x15, 0x06, 0x9f, 0x00, 0x05, 0x03, 0xac, 0x15, 0x06, 0x9a, 0x00, 0x0f, 0x2d]⟩
def zw_18 : ByteArray := ⟨#[0x05, 0x04, 0x60, 0x2e, 0x2a, 0x15, 0x05, 0x05, 0x60, 0x2e, 0xb6, 0x01, 0x16, 0x36, 0x07, 0x2c, 0xb6, 0x00, 0xb9, 0x15, 0x06, 0x9f, 0x00, 0x05, 0x03, 0xac, 0x15, 0x06, 0x9a, 0x00, 0x0f, 0x2d, 0x03, 0x2f, 0x15, 0x07, 0x85, 0x94, 0x99, 0x00, 0x05, 0x03, 0xac, 0xa7, 0x04, 0x6f, 0x2b, 0x2a, 0x15, 0x05, 0x04, 0x60, 0x2e, 0x2a, 0x15, 0x05, 0x05, 0x60, 0x2e, 0x2d, 0xb8, 0x01, 0x17, 0x36, 0x06, 0x2c, 0x2a, 0x15, 0x05, 0x04, 0x60, 0x2e, 0x2a, 0x15, 0x05, 0x05, 0x60, 0x2e, 0xb6, 0x01, 0x19, 0x36, 0x07, 0x2c, 0xb6, 0x00, 0xb9, 0x15, 0x06, 0x9f, 0x00, 0x05, 0x03, 0xac, 0x15, 0x06, 0x9a, 0x00, 0x0f, 0x2d, 0x03, 0x2f, 0x15, 0x07, 0x85, 0x94, 0x99, 0x00, 0x05, 0x03, 0xac, 0xa7, 0x04, 0x2b, 0x2b, 0x2a, 0x15, 0x05, 0x04, 0x60, 0x2e, 0x2a, 0x15, 0x05, 0x05, 0x60, 0x2e, 0x2d, 0xb8, 0x01, 0x1a, 0x36, 0x06, 0x2c, 0x2a, 0x15, 0x05, 0x04, 0x60, 0x2e, 0x2a, 0x15, 0x05, 0x05, 0x60, 0x2e, 0xb6, 0x01, 0x1c, 0x36, 0x07, 0x2c, 0xb6, 0x00, 0xb9, 0x15, 0x06, 0x9f, 0x00, 0x05]⟩
def zw_19 : ByteArray := ⟨#[0xb8, 0x01, 0x1a, 0x36, 0x06, 0x2c, 0x2a, 0x15, 0x05, 0x04, 0x60, 0x2e, 0x2a, 0x15, 0x05, 0x05, 0x60, 0x2e, 0xb6, 0x01, 0x1c, 0x36, 0x07, 0x2c, 0xb6, 0x00, 0xb9, 0x15, 0x06, 0x9f, 0x00, 0x05, 0x03, 0xac, 0x15, 0x06, 0x9a, 0x00, 0x0f, 0x2d, 0x03, 0x2f, 0x15, 0x07, 0x85, 0x94, 0x99, 0x00, 0x05, 0x03, 0xac, 0xa7, 0x03, 0xe7, 0x2b, 0x2a, 0x15, 0x05, 0x04, 0x60, 0x2e, 0x2a, 0x15, 0x05, 0x05, 0x60, 0x2e, 0x2d, 0xb8, 0x01, 0x1d, 0x36, 0x06, 0x2c, 0x2a, 0x15, 0x05, 0x04, 0x60, 0x2e, 0x2a, 0x15, 0x05, 0x05, 0x60, 0x2e, 0xb6, 0x01, 0x1f, 0x36, 0x07, 0x2c, 0xb6, 0x00, 0xb9, 0x15, 0x06, 0x9f, 0x00, 0x05, 0x03, 0xac, 0x15, 0x06, 0x9a, 0x00, 0x0f, 0x2d, 0x03, 0x2f, 0x15, 0x07, 0x85, 0x94, 0x99, 0x00, 0x05, 0x03, 0xac, 0xa7, 0x03, 0xa3, 0x2b, 0x2a, 0x15, 0x05, 0x04, 0x60, 0x2e, 0x2a, 0x15, 0x05, 0x05, 0x60, 0x2e, 0x2d, 0xb8, 0x01, 0x20, 0x36, 0x06, 0x2c, 0x2a, 0x15, 0x05, 0x04, 0x60, 0x2e, 0x2a, 0x15, 0x05, 0x05, 0x60, 0x2e, 0xb6, 0x01, 0x22, 0x36, 0x07, 0x2c]⟩
def zw_20 : ByteArray := ⟨#[0x2e, 0x2a, 0x15, 0x05, 0x05, 0x60, 0x2e, 0x2d, 0xb8, 0x01, 0x20, 0x36, 0x06, 0x2c, 0x2a, 0x15, 0x05, 0x04, 0x60, 0x2e, 0x2a, 0x15, 0x05, 0x05, 0x60, 0x2e, 0xb6, 0x01, 0x22, 0x36, 0x07, 0x2c, 0xb6, 0x00, 0xb9, 0x15, 0x06, 0x9f, 0x00, 0x05, 0x03, 0xac, 0x15, 0x06, 0x9a, 0x00, 0x0f, 0x2d, 0x03, 0x2f, 0x15, 0x07, 0x85, 0x94, 0x99, 0x00, 0x05, 0x03, 0xac, 0xa7, 0x03, 0x5f, 0x2b, 0x2a, 0x15, 0x05, 0x04, 0x60, 0x2e, 0x2a, 0x15, 0x05, 0x05, 0x60, 0x2e, 0x2d, 0xb8, 0x01, 0x23, 0x36, 0x06, 0x2c, 0x2a, 0x15, 0x05, 0x04, 0x60, 0x2e, 0x2a, 0x15, 0x05, 0x05, 0x60, 0x2e, 0xb6, 0x01, 0x25, 0x36, 0x07, 0x2c, 0xb6, 0x00, 0xb9, 0x15, 0x06, 0x9f, 0x00, 0x05, 0x03, 0xac, 0x15, 0x06, 0x9a, 0x00, 0x0f, 0x2d, 0x03, 0x2f, 0x15, 0x07, 0x85, 0x94, 0x99, 0x00, 0x05, 0x03, 0xac, 0xa7, 0x03, 0x1b, 0x2b, 0x2a, 0x15, 0x05, 0x04, 0x60, 0x2e, 0x2a, 0x15, 0x05, 0x05, 0x60, 0x2e, 0x2d, 0xb8, 0x01, 0x26, 0x36, 0x06, 0x2c, 0x2a, 0x15, 0x05, 0x04, 0x60, 0x2e, 0x2a, 0x15, 0x05, 0x05]⟩
def zw_21 : ByteArray := ⟨#[0x03, 0x1b, 0x2b, 0x2a, 0x15, 0x05, 0x04, 0x60, 0x2e, 0x2a, 0x15, 0x05, 0x05, 0x60, 0x2e, 0x2d, 0xb8, 0x01, 0x26, 0x36, 0x06, 0x2c, 0x2a, 0x15, 0x05, 0x04, 0x60, 0x2e, 0x2a, 0x15, 0x05, 0x05, 0x60, 0x2e, 0xb6, 0x01, 0x28, 0x36, 0x07, 0x2c, 0xb6, 0x00, 0xb9, 0x15, 0x06, 0x9f, 0x00, 0x05, 0x03, 0xac, 0x15, 0x06, 0x9a, 0x00, 0x0f, 0x2d, 0x03, 0x2f, 0x15, 0x07, 0x85, 0x94, 0x99, 0x00, 0x05, 0x03, 0xac, 0xa7, 0x02, 0xd7, 0x2b, 0x2a, 0x15, 0x05, 0x04, 0x60, 0x2e, 0x2a, 0x15, 0x05, 0x05, 0x60, 0x2e, 0x2d, 0xb8, 0x01, 0x29, 0x36, 0x06, 0x2c, 0x2a, 0x15, 0x05, 0x04, 0x60, 0x2e, 0x2a, 0x15, 0x05, 0x05, 0x60, 0x2e, 0xb6, 0x01, 0x2b, 0x36, 0x07, 0x2c, 0xb6, 0x00, 0xb9, 0x15, 0x06, 0x9f, 0x00, 0x05, 0x03, 0xac, 0x15, 0x06, 0x9a, 0x00, 0x0f, 0x2d, 0x03, 0x2f, 0x15, 0x07, 0x85, 0x94, 0x99, 0x00, 0x05, 0x03, 0xac, 0xa7, 0x02, 0x93, 0x2b, 0x2a, 0x15, 0x05, 0x04, 0x60, 0x2e, 0x2a, 0x15, 0x05, 0x05, 0x60, 0x2e, 0x2d, 0xb8, 0x01, 0x2c, 0x36, 0x06, 0x2c, 0x2a, 0x15]⟩
def zw_22 : ByteArray := ⟨#[0x85, 0x94, 0x99, 0x00, 0x05, 0x03, 0xac, 0xa7, 0x02, 0x93, 0x2b, 0x2a, 0x15, 0x05, 0x04, 0x60, 0x2e, 0x2a, 0x15, 0x05, 0x05, 0x60, 0x2e, 0x2d, 0xb8, 0x01, 0x2c, 0x36, 0x06, 0x2c, 0x2a, 0x15, 0x05, 0x04, 0x60, 0x2e, 0x2a, 0x15, 0x05, 0x05, 0x60, 0x2e, 0xb6, 0x01, 0x2e, 0x36, 0x07, 0x2c, 0xb6, 0x00, 0xb9, 0x15, 0x06, 0x9f, 0x00, 0x05, 0x03, 0xac, 0x15, 0x06, 0x9a, 0x00, 0x0f, 0x2d, 0x03, 0x2f, 0x15, 0x07, 0x85, 0x94, 0x99, 0x00, 0x05, 0x03, 0xac, 0xa7, 0x02, 0x4f, 0x2b, 0x2a, 0x15, 0x05, 0x04, 0x60, 0x2e, 0x2d, 0xb8, 0x01, 0x2f, 0x36, 0x06, 0x2c, 0x2a, 0x15, 0x05, 0x04, 0x60, 0x2e, 0xb6, 0x01, 0x31, 0x37, 0x07, 0x2c, 0xb6, 0x00, 0xb9, 0x15, 0x06, 0x9f, 0x00, 0x05, 0x03, 0xac, 0x15, 0x06, 0x9a, 0x00, 0x0e, 0x2d, 0x03, 0x2f, 0x16, 0x07, 0x94, 0x99, 0x00, 0x05, 0x03, 0xac, 0xa7, 0x02, 0x18, 0x2b, 0x2a, 0x15, 0x05, 0x04, 0x60, 0x2e, 0x2d, 0xb8, 0x01, 0x32, 0x36, 0x06, 0x2c, 0x2a, 0x15, 0x05, 0x04, 0x60, 0x2e, 0xb6, 0x01, 0x34, 0x37, 0x07, 0x2c, 0xb6]⟩
def zw_23 : ByteArray := ⟨#[0x03, 0xac, 0xa7, 0x02, 0x18, 0x2b, 0x2a, 0x15, 0x05, 0x04, 0x60, 0x2e, 0x2d, 0xb8, 0x01, 0x32, 0x36, 0x06, 0x2c, 0x2a, 0x15, 0x05, 0x04, 0x60, 0x2e, 0xb6, 0x01, 0x34, 0x37, 0x07, 0x2c, 0xb6, 0x00, 0xb9, 0x15, 0x06, 0x9f, 0x00, 0x05, 0x03, 0xac, 0x15, 0x06, 0x9a, 0x00, 0x0e, 0x2d, 0x03, 0x2f, 0x16, 0x07, 0x94, 0x99, 0x00, 0x05, 0x03, 0xac, 0xa7, 0x01, 0xe1, 0x2b, 0x2a, 0x15, 0x05, 0x04, 0x60, 0x2e, 0x2d, 0xb8, 0x01, 0x35, 0x36, 0x06, 0x2c, 0x2a, 0x15, 0x05, 0x04, 0x60, 0x2e, 0xb6, 0x01, 0x37, 0x36, 0x07, 0x2c, 0xb6, 0x00, 0xb9, 0x15, 0x06, 0x9f, 0x00, 0x05, 0x03, 0xac, 0x15, 0x06, 0x9a, 0x00, 0x0f, 0x2d, 0x03, 0x2f, 0x15, 0x07, 0x85, 0x94, 0x99, 0x00, 0x05, 0x03, 0xac, 0xa7, 0x01, 0xa9, 0x2b, 0x2a, 0x15, 0x05, 0x04, 0x60, 0x2e, 0x2a, 0x15, 0x05, 0x05, 0x60, 0x2e, 0x99, 0x00, 0x07, 0x04, 0xa7, 0x00, 0x04, 0x03, 0x2d, 0xb8, 0x01, 0x38, 0x36, 0x06, 0x2c, 0x2a, 0x15, 0x05, 0x04, 0x60, 0x2e, 0x2a, 0x15, 0x05, 0x05, 0x60, 0x2e, 0x99, 0x00, 0x07, 0x04]⟩
def zw_24 : ByteArray := ⟨#[0x2e, 0x99, 0x00, 0x07, 0x04, 0xa7, 0x00, 0x04, 0x03, 0x2d, 0xb8, 0x01, 0x38, 0x36, 0x06, 0x2c, 0x2a, 0x15, 0x05, 0x04, 0x60, 0x2e, 0x2a, 0x15, 0x05, 0x05, 0x60, 0x2e, 0x99, 0x00, 0x07, 0x04, 0xa7, 0x00, 0x04, 0x03, 0xb6, 0x01, 0x3b, 0x36, 0x07, 0x2c, 0xb6, 0x00, 0xb9, 0x15, 0x06, 0x9f, 0x00, 0x05, 0x03, 0xac, 0x15, 0x06, 0x9a, 0x00, 0x16, 0x2d, 0x03, 0x2f, 0x15, 0x07, 0x99, 0x00, 0x07, 0x0a, 0xa7, 0x00, 0x04, 0x09, 0x94, 0x99, 0x00, 0x05, 0x03, 0xac, 0xa7, 0x01, 0x4e, 0x2b, 0x2a, 0x15, 0x05, 0x04, 0x60, 0x2e, 0x2d, 0xb8, 0x01, 0x3c, 0x36, 0x06, 0x2c, 0x2a, 0x15, 0x05, 0x04, 0x60, 0x2e, 0xb6, 0x01, 0x3e, 0x36, 0x07, 0x2c, 0xb6, 0x00, 0xb9, 0x15, 0x06, 0x9f, 0x00, 0x05, 0x03, 0xac, 0x15, 0x06, 0x9a, 0x00, 0x0f, 0x2d, 0x03, 0x2f, 0x15, 0x07, 0x85, 0x94, 0x99, 0x00, 0x05, 0x03, 0xac, 0xa7, 0x01, 0x16, 0x2b, 0x2a, 0x15, 0x05, 0x04, 0x60, 0x2e, 0x2d, 0xb8, 0x01, 0x3f, 0x36, 0x06, 0x2c, 0x2a, 0x15, 0x05, 0x04, 0x60, 0x2e, 0xb6, 0x01, 0x41, 0x36, 0x07]⟩
def zw_25 : ByteArray := ⟨#[0x00, 0x05, 0x03, 0xac, 0xa7, 0x01, 0x16, 0x2b, 0x2a, 0x15, 0x05, 0x04, 0x60, 0x2e, 0x2d, 0xb8, 0x01, 0x3f, 0x36, 0x06, 0x2c, 0x2a, 0x15, 0x05, 0x04, 0x60, 0x2e, 0xb6, 0x01, 0x41, 0x36, 0x07, 0x2c, 0xb6, 0x00, 0xb9, 0x15, 0x06, 0x9f, 0x00, 0x05, 0x03, 0xac, 0x15, 0x06, 0x9a, 0x00, 0x0f, 0x2d, 0x03, 0x2f, 0x15, 0x07, 0x85, 0x94, 0x99, 0x00, 0x05, 0x03, 0xac, 0xa7, 0x00, 0xde, 0x2b, 0xb6, 0x01, 0x42, 0x2c, 0xb6, 0x01, 0x45, 0x9f, 0x00, 0xd3, 0x03, 0xac, 0x2b, 0x2a, 0x15, 0x05, 0x04, 0x60, 0x2e, 0x19, 0x04, 0xb8, 0x01, 0x46, 0x36, 0x06, 0x2c, 0x2a, 0x15, 0x05, 0x04, 0x60, 0x2e, 0xb6, 0x01, 0x49, 0x39, 0x07, 0x2c, 0xb6, 0x00, 0xb9, 0x15, 0x06, 0x9f, 0x00, 0x05, 0x03, 0xac, 0x15, 0x06, 0x9a, 0x00, 0x23, 0x19, 0x04, 0x03, 0x31, 0x18, 0x07, 0x97, 0x99, 0x00, 0x19, 0x19, 0x04, 0x03, 0x31, 0x19, 0x04, 0x03, 0x31, 0x97, 0x99, 0x00, 0x0b, 0x18, 0x07, 0x18, 0x07, 0x97, 0x9a, 0x00, 0x05, 0x03, 0xac, 0xa7, 0x00, 0x84, 0x2b, 0x19, 0x04, 0xb8, 0x01, 0x4a, 0x36]⟩
def zw_26 : ByteArray := ⟨#[0x19, 0x04, 0x03, 0x31, 0x19, 0x04, 0x03, 0x31, 0x97, 0x99, 0x00, 0x0b, 0x18, 0x07, 0x18, 0x07, 0x97, 0x9a, 0x00, 0x05, 0x03, 0xac, 0xa7, 0x00, 0x84, 0x2b, 0x19, 0x04, 0xb8, 0x01, 0x4a, 0x36, 0x06, 0x2c, 0xb6, 0x01, 0x4d, 0x38, 0x07, 0x2c, 0xb6, 0x00, 0xb9, 0x15, 0x06, 0x9f, 0x00, 0x05, 0x03, 0xac, 0x15, 0x06, 0x9a, 0x00, 0x24, 0x19, 0x04, 0x03, 0x31, 0x17, 0x07, 0x8d, 0x97, 0x99, 0x00, 0x19, 0x19, 0x04, 0x03, 0x31, 0x19, 0x04, 0x03, 0x31, 0x97, 0x99, 0x00, 0x0b, 0x17, 0x07, 0x17, 0x07, 0x95, 0x9a, 0x00, 0x05, 0x03, 0xac, 0xa7, 0x00, 0x42, 0x2b, 0x2a, 0x15, 0x05, 0x04, 0x60, 0x2e, 0x2d, 0xb8, 0x01, 0x4e, 0x36, 0x06, 0x2c, 0x2a, 0x15, 0x05, 0x04, 0x60, 0x2e, 0xb6, 0x01, 0x50, 0x36, 0x07, 0x2c, 0xb6, 0x00, 0xb9, 0x15, 0x06, 0x9f, 0x00, 0x05, 0x03, 0xac, 0x15, 0x06, 0x9a, 0x00, 0x16, 0x2d, 0x03, 0x2f, 0x15, 0x07, 0x99, 0x00, 0x07, 0x0a, 0xa7, 0x00, 0x04, 0x09, 0x94, 0x99, 0x00, 0x05, 0x03, 0xac, 0xa7, 0x00, 0x03, 0x84, 0x05, 0x07, 0xa7, 0xf2, 0x7f]⟩
def zw_27 : ByteArray := ⟨#[0x06, 0x9a, 0x00, 0x16, 0x2d, 0x03, 0x2f, 0x15, 0x07, 0x99, 0x00, 0x07, 0x0a, 0xa7, 0x00, 0x04, 0x09, 0x94, 0x99, 0x00, 0x05, 0x03, 0xac, 0xa7, 0x00, 0x03, 0x84, 0x05, 0x07, 0xa7, 0xf2, 0x7f, 0x04, 0xac]⟩
def zwn : List ByteArray := [zw_0, zw_1, zw_2, zw_3, zw_4, zw_5, zw_6, zw_7, zw_8, zw_9, zw_10, zw_11, zw_12, zw_13, zw_14, zw_15, zw_16, zw_17, zw_18, zw_19, zw_20, zw_21, zw_22, zw_23, zw_24, zw_25, zw_26, zw_27]
theorem zwi_0 : zWin code zw_0 (128 * 0) := by unfold zWin; decide +kernel
theorem zwi_1 : zWin code zw_1 (128 * 1) := by unfold zWin; decide +kernel
theorem zwi_2 : zWin code zw_2 (128 * 2) := by unfold zWin; decide +kernel
theorem zwi_3 : zWin code zw_3 (128 * 3) := by unfold zWin; decide +kernel
theorem zwi_4 : zWin code zw_4 (128 * 4) := by unfold zWin; decide +kernel
theorem zwi_5 : zWin code zw_5 (128 * 5) := by unfold zWin; decide +kernel
theorem zwi_6 : zWin code zw_6 (128 * 6) := by unfold zWin; decide +kernel
theorem zwi_7 : zWin code zw_7 (128 * 7) := by unfold zWin; decide +kernel
theorem zwi_8 : zWin code zw_8 (128 * 8) := by unfold zWin; decide +kernel
theorem zwi_9 : zWin code zw_9 (128 * 9) := by unfold zWin; decide +kernel
theorem zwi_10 : zWin code zw_10 (128 * 10) := by unfold zWin; decide +kernel
theorem zwi_11 : zWin code zw_11 (128 * 11) := by unfold zWin; decide +kernel
theorem zwi_12 : zWin code zw_12 (128 * 12) := by unfold zWin; decide +kernel
theorem zwi_13 : zWin code zw_13 (128 * 13) := by unfold zWin; decide +kernel
theorem zwi_14 : zWin code zw_14 (128 * 14) := by unfold zWin; decide +kernel
theorem zwi_15 : zWin code zw_15 (128 * 15) := by unfold zWin; decide +kernel
theorem zwi_16 : zWin code zw_16 (128 * 16) := by unfold zWin; decide +kernel
theorem zwi_17 : zWin code zw_17 (128 * 17) := by unfold zWin; decide +kernel
theorem zwi_18 : zWin code zw_18 (128 * 18) := by unfold zWin; decide +kernel
theorem zwi_19 : zWin code zw_19 (128 * 19) := by unfold zWin; decide +kernel
theorem zwi_20 : zWin code zw_20 (128 * 20) := by unfold zWin; decide +kernel
theorem zwi_21 : zWin code zw_21 (128 * 21) := by unfold zWin; decide +kernel
theorem zwi_22 : zWin code zw_22 (128 * 22) := by unfold zWin; decide +kernel
theorem zwi_23 : zWin code zw_23 (128 * 23) := by unfold zWin; decide +kernel
theorem zwi_24 : zWin code zw_24 (128 * 24) := by unfold zWin; decide +kernel
theorem zwi_25 : zWin code zw_25 (128 * 25) := by unfold zWin; decide +kernel
theorem zwi_26 : zWin code zw_26 (128 * 26) := by unfold zWin; decide +kernel
theorem zwi_27 : zWin code zw_27 (128 * 27) := by unfold zWin; decide +kernel
theorem zwn_ok : ∀ j b, zwn[j]? = some b → zWin (zm_b zMb) b (128 * j) := by
  intro j b h
  match j, h with
  | 0, h => cases h; exact zwi_0
  | 1, h => cases h; exact zwi_1
  | 2, h => cases h; exact zwi_2
  | 3, h => cases h; exact zwi_3
  | 4, h => cases h; exact zwi_4
  | 5, h => cases h; exact zwi_5
  | 6, h => cases h; exact zwi_6
  | 7, h => cases h; exact zwi_7
  | 8, h => cases h; exact zwi_8
  | 9, h => cases h; exact zwi_9
  | 10, h => cases h; exact zwi_10
  | 11, h => cases h; exact zwi_11
  | 12, h => cases h; exact zwi_12
  | 13, h => cases h; exact zwi_13
  | 14, h => cases h; exact zwi_14
  | 15, h => cases h; exact zwi_15
  | 16, h => cases h; exact zwi_16
  | 17, h => cases h; exact zwi_17
  | 18, h => cases h; exact zwi_18
  | 19, h => cases h; exact zwi_19
  | 20, h => cases h; exact zwi_20
  | 21, h => cases h; exact zwi_21
  | 22, h => cases h; exact zwi_22
  | 23, h => cases h; exact zwi_23
  | 24, h => cases h; exact zwi_24
  | 25, h => cases h; exact zwi_25
  | 26, h => cases h; exact zwi_26
  | 27, h => cases h; exact zwi_27
  | k9 + 28, h => cases h
theorem zMb_eq : zm_code zMb = zMb_0 ++ (zMb_1 ++ (zMb_2 ++ (zMb_3 ++ (zMb_4 ++ (zMb_5 ++ (zMb_6 ++ (zMb_7 ++ (zMb_8 ++ (zMb_9 ++ (zMb_10 ++ (zMb_11 ++ (zMb_12 ++ (zMb_13 ++ (zMb_14 ++ (zMb_15 ++ (zMb_16 ++ (zMb_17 ++ (zMb_18 ++ (zMb_19 ++ (zMb_20 ++ (zMb_21 ++ (zMb_22 ++ (zMb_23 ++ (zMb_24 ++ (zMb_25 ++ (zMb_26 ++ (zMb_27 ++ (zMb_28 ++ (zMb_29 ++ (zMb_30 ++ (zMb_31 ++ (zMb_32 ++ (zMb_33 ++ (zMb_34 ++ (zMb_35 ++ (zMb_36 ++ (zMb_37 ++ (zMb_38 ++ (zMb_39 ++ (zMb_40 ++ (zMb_41 ++ (zMb_42 ++ (zMb_43 ++ (zMb_44 ++ (zMb_45 ++ (zMb_46 ++ (zMb_47 ++ (zMb_48 ++ (zMb_49 ++ (zMb_50 ++ (zMb_51 ++ (zMb_52 ++ (zMb_53 ++ (zMb_54 ++ (zMb_55))))))))))))))))))))))))))))))))))))))))))))))))))))))) := by decide +kernel
theorem zcb_0 : ∀ i ∈ zMb_0, zchkK zP zMb zwn i = true := by decide +kernel
theorem zcb_1 : ∀ i ∈ zMb_1, zchkK zP zMb zwn i = true := by decide +kernel
theorem zcb_2 : ∀ i ∈ zMb_2, zchkK zP zMb zwn i = true := by decide +kernel
theorem zcb_3 : ∀ i ∈ zMb_3, zchkK zP zMb zwn i = true := by decide +kernel
theorem zcb_4 : ∀ i ∈ zMb_4, zchkK zP zMb zwn i = true := by decide +kernel
theorem zcb_5 : ∀ i ∈ zMb_5, zchkK zP zMb zwn i = true := by decide +kernel
theorem zcb_6 : ∀ i ∈ zMb_6, zchkK zP zMb zwn i = true := by decide +kernel
theorem zcb_7 : ∀ i ∈ zMb_7, zchkK zP zMb zwn i = true := by decide +kernel
theorem zcb_8 : ∀ i ∈ zMb_8, zchkK zP zMb zwn i = true := by decide +kernel
theorem zcb_9 : ∀ i ∈ zMb_9, zchkK zP zMb zwn i = true := by decide +kernel
theorem zcb_10 : ∀ i ∈ zMb_10, zchkK zP zMb zwn i = true := by decide +kernel
theorem zcb_11 : ∀ i ∈ zMb_11, zchkK zP zMb zwn i = true := by decide +kernel
theorem zcb_12 : ∀ i ∈ zMb_12, zchkK zP zMb zwn i = true := by decide +kernel
theorem zcb_13 : ∀ i ∈ zMb_13, zchkK zP zMb zwn i = true := by decide +kernel
theorem zcb_14 : ∀ i ∈ zMb_14, zchkK zP zMb zwn i = true := by decide +kernel
theorem zcb_15 : ∀ i ∈ zMb_15, zchkK zP zMb zwn i = true := by decide +kernel
theorem zcb_16 : ∀ i ∈ zMb_16, zchkK zP zMb zwn i = true := by decide +kernel
theorem zcb_17 : ∀ i ∈ zMb_17, zchkK zP zMb zwn i = true := by decide +kernel
theorem zcb_18 : ∀ i ∈ zMb_18, zchkK zP zMb zwn i = true := by decide +kernel
theorem zcb_19 : ∀ i ∈ zMb_19, zchkK zP zMb zwn i = true := by decide +kernel
theorem zcb_20 : ∀ i ∈ zMb_20, zchkK zP zMb zwn i = true := by decide +kernel
theorem zcb_21 : ∀ i ∈ zMb_21, zchkK zP zMb zwn i = true := by decide +kernel
theorem zcb_22 : ∀ i ∈ zMb_22, zchkK zP zMb zwn i = true := by decide +kernel
theorem zcb_23 : ∀ i ∈ zMb_23, zchkK zP zMb zwn i = true := by decide +kernel
theorem zcb_24 : ∀ i ∈ zMb_24, zchkK zP zMb zwn i = true := by decide +kernel
theorem zcb_25 : ∀ i ∈ zMb_25, zchkK zP zMb zwn i = true := by decide +kernel
theorem zcb_26 : ∀ i ∈ zMb_26, zchkK zP zMb zwn i = true := by decide +kernel
theorem zcb_27 : ∀ i ∈ zMb_27, zchkK zP zMb zwn i = true := by decide +kernel
theorem zcb_28 : ∀ i ∈ zMb_28, zchkK zP zMb zwn i = true := by decide +kernel
theorem zcb_29 : ∀ i ∈ zMb_29, zchkK zP zMb zwn i = true := by decide +kernel
theorem zcb_30 : ∀ i ∈ zMb_30, zchkK zP zMb zwn i = true := by decide +kernel
theorem zcb_31 : ∀ i ∈ zMb_31, zchkK zP zMb zwn i = true := by decide +kernel
theorem zcb_32 : ∀ i ∈ zMb_32, zchkK zP zMb zwn i = true := by decide +kernel
theorem zcb_33 : ∀ i ∈ zMb_33, zchkK zP zMb zwn i = true := by decide +kernel
theorem zcb_34 : ∀ i ∈ zMb_34, zchkK zP zMb zwn i = true := by decide +kernel
theorem zcb_35 : ∀ i ∈ zMb_35, zchkK zP zMb zwn i = true := by decide +kernel
theorem zcb_36 : ∀ i ∈ zMb_36, zchkK zP zMb zwn i = true := by decide +kernel
theorem zcb_37 : ∀ i ∈ zMb_37, zchkK zP zMb zwn i = true := by decide +kernel
theorem zcb_38 : ∀ i ∈ zMb_38, zchkK zP zMb zwn i = true := by decide +kernel
theorem zcb_39 : ∀ i ∈ zMb_39, zchkK zP zMb zwn i = true := by decide +kernel
theorem zcb_40 : ∀ i ∈ zMb_40, zchkK zP zMb zwn i = true := by decide +kernel
theorem zcb_41 : ∀ i ∈ zMb_41, zchkK zP zMb zwn i = true := by decide +kernel
theorem zcb_42 : ∀ i ∈ zMb_42, zchkK zP zMb zwn i = true := by decide +kernel
theorem zcb_43 : ∀ i ∈ zMb_43, zchkK zP zMb zwn i = true := by decide +kernel
theorem zcb_44 : ∀ i ∈ zMb_44, zchkK zP zMb zwn i = true := by decide +kernel
theorem zcb_45 : ∀ i ∈ zMb_45, zchkK zP zMb zwn i = true := by decide +kernel
theorem zcb_46 : ∀ i ∈ zMb_46, zchkK zP zMb zwn i = true := by decide +kernel
theorem zcb_47 : ∀ i ∈ zMb_47, zchkK zP zMb zwn i = true := by decide +kernel
theorem zcb_48 : ∀ i ∈ zMb_48, zchkK zP zMb zwn i = true := by decide +kernel
theorem zcb_49 : ∀ i ∈ zMb_49, zchkK zP zMb zwn i = true := by decide +kernel
theorem zcb_50 : ∀ i ∈ zMb_50, zchkK zP zMb zwn i = true := by decide +kernel
theorem zcb_51 : ∀ i ∈ zMb_51, zchkK zP zMb zwn i = true := by decide +kernel
theorem zcb_52 : ∀ i ∈ zMb_52, zchkK zP zMb zwn i = true := by decide +kernel
theorem zcb_53 : ∀ i ∈ zMb_53, zchkK zP zMb zwn i = true := by decide +kernel
theorem zcb_54 : ∀ i ∈ zMb_54, zchkK zP zMb zwn i = true := by decide +kernel
theorem zcb_55 : ∀ i ∈ zMb_55, zchkK zP zMb zwn i = true := by decide +kernel
theorem zcbAll : ∀ i ∈ zm_code zMb, zchkI zP zMb i = true := by
  rw [zMb_eq]
  exact fun i hi => zchkK_ok zwn_ok ((List.forall_mem_append.mpr ⟨zcb_0, List.forall_mem_append.mpr ⟨zcb_1, List.forall_mem_append.mpr ⟨zcb_2, List.forall_mem_append.mpr ⟨zcb_3, List.forall_mem_append.mpr ⟨zcb_4, List.forall_mem_append.mpr ⟨zcb_5, List.forall_mem_append.mpr ⟨zcb_6, List.forall_mem_append.mpr ⟨zcb_7, List.forall_mem_append.mpr ⟨zcb_8, List.forall_mem_append.mpr ⟨zcb_9, List.forall_mem_append.mpr ⟨zcb_10, List.forall_mem_append.mpr ⟨zcb_11, List.forall_mem_append.mpr ⟨zcb_12, List.forall_mem_append.mpr ⟨zcb_13, List.forall_mem_append.mpr ⟨zcb_14, List.forall_mem_append.mpr ⟨zcb_15, List.forall_mem_append.mpr ⟨zcb_16, List.forall_mem_append.mpr ⟨zcb_17, List.forall_mem_append.mpr ⟨zcb_18, List.forall_mem_append.mpr ⟨zcb_19, List.forall_mem_append.mpr ⟨zcb_20, List.forall_mem_append.mpr ⟨zcb_21, List.forall_mem_append.mpr ⟨zcb_22, List.forall_mem_append.mpr ⟨zcb_23, List.forall_mem_append.mpr ⟨zcb_24, List.forall_mem_append.mpr ⟨zcb_25, List.forall_mem_append.mpr ⟨zcb_26, List.forall_mem_append.mpr ⟨zcb_27, List.forall_mem_append.mpr ⟨zcb_28, List.forall_mem_append.mpr ⟨zcb_29, List.forall_mem_append.mpr ⟨zcb_30, List.forall_mem_append.mpr ⟨zcb_31, List.forall_mem_append.mpr ⟨zcb_32, List.forall_mem_append.mpr ⟨zcb_33, List.forall_mem_append.mpr ⟨zcb_34, List.forall_mem_append.mpr ⟨zcb_35, List.forall_mem_append.mpr ⟨zcb_36, List.forall_mem_append.mpr ⟨zcb_37, List.forall_mem_append.mpr ⟨zcb_38, List.forall_mem_append.mpr ⟨zcb_39, List.forall_mem_append.mpr ⟨zcb_40, List.forall_mem_append.mpr ⟨zcb_41, List.forall_mem_append.mpr ⟨zcb_42, List.forall_mem_append.mpr ⟨zcb_43, List.forall_mem_append.mpr ⟨zcb_44, List.forall_mem_append.mpr ⟨zcb_45, List.forall_mem_append.mpr ⟨zcb_46, List.forall_mem_append.mpr ⟨zcb_47, List.forall_mem_append.mpr ⟨zcb_48, List.forall_mem_append.mpr ⟨zcb_49, List.forall_mem_append.mpr ⟨zcb_50, List.forall_mem_append.mpr ⟨zcb_51, List.forall_mem_append.mpr ⟨zcb_52, List.forall_mem_append.mpr ⟨zcb_53, List.forall_mem_append.mpr ⟨zcb_54, zcb_55⟩⟩⟩⟩⟩⟩⟩⟩⟩⟩⟩⟩⟩⟩⟩⟩⟩⟩⟩⟩⟩⟩⟩⟩⟩⟩⟩⟩⟩⟩⟩⟩⟩⟩⟩⟩⟩⟩⟩⟩⟩⟩⟩⟩⟩⟩⟩⟩⟩⟩⟩⟩⟩⟩⟩ : ∀ i ∈ _, zchkK zP zMb zwn i = true) i hi)
theorem zc_b : zchk zP zMb := ⟨zcbAll, by decide +kernel, by decide +kernel, [], by decide +kernel⟩
end
section
/-! THE RUNS -/
set_option maxRecDepth 100000 in
def zG0 : zH := [(0, 13, [(3, 1), (3, 2), (3, 3), (3, 5), (3, 36), (3, 37), (0, 0), (0, 0)]), (0, 2, [(0, 0), (10, 0), (0, 0)]), (0, 2, [(0, 0), (10, 0), (0, 0)]), (0, 3, [(3, 4)]), (1, 0, [(0, 4294967295), (0, 4294967295), (0, 4294967295), (0, 4294967295), (0, 4294967295), (0, 4294967295)]), (0, 7, [(3, 6), (3, 13), (3, 20), (3, 27), (3, 34), (3, 35)]), (7, 0, [(3, 7), (3, 8), (3, 9), (3, 10), (3, 11), (3, 12)]), (1, 0, [(0, 0), (0, 0), (0, 0), (0, 0), (0, 0), (0, 0), (0, 0), (0, 0), (0, 0), (0, 0), (0, 0), (0, 0), (0, 0), (0, 0), (0, 0), (0, 0)]), (1, 0, [(0, 0), (0, 0), (0, 0), (0, 0), (0, 0), (0, 0), (0, 0), (0, 0), (0, 0), (0, 0), (0, 0), (0, 0), (0, 0), (0, 0), (0, 0), (0, 0)]), (1, 0, [(0, 0), (0, 0), (0, 0), (0, 0), (0, 0), (0, 0), (0, 0), (0, 0), (0, 0), (0, 0), (0, 0), (0, 0), (0, 0), (0, 0), (0, 0), (0, 0)]), (1, 0, [(0, 0), (0, 0), (0, 0), (0, 0), (0, 0), (0, 0), (0, 0), (0, 0), (0, 0), (0, 0), (0, 0), (0, 0), (0, 0), (0, 0), (0, 0), (0, 0)]), (1, 0, [(0, 0), (0, 0), (0, 0), (0, 0), (0, 0), (0, 0), (0, 0), (0, 0), (0, 0), (0, 0), (0, 0), (0, 0), (0, 0), (0, 0), (0, 0), (0, 0)]), (1, 0, [(0, 0), (0, 0), (0, 0), (0, 0), (0, 0), (0, 0), (0, 0), (0, 0), (0, 0), (0, 0), (0, 0), (0, 0), (0, 0), (0, 0), (0, 0), (0, 0)]), (7, 0, [(3, 14), (3, 15), (3, 16), (3, 17), (3, 18), (3, 19)]), (1, 0, [(0, 4294967295), (0, 4294967295), (0, 4294967295), (0, 4294967295), (0, 4294967295), (0, 4294967295), (0, 4294967295), (0, 4294967295), (0, 4294967295), (0, 4294967295), (0, 4294967295), (0, 4294967295), (0, 4294967295), (0, 4294967295), (0, 4294967295), (0, 4294967295)]), (1, 0, [(0, 4294967295), (0, 4294967295), (0, 4294967295), (0, 4294967295), (0, 4294967295), (0, 4294967295), (0, 4294967295), (0, 4294967295), (0, 4294967295), (0, 4294967295), (0, 4294967295), (0, 4294967295), (0, 4294967295), (0, 4294967295), (0, 4294967295), (0, 4294967295)]), (1, 0, [(0, 4294967295), (0, 4294967295), (0, 4294967295), (0, 4294967295), (0, 4294967295), (0, 4294967295), (0, 4294967295), (0, 4294967295), (0, 4294967295), (0, 4294967295), (0, 4294967295), (0, 4294967295), (0, 4294967295), (0, 4294967295), (0, 4294967295), (0, 4294967295)]), (1, 0, [(0, 4294967295), (0, 4294967295), (0, 4294967295), (0, 4294967295), (0, 4294967295), (0, 4294967295), (0, 4294967295), (0, 4294967295), (0, 4294967295), (0, 4294967295), (0, 4294967295), (0, 4294967295), (0, 4294967295), (0, 4294967295), (0, 4294967295), (0, 4294967295)]), (1, 0, [(0, 4294967295), (0, 4294967295), (0, 4294967295), (0, 4294967295), (0, 4294967295), (0, 4294967295), (0, 4294967295), (0, 4294967295), (0, 4294967295), (0, 4294967295), (0, 4294967295), (0, 4294967295), (0, 4294967295), (0, 4294967295), (0, 4294967295), (0, 4294967295)]), (1, 0, [(0, 4294967295), (0, 4294967295), (0, 4294967295), (0, 4294967295), (0, 4294967295), (0, 4294967295), (0, 4294967295), (0, 4294967295), (0, 4294967295), (0, 4294967295), (0, 4294967295), (0, 4294967295), (0, 4294967295), (0, 4294967295), (0, 4294967295), (0, 4294967295)]), (7, 0, [(3, 21), (3, 22), (3, 23), (3, 24), (3, 25), (3, 26)]), (1, 0, [(0, 0), (0, 0), (0, 0), (0, 0), (0, 0), (0, 0), (0, 0), (0, 0), (0, 0), (0, 0), (0, 0), (0, 0), (0, 0), (0, 0), (0, 0), (0, 0)]), (1, 0, [(0, 0), (0, 0), (0, 0), (0, 0), (0, 0), (0, 0), (0, 0), (0, 0), (0, 0), (0, 0), (0, 0), (0, 0), (0, 0), (0, 0), (0, 0), (0, 0)]), (1, 0, [(0, 0), (0, 0), (0, 0), (0, 0), (0, 0), (0, 0), (0, 0), (0, 0), (0, 0), (0, 0), (0, 0), (0, 0), (0, 0), (0, 0), (0, 0), (0, 0)]), (1, 0, [(0, 0), (0, 0), (0, 0), (0, 0), (0, 0), (0, 0), (0, 0), (0, 0), (0, 0), (0, 0), (0, 0), (0, 0), (0, 0), (0, 0), (0, 0), (0, 0)]), (1, 0, [(0, 0), (0, 0), (0, 0), (0, 0), (0, 0), (0, 0), (0, 0), (0, 0), (0, 0), (0, 0), (0, 0), (0, 0), (0, 0), (0, 0), (0, 0), (0, 0)]), (1, 0, [(0, 0), (0, 0), (0, 0), (0, 0), (0, 0), (0, 0), (0, 0), (0, 0), (0, 0), (0, 0), (0, 0), (0, 0), (0, 0), (0, 0), (0, 0), (0, 0)]), (7, 0, [(3, 28), (3, 29), (3, 30), (3, 31), (3, 32), (3, 33)]), (1, 0, [(0, 0), (0, 0), (0, 0), (0, 0), (0, 0), (0, 0), (0, 0), (0, 0), (0, 0), (0, 0), (0, 0), (0, 0), (0, 0), (0, 0), (0, 0), (0, 0)]), (1, 0, [(0, 0), (0, 0), (0, 0), (0, 0), (0, 0), (0, 0), (0, 0), (0, 0), (0, 0), (0, 0), (0, 0), (0, 0), (0, 0), (0, 0), (0, 0), (0, 0)]), (1, 0, [(0, 0), (0, 0), (0, 0), (0, 0), (0, 0), (0, 0), (0, 0), (0, 0), (0, 0), (0, 0), (0, 0), (0, 0), (0, 0), (0, 0), (0, 0), (0, 0)]), (1, 0, [(0, 0), (0, 0), (0, 0), (0, 0), (0, 0), (0, 0), (0, 0), (0, 0), (0, 0), (0, 0), (0, 0), (0, 0), (0, 0), (0, 0), (0, 0), (0, 0)]), (1, 0, [(0, 0), (0, 0), (0, 0), (0, 0), (0, 0), (0, 0), (0, 0), (0, 0), (0, 0), (0, 0), (0, 0), (0, 0), (0, 0), (0, 0), (0, 0), (0, 0)]), (1, 0, [(0, 0), (0, 0), (0, 0), (0, 0), (0, 0), (0, 0), (0, 0), (0, 0), (0, 0), (0, 0), (0, 0), (0, 0), (0, 0), (0, 0), (0, 0), (0, 0)]), (3, 0, [(4, 0), (4, 0), (4, 0), (4, 0), (4, 0), (4, 0), (4, 0), (4, 0), (4, 0), (4, 0), (4, 0), (4, 0), (4, 0), (4, 0), (4, 0), (4, 0)]), (1, 0, [(0, 0), (0, 0), (0, 0), (0, 0), (0, 0), (0, 0), (0, 0), (0, 0), (0, 0), (0, 0), (0, 0), (0, 0), (0, 0), (0, 0), (0, 0), (0, 0)]), (1, 0, [(0, 4294967295), (0, 4294967295), (0, 4294967295), (0, 4294967295), (0, 4294967295), (0, 4294967295), (0, 4294967295), (0, 4294967295), (0, 4294967295), (0, 4294967295), (0, 4294967295), (0, 4294967295), (0, 4294967295), (0, 4294967295), (0, 4294967295), (0, 4294967295)]), (2, 0, [(0, 0), (0, 0), (0, 0), (0, 0), (0, 0), (0, 0)]), (0, 17, [(0, 0), (3, 39), (3, 43), (3, 44), (3, 45), (3, 46), (3, 47), (3, 48), (0, 0), (0, 0), (0, 0), (0, 0), (0, 0)]), (8, 0, [(3, 40), (3, 41), (3, 42)]), (9, 0, [(2, 0), (2, 0), (2, 0), (2, 0)]), (9, 0, [(2, 0), (2, 0), (2, 0), (2, 0)]), (9, 0, [(2, 0), (2, 0), (2, 0), (2, 0)]), (1, 0, [(0, 0), (0, 0), (0, 0)]), (1, 0, [(0, 0), (0, 0), (0, 0)]), (1, 0, [(0, 4294967295), (0, 4294967295), (0, 4294967295), (0, 4294967295), (0, 4294967295), (0, 4294967295), (0, 4294967295), (0, 4294967295), (0, 4294967295), (0, 4294967295), (0, 4294967295), (0, 4294967295), (0, 4294967295), (0, 4294967295), (0, 4294967295), (0, 4294967295)]), (1, 0, [(0, 4294967295), (0, 4294967295), (0, 4294967295), (0, 4294967295), (0, 4294967295), (0, 4294967295)]), (10, 0, [(2, 0), (2, 0), (2, 0), (2, 0), (2, 0), (2, 0), (2, 0), (2, 0), (2, 0), (2, 0), (2, 0), (2, 0), (2, 0), (2, 0), (2, 0), (2, 0), (2, 0), (2, 0), (2, 0), (2, 0), (2, 0), (2, 0), (2, 0), (2, 0)]), (2, 0, [(0, 0), (0, 0), (0, 0), (0, 0), (0, 0), (0, 0)]), (3, 0, [(4, 0)]), (5, 0, [(6, 0)])]
def zS0 : zSt := (28, [(5, (0, 0)), (4, (3, 50)), (3, (3, 49)), (2, (3, 38)), (1, (3, 0)), (0, (8, 0))], [], zG0, 51, 577)
def zfull : List (Nat × Nat) := [(0, 4294967295), (0, 4294967295), (0, 4294967295), (0, 4294967295), (0, 4294967295), (0, 4294967295), (0, 4294967295)]
def zdA : DecidableEq zAV := inferInstance
def zdL : DecidableEq zL := @instDecidableEqList _ (@instDecidableEqProd _ _ inferInstance zdA)
def zdK : DecidableEq (List zAV) := @instDecidableEqList _ zdA
def zdH : DecidableEq zH := @instDecidableEqList _ (@instDecidableEqProd _ _ inferInstance (@instDecidableEqProd _ _ inferInstance zdK))
def zdS : DecidableEq zSt := @instDecidableEqProd _ _ inferInstance (@instDecidableEqProd _ _ zdL (@instDecidableEqProd _ _ zdK (@instDecidableEqProd _ _ zdH inferInstance)))
def zdq : DecidableEq zRes := @instDecidableEqProd _ _ inferInstance (@instDecidableEqProd _ _ inferInstance zdS)
def zpre1 : Bool := match zrun zP (zfull, 64, 9) 4000 zMa (0, [(0, (8, 0))], [], [], 0, 0) with
  | some r => @decide (r = (0, 0, zS0)) (zdq r (0, 0, zS0))
  | none => false
theorem zpre2 : zpre1 = true := by decide +kernel
theorem zb_pre : zrun zP (zfull, 64, 9) 4000 zMa (0, [(0, (8, 0))], [], [], 0, 0) = some (0, 0, zS0) := by
  have h := zpre2
  unfold zpre1 at h
  cases hr : zrun zP (zfull, 64, 9) 4000 zMa (0, [(0, (8, 0))], [], [], 0, 0) with
  | none => rw [hr] at h; cases h
  | some r =>
    rw [hr] at h
    rw [@of_decide_eq_true _ (zdq r (0, 0, zS0)) h]
end
section
/-! THE RUNS -/
def zok1 (r : zRes) : Bool := Nat.beq r.1 0 && (Nat.beq r.2.2.1 3489 && ((match r.2.2.2.2.1 with
  | v :: t => Nat.beq v.1 0 && (Nat.beq v.2 1 && (match t with
    | [] => true
    | _ :: _ => false))
  | [] => false) && (Nat.ble r.2.2.2.2.2.2.1 600006 && Nat.ble r.2.2.2.2.2.2.2 7302024)))
/-- a tree of cuts of the ranges, from its root on: a leaf (0, 0, 0), a cut (1, the cell, the place) -/
def zck : Nat → List (Nat × Nat × Nat) → zEv → Option (List (Nat × Nat × Nat))
  | 0, _, _ => none
  | Nat.succ f, T, ev => match T with
    | [] => none
    | a :: t => match a.1 with
      | 0 => match zrun zP ev 4000 zMb zS0 with
        | some r => cond (zok1 r) (some t) none
        | none => none
      | Nat.succ _ => match zat ev.1 a.2.1 with
        | some q => zset ev.1 a.2.1 (q.1, a.2.2 - 1) fun l1 => match zck f t (l1, ev.2) with
          | some t1 => zset ev.1 a.2.1 (a.2.2, q.2) fun l2 => zck f t1 (l2, ev.2)
          | none => none
        | none => none
theorem zb_l0 : zck 1 [(0, 0, 0)] (zfull, 64, 0) = some [] := by decide +kernel
theorem zb_l1 : zck 1 [(0, 0, 0)] (zfull, 64, 1) = some [] := by decide +kernel
theorem zb_l2 : zck 1 [(0, 0, 0)] (zfull, 64, 2) = some [] := by decide +kernel
theorem zb_l3 : zck 1 [(0, 0, 0)] (zfull, 64, 3) = some [] := by decide +kernel
theorem zb_l4 : zck 1 [(0, 0, 0)] (zfull, 64, 4) = some [] := by decide +kernel
theorem zb_l5 : zck 1 [(0, 0, 0)] (zfull, 64, 5) = some [] := by decide +kernel
theorem zb_l6 : zck 1 [(0, 0, 0)] (zfull, 64, 6) = some [] := by decide +kernel
set_option maxRecDepth 100000 in
theorem zb_0 : zck 1 [(0, 0, 0)] (zfull, 0, 7) = some [] := by decide +kernel
set_option maxRecDepth 100000 in
theorem zb_1 : zck 2 [(1, 1, 2147483648), (0, 0, 0), (0, 0, 0)] (zfull, 1, 7) = some [] := by decide +kernel
set_option maxRecDepth 100000 in
theorem zb_2 : zck 2 [(1, 1, 2147483648), (0, 0, 0), (0, 0, 0)] (zfull, 2, 7) = some [] := by decide +kernel
set_option maxRecDepth 100000 in
theorem zb_3 : zck 2 [(1, 1, 2147483648), (0, 0, 0), (0, 0, 0)] (zfull, 3, 7) = some [] := by decide +kernel
set_option maxRecDepth 100000 in
theorem zb_4 : zck 2 [(1, 1, 2147483648), (0, 0, 0), (0, 0, 0)] (zfull, 4, 7) = some [] := by decide +kernel
set_option maxRecDepth 100000 in
theorem zb_5 : zck 2 [(1, 1, 2147483648), (0, 0, 0), (0, 0, 0)] (zfull, 5, 7) = some [] := by decide +kernel
set_option maxRecDepth 100000 in
theorem zb_6 : zck 2 [(1, 1, 2147483648), (0, 0, 0), (0, 0, 0)] (zfull, 6, 7) = some [] := by decide +kernel
set_option maxRecDepth 100000 in
theorem zb_7 : zck 2 [(1, 1, 2147483648), (0, 0, 0), (0, 0, 0)] (zfull, 7, 7) = some [] := by decide +kernel
set_option maxRecDepth 100000 in
theorem zb_8 : zck 2 [(1, 1, 2147483648), (0, 0, 0), (0, 0, 0)] (zfull, 8, 7) = some [] := by decide +kernel
set_option maxRecDepth 100000 in
theorem zb_9 : zck 2 [(1, 1, 2147483648), (0, 0, 0), (0, 0, 0)] (zfull, 9, 7) = some [] := by decide +kernel
set_option maxRecDepth 100000 in
theorem zb_10 : zck 17 [(1, 1, 2147483648), (0, 0, 0), (1, 1, 2147483663), (1, 1, 2147483649), (0, 0, 0), (1, 1, 2147483650), (0, 0, 0), (1, 1, 2147483651), (0, 0, 0), (1, 1, 2147483652), (0, 0, 0), (1, 1, 2147483653), (0, 0, 0), (1, 1, 2147483654), (0, 0, 0), (1, 1, 2147483655), (0, 0, 0), (1, 1, 2147483656), (0, 0, 0), (1, 1, 2147483657), (0, 0, 0), (1, 1, 2147483658), (0, 0, 0), (1, 1, 2147483659), (0, 0, 0), (1, 1, 2147483660), (0, 0, 0), (1, 1, 2147483661), (0, 0, 0), (1, 1, 2147483662), (0, 0, 0), (0, 0, 0), (1, 1, 2147483664), (0, 0, 0), (0, 0, 0)] (zfull, 10, 7) = some [] := by decide +kernel
set_option maxRecDepth 100000 in
theorem zb_11 : zck 14 [(1, 1, 2147483648), (0, 0, 0), (1, 1, 2147483653), (1, 2, 2147483647), (0, 0, 0), (1, 2, 2147483653), (1, 2, 2147483648), (1, 1, 2147483649), (0, 0, 0), (1, 1, 2147483650), (0, 0, 0), (1, 1, 2147483651), (0, 0, 0), (1, 1, 2147483652), (0, 0, 0), (0, 0, 0), (1, 1, 2147483649), (1, 2, 2147483649), (0, 0, 0), (1, 2, 2147483650), (0, 0, 0), (1, 2, 2147483651), (0, 0, 0), (1, 2, 2147483652), (0, 0, 0), (0, 0, 0), (1, 2, 2147483649), (1, 1, 2147483650), (0, 0, 0), (1, 1, 2147483651), (0, 0, 0), (1, 1, 2147483652), (0, 0, 0), (0, 0, 0), (1, 1, 2147483650), (1, 2, 2147483650), (0, 0, 0), (1, 2, 2147483651), (0, 0, 0), (1, 2, 2147483652), (0, 0, 0), (0, 0, 0), (1, 2, 2147483650), (1, 1, 2147483651), (0, 0, 0), (1, 1, 2147483652), (0, 0, 0), (0, 0, 0), (1, 1, 2147483651), (1, 2, 2147483651), (0, 0, 0), (1, 2, 2147483652), (0, 0, 0), (0, 0, 0), (1, 2, 2147483651), (1, 1, 2147483652), (0, 0, 0), (0, 0, 0), (1, 1, 2147483652), (1, 2, 2147483652), (0, 0, 0), (0, 0, 0), (1, 2, 2147483652), (0, 0, 0), (0, 0, 0), (1, 2, 2147483654), (1, 1, 2147483649), (0, 0, 0), (1, 1, 2147483650), (0, 0, 0), (1, 1, 2147483651), (0, 0, 0), (1, 1, 2147483652), (0, 0, 0), (0, 0, 0), (0, 0, 0), (1, 1, 2147483654), (1, 2, 2147483647), (0, 0, 0), (1, 2, 2147483653), (1, 2, 2147483648), (0, 0, 0), (1, 2, 2147483649), (0, 0, 0), (1, 2, 2147483650), (0, 0, 0), (1, 2, 2147483651), (0, 0, 0), (1, 2, 2147483652), (0, 0, 0), (0, 0, 0), (1, 2, 2147483654), (0, 0, 0), (0, 0, 0), (0, 0, 0)] (zfull, 11, 7) = some [] := by decide +kernel
set_option maxRecDepth 100000 in
theorem zb_12 : zck 5 [(1, 1, 2147483648), (0, 0, 0), (1, 1, 2147483653), (1, 2, 2147483648), (0, 0, 0), (0, 0, 0), (1, 1, 2147483654), (1, 2, 2147483648), (0, 0, 0), (0, 0, 0), (0, 0, 0)] (zfull, 12, 7) = some [] := by decide +kernel
set_option maxRecDepth 100000 in
theorem zb_13 : zck 2 [(1, 1, 2147483648), (0, 0, 0), (0, 0, 0)] (zfull, 13, 7) = some [] := by decide +kernel
set_option maxRecDepth 100000 in
theorem zb_14 : zck 2 [(1, 1, 2147483648), (0, 0, 0), (0, 0, 0)] (zfull, 14, 7) = some [] := by decide +kernel
set_option maxRecDepth 100000 in
theorem zb_15 : zck 2 [(1, 1, 2147483648), (0, 0, 0), (0, 0, 0)] (zfull, 15, 7) = some [] := by decide +kernel
set_option maxRecDepth 100000 in
theorem zb_16 : zck 2 [(1, 1, 2147483648), (0, 0, 0), (0, 0, 0)] (zfull, 16, 7) = some [] := by decide +kernel
set_option maxRecDepth 100000 in
theorem zb_17 : zck 2 [(1, 1, 2147483648), (0, 0, 0), (0, 0, 0)] (zfull, 17, 7) = some [] := by decide +kernel
set_option maxRecDepth 100000 in
theorem zb_18 : zck 2 [(1, 1, 2147483648), (0, 0, 0), (0, 0, 0)] (zfull, 18, 7) = some [] := by decide +kernel
set_option maxRecDepth 100000 in
theorem zb_19 : zck 2 [(1, 1, 2147483648), (0, 0, 0), (0, 0, 0)] (zfull, 19, 7) = some [] := by decide +kernel
set_option maxRecDepth 100000 in
theorem zb_20 : zck 2 [(1, 1, 2147483648), (0, 0, 0), (0, 0, 0)] (zfull, 20, 7) = some [] := by decide +kernel
set_option maxRecDepth 100000 in
theorem zb_21 : zck 2 [(1, 1, 2147483648), (0, 0, 0), (0, 0, 0)] (zfull, 21, 7) = some [] := by decide +kernel
set_option maxRecDepth 100000 in
theorem zb_22 : zck 2 [(1, 1, 2147483648), (0, 0, 0), (0, 0, 0)] (zfull, 22, 7) = some [] := by decide +kernel
set_option maxRecDepth 100000 in
theorem zb_23 : zck 2 [(1, 1, 2147483648), (0, 0, 0), (0, 0, 0)] (zfull, 23, 7) = some [] := by decide +kernel
set_option maxRecDepth 100000 in
theorem zb_24 : zck 2 [(1, 1, 2147483648), (0, 0, 0), (0, 0, 0)] (zfull, 24, 7) = some [] := by decide +kernel
set_option maxRecDepth 100000 in
theorem zb_25 : zck 2 [(1, 1, 2147483648), (0, 0, 0), (0, 0, 0)] (zfull, 25, 7) = some [] := by decide +kernel
set_option maxRecDepth 100000 in
theorem zb_26 : zck 2 [(1, 1, 2147483648), (0, 0, 0), (0, 0, 0)] (zfull, 26, 7) = some [] := by decide +kernel
set_option maxRecDepth 100000 in
theorem zb_27 : zck 2 [(1, 1, 2147483648), (0, 0, 0), (0, 0, 0)] (zfull, 27, 7) = some [] := by decide +kernel
set_option maxRecDepth 100000 in
theorem zb_28 : zck 4 [(1, 1, 2147483648), (0, 0, 0), (1, 1, 2147483653), (0, 0, 0), (1, 1, 2147483654), (0, 0, 0), (0, 0, 0)] (zfull, 28, 7) = some [] := by decide +kernel
set_option maxRecDepth 100000 in
theorem zb_29 : zck 2 [(1, 1, 2147483648), (0, 0, 0), (0, 0, 0)] (zfull, 29, 7) = some [] := by decide +kernel
set_option maxRecDepth 100000 in
theorem zb_30 : zck 2 [(1, 1, 2147483648), (0, 0, 0), (0, 0, 0)] (zfull, 30, 7) = some [] := by decide +kernel
set_option maxRecDepth 100000 in
theorem zb_31 : zck 2 [(1, 1, 2147483648), (0, 0, 0), (0, 0, 0)] (zfull, 31, 7) = some [] := by decide +kernel
set_option maxRecDepth 100000 in
theorem zb_32 : zck 2 [(1, 1, 2147483648), (0, 0, 0), (0, 0, 0)] (zfull, 32, 7) = some [] := by decide +kernel
set_option maxRecDepth 100000 in
theorem zb_33 : zck 2 [(1, 1, 2147483648), (0, 0, 0), (0, 0, 0)] (zfull, 33, 7) = some [] := by decide +kernel
set_option maxRecDepth 100000 in
theorem zb_34 : zck 23 [(1, 1, 2147483648), (0, 0, 0), (1, 1, 2147483653), (1, 2, 2147483648), (0, 0, 0), (1, 2, 2147483663), (1, 1, 2147483649), (1, 2, 2147483649), (0, 0, 0), (1, 2, 2147483650), (0, 0, 0), (1, 2, 2147483651), (0, 0, 0), (1, 2, 2147483652), (0, 0, 0), (1, 2, 2147483653), (0, 0, 0), (1, 2, 2147483654), (0, 0, 0), (1, 2, 2147483655), (0, 0, 0), (1, 2, 2147483656), (0, 0, 0), (1, 2, 2147483657), (0, 0, 0), (1, 2, 2147483658), (0, 0, 0), (1, 2, 2147483659), (0, 0, 0), (1, 2, 2147483660), (0, 0, 0), (1, 2, 2147483661), (0, 0, 0), (1, 2, 2147483662), (0, 0, 0), (0, 0, 0), (1, 1, 2147483650), (1, 2, 2147483649), (0, 0, 0), (1, 2, 2147483650), (0, 0, 0), (1, 2, 2147483651), (0, 0, 0), (1, 2, 2147483652), (0, 0, 0), (1, 2, 2147483653), (0, 0, 0), (1, 2, 2147483654), (0, 0, 0), (1, 2, 2147483655), (0, 0, 0), (1, 2, 2147483656), (0, 0, 0), (1, 2, 2147483657), (0, 0, 0), (1, 2, 2147483658), (0, 0, 0), (1, 2, 2147483659), (0, 0, 0), (1, 2, 2147483660), (0, 0, 0), (1, 2, 2147483661), (0, 0, 0), (1, 2, 2147483662), (0, 0, 0), (0, 0, 0), (1, 1, 2147483651), (1, 2, 2147483649), (0, 0, 0), (1, 2, 2147483650), (0, 0, 0), (1, 2, 2147483651), (0, 0, 0), (1, 2, 2147483652), (0, 0, 0), (1, 2, 2147483653), (0, 0, 0), (1, 2, 2147483654), (0, 0, 0), (1, 2, 2147483655), (0, 0, 0), (1, 2, 2147483656), (0, 0, 0), (1, 2, 2147483657), (0, 0, 0), (1, 2, 2147483658), (0, 0, 0), (1, 2, 2147483659), (0, 0, 0), (1, 2, 2147483660), (0, 0, 0), (1, 2, 2147483661), (0, 0, 0), (1, 2, 2147483662), (0, 0, 0), (0, 0, 0), (1, 1, 2147483652), (1, 2, 2147483649), (0, 0, 0), (1, 2, 2147483650), (0, 0, 0), (1, 2, 2147483651), (0, 0, 0), (1, 2, 2147483652), (0, 0, 0), (1, 2, 2147483653), (0, 0, 0), (1, 2, 2147483654), (0, 0, 0), (1, 2, 2147483655), (0, 0, 0), (1, 2, 2147483656), (0, 0, 0), (1, 2, 2147483657), (0, 0, 0), (1, 2, 2147483658), (0, 0, 0), (1, 2, 2147483659), (0, 0, 0), (1, 2, 2147483660), (0, 0, 0), (1, 2, 2147483661), (0, 0, 0), (1, 2, 2147483662), (0, 0, 0), (0, 0, 0), (1, 2, 2147483649), (0, 0, 0), (1, 2, 2147483650), (0, 0, 0), (1, 2, 2147483651), (0, 0, 0), (1, 2, 2147483652), (0, 0, 0), (1, 2, 2147483653), (0, 0, 0), (1, 2, 2147483654), (0, 0, 0), (1, 2, 2147483655), (0, 0, 0), (1, 2, 2147483656), (0, 0, 0), (1, 2, 2147483657), (0, 0, 0), (1, 2, 2147483658), (0, 0, 0), (1, 2, 2147483659), (0, 0, 0), (1, 2, 2147483660), (0, 0, 0), (1, 2, 2147483661), (0, 0, 0), (1, 2, 2147483662), (0, 0, 0), (0, 0, 0), (1, 2, 2147483664), (1, 1, 2147483649), (0, 0, 0), (1, 1, 2147483650), (0, 0, 0), (1, 1, 2147483651), (0, 0, 0), (1, 1, 2147483652), (0, 0, 0), (0, 0, 0), (0, 0, 0), (1, 1, 2147483654), (1, 2, 2147483648), (0, 0, 0), (1, 2, 2147483663), (1, 2, 2147483649), (0, 0, 0), (1, 2, 2147483650), (0, 0, 0), (1, 2, 2147483651), (0, 0, 0), (1, 2, 2147483652), (0, 0, 0), (1, 2, 2147483653), (0, 0, 0), (1, 2, 2147483654), (0, 0, 0), (1, 2, 2147483655), (0, 0, 0), (1, 2, 2147483656), (0, 0, 0), (1, 2, 2147483657), (0, 0, 0), (1, 2, 2147483658), (0, 0, 0), (1, 2, 2147483659), (0, 0, 0), (1, 2, 2147483660), (0, 0, 0), (1, 2, 2147483661), (0, 0, 0), (1, 2, 2147483662), (0, 0, 0), (0, 0, 0), (1, 2, 2147483664), (0, 0, 0), (0, 0, 0), (0, 0, 0)] (zfull, 34, 7) = some [] := by decide +kernel
set_option maxRecDepth 100000 in
theorem zb_35 : zck 7 [(1, 1, 2147483648), (0, 0, 0), (1, 1, 2147483653), (1, 2, 2147483648), (0, 0, 0), (1, 2, 2147483663), (0, 0, 0), (1, 2, 2147483664), (0, 0, 0), (0, 0, 0), (1, 1, 2147483654), (1, 2, 2147483648), (0, 0, 0), (1, 2, 2147483663), (0, 0, 0), (1, 2, 2147483664), (0, 0, 0), (0, 0, 0), (0, 0, 0)] (zfull, 35, 7) = some [] := by decide +kernel
set_option maxRecDepth 100000 in
theorem zb_36 : zck 23 [(1, 1, 2147483648), (0, 0, 0), (1, 1, 2147483653), (1, 2, 2147483648), (0, 0, 0), (1, 2, 2147483663), (1, 1, 2147483649), (1, 2, 2147483649), (0, 0, 0), (1, 2, 2147483650), (0, 0, 0), (1, 2, 2147483651), (0, 0, 0), (1, 2, 2147483652), (0, 0, 0), (1, 2, 2147483653), (0, 0, 0), (1, 2, 2147483654), (0, 0, 0), (1, 2, 2147483655), (0, 0, 0), (1, 2, 2147483656), (0, 0, 0), (1, 2, 2147483657), (0, 0, 0), (1, 2, 2147483658), (0, 0, 0), (1, 2, 2147483659), (0, 0, 0), (1, 2, 2147483660), (0, 0, 0), (1, 2, 2147483661), (0, 0, 0), (1, 2, 2147483662), (0, 0, 0), (0, 0, 0), (1, 1, 2147483650), (1, 2, 2147483649), (0, 0, 0), (1, 2, 2147483650), (0, 0, 0), (1, 2, 2147483651), (0, 0, 0), (1, 2, 2147483652), (0, 0, 0), (1, 2, 2147483653), (0, 0, 0), (1, 2, 2147483654), (0, 0, 0), (1, 2, 2147483655), (0, 0, 0), (1, 2, 2147483656), (0, 0, 0), (1, 2, 2147483657), (0, 0, 0), (1, 2, 2147483658), (0, 0, 0), (1, 2, 2147483659), (0, 0, 0), (1, 2, 2147483660), (0, 0, 0), (1, 2, 2147483661), (0, 0, 0), (1, 2, 2147483662), (0, 0, 0), (0, 0, 0), (1, 1, 2147483651), (1, 2, 2147483649), (0, 0, 0), (1, 2, 2147483650), (0, 0, 0), (1, 2, 2147483651), (0, 0, 0), (1, 2, 2147483652), (0, 0, 0), (1, 2, 2147483653), (0, 0, 0), (1, 2, 2147483654), (0, 0, 0), (1, 2, 2147483655), (0, 0, 0), (1, 2, 2147483656), (0, 0, 0), (1, 2, 2147483657), (0, 0, 0), (1, 2, 2147483658), (0, 0, 0), (1, 2, 2147483659), (0, 0, 0), (1, 2, 2147483660), (0, 0, 0), (1, 2, 2147483661), (0, 0, 0), (1, 2, 2147483662), (0, 0, 0), (0, 0, 0), (1, 1, 2147483652), (1, 2, 2147483649), (0, 0, 0), (1, 2, 2147483650), (0, 0, 0), (1, 2, 2147483651), (0, 0, 0), (1, 2, 2147483652), (0, 0, 0), (1, 2, 2147483653), (0, 0, 0), (1, 2, 2147483654), (0, 0, 0), (1, 2, 2147483655), (0, 0, 0), (1, 2, 2147483656), (0, 0, 0), (1, 2, 2147483657), (0, 0, 0), (1, 2, 2147483658), (0, 0, 0), (1, 2, 2147483659), (0, 0, 0), (1, 2, 2147483660), (0, 0, 0), (1, 2, 2147483661), (0, 0, 0), (1, 2, 2147483662), (0, 0, 0), (0, 0, 0), (1, 2, 2147483649), (0, 0, 0), (1, 2, 2147483650), (0, 0, 0), (1, 2, 2147483651), (0, 0, 0), (1, 2, 2147483652), (0, 0, 0), (1, 2, 2147483653), (0, 0, 0), (1, 2, 2147483654), (0, 0, 0), (1, 2, 2147483655), (0, 0, 0), (1, 2, 2147483656), (0, 0, 0), (1, 2, 2147483657), (0, 0, 0), (1, 2, 2147483658), (0, 0, 0), (1, 2, 2147483659), (0, 0, 0), (1, 2, 2147483660), (0, 0, 0), (1, 2, 2147483661), (0, 0, 0), (1, 2, 2147483662), (0, 0, 0), (0, 0, 0), (1, 2, 2147483664), (1, 1, 2147483649), (0, 0, 0), (1, 1, 2147483650), (0, 0, 0), (1, 1, 2147483651), (0, 0, 0), (1, 1, 2147483652), (0, 0, 0), (0, 0, 0), (0, 0, 0), (1, 1, 2147483654), (1, 2, 2147483648), (0, 0, 0), (1, 2, 2147483663), (1, 2, 2147483649), (0, 0, 0), (1, 2, 2147483650), (0, 0, 0), (1, 2, 2147483651), (0, 0, 0), (1, 2, 2147483652), (0, 0, 0), (1, 2, 2147483653), (0, 0, 0), (1, 2, 2147483654), (0, 0, 0), (1, 2, 2147483655), (0, 0, 0), (1, 2, 2147483656), (0, 0, 0), (1, 2, 2147483657), (0, 0, 0), (1, 2, 2147483658), (0, 0, 0), (1, 2, 2147483659), (0, 0, 0), (1, 2, 2147483660), (0, 0, 0), (1, 2, 2147483661), (0, 0, 0), (1, 2, 2147483662), (0, 0, 0), (0, 0, 0), (1, 2, 2147483664), (0, 0, 0), (0, 0, 0), (0, 0, 0)] (zfull, 36, 7) = some [] := by decide +kernel
set_option maxRecDepth 100000 in
theorem zb_37 : zck 17 [(1, 1, 2147483648), (0, 0, 0), (1, 1, 2147483663), (1, 1, 2147483649), (0, 0, 0), (1, 1, 2147483650), (0, 0, 0), (1, 1, 2147483651), (0, 0, 0), (1, 1, 2147483652), (0, 0, 0), (1, 1, 2147483653), (0, 0, 0), (1, 1, 2147483654), (0, 0, 0), (1, 1, 2147483655), (0, 0, 0), (1, 1, 2147483656), (0, 0, 0), (1, 1, 2147483657), (0, 0, 0), (1, 1, 2147483658), (0, 0, 0), (1, 1, 2147483659), (0, 0, 0), (1, 1, 2147483660), (0, 0, 0), (1, 1, 2147483661), (0, 0, 0), (1, 1, 2147483662), (0, 0, 0), (0, 0, 0), (1, 1, 2147483664), (0, 0, 0), (0, 0, 0)] (zfull, 37, 7) = some [] := by decide +kernel
set_option maxRecDepth 100000 in
theorem zb_38 : zck 4 [(1, 1, 2147483648), (0, 0, 0), (1, 1, 2147483663), (0, 0, 0), (1, 1, 2147483664), (0, 0, 0), (0, 0, 0)] (zfull, 38, 7) = some [] := by decide +kernel
set_option maxRecDepth 100000 in
theorem zb_39 : zck 17 [(1, 1, 2147483648), (0, 0, 0), (1, 1, 2147483663), (1, 1, 2147483649), (0, 0, 0), (1, 1, 2147483650), (0, 0, 0), (1, 1, 2147483651), (0, 0, 0), (1, 1, 2147483652), (0, 0, 0), (1, 1, 2147483653), (0, 0, 0), (1, 1, 2147483654), (0, 0, 0), (1, 1, 2147483655), (0, 0, 0), (1, 1, 2147483656), (0, 0, 0), (1, 1, 2147483657), (0, 0, 0), (1, 1, 2147483658), (0, 0, 0), (1, 1, 2147483659), (0, 0, 0), (1, 1, 2147483660), (0, 0, 0), (1, 1, 2147483661), (0, 0, 0), (1, 1, 2147483662), (0, 0, 0), (0, 0, 0), (1, 1, 2147483664), (0, 0, 0), (0, 0, 0)] (zfull, 39, 7) = some [] := by decide +kernel
set_option maxRecDepth 100000 in
theorem zb_40 : zck 9 [(1, 2, 2147483648), (1, 1, 2147483648), (0, 0, 0), (1, 1, 2147483653), (1, 1, 2147483649), (0, 0, 0), (1, 1, 2147483650), (0, 0, 0), (1, 1, 2147483651), (0, 0, 0), (1, 1, 2147483652), (0, 0, 0), (0, 0, 0), (1, 1, 2147483654), (0, 0, 0), (0, 0, 0), (1, 2, 2147483649), (1, 1, 2147483648), (0, 0, 0), (1, 1, 2147483653), (1, 1, 2147483649), (0, 0, 0), (1, 1, 2147483650), (0, 0, 0), (1, 1, 2147483651), (0, 0, 0), (1, 1, 2147483652), (0, 0, 0), (0, 0, 0), (1, 1, 2147483654), (0, 0, 0), (0, 0, 0), (1, 1, 2147483648), (0, 0, 0), (1, 1, 2147483653), (1, 1, 2147483649), (0, 0, 0), (1, 1, 2147483650), (0, 0, 0), (1, 1, 2147483651), (0, 0, 0), (1, 1, 2147483652), (0, 0, 0), (0, 0, 0), (1, 1, 2147483654), (0, 0, 0), (0, 0, 0)] (zfull, 40, 7) = some [] := by decide +kernel
set_option maxRecDepth 100000 in
theorem zb_41 : zck 2 [(1, 1, 2147483648), (0, 0, 0), (0, 0, 0)] (zfull, 41, 7) = some [] := by decide +kernel
set_option maxRecDepth 100000 in
theorem zb_43 : zck 1 [(0, 0, 0)] (zfull, 43, 7) = some [] := by decide +kernel
set_option maxRecDepth 100000 in
theorem zb_44 : zck 17 [(1, 1, 2147483648), (0, 0, 0), (1, 1, 2147483663), (1, 1, 2147483649), (0, 0, 0), (1, 1, 2147483650), (0, 0, 0), (1, 1, 2147483651), (0, 0, 0), (1, 1, 2147483652), (0, 0, 0), (1, 1, 2147483653), (0, 0, 0), (1, 1, 2147483654), (0, 0, 0), (1, 1, 2147483655), (0, 0, 0), (1, 1, 2147483656), (0, 0, 0), (1, 1, 2147483657), (0, 0, 0), (1, 1, 2147483658), (0, 0, 0), (1, 1, 2147483659), (0, 0, 0), (1, 1, 2147483660), (0, 0, 0), (1, 1, 2147483661), (0, 0, 0), (1, 1, 2147483662), (0, 0, 0), (0, 0, 0), (1, 1, 2147483664), (0, 0, 0), (0, 0, 0)] (zfull, 44, 7) = some [] := by decide +kernel
set_option maxRecDepth 100000 in
theorem zb_45 : zck 1 [(0, 0, 0)] (zfull, 45, 7) = some [] := by decide +kernel
set_option maxRecDepth 100000 in
theorem zb_46 : zck 7 [(1, 1, 2147483648), (0, 0, 0), (1, 1, 2147483653), (1, 1, 2147483649), (0, 0, 0), (1, 1, 2147483650), (0, 0, 0), (1, 1, 2147483651), (0, 0, 0), (1, 1, 2147483652), (0, 0, 0), (0, 0, 0), (1, 1, 2147483654), (0, 0, 0), (0, 0, 0)] (zfull, 46, 7) = some [] := by decide +kernel
set_option maxRecDepth 100000 in
theorem zb_47 : zck 1 [(0, 0, 0)] (zfull, 47, 7) = some [] := by decide +kernel
set_option maxRecDepth 100000 in
theorem zb_48 : zck 1 [(0, 0, 0)] (zfull, 48, 7) = some [] := by decide +kernel
set_option maxRecDepth 100000 in
theorem zb_49 : zck 1 [(0, 0, 0)] (zfull, 49, 7) = some [] := by decide +kernel
set_option maxRecDepth 100000 in
theorem zb_50 : zck 1 [(0, 0, 0)] (zfull, 50, 7) = some [] := by decide +kernel
set_option maxRecDepth 100000 in
theorem zb_51 : zck 1 [(0, 0, 0)] (zfull, 51, 7) = some [] := by decide +kernel
set_option maxRecDepth 100000 in
theorem zb_52 : zck 1 [(0, 0, 0)] (zfull, 52, 7) = some [] := by decide +kernel
set_option maxRecDepth 100000 in
theorem zb_53 : zck 1 [(0, 0, 0)] (zfull, 53, 7) = some [] := by decide +kernel
set_option maxRecDepth 100000 in
theorem zb_54 : zck 1 [(0, 0, 0)] (zfull, 54, 7) = some [] := by decide +kernel
set_option maxRecDepth 100000 in
theorem zb_55 : zck 1 [(0, 0, 0)] (zfull, 55, 7) = some [] := by decide +kernel
set_option maxRecDepth 100000 in
theorem zb_56 : zck 1 [(0, 0, 0)] (zfull, 56, 7) = some [] := by decide +kernel
set_option maxRecDepth 100000 in
theorem zb_57 : zck 1 [(0, 0, 0)] (zfull, 57, 7) = some [] := by decide +kernel
set_option maxRecDepth 100000 in
theorem zb_58 : zck 1 [(0, 0, 0)] (zfull, 58, 7) = some [] := by decide +kernel
set_option maxRecDepth 100000 in
theorem zb_59 : zck 1 [(0, 0, 0)] (zfull, 59, 7) = some [] := by decide +kernel
set_option maxRecDepth 100000 in
theorem zb_60 : zck 1 [(0, 0, 0)] (zfull, 60, 7) = some [] := by decide +kernel
set_option maxRecDepth 100000 in
theorem zb_61 : zck 1 [(0, 0, 0)] (zfull, 61, 7) = some [] := by decide +kernel
set_option maxRecDepth 100000 in
theorem zb_62 : zck 1 [(0, 0, 0)] (zfull, 62, 7) = some [] := by decide +kernel
set_option maxRecDepth 100000 in
theorem zb_63 : zck 1 [(0, 0, 0)] (zfull, 63, 7) = some [] := by decide +kernel
end
section
/-! THE LONG RUNS, by pieces of one cell -/
def zcov : Nat → List (Nat × Nat) → Bool
  | s, [] => Nat.ble 4294967296 s
  | s, q :: t => Nat.ble q.1 s && zcov (q.2 + 1) t
theorem zcov_ok : ∀ (l : List (Nat × Nat)) (s x : Nat), zcov s l = true → s ≤ x → x < 4294967296 → ∃ q ∈ l, q.1 ≤ x ∧ x ≤ q.2
  | [], s, x, h, h1, h2 => by
    have h : 4294967296 ≤ s := Nat.le_of_ble_eq_true h
    omega
  | q :: t, s, x, h, h1, h2 => by
    unfold zcov at h
    obtain ⟨h3, h4⟩ := zand h
    have h3 : q.1 ≤ s := Nat.le_of_ble_eq_true h3
    rcases Nat.lt_or_ge q.2 x with h5 | h5
    · obtain ⟨q1, hm, hq⟩ := zcov_ok t _ x h4 h5 h2
      exact ⟨q1, List.mem_cons_of_mem _ hm, hq⟩
    · exact ⟨q, List.mem_cons_self, by omega, h5⟩
theorem zb_42_0 : zck 1 [(0, 0, 0)] (zfull.set 1 (0, 2147483648), 42, 7) = some [] := by decide +kernel
theorem zb_42_1 : zck 1 [(0, 0, 0)] (zfull.set 1 (2147483649, 2147483649), 42, 7) = some [] := by decide +kernel
theorem zb_42_2 : zck 1 [(0, 0, 0)] (zfull.set 1 (2147483650, 2147483650), 42, 7) = some [] := by decide +kernel
theorem zb_42_3 : zck 1 [(0, 0, 0)] (zfull.set 1 (2147483651, 2147483651), 42, 7) = some [] := by decide +kernel
theorem zb_42_4 : zck 1 [(0, 0, 0)] (zfull.set 1 (2147483652, 2147483652), 42, 7) = some [] := by decide +kernel
theorem zb_42_5 : zck 1 [(0, 0, 0)] (zfull.set 1 (2147483653, 2147483653), 42, 7) = some [] := by decide +kernel
theorem zb_42_6 : zck 1 [(0, 0, 0)] (zfull.set 1 (2147483654, 2147483654), 42, 7) = some [] := by decide +kernel
theorem zb_42_7 : zck 1 [(0, 0, 0)] (zfull.set 1 (2147483655, 2147483655), 42, 7) = some [] := by decide +kernel
theorem zb_42_8 : zck 1 [(0, 0, 0)] (zfull.set 1 (2147483656, 2147483656), 42, 7) = some [] := by decide +kernel
theorem zb_42_9 : zck 1 [(0, 0, 0)] (zfull.set 1 (2147483657, 2147483657), 42, 7) = some [] := by decide +kernel
theorem zb_42_10 : zck 1 [(0, 0, 0)] (zfull.set 1 (2147483658, 2147483658), 42, 7) = some [] := by decide +kernel
theorem zb_42_11 : zck 1 [(0, 0, 0)] (zfull.set 1 (2147483659, 2147483659), 42, 7) = some [] := by decide +kernel
theorem zb_42_12 : zck 1 [(0, 0, 0)] (zfull.set 1 (2147483660, 2147483660), 42, 7) = some [] := by decide +kernel
theorem zb_42_13 : zck 1 [(0, 0, 0)] (zfull.set 1 (2147483661, 2147483661), 42, 7) = some [] := by decide +kernel
theorem zb_42_14 : zck 1 [(0, 0, 0)] (zfull.set 1 (2147483662, 2147483662), 42, 7) = some [] := by decide +kernel
theorem zb_42_15 : zck 1 [(0, 0, 0)] (zfull.set 1 (2147483663, 2147483663), 42, 7) = some [] := by decide +kernel
theorem zb_42_16 : zck 1 [(0, 0, 0)] (zfull.set 1 (2147483664, 2147483664), 42, 7) = some [] := by decide +kernel
theorem zb_42_17 : zck 1 [(0, 0, 0)] (zfull.set 1 (2147483665, 2147483665), 42, 7) = some [] := by decide +kernel
theorem zb_42_18 : zck 1 [(0, 0, 0)] (zfull.set 1 (2147483666, 2147483666), 42, 7) = some [] := by decide +kernel
theorem zb_42_19 : zck 1 [(0, 0, 0)] (zfull.set 1 (2147483667, 2147483667), 42, 7) = some [] := by decide +kernel
theorem zb_42_20 : zck 1 [(0, 0, 0)] (zfull.set 1 (2147483668, 2147483668), 42, 7) = some [] := by decide +kernel
theorem zb_42_21 : zck 1 [(0, 0, 0)] (zfull.set 1 (2147483669, 2147483669), 42, 7) = some [] := by decide +kernel
theorem zb_42_22 : zck 1 [(0, 0, 0)] (zfull.set 1 (2147483670, 2147483670), 42, 7) = some [] := by decide +kernel
theorem zb_42_23 : zck 1 [(0, 0, 0)] (zfull.set 1 (2147483671, 2147483671), 42, 7) = some [] := by decide +kernel
theorem zb_42_24 : zck 1 [(0, 0, 0)] (zfull.set 1 (2147483672, 2147483672), 42, 7) = some [] := by decide +kernel
theorem zb_42_25 : zck 1 [(0, 0, 0)] (zfull.set 1 (2147483673, 2147483673), 42, 7) = some [] := by decide +kernel
theorem zb_42_26 : zck 1 [(0, 0, 0)] (zfull.set 1 (2147483674, 2147483674), 42, 7) = some [] := by decide +kernel
theorem zb_42_27 : zck 1 [(0, 0, 0)] (zfull.set 1 (2147483675, 2147483675), 42, 7) = some [] := by decide +kernel
theorem zb_42_28 : zck 1 [(0, 0, 0)] (zfull.set 1 (2147483676, 2147483676), 42, 7) = some [] := by decide +kernel
theorem zb_42_29 : zck 1 [(0, 0, 0)] (zfull.set 1 (2147483677, 2147483677), 42, 7) = some [] := by decide +kernel
theorem zb_42_30 : zck 1 [(0, 0, 0)] (zfull.set 1 (2147483678, 2147483678), 42, 7) = some [] := by decide +kernel
theorem zb_42_31 : zck 1 [(0, 0, 0)] (zfull.set 1 (2147483679, 2147483679), 42, 7) = some [] := by decide +kernel
theorem zb_42_32 : zck 1 [(0, 0, 0)] (zfull.set 1 (2147483680, 2147483680), 42, 7) = some [] := by decide +kernel
theorem zb_42_33 : zck 1 [(0, 0, 0)] (zfull.set 1 (2147483681, 2147483681), 42, 7) = some [] := by decide +kernel
theorem zb_42_34 : zck 1 [(0, 0, 0)] (zfull.set 1 (2147483682, 2147483682), 42, 7) = some [] := by decide +kernel
theorem zb_42_35 : zck 1 [(0, 0, 0)] (zfull.set 1 (2147483683, 2147483683), 42, 7) = some [] := by decide +kernel
theorem zb_42_36 : zck 1 [(0, 0, 0)] (zfull.set 1 (2147483684, 2147483684), 42, 7) = some [] := by decide +kernel
theorem zb_42_37 : zck 1 [(0, 0, 0)] (zfull.set 1 (2147483685, 2147483685), 42, 7) = some [] := by decide +kernel
theorem zb_42_38 : zck 1 [(0, 0, 0)] (zfull.set 1 (2147483686, 2147483686), 42, 7) = some [] := by decide +kernel
theorem zb_42_39 : zck 1 [(0, 0, 0)] (zfull.set 1 (2147483687, 2147483687), 42, 7) = some [] := by decide +kernel
theorem zb_42_40 : zck 1 [(0, 0, 0)] (zfull.set 1 (2147483688, 2147483688), 42, 7) = some [] := by decide +kernel
theorem zb_42_41 : zck 1 [(0, 0, 0)] (zfull.set 1 (2147483689, 2147483689), 42, 7) = some [] := by decide +kernel
theorem zb_42_42 : zck 1 [(0, 0, 0)] (zfull.set 1 (2147483690, 2147483690), 42, 7) = some [] := by decide +kernel
theorem zb_42_43 : zck 1 [(0, 0, 0)] (zfull.set 1 (2147483691, 2147483691), 42, 7) = some [] := by decide +kernel
theorem zb_42_44 : zck 1 [(0, 0, 0)] (zfull.set 1 (2147483692, 2147483692), 42, 7) = some [] := by decide +kernel
theorem zb_42_45 : zck 1 [(0, 0, 0)] (zfull.set 1 (2147483693, 2147483693), 42, 7) = some [] := by decide +kernel
theorem zb_42_46 : zck 1 [(0, 0, 0)] (zfull.set 1 (2147483694, 2147483694), 42, 7) = some [] := by decide +kernel
theorem zb_42_47 : zck 1 [(0, 0, 0)] (zfull.set 1 (2147483695, 2147483695), 42, 7) = some [] := by decide +kernel
theorem zb_42_48 : zck 1 [(0, 0, 0)] (zfull.set 1 (2147483696, 2147483696), 42, 7) = some [] := by decide +kernel
theorem zb_42_49 : zck 1 [(0, 0, 0)] (zfull.set 1 (2147483697, 2147483697), 42, 7) = some [] := by decide +kernel
theorem zb_42_50 : zck 1 [(0, 0, 0)] (zfull.set 1 (2147483698, 2147483698), 42, 7) = some [] := by decide +kernel
theorem zb_42_51 : zck 1 [(0, 0, 0)] (zfull.set 1 (2147483699, 2147483699), 42, 7) = some [] := by decide +kernel
theorem zb_42_52 : zck 1 [(0, 0, 0)] (zfull.set 1 (2147483700, 2147483700), 42, 7) = some [] := by decide +kernel
theorem zb_42_53 : zck 1 [(0, 0, 0)] (zfull.set 1 (2147483701, 2147483701), 42, 7) = some [] := by decide +kernel
theorem zb_42_54 : zck 1 [(0, 0, 0)] (zfull.set 1 (2147483702, 2147483702), 42, 7) = some [] := by decide +kernel
theorem zb_42_55 : zck 1 [(0, 0, 0)] (zfull.set 1 (2147483703, 2147483703), 42, 7) = some [] := by decide +kernel
theorem zb_42_56 : zck 1 [(0, 0, 0)] (zfull.set 1 (2147483704, 2147483704), 42, 7) = some [] := by decide +kernel
theorem zb_42_57 : zck 1 [(0, 0, 0)] (zfull.set 1 (2147483705, 2147483705), 42, 7) = some [] := by decide +kernel
theorem zb_42_58 : zck 1 [(0, 0, 0)] (zfull.set 1 (2147483706, 2147483706), 42, 7) = some [] := by decide +kernel
theorem zb_42_59 : zck 1 [(0, 0, 0)] (zfull.set 1 (2147483707, 2147483707), 42, 7) = some [] := by decide +kernel
theorem zb_42_60 : zck 1 [(0, 0, 0)] (zfull.set 1 (2147483708, 2147483708), 42, 7) = some [] := by decide +kernel
theorem zb_42_61 : zck 1 [(0, 0, 0)] (zfull.set 1 (2147483709, 4294967295), 42, 7) = some [] := by decide +kernel
def zin_42 : List (Nat × Nat) := [(0, 2147483648), (2147483649, 2147483649), (2147483650, 2147483650), (2147483651, 2147483651), (2147483652, 2147483652), (2147483653, 2147483653), (2147483654, 2147483654), (2147483655, 2147483655), (2147483656, 2147483656), (2147483657, 2147483657), (2147483658, 2147483658), (2147483659, 2147483659), (2147483660, 2147483660), (2147483661, 2147483661), (2147483662, 2147483662), (2147483663, 2147483663), (2147483664, 2147483664), (2147483665, 2147483665), (2147483666, 2147483666), (2147483667, 2147483667), (2147483668, 2147483668), (2147483669, 2147483669), (2147483670, 2147483670), (2147483671, 2147483671), (2147483672, 2147483672), (2147483673, 2147483673), (2147483674, 2147483674), (2147483675, 2147483675), (2147483676, 2147483676), (2147483677, 2147483677), (2147483678, 2147483678), (2147483679, 2147483679), (2147483680, 2147483680), (2147483681, 2147483681), (2147483682, 2147483682), (2147483683, 2147483683), (2147483684, 2147483684), (2147483685, 2147483685), (2147483686, 2147483686), (2147483687, 2147483687), (2147483688, 2147483688), (2147483689, 2147483689), (2147483690, 2147483690), (2147483691, 2147483691), (2147483692, 2147483692), (2147483693, 2147483693), (2147483694, 2147483694), (2147483695, 2147483695), (2147483696, 2147483696), (2147483697, 2147483697), (2147483698, 2147483698), (2147483699, 2147483699), (2147483700, 2147483700), (2147483701, 2147483701), (2147483702, 2147483702), (2147483703, 2147483703), (2147483704, 2147483704), (2147483705, 2147483705), (2147483706, 2147483706), (2147483707, 2147483707), (2147483708, 2147483708), (2147483709, 4294967295)]
theorem zcv_42 : zcov 0 zin_42 = true := by decide +kernel
theorem zbs_42 : ∀ q ∈ zin_42, zck 1 [(0, 0, 0)] (zfull.set 1 q, 42, 7) = some [] := List.forall_mem_cons.mpr ⟨zb_42_0, List.forall_mem_cons.mpr ⟨zb_42_1, List.forall_mem_cons.mpr ⟨zb_42_2, List.forall_mem_cons.mpr ⟨zb_42_3, List.forall_mem_cons.mpr ⟨zb_42_4, List.forall_mem_cons.mpr ⟨zb_42_5, List.forall_mem_cons.mpr ⟨zb_42_6, List.forall_mem_cons.mpr ⟨zb_42_7, List.forall_mem_cons.mpr ⟨zb_42_8, List.forall_mem_cons.mpr ⟨zb_42_9, List.forall_mem_cons.mpr ⟨zb_42_10, List.forall_mem_cons.mpr ⟨zb_42_11, List.forall_mem_cons.mpr ⟨zb_42_12, List.forall_mem_cons.mpr ⟨zb_42_13, List.forall_mem_cons.mpr ⟨zb_42_14, List.forall_mem_cons.mpr ⟨zb_42_15, List.forall_mem_cons.mpr ⟨zb_42_16, List.forall_mem_cons.mpr ⟨zb_42_17, List.forall_mem_cons.mpr ⟨zb_42_18, List.forall_mem_cons.mpr ⟨zb_42_19, List.forall_mem_cons.mpr ⟨zb_42_20, List.forall_mem_cons.mpr ⟨zb_42_21, List.forall_mem_cons.mpr ⟨zb_42_22, List.forall_mem_cons.mpr ⟨zb_42_23, List.forall_mem_cons.mpr ⟨zb_42_24, List.forall_mem_cons.mpr ⟨zb_42_25, List.forall_mem_cons.mpr ⟨zb_42_26, List.forall_mem_cons.mpr ⟨zb_42_27, List.forall_mem_cons.mpr ⟨zb_42_28, List.forall_mem_cons.mpr ⟨zb_42_29, List.forall_mem_cons.mpr ⟨zb_42_30, List.forall_mem_cons.mpr ⟨zb_42_31, List.forall_mem_cons.mpr ⟨zb_42_32, List.forall_mem_cons.mpr ⟨zb_42_33, List.forall_mem_cons.mpr ⟨zb_42_34, List.forall_mem_cons.mpr ⟨zb_42_35, List.forall_mem_cons.mpr ⟨zb_42_36, List.forall_mem_cons.mpr ⟨zb_42_37, List.forall_mem_cons.mpr ⟨zb_42_38, List.forall_mem_cons.mpr ⟨zb_42_39, List.forall_mem_cons.mpr ⟨zb_42_40, List.forall_mem_cons.mpr ⟨zb_42_41, List.forall_mem_cons.mpr ⟨zb_42_42, List.forall_mem_cons.mpr ⟨zb_42_43, List.forall_mem_cons.mpr ⟨zb_42_44, List.forall_mem_cons.mpr ⟨zb_42_45, List.forall_mem_cons.mpr ⟨zb_42_46, List.forall_mem_cons.mpr ⟨zb_42_47, List.forall_mem_cons.mpr ⟨zb_42_48, List.forall_mem_cons.mpr ⟨zb_42_49, List.forall_mem_cons.mpr ⟨zb_42_50, List.forall_mem_cons.mpr ⟨zb_42_51, List.forall_mem_cons.mpr ⟨zb_42_52, List.forall_mem_cons.mpr ⟨zb_42_53, List.forall_mem_cons.mpr ⟨zb_42_54, List.forall_mem_cons.mpr ⟨zb_42_55, List.forall_mem_cons.mpr ⟨zb_42_56, List.forall_mem_cons.mpr ⟨zb_42_57, List.forall_mem_cons.mpr ⟨zb_42_58, List.forall_mem_cons.mpr ⟨zb_42_59, List.forall_mem_cons.mpr ⟨zb_42_60, List.forall_mem_cons.mpr ⟨zb_42_61, fun _ h => absurd h List.not_mem_nil⟩⟩⟩⟩⟩⟩⟩⟩⟩⟩⟩⟩⟩⟩⟩⟩⟩⟩⟩⟩⟩⟩⟩⟩⟩⟩⟩⟩⟩⟩⟩⟩⟩⟩⟩⟩⟩⟩⟩⟩⟩⟩⟩⟩⟩⟩⟩⟩⟩⟩⟩⟩⟩⟩⟩⟩⟩⟩⟩⟩⟩⟩
end
section
/-! EVERY SCRIPT -/
theorem zEv_set {X : zX} {ev : zEv} {i lo hi : Nat} (he : zEvOK X ev) (h1 : lo ≤ zbi (zxr X i)) (h2 : zbi (zxr X i) ≤ hi) : zEvOK X (ev.1.set i (lo, hi), ev.2) := by
  refine ⟨?_, he.2⟩
  intro j a b hj
  have hj : (ev.1.set i (lo, hi))[j]? = some (a, b) := hj
  rw [List.getElem?_set] at hj
  by_cases hij : i = j
  · subst hij
    rw [if_pos rfl] at hj
    split at hj
    · cases hj
      exact ⟨h1, h2⟩
    · cases hj
  · rw [if_neg hij] at hj
    exact he.1 j a b hj
theorem zck_ok {X : zX} : ∀ (f : Nat) (T : List (Nat × Nat × Nat)) (ev : zEv) (t1 : List (Nat × Nat × Nat)), zck f T ev = some t1 → zEvOK X ev → ∃ (ev' : zEv) (r : zRes), zEvOK X ev' ∧ zrun zP ev' 4000 zMb zS0 = some r ∧ zok1 r = true
  | 0, T, ev, t1, h, _ => by cases h
  | f + 1, [], ev, t1, h, _ => by cases h
  | f + 1, (0, i, c) :: t, ev, t1, h, he => by
    rw [zck] at h
    dsimp only at h
    cases hr : zrun zP ev 4000 zMb zS0 with
    | none => rw [hr] at h; cases h
    | some r =>
      rw [hr] at h
      exact ⟨ev, r, he, hr, (zc h).1⟩
  | f + 1, (k + 1, i, c) :: t, ev, t1, h, he => by
    rw [zck] at h
    dsimp only at h
    cases hq : zat ev.1 i with
    | none => rw [hq] at h; cases h
    | some q =>
      rw [hq] at h
      dsimp only at h
      rw [zset_eq] at h
      rw [zat_eq] at hq
      have hb := he.1 i q.1 q.2 hq
      cases hz : zck f t (ev.1.set i (q.1, c - 1), ev.2) with
      | none => rw [hz] at h; cases h
      | some t2 =>
        rw [hz] at h
        dsimp only at h
        rw [zset_eq] at h
        rcases Nat.lt_or_ge (zbi (zxr X i)) c with hlt | hge
        · exact zck_ok f _ _ _ hz (zEv_set he hb.1 (by omega))
        · exact zck_ok f _ _ _ h (zEv_set he hge hb.2)
theorem zbi_le (x : Int32) : zbi x ≤ 4294967295 := by
  have h1 := Int32.le_toInt x
  have h2 := Int32.toInt_lt x
  unfold zbi
  omega
theorem zfull_all : ∀ q ∈ zfull, q = (0, 4294967295) := by decide
theorem zfull_ok (X : zX) : ∀ i lo hi, zfull[i]? = some (lo, hi) → lo ≤ zbi (zxr X i) ∧ zbi (zxr X i) ≤ hi := fun i lo hi h => by
  cases zfull_all _ (List.mem_of_getElem? h)
  exact ⟨Nat.zero_le _, zbi_le _⟩
theorem zmask (x : Int32) : ∃ c : Nat, c < 64 ∧ x &&& 63 = nI c := by
  refine ⟨(x &&& 63).toBitVec.toNat, ?_, ?_⟩
  · rw [Int32.toBitVec_and, BitVec.toNat_and]
    exact Nat.lt_of_le_of_lt Nat.and_le_right (by decide)
  · apply Int32.toBitVec_inj.mp
    simp [nI]
theorem zb_all {X : zX} : ∀ c, c < 64 → zEvOK X (zfull, c, 7) → ∃ (ev : zEv) (r : zRes), zEvOK X ev ∧ zrun zP ev 4000 zMb zS0 = some r ∧ zok1 r = true := by
  intro c hc he
  match c, hc, he with
  | 0, _, he => exact zck_ok _ _ _ _ zb_0 he
  | 1, _, he => exact zck_ok _ _ _ _ zb_1 he
  | 2, _, he => exact zck_ok _ _ _ _ zb_2 he
  | 3, _, he => exact zck_ok _ _ _ _ zb_3 he
  | 4, _, he => exact zck_ok _ _ _ _ zb_4 he
  | 5, _, he => exact zck_ok _ _ _ _ zb_5 he
  | 6, _, he => exact zck_ok _ _ _ _ zb_6 he
  | 7, _, he => exact zck_ok _ _ _ _ zb_7 he
  | 8, _, he => exact zck_ok _ _ _ _ zb_8 he
  | 9, _, he => exact zck_ok _ _ _ _ zb_9 he
  | 10, _, he => exact zck_ok _ _ _ _ zb_10 he
  | 11, _, he => exact zck_ok _ _ _ _ zb_11 he
  | 12, _, he => exact zck_ok _ _ _ _ zb_12 he
  | 13, _, he => exact zck_ok _ _ _ _ zb_13 he
  | 14, _, he => exact zck_ok _ _ _ _ zb_14 he
  | 15, _, he => exact zck_ok _ _ _ _ zb_15 he
  | 16, _, he => exact zck_ok _ _ _ _ zb_16 he
  | 17, _, he => exact zck_ok _ _ _ _ zb_17 he
  | 18, _, he => exact zck_ok _ _ _ _ zb_18 he
  | 19, _, he => exact zck_ok _ _ _ _ zb_19 he
  | 20, _, he => exact zck_ok _ _ _ _ zb_20 he
  | 21, _, he => exact zck_ok _ _ _ _ zb_21 he
  | 22, _, he => exact zck_ok _ _ _ _ zb_22 he
  | 23, _, he => exact zck_ok _ _ _ _ zb_23 he
  | 24, _, he => exact zck_ok _ _ _ _ zb_24 he
  | 25, _, he => exact zck_ok _ _ _ _ zb_25 he
  | 26, _, he => exact zck_ok _ _ _ _ zb_26 he
  | 27, _, he => exact zck_ok _ _ _ _ zb_27 he
  | 28, _, he => exact zck_ok _ _ _ _ zb_28 he
  | 29, _, he => exact zck_ok _ _ _ _ zb_29 he
  | 30, _, he => exact zck_ok _ _ _ _ zb_30 he
  | 31, _, he => exact zck_ok _ _ _ _ zb_31 he
  | 32, _, he => exact zck_ok _ _ _ _ zb_32 he
  | 33, _, he => exact zck_ok _ _ _ _ zb_33 he
  | 34, _, he => exact zck_ok _ _ _ _ zb_34 he
  | 35, _, he => exact zck_ok _ _ _ _ zb_35 he
  | 36, _, he => exact zck_ok _ _ _ _ zb_36 he
  | 37, _, he => exact zck_ok _ _ _ _ zb_37 he
  | 38, _, he => exact zck_ok _ _ _ _ zb_38 he
  | 39, _, he => exact zck_ok _ _ _ _ zb_39 he
  | 40, _, he => exact zck_ok _ _ _ _ zb_40 he
  | 41, _, he => exact zck_ok _ _ _ _ zb_41 he
  | 42, _, he =>
    obtain ⟨q, hq, h1, h2⟩ := zcov_ok _ 0 (zbi (zxr X 1)) zcv_42 (Nat.zero_le _) (Nat.lt_succ_of_le (zbi_le _))
    have h5 := zEv_set (i := 1) he h1 h2
    exact zck_ok _ _ _ _ (zbs_42 q hq) h5
  | 43, _, he => exact zck_ok _ _ _ _ zb_43 he
  | 44, _, he => exact zck_ok _ _ _ _ zb_44 he
  | 45, _, he => exact zck_ok _ _ _ _ zb_45 he
  | 46, _, he => exact zck_ok _ _ _ _ zb_46 he
  | 47, _, he => exact zck_ok _ _ _ _ zb_47 he
  | 48, _, he => exact zck_ok _ _ _ _ zb_48 he
  | 49, _, he => exact zck_ok _ _ _ _ zb_49 he
  | 50, _, he => exact zck_ok _ _ _ _ zb_50 he
  | 51, _, he => exact zck_ok _ _ _ _ zb_51 he
  | 52, _, he => exact zck_ok _ _ _ _ zb_52 he
  | 53, _, he => exact zck_ok _ _ _ _ zb_53 he
  | 54, _, he => exact zck_ok _ _ _ _ zb_54 he
  | 55, _, he => exact zck_ok _ _ _ _ zb_55 he
  | 56, _, he => exact zck_ok _ _ _ _ zb_56 he
  | 57, _, he => exact zck_ok _ _ _ _ zb_57 he
  | 58, _, he => exact zck_ok _ _ _ _ zb_58 he
  | 59, _, he => exact zck_ok _ _ _ _ zb_59 he
  | 60, _, he => exact zck_ok _ _ _ _ zb_60 he
  | 61, _, he => exact zck_ok _ _ _ _ zb_61 he
  | 62, _, he => exact zck_ok _ _ _ _ zb_62 he
  | 63, _, he => exact zck_ok _ _ _ _ zb_63 he
  | n + 64, h, _ => exact absurd h (by omega)
theorem zl_all : ∀ c, c < 7 → zck 1 [(0, 0, 0)] (zfull, 64, c) = some [] := by
  intro c hc
  match c, hc with
  | 0, _ => exact zb_l0
  | 1, _ => exact zb_l1
  | 2, _ => exact zb_l2
  | 3, _ => exact zb_l3
  | 4, _ => exact zb_l4
  | 5, _ => exact zb_l5
  | 6, _ => exact zb_l6
  | n + 7, h => exact absurd h (by omega)
theorem zall (X : zX) (hL : zxL X ≤ 7) : ∃ (ev : zEv) (r : zRes), zEvOK X ev ∧ zrun zP ev 4000 zMb zS0 = some r ∧ zok1 r = true := by
  rcases Nat.lt_or_ge (zxL X) 7 with h | h
  · exact zck_ok _ _ _ _ (zl_all _ h) ⟨zfull_ok X, fun h9 => absurd (show (64 : Nat) < 64 from h9) (by decide), fun _ => rfl⟩
  · obtain ⟨c, hc, hm⟩ := zmask (zxr X 0)
    exact zb_all c hc ⟨zfull_ok X, fun _ => hm, fun _ => show 7 = zxL X by omega⟩
theorem zpre_ok (X : zX) : zEvOK X (zfull, 64, 9) := ⟨zfull_ok X, fun h9 => absurd (show (64 : Nat) < 64 from h9) (by decide), fun h9 => absurd (show (9 : Nat) < 8 from h9) (by decide)⟩
end
section
/-! WHAT HOLDS AT THE START -/
theorem zinst : ∀ q ∈ vwCl, Cond.instantiable q.1 q.2.2 ∈ lw_tbl ∨ Cond.instantiable q.1 4 ∈ lw_tbl := by decide +kernel
theorem zcls_all : ∀ ci, ci < 18 → ci ∈ zcls := by decide
theorem zD_of {args : Array Value} {s : State} (hts : ∀ w ∈ lw_tbl, w.before args s = true) : ∃ D : va_G, va_K D vwCl [] s := by
  have hex : ∀ ci : Nat, ∃ q2 : ClassId × (Nat → Nat), ∀ q : vw_C, vwCl[ci]? = some q → u_Kn s q.1 q.2.1 q.2.2 q2.1 q2.2 := by
    intro ci
    cases hq : vwCl[ci]? with
    | none => exact ⟨(0, fun _ => 0), fun q h => by cases h⟩
    | some q =>
      have hlt : ci < 18 := (List.getElem?_eq_some_iff.mp hq).1
      have hin := zcls_in ci (zcls_all ci hlt) q hq
      obtain ⟨n9, hi⟩ : ∃ n9 : Nat, Cond.instantiable q.1 n9 ∈ lw_tbl := by
        rcases zinst q (List.mem_of_getElem? hq) with h | h
        · exact ⟨_, h⟩
        · exact ⟨_, h⟩
      obtain ⟨cC, iS, hk⟩ := u_known (ws := lw_tbl) hts (fun w hw => (List.mem_filter.mp (hin w hw)).1) (hts _ hi)
      exact ⟨(cC, iS), fun q1 h1 => by cases h1; exact hk⟩
  exact ⟨(fun ci => (hex ci).choose.1, fun ci => (hex ci).choose.2), fun ci q hq => (hex ci).choose_spec q hq, fun k q h => by simp at h⟩
theorem zstr_x : ∀ q ∈ zStr, Cond.exactly (.string q.1 q.2.1) "java/lang/String" ∈ flatC (Jvm.Cond.and given_1 narrow_1) := by decide +kernel
theorem zstr_w : ∀ q ∈ zStr, Cond.stringRef q.1 q.2.1 q.2.2 ∈ lw_tbl := by decide +kernel
theorem zsa_of {args : Array Value} {s : State} (hts : ∀ w ∈ lw_tbl, w.before args s = true) (hfl : ∀ w ∈ flatC (Jvm.Cond.and given_1 narrow_1), w.before args s = true) : ∃ sa : Nat → Nat, zStrOK sa s := by
  have hex : ∀ i : Nat, ∃ a : Nat, ∀ q : String × Nat × String, zStr[i]? = some q → vk_R q.1 q.2.1 q.2.2 a s := by
    intro i
    cases hq : zStr[i]? with
    | none => exact ⟨0, fun q h => by cases h⟩
    | some q =>
      obtain ⟨a, _, _, _, h1, -⟩ := Cond.exactly_spec (hfl _ (zstr_x q (List.mem_of_getElem? hq)))
      exact ⟨a, fun q1 h9 => by cases h9; exact vk_R.of (hts _ (zstr_w q (List.mem_of_getElem? hq))) h1⟩
  exact ⟨fun i => (hex i).choose, fun i q hq => (hex i).choose_spec q hq⟩
theorem zNws_w : ∀ w ∈ zNws, w ∈ lw_tbl := by decide +kernel
theorem zNw_of {w : Cond} (hk : zNk w = true) {args : Array Value} {s : State} (h : w.before args s = true) : va_Nw w s := by
  match w, hk with
  | .castable C T, _ => exact va_Nw.of rfl h
  | .methodLinkNest a i x hh, _ => exact va_Nw.of rfl h
  | .declares x, _ => exact va_Nw.of rfl h
  | .arrayOver t, _ =>
    have h1 : (Cond.arrayOver t).before #[] s = true := h
    exact h1
theorem zNcN_w : ∀ q ∈ zNcN, Cond.not (.castable (zEx q.1) (zEx q.2)) ∈ flatC (Jvm.Cond.and given_1 narrow_1) := by decide +kernel
theorem zAO_of {args : Array Value} {s : State} (hts : ∀ w ∈ lw_tbl, w.before args s = true) (hfl : ∀ w ∈ flatC (Jvm.Cond.and given_1 narrow_1), w.before args s = true) : zAO s :=
  ⟨fun w hw => zNw_of (zNk_ok w hw) (hts w (zNws_w w hw)), fun q hq => va_Nc.of (hfl _ (zNcN_w q hq))⟩
theorem zSt_of {args : Array Value} {s : State} {b L : Nat} {xs : Nat → Int32} (hts : ∀ w ∈ lw_tbl, w.before args s = true) (hfl : ∀ w ∈ flatC (Jvm.Cond.and given_1 narrow_1), w.before args s = true) (hX : va_X b L xs s s.heap) (hbs : b < s.heap.size) : ∃ td : Nat, zStat b L td s.heap.size xs s s.heap := by
  have hA : ∀ a : Nat, a < s.heap.size → ¬ s.heap.size ≤ a := fun a h h2 => absurd h (by omega)
  have harr : (Cond.arrayOf (.static "java/util/ArrayList" "DEFAULTCAPACITY_EMPTY_ELEMENTDATA" "[Ljava/lang/Object;") (.object "java/lang/Object")).before args s = true := hfl _ (by decide +kernel)
  have hlen : (Cond.eq (.length (.static "java/util/ArrayList" "DEFAULTCAPACITY_EMPTY_ELEMENTDATA" "[Ljava/lang/Object;")) (.int 0)).before args s = true := hfl _ (by decide +kernel)
  have hl0 : (Term.length (.static "java/util/ArrayList" "DEFAULTCAPACITY_EMPTY_ELEMENTDATA" "[Ljava/lang/Object;")).eval args s none [] s = some (.int (Int32.ofNat 0)) := va_eqt hlen
  obtain ⟨td, htd, hT⟩ := va_Tof (N := 0) (f := fun _ => .null) (A := fun q : Nat => s.heap.size ≤ q) (by decide) harr hl0 (fun j hj => absurd hj (Nat.not_lt_zero j)) hA
  refine ⟨td, ?_, ?_, ?_, ⟨_, hT⟩, hX, hbs⟩
  · exact vx_Zqof (args := args) (hts _ (by decide +kernel)) (hts _ (by decide +kernel)) (hfl _ (by decide +kernel)) hA
  · exact vx_Zqof (args := args) (hts _ (by decide +kernel)) (hts _ (by decide +kernel)) (hfl _ (by decide +kernel)) hA
  · exact va_Zref (args := args) (hts _ (by decide +kernel)) (hts _ (by decide +kernel)) htd hA
end
section
/-! THE CLAIM OUT OF ONE WALK OF THE LAW'S BODY. Your part is whole_start (and what it stands on); all else here is the same for every law, but numbers. -/
def R_law : String := "FormRiverLaw"
def lw_P (b : Addr) (xs : List Int32) (args : Array Value) (s : State) : Prop := args = #[.ref b] ∧ s.IntsAt b xs ∧ xs.length ≤ 7 ∧ (Jvm.Cond.and given_1 narrow_1).before args s = true
/-- what a walk over the start with the record d0 says of its end, said of the start itself -/
theorem lw_closed {s t : State} {o : Outcome} {d0 : Drawn} {L : List Loc} {k n : Nat} (hd0 : s.drawn.sameBut d0 lw_cs) (hv : ∃ v, o = .returned v) (hW : (s.setDrawn d0).WarmedH t.vm) (hs : (s.setDrawn d0).sameButNew ({ t with vm := s.vm } : State) L k n) : State.butDraws s t lw_cs (fun t1 => Framed s o t1 L k n) := by
  have h2 : t.drawn = d0 := congrArg State.drawn hs.1
  refine ⟨⟨hv, hW, State.sameButNew.setDrawn hs s.drawn⟩, ?_, by decide⟩
  rw [h2]
  exact hd0
def lw_Q (_ : Array Value) (s : State) (o : Outcome) (t : State) : Prop := o = .returned (some (.int 1)) ∧ State.butDraws s t lw_cs (fun t1 => Framed s o t1 [] 600006 7302024)
def lw_Z (below : List Frame) (a : Array Value) (s : State) : State → Prop := fun t => ∃ o, t.status = .running ∧ Ended t below o ∧ lw_Q a s o t
/-- the law's own end, with 1 on the stack, nothing written that was there before, its room as the claim has it; d0: the record of draws at this point (at the entry s.drawn: begin with 'refine W.base ?_' and 'have hd0 := Drawn.sameBut.refl s.drawn lw_cs') -/
theorem lw_ret {p : Program} {l : Launch} {e : Env} {s : State} {m : MethodId} {below : List Frame} {meth : Method} {c : Code} {b : Nat} {d0 : Drawn} (hd0 : s.drawn.sameBut d0 lw_cs) (hx : p.tables.exec = Jvm.exec) (hb : c.code = code) (hr : meth.sig.returnType = ret) (hlocks : meth.locks = false) {pc : Nat} {H : Heap} {ls : Array Slot} (hdg : decode code pc = .ok (.ireturn, 1)) : W p l e room_1 (s.setDrawn d0) m #[Value.ref b] below meth c H [] 600006 7302024 (lw_Z below #[Value.ref b] s) (F0 m pc ls [.int 1]) := by
  intro T hT X
  obtain ⟨fs, hret, hrun, hended, hW, hframe⟩ := X.leave (v := some (.int 1)) (hlocks := hlocks) (fun h => by rw [hr] at h; cases h)
  have hmeth' : T.vm.method? m = some meth := X.method'
  refine ⟨T.setFrames fs, ?_, .returned (some (.int 1)), hrun, hended, rfl, lw_closed hd0 ⟨_, rfl⟩ hW hframe⟩
  jvm_step X.here [X.here.top, hx, hb, hdg, hmeth', hr, ret, narrow_b1]
  (try refine ⟨rfl, ?_⟩); (try refine ⟨rfl, ?_⟩)
  first | (intro acts; rw [hret _ acts rfl rfl rfl]) | rw [hret _ _ rfl rfl rfl]
  exact Steps.refl _
/-- what holds at the law's entry: the machine, the code, the tables' words (any of lw_tbl by 'hts w (by decide +kernel)'), the script of L ints xs at the cell b, what the Statement gives of the start (any of its parts by flat_of_before) -/
def lw_At (p : Program) (s : State) (m : MethodId) (meth : Method) (c : Code) (b L : Nat) (xs : Nat → Int32) : Prop :=
  p.tables.exec = Jvm.exec ∧ c.code = code ∧ meth.sig.returnType = ret ∧ c.maxLocals = 9 ∧ s.vm.findClass R_law = some m.cls ∧ (∀ w ∈ lw_tbl, w.before #[Value.ref b] s = true) ∧ va_X b L xs s s.heap ∧ b < s.heap.size ∧ meth.locks = false ∧ (Jvm.Cond.and given_1 narrow_1).before #[Value.ref b] s = true ∧ meth.name = "law" ∧ (∀ z ∈ c.exceptionTable.toList, False)
theorem whole_start {p : Program} {e : Env} {s : State} {m : MethodId} {below : List Frame} {meth : Method} {c : Code} (l : Launch) (hflags : l.flags = flags0) {b L : Nat} {xs : Nat → Int32} (hL : L ≤ 7) (C0 : lw_At p s m meth c b L xs) : W p l e room_1 s m #[Value.ref b] below meth c s.heap [] 0 0 (lw_Z below #[Value.ref b] s) (entryFrame m ([Value.ref b] : List Value).toArray 9) := by
  obtain ⟨hx, hb, hret, hml, hcls, hts, hX, hbs, hlk, hgv, hnm, htb⟩ := C0
  have hfl := flat_of_before _ hgv
  have hst : l.stackTraces = false := by
    unfold Launch.stackTraces
    rw [hflags]
    decide +kernel
  obtain ⟨D, hK⟩ := zD_of hts
  obtain ⟨sa, hsa⟩ := zsa_of hts hfl
  obtain ⟨td, hSt⟩ := zSt_of hts hfl hX hbs
  have hAO := zAO_of hts hfl
  have htl : c.exceptionTable.toList = [] := by
    cases hq : c.exceptionTable.toList with
    | nil => rfl
    | cons a t => exact (htb a (by rw [hq]; exact List.mem_cons_self)).elim
  have hw : ∀ w ∈ tblG, w.before #[Value.ref b] s = true := fun w hw => hts w (List.mem_filter.mp hw).1
  obtain ⟨ev, r, hev, hr, hok⟩ := zall (xs, b, td, s.heap.size, D, sa, L) hL
  have cx : ∀ ev0 : zEv, zEvOK (xs, b, td, s.heap.size, D, sa, L) ev0 → zCx p l room_1 s m #[Value.ref b] meth c zMa ev0 (xs, b, td, s.heap.size, D, sa, L) := fun ev0 h0 =>
    ⟨hx, hb, hml, hcls, hw, rfl, Nat.le_refl _, h0, hlk, hnm, hSt, hsa, hAO, hst, hret, htl⟩
  have cxb : ∀ ev0 : zEv, zEvOK (xs, b, td, s.heap.size, D, sa, L) ev0 → zCx p l room_1 s m #[Value.ref b] meth c zMb ev0 (xs, b, td, s.heap.size, D, sa, L) := fun ev0 h0 =>
    ⟨hx, hb, hml, hcls, hw, rfl, Nat.le_refl _, h0, hlk, hnm, hSt, hsa, hAO, hst, hret, htl⟩
  have hH : zHp (xs, b, td, s.heap.size, D, sa, L) s [] (fun _ => 0) (fun _ => 0) [] s.heap := by
    refine ⟨hK, ?_, ⟨?_, ?_⟩, ?_, ?_⟩
    · intro k q h; simp [zW] at h
    · intro i j p1 q1 h; simp [zW] at h
    · intro k q h; simp [zW] at h
    · intro c9 h; cases h
    · intro k t ci vs h; simp at h
  obtain ⟨ls, he, hR⟩ := zentry (X := (xs, b, td, s.heap.size, D, sa, L)) (s := s) (nL := 9) (as := [(8, 0)]) (by decide) hH
  have he1 : entryFrame m ([Value.ref b] : List Value).toArray 9 = F0 m 0 ls [] := he m
  rw [he1]
  refine zrun_ok zc_P 4000 zMa zc_a _ _ zb_pre p e room_1 s m #[Value.ref b] below meth c (lw_Z below #[Value.ref b] s) 0 (fun _ => 0) (cx _ (zpre_ok _)) ?_ (fun h => absurd rfl h) (fun _ => 0) (fun _ => 0) [] s.heap [] ls hR
  intro _ x9 _
  refine zrun_ok zc_P 4000 zMb zc_b _ _ hr p e room_1 s m #[Value.ref b] below meth c (lw_Z below #[Value.ref b] s) 0 (fun _ => 0) (cxb _ hev) ?_ ?_
  · intro _ x9 _
    obtain ⟨r1, r2, pc, Ls, stk, G, cu, su⟩ := r
    unfold zok1 at hok
    simp only [Bool.and_eq_true] at hok
    obtain ⟨-, h1, h2, h3, h4⟩ := hok
    cases Nat.eq_of_beq_eq_true h1
    cases stk with
    | nil => cases h2
    | cons v t =>
      simp only [Bool.and_eq_true] at h2
      obtain ⟨h5, h6, h7⟩ := h2
      cases t with
      | cons _ _ => cases h7
      | nil =>
        obtain ⟨vt, vn⟩ := v
        cases Nat.eq_of_beq_eq_true h5
        cases Nat.eq_of_beq_eq_true h6
        intro ad ca tys H locs ls1 hR1
        refine va_forget (fun q hq => hR1.2.2.1.2.2 q hq) (W.widen (k := 600006) (n := 7302024) (Nat.le_of_ble_eq_true h3) (Nat.le_of_ble_eq_true h4) ?_)
        have hd9 : decode code 3489 = .ok (Instr.ireturn, 1) := by decide +kernel
        exact lw_ret (d0 := s.drawn) (Drawn.sameBut.refl s.drawn lw_cs) hx hb hret hlk hd9
  · intro h9
    unfold zok1 at hok
    simp only [Bool.and_eq_true] at hok
    exact absurd (Nat.eq_of_beq_eq_true hok.1) h9
set_option maxHeartbeats 4000000 in
theorem lw_walk (l : Launch) (hflags : l.flags = flags0) (b : Addr) (xs : List Int32) : MetFree l x (headSpec (Jvm.Cond.code x code maxLocals ret :: tables_1) room_1) (lw_P b xs) (fun _ _ _ _ _ => True) lw_Q := by
  refine MetFree.of_bodyS (code := code) (maxLocals := maxLocals) (ret := ret) (by decide) ?_ ?_
  · intro args s m h hn
    obtain ⟨meth, c, h1, h2, h3, h4, h5, h6, -, -⟩ := Cond.code_spec hn (atoms_spec (ws := Jvm.Cond.code x code maxLocals ret :: tables_1) h _ List.mem_cons_self)
    exact ⟨meth, c, h1, h2, h3, h4, h5, h6⟩
  · intro p e s m args below meth c s₁ B hml0 hP _
    obtain ⟨rfl, hx, hbd, hgv⟩ := hP
    obtain ⟨scr, harrAt, hlist, hof, hsmall⟩ := hx
    obtain ⟨hcb, hkn, -, -⟩ := State.arrayAt?_spec harrAt
    have hown : s.vm.findClass R_law = some m.cls := findClass_of_methodNamed B.named
    have hts0 : ∀ c ∈ (Jvm.Cond.code x code maxLocals ret :: tables_1), c.before #[Value.ref b] s = true := atoms_spec (ws := Jvm.Cond.code x code maxLocals ret :: tables_1) B.pre
    have hts : ∀ w ∈ lw_tbl, w.before #[Value.ref b] s = true := k2_hts_sels lw_privs (fun w hw => hts0 w (List.mem_cons_of_mem _ hw)) lw_privs_ok
    have hml : c.maxLocals = 9 := B.maxLocals_eq (hts0 _ List.mem_cons_self)
    have X₀ : Stand p l e room_1 s m #[Value.ref b] below meth c s₁ [] 0 0 := Stand.of_body B
    have hh0 : s₁.heap = s.heap := by rw [B.state]; rfl
    have hsz : scr.slots.size = xs.length := by rw [← Array.length_toList, hlist, List.length_map]
    have hval : ∀ j : Nat, j < xs.length → scr.slots[j]? = some (.int (xs.getD j 0)) := fun j hj => by
      rw [← Array.getElem?_toList, hlist]
      simp [hj]
    have hbl : b < s.heap.size := (Array.getElem?_eq_some_iff.mp hcb).1
    have hX : va_X b xs.length (fun j => xs.getD j 0) s s.heap := ⟨scr, hcb, hof, hkn, hsz, hval⟩
    have hnm : meth.name = "law" := (name_of_methodNamed B.named B.method).1
    have htb : ∀ z ∈ c.exceptionTable.toList, False := by
      obtain ⟨meth9, c9, h1, h2, -, -, -, -, h7, -⟩ := Cond.code_spec B.named (hts0 _ List.mem_cons_self)
      cases Option.some.inj (h1.symm.trans B.method)
      cases Option.some.inj (h2.symm.trans X₀.code)
      intro z hz
      rw [Array.isEmpty_iff.mp h7] at hz
      cases hz
    have K : W p l e room_1 s m #[Value.ref b] below meth c s₁.heap [] 0 0 (lw_Z below #[Value.ref b] s) (entryFrame m ([Value.ref b] : List Value).toArray 9) := by
      rw [hh0]
      exact whole_start l hflags hbd ⟨B.exec, B.bytes, B.returns, hml, hown, hts, hX, hbl, B.notSynchronized, hgv, hnm, htb⟩
    obtain ⟨t, a1, o, b1, b2, b3⟩ := K s₁ rfl X₀
    exact ⟨t, o, a1, b1, b2, b3⟩
theorem lw_pre_spec {args : Array Value} {s : State} (h : (Jvm.Cond.and given_1 narrow_1).before args s = true) (hr : rest_1_c.before args s = true) : ∃ (b : Addr) (xs : List Int32), lw_P b xs args s := by
  have hs := flat_of_before _ h
  have hq := flat_of_before _ hr
  have hc : (Cond.count 1).before args s = true := hs _ (by decide +kernel)
  have harr : (Cond.arrayOf (.arg 0) .int).before args s = true := hs _ (by decide +kernel)
  have hle : (Cond.le (.length (.arg 0)) (.int 7)).before args s = true := hs _ (by decide +kernel)
  have hlen : (Cond.isInt (.length (.arg 0))).before args s = true := hq _ (by decide +kernel)
  have hall : (Cond.all (.arg 0) (.isInt (.elem (.arg 0) (.index 0)))).before args s = true := hq _ (by decide +kernel)
  obtain ⟨b, xs, hb, hx⟩ := State.ints_of_pre rfl harr hlen hall
  have hsm : xs.length < 2 ^ 31 := hx.choose_spec.2.2.2
  have hev : (Term.length (.arg 0)).eval args s none [] s = some (.int xs.length.toInt32) := hx.length_eval hb
  have hv := Cond.le_ints hev (show (Term.int 7).eval args s none [] s = some (.int 7) from rfl)
  have hd : xs.length.toInt32 ≤ 7 := by
    simpa [Cond.before, Cond.holds, hv] using hle
  have hN : xs.length ≤ 7 := (Int32.ofNat_le_ofNat hsm (by decide)).mp (show Int32.ofNat xs.length ≤ Int32.ofNat 7 from hd)
  exact ⟨b, xs, Cond.one_arg hc (show args[0]? = some (.ref b) from hb), hx, hN, h⟩
theorem lw_comes (l : Launch) (hflags : l.flags = flags0) : Comes l x (Jvm.Cond.code x code maxLocals ret :: tables_1) room_1 (fun tb e args s => Calls_1 tb e args s ∧ rest_1 tb e args s ∧ Pre_1 tb e args s)
    (fun _ _ args s o t => lw_Q args s o t) := by
  intro p e ha hc hk s m args below hf hfit hheap happ hpre
  obtain ⟨b, xs, hP⟩ := lw_pre_spec hpre.2.2 hpre.2.1
  obtain ⟨k, o, h1, h2, h3, hQ⟩ := lw_walk l hflags b xs p e ha hc hk s m args below hf ((Spec.applies_iff_loose hf).mp happ).1 hP trivial
  exact ⟨k, o, h1, h2, h3, hQ⟩
theorem lw_frame {s t : State} {o : Outcome} {args : Array Value} (h : State.butDraws s t lw_cs (fun t1 => Framed s o t1 [] 600006 7302024)) :
    State.butDraws s t [Jvm.Choice.named "NaN.bits"] (fun t1 => Framed s o t1 (fieldLocs frame_1_writes args s ++ arrayLocs frame_1_arrays args s ++ staticLocs frame_1_statics s) 600006 7302024) := h
theorem lw_limb (L : Cond) (hL : ∀ (args : Array Value) (s t : State), L.after args s (.returned (some (.int 1))) t = true) :
    ArmFor flags0 classFile x code maxLocals ret World_1 tables_1 room_1 Calls_1 rest_1 Pre_1
      (fun tb e a s o t => postC L tb e a s o t ∧ State.butDraws s t [Jvm.Choice.named "NaN.bits"] (fun t1 => Framed s o t1 (fieldLocs frame_1_writes a s ++ arrayLocs frame_1_arrays a s ++ staticLocs frame_1_statics s) 600006 7302024)) := by
  intro l hflags _ _ p e ha hc hk s m args below hf hfit hheap happ hpre
  obtain ⟨k, o, h1, h2, h3, rfl, hF⟩ := lw_comes l hflags p e ha hc hk s m args below hf hfit hheap happ hpre
  exact ⟨k, _, h1, h2, h3, hL args s _, lw_frame hF⟩
theorem i_vc : Claimed_1_1 ∧ Claimed_1_2 := ⟨lw_limb limb_1_1 (fun args s t => by simp [limb_1_1, Cond.after, Cond.holds, Cond.value]), lw_limb limb_1_2 (fun args s t => Cond.after_iff.mpr (by
  first | (rw [show limb_1_2 = Cond.eq .result (.int 1) from rfl, Cond.eq_ints (x := 1) (y := 1) rfl rfl]; simp; done) | (simp [limb_1_2, Cond.value, Term.eval]; done)))⟩
end
