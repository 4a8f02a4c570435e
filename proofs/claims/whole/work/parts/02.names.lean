-- ===== PART A: goes FIRST, ahead of the names: the tables' words, and 'selects' of the private methods out of them =====
/-- a private method of a class that the tables say can be made, by its rows of tables_1 -/
def lw_okq (q : MethodName × Nat) : Prop := (q.1.cls ≠ "java/lang/invoke/MethodHandle" ∧ q.1.cls ≠ "java/lang/invoke/VarHandle") ∧ Cond.instantiable q.1.cls q.2 ∈ tables_1 ∧ Cond.privateMethod q.1 ∈ tables_1 ∧ Cond.instanceMethod q.1 ∈ tables_1
theorem lw_p0 : lw_okq (⟨"ProcessDesk$Department", "clearNext", "()V"⟩, 14) := ⟨⟨by decide +kernel, by decide +kernel⟩, List.mem_of_getElem? (i := 41) (by decide +kernel), List.mem_of_getElem? (i := 446) (by decide +kernel), List.mem_of_getElem? (i := 447) (by decide +kernel)⟩
theorem lw_p1 : lw_okq (⟨"ProcessDesk", "needWithin", "(III)V"⟩, 9) := ⟨⟨by decide +kernel, by decide +kernel⟩, List.mem_of_getElem? (i := 24) (by decide +kernel), List.mem_of_getElem? (i := 609) (by decide +kernel), List.mem_of_getElem? (i := 610) (by decide +kernel)⟩
theorem lw_p2 : lw_okq (⟨"java/lang/Throwable", "fillInStackTrace", "(I)Ljava/lang/Throwable;"⟩, 6) := ⟨⟨by decide +kernel, by decide +kernel⟩, List.mem_of_getElem? (i := 651) (by decide +kernel), List.mem_of_getElem? (i := 649) (by decide +kernel), List.mem_of_getElem? (i := 650) (by decide +kernel)⟩
theorem lw_p3 : lw_okq (⟨"ProcessDesk$Tape", "atEnd", "()Z"⟩, 9) := ⟨⟨by decide +kernel, by decide +kernel⟩, List.mem_of_getElem? (i := 373) (by decide +kernel), List.mem_of_getElem? (i := 722) (by decide +kernel), List.mem_of_getElem? (i := 723) (by decide +kernel)⟩
theorem lw_p4 : lw_okq (⟨"ProcessDesk$Tape", "skipBlanks", "()V"⟩, 9) := ⟨⟨by decide +kernel, by decide +kernel⟩, List.mem_of_getElem? (i := 373) (by decide +kernel), List.mem_of_getElem? (i := 726) (by decide +kernel), List.mem_of_getElem? (i := 727) (by decide +kernel)⟩
theorem lw_p5 : lw_okq (⟨"ProcessDesk$Tape", "readLine", "(LProcessDesk$Desk;)Z"⟩, 9) := ⟨⟨by decide +kernel, by decide +kernel⟩, List.mem_of_getElem? (i := 373) (by decide +kernel), List.mem_of_getElem? (i := 730) (by decide +kernel), List.mem_of_getElem? (i := 731) (by decide +kernel)⟩
theorem lw_p6 : lw_okq (⟨"ProcessDesk$Tape", "readWord", "()V"⟩, 9) := ⟨⟨by decide +kernel, by decide +kernel⟩, List.mem_of_getElem? (i := 373) (by decide +kernel), List.mem_of_getElem? (i := 734) (by decide +kernel), List.mem_of_getElem? (i := 735) (by decide +kernel)⟩
theorem lw_p7 : lw_okq (⟨"ProcessDesk$Tape", "isWord", "(Ljava/lang/String;)Z"⟩, 9) := ⟨⟨by decide +kernel, by decide +kernel⟩, List.mem_of_getElem? (i := 373) (by decide +kernel), List.mem_of_getElem? (i := 742) (by decide +kernel), List.mem_of_getElem? (i := 743) (by decide +kernel)⟩
theorem lw_p8 : lw_okq (⟨"ProcessDesk$Tape", "readDepartment", "(LProcessDesk$Desk;)Z"⟩, 9) := ⟨⟨by decide +kernel, by decide +kernel⟩, List.mem_of_getElem? (i := 373) (by decide +kernel), List.mem_of_getElem? (i := 794) (by decide +kernel), List.mem_of_getElem? (i := 795) (by decide +kernel)⟩
theorem lw_p9 : lw_okq (⟨"ProcessDesk$Tape", "refuse", "(II)Z"⟩, 9) := ⟨⟨by decide +kernel, by decide +kernel⟩, List.mem_of_getElem? (i := 373) (by decide +kernel), List.mem_of_getElem? (i := 798) (by decide +kernel), List.mem_of_getElem? (i := 799) (by decide +kernel)⟩
theorem lw_p10 : lw_okq (⟨"ProcessDesk$Tape", "readWay", "()Z"⟩, 9) := ⟨⟨by decide +kernel, by decide +kernel⟩, List.mem_of_getElem? (i := 373) (by decide +kernel), List.mem_of_getElem? (i := 802) (by decide +kernel), List.mem_of_getElem? (i := 803) (by decide +kernel)⟩
theorem lw_p11 : lw_okq (⟨"ProcessDesk$Tape", "readNumber", "(II)Z"⟩, 9) := ⟨⟨by decide +kernel, by decide +kernel⟩, List.mem_of_getElem? (i := 373) (by decide +kernel), List.mem_of_getElem? (i := 808) (by decide +kernel), List.mem_of_getElem? (i := 809) (by decide +kernel)⟩
theorem lw_p12 : lw_okq (⟨"ProcessDesk$Tape", "atLetter", "()Z"⟩, 9) := ⟨⟨by decide +kernel, by decide +kernel⟩, List.mem_of_getElem? (i := 373) (by decide +kernel), List.mem_of_getElem? (i := 816) (by decide +kernel), List.mem_of_getElem? (i := 817) (by decide +kernel)⟩
theorem lw_p13 : lw_okq (⟨"ProcessDesk$Tape", "readBack", "(LProcessDesk$Department;I)Z"⟩, 9) := ⟨⟨by decide +kernel, by decide +kernel⟩, List.mem_of_getElem? (i := 373) (by decide +kernel), List.mem_of_getElem? (i := 820) (by decide +kernel), List.mem_of_getElem? (i := 821) (by decide +kernel)⟩
theorem lw_p14 : lw_okq (⟨"ProcessDesk$Tape", "readMaterial", "(LProcessDesk$Desk;)Z"⟩, 9) := ⟨⟨by decide +kernel, by decide +kernel⟩, List.mem_of_getElem? (i := 373) (by decide +kernel), List.mem_of_getElem? (i := 826) (by decide +kernel), List.mem_of_getElem? (i := 827) (by decide +kernel)⟩
theorem lw_p15 : lw_okq (⟨"ProcessDesk$Tape", "readProduct", "(LProcessDesk$Desk;)Z"⟩, 9) := ⟨⟨by decide +kernel, by decide +kernel⟩, List.mem_of_getElem? (i := 373) (by decide +kernel), List.mem_of_getElem? (i := 831) (by decide +kernel), List.mem_of_getElem? (i := 832) (by decide +kernel)⟩
def lw_privs_1 : List (MethodName × Nat) := [(⟨"ProcessDesk$Department", "clearNext", "()V"⟩, 14), (⟨"ProcessDesk", "needWithin", "(III)V"⟩, 9), (⟨"java/lang/Throwable", "fillInStackTrace", "(I)Ljava/lang/Throwable;"⟩, 6), (⟨"ProcessDesk$Tape", "atEnd", "()Z"⟩, 9), (⟨"ProcessDesk$Tape", "skipBlanks", "()V"⟩, 9), (⟨"ProcessDesk$Tape", "readLine", "(LProcessDesk$Desk;)Z"⟩, 9), (⟨"ProcessDesk$Tape", "readWord", "()V"⟩, 9), (⟨"ProcessDesk$Tape", "isWord", "(Ljava/lang/String;)Z"⟩, 9), (⟨"ProcessDesk$Tape", "readDepartment", "(LProcessDesk$Desk;)Z"⟩, 9), (⟨"ProcessDesk$Tape", "refuse", "(II)Z"⟩, 9), (⟨"ProcessDesk$Tape", "readWay", "()Z"⟩, 9), (⟨"ProcessDesk$Tape", "readNumber", "(II)Z"⟩, 9), (⟨"ProcessDesk$Tape", "atLetter", "()Z"⟩, 9), (⟨"ProcessDesk$Tape", "readBack", "(LProcessDesk$Department;I)Z"⟩, 9), (⟨"ProcessDesk$Tape", "readMaterial", "(LProcessDesk$Desk;)Z"⟩, 9), (⟨"ProcessDesk$Tape", "readProduct", "(LProcessDesk$Desk;)Z"⟩, 9)]
theorem lw_r1 : ∀ q ∈ lw_privs_1, lw_okq q := List.forall_mem_cons.mpr ⟨lw_p0, List.forall_mem_cons.mpr ⟨lw_p1, List.forall_mem_cons.mpr ⟨lw_p2, List.forall_mem_cons.mpr ⟨lw_p3, List.forall_mem_cons.mpr ⟨lw_p4, List.forall_mem_cons.mpr ⟨lw_p5, List.forall_mem_cons.mpr ⟨lw_p6, List.forall_mem_cons.mpr ⟨lw_p7, List.forall_mem_cons.mpr ⟨lw_p8, List.forall_mem_cons.mpr ⟨lw_p9, List.forall_mem_cons.mpr ⟨lw_p10, List.forall_mem_cons.mpr ⟨lw_p11, List.forall_mem_cons.mpr ⟨lw_p12, List.forall_mem_cons.mpr ⟨lw_p13, List.forall_mem_cons.mpr ⟨lw_p14, List.forall_mem_cons.mpr ⟨lw_p15, fun _ h => absurd h List.not_mem_nil⟩⟩⟩⟩⟩⟩⟩⟩⟩⟩⟩⟩⟩⟩⟩⟩
theorem lw_p16 : lw_okq (⟨"ProcessDesk$Tape", "readBy", "(LProcessDesk$Product;)Z"⟩, 9) := ⟨⟨by decide +kernel, by decide +kernel⟩, List.mem_of_getElem? (i := 373) (by decide +kernel), List.mem_of_getElem? (i := 835) (by decide +kernel), List.mem_of_getElem? (i := 836) (by decide +kernel)⟩
theorem lw_p17 : lw_okq (⟨"ProcessDesk$Tape", "readStore", "(LProcessDesk$Desk;)Z"⟩, 9) := ⟨⟨by decide +kernel, by decide +kernel⟩, List.mem_of_getElem? (i := 373) (by decide +kernel), List.mem_of_getElem? (i := 841) (by decide +kernel), List.mem_of_getElem? (i := 842) (by decide +kernel)⟩
theorem lw_p18 : lw_okq (⟨"ProcessDesk$Tape", "readEnd", "()Z"⟩, 9) := ⟨⟨by decide +kernel, by decide +kernel⟩, List.mem_of_getElem? (i := 373) (by decide +kernel), List.mem_of_getElem? (i := 845) (by decide +kernel), List.mem_of_getElem? (i := 846) (by decide +kernel)⟩
theorem lw_p19 : lw_okq (⟨"ProcessDesk", "needState", "(Z)V"⟩, 9) := ⟨⟨by decide +kernel, by decide +kernel⟩, List.mem_of_getElem? (i := 24) (by decide +kernel), List.mem_of_getElem? (i := 869) (by decide +kernel), List.mem_of_getElem? (i := 870) (by decide +kernel)⟩
theorem lw_p20 : lw_okq (⟨"ProcessDesk", "needDepartment", "(I)LProcessDesk$Department;"⟩, 9) := ⟨⟨by decide +kernel, by decide +kernel⟩, List.mem_of_getElem? (i := 24) (by decide +kernel), List.mem_of_getElem? (i := 897) (by decide +kernel), List.mem_of_getElem? (i := 898) (by decide +kernel)⟩
theorem lw_p21 : lw_okq (⟨"ProcessDesk", "needKind", "(LProcessDesk$Department;II)V"⟩, 9) := ⟨⟨by decide +kernel, by decide +kernel⟩, List.mem_of_getElem? (i := 24) (by decide +kernel), List.mem_of_getElem? (i := 917) (by decide +kernel), List.mem_of_getElem? (i := 918) (by decide +kernel)⟩
theorem lw_p22 : lw_okq (⟨"ProcessDesk$Month", "countDone", "(LProcessDesk$Department;II)V"⟩, 18) := ⟨⟨by decide +kernel, by decide +kernel⟩, List.mem_of_getElem? (i := 75) (by decide +kernel), List.mem_of_getElem? (i := 970) (by decide +kernel), List.mem_of_getElem? (i := 971) (by decide +kernel)⟩
theorem lw_p23 : lw_okq (⟨"ProcessDesk$Month", "shareKind", "(II)V"⟩, 18) := ⟨⟨by decide +kernel, by decide +kernel⟩, List.mem_of_getElem? (i := 75) (by decide +kernel), List.mem_of_getElem? (i := 980) (by decide +kernel), List.mem_of_getElem? (i := 981) (by decide +kernel)⟩
theorem lw_p24 : lw_okq (⟨"ProcessDesk$Month", "countNormal", "(LProcessDesk$Department;)V"⟩, 18) := ⟨⟨by decide +kernel, by decide +kernel⟩, List.mem_of_getElem? (i := 75) (by decide +kernel), List.mem_of_getElem? (i := 991) (by decide +kernel), List.mem_of_getElem? (i := 992) (by decide +kernel)⟩
theorem lw_p25 : lw_okq (⟨"ProcessDesk$Month", "bearLoss", "(LProcessDesk$Department;)V"⟩, 18) := ⟨⟨by decide +kernel, by decide +kernel⟩, List.mem_of_getElem? (i := 75) (by decide +kernel), List.mem_of_getElem? (i := 997) (by decide +kernel), List.mem_of_getElem? (i := 998) (by decide +kernel)⟩
theorem lw_p26 : lw_okq (⟨"ProcessDesk$Desk", "partUnits", "(I)V"⟩, 11) := ⟨⟨by decide +kernel, by decide +kernel⟩, List.mem_of_getElem? (i := 32) (by decide +kernel), List.mem_of_getElem? (i := 1005) (by decide +kernel), List.mem_of_getElem? (i := 1006) (by decide +kernel)⟩
theorem lw_p27 : lw_okq (⟨"ProcessDesk$Desk", "partCents", "(J)V"⟩, 11) := ⟨⟨by decide +kernel, by decide +kernel⟩, List.mem_of_getElem? (i := 32) (by decide +kernel), List.mem_of_getElem? (i := 1014) (by decide +kernel), List.mem_of_getElem? (i := 1015) (by decide +kernel)⟩
theorem lw_p28 : lw_okq (⟨"ProcessDesk$Desk", "partAmongMain", "(J)V"⟩, 11) := ⟨⟨by decide +kernel, by decide +kernel⟩, List.mem_of_getElem? (i := 32) (by decide +kernel), List.mem_of_getElem? (i := 1022) (by decide +kernel), List.mem_of_getElem? (i := 1023) (by decide +kernel)⟩
theorem lw_p29 : lw_okq (⟨"ProcessDesk$Desk", "mainMeasure", "(Z)J"⟩, 11) := ⟨⟨by decide +kernel, by decide +kernel⟩, List.mem_of_getElem? (i := 32) (by decide +kernel), List.mem_of_getElem? (i := 1026) (by decide +kernel), List.mem_of_getElem? (i := 1027) (by decide +kernel)⟩
theorem lw_p30 : lw_okq (⟨"ProcessDesk$Desk", "moveUnplaced", "()V"⟩, 11) := ⟨⟨by decide +kernel, by decide +kernel⟩, List.mem_of_getElem? (i := 32) (by decide +kernel), List.mem_of_getElem? (i := 1031) (by decide +kernel), List.mem_of_getElem? (i := 1032) (by decide +kernel)⟩
theorem lw_p31 : lw_okq (⟨"ProcessDesk$Desk", "fillStore", "()Z"⟩, 11) := ⟨⟨by decide +kernel, by decide +kernel⟩, List.mem_of_getElem? (i := 32) (by decide +kernel), List.mem_of_getElem? (i := 1040) (by decide +kernel), List.mem_of_getElem? (i := 1041) (by decide +kernel)⟩
def lw_privs_2 : List (MethodName × Nat) := [(⟨"ProcessDesk$Tape", "readBy", "(LProcessDesk$Product;)Z"⟩, 9), (⟨"ProcessDesk$Tape", "readStore", "(LProcessDesk$Desk;)Z"⟩, 9), (⟨"ProcessDesk$Tape", "readEnd", "()Z"⟩, 9), (⟨"ProcessDesk", "needState", "(Z)V"⟩, 9), (⟨"ProcessDesk", "needDepartment", "(I)LProcessDesk$Department;"⟩, 9), (⟨"ProcessDesk", "needKind", "(LProcessDesk$Department;II)V"⟩, 9), (⟨"ProcessDesk$Month", "countDone", "(LProcessDesk$Department;II)V"⟩, 18), (⟨"ProcessDesk$Month", "shareKind", "(II)V"⟩, 18), (⟨"ProcessDesk$Month", "countNormal", "(LProcessDesk$Department;)V"⟩, 18), (⟨"ProcessDesk$Month", "bearLoss", "(LProcessDesk$Department;)V"⟩, 18), (⟨"ProcessDesk$Desk", "partUnits", "(I)V"⟩, 11), (⟨"ProcessDesk$Desk", "partCents", "(J)V"⟩, 11), (⟨"ProcessDesk$Desk", "partAmongMain", "(J)V"⟩, 11), (⟨"ProcessDesk$Desk", "mainMeasure", "(Z)J"⟩, 11), (⟨"ProcessDesk$Desk", "moveUnplaced", "()V"⟩, 11), (⟨"ProcessDesk$Desk", "fillStore", "()Z"⟩, 11)]
theorem lw_r2 : ∀ q ∈ lw_privs_2, lw_okq q := List.forall_mem_cons.mpr ⟨lw_p16, List.forall_mem_cons.mpr ⟨lw_p17, List.forall_mem_cons.mpr ⟨lw_p18, List.forall_mem_cons.mpr ⟨lw_p19, List.forall_mem_cons.mpr ⟨lw_p20, List.forall_mem_cons.mpr ⟨lw_p21, List.forall_mem_cons.mpr ⟨lw_p22, List.forall_mem_cons.mpr ⟨lw_p23, List.forall_mem_cons.mpr ⟨lw_p24, List.forall_mem_cons.mpr ⟨lw_p25, List.forall_mem_cons.mpr ⟨lw_p26, List.forall_mem_cons.mpr ⟨lw_p27, List.forall_mem_cons.mpr ⟨lw_p28, List.forall_mem_cons.mpr ⟨lw_p29, List.forall_mem_cons.mpr ⟨lw_p30, List.forall_mem_cons.mpr ⟨lw_p31, fun _ h => absurd h List.not_mem_nil⟩⟩⟩⟩⟩⟩⟩⟩⟩⟩⟩⟩⟩⟩⟩⟩
theorem lw_p32 : lw_okq (⟨"ProcessDesk$Desk", "addToAccounts", "()V"⟩, 11) := ⟨⟨by decide +kernel, by decide +kernel⟩, List.mem_of_getElem? (i := 32) (by decide +kernel), List.mem_of_getElem? (i := 1048) (by decide +kernel), List.mem_of_getElem? (i := 1049) (by decide +kernel)⟩
theorem lw_p33 : lw_okq (⟨"ProcessDesk", "needProduct", "(I)LProcessDesk$Product;"⟩, 9) := ⟨⟨by decide +kernel, by decide +kernel⟩, List.mem_of_getElem? (i := 24) (by decide +kernel), List.mem_of_getElem? (i := 1068) (by decide +kernel), List.mem_of_getElem? (i := 1069) (by decide +kernel)⟩
theorem lw_p34 : lw_okq (⟨"ProcessDesk$Product", "dropOldest", "(I)V"⟩, 10) := ⟨⟨by decide +kernel, by decide +kernel⟩, List.mem_of_getElem? (i := 234) (by decide +kernel), List.mem_of_getElem? (i := 1079) (by decide +kernel), List.mem_of_getElem? (i := 1080) (by decide +kernel)⟩
theorem lw_p35 : lw_okq (⟨"ProcessDesk", "needLayer", "(LProcessDesk$Product;I)V"⟩, 9) := ⟨⟨by decide +kernel, by decide +kernel⟩, List.mem_of_getElem? (i := 24) (by decide +kernel), List.mem_of_getElem? (i := 1178) (by decide +kernel), List.mem_of_getElem? (i := 1179) (by decide +kernel)⟩
theorem lw_p36 : lw_okq (⟨"ProcessDesk$Plan", "turn", "(LProcessDesk$Desk;I)Z"⟩, 3) := ⟨⟨by decide +kernel, by decide +kernel⟩, List.mem_of_getElem? (i := 411) (by decide +kernel), List.mem_of_getElem? (i := 1211) (by decide +kernel), List.mem_of_getElem? (i := 1212) (by decide +kernel)⟩
theorem lw_p37 : lw_okq (⟨"ProcessDesk$Plan", "takeFresh", "(I)Z"⟩, 3) := ⟨⟨by decide +kernel, by decide +kernel⟩, List.mem_of_getElem? (i := 411) (by decide +kernel), List.mem_of_getElem? (i := 1228) (by decide +kernel), List.mem_of_getElem? (i := 1229) (by decide +kernel)⟩
theorem lw_p38 : lw_okq (⟨"ProcessDeskModel", "bad", "(ZII)Z"⟩, 17) := ⟨⟨by decide +kernel, by decide +kernel⟩, List.mem_of_getElem? (i := 1237) (by decide +kernel), List.mem_of_getElem? (i := 1321) (by decide +kernel), List.mem_of_getElem? (i := 1322) (by decide +kernel)⟩
theorem lw_p39 : lw_okq (⟨"ProcessDeskModel", "fine", "()Z"⟩, 17) := ⟨⟨by decide +kernel, by decide +kernel⟩, List.mem_of_getElem? (i := 1237) (by decide +kernel), List.mem_of_getElem? (i := 1325) (by decide +kernel), List.mem_of_getElem? (i := 1326) (by decide +kernel)⟩
theorem lw_p40 : lw_okq (⟨"ProcessDeskModel", "here", "()I"⟩, 17) := ⟨⟨by decide +kernel, by decide +kernel⟩, List.mem_of_getElem? (i := 1237) (by decide +kernel), List.mem_of_getElem? (i := 1329) (by decide +kernel), List.mem_of_getElem? (i := 1330) (by decide +kernel)⟩
theorem lw_p41 : lw_okq (⟨"ProcessDeskModel", "byteAt", "(I)I"⟩, 17) := ⟨⟨by decide +kernel, by decide +kernel⟩, List.mem_of_getElem? (i := 1237) (by decide +kernel), List.mem_of_getElem? (i := 1333) (by decide +kernel), List.mem_of_getElem? (i := 1334) (by decide +kernel)⟩
theorem lw_p42 : lw_okq (⟨"ProcessDeskModel", "line", "()V"⟩, 17) := ⟨⟨by decide +kernel, by decide +kernel⟩, List.mem_of_getElem? (i := 1237) (by decide +kernel), List.mem_of_getElem? (i := 1337) (by decide +kernel), List.mem_of_getElem? (i := 1338) (by decide +kernel)⟩
theorem lw_p43 : lw_okq (⟨"ProcessDeskModel", "takesWord", "(Ljava/lang/String;)Z"⟩, 17) := ⟨⟨by decide +kernel, by decide +kernel⟩, List.mem_of_getElem? (i := 1237) (by decide +kernel), List.mem_of_getElem? (i := 1342) (by decide +kernel), List.mem_of_getElem? (i := 1343) (by decide +kernel)⟩
theorem lw_p44 : lw_okq (⟨"ProcessDeskModel", "readsDept", "(I)V"⟩, 17) := ⟨⟨by decide +kernel, by decide +kernel⟩, List.mem_of_getElem? (i := 1237) (by decide +kernel), List.mem_of_getElem? (i := 1351) (by decide +kernel), List.mem_of_getElem? (i := 1352) (by decide +kernel)⟩
theorem lw_p45 : lw_okq (⟨"ProcessDeskModel", "wrong", "(II)V"⟩, 17) := ⟨⟨by decide +kernel, by decide +kernel⟩, List.mem_of_getElem? (i := 1237) (by decide +kernel), List.mem_of_getElem? (i := 1355) (by decide +kernel), List.mem_of_getElem? (i := 1356) (by decide +kernel)⟩
theorem lw_p46 : lw_okq (⟨"ProcessDeskModel", "way", "()I"⟩, 17) := ⟨⟨by decide +kernel, by decide +kernel⟩, List.mem_of_getElem? (i := 1237) (by decide +kernel), List.mem_of_getElem? (i := 1359) (by decide +kernel), List.mem_of_getElem? (i := 1360) (by decide +kernel)⟩
theorem lw_p47 : lw_okq (⟨"ProcessDeskModel", "number", "(II)I"⟩, 17) := ⟨⟨by decide +kernel, by decide +kernel⟩, List.mem_of_getElem? (i := 1237) (by decide +kernel), List.mem_of_getElem? (i := 1365) (by decide +kernel), List.mem_of_getElem? (i := 1366) (by decide +kernel)⟩
def lw_privs_3 : List (MethodName × Nat) := [(⟨"ProcessDesk$Desk", "addToAccounts", "()V"⟩, 11), (⟨"ProcessDesk", "needProduct", "(I)LProcessDesk$Product;"⟩, 9), (⟨"ProcessDesk$Product", "dropOldest", "(I)V"⟩, 10), (⟨"ProcessDesk", "needLayer", "(LProcessDesk$Product;I)V"⟩, 9), (⟨"ProcessDesk$Plan", "turn", "(LProcessDesk$Desk;I)Z"⟩, 3), (⟨"ProcessDesk$Plan", "takeFresh", "(I)Z"⟩, 3), (⟨"ProcessDeskModel", "bad", "(ZII)Z"⟩, 17), (⟨"ProcessDeskModel", "fine", "()Z"⟩, 17), (⟨"ProcessDeskModel", "here", "()I"⟩, 17), (⟨"ProcessDeskModel", "byteAt", "(I)I"⟩, 17), (⟨"ProcessDeskModel", "line", "()V"⟩, 17), (⟨"ProcessDeskModel", "takesWord", "(Ljava/lang/String;)Z"⟩, 17), (⟨"ProcessDeskModel", "readsDept", "(I)V"⟩, 17), (⟨"ProcessDeskModel", "wrong", "(II)V"⟩, 17), (⟨"ProcessDeskModel", "way", "()I"⟩, 17), (⟨"ProcessDeskModel", "number", "(II)I"⟩, 17)]
theorem lw_r3 : ∀ q ∈ lw_privs_3, lw_okq q := List.forall_mem_cons.mpr ⟨lw_p32, List.forall_mem_cons.mpr ⟨lw_p33, List.forall_mem_cons.mpr ⟨lw_p34, List.forall_mem_cons.mpr ⟨lw_p35, List.forall_mem_cons.mpr ⟨lw_p36, List.forall_mem_cons.mpr ⟨lw_p37, List.forall_mem_cons.mpr ⟨lw_p38, List.forall_mem_cons.mpr ⟨lw_p39, List.forall_mem_cons.mpr ⟨lw_p40, List.forall_mem_cons.mpr ⟨lw_p41, List.forall_mem_cons.mpr ⟨lw_p42, List.forall_mem_cons.mpr ⟨lw_p43, List.forall_mem_cons.mpr ⟨lw_p44, List.forall_mem_cons.mpr ⟨lw_p45, List.forall_mem_cons.mpr ⟨lw_p46, List.forall_mem_cons.mpr ⟨lw_p47, fun _ h => absurd h List.not_mem_nil⟩⟩⟩⟩⟩⟩⟩⟩⟩⟩⟩⟩⟩⟩⟩⟩
theorem lw_p48 : lw_okq (⟨"ProcessDeskModel", "readsMat", "(I)V"⟩, 17) := ⟨⟨by decide +kernel, by decide +kernel⟩, List.mem_of_getElem? (i := 1237) (by decide +kernel), List.mem_of_getElem? (i := 1378) (by decide +kernel), List.mem_of_getElem? (i := 1379) (by decide +kernel)⟩
theorem lw_p49 : lw_okq (⟨"ProcessDeskModel", "readsProduct", "(I)V"⟩, 17) := ⟨⟨by decide +kernel, by decide +kernel⟩, List.mem_of_getElem? (i := 1237) (by decide +kernel), List.mem_of_getElem? (i := 1384) (by decide +kernel), List.mem_of_getElem? (i := 1385) (by decide +kernel)⟩
theorem lw_p50 : lw_okq (⟨"ProcessDeskModel", "isDesk", "()Z"⟩, 17) := ⟨⟨by decide +kernel, by decide +kernel⟩, List.mem_of_getElem? (i := 1237) (by decide +kernel), List.mem_of_getElem? (i := 1390) (by decide +kernel), List.mem_of_getElem? (i := 1391) (by decide +kernel)⟩
theorem lw_p51 : lw_okq (⟨"ProcessDeskModel", "remembers", "()V"⟩, 17) := ⟨⟨by decide +kernel, by decide +kernel⟩, List.mem_of_getElem? (i := 1237) (by decide +kernel), List.mem_of_getElem? (i := 1394) (by decide +kernel), List.mem_of_getElem? (i := 1395) (by decide +kernel)⟩
theorem lw_p52 : lw_okq (⟨"ProcessDeskModel", "isDept", "(I)Z"⟩, 17) := ⟨⟨by decide +kernel, by decide +kernel⟩, List.mem_of_getElem? (i := 1237) (by decide +kernel), List.mem_of_getElem? (i := 1418) (by decide +kernel), List.mem_of_getElem? (i := 1419) (by decide +kernel)⟩
theorem lw_p53 : lw_okq (⟨"ProcessDeskModel", "isKind", "(III)Z"⟩, 17) := ⟨⟨by decide +kernel, by decide +kernel⟩, List.mem_of_getElem? (i := 1237) (by decide +kernel), List.mem_of_getElem? (i := 1422) (by decide +kernel), List.mem_of_getElem? (i := 1423) (by decide +kernel)⟩
theorem lw_p54 : lw_okq (⟨"ProcessDeskModel", "of", "(II)J"⟩, 17) := ⟨⟨by decide +kernel, by decide +kernel⟩, List.mem_of_getElem? (i := 1237) (by decide +kernel), List.mem_of_getElem? (i := 1427) (by decide +kernel), List.mem_of_getElem? (i := 1428) (by decide +kernel)⟩
theorem lw_p55 : lw_okq (⟨"ProcessDeskModel", "isProduct", "(I)Z"⟩, 17) := ⟨⟨by decide +kernel, by decide +kernel⟩, List.mem_of_getElem? (i := 1237) (by decide +kernel), List.mem_of_getElem? (i := 1495) (by decide +kernel), List.mem_of_getElem? (i := 1496) (by decide +kernel)⟩
theorem lw_p56 : lw_okq (⟨"ProcessDeskModel", "unitsIn", "(II)J"⟩, 17) := ⟨⟨by decide +kernel, by decide +kernel⟩, List.mem_of_getElem? (i := 1237) (by decide +kernel), List.mem_of_getElem? (i := 1499) (by decide +kernel), List.mem_of_getElem? (i := 1500) (by decide +kernel)⟩
theorem lw_p57 : lw_okq (⟨"ProcessDeskModel", "goesRound", "(I)Z"⟩, 17) := ⟨⟨by decide +kernel, by decide +kernel⟩, List.mem_of_getElem? (i := 1237) (by decide +kernel), List.mem_of_getElem? (i := 1563) (by decide +kernel), List.mem_of_getElem? (i := 1564) (by decide +kernel)⟩
theorem lw_p58 : lw_okq (⟨"ProcessDeskModel", "passes", "(I)J"⟩, 17) := ⟨⟨by decide +kernel, by decide +kernel⟩, List.mem_of_getElem? (i := 1237) (by decide +kernel), List.mem_of_getElem? (i := 1568) (by decide +kernel), List.mem_of_getElem? (i := 1569) (by decide +kernel)⟩
theorem lw_p59 : lw_okq (⟨"ProcessDeskModel", "lostOf", "(I)J"⟩, 17) := ⟨⟨by decide +kernel, by decide +kernel⟩, List.mem_of_getElem? (i := 1237) (by decide +kernel), List.mem_of_getElem? (i := 1572) (by decide +kernel), List.mem_of_getElem? (i := 1573) (by decide +kernel)⟩
def lw_privs_4 : List (MethodName × Nat) := [(⟨"ProcessDeskModel", "readsMat", "(I)V"⟩, 17), (⟨"ProcessDeskModel", "readsProduct", "(I)V"⟩, 17), (⟨"ProcessDeskModel", "isDesk", "()Z"⟩, 17), (⟨"ProcessDeskModel", "remembers", "()V"⟩, 17), (⟨"ProcessDeskModel", "isDept", "(I)Z"⟩, 17), (⟨"ProcessDeskModel", "isKind", "(III)Z"⟩, 17), (⟨"ProcessDeskModel", "of", "(II)J"⟩, 17), (⟨"ProcessDeskModel", "isProduct", "(I)Z"⟩, 17), (⟨"ProcessDeskModel", "unitsIn", "(II)J"⟩, 17), (⟨"ProcessDeskModel", "goesRound", "(I)Z"⟩, 17), (⟨"ProcessDeskModel", "passes", "(I)J"⟩, 17), (⟨"ProcessDeskModel", "lostOf", "(I)J"⟩, 17)]
theorem lw_r4 : ∀ q ∈ lw_privs_4, lw_okq q := List.forall_mem_cons.mpr ⟨lw_p48, List.forall_mem_cons.mpr ⟨lw_p49, List.forall_mem_cons.mpr ⟨lw_p50, List.forall_mem_cons.mpr ⟨lw_p51, List.forall_mem_cons.mpr ⟨lw_p52, List.forall_mem_cons.mpr ⟨lw_p53, List.forall_mem_cons.mpr ⟨lw_p54, List.forall_mem_cons.mpr ⟨lw_p55, List.forall_mem_cons.mpr ⟨lw_p56, List.forall_mem_cons.mpr ⟨lw_p57, List.forall_mem_cons.mpr ⟨lw_p58, List.forall_mem_cons.mpr ⟨lw_p59, fun _ h => absurd h List.not_mem_nil⟩⟩⟩⟩⟩⟩⟩⟩⟩⟩⟩⟩
def lw_privs : List (MethodName × Nat) := lw_privs_1 ++ (lw_privs_2 ++ (lw_privs_3 ++ (lw_privs_4)))
def lw_tbl : List Cond := k2_sels lw_privs ++ tables_1
theorem lw_privs_ok : ∀ q ∈ lw_privs, lw_okq q := by
  show ∀ q ∈ lw_privs_1 ++ (lw_privs_2 ++ (lw_privs_3 ++ (lw_privs_4))), lw_okq q
  exact List.forall_mem_append.mpr ⟨lw_r1, List.forall_mem_append.mpr ⟨lw_r2, List.forall_mem_append.mpr ⟨lw_r3, lw_r4⟩⟩⟩
def RX0 : String := "ProcessDesk$Department"
def TX0 : u_T := fun k => match k with
  | 0 => ("ProcessDesk$Department", "way", "I", false)
  | 1 => ("ProcessDesk$Department", "point", "I", false)
  | 2 => ("ProcessDesk$Department", "rate", "I", false)
  | 3 => ("ProcessDesk$Department", "scrap", "I", false)
  | 4 => ("ProcessDesk$Department", "materials", "I", false)
  | 5 => ("ProcessDesk$Department", "addedAt", "[J", true)
  | 6 => ("ProcessDesk$Department", "backTo", "I", false)
  | 7 => ("ProcessDesk$Department", "backShare", "I", false)
  | 8 => ("ProcessDesk$Department", "lostNext", "I", false)
  | 9 => ("ProcessDesk$Department", "leftNext", "I", false)
  | 10 => ("ProcessDesk$Department", "farNext", "I", false)
  | 11 => ("ProcessDesk$Department", "spentNext", "[J", true)
  | 12 => ("ProcessDesk$Department", "inWork", "LProcessDesk$Lot;", true)
  | _ => ("ProcessDesk$Department", "month", "LProcessDesk$Month;", true)
def tyX0 : Nat → FieldType := fun k => match k with
  | 0 => .int
  | 1 => .int
  | 2 => .int
  | 3 => .int
  | 4 => .int
  | 5 => .array .long
  | 6 => .int
  | 7 => .int
  | 8 => .int
  | 9 => .int
  | 10 => .int
  | 11 => .array .long
  | 12 => .object "ProcessDesk$Lot"
  | _ => .object "ProcessDesk$Month"
theorem nmX0 : ∀ a, a < 14 → ∀ b, b < 14 → a ≠ b → (TX0 a).2.1 ≠ (TX0 b).2.1 := by decide +kernel
theorem tyX0_ok : ∀ k, k < 14 → parseFieldDescriptor (TX0 k).2.2.1 = some (tyX0 k) := by decide +kernel
abbrev cX0_init : ByteArray := prog_2_method_1_code
def yX0_init : MethodName := ⟨RX0, "<init>", "()V"⟩
abbrev cX0_clear : ByteArray := prog_2_method_2_code
def yX0_clear : MethodName := ⟨RX0, "clear", "()V"⟩
abbrev cX0_clearNext : ByteArray := prog_2_method_3_code
def yX0_clearNext : MethodName := ⟨RX0, "clearNext", "()V"⟩
abbrev cX0_hasKind : ByteArray := prog_2_method_4_code
def yX0_hasKind : MethodName := ⟨RX0, "hasKind", "(I)Z"⟩
abbrev cX0_doneAt : ByteArray := prog_2_method_5_code
def yX0_doneAt : MethodName := ⟨RX0, "doneAt", "(II)J"⟩
abbrev cX0_closeMonth : ByteArray := prog_2_method_6_code
def yX0_closeMonth : MethodName := ⟨RX0, "closeMonth", "(IJ)Z"⟩
abbrev cX0_scrapOfMonth : ByteArray := prog_2_method_7_code
def yX0_scrapOfMonth : MethodName := ⟨RX0, "scrapOfMonth", "()J"⟩
abbrev cX0_lostOf : ByteArray := prog_2_method_8_code
def yX0_lostOf : MethodName := ⟨RX0, "lostOf", "(J)J"⟩
abbrev cX0_passingOf : ByteArray := prog_2_method_9_code
def yX0_passingOf : MethodName := ⟨RX0, "passingOf", "(J)J"⟩
abbrev cX0_backOf : ByteArray := prog_2_method_10_code
def yX0_backOf : MethodName := ⟨RX0, "backOf", "(J)J"⟩
abbrev cX0_save : ByteArray := prog_2_method_11_code
def yX0_save : MethodName := ⟨RX0, "save", "(LProcessDesk$Row;)V"⟩
abbrev cX0_load : ByteArray := prog_2_method_12_code
def yX0_load : MethodName := ⟨RX0, "load", "(LProcessDesk$Row;)V"⟩
def RX1 : String := "ProcessDesk$Desk"
def TX1 : u_T := fun k => match k with
  | 0 => ("ProcessDesk$Desk", "departmentRow", "[LProcessDesk$Department;", true)
  | 1 => ("ProcessDesk$Desk", "productRow", "[LProcessDesk$Product;", true)
  | 2 => ("ProcessDesk$Desk", "departments", "I", false)
  | 3 => ("ProcessDesk$Desk", "products", "I", false)
  | 4 => ("ProcessDesk$Desk", "storeWay", "I", false)
  | 5 => ("ProcessDesk$Desk", "months", "I", false)
  | 6 => ("ProcessDesk$Desk", "started", "I", false)
  | 7 => ("ProcessDesk$Desk", "spentSoFar", "J", false)
  | 8 => ("ProcessDesk$Desk", "soldSoFar", "J", false)
  | 9 => ("ProcessDesk$Desk", "abnormalSoFar", "J", false)
  | _ => ("ProcessDesk$Desk", "scrapSoFar", "J", false)
def tyX1 : Nat → FieldType := fun k => match k with
  | 0 => .array (.object "ProcessDesk$Department")
  | 1 => .array (.object "ProcessDesk$Product")
  | 2 => .int
  | 3 => .int
  | 4 => .int
  | 5 => .int
  | 6 => .int
  | 7 => .long
  | 8 => .long
  | 9 => .long
  | _ => .long
theorem nmX1 : ∀ a, a < 11 → ∀ b, b < 11 → a ≠ b → (TX1 a).2.1 ≠ (TX1 b).2.1 := by decide +kernel
theorem tyX1_ok : ∀ k, k < 11 → parseFieldDescriptor (TX1 k).2.2.1 = some (tyX1 k) := by decide +kernel
abbrev cX1_init : ByteArray := prog_3_method_1_code
def yX1_init : MethodName := ⟨RX1, "<init>", "()V"⟩
abbrev cX1_clear : ByteArray := prog_3_method_2_code
def yX1_clear : MethodName := ⟨RX1, "clear", "()V"⟩
abbrev cX1_tellFirst : ByteArray := prog_3_method_3_code
def yX1_tellFirst : MethodName := ⟨RX1, "tellFirst", "()V"⟩
abbrev cX1_lastDepartment : ByteArray := prog_3_method_4_code
def yX1_lastDepartment : MethodName := ⟨RX1, "lastDepartment", "()LProcessDesk$Department;"⟩
abbrev cX1_closeMonth : ByteArray := prog_3_method_5_code
def yX1_closeMonth : MethodName := ⟨RX1, "closeMonth", "()Z"⟩
abbrev cX1_partUnits : ByteArray := prog_3_method_6_code
def yX1_partUnits : MethodName := ⟨RX1, "partUnits", "(I)V"⟩
abbrev cX1_partCents : ByteArray := prog_3_method_7_code
def yX1_partCents : MethodName := ⟨RX1, "partCents", "(J)V"⟩
abbrev cX1_partAmongMain : ByteArray := prog_3_method_8_code
def yX1_partAmongMain : MethodName := ⟨RX1, "partAmongMain", "(J)V"⟩
abbrev cX1_mainMeasure : ByteArray := prog_3_method_9_code
def yX1_mainMeasure : MethodName := ⟨RX1, "mainMeasure", "(Z)J"⟩
abbrev cX1_moveUnplaced : ByteArray := prog_3_method_10_code
def yX1_moveUnplaced : MethodName := ⟨RX1, "moveUnplaced", "()V"⟩
abbrev cX1_fillStore : ByteArray := prog_3_method_11_code
def yX1_fillStore : MethodName := ⟨RX1, "fillStore", "()Z"⟩
abbrev cX1_addToAccounts : ByteArray := prog_3_method_12_code
def yX1_addToAccounts : MethodName := ⟨RX1, "addToAccounts", "()V"⟩
abbrev cX1_centsInWork : ByteArray := prog_3_method_13_code
def yX1_centsInWork : MethodName := ⟨RX1, "centsInWork", "()J"⟩
abbrev cX1_centsInStore : ByteArray := prog_3_method_14_code
def yX1_centsInStore : MethodName := ⟨RX1, "centsInStore", "()J"⟩
abbrev cX1_printed : ByteArray := prog_3_method_15_code
def yX1_printed : MethodName := ⟨RX1, "printed", "()J"⟩
abbrev cX1_save : ByteArray := prog_3_method_16_code
def yX1_save : MethodName := ⟨RX1, "save", "(LProcessDesk$Row;)V"⟩
abbrev cX1_load : ByteArray := prog_3_method_17_code
def yX1_load : MethodName := ⟨RX1, "load", "(LProcessDesk$Row;)V"⟩
def RX2 : String := "ProcessDesk$History"
def TX2 : u_T := fun k => match k with
  | 0 => ("ProcessDesk$History", "rows", "[LProcessDesk$Row;", true)
  | 1 => ("ProcessDesk$History", "next", "I", false)
  | _ => ("ProcessDesk$History", "kept", "I", false)
def tyX2 : Nat → FieldType := fun k => match k with
  | 0 => .array (.object "ProcessDesk$Row")
  | 1 => .int
  | _ => .int
theorem nmX2 : ∀ a, a < 3 → ∀ b, b < 3 → a ≠ b → (TX2 a).2.1 ≠ (TX2 b).2.1 := by decide +kernel
theorem tyX2_ok : ∀ k, k < 3 → parseFieldDescriptor (TX2 k).2.2.1 = some (tyX2 k) := by decide +kernel
abbrev cX2_init : ByteArray := prog_4_method_1_code
def yX2_init : MethodName := ⟨RX2, "<init>", "()V"⟩
abbrev cX2_row : ByteArray := prog_4_method_2_code
def yX2_row : MethodName := ⟨RX2, "row", "()LProcessDesk$Row;"⟩
abbrev cX2_keep : ByteArray := prog_4_method_3_code
def yX2_keep : MethodName := ⟨RX2, "keep", "()V"⟩
abbrev cX2_stepBack : ByteArray := prog_4_method_4_code
def yX2_stepBack : MethodName := ⟨RX2, "stepBack", "()Z"⟩
def RX3 : String := "ProcessDesk$Lot"
def TX3 : u_T := fun k => match k with
  | 0 => ("ProcessDesk$Lot", "units", "I", false)
  | 1 => ("ProcessDesk$Lot", "far", "I", false)
  | _ => ("ProcessDesk$Lot", "cents", "[J", true)
def tyX3 : Nat → FieldType := fun k => match k with
  | 0 => .int
  | 1 => .int
  | _ => .array .long
theorem nmX3 : ∀ a, a < 3 → ∀ b, b < 3 → a ≠ b → (TX3 a).2.1 ≠ (TX3 b).2.1 := by decide +kernel
theorem tyX3_ok : ∀ k, k < 3 → parseFieldDescriptor (TX3 k).2.2.1 = some (tyX3 k) := by decide +kernel
abbrev cX3_init : ByteArray := prog_5_method_1_code
def yX3_init : MethodName := ⟨RX3, "<init>", "()V"⟩
abbrev cX3_clear : ByteArray := prog_5_method_2_code
def yX3_clear : MethodName := ⟨RX3, "clear", "()V"⟩
abbrev cX3_copyFrom : ByteArray := prog_5_method_3_code
def yX3_copyFrom : MethodName := ⟨RX3, "copyFrom", "(LProcessDesk$Lot;)V"⟩
abbrev cX3_save : ByteArray := prog_5_method_4_code
def yX3_save : MethodName := ⟨RX3, "save", "(LProcessDesk$Row;)V"⟩
abbrev cX3_load : ByteArray := prog_5_method_5_code
def yX3_load : MethodName := ⟨RX3, "load", "(LProcessDesk$Row;)V"⟩
def RX4 : String := "ProcessDesk$Month"
def TX4 : u_T := fun k => match k with
  | 0 => ("ProcessDesk$Month", "opening", "LProcessDesk$Lot;", true)
  | 1 => ("ProcessDesk$Month", "rest", "LProcessDesk$Lot;", true)
  | 2 => ("ProcessDesk$Month", "added", "[J", true)
  | 3 => ("ProcessDesk$Month", "received", "I", false)
  | 4 => ("ProcessDesk$Month", "lost", "I", false)
  | 5 => ("ProcessDesk$Month", "finished", "I", false)
  | 6 => ("ProcessDesk$Month", "come", "I", false)
  | 7 => ("ProcessDesk$Month", "normal", "I", false)
  | 8 => ("ProcessDesk$Month", "finishedDone", "[J", true)
  | 9 => ("ProcessDesk$Month", "leftDone", "[J", true)
  | 10 => ("ProcessDesk$Month", "lostDone", "[J", true)
  | 11 => ("ProcessDesk$Month", "pool", "[J", true)
  | 12 => ("ProcessDesk$Month", "finishedCents", "[J", true)
  | 13 => ("ProcessDesk$Month", "lostCents", "[J", true)
  | 14 => ("ProcessDesk$Month", "net", "J", false)
  | 15 => ("ProcessDesk$Month", "netToLeft", "J", false)
  | 16 => ("ProcessDesk$Month", "abnormal", "J", false)
  | _ => ("ProcessDesk$Month", "out", "J", false)
def tyX4 : Nat → FieldType := fun k => match k with
  | 0 => .object "ProcessDesk$Lot"
  | 1 => .object "ProcessDesk$Lot"
  | 2 => .array .long
  | 3 => .int
  | 4 => .int
  | 5 => .int
  | 6 => .int
  | 7 => .int
  | 8 => .array .long
  | 9 => .array .long
  | 10 => .array .long
  | 11 => .array .long
  | 12 => .array .long
  | 13 => .array .long
  | 14 => .long
  | 15 => .long
  | 16 => .long
  | _ => .long
theorem nmX4 : ∀ a, a < 18 → ∀ b, b < 18 → a ≠ b → (TX4 a).2.1 ≠ (TX4 b).2.1 := by decide +kernel
theorem tyX4_ok : ∀ k, k < 18 → parseFieldDescriptor (TX4 k).2.2.1 = some (tyX4 k) := by decide +kernel
abbrev cX4_init : ByteArray := prog_6_method_1_code
def yX4_init : MethodName := ⟨RX4, "<init>", "()V"⟩
abbrev cX4_clear : ByteArray := prog_6_method_2_code
def yX4_clear : MethodName := ⟨RX4, "clear", "()V"⟩
abbrev cX4_copyGiven : ByteArray := prog_6_method_3_code
def yX4_copyGiven : MethodName := ⟨RX4, "copyGiven", "(LProcessDesk$Month;)V"⟩
abbrev cX4_spent : ByteArray := prog_6_method_4_code
def yX4_spent : MethodName := ⟨RX4, "spent", "()J"⟩
abbrev cX4_allDone : ByteArray := prog_6_method_5_code
def yX4_allDone : MethodName := ⟨RX4, "allDone", "(I)J"⟩
abbrev cX4_reckon : ByteArray := prog_6_method_6_code
def yX4_reckon : MethodName := ⟨RX4, "reckon", "(LProcessDesk$Department;I)Z"⟩
abbrev cX4_countDone : ByteArray := prog_6_method_7_code
def yX4_countDone : MethodName := ⟨RX4, "countDone", "(LProcessDesk$Department;II)V"⟩
abbrev cX4_shareKind : ByteArray := prog_6_method_8_code
def yX4_shareKind : MethodName := ⟨RX4, "shareKind", "(II)V"⟩
abbrev cX4_countNormal : ByteArray := prog_6_method_9_code
def yX4_countNormal : MethodName := ⟨RX4, "countNormal", "(LProcessDesk$Department;)V"⟩
abbrev cX4_bearLoss : ByteArray := prog_6_method_10_code
def yX4_bearLoss : MethodName := ⟨RX4, "bearLoss", "(LProcessDesk$Department;)V"⟩
abbrev cX4_save : ByteArray := prog_6_method_11_code
def yX4_save : MethodName := ⟨RX4, "save", "(LProcessDesk$Row;)V"⟩
abbrev cX4_load : ByteArray := prog_6_method_12_code
def yX4_load : MethodName := ⟨RX4, "load", "(LProcessDesk$Row;)V"⟩
def RX5 : String := "ProcessDesk$Plan"
def TX5 : u_T := fun k => match k with
  | 0 => ("ProcessDesk$Plan", "flows", "[J", true)
  | 1 => ("ProcessDesk$Plan", "fresh", "[J", true)
  | _ => ("ProcessDesk$Plan", "rounds", "I", false)
def tyX5 : Nat → FieldType := fun k => match k with
  | 0 => .array .long
  | 1 => .array .long
  | _ => .int
theorem nmX5 : ∀ a, a < 3 → ∀ b, b < 3 → a ≠ b → (TX5 a).2.1 ≠ (TX5 b).2.1 := by decide +kernel
theorem tyX5_ok : ∀ k, k < 3 → parseFieldDescriptor (TX5 k).2.2.1 = some (tyX5 k) := by decide +kernel
abbrev cX5_init : ByteArray := prog_7_method_1_code
def yX5_init : MethodName := ⟨RX5, "<init>", "()V"⟩
abbrev cX5_settle : ByteArray := prog_7_method_2_code
def yX5_settle : MethodName := ⟨RX5, "settle", "(LProcessDesk$Desk;I)V"⟩
abbrev cX5_passing : ByteArray := prog_7_method_3_code
def yX5_passing : MethodName := ⟨RX5, "passing", "(LProcessDesk$Desk;)J"⟩
abbrev cX5_turn : ByteArray := prog_7_method_4_code
def yX5_turn : MethodName := ⟨RX5, "turn", "(LProcessDesk$Desk;I)Z"⟩
abbrev cX5_takeFresh : ByteArray := prog_7_method_5_code
def yX5_takeFresh : MethodName := ⟨RX5, "takeFresh", "(I)Z"⟩
def RX6 : String := "ProcessDesk$Product"
def TX6 : u_T := fun k => match k with
  | 0 => ("ProcessDesk$Product", "share", "I", false)
  | 1 => ("ProcessDesk$Product", "price", "I", false)
  | 2 => ("ProcessDesk$Product", "cost", "I", false)
  | 3 => ("ProcessDesk$Product", "by", "I", false)
  | 4 => ("ProcessDesk$Product", "units", "I", false)
  | 5 => ("ProcessDesk$Product", "worth", "J", false)
  | 6 => ("ProcessDesk$Product", "came", "J", false)
  | 7 => ("ProcessDesk$Product", "layers", "I", false)
  | 8 => ("ProcessDesk$Product", "layerUnits", "[J", true)
  | _ => ("ProcessDesk$Product", "layerCents", "[J", true)
def tyX6 : Nat → FieldType := fun k => match k with
  | 0 => .int
  | 1 => .int
  | 2 => .int
  | 3 => .int
  | 4 => .int
  | 5 => .long
  | 6 => .long
  | 7 => .int
  | 8 => .array .long
  | _ => .array .long
theorem nmX6 : ∀ a, a < 10 → ∀ b, b < 10 → a ≠ b → (TX6 a).2.1 ≠ (TX6 b).2.1 := by decide +kernel
theorem tyX6_ok : ∀ k, k < 10 → parseFieldDescriptor (TX6 k).2.2.1 = some (tyX6 k) := by decide +kernel
abbrev cX6_init : ByteArray := prog_8_method_1_code
def yX6_init : MethodName := ⟨RX6, "<init>", "()V"⟩
abbrev cX6_clear : ByteArray := prog_8_method_2_code
def yX6_clear : MethodName := ⟨RX6, "clear", "()V"⟩
abbrev cX6_isMain : ByteArray := prog_8_method_3_code
def yX6_isMain : MethodName := ⟨RX6, "isMain", "()Z"⟩
abbrev cX6_weigh : ByteArray := prog_8_method_4_code
def yX6_weigh : MethodName := ⟨RX6, "weigh", "()V"⟩
abbrev cX6_putIn : ByteArray := prog_8_method_5_code
def yX6_putIn : MethodName := ⟨RX6, "putIn", "(I)Z"⟩
abbrev cX6_takeOut : ByteArray := prog_8_method_6_code
def yX6_takeOut : MethodName := ⟨RX6, "takeOut", "(I)J"⟩
abbrev cX6_dropOldest : ByteArray := prog_8_method_7_code
def yX6_dropOldest : MethodName := ⟨RX6, "dropOldest", "(I)V"⟩
abbrev cX6_unitsInStore : ByteArray := prog_8_method_8_code
def yX6_unitsInStore : MethodName := ⟨RX6, "unitsInStore", "()J"⟩
abbrev cX6_centsInStore : ByteArray := prog_8_method_9_code
def yX6_centsInStore : MethodName := ⟨RX6, "centsInStore", "()J"⟩
abbrev cX6_save : ByteArray := prog_8_method_10_code
def yX6_save : MethodName := ⟨RX6, "save", "(LProcessDesk$Row;)V"⟩
abbrev cX6_load : ByteArray := prog_8_method_11_code
def yX6_load : MethodName := ⟨RX6, "load", "(LProcessDesk$Row;)V"⟩
def RX7 : String := "ProcessDesk$Row"
def TX7 : u_T := fun k => match k with
  | 0 => ("ProcessDesk$Row", "cells", "[J", true)
  | _ => ("ProcessDesk$Row", "at", "I", false)
def tyX7 : Nat → FieldType := fun k => match k with
  | 0 => .array .long
  | _ => .int
theorem nmX7 : ∀ a, a < 2 → ∀ b, b < 2 → a ≠ b → (TX7 a).2.1 ≠ (TX7 b).2.1 := by decide +kernel
theorem tyX7_ok : ∀ k, k < 2 → parseFieldDescriptor (TX7 k).2.2.1 = some (tyX7 k) := by decide +kernel
abbrev cX7_init : ByteArray := prog_9_method_1_code
def yX7_init : MethodName := ⟨RX7, "<init>", "()V"⟩
abbrev cX7_rewind : ByteArray := prog_9_method_2_code
def yX7_rewind : MethodName := ⟨RX7, "rewind", "()V"⟩
abbrev cX7_put : ByteArray := prog_9_method_3_code
def yX7_put : MethodName := ⟨RX7, "put", "(J)V"⟩
abbrev cX7_putAll : ByteArray := prog_9_method_4_code
def yX7_putAll : MethodName := ⟨RX7, "putAll", "([J)V"⟩
abbrev cX7_take : ByteArray := prog_9_method_5_code
def yX7_take : MethodName := ⟨RX7, "take", "()J"⟩
abbrev cX7_takeInt : ByteArray := prog_9_method_6_code
def yX7_takeInt : MethodName := ⟨RX7, "takeInt", "()I"⟩
abbrev cX7_takeCount : ByteArray := prog_9_method_7_code
def yX7_takeCount : MethodName := ⟨RX7, "takeCount", "(I)I"⟩
abbrev cX7_takeAll : ByteArray := prog_9_method_8_code
def yX7_takeAll : MethodName := ⟨RX7, "takeAll", "([J)V"⟩
def RX8 : String := "ProcessDesk$Tape"
def TX8 : u_T := fun k => match k with
  | 0 => ("ProcessDesk$Tape", "bytes", "[B", true)
  | 1 => ("ProcessDesk$Tape", "held", "I", false)
  | 2 => ("ProcessDesk$Tape", "length", "I", false)
  | 3 => ("ProcessDesk$Tape", "at", "I", false)
  | 4 => ("ProcessDesk$Tape", "wordFrom", "I", false)
  | 5 => ("ProcessDesk$Tape", "number", "I", false)
  | 6 => ("ProcessDesk$Tape", "storeTold", "Z", false)
  | 7 => ("ProcessDesk$Tape", "reason", "I", false)
  | _ => ("ProcessDesk$Tape", "place", "I", false)
def tyX8 : Nat → FieldType := fun k => match k with
  | 0 => .array .byte
  | 1 => .int
  | 2 => .int
  | 3 => .int
  | 4 => .int
  | 5 => .int
  | 6 => .boolean
  | 7 => .int
  | _ => .int
theorem nmX8 : ∀ a, a < 9 → ∀ b, b < 9 → a ≠ b → (TX8 a).2.1 ≠ (TX8 b).2.1 := by decide +kernel
theorem tyX8_ok : ∀ k, k < 9 → parseFieldDescriptor (TX8 k).2.2.1 = some (tyX8 k) := by decide +kernel
abbrev cX8_init : ByteArray := prog_10_method_1_code
def yX8_init : MethodName := ⟨RX8, "<init>", "()V"⟩
abbrev cX8_putFour : ByteArray := prog_10_method_2_code
def yX8_putFour : MethodName := ⟨RX8, "putFour", "(I)V"⟩
abbrev cX8_readInto : ByteArray := prog_10_method_3_code
def yX8_readInto : MethodName := ⟨RX8, "readInto", "(LProcessDesk$Desk;I)V"⟩
abbrev cX8_isWhole : ByteArray := prog_10_method_4_code
def yX8_isWhole : MethodName := ⟨RX8, "isWhole", "(LProcessDesk$Desk;)Z"⟩
abbrev cX8_refuse : ByteArray := prog_10_method_5_code
def yX8_refuse : MethodName := ⟨RX8, "refuse", "(II)Z"⟩
abbrev cX8_readLine : ByteArray := prog_10_method_6_code
def yX8_readLine : MethodName := ⟨RX8, "readLine", "(LProcessDesk$Desk;)Z"⟩
abbrev cX8_readDepartment : ByteArray := prog_10_method_7_code
def yX8_readDepartment : MethodName := ⟨RX8, "readDepartment", "(LProcessDesk$Desk;)Z"⟩
abbrev cX8_readBack : ByteArray := prog_10_method_8_code
def yX8_readBack : MethodName := ⟨RX8, "readBack", "(LProcessDesk$Department;I)Z"⟩
abbrev cX8_readMaterial : ByteArray := prog_10_method_9_code
def yX8_readMaterial : MethodName := ⟨RX8, "readMaterial", "(LProcessDesk$Desk;)Z"⟩
abbrev cX8_readProduct : ByteArray := prog_10_method_10_code
def yX8_readProduct : MethodName := ⟨RX8, "readProduct", "(LProcessDesk$Desk;)Z"⟩
abbrev cX8_readBy : ByteArray := prog_10_method_11_code
def yX8_readBy : MethodName := ⟨RX8, "readBy", "(LProcessDesk$Product;)Z"⟩
abbrev cX8_readStore : ByteArray := prog_10_method_12_code
def yX8_readStore : MethodName := ⟨RX8, "readStore", "(LProcessDesk$Desk;)Z"⟩
abbrev cX8_readWay : ByteArray := prog_10_method_13_code
def yX8_readWay : MethodName := ⟨RX8, "readWay", "()Z"⟩
abbrev cX8_readEnd : ByteArray := prog_10_method_14_code
def yX8_readEnd : MethodName := ⟨RX8, "readEnd", "()Z"⟩
abbrev cX8_readWord : ByteArray := prog_10_method_15_code
def yX8_readWord : MethodName := ⟨RX8, "readWord", "()V"⟩
abbrev cX8_isWord : ByteArray := prog_10_method_16_code
def yX8_isWord : MethodName := ⟨RX8, "isWord", "(Ljava/lang/String;)Z"⟩
abbrev cX8_readNumber : ByteArray := prog_10_method_17_code
def yX8_readNumber : MethodName := ⟨RX8, "readNumber", "(II)Z"⟩
abbrev cX8_atEnd : ByteArray := prog_10_method_18_code
def yX8_atEnd : MethodName := ⟨RX8, "atEnd", "()Z"⟩
abbrev cX8_atLetter : ByteArray := prog_10_method_19_code
def yX8_atLetter : MethodName := ⟨RX8, "atLetter", "()Z"⟩
abbrev cX8_skipBlanks : ByteArray := prog_10_method_20_code
def yX8_skipBlanks : MethodName := ⟨RX8, "skipBlanks", "()V"⟩
abbrev cX8_isLetter : ByteArray := prog_10_method_21_code
def yX8_isLetter : MethodName := ⟨RX8, "isLetter", "(B)Z"⟩
abbrev cX8_isDigit : ByteArray := prog_10_method_22_code
def yX8_isDigit : MethodName := ⟨RX8, "isDigit", "(B)Z"⟩
def RX9 : String := "ProcessDesk"
def TX9 : u_T := fun k => match k with
  | 0 => ("ProcessDesk", "faultPlace", "I", false)
  | 1 => ("ProcessDesk", "refusedElements", "I", false)
  | 2 => ("ProcessDesk", "refusedArguments", "I", false)
  | 3 => ("ProcessDesk", "refusedStates", "I", false)
  | 4 => ("ProcessDesk", "now", "LProcessDesk$Desk;", true)
  | 5 => ("ProcessDesk", "history", "LProcessDesk$History;", true)
  | 6 => ("ProcessDesk", "tape", "LProcessDesk$Tape;", true)
  | 7 => ("ProcessDesk", "forecast", "LProcessDesk$Plan;", true)
  | _ => ("ProcessDesk", "otherMonth", "LProcessDesk$Month;", true)
def tyX9 : Nat → FieldType := fun k => match k with
  | 0 => .int
  | 1 => .int
  | 2 => .int
  | 3 => .int
  | 4 => .object "ProcessDesk$Desk"
  | 5 => .object "ProcessDesk$History"
  | 6 => .object "ProcessDesk$Tape"
  | 7 => .object "ProcessDesk$Plan"
  | _ => .object "ProcessDesk$Month"
theorem nmX9 : ∀ a, a < 9 → ∀ b, b < 9 → a ≠ b → (TX9 a).2.1 ≠ (TX9 b).2.1 := by decide +kernel
theorem tyX9_ok : ∀ k, k < 9 → parseFieldDescriptor (TX9 k).2.2.1 = some (tyX9 k) := by decide +kernel
abbrev cX9_init : ByteArray := prog_1_method_1_code
def yX9_init : MethodName := ⟨RX9, "<init>", "()V"⟩
abbrev cX9_feed : ByteArray := prog_1_method_2_code
def yX9_feed : MethodName := ⟨RX9, "feed", "(IIIII)I"⟩
abbrev cX9_text : ByteArray := prog_1_method_3_code
def yX9_text : MethodName := ⟨RX9, "text", "(I)I"⟩
abbrev cX9_fault : ByteArray := prog_1_method_4_code
def yX9_fault : MethodName := ⟨RX9, "fault", "()I"⟩
abbrev cX9_start : ByteArray := prog_1_method_5_code
def yX9_start : MethodName := ⟨RX9, "start", "(I)I"⟩
abbrev cX9_spend : ByteArray := prog_1_method_6_code
def yX9_spend : MethodName := ⟨RX9, "spend", "(III)I"⟩
abbrev cX9_lost : ByteArray := prog_1_method_7_code
def yX9_lost : MethodName := ⟨RX9, "lost", "(II)I"⟩
abbrev cX9_left : ByteArray := prog_1_method_8_code
def yX9_left : MethodName := ⟨RX9, "left", "(III)I"⟩
abbrev cX9_close : ByteArray := prog_1_method_9_code
def yX9_close : MethodName := ⟨RX9, "close", "()J"⟩
abbrev cX9_sell : ByteArray := prog_1_method_10_code
def yX9_sell : MethodName := ⟨RX9, "sell", "(II)J"⟩
abbrev cX9_undo : ByteArray := prog_1_method_11_code
def yX9_undo : MethodName := ⟨RX9, "undo", "()I"⟩
abbrev cX9_told : ByteArray := prog_1_method_12_code
def yX9_told : MethodName := ⟨RX9, "told", "(I)I"⟩
abbrev cX9_department : ByteArray := prog_1_method_13_code
def yX9_department : MethodName := ⟨RX9, "department", "(II)I"⟩
abbrev cX9_product : ByteArray := prog_1_method_14_code
def yX9_product : MethodName := ⟨RX9, "product", "(II)I"⟩
abbrev cX9_work : ByteArray := prog_1_method_15_code
def yX9_work : MethodName := ⟨RX9, "work", "(II)J"⟩
abbrev cX9_units : ByteArray := prog_1_method_16_code
def yX9_units : MethodName := ⟨RX9, "units", "(II)I"⟩
abbrev cX9_asDone : ByteArray := prog_1_method_17_code
def yX9_asDone : MethodName := ⟨RX9, "asDone", "(III)I"⟩
abbrev cX9_cents : ByteArray := prog_1_method_18_code
def yX9_cents : MethodName := ⟨RX9, "cents", "(III)J"⟩
abbrev cX9_loss : ByteArray := prog_1_method_19_code
def yX9_loss : MethodName := ⟨RX9, "loss", "(II)J"⟩
abbrev cX9_other : ByteArray := prog_1_method_20_code
def yX9_other : MethodName := ⟨RX9, "other", "(I)J"⟩
abbrev cX9_parted : ByteArray := prog_1_method_21_code
def yX9_parted : MethodName := ⟨RX9, "parted", "(II)J"⟩
abbrev cX9_store : ByteArray := prog_1_method_22_code
def yX9_store : MethodName := ⟨RX9, "store", "(II)J"⟩
abbrev cX9_layer : ByteArray := prog_1_method_23_code
def yX9_layer : MethodName := ⟨RX9, "layer", "(III)J"⟩
abbrev cX9_account : ByteArray := prog_1_method_24_code
def yX9_account : MethodName := ⟨RX9, "account", "(I)J"⟩
abbrev cX9_plan : ByteArray := prog_1_method_25_code
def yX9_plan : MethodName := ⟨RX9, "plan", "(II)J"⟩
abbrev cX9_print : ByteArray := prog_1_method_26_code
def yX9_print : MethodName := ⟨RX9, "print", "()J"⟩
abbrev cX9_status : ByteArray := prog_1_method_27_code
def yX9_status : MethodName := ⟨RX9, "status", "(I)I"⟩
abbrev cX9_needDepartment : ByteArray := prog_1_method_28_code
def yX9_needDepartment : MethodName := ⟨RX9, "needDepartment", "(I)LProcessDesk$Department;"⟩
abbrev cX9_needKind : ByteArray := prog_1_method_29_code
def yX9_needKind : MethodName := ⟨RX9, "needKind", "(LProcessDesk$Department;II)V"⟩
abbrev cX9_needProduct : ByteArray := prog_1_method_30_code
def yX9_needProduct : MethodName := ⟨RX9, "needProduct", "(I)LProcessDesk$Product;"⟩
abbrev cX9_needLayer : ByteArray := prog_1_method_31_code
def yX9_needLayer : MethodName := ⟨RX9, "needLayer", "(LProcessDesk$Product;I)V"⟩
abbrev cX9_needWithin : ByteArray := prog_1_method_32_code
def yX9_needWithin : MethodName := ⟨RX9, "needWithin", "(III)V"⟩
abbrev cX9_needState : ByteArray := prog_1_method_33_code
def yX9_needState : MethodName := ⟨RX9, "needState", "(Z)V"⟩
abbrev cX9_partOf : ByteArray := prog_1_method_34_code
def yX9_partOf : MethodName := ⟨RX9, "partOf", "(JJJ)J"⟩
abbrev cX9_sumOf : ByteArray := prog_1_method_35_code
def yX9_sumOf : MethodName := ⟨RX9, "sumOf", "([J)J"⟩
abbrev cX9_clearAll : ByteArray := prog_1_method_36_code
def yX9_clearAll : MethodName := ⟨RX9, "clearAll", "([J)V"⟩
abbrev cX9_copyAll : ByteArray := prog_1_method_37_code
def yX9_copyAll : MethodName := ⟨RX9, "copyAll", "([J[J)V"⟩
def RX10 : String := "ProcessDeskModel"
def TX10 : u_T := fun k => match k with
  | 0 => ("ProcessDeskModel", "thrown", "I", false)
  | 1 => ("ProcessDeskModel", "refused", "[I", true)
  | 2 => ("ProcessDeskModel", "tape", "I", false)
  | 3 => ("ProcessDeskModel", "size", "I", false)
  | 4 => ("ProcessDeskModel", "at", "I", false)
  | 5 => ("ProcessDeskModel", "place", "I", false)
  | 6 => ("ProcessDeskModel", "fault", "I", false)
  | 7 => ("ProcessDeskModel", "faultAt", "I", false)
  | 8 => ("ProcessDeskModel", "fed", "[I", true)
  | 9 => ("ProcessDeskModel", "now", "[J", true)
  | 10 => ("ProcessDeskModel", "told", "[J", true)
  | 11 => ("ProcessDeskModel", "trial", "[J", true)
  | 12 => ("ProcessDeskModel", "past", "[[J", true)
  | 13 => ("ProcessDeskModel", "backs", "I", false)
  | 14 => ("ProcessDeskModel", "isStore", "Z", false)
  | 15 => ("ProcessDeskModel", "flow", "[J", true)
  | _ => ("ProcessDeskModel", "then", "[J", true)
def tyX10 : Nat → FieldType := fun k => match k with
  | 0 => .int
  | 1 => .array .int
  | 2 => .int
  | 3 => .int
  | 4 => .int
  | 5 => .int
  | 6 => .int
  | 7 => .int
  | 8 => .array .int
  | 9 => .array .long
  | 10 => .array .long
  | 11 => .array .long
  | 12 => .array (.array .long)
  | 13 => .int
  | 14 => .boolean
  | 15 => .array .long
  | _ => .array .long
theorem nmX10 : ∀ a, a < 17 → ∀ b, b < 17 → a ≠ b → (TX10 a).2.1 ≠ (TX10 b).2.1 := by decide +kernel
theorem tyX10_ok : ∀ k, k < 17 → parseFieldDescriptor (TX10 k).2.2.1 = some (tyX10 k) := by decide +kernel
abbrev cX10_init : ByteArray := prog_12_method_1_code
def yX10_init : MethodName := ⟨RX10, "<init>", "()V"⟩
abbrev cX10_begins : ByteArray := prog_12_method_2_code
def yX10_begins : MethodName := ⟨RX10, "begins", "([J)V"⟩
abbrev cX10_dept : ByteArray := prog_12_method_3_code
def yX10_dept : MethodName := ⟨RX10, "dept", "([JIIIII)V"⟩
abbrev cX10_thrown : ByteArray := prog_12_method_4_code
def yX10_thrown : MethodName := ⟨RX10, "thrown", "()I"⟩
abbrev cX10_bad : ByteArray := prog_12_method_5_code
def yX10_bad : MethodName := ⟨RX10, "bad", "(ZII)Z"⟩
abbrev cX10_in : ByteArray := prog_12_method_6_code
def yX10_in : MethodName := ⟨RX10, "in", "(JJJ)Z"⟩
abbrev cX10_less : ByteArray := prog_12_method_7_code
def yX10_less : MethodName := ⟨RX10, "less", "(JJ)J"⟩
abbrev cX10_more : ByteArray := prog_12_method_8_code
def yX10_more : MethodName := ⟨RX10, "more", "(JJ)J"⟩
abbrev cX10_feed : ByteArray := prog_12_method_9_code
def yX10_feed : MethodName := ⟨RX10, "feed", "(IIIII)I"⟩
abbrev cX10_copies : ByteArray := prog_12_method_10_code
def yX10_copies : MethodName := ⟨RX10, "copies", "([J[J)V"⟩
abbrev cX10_of : ByteArray := prog_12_method_11_code
def yX10_of : MethodName := ⟨RX10, "of", "(II)J"⟩
abbrev cX10_byteAt : ByteArray := prog_12_method_12_code
def yX10_byteAt : MethodName := ⟨RX10, "byteAt", "(I)I"⟩
abbrev cX10_here : ByteArray := prog_12_method_13_code
def yX10_here : MethodName := ⟨RX10, "here", "()I"⟩
abbrev cX10_fine : ByteArray := prog_12_method_14_code
def yX10_fine : MethodName := ⟨RX10, "fine", "()Z"⟩
abbrev cX10_wrong : ByteArray := prog_12_method_15_code
def yX10_wrong : MethodName := ⟨RX10, "wrong", "(II)V"⟩
abbrev cX10_isSmall : ByteArray := prog_12_method_16_code
def yX10_isSmall : MethodName := ⟨RX10, "isSmall", "(I)Z"⟩
abbrev cX10_isDigit : ByteArray := prog_12_method_17_code
def yX10_isDigit : MethodName := ⟨RX10, "isDigit", "(I)Z"⟩
abbrev cX10_takesWord : ByteArray := prog_12_method_18_code
def yX10_takesWord : MethodName := ⟨RX10, "takesWord", "(Ljava/lang/String;)Z"⟩
abbrev cX10_number : ByteArray := prog_12_method_19_code
def yX10_number : MethodName := ⟨RX10, "number", "(II)I"⟩
abbrev cX10_way : ByteArray := prog_12_method_20_code
def yX10_way : MethodName := ⟨RX10, "way", "()I"⟩
abbrev cX10_readsDept : ByteArray := prog_12_method_21_code
def yX10_readsDept : MethodName := ⟨RX10, "readsDept", "(I)V"⟩
abbrev cX10_readsMat : ByteArray := prog_12_method_22_code
def yX10_readsMat : MethodName := ⟨RX10, "readsMat", "(I)V"⟩
abbrev cX10_readsProduct : ByteArray := prog_12_method_23_code
def yX10_readsProduct : MethodName := ⟨RX10, "readsProduct", "(I)V"⟩
abbrev cX10_line : ByteArray := prog_12_method_24_code
def yX10_line : MethodName := ⟨RX10, "line", "()V"⟩
abbrev cX10_isDesk : ByteArray := prog_12_method_25_code
def yX10_isDesk : MethodName := ⟨RX10, "isDesk", "()Z"⟩
abbrev cX10_text : ByteArray := prog_12_method_26_code
def yX10_text : MethodName := ⟨RX10, "text", "(I)I"⟩
abbrev cX10_fault : ByteArray := prog_12_method_27_code
def yX10_fault : MethodName := ⟨RX10, "fault", "()I"⟩
abbrev cX10_remembers : ByteArray := prog_12_method_28_code
def yX10_remembers : MethodName := ⟨RX10, "remembers", "()V"⟩
abbrev cX10_undo : ByteArray := prog_12_method_29_code
def yX10_undo : MethodName := ⟨RX10, "undo", "()I"⟩
abbrev cX10_isDept : ByteArray := prog_12_method_30_code
def yX10_isDept : MethodName := ⟨RX10, "isDept", "(I)Z"⟩
abbrev cX10_isKind : ByteArray := prog_12_method_31_code
def yX10_isKind : MethodName := ⟨RX10, "isKind", "(III)Z"⟩
abbrev cX10_coming : ByteArray := prog_12_method_32_code
def yX10_coming : MethodName := ⟨RX10, "coming", "(II)I"⟩
abbrev cX10_start : ByteArray := prog_12_method_33_code
def yX10_start : MethodName := ⟨RX10, "start", "(I)I"⟩
abbrev cX10_spend : ByteArray := prog_12_method_34_code
def yX10_spend : MethodName := ⟨RX10, "spend", "(III)I"⟩
abbrev cX10_lost : ByteArray := prog_12_method_35_code
def yX10_lost : MethodName := ⟨RX10, "lost", "(II)I"⟩
abbrev cX10_left : ByteArray := prog_12_method_36_code
def yX10_left : MethodName := ⟨RX10, "left", "(III)I"⟩
abbrev cX10_latest : ByteArray := prog_12_method_37_code
def yX10_latest : MethodName := ⟨RX10, "latest", "(II)I"⟩
abbrev cX10_working : ByteArray := prog_12_method_38_code
def yX10_working : MethodName := ⟨RX10, "working", "(II)I"⟩
abbrev cX10_doneAt : ByteArray := prog_12_method_39_code
def yX10_doneAt : MethodName := ⟨RX10, "doneAt", "([JIIJ)J"⟩
abbrev cX10_cut : ByteArray := prog_12_method_40_code
def yX10_cut : MethodName := ⟨RX10, "cut", "(JJJ)J"⟩
abbrev cX10_counts : ByteArray := prog_12_method_41_code
def yX10_counts : MethodName := ⟨RX10, "counts", "([JII)Z"⟩
abbrev cX10_losses : ByteArray := prog_12_method_42_code
def yX10_losses : MethodName := ⟨RX10, "losses", "([JIJJJJ)V"⟩
abbrev cX10_opens : ByteArray := prog_12_method_43_code
def yX10_opens : MethodName := ⟨RX10, "opens", "([JIJJ)V"⟩
abbrev cX10_closes : ByteArray := prog_12_method_44_code
def yX10_closes : MethodName := ⟨RX10, "closes", "([JI)V"⟩
abbrev cX10_storeAt : ByteArray := prog_12_method_45_code
def yX10_storeAt : MethodName := ⟨RX10, "storeAt", "(I)I"⟩
abbrev cX10_layerAt : ByteArray := prog_12_method_46_code
def yX10_layerAt : MethodName := ⟨RX10, "layerAt", "(IJ)I"⟩
abbrev cX10_share : ByteArray := prog_12_method_47_code
def yX10_share : MethodName := ⟨RX10, "share", "([JII)J"⟩
abbrev cX10_parts : ByteArray := prog_12_method_48_code
def yX10_parts : MethodName := ⟨RX10, "parts", "([J)V"⟩
abbrev cX10_stores : ByteArray := prog_12_method_49_code
def yX10_stores : MethodName := ⟨RX10, "stores", "([J)Z"⟩
abbrev cX10_close : ByteArray := prog_12_method_50_code
def yX10_close : MethodName := ⟨RX10, "close", "()J"⟩
abbrev cX10_isProduct : ByteArray := prog_12_method_51_code
def yX10_isProduct : MethodName := ⟨RX10, "isProduct", "(I)Z"⟩
abbrev cX10_unitsIn : ByteArray := prog_12_method_52_code
def yX10_unitsIn : MethodName := ⟨RX10, "unitsIn", "(II)J"⟩
abbrev cX10_sell : ByteArray := prog_12_method_53_code
def yX10_sell : MethodName := ⟨RX10, "sell", "(II)J"⟩
abbrev cX10_told : ByteArray := prog_12_method_54_code
def yX10_told : MethodName := ⟨RX10, "told", "(I)I"⟩
abbrev cX10_department : ByteArray := prog_12_method_55_code
def yX10_department : MethodName := ⟨RX10, "department", "(II)I"⟩
abbrev cX10_product : ByteArray := prog_12_method_56_code
def yX10_product : MethodName := ⟨RX10, "product", "(II)I"⟩
abbrev cX10_work : ByteArray := prog_12_method_57_code
def yX10_work : MethodName := ⟨RX10, "work", "(II)J"⟩
abbrev cX10_units : ByteArray := prog_12_method_58_code
def yX10_units : MethodName := ⟨RX10, "units", "(II)I"⟩
abbrev cX10_asDone : ByteArray := prog_12_method_59_code
def yX10_asDone : MethodName := ⟨RX10, "asDone", "(III)I"⟩
abbrev cX10_cents : ByteArray := prog_12_method_60_code
def yX10_cents : MethodName := ⟨RX10, "cents", "(III)J"⟩
abbrev cX10_loss : ByteArray := prog_12_method_61_code
def yX10_loss : MethodName := ⟨RX10, "loss", "(II)J"⟩
abbrev cX10_other : ByteArray := prog_12_method_62_code
def yX10_other : MethodName := ⟨RX10, "other", "(I)J"⟩
abbrev cX10_parted : ByteArray := prog_12_method_63_code
def yX10_parted : MethodName := ⟨RX10, "parted", "(II)J"⟩
abbrev cX10_store : ByteArray := prog_12_method_64_code
def yX10_store : MethodName := ⟨RX10, "store", "(II)J"⟩
abbrev cX10_layer : ByteArray := prog_12_method_65_code
def yX10_layer : MethodName := ⟨RX10, "layer", "(III)J"⟩
abbrev cX10_account : ByteArray := prog_12_method_66_code
def yX10_account : MethodName := ⟨RX10, "account", "(I)J"⟩
abbrev cX10_lostOf : ByteArray := prog_12_method_67_code
def yX10_lostOf : MethodName := ⟨RX10, "lostOf", "(I)J"⟩
abbrev cX10_passes : ByteArray := prog_12_method_68_code
def yX10_passes : MethodName := ⟨RX10, "passes", "(I)J"⟩
abbrev cX10_goesRound : ByteArray := prog_12_method_69_code
def yX10_goesRound : MethodName := ⟨RX10, "goesRound", "(I)Z"⟩
abbrev cX10_plan : ByteArray := prog_12_method_70_code
def yX10_plan : MethodName := ⟨RX10, "plan", "(II)J"⟩
abbrev cX10_print : ByteArray := prog_12_method_71_code
def yX10_print : MethodName := ⟨RX10, "print", "()J"⟩
abbrev cX10_status : ByteArray := prog_12_method_72_code
def yX10_status : MethodName := ⟨RX10, "status", "(I)I"⟩
def RJx145de : String := "java/io/Serializable"
def RJx9f9b0 : String := "java/lang/CharSequence"
def RJxb160c : String := "java/lang/Comparable"
def RJ9 : String := "java/lang/Math"
def TJ9 : u_T := fun k => match k with
  | _ => ("", "", "", false)
def tyJ9 : Nat → FieldType := fun k => match k with
  | _ => .int
theorem nmJ9 : ∀ a, a < 0 → ∀ b, b < 0 → a ≠ b → (TJ9 a).2.1 ≠ (TJ9 b).2.1 := by decide +kernel
theorem tyJ9_ok : ∀ k, k < 0 → parseFieldDescriptor (TJ9 k).2.2.1 = some (tyJ9 k) := by decide +kernel
abbrev cJ9_max_7cf53 : ByteArray := prog_19_method_65_code
def yJ9_max_7cf53 : MethodName := ⟨RJ9, "max", "(II)I"⟩
abbrev cJ9_max_f86c9 : ByteArray := prog_19_method_66_code
def yJ9_max_f86c9 : MethodName := ⟨RJ9, "max", "(JJ)J"⟩
abbrev cJ9_min_7cf53 : ByteArray := prog_19_method_69_code
def yJ9_min_7cf53 : MethodName := ⟨RJ9, "min", "(II)I"⟩
abbrev cJ9_min_f86c9 : ByteArray := prog_19_method_70_code
def yJ9_min_f86c9 : MethodName := ⟨RJ9, "min", "(JJ)J"⟩
def RJ0 : String := "java/lang/String"
def TJ0 : u_T := fun k => match k with
  | _ => ("", "", "", false)
def tyJ0 : Nat → FieldType := fun k => match k with
  | _ => .int
theorem nmJ0 : ∀ a, a < 0 → ∀ b, b < 0 → a ≠ b → (TJ0 a).2.1 ≠ (TJ0 b).2.1 := by decide +kernel
theorem tyJ0_ok : ∀ k, k < 0 → parseFieldDescriptor (TJ0 k).2.2.1 = some (tyJ0 k) := by decide +kernel
abbrev cJ0_length_8abf5 : ByteArray := prog_21_method_54_code
def yJ0_length_8abf5 : MethodName := ⟨RJ0, "length", "()I"⟩
abbrev cJ0_charAt_5068e : ByteArray := prog_21_method_56_code
def yJ0_charAt_5068e : MethodName := ⟨RJ0, "charAt", "(I)C"⟩
abbrev cJ0_coder_7d493 : ByteArray := prog_21_method_152_code
def yJ0_coder_7d493 : MethodName := ⟨RJ0, "coder", "()B"⟩
abbrev cJ0_isLatin1_aae02 : ByteArray := prog_21_method_154_code
def yJ0_isLatin1_aae02 : MethodName := ⟨RJ0, "isLatin1", "()Z"⟩
abbrev cJ0_checkIndex_df160 : ByteArray := prog_21_method_155_code
def yJ0_checkIndex_df160 : MethodName := ⟨RJ0, "checkIndex", "(II)V"⟩
def RJ1 : String := "java/lang/StringLatin1"
def TJ1 : u_T := fun k => match k with
  | _ => ("", "", "", false)
def tyJ1 : Nat → FieldType := fun k => match k with
  | _ => .int
theorem nmJ1 : ∀ a, a < 0 → ∀ b, b < 0 → a ≠ b → (TJ1 a).2.1 ≠ (TJ1 b).2.1 := by decide +kernel
theorem tyJ1_ok : ∀ k, k < 0 → parseFieldDescriptor (TJ1 k).2.2.1 = some (tyJ1 k) := by decide +kernel
abbrev cJ1_charAt_3b067 : ByteArray := prog_22_method_2_code
def yJ1_charAt_3b067 : MethodName := ⟨RJ1, "charAt", "([BI)C"⟩
def RJ2 : String := "java/lang/StringUTF16"
def TJ2 : u_T := fun k => match k with
  | _ => ("", "", "", false)
def tyJ2 : Nat → FieldType := fun k => match k with
  | _ => .int
theorem nmJ2 : ∀ a, a < 0 → ∀ b, b < 0 → a ≠ b → (TJ2 a).2.1 ≠ (TJ2 b).2.1 := by decide +kernel
theorem tyJ2_ok : ∀ k, k < 0 → parseFieldDescriptor (TJ2 k).2.2.1 = some (tyJ2 k) := by decide +kernel
abbrev cJ2_getChar_3b067 : ByteArray := prog_23_method_5_code
def yJ2_getChar_3b067 : MethodName := ⟨RJ2, "getChar", "([BI)C"⟩
abbrev cJ2_length_9d52b : ByteArray := prog_23_method_6_code
def yJ2_length_9d52b : MethodName := ⟨RJ2, "length", "([B)I"⟩
abbrev cJ2_charAt_3b067 : ByteArray := prog_23_method_83_code
def yJ2_charAt_3b067 : MethodName := ⟨RJ2, "charAt", "([BI)C"⟩
abbrev cJ2_checkIndex_2214a : ByteArray := prog_23_method_91_code
def yJ2_checkIndex_2214a : MethodName := ⟨RJ2, "checkIndex", "(I[B)V"⟩
def RJxfd54e : String := "java/lang/constant/Constable"
def RJx3cf43 : String := "java/lang/constant/ConstantDesc"
def RJ3 : String := "jdk/internal/util/Preconditions"
def TJ3 : u_T := fun k => match k with
  | _ => ("", "", "", false)
def tyJ3 : Nat → FieldType := fun k => match k with
  | _ => .int
theorem nmJ3 : ∀ a, a < 0 → ∀ b, b < 0 → a ≠ b → (TJ3 a).2.1 ≠ (TJ3 b).2.1 := by decide +kernel
theorem tyJ3_ok : ∀ k, k < 0 → parseFieldDescriptor (TJ3 k).2.2.1 = some (tyJ3 k) := by decide +kernel
abbrev cJ3_checkIndex_8e157 : ByteArray := prog_28_method_11_code
def yJ3_checkIndex_8e157 : MethodName := ⟨RJ3, "checkIndex", "(IILjava/util/function/BiFunction;)I"⟩
def RL : String := "ProcessDeskLaw"
abbrev cL_text : ByteArray := method_3_code
def yL_text : MethodName := ⟨RL, "text", "(LProcessDesk;I[J)I"⟩
abbrev cL_start : ByteArray := method_4_code
def yL_start : MethodName := ⟨RL, "start", "(LProcessDesk;I[J)I"⟩
abbrev cL_spend : ByteArray := method_5_code
def yL_spend : MethodName := ⟨RL, "spend", "(LProcessDesk;III[J)I"⟩
abbrev cL_lost : ByteArray := method_6_code
def yL_lost : MethodName := ⟨RL, "lost", "(LProcessDesk;II[J)I"⟩
abbrev cL_left : ByteArray := method_7_code
def yL_left : MethodName := ⟨RL, "left", "(LProcessDesk;III[J)I"⟩
abbrev cL_close : ByteArray := method_8_code
def yL_close : MethodName := ⟨RL, "close", "(LProcessDesk;[J)I"⟩
abbrev cL_sell : ByteArray := method_9_code
def yL_sell : MethodName := ⟨RL, "sell", "(LProcessDesk;II[J)I"⟩
abbrev cL_told : ByteArray := method_10_code
def yL_told : MethodName := ⟨RL, "told", "(LProcessDesk;I[J)I"⟩
abbrev cL_department : ByteArray := method_11_code
def yL_department : MethodName := ⟨RL, "department", "(LProcessDesk;II[J)I"⟩
abbrev cL_product : ByteArray := method_12_code
def yL_product : MethodName := ⟨RL, "product", "(LProcessDesk;II[J)I"⟩
abbrev cL_work : ByteArray := method_13_code
def yL_work : MethodName := ⟨RL, "work", "(LProcessDesk;II[J)I"⟩
abbrev cL_units : ByteArray := method_14_code
def yL_units : MethodName := ⟨RL, "units", "(LProcessDesk;II[J)I"⟩
abbrev cL_asDone : ByteArray := method_15_code
def yL_asDone : MethodName := ⟨RL, "asDone", "(LProcessDesk;III[J)I"⟩
abbrev cL_cents : ByteArray := method_16_code
def yL_cents : MethodName := ⟨RL, "cents", "(LProcessDesk;III[J)I"⟩
abbrev cL_loss : ByteArray := method_17_code
def yL_loss : MethodName := ⟨RL, "loss", "(LProcessDesk;II[J)I"⟩
abbrev cL_other : ByteArray := method_18_code
def yL_other : MethodName := ⟨RL, "other", "(LProcessDesk;I[J)I"⟩
abbrev cL_parted : ByteArray := method_19_code
def yL_parted : MethodName := ⟨RL, "parted", "(LProcessDesk;II[J)I"⟩
abbrev cL_store : ByteArray := method_20_code
def yL_store : MethodName := ⟨RL, "store", "(LProcessDesk;II[J)I"⟩
abbrev cL_layer : ByteArray := method_21_code
def yL_layer : MethodName := ⟨RL, "layer", "(LProcessDesk;III[J)I"⟩
abbrev cL_account : ByteArray := method_22_code
def yL_account : MethodName := ⟨RL, "account", "(LProcessDesk;I[J)I"⟩
abbrev cL_plan : ByteArray := method_23_code
def yL_plan : MethodName := ⟨RL, "plan", "(LProcessDesk;II[J)I"⟩
abbrev cL_law : ByteArray := code
def yL_law : MethodName := ⟨RL, "law", "([I)Z"⟩
abbrev vwCl : List vw_C := [(RX0, TX0, 14), (RX1, TX1, 11), (RX2, TX2, 3), (RX3, TX3, 3), (RX4, TX4, 18), (RX5, TX5, 3), (RX6, TX6, 10), (RX7, TX7, 2), (RX8, TX8, 9), (RX9, TX9, 9), (RX10, TX10, 17)]
