-- ===== PART A: goes FIRST, ahead of the names: the tables' words, and 'selects' of the private methods out of them =====
/-- a private method of a class that the tables say can be made, by its rows of tables_1 -/
def lw_okq (q : MethodName × Nat) : Prop := (q.1.cls ≠ "java/lang/invoke/MethodHandle" ∧ q.1.cls ≠ "java/lang/invoke/VarHandle") ∧ Cond.instantiable q.1.cls q.2 ∈ tables_1 ∧ Cond.privateMethod q.1 ∈ tables_1 ∧ Cond.instanceMethod q.1 ∈ tables_1
theorem lw_p0 : lw_okq (⟨"LoadProfileMeter$Connection", "receiveBare", "(ILLoadProfileMeter$Row;)V"⟩, 10) := ⟨⟨by decide +kernel, by decide +kernel⟩, List.mem_of_getElem? (i := 61) (by decide +kernel), List.mem_of_getElem? (i := 224) (by decide +kernel), List.mem_of_getElem? (i := 225) (by decide +kernel)⟩
theorem lw_p1 : lw_okq (⟨"LoadProfileMeter$Connection", "connect", "()V"⟩, 10) := ⟨⟨by decide +kernel, by decide +kernel⟩, List.mem_of_getElem? (i := 61) (by decide +kernel), List.mem_of_getElem? (i := 228) (by decide +kernel), List.mem_of_getElem? (i := 229) (by decide +kernel)⟩
theorem lw_p2 : lw_okq (⟨"LoadProfileMeter$Connection", "answer", "(LLoadProfileMeter$Row;)V"⟩, 10) := ⟨⟨by decide +kernel, by decide +kernel⟩, List.mem_of_getElem? (i := 61) (by decide +kernel), List.mem_of_getElem? (i := 264) (by decide +kernel), List.mem_of_getElem? (i := 265) (by decide +kernel)⟩
theorem lw_p3 : lw_okq (⟨"LoadProfileMeter$Connection", "begins", "(II)Z"⟩, 10) := ⟨⟨by decide +kernel, by decide +kernel⟩, List.mem_of_getElem? (i := 61) (by decide +kernel), List.mem_of_getElem? (i := 268) (by decide +kernel), List.mem_of_getElem? (i := 269) (by decide +kernel)⟩
theorem lw_p4 : lw_okq (⟨"LoadProfileMeter$Connection", "associate", "(LLoadProfileMeter$Row;)V"⟩, 10) := ⟨⟨by decide +kernel, by decide +kernel⟩, List.mem_of_getElem? (i := 61) (by decide +kernel), List.mem_of_getElem? (i := 272) (by decide +kernel), List.mem_of_getElem? (i := 273) (by decide +kernel)⟩
theorem lw_p5 : lw_okq (⟨"LoadProfileMeter$Connection", "needsAssociation", "()Z"⟩, 10) := ⟨⟨by decide +kernel, by decide +kernel⟩, List.mem_of_getElem? (i := 61) (by decide +kernel), List.mem_of_getElem? (i := 284) (by decide +kernel), List.mem_of_getElem? (i := 285) (by decide +kernel)⟩
theorem lw_p6 : lw_okq (⟨"LoadProfileMeter$Connection", "answerGet", "(LLoadProfileMeter$Row;ZII)V"⟩, 10) := ⟨⟨by decide +kernel, by decide +kernel⟩, List.mem_of_getElem? (i := 61) (by decide +kernel), List.mem_of_getElem? (i := 288) (by decide +kernel), List.mem_of_getElem? (i := 289) (by decide +kernel)⟩
theorem lw_p7 : lw_okq (⟨"LoadProfileMeter$Profile", "start", "(I)I"⟩, 7) := ⟨⟨by decide +kernel, by decide +kernel⟩, List.mem_of_getElem? (i := 75) (by decide +kernel), List.mem_of_getElem? (i := 322) (by decide +kernel), List.mem_of_getElem? (i := 323) (by decide +kernel)⟩
theorem lw_p8 : lw_okq (⟨"LoadProfileMeter$Profile", "writeColumns", "(LLoadProfileMeter$Row;)V"⟩, 7) := ⟨⟨by decide +kernel, by decide +kernel⟩, List.mem_of_getElem? (i := 75) (by decide +kernel), List.mem_of_getElem? (i := 335) (by decide +kernel), List.mem_of_getElem? (i := 336) (by decide +kernel)⟩
theorem lw_p9 : lw_okq (⟨"LoadProfileMeter$Meter", "writeRegister", "(LLoadProfileMeter$Row;II)V"⟩, 3) := ⟨⟨by decide +kernel, by decide +kernel⟩, List.mem_of_getElem? (i := 69) (by decide +kernel), List.mem_of_getElem? (i := 342) (by decide +kernel), List.mem_of_getElem? (i := 343) (by decide +kernel)⟩
theorem lw_p10 : lw_okq (⟨"LoadProfileMeter$Connection", "sendBlock", "(LLoadProfileMeter$Row;I)V"⟩, 10) := ⟨⟨by decide +kernel, by decide +kernel⟩, List.mem_of_getElem? (i := 61) (by decide +kernel), List.mem_of_getElem? (i := 346) (by decide +kernel), List.mem_of_getElem? (i := 347) (by decide +kernel)⟩
theorem lw_p11 : lw_okq (⟨"LoadProfileMeter$Connection", "answerNextBlock", "(LLoadProfileMeter$Row;I)V"⟩, 10) := ⟨⟨by decide +kernel, by decide +kernel⟩, List.mem_of_getElem? (i := 61) (by decide +kernel), List.mem_of_getElem? (i := 350) (by decide +kernel), List.mem_of_getElem? (i := 351) (by decide +kernel)⟩
theorem lw_p12 : lw_okq (⟨"LoadProfileMeter$Meter", "takeNumber", "(LLoadProfileMeter$Row;II)Z"⟩, 3) := ⟨⟨by decide +kernel, by decide +kernel⟩, List.mem_of_getElem? (i := 69) (by decide +kernel), List.mem_of_getElem? (i := 375) (by decide +kernel), List.mem_of_getElem? (i := 376) (by decide +kernel)⟩
theorem lw_p13 : lw_okq (⟨"LoadProfileMeter$Meter", "takeTime", "(I)Z"⟩, 3) := ⟨⟨by decide +kernel, by decide +kernel⟩, List.mem_of_getElem? (i := 69) (by decide +kernel), List.mem_of_getElem? (i := 388) (by decide +kernel), List.mem_of_getElem? (i := 389) (by decide +kernel)⟩
theorem lw_p14 : lw_okq (⟨"LoadProfileMeter$Meter", "roundTime", "(I)I"⟩, 3) := ⟨⟨by decide +kernel, by decide +kernel⟩, List.mem_of_getElem? (i := 69) (by decide +kernel), List.mem_of_getElem? (i := 399) (by decide +kernel), List.mem_of_getElem? (i := 400) (by decide +kernel)⟩
theorem lw_p15 : lw_okq (⟨"LoadProfileMeter$Connection", "isLatestAgain", "(I)Z"⟩, 10) := ⟨⟨by decide +kernel, by decide +kernel⟩, List.mem_of_getElem? (i := 61) (by decide +kernel), List.mem_of_getElem? (i := 411) (by decide +kernel), List.mem_of_getElem? (i := 412) (by decide +kernel)⟩
def lw_privs_1 : List (MethodName × Nat) := [(⟨"LoadProfileMeter$Connection", "receiveBare", "(ILLoadProfileMeter$Row;)V"⟩, 10), (⟨"LoadProfileMeter$Connection", "connect", "()V"⟩, 10), (⟨"LoadProfileMeter$Connection", "answer", "(LLoadProfileMeter$Row;)V"⟩, 10), (⟨"LoadProfileMeter$Connection", "begins", "(II)Z"⟩, 10), (⟨"LoadProfileMeter$Connection", "associate", "(LLoadProfileMeter$Row;)V"⟩, 10), (⟨"LoadProfileMeter$Connection", "needsAssociation", "()Z"⟩, 10), (⟨"LoadProfileMeter$Connection", "answerGet", "(LLoadProfileMeter$Row;ZII)V"⟩, 10), (⟨"LoadProfileMeter$Profile", "start", "(I)I"⟩, 7), (⟨"LoadProfileMeter$Profile", "writeColumns", "(LLoadProfileMeter$Row;)V"⟩, 7), (⟨"LoadProfileMeter$Meter", "writeRegister", "(LLoadProfileMeter$Row;II)V"⟩, 3), (⟨"LoadProfileMeter$Connection", "sendBlock", "(LLoadProfileMeter$Row;I)V"⟩, 10), (⟨"LoadProfileMeter$Connection", "answerNextBlock", "(LLoadProfileMeter$Row;I)V"⟩, 10), (⟨"LoadProfileMeter$Meter", "takeNumber", "(LLoadProfileMeter$Row;II)Z"⟩, 3), (⟨"LoadProfileMeter$Meter", "takeTime", "(I)Z"⟩, 3), (⟨"LoadProfileMeter$Meter", "roundTime", "(I)I"⟩, 3), (⟨"LoadProfileMeter$Connection", "isLatestAgain", "(I)Z"⟩, 10)]
theorem lw_r1 : ∀ q ∈ lw_privs_1, lw_okq q := List.forall_mem_cons.mpr ⟨lw_p0, List.forall_mem_cons.mpr ⟨lw_p1, List.forall_mem_cons.mpr ⟨lw_p2, List.forall_mem_cons.mpr ⟨lw_p3, List.forall_mem_cons.mpr ⟨lw_p4, List.forall_mem_cons.mpr ⟨lw_p5, List.forall_mem_cons.mpr ⟨lw_p6, List.forall_mem_cons.mpr ⟨lw_p7, List.forall_mem_cons.mpr ⟨lw_p8, List.forall_mem_cons.mpr ⟨lw_p9, List.forall_mem_cons.mpr ⟨lw_p10, List.forall_mem_cons.mpr ⟨lw_p11, List.forall_mem_cons.mpr ⟨lw_p12, List.forall_mem_cons.mpr ⟨lw_p13, List.forall_mem_cons.mpr ⟨lw_p14, List.forall_mem_cons.mpr ⟨lw_p15, fun _ h => absurd h List.not_mem_nil⟩⟩⟩⟩⟩⟩⟩⟩⟩⟩⟩⟩⟩⟩⟩⟩
theorem lw_p16 : lw_okq (⟨"java/lang/Throwable", "fillInStackTrace", "(I)Ljava/lang/Throwable;"⟩, 6) := ⟨⟨by decide +kernel, by decide +kernel⟩, List.mem_of_getElem? (i := 475) (by decide +kernel), List.mem_of_getElem? (i := 473) (by decide +kernel), List.mem_of_getElem? (i := 474) (by decide +kernel)⟩
theorem lw_p17 : lw_okq (⟨"LoadProfileMeterModel", "capture", "()V"⟩, 28) := ⟨⟨by decide +kernel, by decide +kernel⟩, List.mem_of_getElem? (i := 630) (by decide +kernel), List.mem_of_getElem? (i := 730) (by decide +kernel), List.mem_of_getElem? (i := 731) (by decide +kernel)⟩
theorem lw_p18 : lw_okq (⟨"LoadProfileMeterModel", "wrapLine", "(I)I"⟩, 28) := ⟨⟨by decide +kernel, by decide +kernel⟩, List.mem_of_getElem? (i := 630) (by decide +kernel), List.mem_of_getElem? (i := 781) (by decide +kernel), List.mem_of_getElem? (i := 782) (by decide +kernel)⟩
theorem lw_p19 : lw_okq (⟨"LoadProfileMeterModel", "payloadOf", "()I"⟩, 28) := ⟨⟨by decide +kernel, by decide +kernel⟩, List.mem_of_getElem? (i := 630) (by decide +kernel), List.mem_of_getElem? (i := 801) (by decide +kernel), List.mem_of_getElem? (i := 802) (by decide +kernel)⟩
theorem lw_p20 : lw_okq (⟨"LoadProfileMeterModel", "look", "(I)V"⟩, 28) := ⟨⟨by decide +kernel, by decide +kernel⟩, List.mem_of_getElem? (i := 630) (by decide +kernel), List.mem_of_getElem? (i := 805) (by decide +kernel), List.mem_of_getElem? (i := 806) (by decide +kernel)⟩
theorem lw_p21 : lw_okq (⟨"LoadProfileMeterModel", "replyControl", "(I)V"⟩, 28) := ⟨⟨by decide +kernel, by decide +kernel⟩, List.mem_of_getElem? (i := 630) (by decide +kernel), List.mem_of_getElem? (i := 809) (by decide +kernel), List.mem_of_getElem? (i := 810) (by decide +kernel)⟩
theorem lw_p22 : lw_okq (⟨"LoadProfileMeterModel", "inform", "(III)V"⟩, 28) := ⟨⟨by decide +kernel, by decide +kernel⟩, List.mem_of_getElem? (i := 630) (by decide +kernel), List.mem_of_getElem? (i := 813) (by decide +kernel), List.mem_of_getElem? (i := 814) (by decide +kernel)⟩
theorem lw_p23 : lw_okq (⟨"LoadProfileMeterModel", "answer", "(I)V"⟩, 28) := ⟨⟨by decide +kernel, by decide +kernel⟩, List.mem_of_getElem? (i := 630) (by decide +kernel), List.mem_of_getElem? (i := 817) (by decide +kernel), List.mem_of_getElem? (i := 818) (by decide +kernel)⟩
theorem lw_p24 : lw_okq (⟨"LoadProfileMeterModel", "at", "(I)I"⟩, 28) := ⟨⟨by decide +kernel, by decide +kernel⟩, List.mem_of_getElem? (i := 630) (by decide +kernel), List.mem_of_getElem? (i := 821) (by decide +kernel), List.mem_of_getElem? (i := 822) (by decide +kernel)⟩
theorem lw_p25 : lw_okq (⟨"LoadProfileMeterModel", "intAt", "(I)I"⟩, 28) := ⟨⟨by decide +kernel, by decide +kernel⟩, List.mem_of_getElem? (i := 630) (by decide +kernel), List.mem_of_getElem? (i := 825) (by decide +kernel), List.mem_of_getElem? (i := 826) (by decide +kernel)⟩
theorem lw_p26 : lw_okq (⟨"LoadProfileMeterModel", "say", "(II)V"⟩, 28) := ⟨⟨by decide +kernel, by decide +kernel⟩, List.mem_of_getElem? (i := 630) (by decide +kernel), List.mem_of_getElem? (i := 829) (by decide +kernel), List.mem_of_getElem? (i := 830) (by decide +kernel)⟩
theorem lw_p27 : lw_okq (⟨"LoadProfileMeterModel", "emit", "(I)V"⟩, 28) := ⟨⟨by decide +kernel, by decide +kernel⟩, List.mem_of_getElem? (i := 630) (by decide +kernel), List.mem_of_getElem? (i := 833) (by decide +kernel), List.mem_of_getElem? (i := 834) (by decide +kernel)⟩
theorem lw_p28 : lw_okq (⟨"LoadProfileMeterModel", "more", "(I)V"⟩, 28) := ⟨⟨by decide +kernel, by decide +kernel⟩, List.mem_of_getElem? (i := 630) (by decide +kernel), List.mem_of_getElem? (i := 837) (by decide +kernel), List.mem_of_getElem? (i := 838) (by decide +kernel)⟩
theorem lw_p29 : lw_okq (⟨"LoadProfileMeterModel", "refuse", "(I)V"⟩, 28) := ⟨⟨by decide +kernel, by decide +kernel⟩, List.mem_of_getElem? (i := 630) (by decide +kernel), List.mem_of_getElem? (i := 841) (by decide +kernel), List.mem_of_getElem? (i := 842) (by decide +kernel)⟩
theorem lw_p30 : lw_okq (⟨"LoadProfileMeterModel", "block", "(I)V"⟩, 28) := ⟨⟨by decide +kernel, by decide +kernel⟩, List.mem_of_getElem? (i := 630) (by decide +kernel), List.mem_of_getElem? (i := 845) (by decide +kernel), List.mem_of_getElem? (i := 846) (by decide +kernel)⟩
theorem lw_p31 : lw_okq (⟨"LoadProfileMeterModel", "get", "(IIZ)V"⟩, 28) := ⟨⟨by decide +kernel, by decide +kernel⟩, List.mem_of_getElem? (i := 630) (by decide +kernel), List.mem_of_getElem? (i := 849) (by decide +kernel), List.mem_of_getElem? (i := 850) (by decide +kernel)⟩
def lw_privs_2 : List (MethodName × Nat) := [(⟨"java/lang/Throwable", "fillInStackTrace", "(I)Ljava/lang/Throwable;"⟩, 6), (⟨"LoadProfileMeterModel", "capture", "()V"⟩, 28), (⟨"LoadProfileMeterModel", "wrapLine", "(I)I"⟩, 28), (⟨"LoadProfileMeterModel", "payloadOf", "()I"⟩, 28), (⟨"LoadProfileMeterModel", "look", "(I)V"⟩, 28), (⟨"LoadProfileMeterModel", "replyControl", "(I)V"⟩, 28), (⟨"LoadProfileMeterModel", "inform", "(III)V"⟩, 28), (⟨"LoadProfileMeterModel", "answer", "(I)V"⟩, 28), (⟨"LoadProfileMeterModel", "at", "(I)I"⟩, 28), (⟨"LoadProfileMeterModel", "intAt", "(I)I"⟩, 28), (⟨"LoadProfileMeterModel", "say", "(II)V"⟩, 28), (⟨"LoadProfileMeterModel", "emit", "(I)V"⟩, 28), (⟨"LoadProfileMeterModel", "more", "(I)V"⟩, 28), (⟨"LoadProfileMeterModel", "refuse", "(I)V"⟩, 28), (⟨"LoadProfileMeterModel", "block", "(I)V"⟩, 28), (⟨"LoadProfileMeterModel", "get", "(IIZ)V"⟩, 28)]
theorem lw_r2 : ∀ q ∈ lw_privs_2, lw_okq q := List.forall_mem_cons.mpr ⟨lw_p16, List.forall_mem_cons.mpr ⟨lw_p17, List.forall_mem_cons.mpr ⟨lw_p18, List.forall_mem_cons.mpr ⟨lw_p19, List.forall_mem_cons.mpr ⟨lw_p20, List.forall_mem_cons.mpr ⟨lw_p21, List.forall_mem_cons.mpr ⟨lw_p22, List.forall_mem_cons.mpr ⟨lw_p23, List.forall_mem_cons.mpr ⟨lw_p24, List.forall_mem_cons.mpr ⟨lw_p25, List.forall_mem_cons.mpr ⟨lw_p26, List.forall_mem_cons.mpr ⟨lw_p27, List.forall_mem_cons.mpr ⟨lw_p28, List.forall_mem_cons.mpr ⟨lw_p29, List.forall_mem_cons.mpr ⟨lw_p30, List.forall_mem_cons.mpr ⟨lw_p31, fun _ h => absurd h List.not_mem_nil⟩⟩⟩⟩⟩⟩⟩⟩⟩⟩⟩⟩⟩⟩⟩⟩
theorem lw_p32 : lw_okq (⟨"LoadProfileMeterModel", "emitValue", "(IIZ)V"⟩, 28) := ⟨⟨by decide +kernel, by decide +kernel⟩, List.mem_of_getElem? (i := 630) (by decide +kernel), List.mem_of_getElem? (i := 856) (by decide +kernel), List.mem_of_getElem? (i := 857) (by decide +kernel)⟩
theorem lw_p33 : lw_okq (⟨"LoadProfileMeterModel", "emitInt", "(II)V"⟩, 28) := ⟨⟨by decide +kernel, by decide +kernel⟩, List.mem_of_getElem? (i := 630) (by decide +kernel), List.mem_of_getElem? (i := 860) (by decide +kernel), List.mem_of_getElem? (i := 861) (by decide +kernel)⟩
theorem lw_p34 : lw_okq (⟨"LoadProfileMeterModel", "emitEntries", "(Z)V"⟩, 28) := ⟨⟨by decide +kernel, by decide +kernel⟩, List.mem_of_getElem? (i := 630) (by decide +kernel), List.mem_of_getElem? (i := 864) (by decide +kernel), List.mem_of_getElem? (i := 865) (by decide +kernel)⟩
theorem lw_p35 : lw_okq (⟨"LoadProfileMeterModel", "isIn", "(IZ)Z"⟩, 28) := ⟨⟨by decide +kernel, by decide +kernel⟩, List.mem_of_getElem? (i := 630) (by decide +kernel), List.mem_of_getElem? (i := 868) (by decide +kernel), List.mem_of_getElem? (i := 869) (by decide +kernel)⟩
theorem lw_p36 : lw_okq (⟨"LoadProfileMeterModel", "set", "(III)I"⟩, 28) := ⟨⟨by decide +kernel, by decide +kernel⟩, List.mem_of_getElem? (i := 630) (by decide +kernel), List.mem_of_getElem? (i := 873) (by decide +kernel), List.mem_of_getElem? (i := 874) (by decide +kernel)⟩
theorem lw_p37 : lw_okq (⟨"LoadProfileMeterModel", "setColumns", "(I)I"⟩, 28) := ⟨⟨by decide +kernel, by decide +kernel⟩, List.mem_of_getElem? (i := 630) (by decide +kernel), List.mem_of_getElem? (i := 877) (by decide +kernel), List.mem_of_getElem? (i := 878) (by decide +kernel)⟩
theorem lw_p38 : lw_okq (⟨"LoadProfileMeterModel", "act", "(III)I"⟩, 28) := ⟨⟨by decide +kernel, by decide +kernel⟩, List.mem_of_getElem? (i := 630) (by decide +kernel), List.mem_of_getElem? (i := 881) (by decide +kernel), List.mem_of_getElem? (i := 882) (by decide +kernel)⟩
theorem lw_p39 : lw_okq (⟨"LoadProfileMeterModel", "replyLatest", "()V"⟩, 28) := ⟨⟨by decide +kernel, by decide +kernel⟩, List.mem_of_getElem? (i := 630) (by decide +kernel), List.mem_of_getElem? (i := 885) (by decide +kernel), List.mem_of_getElem? (i := 886) (by decide +kernel)⟩
theorem lw_p40 : lw_okq (⟨"LoadProfileMeterModel", "hear", "(I)V"⟩, 28) := ⟨⟨by decide +kernel, by decide +kernel⟩, List.mem_of_getElem? (i := 630) (by decide +kernel), List.mem_of_getElem? (i := 889) (by decide +kernel), List.mem_of_getElem? (i := 890) (by decide +kernel)⟩
def lw_privs_3 : List (MethodName × Nat) := [(⟨"LoadProfileMeterModel", "emitValue", "(IIZ)V"⟩, 28), (⟨"LoadProfileMeterModel", "emitInt", "(II)V"⟩, 28), (⟨"LoadProfileMeterModel", "emitEntries", "(Z)V"⟩, 28), (⟨"LoadProfileMeterModel", "isIn", "(IZ)Z"⟩, 28), (⟨"LoadProfileMeterModel", "set", "(III)I"⟩, 28), (⟨"LoadProfileMeterModel", "setColumns", "(I)I"⟩, 28), (⟨"LoadProfileMeterModel", "act", "(III)I"⟩, 28), (⟨"LoadProfileMeterModel", "replyLatest", "()V"⟩, 28), (⟨"LoadProfileMeterModel", "hear", "(I)V"⟩, 28)]
theorem lw_r3 : ∀ q ∈ lw_privs_3, lw_okq q := List.forall_mem_cons.mpr ⟨lw_p32, List.forall_mem_cons.mpr ⟨lw_p33, List.forall_mem_cons.mpr ⟨lw_p34, List.forall_mem_cons.mpr ⟨lw_p35, List.forall_mem_cons.mpr ⟨lw_p36, List.forall_mem_cons.mpr ⟨lw_p37, List.forall_mem_cons.mpr ⟨lw_p38, List.forall_mem_cons.mpr ⟨lw_p39, List.forall_mem_cons.mpr ⟨lw_p40, fun _ h => absurd h List.not_mem_nil⟩⟩⟩⟩⟩⟩⟩⟩⟩
def lw_privs : List (MethodName × Nat) := lw_privs_1 ++ (lw_privs_2 ++ (lw_privs_3))
def lw_tbl : List Cond := k2_sels lw_privs ++ tables_1
theorem lw_privs_ok : ∀ q ∈ lw_privs, lw_okq q := by
  show ∀ q ∈ lw_privs_1 ++ (lw_privs_2 ++ (lw_privs_3)), lw_okq q
  exact List.forall_mem_append.mpr ⟨lw_r1, List.forall_mem_append.mpr ⟨lw_r2, lw_r3⟩⟩
def cn_As : String := "LoadProfileMeter$Asker"
def cf_As : u_T := fun k => match k with
  | 0 => ("LoadProfileMeter$Asker", "s", "I", false)
  | _ => ("LoadProfileMeter$Asker", "\x72", "I", false)
def ct_As : Nat → FieldType := fun k => match k with
  | 0 => .int
  | _ => .int
theorem cd_As : ∀ a, a < 2 → ∀ b, b < 2 → a ≠ b → (cf_As a).2.1 ≠ (cf_As b).2.1 := by decide +kernel
theorem cp_As : ∀ k, k < 2 → parseFieldDescriptor (cf_As k).2.2.1 = some (ct_As k) := by decide +kernel
def cn_Cn : String := "LoadProfileMeter$Connection"
def cf_Cn : u_T := fun k => match k with
  | 0 => ("LoadProfileMeter$Connection", "secret", "I", true)
  | 1 => ("LoadProfileMeter$Connection", "meter", "LLoadProfileMeter$Meter;", true)
  | 2 => ("LoadProfileMeter$Connection", "request", "LLoadProfileMeter$Row;", true)
  | 3 => ("LoadProfileMeter$Connection", "latest", "LLoadProfileMeter$Row;", true)
  | 4 => ("LoadProfileMeter$Connection", "value", "LLoadProfileMeter$Row;", true)
  | 5 => ("LoadProfileMeter$Connection", "connected", "Z", false)
  | 6 => ("LoadProfileMeter$Connection", "expected", "I", false)
  | 7 => ("LoadProfileMeter$Connection", "next", "I", false)
  | 8 => ("LoadProfileMeter$Connection", "association", "I", false)
  | _ => ("LoadProfileMeter$Connection", "blocksSent", "I", false)
def ct_Cn : Nat → FieldType := fun k => match k with
  | 0 => .int
  | 1 => .object "LoadProfileMeter$Meter"
  | 2 => .object "LoadProfileMeter$Row"
  | 3 => .object "LoadProfileMeter$Row"
  | 4 => .object "LoadProfileMeter$Row"
  | 5 => .boolean
  | 6 => .int
  | 7 => .int
  | 8 => .int
  | _ => .int
theorem cd_Cn : ∀ a, a < 10 → ∀ b, b < 10 → a ≠ b → (cf_Cn a).2.1 ≠ (cf_Cn b).2.1 := by decide +kernel
theorem cp_Cn : ∀ k, k < 10 → parseFieldDescriptor (cf_Cn k).2.2.1 = some (ct_Cn k) := by decide +kernel
def cn_Fr : String := "LoadProfileMeter$Frames"
def cn_Mt : String := "LoadProfileMeter$Meter"
def cf_Mt : u_T := fun k => match k with
  | 0 => ("LoadProfileMeter$Meter", "registers", "[I", true)
  | 1 => ("LoadProfileMeter$Meter", "profile", "LLoadProfileMeter$Profile;", true)
  | _ => ("LoadProfileMeter$Meter", "now", "I", false)
def ct_Mt : Nat → FieldType := fun k => match k with
  | 0 => .array .int
  | 1 => .object "LoadProfileMeter$Profile"
  | _ => .int
theorem cd_Mt : ∀ a, a < 3 → ∀ b, b < 3 → a ≠ b → (cf_Mt a).2.1 ≠ (cf_Mt b).2.1 := by decide +kernel
theorem cp_Mt : ∀ k, k < 3 → parseFieldDescriptor (cf_Mt k).2.2.1 = some (ct_Mt k) := by decide +kernel
def cn_Pf : String := "LoadProfileMeter$Profile"
def cf_Pf : u_T := fun k => match k with
  | 0 => ("LoadProfileMeter$Profile", "columns", "[I", true)
  | 1 => ("LoadProfileMeter$Profile", "ring", "[I", true)
  | 2 => ("LoadProfileMeter$Profile", "columnCount", "I", false)
  | 3 => ("LoadProfileMeter$Profile", "capacity", "I", false)
  | 4 => ("LoadProfileMeter$Profile", "period", "I", false)
  | 5 => ("LoadProfileMeter$Profile", "first", "I", false)
  | _ => ("LoadProfileMeter$Profile", "size", "I", false)
def ct_Pf : Nat → FieldType := fun k => match k with
  | 0 => .array .int
  | 1 => .array .int
  | 2 => .int
  | 3 => .int
  | 4 => .int
  | 5 => .int
  | _ => .int
theorem cd_Pf : ∀ a, a < 7 → ∀ b, b < 7 → a ≠ b → (cf_Pf a).2.1 ≠ (cf_Pf b).2.1 := by decide +kernel
theorem cp_Pf : ∀ k, k < 7 → parseFieldDescriptor (cf_Pf k).2.2.1 = some (ct_Pf k) := by decide +kernel
def cn_Rw : String := "LoadProfileMeter$Row"
def cf_Rw : u_T := fun k => match k with
  | 0 => ("LoadProfileMeter$Row", "bytes", "[I", true)
  | _ => ("LoadProfileMeter$Row", "size", "I", false)
def ct_Rw : Nat → FieldType := fun k => match k with
  | 0 => .array .int
  | _ => .int
theorem cd_Rw : ∀ a, a < 2 → ∀ b, b < 2 → a ≠ b → (cf_Rw a).2.1 ≠ (cf_Rw b).2.1 := by decide +kernel
theorem cp_Rw : ∀ k, k < 2 → parseFieldDescriptor (cf_Rw k).2.2.1 = some (ct_Rw k) := by decide +kernel
def cn_Lp : String := "LoadProfileMeter"
def cf_Lp : u_T := fun k => match k with
  | 0 => ("LoadProfileMeter", "line", "LLoadProfileMeter$Row;", true)
  | 1 => ("LoadProfileMeter", "answered", "LLoadProfileMeter$Row;", true)
  | 2 => ("LoadProfileMeter", "asker", "LLoadProfileMeter$Asker;", true)
  | 3 => ("LoadProfileMeter", "connection", "LLoadProfileMeter$Connection;", true)
  | _ => ("LoadProfileMeter", "meter", "LLoadProfileMeter$Meter;", true)
def ct_Lp : Nat → FieldType := fun k => match k with
  | 0 => .object "LoadProfileMeter$Row"
  | 1 => .object "LoadProfileMeter$Row"
  | 2 => .object "LoadProfileMeter$Asker"
  | 3 => .object "LoadProfileMeter$Connection"
  | _ => .object "LoadProfileMeter$Meter"
theorem cd_Lp : ∀ a, a < 5 → ∀ b, b < 5 → a ≠ b → (cf_Lp a).2.1 ≠ (cf_Lp b).2.1 := by decide +kernel
theorem cp_Lp : ∀ k, k < 5 → parseFieldDescriptor (cf_Lp k).2.2.1 = some (ct_Lp k) := by decide +kernel
def cn_Mo : String := "LoadProfileMeterModel"
def cf_Mo : u_T := fun k => match k with
  | 0 => ("LoadProfileMeterModel", "secret", "I", true)
  | 1 => ("LoadProfileMeterModel", "thrown", "I", false)
  | 2 => ("LoadProfileMeterModel", "time", "I", false)
  | 3 => ("LoadProfileMeterModel", "registers", "[I", true)
  | 4 => ("LoadProfileMeterModel", "capacity", "I", false)
  | 5 => ("LoadProfileMeterModel", "period", "I", false)
  | 6 => ("LoadProfileMeterModel", "columns", "I", false)
  | 7 => ("LoadProfileMeterModel", "column", "[I", true)
  | 8 => ("LoadProfileMeterModel", "entries", "I", false)
  | 9 => ("LoadProfileMeterModel", "times", "[I", true)
  | 10 => ("LoadProfileMeterModel", "values", "[I", true)
  | 11 => ("LoadProfileMeterModel", "connected", "Z", false)
  | 12 => ("LoadProfileMeterModel", "expected", "I", false)
  | 13 => ("LoadProfileMeterModel", "next", "I", false)
  | 14 => ("LoadProfileMeterModel", "association", "I", false)
  | 15 => ("LoadProfileMeterModel", "bytes", "[I", true)
  | 16 => ("LoadProfileMeterModel", "size", "I", false)
  | 17 => ("LoadProfileMeterModel", "sent", "I", false)
  | 18 => ("LoadProfileMeterModel", "line", "[I", true)
  | 19 => ("LoadProfileMeterModel", "count", "I", false)
  | 20 => ("LoadProfileMeterModel", "reply", "[I", true)
  | 21 => ("LoadProfileMeterModel", "told", "I", false)
  | 22 => ("LoadProfileMeterModel", "latest", "[I", true)
  | 23 => ("LoadProfileMeterModel", "latestSize", "I", false)
  | 24 => ("LoadProfileMeterModel", "made", "[I", true)
  | 25 => ("LoadProfileMeterModel", "many", "I", false)
  | 26 => ("LoadProfileMeterModel", "askS", "I", false)
  | _ => ("LoadProfileMeterModel", "askR", "I", false)
def ct_Mo : Nat → FieldType := fun k => match k with
  | 0 => .int
  | 1 => .int
  | 2 => .int
  | 3 => .array .int
  | 4 => .int
  | 5 => .int
  | 6 => .int
  | 7 => .array .int
  | 8 => .int
  | 9 => .array .int
  | 10 => .array .int
  | 11 => .boolean
  | 12 => .int
  | 13 => .int
  | 14 => .int
  | 15 => .array .int
  | 16 => .int
  | 17 => .int
  | 18 => .array .int
  | 19 => .int
  | 20 => .array .int
  | 21 => .int
  | 22 => .array .int
  | 23 => .int
  | 24 => .array .int
  | 25 => .int
  | 26 => .int
  | _ => .int
theorem cd_Mo : ∀ a, a < 28 → ∀ b, b < 28 → a ≠ b → (cf_Mo a).2.1 ≠ (cf_Mo b).2.1 := by decide +kernel
theorem cp_Mo : ∀ k, k < 28 → parseFieldDescriptor (cf_Mo k).2.2.1 = some (ct_Mo k) := by decide +kernel
def cn_La : String := "LoadProfileMeterLaw"
abbrev bs_cl : List vw_C := [(cn_As, cf_As, 2), (cn_Cn, cf_Cn, 10), (cn_Mt, cf_Mt, 3), (cn_Pf, cf_Pf, 7), (cn_Rw, cf_Rw, 2), (cn_Lp, cf_Lp, 5), (cn_Mo, cf_Mo, 28)]
abbrev mb_As_init : ByteArray := prog_2_method_1_code
def my_As_init : MethodName := ⟨cn_As, "<init>", "()V"⟩
abbrev mb_As_hear : ByteArray := prog_2_method_2_code
def my_As_hear : MethodName := ⟨cn_As, "hear", "(LLoadProfileMeter$Row;)V"⟩
abbrev mb_Cn_init : ByteArray := prog_3_method_1_code
def my_Cn_init : MethodName := ⟨cn_Cn, "<init>", "(II)V"⟩
abbrev mb_Cn_state : ByteArray := prog_3_method_2_code
def my_Cn_state : MethodName := ⟨cn_Cn, "state", "()I"⟩
abbrev mb_Cn_receive : ByteArray := prog_3_method_3_code
def my_Cn_receive : MethodName := ⟨cn_Cn, "receive", "(LLoadProfileMeter$Row;LLoadProfileMeter$Row;)V"⟩
abbrev mb_Cn_receiveBare : ByteArray := prog_3_method_4_code
def my_Cn_receiveBare : MethodName := ⟨cn_Cn, "receiveBare", "(ILLoadProfileMeter$Row;)V"⟩
abbrev mb_Cn_connect : ByteArray := prog_3_method_5_code
def my_Cn_connect : MethodName := ⟨cn_Cn, "connect", "()V"⟩
abbrev mb_Cn_isLatestAgain : ByteArray := prog_3_method_6_code
def my_Cn_isLatestAgain : MethodName := ⟨cn_Cn, "isLatestAgain", "(I)Z"⟩
abbrev mb_Cn_answer : ByteArray := prog_3_method_7_code
def my_Cn_answer : MethodName := ⟨cn_Cn, "answer", "(LLoadProfileMeter$Row;)V"⟩
abbrev mb_Cn_begins : ByteArray := prog_3_method_8_code
def my_Cn_begins : MethodName := ⟨cn_Cn, "begins", "(II)Z"⟩
abbrev mb_Cn_needsAssociation : ByteArray := prog_3_method_9_code
def my_Cn_needsAssociation : MethodName := ⟨cn_Cn, "needsAssociation", "()Z"⟩
abbrev mb_Cn_associate : ByteArray := prog_3_method_10_code
def my_Cn_associate : MethodName := ⟨cn_Cn, "associate", "(LLoadProfileMeter$Row;)V"⟩
abbrev mb_Cn_answerGet : ByteArray := prog_3_method_11_code
def my_Cn_answerGet : MethodName := ⟨cn_Cn, "answerGet", "(LLoadProfileMeter$Row;ZII)V"⟩
abbrev mb_Cn_answerNextBlock : ByteArray := prog_3_method_12_code
def my_Cn_answerNextBlock : MethodName := ⟨cn_Cn, "answerNextBlock", "(LLoadProfileMeter$Row;I)V"⟩
abbrev mb_Cn_sendBlock : ByteArray := prog_3_method_13_code
def my_Cn_sendBlock : MethodName := ⟨cn_Cn, "sendBlock", "(LLoadProfileMeter$Row;I)V"⟩
abbrev mb_Cn_addFailure : ByteArray := prog_3_method_14_code
def my_Cn_addFailure : MethodName := ⟨cn_Cn, "addFailure", "(LLoadProfileMeter$Row;I)V"⟩
abbrev mb_Cn_addTwo : ByteArray := prog_3_method_15_code
def my_Cn_addTwo : MethodName := ⟨cn_Cn, "addTwo", "(LLoadProfileMeter$Row;II)V"⟩
abbrev mb_Fr_wrap : ByteArray := prog_4_method_2_code
def my_Fr_wrap : MethodName := ⟨cn_Fr, "wrap", "(LLoadProfileMeter$Row;I)V"⟩
abbrev mb_Fr_isFrame : ByteArray := prog_4_method_3_code
def my_Fr_isFrame : MethodName := ⟨cn_Fr, "isFrame", "(LLoadProfileMeter$Row;)Z"⟩
abbrev mb_Fr_payloadSize : ByteArray := prog_4_method_4_code
def my_Fr_payloadSize : MethodName := ⟨cn_Fr, "payloadSize", "(LLoadProfileMeter$Row;)I"⟩
abbrev mb_Fr_isChecked : ByteArray := prog_4_method_5_code
def my_Fr_isChecked : MethodName := ⟨cn_Fr, "isChecked", "(LLoadProfileMeter$Row;I)Z"⟩
abbrev mb_Fr_check : ByteArray := prog_4_method_6_code
def my_Fr_check : MethodName := ⟨cn_Fr, "check", "(LLoadProfileMeter$Row;I)I"⟩
abbrev mb_Fr_information : ByteArray := prog_4_method_7_code
def my_Fr_information : MethodName := ⟨cn_Fr, "information", "(II)I"⟩
abbrev mb_Fr_isInformation : ByteArray := prog_4_method_8_code
def my_Fr_isInformation : MethodName := ⟨cn_Fr, "isInformation", "(I)Z"⟩
abbrev mb_Fr_after : ByteArray := prog_4_method_9_code
def my_Fr_after : MethodName := ⟨cn_Fr, "after", "(I)I"⟩
abbrev mb_Fr_before : ByteArray := prog_4_method_10_code
def my_Fr_before : MethodName := ⟨cn_Fr, "before", "(I)I"⟩
abbrev mb_Mt_init : ByteArray := prog_5_method_1_code
def my_Mt_init : MethodName := ⟨cn_Mt, "<init>", "(I)V"⟩
abbrev mb_Mt_isRegister : ByteArray := prog_5_method_2_code
def my_Mt_isRegister : MethodName := ⟨cn_Mt, "isRegister", "(I)Z"⟩
abbrev mb_Mt_isObject : ByteArray := prog_5_method_3_code
def my_Mt_isObject : MethodName := ⟨cn_Mt, "isObject", "(I)Z"⟩
abbrev mb_Mt_passSecond : ByteArray := prog_5_method_4_code
def my_Mt_passSecond : MethodName := ⟨cn_Mt, "passSecond", "()V"⟩
abbrev mb_Mt_isAttribute : ByteArray := prog_5_method_5_code
def my_Mt_isAttribute : MethodName := ⟨cn_Mt, "isAttribute", "(II)Z"⟩
abbrev mb_Mt_isSettable : ByteArray := prog_5_method_6_code
def my_Mt_isSettable : MethodName := ⟨cn_Mt, "isSettable", "(II)Z"⟩
abbrev mb_Mt_isMethod : ByteArray := prog_5_method_7_code
def my_Mt_isMethod : MethodName := ⟨cn_Mt, "isMethod", "(II)Z"⟩
abbrev mb_Mt_resultOfGetting : ByteArray := prog_5_method_8_code
def my_Mt_resultOfGetting : MethodName := ⟨cn_Mt, "resultOfGetting", "(IIZ)I"⟩
abbrev mb_Mt_write : ByteArray := prog_5_method_9_code
def my_Mt_write : MethodName := ⟨cn_Mt, "write", "(LLoadProfileMeter$Row;IIII)V"⟩
abbrev mb_Mt_writeRegister : ByteArray := prog_5_method_10_code
def my_Mt_writeRegister : MethodName := ⟨cn_Mt, "writeRegister", "(LLoadProfileMeter$Row;II)V"⟩
abbrev mb_Mt_set : ByteArray := prog_5_method_11_code
def my_Mt_set : MethodName := ⟨cn_Mt, "set", "(LLoadProfileMeter$Row;Z)I"⟩
abbrev mb_Mt_takeNumber : ByteArray := prog_5_method_12_code
def my_Mt_takeNumber : MethodName := ⟨cn_Mt, "takeNumber", "(LLoadProfileMeter$Row;II)Z"⟩
abbrev mb_Mt_takeTime : ByteArray := prog_5_method_13_code
def my_Mt_takeTime : MethodName := ⟨cn_Mt, "takeTime", "(I)Z"⟩
abbrev mb_Mt_act : ByteArray := prog_5_method_14_code
def my_Mt_act : MethodName := ⟨cn_Mt, "act", "(LLoadProfileMeter$Row;Z)I"⟩
abbrev mb_Mt_roundTime : ByteArray := prog_5_method_15_code
def my_Mt_roundTime : MethodName := ⟨cn_Mt, "roundTime", "(I)I"⟩
abbrev mb_Pf_init : ByteArray := prog_6_method_1_code
def my_Pf_init : MethodName := ⟨cn_Pf, "<init>", "(I)V"⟩
abbrev mb_Pf_forget : ByteArray := prog_6_method_2_code
def my_Pf_forget : MethodName := ⟨cn_Pf, "forget", "()V"⟩
abbrev mb_Pf_capture : ByteArray := prog_6_method_3_code
def my_Pf_capture : MethodName := ⟨cn_Pf, "capture", "(I[I)V"⟩
abbrev mb_Pf_at : ByteArray := prog_6_method_4_code
def my_Pf_at : MethodName := ⟨cn_Pf, "at", "(II)I"⟩
abbrev mb_Pf_start : ByteArray := prog_6_method_5_code
def my_Pf_start : MethodName := ⟨cn_Pf, "start", "(I)I"⟩
abbrev mb_Pf_writeEntries : ByteArray := prog_6_method_6_code
def my_Pf_writeEntries : MethodName := ⟨cn_Pf, "writeEntries", "(LLoadProfileMeter$Row;II)V"⟩
abbrev mb_Pf_isWithin : ByteArray := prog_6_method_7_code
def my_Pf_isWithin : MethodName := ⟨cn_Pf, "isWithin", "(III)Z"⟩
abbrev mb_Pf_writeSetting : ByteArray := prog_6_method_8_code
def my_Pf_writeSetting : MethodName := ⟨cn_Pf, "writeSetting", "(LLoadProfileMeter$Row;I)V"⟩
abbrev mb_Pf_writeColumns : ByteArray := prog_6_method_9_code
def my_Pf_writeColumns : MethodName := ⟨cn_Pf, "writeColumns", "(LLoadProfileMeter$Row;)V"⟩
abbrev mb_Pf_takeColumns : ByteArray := prog_6_method_10_code
def my_Pf_takeColumns : MethodName := ⟨cn_Pf, "takeColumns", "(LLoadProfileMeter$Row;)Z"⟩
abbrev mb_Pf_hasColumns : ByteArray := prog_6_method_11_code
def my_Pf_hasColumns : MethodName := ⟨cn_Pf, "hasColumns", "(LLoadProfileMeter$Row;)Z"⟩
abbrev mb_Pf_takePeriod : ByteArray := prog_6_method_12_code
def my_Pf_takePeriod : MethodName := ⟨cn_Pf, "takePeriod", "(I)Z"⟩
abbrev mb_Pf_takeCapacity : ByteArray := prog_6_method_13_code
def my_Pf_takeCapacity : MethodName := ⟨cn_Pf, "takeCapacity", "(I)Z"⟩
abbrev mb_Rw_init : ByteArray := prog_7_method_1_code
def my_Rw_init : MethodName := ⟨cn_Rw, "<init>", "(I)V"⟩
abbrev mb_Rw_isByte : ByteArray := prog_7_method_2_code
def my_Rw_isByte : MethodName := ⟨cn_Rw, "isByte", "(I)Z"⟩
abbrev mb_Rw_drop : ByteArray := prog_7_method_3_code
def my_Rw_drop : MethodName := ⟨cn_Rw, "drop", "()V"⟩
abbrev mb_Rw_add : ByteArray := prog_7_method_4_code
def my_Rw_add : MethodName := ⟨cn_Rw, "add", "(I)V"⟩
abbrev mb_Rw_addInt : ByteArray := prog_7_method_5_code
def my_Rw_addInt : MethodName := ⟨cn_Rw, "addInt", "(I)V"⟩
abbrev mb_Rw_addTagged : ByteArray := prog_7_method_6_code
def my_Rw_addTagged : MethodName := ⟨cn_Rw, "addTagged", "(II)V"⟩
abbrev mb_Rw_addPart : ByteArray := prog_7_method_7_code
def my_Rw_addPart : MethodName := ⟨cn_Rw, "addPart", "(LLoadProfileMeter$Row;II)V"⟩
abbrev mb_Rw_at : ByteArray := prog_7_method_8_code
def my_Rw_at : MethodName := ⟨cn_Rw, "at", "(I)I"⟩
abbrev mb_Rw_intAt : ByteArray := prog_7_method_9_code
def my_Rw_intAt : MethodName := ⟨cn_Rw, "intAt", "(I)I"⟩
abbrev mb_Rw_change : ByteArray := prog_7_method_10_code
def my_Rw_change : MethodName := ⟨cn_Rw, "change", "(II)V"⟩
abbrev mb_Rw_moveBack : ByteArray := prog_7_method_11_code
def my_Rw_moveBack : MethodName := ⟨cn_Rw, "moveBack", "(I)V"⟩
abbrev mb_Lp_init : ByteArray := prog_1_method_1_code
def my_Lp_init : MethodName := ⟨cn_Lp, "<init>", "(II)V"⟩
abbrev mb_Lp_run : ByteArray := prog_1_method_2_code
def my_Lp_run : MethodName := ⟨cn_Lp, "run", "(I)V"⟩
abbrev mb_Lp_count : ByteArray := prog_1_method_3_code
def my_Lp_count : MethodName := ⟨cn_Lp, "count", "(II)I"⟩
abbrev mb_Lp_time : ByteArray := prog_1_method_4_code
def my_Lp_time : MethodName := ⟨cn_Lp, "time", "()I"⟩
abbrev mb_Lp_register : ByteArray := prog_1_method_5_code
def my_Lp_register : MethodName := ⟨cn_Lp, "register", "(I)I"⟩
abbrev mb_Lp_entries : ByteArray := prog_1_method_6_code
def my_Lp_entries : MethodName := ⟨cn_Lp, "entries", "()I"⟩
abbrev mb_Lp_entry : ByteArray := prog_1_method_7_code
def my_Lp_entry : MethodName := ⟨cn_Lp, "entry", "(II)I"⟩
abbrev mb_Lp_link : ByteArray := prog_1_method_8_code
def my_Lp_link : MethodName := ⟨cn_Lp, "link", "()I"⟩
abbrev mb_Lp_put : ByteArray := prog_1_method_9_code
def my_Lp_put : MethodName := ⟨cn_Lp, "put", "(I)I"⟩
abbrev mb_Lp_putInt : ByteArray := prog_1_method_10_code
def my_Lp_putInt : MethodName := ⟨cn_Lp, "putInt", "(I)I"⟩
abbrev mb_Lp_poke : ByteArray := prog_1_method_11_code
def my_Lp_poke : MethodName := ⟨cn_Lp, "poke", "(II)V"⟩
abbrev mb_Lp_frame : ByteArray := prog_1_method_12_code
def my_Lp_frame : MethodName := ⟨cn_Lp, "frame", "(I)I"⟩
abbrev mb_Lp_ask : ByteArray := prog_1_method_13_code
def my_Lp_ask : MethodName := ⟨cn_Lp, "ask", "()I"⟩
abbrev mb_Lp_clear : ByteArray := prog_1_method_14_code
def my_Lp_clear : MethodName := ⟨cn_Lp, "clear", "()V"⟩
abbrev mb_Lp_deliver : ByteArray := prog_1_method_15_code
def my_Lp_deliver : MethodName := ⟨cn_Lp, "deliver", "(Z)I"⟩
abbrev mb_Lp_reply : ByteArray := prog_1_method_16_code
def my_Lp_reply : MethodName := ⟨cn_Lp, "reply", "(I)I"⟩
abbrev mb_Mo_init : ByteArray := prog_9_method_1_code
def my_Mo_init : MethodName := ⟨cn_Mo, "<init>", "(II)V"⟩
abbrev mb_Mo_thrown : ByteArray := prog_9_method_2_code
def my_Mo_thrown : MethodName := ⟨cn_Mo, "thrown", "()I"⟩
abbrev mb_Mo_capture : ByteArray := prog_9_method_3_code
def my_Mo_capture : MethodName := ⟨cn_Mo, "capture", "()V"⟩
abbrev mb_Mo_run : ByteArray := prog_9_method_4_code
def my_Mo_run : MethodName := ⟨cn_Mo, "run", "(I)V"⟩
abbrev mb_Mo_isRegister : ByteArray := prog_9_method_5_code
def my_Mo_isRegister : MethodName := ⟨cn_Mo, "isRegister", "(I)Z"⟩
abbrev mb_Mo_count : ByteArray := prog_9_method_6_code
def my_Mo_count : MethodName := ⟨cn_Mo, "count", "(II)I"⟩
abbrev mb_Mo_time : ByteArray := prog_9_method_7_code
def my_Mo_time : MethodName := ⟨cn_Mo, "time", "()I"⟩
abbrev mb_Mo_register : ByteArray := prog_9_method_8_code
def my_Mo_register : MethodName := ⟨cn_Mo, "register", "(I)I"⟩
abbrev mb_Mo_entries : ByteArray := prog_9_method_9_code
def my_Mo_entries : MethodName := ⟨cn_Mo, "entries", "()I"⟩
abbrev mb_Mo_entry : ByteArray := prog_9_method_10_code
def my_Mo_entry : MethodName := ⟨cn_Mo, "entry", "(II)I"⟩
abbrev mb_Mo_link : ByteArray := prog_9_method_11_code
def my_Mo_link : MethodName := ⟨cn_Mo, "link", "()I"⟩
abbrev mb_Mo_put : ByteArray := prog_9_method_12_code
def my_Mo_put : MethodName := ⟨cn_Mo, "put", "(I)I"⟩
abbrev mb_Mo_putInt : ByteArray := prog_9_method_13_code
def my_Mo_putInt : MethodName := ⟨cn_Mo, "putInt", "(I)I"⟩
abbrev mb_Mo_poke : ByteArray := prog_9_method_14_code
def my_Mo_poke : MethodName := ⟨cn_Mo, "poke", "(II)V"⟩
abbrev mb_Mo_clear : ByteArray := prog_9_method_15_code
def my_Mo_clear : MethodName := ⟨cn_Mo, "clear", "()V"⟩
abbrev mb_Mo_check : ByteArray := prog_9_method_16_code
def my_Mo_check : MethodName := ⟨cn_Mo, "check", "([II)I"⟩
abbrev mb_Mo_wrap : ByteArray := prog_9_method_17_code
def my_Mo_wrap : MethodName := ⟨cn_Mo, "wrap", "([III)I"⟩
abbrev mb_Mo_wrapLine : ByteArray := prog_9_method_18_code
def my_Mo_wrapLine : MethodName := ⟨cn_Mo, "wrapLine", "(I)I"⟩
abbrev mb_Mo_frame : ByteArray := prog_9_method_19_code
def my_Mo_frame : MethodName := ⟨cn_Mo, "frame", "(I)I"⟩
abbrev mb_Mo_ask : ByteArray := prog_9_method_20_code
def my_Mo_ask : MethodName := ⟨cn_Mo, "ask", "()I"⟩
abbrev mb_Mo_payloadOf : ByteArray := prog_9_method_21_code
def my_Mo_payloadOf : MethodName := ⟨cn_Mo, "payloadOf", "()I"⟩
abbrev mb_Mo_replyControl : ByteArray := prog_9_method_22_code
def my_Mo_replyControl : MethodName := ⟨cn_Mo, "replyControl", "(I)V"⟩
abbrev mb_Mo_replyLatest : ByteArray := prog_9_method_23_code
def my_Mo_replyLatest : MethodName := ⟨cn_Mo, "replyLatest", "()V"⟩
abbrev mb_Mo_inform : ByteArray := prog_9_method_24_code
def my_Mo_inform : MethodName := ⟨cn_Mo, "inform", "(III)V"⟩
abbrev mb_Mo_look : ByteArray := prog_9_method_25_code
def my_Mo_look : MethodName := ⟨cn_Mo, "look", "(I)V"⟩
abbrev mb_Mo_deliver : ByteArray := prog_9_method_26_code
def my_Mo_deliver : MethodName := ⟨cn_Mo, "deliver", "(Z)I"⟩
abbrev mb_Mo_hear : ByteArray := prog_9_method_27_code
def my_Mo_hear : MethodName := ⟨cn_Mo, "hear", "(I)V"⟩
abbrev mb_Mo_reply : ByteArray := prog_9_method_28_code
def my_Mo_reply : MethodName := ⟨cn_Mo, "reply", "(I)I"⟩
abbrev mb_Mo_at : ByteArray := prog_9_method_29_code
def my_Mo_at : MethodName := ⟨cn_Mo, "at", "(I)I"⟩
abbrev mb_Mo_intAt : ByteArray := prog_9_method_30_code
def my_Mo_intAt : MethodName := ⟨cn_Mo, "intAt", "(I)I"⟩
abbrev mb_Mo_emit : ByteArray := prog_9_method_31_code
def my_Mo_emit : MethodName := ⟨cn_Mo, "emit", "(I)V"⟩
abbrev mb_Mo_emitInt : ByteArray := prog_9_method_32_code
def my_Mo_emitInt : MethodName := ⟨cn_Mo, "emitInt", "(II)V"⟩
abbrev mb_Mo_say : ByteArray := prog_9_method_33_code
def my_Mo_say : MethodName := ⟨cn_Mo, "say", "(II)V"⟩
abbrev mb_Mo_answer : ByteArray := prog_9_method_34_code
def my_Mo_answer : MethodName := ⟨cn_Mo, "answer", "(I)V"⟩
abbrev mb_Mo_refuse : ByteArray := prog_9_method_35_code
def my_Mo_refuse : MethodName := ⟨cn_Mo, "refuse", "(I)V"⟩
abbrev mb_Mo_block : ByteArray := prog_9_method_36_code
def my_Mo_block : MethodName := ⟨cn_Mo, "block", "(I)V"⟩
abbrev mb_Mo_more : ByteArray := prog_9_method_37_code
def my_Mo_more : MethodName := ⟨cn_Mo, "more", "(I)V"⟩
abbrev mb_Mo_isAttribute : ByteArray := prog_9_method_38_code
def my_Mo_isAttribute : MethodName := ⟨cn_Mo, "isAttribute", "(II)Z"⟩
abbrev mb_Mo_get : ByteArray := prog_9_method_39_code
def my_Mo_get : MethodName := ⟨cn_Mo, "get", "(IIZ)V"⟩
abbrev mb_Mo_emitValue : ByteArray := prog_9_method_40_code
def my_Mo_emitValue : MethodName := ⟨cn_Mo, "emitValue", "(IIZ)V"⟩
abbrev mb_Mo_isIn : ByteArray := prog_9_method_41_code
def my_Mo_isIn : MethodName := ⟨cn_Mo, "isIn", "(IZ)Z"⟩
abbrev mb_Mo_emitEntries : ByteArray := prog_9_method_42_code
def my_Mo_emitEntries : MethodName := ⟨cn_Mo, "emitEntries", "(Z)V"⟩
abbrev mb_Mo_set : ByteArray := prog_9_method_43_code
def my_Mo_set : MethodName := ⟨cn_Mo, "set", "(III)I"⟩
abbrev mb_Mo_setColumns : ByteArray := prog_9_method_44_code
def my_Mo_setColumns : MethodName := ⟨cn_Mo, "setColumns", "(I)I"⟩
abbrev mb_Mo_act : ByteArray := prog_9_method_45_code
def my_Mo_act : MethodName := ⟨cn_Mo, "act", "(III)I"⟩
abbrev mb_La_cell : ByteArray := method_2_code
def my_La_cell : MethodName := ⟨cn_La, "cell", "([II)I"⟩
abbrev mb_La_run : ByteArray := method_3_code
def my_La_run : MethodName := ⟨cn_La, "run", "(LLoadProfileMeter;I)I"⟩
abbrev mb_La_count : ByteArray := method_4_code
def my_La_count : MethodName := ⟨cn_La, "count", "(LLoadProfileMeter;II[J)I"⟩
abbrev mb_La_register : ByteArray := method_5_code
def my_La_register : MethodName := ⟨cn_La, "register", "(LLoadProfileMeter;I[J)I"⟩
abbrev mb_La_entry : ByteArray := method_6_code
def my_La_entry : MethodName := ⟨cn_La, "entry", "(LLoadProfileMeter;II[J)I"⟩
abbrev mb_La_put : ByteArray := method_7_code
def my_La_put : MethodName := ⟨cn_La, "put", "(LLoadProfileMeter;I[J)I"⟩
abbrev mb_La_putInt : ByteArray := method_8_code
def my_La_putInt : MethodName := ⟨cn_La, "putInt", "(LLoadProfileMeter;I[J)I"⟩
abbrev mb_La_poke : ByteArray := method_9_code
def my_La_poke : MethodName := ⟨cn_La, "poke", "(LLoadProfileMeter;II)I"⟩
abbrev mb_La_frame : ByteArray := method_10_code
def my_La_frame : MethodName := ⟨cn_La, "frame", "(LLoadProfileMeter;I[J)I"⟩
abbrev mb_La_ask : ByteArray := method_11_code
def my_La_ask : MethodName := ⟨cn_La, "ask", "(LLoadProfileMeter;[J)I"⟩
abbrev mb_La_reply : ByteArray := method_12_code
def my_La_reply : MethodName := ⟨cn_La, "reply", "(LLoadProfileMeter;I[J)I"⟩
abbrev mb_La_law : ByteArray := code
def my_La_law : MethodName := ⟨cn_La, "law", "([I)Z"⟩
